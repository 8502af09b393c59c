/-! folds over a range, and tables -/
def fo {α : Type} (f : α → Int → α) (a : α) : Nat → α
  | 0 => a
  | n + 1 => f (fo f a n) n
def fI {α : Type} (f : α → Int → α) (a : α) (x : Int) : α := fo f a x.toNat
theorem fI_0 {α : Type} (f : α → Int → α) (a : α) : fI f a 0 = a := rfl
theorem fI_s {α : Type} (f : α → Int → α) (a : α) {x : Int} (h : 0 ≤ x) : fI f a (x + 1) = f (fI f a x) x := by
  unfold fI
  rw [show (x + 1).toNat = x.toNat + 1 by omega]
  show f (fo f a x.toNat) (x.toNat : Int) = _
  rw [show (x.toNat : Int) = x by omega]
theorem fo_c {α : Type} {f g : α → Int → α} {a : α} : ∀ n : Nat, (∀ (i : Int) (b : α), 0 ≤ i → i < n → f b i = g b i) → fo f a n = fo g a n
  | 0, _ => rfl
  | n + 1, h => by
    show f (fo f a n) n = g (fo g a n) n
    rw [fo_c n (fun i b h0 h1 => h i b h0 (by omega)), h n _ (by omega) (by omega)]
theorem fI_c {α : Type} {f g : α → Int → α} {a : α} {n : Int} (h : ∀ (i : Int) (b : α), 0 ≤ i → i < n → f b i = g b i) : fI f a n = fI g a n :=
  fo_c n.toNat (fun i b h0 h1 => h i b h0 (by omega))
theorem fI_neg {α : Type} {f : α → Int → α} {a : α} {n : Int} (h : n ≤ 0) : fI f a n = a := by
  unfold fI
  rw [show n.toNat = 0 by omega]
  rfl
/-- what holds at the start and is kept holds at the end -/
theorem fo_i {α : Type} {f : α → Int → α} {a : α} (I : α → Int → Prop) (h0 : I a 0) : ∀ n : Nat, (∀ (i : Int) (b : α), 0 ≤ i → i < n → I b i → I (f b i) (i + 1)) → I (fo f a n) n
  | 0, _ => h0
  | n + 1, h => by
    have h1 := fo_i I h0 n (fun i b q0 q1 => h i b q0 (by omega))
    have h2 := h n _ (by omega) (by omega) h1
    have e : ((n + 1 : Nat) : Int) = (n : Int) + 1 := by omega
    rw [e]
    exact h2
theorem fI_i {α : Type} {f : α → Int → α} {a : α} {n : Int} (I : α → Int → Prop) (h0 : I a 0) (hn : 0 ≤ n) (h : ∀ (i : Int) (b : α), 0 ≤ i → i < n → I b i → I (f b i) (i + 1)) : I (fI f a n) n := by
  have := fo_i I h0 n.toNat (fun i b q0 q1 => h i b q0 (by omega))
  rw [show ((n.toNat : Nat) : Int) = n by omega] at this
  exact this
/-- a choice that nobody computes -/
noncomputable def cif {α : Type} (p : Prop) (a b : α) : α := @ite α p (Classical.propDecidable p) a b
theorem cif_t {α : Type} {p : Prop} {a b : α} (h : p) : cif p a b = a := @if_pos p (Classical.propDecidable p) h α a b
theorem cif_f {α : Type} {p : Prop} {a b : α} (h : ¬ p) : cif p a b = b := @if_neg p (Classical.propDecidable p) h α a b
/-- all other cells stay -/
def fr_ (ks : List Nat) (μ m : am_M) : Prop := ∀ k, k ∉ ks → m k = μ k
theorem fr_rf {ks : List Nat} {μ : am_M} : fr_ ks μ μ := fun _ _ => rfl
theorem fr_tr {ks : List Nat} {a b c : am_M} (h : fr_ ks a b) (g : fr_ ks b c) : fr_ ks a c := fun k hk => (g k hk).trans (h k hk)
theorem fr_up {ks k2 : List Nat} {a b : am_M} (h : fr_ ks a b) (hs : ∀ k, k ∈ ks → k ∈ k2) : fr_ k2 a b := fun k hk => h k (fun q => hk (hs k q))
theorem fr_st {ks : List Nat} {μ : am_M} {k : Nat} {f : Nat → Int} (h : k ∈ ks) : fr_ ks μ (am_st μ k f) := fun j hj => by
  have : j ≠ k := fun e => hj (e ▸ h)
  simp [am_st, this]
theorem st_s {μ : am_M} {k : Nat} {f : Nat → Int} : am_st μ k f k = f := by simp [am_st]
theorem st_n {μ : am_M} {k j : Nat} {f : Nat → Int} (h : j ≠ k) : am_st μ k f j = μ j := by simp [am_st, h]
theorem up_s {f : Nat → Int} {j : Nat} {x : Int} : am_up f j x j = x := by simp [am_up]
theorem up_n {f : Nat → Int} {j i : Nat} {x : Int} (h : i ≠ j) : am_up f j x i = f i := by simp [am_up, h]
abbrev Tb : Type := Int → Int → Int
/-- a table of rows of w numbers in an array, from o on -/
def tb_ (a : Nat → Int) (o w : Int) : Tb := fun i j => a (o + (i * w + j)).toNat
def cg (μ : am_M) : Tb := fun i j => μ 6 (i * 8 + j).toNat
/-- row p of the table gets v at place j -/
def up_T (g : Tb) (p j v : Int) : Tb := fun i k => if i = p ∧ k = j then v else g i k
def ins_T (g : Tb) (p : Int) (r : Int → Int) : Tb := fun i k => if i < p then g i k else if i = p then r k else g (i - 1) k
def del_T (g : Tb) (p : Int) : Tb := fun i k => if i < p then g i k else g (i + 1) k
/-- two tables of n rows of w numbers are the same -/
def eq_T (n w : Int) (g h : Tb) : Prop := ∀ i j, 0 ≤ i → i < n → 0 ≤ j → j < w → g i j = h i j
theorem eq_T.rf {n w : Int} {g : Tb} : eq_T n w g g := fun _ _ _ _ _ _ => rfl
theorem eq_T.tr {n w : Int} {a b c : Tb} (h : eq_T n w a b) (k : eq_T n w b c) : eq_T n w a c := fun i j h1 h2 h3 h4 => (h i j h1 h2 h3 h4).trans (k i j h1 h2 h3 h4)
theorem eq_T.sy {n w : Int} {a b : Tb} (h : eq_T n w a b) : eq_T n w b a := fun i j h1 h2 h3 h4 => (h i j h1 h2 h3 h4).symm
theorem eq_T.le {n m w : Int} {a b : Tb} (h : eq_T n w a b) (hm : m ≤ n) : eq_T m w a b := fun i j h1 h2 h3 h4 => h i j h1 (by omega) h3 h4
theorem eq_T.up {n w : Int} {a b : Tb} (h : eq_T n w a b) (p j v : Int) : eq_T n w (up_T a p j v) (up_T b p j v) := fun i k h1 h2 h3 h4 => by
  unfold up_T
  split
  · rfl
  · exact h i k h1 h2 h3 h4
theorem cg_put {μ : am_M} {c j v : Int} (hc : 0 ≤ c) (hj : in_ 0 8 j) : eq_T 32 8 (cg (am_st μ 6 (am_up (μ 6) (c * 8 + j).toNat v))) (up_T (cg μ) c j v) := fun i k h1 h2 h3 h4 => by
  unfold cg up_T in_ at *
  rw [st_s]
  by_cases h : i = c ∧ k = j
  · rw [if_pos h, h.1, h.2, up_s]
  · rw [if_neg h, up_n (by omega)]
/-- true and false as numbers -/
noncomputable def bI (p : Prop) : Int := cif p 1 0
theorem bI_t {p : Prop} (h : p) : bI p = 1 := cif_t h
theorem bI_f {p : Prop} (h : ¬ p) : bI p = 0 := cif_f h
theorem bI_ne {p : Prop} (h : bI p ≠ 0) : p := Classical.byContradiction fun q => h (bI_f q)
theorem bI_eq {p : Prop} (h : bI p = 0) : ¬ p := fun q => by
  rw [bI_t q] at h
  omega
theorem bI_01 {p : Prop} : bI p = 0 ∨ bI p = 1 := by
  by_cases h : p
  · exact Or.inr (bI_t h)
  · exact Or.inl (bI_f h)
theorem bI_c {p q : Prop} (h : p ↔ q) : bI p = bI q := by rw [propext h]
theorem bI_if {p : Prop} {_ : Decidable p} : (if p then (1 : Int) else 0) = bI p := by
  by_cases h : p
  · rw [if_pos h, bI_t h]
  · rw [if_neg h, bI_f h]
/-- the first row of n for which p holds, otherwise e -/
def is1_ (p : Int → Prop) (n e r : Int) : Prop := (∃ i, 0 ≤ i ∧ i < n ∧ p i ∧ (∀ j, 0 ≤ j → j < i → ¬ p j) ∧ r = i) ∨ ((∀ j, 0 ≤ j → j < n → ¬ p j) ∧ r = e)
theorem is1_un (p : Int → Prop) (n e : Int) : ∃ r, (is1_ p n e r ∧ ∀ s, is1_ p n e s → s = r) ∨ ¬ ∃ s, is1_ p n e s := by
  by_cases h : ∃ s, is1_ p n e s
  · obtain ⟨s, hs⟩ := h
    refine ⟨s, Or.inl ⟨hs, fun t ht => ?_⟩⟩
    rcases hs with ⟨i, a1, a2, a3, a4, a5⟩ | ⟨a1, a2⟩ <;> rcases ht with ⟨j, b1, b2, b3, b4, b5⟩ | ⟨b1, b2⟩
    · rcases Int.lt_trichotomy i j with q | q | q
      · exact absurd a3 (b4 i a1 q)
      · omega
      · exact absurd b3 (a4 j b1 q)
    · exact absurd a3 (b1 i a1 a2)
    · exact absurd b3 (a1 j b1 b2)
    · omega
  · exact ⟨0, Or.inr h⟩
noncomputable def fst_ (p : Int → Prop) (n e : Int) : Int := Classical.choose (is1_un p n e)
theorem fst_is {p : Int → Prop} {n e r : Int} (h : is1_ p n e r) : fst_ p n e = r := by
  rcases Classical.choose_spec (is1_un p n e) with ⟨-, h2⟩ | h2
  · exact (h2 r h).symm
  · exact absurd ⟨r, h⟩ h2
theorem is1_c {p q : Int → Prop} {n e r : Int} (h : ∀ i, 0 ≤ i → i < n → (p i ↔ q i)) : is1_ p n e r → is1_ q n e r := by
  rintro (⟨i, a1, a2, a3, a4, a5⟩ | ⟨a1, a2⟩)
  · exact Or.inl ⟨i, a1, a2, (h i a1 a2).mp a3, fun j h1 h2 q => a4 j h1 h2 ((h j h1 (by omega)).mpr q), a5⟩
  · exact Or.inr ⟨fun j h1 h2 q => a1 j h1 h2 ((h j h1 h2).mpr q), a2⟩
theorem is1_ex (p : Int → Prop) (e : Int) : ∀ n : Nat, ∃ r, is1_ p n e r
  | 0 => ⟨e, Or.inr ⟨fun j h1 h2 => by omega, rfl⟩⟩
  | n + 1 => by
    obtain ⟨r, hr⟩ := is1_ex p e n
    rcases hr with ⟨i, a1, a2, a3, a4, a5⟩ | ⟨a1, a2⟩
    · exact ⟨r, Or.inl ⟨i, a1, by omega, a3, a4, a5⟩⟩
    · by_cases h : p n
      · exact ⟨n, Or.inl ⟨n, by omega, by omega, h, a1, rfl⟩⟩
      · refine ⟨e, Or.inr ⟨fun j h1 h2 => ?_, rfl⟩⟩
        by_cases q : j = n
        · rw [q]; exact h
        · exact a1 j h1 (by omega)
theorem fst_ok (p : Int → Prop) {n e : Int} (hn : 0 ≤ n) : is1_ p n e (fst_ p n e) := by
  obtain ⟨r, hr⟩ := is1_ex p e n.toNat
  rw [show ((n.toNat : Nat) : Int) = n by omega] at hr
  rw [fst_is hr]
  exact hr
theorem fst_c {p q : Int → Prop} {n e : Int} (hn : 0 ≤ n) (h : ∀ i, 0 ≤ i → i < n → (p i ↔ q i)) : fst_ p n e = fst_ q n e :=
  (fst_is (is1_c (fun i h0 h1 => (h i h0 h1).symm) (fst_ok q hn)))
/-- a search in its course: none so far -/
def no_ (p : Int → Prop) (x : Int) : Prop := ∀ j, 0 ≤ j → j < x → ¬ p j
theorem no_0 {p : Int → Prop} : no_ p 0 := fun j h1 h2 => by omega
theorem no_s {p : Int → Prop} {x : Int} (h : no_ p x) (hx : ¬ p x) : no_ p (x + 1) := fun j h1 h2 => by
  by_cases q : j = x
  · rw [q]; exact hx
  · exact h j h1 (by omega)
theorem no_t {p : Int → Prop} {n e x : Int} (h : no_ p x) (h0 : 0 ≤ x) (h1 : x < n) (hx : p x) : fst_ p n e = x := fst_is (Or.inl ⟨x, h0, h1, hx, h, rfl⟩)
theorem no_f {p : Int → Prop} {n e : Int} (h : no_ p n) : fst_ p n e = e := fst_is (Or.inr ⟨h, rfl⟩)

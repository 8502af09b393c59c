/-! commands on clips as lists -/
def gt_ (L : List Rw) (c : Int) : Rw := L.getD c.toNat (fun _ => 0)
def lsR (r s : Rw) : Bool := decide (s 0 < r 0 ∨ s 0 = r 0 ∧ s 1 < r 1)
def insR (r : Rw) (L : List Rw) : List Rw := L.takeWhile (lsR r) ++ r :: L.dropWhile (lsR r)
def insN (r : Rw) (L : List Rw) : Int := (L.takeWhile (lsR r)).length
def freR (L : List Rw) (r : Rw) : Prop := ∀ s ∈ L, ¬ (s 0 = r 0 ∧ r 1 < s 1 + s 4 ∧ s 1 < r 1 + r 4)
def mvR (r : Rw) (t s : Int) : Rw := fun k => if k = 0 then t else if k = 1 then s else r k
abbrev Rl : Type := Int × List Rw
noncomputable def l_set (L : List Rw) (c w v : Int) : Rl :=
  cif (¬ (0 ≤ c ∧ c < L.length)) (-1, L) (cif (w < 0 ∨ 2 < w ∨ v < 0 ∨ (w = 0 ∧ 200 < v) ∨ (w = 1 ∧ gt_ L c 4 - gt_ L c 7 < v) ∨ (w = 2 ∧ gt_ L c 4 - gt_ L c 6 < v)) (-2, L) (gt_ L c (5 + w), L.set c.toNat (fun k => if k = 5 + w then v else gt_ L c k)))
noncomputable def l_mov (L : List Rw) (c t s : Int) : Rl :=
  cif (¬ ((0 ≤ c ∧ c < L.length) ∧ 0 ≤ t ∧ t < 4)) (-1, L) (cif (s < 0 ∨ 600 - gt_ L c 4 < s) (-2, L) (cif (¬ freR (L.eraseIdx c.toNat) (mvR (gt_ L c) t s)) (-4, L) (insN (mvR (gt_ L c) t s) (L.eraseIdx c.toNat), insR (mvR (gt_ L c) t s) (L.eraseIdx c.toNat))))
noncomputable def l_dup (L : List Rw) (c t s : Int) : Rl :=
  cif (¬ ((0 ≤ c ∧ c < L.length) ∧ 0 ≤ t ∧ t < 4)) (-1, L) (cif (s < 0 ∨ 600 - gt_ L c 4 < s) (-2, L) (cif (24 ≤ L.length) (-3, L) (cif (¬ freR L (mvR (gt_ L c) t s)) (-4, L) (insN (mvR (gt_ L c) t s) L, insR (mvR (gt_ L c) t s) L))))
noncomputable def l_div (L : List Rw) (c a : Int) : Rl :=
  cif (¬ (0 ≤ c ∧ c < L.length)) (-1, L) (cif (a < 1 ∨ gt_ L c 4 ≤ a) (-2, L) (cif (24 ≤ L.length) (-3, L) (c + 1, L.take c.toNat ++ spl1 (gt_ L c) a :: spl2 (gt_ L c) a :: L.drop (c.toNat + 1))))
noncomputable def l_rem (L : List Rw) (c : Int) : Rl := cif (¬ (0 ≤ c ∧ c < L.length)) (-1, L) ((L.length : Int) - 1, L.eraseIdx c.toNat)
noncomputable def l_add (M : Int) (S : Tb) (L : List Rw) (t s so of ln : Int) : Rl :=
  cif (¬ ((0 ≤ t ∧ t < 4) ∧ 0 ≤ so ∧ so < M)) (-1, L) (cif (ln < 1 ∨ S so 1 < ln ∨ of < 0 ∨ S so 1 - ln < of ∨ s < 0 ∨ 600 - ln < s) (-2, L) (cif (24 ≤ L.length) (-3, L) (cif (¬ freR L (row8 t s so of ln)) (-4, L) (insN (row8 t s so of ln) L, insR (row8 t s so of ln) L))))
/-- a row with another beginning and length, its fades fitted -/
def trR (r : Rw) (sd fr : Int) : Rw := fun k =>
  if k = 1 then r 1 + (if sd = 0 then fr else 0) else if k = 3 then r 3 + (if sd = 0 then fr else 0) else if k = 4 then r 4 - fr
  else if k = 6 then (if r 4 - fr < r 6 then r 4 - fr else r 6) else if k = 7 then (if r 4 - fr - (if r 4 - fr < r 6 then r 4 - fr else r 6) < r 7 then r 4 - fr - (if r 4 - fr < r 6 then r 4 - fr else r 6) else r 7) else r k
noncomputable def l_trm (S : Tb) (L : List Rw) (c sd fr : Int) : Rl :=
  cif (¬ (0 ≤ c ∧ c < L.length)) (-1, L) (cif (sd < 0 ∨ 1 < sd ∨ gt_ L c 4 - 1 < fr ∨ fr < gt_ L c 4 - 200) (-2, L)
    (cif (trR (gt_ L c) sd fr 1 < 0 ∨ 600 - (gt_ L c 4 - fr) < trR (gt_ L c) sd fr 1 ∨ trR (gt_ L c) sd fr 3 < 0 ∨ S (gt_ L c 2) 1 - (gt_ L c 4 - fr) < trR (gt_ L c) sd fr 3) (-2, L)
      (cif (¬ freR (L.eraseIdx c.toNat) (trR (gt_ L c) sd fr)) (-4, L) (gt_ L c 4 - fr, L.set c.toNat (trR (gt_ L c) sd fr)))))
/-! lists -/
theorem gt_at {A B : List Rw} {r : Rw} {c : Int} (hc : c = A.length) : gt_ (A ++ r :: B) c = r := by
  subst hc
  unfold gt_
  rw [List.getD_eq_getElem?_getD]
  simp
theorem er_at {A B : List Rw} {r : Rw} {c : Int} (hc : c = A.length) : (A ++ r :: B).eraseIdx c.toNat = A ++ B := by
  subst hc
  rw [List.eraseIdx_append_of_length_le (by simp)]
  simp
theorem set_at {A B : List Rw} {r s : Rw} {c : Int} (hc : c = A.length) : (A ++ r :: B).set c.toNat s = A ++ s :: B := by
  subst hc
  simp
theorem td_at {A B : List Rw} {r : Rw} {c : Int} (hc : c = A.length) : (A ++ r :: B).take c.toNat = A ∧ (A ++ r :: B).drop (c.toNat + 1) = B := by
  subst hc
  simp
theorem tw_app {p : Rw → Bool} {A B : List Rw} (ha : ∀ a ∈ A, p a = true) (hb : ∀ b ∈ B, p b = false) : (A ++ B).takeWhile p = A ∧ (A ++ B).dropWhile p = B := by
  induction A with
  | nil =>
    cases B with
    | nil => exact ⟨rfl, rfl⟩
    | cons b B =>
      have := hb b List.mem_cons_self
      simp [this]
  | cons a A ih =>
    have h1 := ha a List.mem_cons_self
    have := ih (fun x hx => ha x (List.mem_cons_of_mem _ hx))
    simp [h1, this.1, this.2]
theorem ins_at {r : Rw} {A B : List Rw} (ha : ∀ a ∈ A, lsR r a = true) (hb : ∀ b ∈ B, lsR r b = false) : insR r (A ++ B) = A ++ r :: B ∧ insN r (A ++ B) = A.length := by
  have := tw_app ha hb
  unfold insR insN
  rw [this.1, this.2]
  exact ⟨rfl, rfl⟩
/-- what comes ahead of a row comes first -/
theorem ls_split {L : List Rw} (r : Rw) (hs : srt_ L) (hl : ∀ x ∈ L, 1 ≤ x 4) : ∃ A B, L = A ++ B ∧ (∀ a ∈ A, lsR r a = true) ∧ ∀ b ∈ B, lsR r b = false := by
  induction L with
  | nil => exact ⟨[], [], rfl, by simp, by simp⟩
  | cons x L ih =>
    have hs2 := List.pairwise_cons.mp hs
    have hx := hl x List.mem_cons_self
    by_cases h : lsR r x = true
    · obtain ⟨A, B, e, ha, hb⟩ := ih hs2.2 (fun y hy => hl y (List.mem_cons_of_mem _ hy))
      refine ⟨x :: A, B, by rw [e]; rfl, fun a q => ?_, hb⟩
      rcases List.mem_cons.mp q with q | q
      · rw [q]; exact h
      · exact ha a q
    · refine ⟨[], x :: L, rfl, by simp, fun b q => ?_⟩
      rcases List.mem_cons.mp q with q | q
      · rw [q]; simpa using h
      · have := hs2.1 b q
        unfold bfr_ at this
        unfold lsR at h ⊢
        simp only [decide_eq_true_eq, decide_eq_false_iff_not] at h ⊢
        omega
theorem pos_at {n : Int} {g : Tb} {A B : List Rw} {r : Rw} (h : tl_ n g (A ++ B)) (ha : ∀ a ∈ A, lsR r a = true) (hb : ∀ b ∈ B, lsR r b = false) : pos_ g n (r 0) (r 1) = A.length := by
  have hn := h.1
  rw [List.length_append] at hn
  have key := fI_i (f := fun a i => a + if ls_ g (r 0) (r 1) i = true then (fun _ => (1 : Int)) i else 0) (a := 0) (n := n) (fun a i => a = if i ≤ A.length then i else (A.length : Int)) (by rw [if_pos (by omega)]) (by omega) (fun i b i0 i1 e => by
    have hl : i.toNat < (A ++ B).length := by rw [List.length_append]; omega
    have e1 := h.2 i.toNat _ (List.getElem?_eq_getElem hl)
    rw [show ((i.toNat : Nat) : Int) = i by omega] at e1
    have e2 : ls_ g (r 0) (r 1) i = lsR r ((A ++ B)[i.toNat]) := by
      unfold ls_ lsR
      rw [e1 0 (by omega) (by omega), e1 1 (by omega) (by omega)]
    simp only [e2]
    by_cases q : i < A.length
    · rw [List.getElem_append_left (by omega), ha _ (List.getElem_mem _), if_pos rfl, e, if_pos (by omega), if_pos (by omega)]
    · rw [List.getElem_append_right (by omega), hb _ (List.getElem_mem _), e]
      simp only [Bool.false_eq_true, if_false]
      (repeat' split) <;> omega)
  unfold pos_ cnt_
  rw [key]
  split <;> omega
theorem fre_L {n : Int} {g : Tb} {L : List Rw} {r : Rw} (h : tl_ n g L) : fre_ g n (r 0) (r 1) (r 4) (-1) ↔ freR L r := by
  unfold fre_ freR ov_p en_
  constructor
  · intro f s hs
    obtain ⟨i, hi⟩ := List.getElem?_of_mem hs
    have hl := (List.getElem?_eq_some_iff.mp hi).1
    have := f i (by omega) (by rw [h.1]; omega)
    have e := fun k k0 k1 => h.2 i s hi k k0 k1
    rw [e 0 (by omega) (by omega), e 1 (by omega) (by omega), e 4 (by omega) (by omega)] at this
    intro q
    exact this ⟨by omega, q⟩
  · rintro f i i0 i1 ⟨-, q⟩
    have hl : i.toNat < L.length := by have := h.1; omega
    have e := h.2 i.toNat _ (List.getElem?_eq_getElem hl)
    rw [show ((i.toNat : Nat) : Int) = i by omega] at e
    rw [e 0 (by omega) (by omega), e 1 (by omega) (by omega), e 4 (by omega) (by omega)] at q
    exact f _ (List.getElem_mem hl) q
theorem fre_Lx {n : Int} {g : Tb} {A B : List Rw} {x r : Rw} (h : tl_ n g (A ++ x :: B)) {c : Int} (hc : c = A.length) : fre_ g n (r 0) (r 1) (r 4) c ↔ freR (A ++ B) r := by
  have hn := h.1
  rw [List.length_append, List.length_cons] at hn
  unfold fre_ freR ov_p en_
  constructor
  · intro f s hs
    have key : ∃ i : Nat, (A ++ x :: B)[i]? = some s ∧ (i : Int) ≠ c ∧ (i : Int) < n := by
      rcases List.mem_append.mp hs with q | q
      · obtain ⟨i, hi⟩ := List.getElem?_of_mem q
        have hl := (List.getElem?_eq_some_iff.mp hi).1
        exact ⟨i, by rw [List.getElem?_append_left hl]; exact hi, by omega, by omega⟩
      · obtain ⟨i, hi⟩ := List.getElem?_of_mem q
        have hl := (List.getElem?_eq_some_iff.mp hi).1
        refine ⟨A.length + 1 + i, ?_, by omega, by omega⟩
        rw [List.getElem?_append_right (by omega), show A.length + 1 + i - A.length = i + 1 by omega, List.getElem?_cons_succ]
        exact hi
    obtain ⟨i, hi, ic, il⟩ := key
    have := f i (by omega) il
    have e := fun k k0 k1 => h.2 i s hi k k0 k1
    rw [e 0 (by omega) (by omega), e 1 (by omega) (by omega), e 4 (by omega) (by omega)] at this
    intro q
    exact this ⟨ic, q⟩
  · rintro f i i0 i1 ⟨ic, q⟩
    have hl : i.toNat < (A ++ x :: B).length := by rw [List.length_append, List.length_cons]; omega
    obtain ⟨s, hs⟩ : ∃ s, (A ++ x :: B)[i.toNat]? = some s := ⟨_, List.getElem?_eq_getElem hl⟩
    have e := h.2 i.toNat s hs
    rw [show ((i.toNat : Nat) : Int) = i by omega] at e
    rw [e 0 (by omega) (by omega), e 1 (by omega) (by omega), e 4 (by omega) (by omega)] at q
    refine f s ?_ q
    by_cases c1 : i.toNat < A.length
    · rw [List.getElem?_append_left c1] at hs
      exact List.mem_append_left _ (List.mem_of_getElem? hs)
    · rw [List.getElem?_append_right (by omega), show i.toNat - A.length = (i.toNat - A.length - 1) + 1 by omega, List.getElem?_cons_succ] at hs
      exact List.mem_append_right _ (List.mem_of_getElem? hs)
theorem tl_gt {n : Int} {g : Tb} {L : List Rw} (h : tl_ n g L) {c k : Int} (h0 : 0 ≤ c) (h1 : c < L.length) (k0 : 0 ≤ k) (k1 : k < 8) : g c k = gt_ L c k := by
  obtain ⟨A, r, B, e, hc⟩ := split_last (L := L) h0 h1
  rw [e, gt_at hc]
  rw [e] at h
  exact tl_at h hc k0 k1
theorem tl_insA {n : Int} {g : Tb} {A B : List Rw} {row r : Rw} (h : tl_ n g (A ++ B)) {i : Int} (hi : i = A.length) (hr : ∀ k, 0 ≤ k → k < 8 → row k = r k) : tl_ (n + 1) (ins_T g i row) (A ++ r :: B) := by
  have := tl_ins (r := row) h hi
  refine ⟨by rw [this.1]; simp, fun j s hj k k0 k1 => ?_⟩
  by_cases q : j = A.length
  · subst q
    simp at hj
    subst hj
    rw [this.2 A.length row (by simp) k k0 k1, hr k k0 k1]
  · refine this.2 j s ?_ k k0 k1
    by_cases q2 : j < A.length
    · rw [List.getElem?_append_left q2] at hj ⊢
      exact hj
    · rw [List.getElem?_append_right (by omega), show j - A.length = (j - A.length - 1) + 1 by omega, List.getElem?_cons_succ] at hj ⊢
      exact hj

/-! THE SLIM MACHINE: values are whole numbers, references are the numbers of cells in the order in which they were made. -/
abbrev am_V : Type := Int ⊕ (Nat ⊕ Nat)
abbrev vI (z : Int) : am_V := .inl z
abbrev vR (k : Nat) : am_V := .inr (.inl k)
abbrev vS (i : Nat) : am_V := .inr (.inr (i + 2))
abbrev vN : am_V := .inr (.inr 1)
abbrev vU : am_V := .inr (.inr 0)
abbrev am_M : Type := Nat → Nat → Int
/-- a cell's kind (0 to 10: an object, 11 ints, 12 booleans, 13 projects, 14 rows of ints), its length, what it refers to: 0 null, k + 1 the cell k -/
abbrev am_C : Type := Nat × Nat × (Nat → Nat)
abbrev am_G : Type := (Nat × Nat × (Nat → Nat)) × va_G × (Nat → ClassId)
abbrev am_T : Type := MethodName × ByteArray × Nat × Option FieldType
abbrev am_P : Type := Option am_V → Nat → (Nat → am_C) → am_M → Prop
def am_cv (G : am_G) : am_V → Value
  | .inl z => .int (Int32.ofInt z)
  | .inr (.inl k) => .ref (G.1.1 + k)
  | .inr (.inr 0) => .null
  | .inr (.inr 1) => .null
  | .inr (.inr (i + 2)) => .ref (G.1.2.2 i)
def am_in (z : Int) : Prop := -2147483648 ≤ z ∧ z ≤ 2147483647
def am_w (z : Int) : Int := (z + 2147483648) % 4294967296 - 2147483648
def am_ok : am_V → Prop
  | .inl z => am_in z
  | _ => True
def am_oks (l : List am_V) : Prop := ∀ v ∈ l, am_ok v
def am_okm (μ : am_M) : Prop := ∀ k j, am_in (μ k j)
theorem am_w_in (z : Int) : am_in (am_w z) := by
  unfold am_in am_w
  omega
theorem am_w_id {z : Int} (h : am_in z) : am_w z = z := by
  unfold am_in at h
  unfold am_w
  omega
theorem am_oi {z : Int} (h : am_in z) : (Int32.ofInt z).toInt = z := by
  unfold am_in at h
  exact Int32.toInt_ofInt_of_le (by omega) (by omega)
theorem am_wi (z : Int) : Int32.ofInt (am_w z) = Int32.ofInt z := by
  apply Int32.toInt_inj.mp
  rw [am_oi (am_w_in z), Int32.toInt_ofInt, Int.bmod_def]
  unfold am_w
  simp only [Int32.size]
  omega
theorem am_ti (x : Int32) : am_in x.toInt := by
  have h1 := x.le_toInt
  have h2 := x.toInt_lt
  unfold am_in
  omega
theorem am_eqI {x y : Int} (hx : am_in x) (hy : am_in y) : Int32.ofInt x = Int32.ofInt y ↔ x = y := by
  rw [← Int32.toInt_inj, am_oi hx, am_oi hy]
theorem am_ltI {x y : Int} (hx : am_in x) (hy : am_in y) : Int32.ofInt x < Int32.ofInt y ↔ x < y := by
  rw [Int32.lt_iff_toInt_lt, am_oi hx, am_oi hy]
theorem am_leI {x y : Int} (hx : am_in x) (hy : am_in y) : Int32.ofInt x ≤ Int32.ofInt y ↔ x ≤ y := by
  rw [Int32.le_iff_toInt_le, am_oi hx, am_oi hy]
theorem am_0 : (0 : Int32) = Int32.ofInt 0 := by decide
theorem am_in0 : am_in 0 := by unfold am_in; omega
theorem am_cl {z : Int} (h : am_in z) : (Int32.ofInt z).toNatClampNeg = z.toNat := by
  show (Int32.ofInt z).toInt.toNat = _
  rw [am_oi h]
theorem am_vp {z : Int} {n : Nat} (h : am_in z) (h0 : 0 ≤ z) (h1 : z < n) : vp_in (Int32.ofInt z) n := by
  rw [vp_in_iff, am_oi h]
  exact ⟨h0, h1⟩
/-! cells -/
def am_nf (k : Nat) : Nat := [3, 2, 6, 10, 6, 7, 5, 6, 2, 12, 33].getD k 0
def am_ft : Nat → Nat → FieldType
  | 0 => tyX0 | 1 => tyX1 | 2 => tyX2 | 3 => tyX3 | 4 => tyX4 | 5 => tyX5 | 6 => tyX6 | 7 => tyX7 | 8 => tyX8 | 9 => tyX9 | _ => tyX10
def am_tt : Nat → u_T
  | 0 => TX0 | 1 => TX1 | 2 => TX2 | 3 => TX3 | 4 => TX4 | 5 => TX5 | 6 => TX6 | 7 => TX7 | 8 => TX8 | 9 => TX9 | _ => TX10
def am_rn : Nat → String
  | 0 => RX0 | 1 => RX1 | 2 => RX2 | 3 => RX3 | 4 => RX4 | 5 => RX5 | 6 => RX6 | 7 => RX7 | 8 => RX8 | 9 => RX9 | _ => RX10
def am_isI : FieldType → Bool
  | .int => true
  | .boolean => true
  | _ => false
theorem am_cl_at (k : Nat) (h : k < 11) : vwCl[k]? = some (am_rn k, am_tt k, am_nf k) := by
  match k, h with
  | 0, _ => rfl
  | 1, _ => rfl
  | 2, _ => rfl
  | 3, _ => rfl
  | 4, _ => rfl
  | 5, _ => rfl
  | 6, _ => rfl
  | 7, _ => rfl
  | 8, _ => rfl
  | 9, _ => rfl
  | 10, _ => rfl
theorem am_ty_ok (k : Nat) (h : k < 11) : ∀ j, j < am_nf k → parseFieldDescriptor (am_tt k j).2.2.1 = some (am_ft k j) := by
  match k, h with
  | 0, _ => exact tyX0_ok
  | 1, _ => exact tyX1_ok
  | 2, _ => exact tyX2_ok
  | 3, _ => exact tyX3_ok
  | 4, _ => exact tyX4_ok
  | 5, _ => exact tyX5_ok
  | 6, _ => exact tyX6_ok
  | 7, _ => exact tyX7_ok
  | 8, _ => exact tyX8_ok
  | 9, _ => exact tyX9_ok
  | 10, _ => exact tyX10_ok
theorem am_nm_ok (k : Nat) (h : k < 11) : ∀ a, a < am_nf k → ∀ b, b < am_nf k → a ≠ b → (am_tt k a).2.1 ≠ (am_tt k b).2.1 := by
  match k, h with
  | 0, _ => exact nmX0
  | 1, _ => exact nmX1
  | 2, _ => exact nmX2
  | 3, _ => exact nmX3
  | 4, _ => exact nmX4
  | 5, _ => exact nmX5
  | 6, _ => exact nmX6
  | 7, _ => exact nmX7
  | 8, _ => exact nmX8
  | 9, _ => exact nmX9
  | 10, _ => exact nmX10
def am_rf (G : am_G) (r : Nat) : Option Nat := if r = 0 then none else some (G.1.1 + (r - 1))
def am_fv (G : am_G) (s : am_C) (m : Nat → Int) (j : Nat) : Value :=
  if am_isI (am_ft s.1 j) = true then .int (Int32.ofInt (m j)) else va_rf (am_rf G (s.2.2 j))
def am_e (G : am_G) (s : am_C) (m : Nat → Int) : va_E :=
  if s.1 < 11 then .inr (s.1, (List.range (am_nf s.1)).map (am_fv G s m))
  else if s.1 < 13 then .inl (G.2.2 s.1, (s.2.1, .inl (fun j => Int32.ofInt (m j))))
  else .inl (G.2.2 s.1, (s.2.1, .inr (.inr (.inr (.inr (fun j => am_rf G (s.2.2 j)))))))
def am_wl (G : am_G) (n : Nat) (S : Nat → am_C) (μ : am_M) : va_W := (List.range n).map (fun k => (G.1.1 + k, am_e G (S k) (μ k)))
def am_A (G : am_G) : Nat → Prop := fun q => G.1.1 ≤ q ∧ q < G.1.1 + G.1.2.1
def am_Rep (G : am_G) (n : Nat) (S : Nat → am_C) (μ : am_M) (H : Heap) : Prop := va_P G.2.1 vwCl (am_wl G n S μ) H ∧ n ≤ G.1.2.1
def am_tys (G : am_G) : List (ClassId × FieldType) := [(G.2.2 11, .int), (G.2.2 12, .boolean), (G.2.2 13, .object RX4), (G.2.2 14, .array .int)]
theorem am_wl_at {G : am_G} {n : Nat} {S : Nat → am_C} {μ : am_M} {k : Nat} (h : k < n) : (am_wl G n S μ)[k]? = some (G.1.1 + k, am_e G (S k) (μ k)) := by
  simp [am_wl, h]
theorem am_wl_D {G : am_G} {n : Nat} {S : Nat → am_C} {μ : am_M} (h : n ≤ G.1.2.1) : va_D (am_A G) (am_wl G n S μ) := by
  refine ⟨fun i j p q hi hj hpq => ?_, fun k q hk => ?_⟩
  · by_cases h1 : i < n
    · by_cases h2 : j < n
      · rw [am_wl_at h1] at hi
        rw [am_wl_at h2] at hj
        cases hi; cases hj
        have : G.1.1 + i = G.1.1 + j := hpq
        omega
      · rw [List.getElem?_eq_none (by simp [am_wl]; omega)] at hj
        cases hj
    · rw [List.getElem?_eq_none (by simp [am_wl]; omega)] at hi
      cases hi
  · by_cases h1 : k < n
    · rw [am_wl_at h1] at hk
      cases hk
      exact ⟨Nat.le_add_right _ _, by show G.1.1 + k < G.1.1 + G.1.2.1; omega⟩
    · rw [List.getElem?_eq_none (by simp [am_wl]; omega)] at hk
      cases hk
def am_st (μ : am_M) (k : Nat) (f : Nat → Int) : am_M := fun k' => if k' = k then f else μ k'
def am_up (f : Nat → Int) (j : Nat) (x : Int) : Nat → Int := fun j' => if j' = j then x else f j'
def am_sS (S : Nat → am_C) (k : Nat) (c : am_C) : Nat → am_C := fun k' => if k' = k then c else S k'
theorem am_wl_set {G : am_G} {n : Nat} {S : Nat → am_C} {μ : am_M} {k : Nat} (h : k < n) {f : Nat → Int} {y : va_E} (hy : y = am_e G (S k) f) : (am_wl G n S μ).set k (G.1.1 + k, y) = am_wl G n S (am_st μ k f) := by
  subst hy
  apply List.ext_getElem?
  intro i
  rw [List.getElem?_set]
  by_cases hi : i < n
  · rw [am_wl_at hi, am_wl_at hi]
    by_cases hk : k = i
    · subst hk
      rw [if_pos rfl, if_pos (by simpa [am_wl] using h)]
      simp [am_st]
    · rw [if_neg hk]
      simp [am_st, Ne.symm hk]
  · have e1 : (am_wl G n S (am_st μ k f))[i]? = none := List.getElem?_eq_none (by simp [am_wl]; omega)
    have e2 : (am_wl G n S μ)[i]? = none := List.getElem?_eq_none (by simp [am_wl]; omega)
    rw [e1, e2, if_neg (by omega)]
theorem am_wl_setS {G : am_G} {n : Nat} {S : Nat → am_C} {μ : am_M} {k : Nat} (h : k < n) {c : am_C} {y : va_E} (hy : y = am_e G c (μ k)) : (am_wl G n S μ).set k (G.1.1 + k, y) = am_wl G n (am_sS S k c) μ := by
  subst hy
  apply List.ext_getElem?
  intro i
  rw [List.getElem?_set]
  by_cases hi : i < n
  · rw [am_wl_at hi, am_wl_at hi]
    by_cases hk : k = i
    · subst hk
      rw [if_pos rfl, if_pos (by simpa [am_wl] using h)]
      simp [am_sS]
    · rw [if_neg hk]
      simp [am_sS, Ne.symm hk]
  · have e1 : (am_wl G n (am_sS S k c) μ)[i]? = none := List.getElem?_eq_none (by simp [am_wl]; omega)
    have e2 : (am_wl G n S μ)[i]? = none := List.getElem?_eq_none (by simp [am_wl]; omega)
    rw [e1, e2, if_neg (by omega)]
theorem am_wl_push {G : am_G} {n : Nat} {S : Nat → am_C} {μ : am_M} {c : am_C} {f : Nat → Int} {y : va_E} (hy : y = am_e G c f) : am_wl G n S μ ++ [(G.1.1 + n, y)] = am_wl G (n + 1) (am_sS S n c) (am_st μ n f) := by
  subst hy
  apply List.ext_getElem?
  intro i
  by_cases hi : i < n
  · rw [List.getElem?_append_left (by simpa [am_wl] using hi), am_wl_at hi, am_wl_at (by omega)]
    have : i ≠ n := by omega
    simp [am_st, am_sS, this]
  · rw [List.getElem?_append_right (by simp [am_wl]; omega)]
    have hl : (am_wl G n S μ).length = n := by simp [am_wl]
    rw [hl]
    by_cases h2 : i = n
    · subst h2
      rw [am_wl_at (by omega)]
      simp [am_st, am_sS]
    · rw [List.getElem?_eq_none (by simp; omega), List.getElem?_eq_none (by simp [am_wl]; omega)]
theorem am_okm_st {μ : am_M} {k : Nat} {f : Nat → Int} (h : am_okm μ) (hf : ∀ j, am_in (f j)) : am_okm (am_st μ k f) := by
  intro k' j
  by_cases hk : k' = k
  · simp [am_st, hk, hf]
  · simp [am_st, hk, h k' j]
theorem am_ok_up {f : Nat → Int} {i : Nat} {x : Int} (h : ∀ j, am_in (f j)) (hx : am_in x) : ∀ j, am_in (am_up f i x j) := by
  intro j
  by_cases hj : j = i
  · simp [am_up, hj, hx]
  · simp [am_up, hj, h j]
/-! words -/
def am_nst : Cond → Bool
  | .fieldLinkNest _ _ _ _ _ _ => true
  | .methodLinkNest _ _ _ _ => true
  | _ => false
def am_gd : List Cond := lw_tbl.filter goodWord
theorem am_in_gd {w : Cond} (i : Nat) (h : lw_tbl[i]? = some w) (g : goodWord w = true) : w ∈ am_gd :=
  List.mem_filter.mpr ⟨List.mem_of_getElem? h, g⟩
def am_ws (M : am_T) : List Cond := Cond.code M.1 M.2.1 M.2.2.1 M.2.2.2 :: am_gd
theorem am_gd_ws {M : am_T} {w : Cond} (h : w ∈ am_gd) : w ∈ am_ws M := List.mem_cons_of_mem _ h
theorem am_good {M M' : am_T} (h : Cond.code M'.1 M'.2.1 M'.2.2.1 M'.2.2.2 ∈ am_gd) : GoodIn (am_ws M) (am_ws M') := by
  intro w hw
  have hw' : w ∈ am_gd := by
    rcases List.mem_cons.mp hw with e | e
    · rw [e]; exact h
    · exact e
  exact ⟨am_gd_ws hw', good_of_word (List.mem_filter.mp hw').2⟩
/-! the static rows -/
def am_sn : Nat → String
  | 0 => "SETTING_AT_FIRST" | 1 => "SETTING_LEAST" | 2 => "SETTING_MOST" | 3 => "TRACK_AT_FIRST" | 4 => "TRACK_LEAST" | 5 => "TRACK_MOST" | 6 => "B_LEAST" | _ => "B_MOST"
def am_sv : Nat → List Int
  | 0 => [100, 10, 10, 25, 0] | 1 => [0, 4, 0, 0, 0] | 2 => [400, 50, 999, 100, 2] | 3 => [100, 0, 0, -1, 100, 50, 5] | 4 => [0, 0, 0, -1, 0, 0, 0] | 5 => [200, 1, 1, 3, 999, 100, 20] | 6 => [0, 0, 1, 0] | _ => [0, 999, 99, 999]
/-- rows of rows of ints can be made -/
def am_AOA (U : State) : Prop := (Cond.arrayOver (.array .int)).before #[] U = true
theorem am_AOA.spec {s : State} (h : am_AOA s) : ∃ comp c k, s.vm.findClass (FieldType.array .int).toString = some comp ∧ (s.vm.classes.findIdx? fun x => match x.kind with | .array component _ => component == comp | _ => false) = some c ∧ s.vm.classes[c]? = some k ∧ k.kind = .array comp (.array .int) ∧ s.vm.findClass ("[" ++ (FieldType.array .int).toString) = some c := by
  unfold am_AOA Cond.before at h
  simp only [Cond.holds, Cond.value, beq_iff_eq] at h
  cases hc : s.vm.findClass (FieldType.array .int).toString with
  | none => simp [hc] at h
  | some comp =>
    simp only [hc, Option.bind_some, Option.bind_eq_some_iff, Option.map_eq_some_iff] at h
    obtain ⟨c, hi, k, hk, hb⟩ := h
    obtain ⟨hlt, hp, -⟩ := Array.findIdx?_eq_some_iff_getElem.mp hi
    have hkk : s.vm.classes[c] = k := (Array.getElem?_eq_some_iff.mp hk).2
    rw [hkk] at hp
    cases hkind : k.kind with
    | array component ty =>
      rw [hkind] at hb hp
      simp at hb hp
      exact ⟨comp, c, k, rfl, hi, hk, by rw [hkind, hp, hb.1], hb.2⟩
    | _ => rw [hkind] at hb; simp at hb
theorem am_AOA.moved {u U : State} (hvm : u.vm.Alike U.vm) (h : am_AOA u) : am_AOA U := by
  obtain ⟨comp, c, k, h1, h2, h3, h4, h5⟩ := h.spec
  obtain ⟨k', hk', he⟩ := hvm.2.2 _ _ h3
  have hi : (U.vm.classes.findIdx? fun (x : Class) => match x.kind with | .array component _ => component == comp | _ => false) = some c := by
    have e1 := va_idx_bare U.vm comp
    have e2 := va_idx_bare u.vm comp
    first | rw [hvm.bare_eq] at e2 | rw [← hvm.bare_eq] at e2
    exact e1.symm.trans (e2.trans h2)
  have hkind : k'.kind = .array comp (.array .int) := by rw [he]; exact h4
  have f1 : U.vm.findClass (FieldType.array .int).toString = some comp := by rw [hvm.findClass]; exact h1
  have f2 : U.vm.findClass ("[" ++ (FieldType.array .int).toString) = some c := by rw [hvm.findClass]; exact h5
  unfold am_AOA Cond.before Cond.holds
  simp only [Cond.value]
  rw [f1, Option.bind_some]
  refine (congrArg (fun o : Option Nat => (o.bind (fun c => (U.vm.classes[c]?).map fun (k : Class) => match k.kind with | .array _ ty => decide (ty = FieldType.array .int) && decide (U.vm.findClass ("[" ++ (FieldType.array .int).toString) = some c) | _ => false) == some true)) hi).trans ?_
  simp [hk', hkind, f2]
def am_F (G : am_G) (U : State) : Prop :=
  va_K G.2.1 vwCl (am_tys G) U ∧ (∀ w, w ∈ lw_tbl → am_nst w = true → va_Nw w U) ∧
  (∀ i, i < 8 → va_Z RX9 (am_sn i) "[I" (.ref (G.1.2.2 i)) (am_A G) U U.heap ∧ va_T .int (G.1.2.2 i) (am_sv i).length (fun j => .int (Int32.ofInt ((am_sv i).getD j 0))) (am_A G) U U.heap) ∧
  va_AO RX4 U ∧ am_AOA U
theorem am_sv_in (i j : Nat) : am_in ((am_sv i).getD j 0) := by
  unfold am_in
  match i with
  | 0 | 1 | 2 | 3 | 4 | 5 | 6 | _ + 7 =>
    match j with
    | 0 | 1 | 2 | 3 | 4 | 5 | 6 => simp [am_sv]
    | _ + 7 => simp [am_sv]

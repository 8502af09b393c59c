/-! a table as a list of rows -/
abbrev Rw : Type := Int → Int
def tl_ (n : Int) (g : Tb) (L : List Rw) : Prop := n = L.length ∧ ∀ (i : Nat) (r : Rw), L[i]? = some r → ∀ k, 0 ≤ k → k < 8 → g i k = r k
def toL (n : Int) (g : Tb) : List Rw := (List.range n.toNat).map (fun (i : Nat) => g (i : Int))
def ofL (L : List Rw) : Tb := fun i => L.getD i.toNat (fun _ => 0)
theorem tl_toL {n : Int} {g : Tb} (h : 0 ≤ n) : tl_ n g (toL n g) := by
  refine ⟨by simp [toL]; omega, fun i r hi k h0 h1 => ?_⟩
  unfold toL at hi
  rw [List.getElem?_map] at hi
  by_cases q : i < n.toNat
  · rw [List.getElem?_range q] at hi
    cases hi
    rfl
  · rw [List.getElem?_eq_none (by simpa using q)] at hi
    cases hi
theorem tl_of {n : Int} {g : Tb} {L : List Rw} (h : tl_ n g L) : eq_T n 8 g (ofL L) := by
  intro i k i0 i1 k0 k1
  obtain ⟨h1, h2⟩ := h
  have hl : i.toNat < L.length := by omega
  have e : L[i.toNat]? = some (L[i.toNat]) := List.getElem?_eq_getElem hl
  have := h2 i.toNat _ e k k0 k1
  rw [show ((i.toNat : Nat) : Int) = i by omega] at this
  rw [this]
  unfold ofL
  rw [List.getD_eq_getElem?_getD, e]
  rfl
theorem tl_eq {n : Int} {g h : Tb} {L : List Rw} (e : eq_T n 8 g h) (t : tl_ n h L) : tl_ n g L := by
  refine ⟨t.1, fun i r hi k k0 k1 => ?_⟩
  have hl : i < L.length := (List.getElem?_eq_some_iff.mp hi).1
  rw [e i k (by omega) (by rw [t.1]; omega) k0 k1]
  exact t.2 i r hi k k0 k1
theorem tl_at {n : Int} {g : Tb} {A B : List Rw} {r : Rw} (h : tl_ n g (A ++ r :: B)) {i : Int} (hi : i = A.length) {k : Int} (k0 : 0 ≤ k) (k1 : k < 8) : g i k = r k := by
  subst hi
  exact h.2 A.length r (by simp) k k0 k1
/-- rows that are put in the place of one -/
theorem tl_put {n n' : Int} {g g' : Tb} {A B C : List Rw} {r : Rw} (h : tl_ n g (A ++ r :: B)) (hn : n' = n - 1 + C.length) (hA : ∀ i k : Int, 0 ≤ i → i < A.length → 0 ≤ k → k < 8 → g' i k = g i k) (hC : ∀ (j : Nat) (s : Rw), C[j]? = some s → ∀ k, 0 ≤ k → k < 8 → g' (A.length + j) k = s k) (hB : ∀ i k : Int, (A.length : Int) < i → 0 ≤ k → k < 8 → g' (i - 1 + C.length) k = g i k) : tl_ n' g' (A ++ C ++ B) := by
  obtain ⟨h1, h2⟩ := h
  refine ⟨by rw [hn, h1]; simp; omega, fun i s hi k k0 k1 => ?_⟩
  by_cases q : i < A.length
  · rw [hA i k (by omega) (by omega) k0 k1]
    rw [List.append_assoc, List.getElem?_append_left q] at hi
    exact h2 i s (by rw [List.getElem?_append_left q]; exact hi) k k0 k1
  · by_cases q2 : i < A.length + C.length
    · rw [List.append_assoc, List.getElem?_append_right (by omega), List.getElem?_append_left (by omega)] at hi
      have := hC (i - A.length) s hi k k0 k1
      rw [show ((A.length : Int) + ((i - A.length : Nat) : Int)) = i by omega] at this
      exact this
    · rw [List.getElem?_append_right (by simp; omega)] at hi
      have e1 := hB ((i : Int) + 1 - C.length) k (by omega) k0 k1
      rw [show ((i : Int) + 1 - C.length - 1 + C.length) = i by omega] at e1
      rw [e1]
      have e2 := h2 (i + 1 - C.length) s (by
        rw [List.getElem?_append_right (by omega)]
        rw [show i + 1 - C.length - A.length = (i - (A ++ C).length) + 1 by simp; omega]
        rw [List.getElem?_cons_succ]
        exact hi) k k0 k1
      rw [show (((i + 1 - C.length : Nat) : Int)) = (i : Int) + 1 - C.length by omega] at e2
      exact e2
theorem tl_up {n : Int} {g : Tb} {A B : List Rw} {r s : Rw} (h : tl_ n g (A ++ r :: B)) {i j v : Int} (hi : i = A.length) (hs : ∀ k, 0 ≤ k → k < 8 → s k = if k = j then v else r k) : tl_ n (up_T g i j v) (A ++ s :: B) := by
  have := tl_put (C := [s]) (n' := n) (g' := up_T g i j v) h (by simp) (fun a k a0 a1 k0 k1 => by
    unfold up_T
    rw [if_neg (by omega)]) (fun a t ha k k0 k1 => by
    have a0 : a = 0 := by
      have := (List.getElem?_eq_some_iff.mp ha).1
      simpa using this
    subst a0
    cases ha
    rw [hs k k0 k1]
    unfold up_T
    have e := tl_at h hi k0 k1
    subst hi
    by_cases q : k = j
    · rw [if_pos ⟨by simp, q⟩, if_pos q]
    · rw [if_neg (fun z => q z.2), if_neg q]
      simpa using e) (fun a k a0 k0 k1 => by
    unfold up_T
    rw [if_neg (by simp; omega)]
    congr 1
    simp)
  simpa using this
theorem tl_del {n : Int} {g : Tb} {A B : List Rw} {r : Rw} (h : tl_ n g (A ++ r :: B)) {i : Int} (hi : i = A.length) : tl_ (n - 1) (del_T g i) (A ++ B) := by
  have := tl_put (C := []) (n' := n - 1) (g' := del_T g i) h (by simp) (fun a k a0 a1 k0 k1 => by
    unfold del_T
    rw [if_pos (by omega)]) (fun a t ha => by simp at ha) (fun a k a0 k0 k1 => by
    unfold del_T
    rw [if_neg (by simp; omega)]
    congr 1
    simp)
  simpa using this
def spl1 (r : Rw) (a : Int) : Rw := fun k => if k = 4 then a else if k = 6 then (if a < r 6 then a else r 6) else if k = 7 then 0 else r k
def spl2 (r : Rw) (a : Int) : Rw := fun k => if k = 1 then r 1 + a else if k = 3 then r 3 + a else if k = 4 then r 4 - a else if k = 6 then 0 else if k = 7 then (if r 4 - a < r 7 then r 4 - a else r 7) else r k
theorem tl_spl {n : Int} {g : Tb} {A B : List Rw} {r : Rw} (h : tl_ n g (A ++ r :: B)) {i a : Int} (hi : i = A.length) : tl_ (n + 1) (spl_T g i a) (A ++ spl1 r a :: spl2 r a :: B) := by
  have ee := fun k k0 k1 => tl_at (k := k) h hi k0 k1
  have := tl_put (C := [spl1 r a, spl2 r a]) (n' := n + 1) (g' := spl_T g i a) h (by simp; omega) (fun b k a0 a1 k0 k1 => by
    unfold spl_T
    rw [if_pos (by omega)]) (fun b t hb k k0 k1 => by
    have b0 : b = 0 ∨ b = 1 := by
      have := (List.getElem?_eq_some_iff.mp hb).1
      simp at this
      omega
    subst hi
    rcases b0 with rfl | rfl
    · cases hb
      unfold spl_T spl1
      rw [if_neg (by simp), if_pos (by simp)]
      rw [ee 6 (by omega) (by omega)]
      rw [ee k k0 k1]
    · cases hb
      unfold spl_T spl2
      rw [if_neg (by omega), if_neg (by omega), if_pos (by simp)]
      rw [ee 1 (by omega) (by omega), ee 3 (by omega) (by omega), ee 4 (by omega) (by omega), ee 7 (by omega) (by omega), ee k k0 k1]) (fun b k a0 k0 k1 => by
    unfold spl_T
    rw [if_neg (by simp; omega), if_neg (by simp; omega), if_neg (by simp; omega)]
    congr 1
    simp
    omega)
  simpa using this
theorem tl_ins {n : Int} {g : Tb} {A B : List Rw} {r : Rw} (h : tl_ n g (A ++ B)) {i : Int} (hi : i = A.length) : tl_ (n + 1) (ins_T g i r) (A ++ r :: B) := by
  obtain ⟨h1, h2⟩ := h
  subst hi
  refine ⟨by rw [h1]; simp; omega, fun j s hj k k0 k1 => ?_⟩
  unfold ins_T
  by_cases q : j < A.length
  · rw [if_pos (by omega)]
    rw [List.getElem?_append_left q] at hj
    exact h2 j s (by rw [List.getElem?_append_left q]; exact hj) k k0 k1
  · rw [List.getElem?_append_right (by omega)] at hj
    by_cases q2 : j = A.length
    · subst q2
      simp at hj
      rw [if_neg (by omega), if_pos rfl, hj]
    · rw [if_neg (by omega), if_neg (by omega)]
      rw [show j - A.length = (j - 1 - A.length) + 1 by omega, List.getElem?_cons_succ] at hj
      have := h2 (j - 1) s (by rw [List.getElem?_append_right (by omega)]; exact hj) k k0 k1
      rw [show (((j - 1 : Nat) : Int)) = (j : Int) - 1 by omega] at this
      exact this
/-- a row with small numbers -/
def okR (r : Rw) : Prop := in_ 0 4 (r 0) ∧ in_ 0 601 (r 1) ∧ in_ 0 6 (r 2) ∧ in_ 0 201 (r 3) ∧ in_ 0 601 (r 4) ∧ in_ 0 201 (r 5) ∧ in_ 0 601 (r 6) ∧ in_ 0 601 (r 7)
theorem ok_of {n : Int} {g : Tb} {L : List Rw} (h : tl_ n g L) (hl : L.length ≤ 32) (hr : ∀ r ∈ L, okR r) : ok_T g n := by
  refine ⟨by rw [h.1]; ((try unfold am_in); (try unfold in_ at *); omega), fun i i0 i1 => ?_⟩
  have hlt : i.toNat < L.length := by have := h.1; omega
  have e : L[i.toNat]? = some (L[i.toNat]) := List.getElem?_eq_getElem hlt
  have o := hr _ (List.mem_of_getElem? e)
  have q := fun k k0 k1 => h.2 i.toNat _ e k k0 k1
  rw [show ((i.toNat : Nat) : Int) = i by omega] at q
  rw [q 0 (by omega) (by omega), q 1 (by omega) (by omega), q 2 (by omega) (by omega), q 3 (by omega) (by omega), q 4 (by omega) (by omega), q 5 (by omega) (by omega), q 6 (by omega) (by omega), q 7 (by omega) (by omega)]
  exact o
theorem tl_okR {n : Int} {g : Tb} {L : List Rw} (h : tl_ n g L) (o : ok_T g n) : ∀ r ∈ L, okR r := by
  intro r hr
  obtain ⟨i, hi⟩ := List.getElem?_of_mem hr
  have hlt := (List.getElem?_eq_some_iff.mp hi).1
  have q := o.2 i (by omega) (by rw [h.1]; omega)
  have e := fun k k0 k1 => h.2 i r hi k k0 k1
  unfold okR
  rw [← e 0 (by omega) (by omega), ← e 1 (by omega) (by omega), ← e 2 (by omega) (by omega), ← e 3 (by omega) (by omega), ← e 4 (by omega) (by omega), ← e 5 (by omega) (by omega), ← e 6 (by omega) (by omega), ← e 7 (by omega) (by omega)]
  exact q
/-! ripples on a row -/
def spF (f : Int) (r : Rw) : List Rw := if r 1 < f ∧ f < r 1 + r 4 then [spl1 r (f - r 1), spl2 r (f - r 1)] else [r]
def shf (r : Rw) (d : Int) : Rw := fun k => if k = 1 then r 1 + d else r k
def tkF (a b : Int) (r : Rw) : List Rw := if b ≤ r 1 then [shf r (a - b)] else if a ≤ r 1 then [] else [r]
def gvR (a l : Int) (r : Rw) : Rw := if a ≤ r 1 then shf r l else r
/-- a row as a clip has it: small numbers, within 600 frames, its fades within it -/
def okC (r : Rw) : Prop := in_ 0 4 (r 0) ∧ in_ 0 600 (r 1) ∧ in_ 0 6 (r 2) ∧ in_ 0 200 (r 3) ∧ in_ 1 201 (r 4) ∧ in_ 0 201 (r 5) ∧ 0 ≤ r 6 ∧ 0 ≤ r 7 ∧ r 6 + r 7 ≤ r 4 ∧ r 1 + r 4 ≤ 600 ∧ r 3 + r 4 ≤ 200
theorem okC.R {r : Rw} (h : okC r) : okR r := by
  unfold okC okR in_ at *
  omega
theorem okC.sp {r : Rw} (h : okC r) (f : Int) : ∀ s ∈ spF f r, okC s := by
  intro s hs
  unfold spF at hs
  split at hs
  · rename_i q
    simp at hs
    rcases hs with rfl | rfl
    · unfold okC spl1 in_ at *
      simp
      split <;> omega
    · unfold okC spl2 in_ at *
      simp
      split <;> omega
  · simp at hs
    subst hs
    exact h
theorem spF_len (f : Int) (r : Rw) : 1 ≤ (spF f r).length := by
  unfold spF
  split <;> simp
theorem flat_len {F : Rw → List Rw} (h : ∀ r, 1 ≤ (F r).length) : ∀ L : List Rw, L.length ≤ (L.flatMap F).length
  | [] => by simp
  | r :: L => by
    rw [List.flatMap_cons, List.length_append, List.length_cons]
    have := h r
    have := flat_len h L
    omega
/-- the last place of what is not yet done -/
theorem split_last {L : List Rw} {x : Int} (h0 : 0 ≤ x) (hx : x < L.length) : ∃ A r B, L = A ++ r :: B ∧ x = A.length := by
  have hl : x.toNat < L.length := by omega
  refine ⟨L.take x.toNat, L[x.toNat], L.drop (x.toNat + 1), ?_, by simp; omega⟩
  rw [← List.drop_eq_getElem_cons hl, List.take_append_drop]
theorem vc_X1_divideAllAt_0 {x1 : Int} {μ : am_M} {Q : am_M → Prop} (h : (am_in (μ 5 1 - 1)) ∧ (at_V kC 4 mX1_divideAllAt 7 [vR 5, vI x1, vI (μ 5 1 - 1)] [] μ Q)) : at_V kC 4 mX1_divideAllAt 0 [vR 5, vI x1, vU] [] μ Q := by
  refine s_aload_n dX1_divideAllAt_0 rfl rfl ?_
  refine s_getI (x := (μ 5 1)) dX1_divideAllAt_1 flX1_15 kn5 kk5 rfl rfl ?_
  refine s_iconst dX1_divideAllAt_4 (by decide) ?_
  obtain ⟨c, h⟩ := h
  refine s_isub dX1_divideAllAt_5 (am_w_id c) ?_
  refine s_istore_n dX1_divideAllAt_6 rfl (by decide) (L' := [vR 5, vI x1, vI (μ 5 1 - 1)]) rfl ?_
  exact h
theorem vc_X1_divideAllAt_7 {x1 x2 : Int} {μ : am_M} {Q : am_M → Prop} (h : (x2 < 0 → Q μ) ∧ (0 ≤ x2 → (in_ 0 32 x2) ∧ (am_in (en_ (cg μ) x2)) ∧ ((¬ (acr_ (cg μ) x1 x2) → (am_in (x2 - 1)) ∧ (at_V kC 4 mX1_divideAllAt 7 [vR 5, vI x1, vI (x2 - 1)] [] μ Q)) ∧ (acr_ (cg μ) x1 x2 → (32 ≤ μ 5 1 → (am_in (x2 - 1)) ∧ (at_V kC 4 mX1_divideAllAt 7 [vR 5, vI x1, vI (x2 - 1)] [] μ Q)) ∧ (μ 5 1 < 32 → (in_ 0 32 x2) ∧ (in_ 0 8 1) ∧ ((am_in (x1 - (cg μ x2 1))) ∧ ((ok_T (cg μ) (μ 5 1)) ∧ (μ 5 1 < 32) ∧ (0 ≤ x2 ∧ x2 < μ 5 1) ∧ (0 < (x1 - (cg μ x2 1)) ∧ (x1 - (cg μ x2 1)) < cg μ x2 4) ∧ (∀ m2 : am_M, ck_ μ m2 (μ 5 1 + 1) (spl_T (cg μ) x2 (x1 - (cg μ x2 1))) → (am_in (x2 - 1)) ∧ (at_V kC 4 mX1_divideAllAt 7 [vR 5, vI x1, vI (x2 - 1)] [] m2 Q))))))))) : at_V kC 4 mX1_divideAllAt 7 [vR 5, vI x1, vI x2] [] μ Q := by
  refine s_iload_n dX1_divideAllAt_7 rfl rfl ?_
  refine s_if_lt dX1_divideAllAt_8 (tgt := 48) (by decide) (fun cc => ?_) (fun cc => ?_)
  · have h := h.1 cc
    exact s_return dX1_divideAllAt_48 rfl ⟨⟨rfl, rfl⟩, rfl, h⟩
  · have h := h.2 cc
    refine s_aload_n dX1_divideAllAt_11 rfl rfl ?_
    refine s_iload_n dX1_divideAllAt_12 rfl rfl ?_
    refine s_iload_n dX1_divideAllAt_13 rfl rfl ?_
    obtain ⟨p0, p1, h⟩ := h
    refine s_callV (As := [vI x2, vI x1]) (rest := []) (k := 5) dX1_divideAllAt_14 lkX1_80 kn5 ⟨by rw [kk5]; rfl, by rw [kk5]; decide⟩ lmX1_isAcross rfl rfl (Nat.le_of_ble_eq_true rfl) (by decide) (Nat.le_refl 0) (Nat.le_refl 0) (hC := sp_X1_isAcross (Q := fun z m => bI (acr_ (cg μ) x1 x2) = z ∧ μ = m) p0 p1 ⟨rfl, rfl⟩) (fun r n2 S2 m2 hP => ?_)
    obtain ⟨⟨rfl, rfl⟩, z, rfl, rfl, rfl⟩ := hP
    refine s_if_eq dX1_divideAllAt_17 (tgt := 42) (by decide) (fun cc => ?_) (fun cc => ?_)
    · have h := h.1 (bI_eq cc)
      obtain ⟨c, h⟩ := h
      refine s_iinc dX1_divideAllAt_42 rfl (am_w_id c) (by decide) (L' := [vR 5, vI x1, vI (x2 - 1)]) rfl ?_
      refine s_goto dX1_divideAllAt_45 (tgt := 7) (by decide) ?_
      exact h
    · have h := h.2 (bI_ne cc)
      refine s_aload_n dX1_divideAllAt_20 rfl rfl ?_
      refine s_getI (x := (μ 5 1)) dX1_divideAllAt_21 flX1_15 kn5 kk5 rfl rfl ?_
      refine s_bipush dX1_divideAllAt_24 (by decide) ?_
      refine s_icmp_ge dX1_divideAllAt_26 (tgt := 42) (by decide) (fun cc => ?_) (fun cc => ?_)
      · have h := h.1 cc
        obtain ⟨c, h⟩ := h
        refine s_iinc dX1_divideAllAt_42 rfl (am_w_id c) (by decide) (L' := [vR 5, vI x1, vI (x2 - 1)]) rfl ?_
        refine s_goto dX1_divideAllAt_45 (tgt := 7) (by decide) ?_
        exact h
      · have h := h.2 cc
        refine s_aload_n dX1_divideAllAt_29 rfl rfl ?_
        refine s_iload_n dX1_divideAllAt_30 rfl rfl ?_
        refine s_iload_n dX1_divideAllAt_31 rfl rfl ?_
        refine s_aload_n dX1_divideAllAt_32 rfl rfl ?_
        refine s_iload_n dX1_divideAllAt_33 rfl rfl ?_
        refine s_iconst dX1_divideAllAt_34 (by decide) ?_
        obtain ⟨p0, p1, h⟩ := h
        refine s_callV (As := [vI x2, vI 1]) (rest := [vI x1, vI x2, vR 5]) (k := 5) dX1_divideAllAt_35 lkX1_19 kn5 ⟨by rw [kk5]; rfl, by rw [kk5]; decide⟩ lmX1_get rfl rfl (Nat.le_of_ble_eq_true rfl) (by decide) (Nat.le_refl 0) (Nat.le_refl 0) (hC := sp_X1_get (Q := fun z m => cg μ x2 1 = z ∧ μ = m) p0 p1 ⟨rfl, rfl⟩) (fun r n2 S2 m2 hP => ?_)
        obtain ⟨⟨rfl, rfl⟩, z, rfl, rfl, rfl⟩ := hP
        obtain ⟨c, h⟩ := h
        refine s_isub dX1_divideAllAt_38 (am_w_id c) ?_
        obtain ⟨p0, p1, p2, p3, h⟩ := h
        refine s_callV (As := [vI x2, vI (x1 - (cg μ x2 1))]) (rest := []) (k := 5) dX1_divideAllAt_39 lkX1_71 kn5 ⟨by rw [kk5]; rfl, by rw [kk5]; decide⟩ lmX1_split rfl rfl (Nat.le_of_ble_eq_true rfl) (by decide) (Nat.le_refl 0) (Nat.le_refl 0) (hC := sp_X1_split  p0 p1 p2 p3) (fun r n2 S2 m2 hP => ?_)
        obtain ⟨⟨rfl, rfl⟩, rfl, hq⟩ := hP
        have h := h m2 hq
        obtain ⟨c, h⟩ := h
        refine s_iinc dX1_divideAllAt_42 rfl (am_w_id c) (by decide) (L' := [vR 5, vI x1, vI (x2 - 1)]) rfl ?_
        refine s_goto dX1_divideAllAt_45 (tgt := 7) (by decide) ?_
        exact h
theorem ve_X1_divideAllAt {x1 : Int} {μ : am_M} {Q : am_M → Prop} (h : at_V kC 4 mX1_divideAllAt 0 [vR 5, vI x1, vU] [] μ Q) : cl_V kC 4 mX1_divideAllAt [vR 5, vI x1] μ Q := am_intro pmX1_divideAllAt (Nat.le_of_ble_eq_true rfl) rfl h
theorem lp_X1_divideAllAt {f : Int} (hf : in_ 0 601 f) {μ0 : am_M} {L : List Rw} (hok : ∀ r ∈ L, okC r) (hlen : (L.flatMap (spF f)).length ≤ 32) {Q : am_M → Prop} (hQ : ∀ m, fr_ [5, 6] μ0 m → tl_ (m 5 1) (cg m) (L.flatMap (spF f)) → Q m) : ∀ (n : Nat) (x : Int) (A B : List Rw) (μ : am_M), A.length = n → x = (n : Int) - 1 → L = A ++ B → fr_ [5, 6] μ0 μ → tl_ (μ 5 1) (cg μ) (A ++ B.flatMap (spF f)) → at_V kC 4 mX1_divideAllAt 7 [vR 5, vI f, vI x] [] μ Q := by
  intro n
  induction n with
  | zero =>
    intro x A B μ hA hx hL hfr ht
    have : A = [] := List.eq_nil_of_length_eq_zero hA
    subst this
    refine vc_X1_divideAllAt_7 ⟨fun _ => hQ μ hfr (by rw [hL]; simpa using ht), fun q => by omega⟩
  | succ n ih =>
    intro x A B μ hA hx hL hfr ht
    obtain ⟨A', r, B', e1, e2⟩ := split_last (L := A) (x := x) (by omega) (by omega)
    have hB' : B' = [] := by
      have : A.length = A'.length + 1 + B'.length := by rw [e1]; simp; omega
      exact List.eq_nil_of_length_eq_zero (by omega)
    subst hB'
    subst e1
    have hl1 := flat_len (spF_len f) A'
    have hlen' : (A'.flatMap (spF f)).length + (spF f r).length + (B.flatMap (spF f)).length ≤ 32 := by
      rw [hL] at hlen
      simp at hlen
      simp
      omega
    have hrk : okC r := hok r (by rw [hL]; simp)
    have hall : ∀ s ∈ (A' ++ [r]) ++ B.flatMap (spF f), okC s := by
      intro s hs
      rcases List.mem_append.mp hs with h | h
      · exact hok s (by rw [hL]; exact List.mem_append_left _ h)
      · obtain ⟨t, ht1, ht2⟩ := List.mem_flatMap.mp h
        exact (hok t (by rw [hL]; exact List.mem_append_right _ ht1)).sp f s ht2
    have hlenA : ((A' ++ [r]) ++ B.flatMap (spF f)).length ≤ 32 := by
      have := spF_len f r
      simp at *
      omega
    have okT := ok_of ht hlenA (fun s hs => (hall s hs).R)
    have q1 := okT.1
    have ht2 : tl_ (μ 5 1) (cg μ) (A' ++ r :: B.flatMap (spF f)) := by simpa using ht
    have hn : μ 5 1 = A'.length + 1 + (B.flatMap (spF f)).length := by rw [ht2.1]; simp; omega
    have v := fun k k0 k1 => tl_at (k := k) ht2 e2 k0 k1
    have hen : en_ (cg μ) x = r 1 + r 4 := by unfold en_; rw [v 1 (by omega) (by omega), v 4 (by omega) (by omega)]
    unfold okC at hrk
    refine vc_X1_divideAllAt_7 ⟨fun q => by omega, fun q => ⟨(by (try unfold am_in); (try unfold in_ at *); omega), by rw [hen]; ((try unfold am_in); (try unfold in_ at *); omega), fun na => ⟨(by (try unfold am_in); (try unfold in_ at *); omega), ?_⟩, fun ac => ⟨fun big => ?_, fun sm => ?_⟩⟩⟩
    · refine ih (x - 1) A' (r :: B) μ (by simpa using hA) (by omega) (by rw [hL]; simp) hfr ?_
      have : spF f r = [r] := by
        unfold spF
        rw [if_neg (fun z => na (by unfold acr_; rw [hen, v 1 (by omega) (by omega)]; exact z))]
      rw [List.flatMap_cons, this]
      simpa using ht2
    · unfold acr_ at ac
      rw [hen, v 1 (by omega) (by omega)] at ac
      have : spF f r = [spl1 r (f - r 1), spl2 r (f - r 1)] := by unfold spF; rw [if_pos ac]
      have l2 : (spF f r).length = 2 := by rw [this]; rfl
      omega
    · unfold acr_ at ac
      rw [hen, v 1 (by omega) (by omega)] at ac
      refine ⟨(by (try unfold am_in); (try unfold in_ at *); omega), (by (try unfold am_in); (try unfold in_ at *); omega), by rw [v 1 (by omega) (by omega)]; ((try unfold am_in); (try unfold in_ at *); omega), okT, sm, by omega, by rw [v 1 (by omega) (by omega), v 4 (by omega) (by omega)]; omega, fun m hm => ⟨(by (try unfold am_in); (try unfold in_ at *); omega), ?_⟩⟩
      have : spF f r = [spl1 r (f - r 1), spl2 r (f - r 1)] := by unfold spF; rw [if_pos ac]
      refine ih (x - 1) A' (r :: B) m (by simpa using hA) (by omega) (by rw [hL]; simp) (fr_tr hfr hm.1) ?_
      rw [hm.2.1, List.flatMap_cons, this]
      rw [v 1 (by omega) (by omega)] at hm
      have := tl_spl ht2 e2 (a := f - r 1)
      exact tl_eq hm.2.2 (by simpa using this)
theorem sp_X1_divideAllAt {f : Int} {μ : am_M} (L : List Rw) (hf : in_ 0 601 f) (ht : tl_ (μ 5 1) (cg μ) L) (hok : ∀ r ∈ L, okC r) (hlen : (L.flatMap (spF f)).length ≤ 32) : cl_V kC 4 mX1_divideAllAt [vR 5, vI f] μ (fun m => fr_ [5, 6] μ m ∧ tl_ (m 5 1) (cg m) (L.flatMap (spF f))) := by
  have := flat_len (spF_len f) L
  refine ve_X1_divideAllAt (vc_X1_divideAllAt_0 ⟨by rw [ht.1]; ((try unfold am_in); (try unfold in_ at *); omega), ?_⟩)
  exact lp_X1_divideAllAt hf (μ0 := μ) hok hlen (fun m h1 h2 => ⟨h1, h2⟩) L.length (μ 5 1 - 1) L [] μ rfl (by rw [ht.1]) (by simp) fr_rf (by simpa using ht)

/-! the class's clips: ripples -/
/-- what a cut leaves of a row -/
def cuF (a b : Int) (r : Rw) : List Rw := (if r 1 < a then [if r 1 + r 4 ≤ a then r else spl1 r (a - r 1)] else []) ++ (if b < r 1 + r 4 then [if b ≤ r 1 then shf r (a - b) else shf (spl2 r (b - r 1)) (a - b)] else [])
theorem cuF_is {a b : Int} (hab : a < b) {r : Rw} (h : 1 ≤ r 4) : ((spF a r).flatMap (spF b)).flatMap (tkF a b) = cuF a b r := by
  unfold cuF
  by_cases h1 : r 1 < a
  · rw [if_pos h1]
    by_cases h2 : r 1 + r 4 ≤ a
    · have e1 : spF a r = [r] := by unfold spF; rw [if_neg (by omega)]
      have e2 : spF b r = [r] := by unfold spF; rw [if_neg (by omega)]
      have e3 : tkF a b r = [r] := by unfold tkF; rw [if_neg (by omega), if_neg (by omega)]
      rw [if_pos h2, if_neg (by omega), e1]
      simp [e2, e3]
    · have e1 : spF a r = [spl1 r (a - r 1), spl2 r (a - r 1)] := by unfold spF; rw [if_pos (by omega)]
      have s1 : spl1 r (a - r 1) 1 = r 1 := by simp [spl1]
      have s4 : spl1 r (a - r 1) 4 = a - r 1 := by simp [spl1]
      have t1 : spl2 r (a - r 1) 1 = a := by simp [spl2]; omega
      have t4 : spl2 r (a - r 1) 4 = r 4 - (a - r 1) := by simp [spl2]
      have e2 : spF b (spl1 r (a - r 1)) = [spl1 r (a - r 1)] := by unfold spF; rw [s1, s4, if_neg (by omega)]
      have e3 : tkF a b (spl1 r (a - r 1)) = [spl1 r (a - r 1)] := by unfold tkF; rw [s1, if_neg (by omega), if_neg (by omega)]
      rw [if_neg h2, e1]
      by_cases h3 : b < r 1 + r 4
      · have e4 : spF b (spl2 r (a - r 1)) = [spl1 (spl2 r (a - r 1)) (b - a), spl2 (spl2 r (a - r 1)) (b - a)] := by unfold spF; rw [t1, t4, if_pos (by omega)]
        have u1 : spl1 (spl2 r (a - r 1)) (b - a) 1 = a := by simp [spl1, t1]
        have u2 : spl2 (spl2 r (a - r 1)) (b - a) 1 = b := by simp [spl2]; omega
        have e5 : tkF a b (spl1 (spl2 r (a - r 1)) (b - a)) = [] := by unfold tkF; rw [u1, if_neg (by omega), if_pos (by omega)]
        have e6 : tkF a b (spl2 (spl2 r (a - r 1)) (b - a)) = [shf (spl2 (spl2 r (a - r 1)) (b - a)) (a - b)] := by unfold tkF; rw [u2, if_pos (by omega)]
        rw [if_pos h3, if_neg (by omega)]
        simp [e2, e3, e4, e5, e6]
        funext k
        unfold shf spl2
        simp
        (repeat' split) <;> omega
      · have e4 : spF b (spl2 r (a - r 1)) = [spl2 r (a - r 1)] := by unfold spF; rw [t1, t4, if_neg (by omega)]
        have e5 : tkF a b (spl2 r (a - r 1)) = [] := by unfold tkF; rw [t1, if_neg (by omega), if_pos (by omega)]
        rw [if_neg h3]
        simp [e2, e3, e4, e5]
  · rw [if_neg h1]
    have e1 : spF a r = [r] := by unfold spF; rw [if_neg (by omega)]
    rw [e1]
    by_cases h3 : b < r 1 + r 4
    · rw [if_pos h3]
      by_cases h4 : b ≤ r 1
      · have e2 : spF b r = [r] := by unfold spF; rw [if_neg (by omega)]
        have e3 : tkF a b r = [shf r (a - b)] := by unfold tkF; rw [if_pos h4]
        rw [if_pos h4]
        simp [e2, e3]
      · have e2 : spF b r = [spl1 r (b - r 1), spl2 r (b - r 1)] := by unfold spF; rw [if_pos (by omega)]
        have u1 : spl1 r (b - r 1) 1 = r 1 := by simp [spl1]
        have u2 : spl2 r (b - r 1) 1 = b := by simp [spl2]; omega
        have e3 : tkF a b (spl1 r (b - r 1)) = [] := by unfold tkF; rw [u1, if_neg (by omega), if_pos (by omega)]
        have e4 : tkF a b (spl2 r (b - r 1)) = [shf (spl2 r (b - r 1)) (a - b)] := by unfold tkF; rw [u2, if_pos (by omega)]
        rw [if_neg h4]
        simp [e2, e3, e4]
    · rw [if_neg h3]
      have e2 : spF b r = [r] := by unfold spF; rw [if_neg (by omega)]
      have e3 : tkF a b r = [] := by unfold tkF; rw [if_neg (by omega), if_pos (by omega)]
      simp [e2, e3]
theorem vc_X1_clipsAcross_0 {x1 : Int} {μ : am_M} {Q : Int → am_M → Prop} (h : at_I kC 4 mX1_clipsAcross 4 [vR 5, vI x1, vI 0, vI 0] [] μ Q) : at_I kC 4 mX1_clipsAcross 0 [vR 5, vI x1, vU, vU] [] μ Q := by
  refine s_iconst dX1_clipsAcross_0 (by decide) ?_
  refine s_istore_n dX1_clipsAcross_1 rfl (by decide) (L' := [vR 5, vI x1, vI 0, vU]) rfl ?_
  refine s_iconst dX1_clipsAcross_2 (by decide) ?_
  refine s_istore_n dX1_clipsAcross_3 rfl (by decide) (L' := [vR 5, vI x1, vI 0, vI 0]) rfl ?_
  exact h
theorem vc_X1_clipsAcross_4 {x1 x2 x3 : Int} {μ : am_M} {Q : Int → am_M → Prop} (h : (μ 5 1 ≤ x3 → Q x2 μ) ∧ (x3 < μ 5 1 → (in_ 0 32 x3) ∧ (am_in (en_ (cg μ) x3)) ∧ (∀ v1 : Int, v1 = (cif (acr_ (cg μ) x1 x3) 1 0) → (am_in (x2 + v1)) ∧ ((am_in (x3 + 1)) ∧ (at_I kC 4 mX1_clipsAcross 4 [vR 5, vI x1, vI (x2 + v1), vI (x3 + 1)] [] μ Q))))) : at_I kC 4 mX1_clipsAcross 4 [vR 5, vI x1, vI x2, vI x3] [] μ Q := by
  refine s_iload_n dX1_clipsAcross_4 rfl rfl ?_
  refine s_aload_n dX1_clipsAcross_5 rfl rfl ?_
  refine s_getI (x := (μ 5 1)) dX1_clipsAcross_6 flX1_15 kn5 kk5 rfl rfl ?_
  refine s_icmp_ge dX1_clipsAcross_9 (tgt := 35) (by decide) (fun cc => ?_) (fun cc => ?_)
  · have h := h.1 cc
    refine s_iload_n dX1_clipsAcross_35 rfl rfl ?_
    exact s_ireturn dX1_clipsAcross_36 (Or.inl rfl) ⟨⟨rfl, rfl⟩, _, rfl, h⟩
  · have h := h.2 cc
    refine s_iload_n dX1_clipsAcross_12 rfl rfl ?_
    refine s_aload_n dX1_clipsAcross_13 rfl rfl ?_
    refine s_iload_n dX1_clipsAcross_14 rfl rfl ?_
    refine s_iload_n dX1_clipsAcross_15 rfl rfl ?_
    obtain ⟨p0, p1, h⟩ := h
    refine s_callV (As := [vI x3, vI x1]) (rest := [vI x2]) (k := 5) dX1_clipsAcross_16 lkX1_80 kn5 ⟨by rw [kk5]; rfl, by rw [kk5]; decide⟩ lmX1_isAcross rfl rfl (Nat.le_of_ble_eq_true rfl) (by decide) (Nat.le_refl 0) (Nat.le_refl 0) (hC := sp_X1_isAcross (Q := fun z m => bI (acr_ (cg μ) x1 x3) = z ∧ μ = m) p0 p1 ⟨rfl, rfl⟩) (fun r n2 S2 m2 hP => ?_)
    obtain ⟨⟨rfl, rfl⟩, z, rfl, rfl, rfl⟩ := hP
    have kj2 : ∀ (v1 : Int), ((am_in (x2 + v1)) ∧ ((am_in (x3 + 1)) ∧ (at_I kC 4 mX1_clipsAcross 4 [vR 5, vI x1, vI (x2 + v1), vI (x3 + 1)] [] μ Q))) → at_I kC 4 mX1_clipsAcross 27 [vR 5, vI x1, vU, vI x3] [vI v1, vI x2] μ Q := by
      intro v1 h
      obtain ⟨c, h⟩ := h
      refine s_iadd dX1_clipsAcross_27 (am_w_id c) ?_
      refine s_istore_n dX1_clipsAcross_28 rfl (by decide) (L' := [vR 5, vI x1, vI (x2 + v1), vI x3]) rfl ?_
      obtain ⟨c, h⟩ := h
      refine s_iinc dX1_clipsAcross_29 rfl (am_w_id c) (by decide) (L' := [vR 5, vI x1, vI (x2 + v1), vI (x3 + 1)]) rfl ?_
      refine s_goto dX1_clipsAcross_32 (tgt := 4) (by decide) ?_
      exact h
    refine s_if_eq dX1_clipsAcross_19 (tgt := 26) (by decide) (fun cc => ?_) (fun cc => ?_)
    · have hp0 := (bI_eq cc)
      refine s_iconst dX1_clipsAcross_26 (by decide) ?_
      exact am_lesS (kj2 0 (h 0 (by rw [cif_f hp0]))) ⟨Or.inr rfl, Or.inr rfl, Or.inl rfl, Or.inr rfl, trivial⟩
    · have hp0 := (bI_ne cc)
      refine s_iconst dX1_clipsAcross_22 (by decide) ?_
      refine s_goto dX1_clipsAcross_23 (tgt := 27) (by decide) ?_
      exact am_lesS (kj2 1 (h 1 (by rw [cif_t hp0]))) ⟨Or.inr rfl, Or.inr rfl, Or.inl rfl, Or.inr rfl, trivial⟩
theorem ve_X1_clipsAcross {x1 : Int} {μ : am_M} {Q : Int → am_M → Prop} (h : at_I kC 4 mX1_clipsAcross 0 [vR 5, vI x1, vU, vU] [] μ Q) : cl_I kC 4 mX1_clipsAcross [vR 5, vI x1] μ Q := am_intro pmX1_clipsAcross (Nat.le_of_ble_eq_true rfl) rfl h
theorem spF_l2 (f : Int) (r : Rw) : ((spF f r).length : Int) = cif (r 1 < f ∧ f < r 1 + r 4) 2 1 := by
  unfold spF
  by_cases h : r 1 < f ∧ f < r 1 + r 4
  · rw [if_pos h, cif_t h]; rfl
  · rw [if_neg h, cif_f h]; rfl
theorem lp_X1_clipsAcross {f : Int} {μ : am_M} {L : List Rw} (ht : tl_ (μ 5 1) (cg μ) L) (hok : ∀ r ∈ L, okC r) (hl : L.length ≤ 32) {Q : Int → am_M → Prop} (hQ : Q ((L.flatMap (spF f)).length - L.length) μ) : ∀ (B A : List Rw) (x y : Int), L = A ++ B → x = A.length → y = (A.flatMap (spF f)).length - A.length → 0 ≤ y → y ≤ x → at_I kC 4 mX1_clipsAcross 4 [vR 5, vI f, vI y, vI x] [] μ Q := by
  intro B
  induction B with
  | nil =>
    intro A x y hL hx hy _ _
    simp at hL
    subst hL
    exact vc_X1_clipsAcross_4 ⟨fun _ => by rw [hy]; exact hQ, fun q => by rw [ht.1] at q; omega⟩
  | cons r B ih =>
    intro A x y hL hx hy y0 y1
    have ht2 := ht
    rw [hL] at ht2
    have hll : L.length = A.length + 1 + B.length := by rw [hL]; simp; omega
    have okT := ok_of ht hl (fun s hs => (hok s hs).R)
    have q1 := okT.1
    have v := fun k k0 k1 => tl_at (k := k) ht2 hx k0 k1
    have hen : en_ (cg μ) x = r 1 + r 4 := by unfold en_; rw [v 1 (by omega) (by omega), v 4 (by omega) (by omega)]
    have hrk : okC r := hok r (by rw [hL]; simp)
    unfold okC at hrk
    have l2 := spF_l2 f r
    refine vc_X1_clipsAcross_4 ⟨fun q => by rw [ht.1] at q; omega, fun q => ⟨(by (try unfold am_in); (try unfold in_ at *); omega), by rw [hen]; ((try unfold am_in); (try unfold in_ at *); omega), fun v1 e1 => ?_⟩⟩
    have e3 : v1 + 1 = (spF f r).length := by
      rw [e1, l2]
      unfold acr_
      rw [hen, v 1 (by omega) (by omega)]
      by_cases h : r 1 < f ∧ f < r 1 + r 4
      · rw [cif_t h, cif_t h]; rfl
      · rw [cif_f h, cif_f h]; rfl
    have e4 : 0 ≤ v1 ∧ v1 ≤ 1 := by
      rw [e1]
      by_cases h : acr_ (cg μ) f x
      · rw [cif_t h]; omega
      · rw [cif_f h]; omega
    refine ⟨(by (try unfold am_in); (try unfold in_ at *); omega), (by (try unfold am_in); (try unfold in_ at *); omega), ih (A ++ [r]) _ _ (by rw [hL]; simp) (by simp; omega) ?_ (by omega) (by omega)⟩
    rw [List.flatMap_append, List.length_append, List.length_append]
    simp only [List.flatMap_cons, List.flatMap_nil, List.append_nil, List.length_cons, List.length_nil]
    omega
theorem sp_X1_clipsAcross {f : Int} {μ : am_M} (L : List Rw) {Q : Int → am_M → Prop} (ht : tl_ (μ 5 1) (cg μ) L) (hok : ∀ r ∈ L, okC r) (hl : L.length ≤ 32) (hQ : Q ((L.flatMap (spF f)).length - L.length) μ) : cl_I kC 4 mX1_clipsAcross [vR 5, vI f] μ Q :=
  ve_X1_clipsAcross (vc_X1_clipsAcross_0 (lp_X1_clipsAcross ht hok hl hQ L [] 0 0 (by simp) rfl rfl (by omega) (by omega)))
theorem cuF_len {a b : Int} {r : Rw} : ((cuF a b r).length : Int) = (if r 1 < a then 1 else 0) + (if b < r 1 + r 4 then 1 else 0) := by
  unfold cuF
  rw [List.length_append]
  (repeat' split) <;> rfl
theorem vc_X1_clipsAfterCut_0 {x1 x2 : Int} {μ : am_M} {Q : Int → am_M → Prop} (h : at_I kC 3 mX1_clipsAfterCut 5 [vR 5, vI x1, vI x2, vI 0, vI 0] [] μ Q) : at_I kC 3 mX1_clipsAfterCut 0 [vR 5, vI x1, vI x2, vU, vU] [] μ Q := by
  refine s_iconst dX1_clipsAfterCut_0 (by decide) ?_
  refine s_istore_n dX1_clipsAfterCut_1 rfl (by decide) (L' := [vR 5, vI x1, vI x2, vI 0, vU]) rfl ?_
  refine s_iconst dX1_clipsAfterCut_2 (by decide) ?_
  refine s_istore dX1_clipsAfterCut_3 (by decide) (L' := [vR 5, vI x1, vI x2, vI 0, vI 0]) rfl ?_
  exact h
theorem vc_X1_clipsAfterCut_5 {x1 x2 x3 x4 : Int} {μ : am_M} {Q : Int → am_M → Prop} (h : (μ 5 1 ≤ x4 → Q x3 μ) ∧ (x4 < μ 5 1 → (in_ 0 32 x4) ∧ (in_ 0 8 1) ∧ (∀ v1 : Int, v1 = (if cg μ x4 1 < x1 then 1 else 0) → (am_in (x3 + v1)) ∧ ((in_ 0 32 x4) ∧ (am_in (en_ (cg μ) x4)) ∧ (∀ v2 : Int, v2 = (if x2 < en_ (cg μ) x4 then 1 else 0) → (am_in ((x3 + v1) + v2)) ∧ ((am_in (x4 + 1)) ∧ (at_I kC 3 mX1_clipsAfterCut 5 [vR 5, vI x1, vI x2, vI ((x3 + v1) + v2), vI (x4 + 1)] [] μ Q))))))) : at_I kC 3 mX1_clipsAfterCut 5 [vR 5, vI x1, vI x2, vI x3, vI x4] [] μ Q := by
  refine s_iload dX1_clipsAfterCut_5 rfl ?_
  refine s_aload_n dX1_clipsAfterCut_7 rfl rfl ?_
  refine s_getI (x := (μ 5 1)) dX1_clipsAfterCut_8 flX1_15 kn5 kk5 rfl rfl ?_
  refine s_icmp_ge dX1_clipsAfterCut_11 (tgt := 57) (by decide) (fun cc => ?_) (fun cc => ?_)
  · have h := h.1 cc
    refine s_iload_n dX1_clipsAfterCut_57 rfl rfl ?_
    exact s_ireturn dX1_clipsAfterCut_58 (Or.inl rfl) ⟨⟨rfl, rfl⟩, _, rfl, h⟩
  · have h := h.2 cc
    refine s_iload_n dX1_clipsAfterCut_14 rfl rfl ?_
    refine s_aload_n dX1_clipsAfterCut_15 rfl rfl ?_
    refine s_iload dX1_clipsAfterCut_16 rfl ?_
    refine s_iconst dX1_clipsAfterCut_18 (by decide) ?_
    obtain ⟨p0, p1, h⟩ := h
    refine s_callV (As := [vI x4, vI 1]) (rest := [vI x3]) (k := 5) dX1_clipsAfterCut_19 lkX1_19 kn5 ⟨by rw [kk5]; rfl, by rw [kk5]; decide⟩ lmX1_get rfl rfl (Nat.le_of_ble_eq_true rfl) (by decide) (Nat.le_refl 0) (Nat.le_refl 0) (hC := sp_X1_get (Q := fun z m => cg μ x4 1 = z ∧ μ = m) p0 p1 ⟨rfl, rfl⟩) (fun r n2 S2 m2 hP => ?_)
    obtain ⟨⟨rfl, rfl⟩, z, rfl, rfl, rfl⟩ := hP
    refine s_iload_n dX1_clipsAfterCut_22 rfl rfl ?_
    have kj4 : ∀ (v1 : Int), ((am_in (x3 + v1)) ∧ ((in_ 0 32 x4) ∧ (am_in (en_ (cg μ) x4)) ∧ (∀ v2 : Int, v2 = (if x2 < en_ (cg μ) x4 then 1 else 0) → (am_in ((x3 + v1) + v2)) ∧ ((am_in (x4 + 1)) ∧ (at_I kC 3 mX1_clipsAfterCut 5 [vR 5, vI x1, vI x2, vI ((x3 + v1) + v2), vI (x4 + 1)] [] μ Q))))) → at_I kC 3 mX1_clipsAfterCut 31 [vR 5, vI x1, vI x2, vU, vI x4] [vI v1, vI x3] μ Q := by
      intro v1 h
      obtain ⟨c, h⟩ := h
      refine s_iadd dX1_clipsAfterCut_31 (am_w_id c) ?_
      refine s_istore_n dX1_clipsAfterCut_32 rfl (by decide) (L' := [vR 5, vI x1, vI x2, vI (x3 + v1), vI x4]) rfl ?_
      refine s_iload_n dX1_clipsAfterCut_33 rfl rfl ?_
      refine s_aload_n dX1_clipsAfterCut_34 rfl rfl ?_
      refine s_iload dX1_clipsAfterCut_35 rfl ?_
      obtain ⟨p0, p1, h⟩ := h
      refine s_callV (As := [vI x4]) (rest := [vI (x3 + v1)]) (k := 5) dX1_clipsAfterCut_37 lkX1_23 kn5 ⟨by rw [kk5]; rfl, by rw [kk5]; decide⟩ lmX1_endOf rfl rfl (Nat.le_of_ble_eq_true rfl) (by decide) (Nat.le_refl 0) (Nat.le_refl 0) (hC := sp_X1_endOf (Q := fun z m => en_ (cg μ) x4 = z ∧ μ = m) p0 p1 ⟨rfl, rfl⟩) (fun r n2 S2 m2 hP => ?_)
      obtain ⟨⟨rfl, rfl⟩, z, rfl, rfl, rfl⟩ := hP
      refine s_iload_n dX1_clipsAfterCut_40 rfl rfl ?_
      have kj3 : ∀ (v2 : Int), ((am_in ((x3 + v1) + v2)) ∧ ((am_in (x4 + 1)) ∧ (at_I kC 3 mX1_clipsAfterCut 5 [vR 5, vI x1, vI x2, vI ((x3 + v1) + v2), vI (x4 + 1)] [] μ Q))) → at_I kC 3 mX1_clipsAfterCut 49 [vR 5, vI x1, vI x2, vU, vI x4] [vI v2, vI (x3 + v1)] μ Q := by
        intro v2 h
        obtain ⟨c, h⟩ := h
        refine s_iadd dX1_clipsAfterCut_49 (am_w_id c) ?_
        refine s_istore_n dX1_clipsAfterCut_50 rfl (by decide) (L' := [vR 5, vI x1, vI x2, vI ((x3 + v1) + v2), vI x4]) rfl ?_
        obtain ⟨c, h⟩ := h
        refine s_iinc dX1_clipsAfterCut_51 rfl (am_w_id c) (by decide) (L' := [vR 5, vI x1, vI x2, vI ((x3 + v1) + v2), vI (x4 + 1)]) rfl ?_
        refine s_goto dX1_clipsAfterCut_54 (tgt := 5) (by decide) ?_
        exact h
      refine s_icmp_le dX1_clipsAfterCut_41 (tgt := 48) (by decide) (fun cc => ?_) (fun cc => ?_)
      · have hp0 := cc
        refine s_iconst dX1_clipsAfterCut_48 (by decide) ?_
        exact am_lesS (kj3 0 (h 0 (by rw [if_neg (Int.not_lt.mpr hp0)]))) ⟨Or.inr rfl, Or.inr rfl, Or.inr rfl, Or.inl rfl, Or.inr rfl, trivial⟩
      · have hp0 := cc
        refine s_iconst dX1_clipsAfterCut_44 (by decide) ?_
        refine s_goto dX1_clipsAfterCut_45 (tgt := 49) (by decide) ?_
        exact am_lesS (kj3 1 (h 1 (by rw [if_pos hp0]))) ⟨Or.inr rfl, Or.inr rfl, Or.inr rfl, Or.inl rfl, Or.inr rfl, trivial⟩
    refine s_icmp_ge dX1_clipsAfterCut_23 (tgt := 30) (by decide) (fun cc => ?_) (fun cc => ?_)
    · have hp0 := cc
      refine s_iconst dX1_clipsAfterCut_30 (by decide) ?_
      exact am_lesS (kj4 0 (h 0 (by rw [if_neg (Int.not_lt.mpr hp0)]))) ⟨Or.inr rfl, Or.inr rfl, Or.inr rfl, Or.inl rfl, Or.inr rfl, trivial⟩
    · have hp0 := cc
      refine s_iconst dX1_clipsAfterCut_26 (by decide) ?_
      refine s_goto dX1_clipsAfterCut_27 (tgt := 31) (by decide) ?_
      exact am_lesS (kj4 1 (h 1 (by rw [if_pos hp0]))) ⟨Or.inr rfl, Or.inr rfl, Or.inr rfl, Or.inl rfl, Or.inr rfl, trivial⟩
theorem ve_X1_clipsAfterCut {x1 x2 : Int} {μ : am_M} {Q : Int → am_M → Prop} (h : at_I kC 3 mX1_clipsAfterCut 0 [vR 5, vI x1, vI x2, vU, vU] [] μ Q) : cl_I kC 3 mX1_clipsAfterCut [vR 5, vI x1, vI x2] μ Q := am_intro pmX1_clipsAfterCut (Nat.le_of_ble_eq_true rfl) rfl h
theorem lp_X1_clipsAfterCut {a b : Int} (hab : a < b) {μ : am_M} {L : List Rw} (ht : tl_ (μ 5 1) (cg μ) L) (hok : ∀ r ∈ L, okC r) (hl : L.length ≤ 32) {Q : Int → am_M → Prop} (hQ : Q ((L.flatMap (cuF a b)).length) μ) : ∀ (B A : List Rw) (x y : Int), L = A ++ B → x = A.length → y = (A.flatMap (cuF a b)).length → y ≤ 2 * x → at_I kC 3 mX1_clipsAfterCut 5 [vR 5, vI a, vI b, vI y, vI x] [] μ Q := by
  intro B
  induction B with
  | nil =>
    intro A x y hL hx hy _
    simp at hL
    subst hL
    exact vc_X1_clipsAfterCut_5 ⟨fun _ => by rw [hy]; exact hQ, fun q => by rw [ht.1] at q; omega⟩
  | cons r B ih =>
    intro A x y hL hx hy y1
    have ht2 := ht
    rw [hL] at ht2
    have hll : L.length = A.length + 1 + B.length := by rw [hL]; simp; omega
    have okT := ok_of ht hl (fun s hs => (hok s hs).R)
    have q1 := okT.1
    have v := fun k k0 k1 => tl_at (k := k) ht2 hx k0 k1
    have hen : en_ (cg μ) x = r 1 + r 4 := by unfold en_; rw [v 1 (by omega) (by omega), v 4 (by omega) (by omega)]
    have hrk : okC r := hok r (by rw [hL]; simp)
    unfold okC at hrk
    have l2 := cuF_len (a := a) (b := b) (r := r)
    refine vc_X1_clipsAfterCut_5 ⟨fun q => by rw [ht.1] at q; omega, fun q => ⟨(by (try unfold am_in); (try unfold in_ at *); omega), (by (try unfold am_in); (try unfold in_ at *); omega), fun v1 e1 => ?_⟩⟩
    rw [v 1 (by omega) (by omega)] at e1
    have b1 : 0 ≤ v1 ∧ v1 ≤ 1 := by rw [e1]; split <;> omega
    refine ⟨(by (try unfold am_in); (try unfold in_ at *); omega), (by (try unfold am_in); (try unfold in_ at *); omega), by rw [hen]; ((try unfold am_in); (try unfold in_ at *); omega), fun v2 e2 => ?_⟩
    rw [hen] at e2
    have b2 : 0 ≤ v2 ∧ v2 ≤ 1 := by rw [e2]; split <;> omega
    rw [← e1, ← e2] at l2
    refine ⟨(by (try unfold am_in); (try unfold in_ at *); omega), (by (try unfold am_in); (try unfold in_ at *); omega), ih (A ++ [r]) _ _ (by rw [hL]; simp) (by simp; omega) ?_ (by omega)⟩
    rw [List.flatMap_append, List.length_append]
    simp only [List.flatMap_cons, List.flatMap_nil, List.append_nil]
    omega
theorem sp_X1_clipsAfterCut {a b : Int} {μ : am_M} (L : List Rw) {Q : Int → am_M → Prop} (hab : a < b) (ht : tl_ (μ 5 1) (cg μ) L) (hok : ∀ r ∈ L, okC r) (hl : L.length ≤ 32) (hQ : Q ((L.flatMap (cuF a b)).length) μ) : cl_I kC 3 mX1_clipsAfterCut [vR 5, vI a, vI b] μ Q :=
  ve_X1_clipsAfterCut (vc_X1_clipsAfterCut_0 (lp_X1_clipsAfterCut hab ht hok hl hQ L [] 0 0 (by simp) rfl rfl (by omega)))
/-- the frames of rows that begin within -/
def inn_ (a b : Int) (r : Rw) : Int := if b ≤ r 1 then 0 else if a ≤ r 1 then r 4 else 0
theorem sum_app (F : Rw → Int) (A B : List Rw) : ((A ++ B).map F).sum = (A.map F).sum + (B.map F).sum := by simp
theorem vc_X1_takeFrames_0 {x1 x2 : Int} {μ : am_M} {Q : Int → am_M → Prop} (h : (am_in (μ 5 1 - 1)) ∧ (at_I kC 3 mX1_takeFrames 10 [vR 5, vI x1, vI x2, vI 0, vI (μ 5 1 - 1), vU] [] μ Q)) : at_I kC 3 mX1_takeFrames 0 [vR 5, vI x1, vI x2, vU, vU, vU] [] μ Q := by
  refine s_iconst dX1_takeFrames_0 (by decide) ?_
  refine s_istore_n dX1_takeFrames_1 rfl (by decide) (L' := [vR 5, vI x1, vI x2, vI 0, vU, vU]) rfl ?_
  refine s_aload_n dX1_takeFrames_2 rfl rfl ?_
  refine s_getI (x := (μ 5 1)) dX1_takeFrames_3 flX1_15 kn5 kk5 rfl rfl ?_
  refine s_iconst dX1_takeFrames_6 (by decide) ?_
  obtain ⟨c, h⟩ := h
  refine s_isub dX1_takeFrames_7 (am_w_id c) ?_
  refine s_istore dX1_takeFrames_8 (by decide) (L' := [vR 5, vI x1, vI x2, vI 0, vI (μ 5 1 - 1), vU]) rfl ?_
  exact h
theorem vc_X1_takeFrames_10 {x1 x2 x3 x4 : Int} {μ : am_M} {Q : Int → am_M → Prop} (h : (x4 < 0 → Q x3 μ) ∧ (0 ≤ x4 → (in_ 0 32 x4) ∧ (in_ 0 8 1) ∧ ((cg μ x4 1 < x2 → (cg μ x4 1 < x1 → (am_in (x4 - 1)) ∧ (at_I kC 3 mX1_takeFrames 10 [vR 5, vI x1, vI x2, vI x3, vI (x4 - 1), vU] [] μ Q)) ∧ (x1 ≤ cg μ x4 1 → (in_ 0 32 x4) ∧ (in_ 0 8 4) ∧ ((am_in (x3 + (cg μ x4 4))) ∧ ((in_ 0 33 (μ 5 1)) ∧ (0 ≤ x4 ∧ x4 < μ 5 1) ∧ (∀ m2 : am_M, ck_ μ m2 (μ 5 1 - 1) (del_T (cg μ) x4) → (am_in (x4 - 1)) ∧ (at_I kC 3 mX1_takeFrames 10 [vR 5, vI x1, vI x2, vI (x3 + (cg μ x4 4)), vI (x4 - 1), vU] [] m2 Q)))))) ∧ (x2 ≤ cg μ x4 1 → (am_in (x2 - x1)) ∧ ((am_in (cg μ x4 1 - (x2 - x1))) ∧ ((in_ 0 32 x4) ∧ (in_ 0 8 1) ∧ (in_ 0 33 (μ 5 1)) ∧ (∀ m4 : am_M, ck_ μ m4 (μ 5 1) (up_T (cg μ) x4 1 (cg μ x4 1 - (x2 - x1))) → (am_in (x4 - 1)) ∧ (at_I kC 3 mX1_takeFrames 10 [vR 5, vI x1, vI x2, vI x3, vI (x4 - 1), vU] [] m4 Q)))))))) : at_I kC 3 mX1_takeFrames 10 [vR 5, vI x1, vI x2, vI x3, vI x4, vU] [] μ Q := by
  refine s_iload dX1_takeFrames_10 rfl ?_
  refine s_if_lt dX1_takeFrames_12 (tgt := 74) (by decide) (fun cc => ?_) (fun cc => ?_)
  · have h := h.1 cc
    refine s_iload_n dX1_takeFrames_74 rfl rfl ?_
    exact s_ireturn dX1_takeFrames_75 (Or.inl rfl) ⟨⟨rfl, rfl⟩, _, rfl, h⟩
  · have h := h.2 cc
    refine s_aload_n dX1_takeFrames_15 rfl rfl ?_
    refine s_iload dX1_takeFrames_16 rfl ?_
    refine s_iconst dX1_takeFrames_18 (by decide) ?_
    obtain ⟨p0, p1, h⟩ := h
    refine s_callV (As := [vI x4, vI 1]) (rest := []) (k := 5) dX1_takeFrames_19 lkX1_19 kn5 ⟨by rw [kk5]; rfl, by rw [kk5]; decide⟩ lmX1_get rfl rfl (Nat.le_of_ble_eq_true rfl) (by decide) (Nat.le_refl 0) (Nat.le_refl 0) (hC := sp_X1_get (Q := fun z m => cg μ x4 1 = z ∧ μ = m) p0 p1 ⟨rfl, rfl⟩) (fun r n2 S2 m2 hP => ?_)
    obtain ⟨⟨rfl, rfl⟩, z, rfl, rfl, rfl⟩ := hP
    refine s_istore dX1_takeFrames_22 (by decide) (L' := [vR 5, vI x1, vI x2, vI x3, vI x4, vI (cg μ x4 1)]) rfl ?_
    refine s_iload dX1_takeFrames_24 rfl ?_
    refine s_iload_n dX1_takeFrames_26 rfl rfl ?_
    refine s_icmp_lt dX1_takeFrames_27 (tgt := 46) (by decide) (fun cc => ?_) (fun cc => ?_)
    · have h := h.1 cc
      refine s_iload dX1_takeFrames_46 rfl ?_
      refine s_iload_n dX1_takeFrames_48 rfl rfl ?_
      refine s_icmp_lt dX1_takeFrames_49 (tgt := 68) (by decide) (fun cc => ?_) (fun cc => ?_)
      · have h := h.1 cc
        obtain ⟨c, h⟩ := h
        refine s_iinc dX1_takeFrames_68 rfl (am_w_id c) (by decide) (L' := [vR 5, vI x1, vI x2, vI x3, vI (x4 - 1), vI (cg μ x4 1)]) rfl ?_
        refine s_goto dX1_takeFrames_71 (tgt := 10) (by decide) ?_
        exact am_lesS h ⟨Or.inr rfl, Or.inr rfl, Or.inr rfl, Or.inr rfl, Or.inr rfl, Or.inl rfl, trivial⟩
      · have h := h.2 cc
        refine s_iload_n dX1_takeFrames_52 rfl rfl ?_
        refine s_aload_n dX1_takeFrames_53 rfl rfl ?_
        refine s_iload dX1_takeFrames_54 rfl ?_
        refine s_iconst dX1_takeFrames_56 (by decide) ?_
        obtain ⟨p0, p1, h⟩ := h
        refine s_callV (As := [vI x4, vI 4]) (rest := [vI x3]) (k := 5) dX1_takeFrames_57 lkX1_19 kn5 ⟨by rw [kk5]; rfl, by rw [kk5]; decide⟩ lmX1_get rfl rfl (Nat.le_of_ble_eq_true rfl) (by decide) (Nat.le_refl 0) (Nat.le_refl 0) (hC := sp_X1_get (Q := fun z m => cg μ x4 4 = z ∧ μ = m) p0 p1 ⟨rfl, rfl⟩) (fun r n2 S2 m2 hP => ?_)
        obtain ⟨⟨rfl, rfl⟩, z, rfl, rfl, rfl⟩ := hP
        obtain ⟨c, h⟩ := h
        refine s_iadd dX1_takeFrames_60 (am_w_id c) ?_
        refine s_istore_n dX1_takeFrames_61 rfl (by decide) (L' := [vR 5, vI x1, vI x2, vI (x3 + (cg μ x4 4)), vI x4, vI (cg μ x4 1)]) rfl ?_
        refine s_aload_n dX1_takeFrames_62 rfl rfl ?_
        refine s_iload dX1_takeFrames_63 rfl ?_
        obtain ⟨p0, p1, h⟩ := h
        refine s_callV (As := [vI x4]) (rest := []) (k := 5) dX1_takeFrames_65 lkX1_57 kn5 ⟨by rw [kk5]; rfl, by rw [kk5]; decide⟩ lmX1_closeRow rfl rfl (Nat.le_of_ble_eq_true rfl) (by decide) (Nat.le_refl 0) (Nat.le_refl 0) (hC := sp_X1_closeRow  p0 p1) (fun r n2 S2 m2 hP => ?_)
        obtain ⟨⟨rfl, rfl⟩, rfl, hq⟩ := hP
        have h := h m2 hq
        obtain ⟨c, h⟩ := h
        refine s_iinc dX1_takeFrames_68 rfl (am_w_id c) (by decide) (L' := [vR 5, vI x1, vI x2, vI (x3 + (cg μ x4 4)), vI (x4 - 1), vI (cg μ x4 1)]) rfl ?_
        refine s_goto dX1_takeFrames_71 (tgt := 10) (by decide) ?_
        exact am_lesS h ⟨Or.inr rfl, Or.inr rfl, Or.inr rfl, Or.inr rfl, Or.inr rfl, Or.inl rfl, trivial⟩
    · have h := h.2 cc
      refine s_aload_n dX1_takeFrames_30 rfl rfl ?_
      refine s_iload dX1_takeFrames_31 rfl ?_
      refine s_iconst dX1_takeFrames_33 (by decide) ?_
      refine s_iload dX1_takeFrames_34 rfl ?_
      refine s_iload_n dX1_takeFrames_36 rfl rfl ?_
      refine s_iload_n dX1_takeFrames_37 rfl rfl ?_
      obtain ⟨c, h⟩ := h
      refine s_isub dX1_takeFrames_38 (am_w_id c) ?_
      obtain ⟨c, h⟩ := h
      refine s_isub dX1_takeFrames_39 (am_w_id c) ?_
      obtain ⟨p0, p1, p2, h⟩ := h
      refine s_callV (As := [vI x4, vI 1, vI (cg μ x4 1 - (x2 - x1))]) (rest := []) (k := 5) dX1_takeFrames_40 lkX1_42 kn5 ⟨by rw [kk5]; rfl, by rw [kk5]; decide⟩ lmX1_put rfl rfl (Nat.le_of_ble_eq_true rfl) (by decide) (Nat.le_refl 0) (Nat.le_refl 0) (hC := sp_X1_putP  p0 p1 p2) (fun r n2 S2 m4 hP => ?_)
      obtain ⟨⟨rfl, rfl⟩, rfl, hq⟩ := hP
      have h := h m4 hq
      refine s_goto dX1_takeFrames_43 (tgt := 68) (by decide) ?_
      obtain ⟨c, h⟩ := h
      refine s_iinc dX1_takeFrames_68 rfl (am_w_id c) (by decide) (L' := [vR 5, vI x1, vI x2, vI x3, vI (x4 - 1), vI (cg μ x4 1)]) rfl ?_
      refine s_goto dX1_takeFrames_71 (tgt := 10) (by decide) ?_
      exact am_lesS h ⟨Or.inr rfl, Or.inr rfl, Or.inr rfl, Or.inr rfl, Or.inr rfl, Or.inl rfl, trivial⟩
theorem ve_X1_takeFrames {x1 x2 : Int} {μ : am_M} {Q : Int → am_M → Prop} (h : at_I kC 3 mX1_takeFrames 0 [vR 5, vI x1, vI x2, vU, vU, vU] [] μ Q) : cl_I kC 3 mX1_takeFrames [vR 5, vI x1, vI x2] μ Q := am_intro pmX1_takeFrames (Nat.le_of_ble_eq_true rfl) rfl h
theorem lp_X1_takeFrames {a b : Int} (hab : 0 ≤ a ∧ a < b ∧ b ≤ 600) {μ0 : am_M} {L : List Rw} (hok : ∀ r ∈ L, okC r) (hl : L.length ≤ 32) {Q : Int → am_M → Prop} (hQ : ∀ m, fr_ [5, 6] μ0 m → tl_ (m 5 1) (cg m) (L.flatMap (tkF a b)) → Q ((L.map (inn_ a b)).sum) m) : ∀ (n : Nat) (x y : Int) (A B : List Rw) (μ : am_M), A.length = n → x = (n : Int) - 1 → L = A ++ B → y = (B.map (inn_ a b)).sum → 0 ≤ y → y ≤ 200 * B.length → fr_ [5, 6] μ0 μ → tl_ (μ 5 1) (cg μ) (A ++ B.flatMap (tkF a b)) → (A ++ B.flatMap (tkF a b)).length ≤ 32 → at_I kC 3 mX1_takeFrames 10 [vR 5, vI a, vI b, vI y, vI x, vU] [] μ Q := by
  intro n
  induction n with
  | zero =>
    intro x y A B μ hA hx hL hy _ _ hfr ht _
    have : A = [] := List.eq_nil_of_length_eq_zero hA
    subst this
    simp at hL
    subst hL
    refine vc_X1_takeFrames_10 ⟨fun _ => by rw [hy]; exact hQ μ hfr (by simpa using ht), fun q => by omega⟩
  | succ n ih =>
    intro x y A B μ hA hx hL hy y0 y1 hfr ht hlen
    obtain ⟨A', r, B', e1, e2⟩ := split_last (L := A) (x := x) (by omega) (by omega)
    have hB' : B' = [] := by
      have : A.length = A'.length + 1 + B'.length := by rw [e1]; simp; omega
      exact List.eq_nil_of_length_eq_zero (by omega)
    subst hB'
    subst e1
    have hrk : okC r := hok r (by rw [hL]; simp)
    unfold okC at hrk
    have ht2 : tl_ (μ 5 1) (cg μ) (A' ++ r :: B.flatMap (tkF a b)) := by simpa using ht
    have hln : (A' ++ r :: B.flatMap (tkF a b)).length ≤ 32 := by simpa using hlen
    have hl3 : (A' ++ r :: B.flatMap (tkF a b)).length = A'.length + 1 + (B.flatMap (tkF a b)).length := by rw [List.length_append, List.length_cons]; omega
    have hn : μ 5 1 = A'.length + 1 + (B.flatMap (tkF a b)).length := by rw [ht2.1, hl3]; omega
    have hLL : L.length = A'.length + 1 + B.length := by rw [hL]; simp; omega
    have v := fun k k0 k1 => tl_at (k := k) ht2 e2 k0 k1
    have hs : ((r :: B).map (inn_ a b)).sum = inn_ a b r + (B.map (inn_ a b)).sum := by simp
    have nx : ∀ (y' : Int) (m : am_M), y' = inn_ a b r + y → 0 ≤ y' → y' ≤ y + 200 → fr_ [5, 6] μ0 m → tl_ (m 5 1) (cg m) (A' ++ (tkF a b r ++ B.flatMap (tkF a b))) → (tkF a b r).length ≤ 1 → at_I kC 3 mX1_takeFrames 10 [vR 5, vI a, vI b, vI y', vI (x - 1), vU] [] m Q := fun y' m h1 h2 h3 h4 h5 h6 => by
      refine ih (x - 1) y' A' (r :: B) m (by simpa using hA) (by omega) (by rw [hL]; simp) (by rw [hs, h1, hy]) h2 (by simp; omega) h4 ?_ ?_
      · rw [List.flatMap_cons]; exact h5
      · rw [List.flatMap_cons, List.length_append, List.length_append]; omega
    refine vc_X1_takeFrames_10 ⟨fun q => by omega, fun q => ⟨(by (try unfold am_in); (try unfold in_ at *); omega), (by (try unfold am_in); (try unfold in_ at *); omega), fun h1 => ⟨fun h2 => ⟨(by (try unfold am_in); (try unfold in_ at *); omega), ?_⟩, fun h2 => ⟨(by (try unfold am_in); (try unfold in_ at *); omega), (by (try unfold am_in); (try unfold in_ at *); omega), by rw [v 4 (by omega) (by omega)]; ((try unfold am_in); (try unfold in_ at *); omega), (by (try unfold am_in); (try unfold in_ at *); omega), by omega, fun m hm => ⟨(by (try unfold am_in); (try unfold in_ at *); omega), ?_⟩⟩⟩, fun h1 => ⟨(by (try unfold am_in); (try unfold in_ at *); omega), by rw [v 1 (by omega) (by omega)]; ((try unfold am_in); (try unfold in_ at *); omega), (by (try unfold am_in); (try unfold in_ at *); omega), (by (try unfold am_in); (try unfold in_ at *); omega), (by (try unfold am_in); (try unfold in_ at *); omega), fun m hm => ⟨(by (try unfold am_in); (try unfold in_ at *); omega), ?_⟩⟩⟩⟩
    · rw [v 1 (by omega) (by omega)] at h1 h2
      have t1 : tkF a b r = [r] := by unfold tkF; rw [if_neg (by omega), if_neg (by omega)]
      have t2 : inn_ a b r = 0 := by unfold inn_; rw [if_neg (by omega), if_neg (by omega)]
      exact nx y μ (by rw [t2]; omega) y0 (by omega) hfr (by rw [t1]; simpa using ht2) (by rw [t1]; simp)
    · rw [v 1 (by omega) (by omega)] at h1 h2
      have t1 : tkF a b r = [] := by unfold tkF; rw [if_neg (by omega), if_pos (by omega)]
      have t2 : inn_ a b r = r 4 := by unfold inn_; rw [if_neg (by omega), if_pos (by omega)]
      refine nx _ m (by rw [t2, v 4 (by omega) (by omega)]; omega) (by rw [v 4 (by omega) (by omega)]; ((try unfold am_in); (try unfold in_ at *); omega)) (by rw [v 4 (by omega) (by omega)]; ((try unfold am_in); (try unfold in_ at *); omega)) (fr_tr hfr hm.1) ?_ (by rw [t1]; simp)
      rw [t1, hm.2.1]
      exact tl_eq hm.2.2 (by simpa using tl_del ht2 e2)
    · rw [v 1 (by omega) (by omega)] at h1
      have t1 : tkF a b r = [shf r (a - b)] := by unfold tkF; rw [if_pos (by omega)]
      have t2 : inn_ a b r = 0 := by unfold inn_; rw [if_pos (by omega)]
      refine nx y m (by rw [t2]; omega) y0 (by omega) (fr_tr hfr hm.1) ?_ (by rw [t1]; simp)
      rw [t1, hm.2.1]
      rw [v 1 (by omega) (by omega)] at hm
      refine tl_eq hm.2.2 (tl_up ht2 e2 (s := shf r (a - b)) (fun k k0 k1 => ?_))
      unfold shf
      split <;> omega
theorem sp_X1_takeFrames {a b : Int} {μ : am_M} (L : List Rw) (hab : 0 ≤ a ∧ a < b ∧ b ≤ 600) (ht : tl_ (μ 5 1) (cg μ) L) (hok : ∀ r ∈ L, okC r) (hl : L.length ≤ 32) : cl_I kC 3 mX1_takeFrames [vR 5, vI a, vI b] μ (fun z m => z = (L.map (inn_ a b)).sum ∧ fr_ [5, 6] μ m ∧ tl_ (m 5 1) (cg m) (L.flatMap (tkF a b))) := by
  refine ve_X1_takeFrames (vc_X1_takeFrames_0 ⟨by rw [ht.1]; ((try unfold am_in); (try unfold in_ at *); omega), ?_⟩)
  exact lp_X1_takeFrames hab (μ0 := μ) hok hl (fun m h1 h2 => ⟨rfl, h1, h2⟩) L.length (μ 5 1 - 1) 0 L [] μ rfl (by rw [ht.1]) (by simp) rfl (by omega) (by simp) fr_rf (by simpa using ht) (by simpa using hl)
theorem vc_X1_giveFrames_0 {x1 x2 : Int} {μ : am_M} {Q : am_M → Prop} (h : at_V kC 2 mX1_giveFrames 2 [vR 5, vI x1, vI x2, vI 0] [] μ Q) : at_V kC 2 mX1_giveFrames 0 [vR 5, vI x1, vI x2, vU] [] μ Q := by
  refine s_iconst dX1_giveFrames_0 (by decide) ?_
  refine s_istore_n dX1_giveFrames_1 rfl (by decide) (L' := [vR 5, vI x1, vI x2, vI 0]) rfl ?_
  exact h
theorem vc_X1_giveFrames_2 {x1 x2 x3 : Int} {μ : am_M} {Q : am_M → Prop} (h : (μ 5 1 ≤ x3 → Q μ) ∧ (x3 < μ 5 1 → (in_ 0 32 x3) ∧ (in_ 0 8 1) ∧ ((cg μ x3 1 < x1 → (am_in (x3 + 1)) ∧ (at_V kC 2 mX1_giveFrames 2 [vR 5, vI x1, vI x2, vI (x3 + 1)] [] μ Q)) ∧ (x1 ≤ cg μ x3 1 → (in_ 0 32 x3) ∧ (in_ 0 8 1) ∧ ((am_in (cg μ x3 1 + x2)) ∧ ((in_ 0 32 x3) ∧ (in_ 0 8 1) ∧ (in_ 0 33 (μ 5 1)) ∧ (∀ m2 : am_M, ck_ μ m2 (μ 5 1) (up_T (cg μ) x3 1 (cg μ x3 1 + x2)) → (am_in (x3 + 1)) ∧ (at_V kC 2 mX1_giveFrames 2 [vR 5, vI x1, vI x2, vI (x3 + 1)] [] m2 Q)))))))) : at_V kC 2 mX1_giveFrames 2 [vR 5, vI x1, vI x2, vI x3] [] μ Q := by
  refine s_iload_n dX1_giveFrames_2 rfl rfl ?_
  refine s_aload_n dX1_giveFrames_3 rfl rfl ?_
  refine s_getI (x := (μ 5 1)) dX1_giveFrames_4 flX1_15 kn5 kk5 rfl rfl ?_
  refine s_icmp_ge dX1_giveFrames_7 (tgt := 40) (by decide) (fun cc => ?_) (fun cc => ?_)
  · have h := h.1 cc
    exact s_return dX1_giveFrames_40 rfl ⟨⟨rfl, rfl⟩, rfl, h⟩
  · have h := h.2 cc
    refine s_aload_n dX1_giveFrames_10 rfl rfl ?_
    refine s_iload_n dX1_giveFrames_11 rfl rfl ?_
    refine s_iconst dX1_giveFrames_12 (by decide) ?_
    obtain ⟨p0, p1, h⟩ := h
    refine s_callV (As := [vI x3, vI 1]) (rest := []) (k := 5) dX1_giveFrames_13 lkX1_19 kn5 ⟨by rw [kk5]; rfl, by rw [kk5]; decide⟩ lmX1_get rfl rfl (Nat.le_of_ble_eq_true rfl) (by decide) (Nat.le_refl 0) (Nat.le_refl 0) (hC := sp_X1_get (Q := fun z m => cg μ x3 1 = z ∧ μ = m) p0 p1 ⟨rfl, rfl⟩) (fun r n2 S2 m2 hP => ?_)
    obtain ⟨⟨rfl, rfl⟩, z, rfl, rfl, rfl⟩ := hP
    refine s_iload_n dX1_giveFrames_16 rfl rfl ?_
    refine s_icmp_lt dX1_giveFrames_17 (tgt := 34) (by decide) (fun cc => ?_) (fun cc => ?_)
    · have h := h.1 cc
      obtain ⟨c, h⟩ := h
      refine s_iinc dX1_giveFrames_34 rfl (am_w_id c) (by decide) (L' := [vR 5, vI x1, vI x2, vI (x3 + 1)]) rfl ?_
      refine s_goto dX1_giveFrames_37 (tgt := 2) (by decide) ?_
      exact h
    · have h := h.2 cc
      refine s_aload_n dX1_giveFrames_20 rfl rfl ?_
      refine s_iload_n dX1_giveFrames_21 rfl rfl ?_
      refine s_iconst dX1_giveFrames_22 (by decide) ?_
      refine s_aload_n dX1_giveFrames_23 rfl rfl ?_
      refine s_iload_n dX1_giveFrames_24 rfl rfl ?_
      refine s_iconst dX1_giveFrames_25 (by decide) ?_
      obtain ⟨p0, p1, h⟩ := h
      refine s_callV (As := [vI x3, vI 1]) (rest := [vI 1, vI x3, vR 5]) (k := 5) dX1_giveFrames_26 lkX1_19 kn5 ⟨by rw [kk5]; rfl, by rw [kk5]; decide⟩ lmX1_get rfl rfl (Nat.le_of_ble_eq_true rfl) (by decide) (Nat.le_refl 0) (Nat.le_refl 0) (hC := sp_X1_get (Q := fun z m => cg μ x3 1 = z ∧ μ = m) p0 p1 ⟨rfl, rfl⟩) (fun r n2 S2 m2 hP => ?_)
      obtain ⟨⟨rfl, rfl⟩, z, rfl, rfl, rfl⟩ := hP
      refine s_iload_n dX1_giveFrames_29 rfl rfl ?_
      obtain ⟨c, h⟩ := h
      refine s_iadd dX1_giveFrames_30 (am_w_id c) ?_
      obtain ⟨p0, p1, p2, h⟩ := h
      refine s_callV (As := [vI x3, vI 1, vI (cg μ x3 1 + x2)]) (rest := []) (k := 5) dX1_giveFrames_31 lkX1_42 kn5 ⟨by rw [kk5]; rfl, by rw [kk5]; decide⟩ lmX1_put rfl rfl (Nat.le_of_ble_eq_true rfl) (by decide) (Nat.le_refl 0) (Nat.le_refl 0) (hC := sp_X1_putP  p0 p1 p2) (fun r n2 S2 m2 hP => ?_)
      obtain ⟨⟨rfl, rfl⟩, rfl, hq⟩ := hP
      have h := h m2 hq
      obtain ⟨c, h⟩ := h
      refine s_iinc dX1_giveFrames_34 rfl (am_w_id c) (by decide) (L' := [vR 5, vI x1, vI x2, vI (x3 + 1)]) rfl ?_
      refine s_goto dX1_giveFrames_37 (tgt := 2) (by decide) ?_
      exact h
theorem ve_X1_giveFrames {x1 x2 : Int} {μ : am_M} {Q : am_M → Prop} (h : at_V kC 2 mX1_giveFrames 0 [vR 5, vI x1, vI x2, vU] [] μ Q) : cl_V kC 2 mX1_giveFrames [vR 5, vI x1, vI x2] μ Q := am_intro pmX1_giveFrames (Nat.le_of_ble_eq_true rfl) rfl h
theorem lp_X1_giveFrames {a l : Int} (hal : 0 ≤ l ∧ l ≤ 600) {μ0 : am_M} {L : List Rw} (hok : ∀ r ∈ L, okC r) (hl : L.length ≤ 32) {Q : am_M → Prop} (hQ : ∀ m, fr_ [5, 6] μ0 m → tl_ (m 5 1) (cg m) (L.map (gvR a l)) → Q m) : ∀ (B A : List Rw) (x : Int) (μ : am_M), L = A ++ B → x = A.length → fr_ [5, 6] μ0 μ → tl_ (μ 5 1) (cg μ) (A.map (gvR a l) ++ B) → at_V kC 2 mX1_giveFrames 2 [vR 5, vI a, vI l, vI x] [] μ Q := by
  intro B
  induction B with
  | nil =>
    intro A x μ hL hx hfr ht
    simp at hL
    subst hL
    refine vc_X1_giveFrames_2 ⟨fun _ => hQ μ hfr (by simpa using ht), fun q => ?_⟩
    have := ht.1
    simp at this
    omega
  | cons r B ih =>
    intro A x μ hL hx hfr ht
    have hLL : L.length = A.length + 1 + B.length := by rw [hL]; simp; omega
    have hn : μ 5 1 = A.length + 1 + B.length := by rw [ht.1]; simp; omega
    have hx' : x = (A.map (gvR a l)).length := by simpa using hx
    have v := fun k k0 k1 => tl_at (k := k) ht hx' k0 k1
    have hrk : okC r := hok r (by rw [hL]; simp)
    unfold okC at hrk
    have nx : ∀ m : am_M, fr_ [5, 6] μ0 m → tl_ (m 5 1) (cg m) (A.map (gvR a l) ++ gvR a l r :: B) → at_V kC 2 mX1_giveFrames 2 [vR 5, vI a, vI l, vI (x + 1)] [] m Q := fun m h1 h2 => ih (A ++ [r]) (x + 1) m (by rw [hL]; simp) (by simp; omega) h1 (by simpa using h2)
    refine vc_X1_giveFrames_2 ⟨fun q => by omega, fun q => ⟨(by (try unfold am_in); (try unfold in_ at *); omega), (by (try unfold am_in); (try unfold in_ at *); omega), fun h1 => ⟨(by (try unfold am_in); (try unfold in_ at *); omega), nx μ hfr ?_⟩, fun h1 => ⟨(by (try unfold am_in); (try unfold in_ at *); omega), (by (try unfold am_in); (try unfold in_ at *); omega), by rw [v 1 (by omega) (by omega)]; ((try unfold am_in); (try unfold in_ at *); omega), (by (try unfold am_in); (try unfold in_ at *); omega), (by (try unfold am_in); (try unfold in_ at *); omega), (by (try unfold am_in); (try unfold in_ at *); omega), fun m hm => ⟨(by (try unfold am_in); (try unfold in_ at *); omega), nx m (fr_tr hfr hm.1) ?_⟩⟩⟩⟩
    · rw [v 1 (by omega) (by omega)] at h1
      have t1 : gvR a l r = r := by unfold gvR; rw [if_neg (by omega)]
      rw [t1]
      exact ht
    · rw [v 1 (by omega) (by omega)] at h1
      have t1 : gvR a l r = shf r l := by unfold gvR; rw [if_pos h1]
      rw [t1, hm.2.1]
      rw [v 1 (by omega) (by omega)] at hm
      refine tl_eq hm.2.2 (tl_up ht hx' (s := shf r l) (fun k k0 k1 => ?_))
      unfold shf
      split <;> rfl
theorem sp_X1_giveFrames {a l : Int} {μ : am_M} (L : List Rw) (hal : 0 ≤ l ∧ l ≤ 600) (ht : tl_ (μ 5 1) (cg μ) L) (hok : ∀ r ∈ L, okC r) (hl : L.length ≤ 32) : cl_V kC 2 mX1_giveFrames [vR 5, vI a, vI l] μ (fun m => fr_ [5, 6] μ m ∧ tl_ (m 5 1) (cg m) (L.map (gvR a l))) :=
  ve_X1_giveFrames (vc_X1_giveFrames_0 (lp_X1_giveFrames hal (μ0 := μ) hok hl (fun m h1 h2 => ⟨h1, h2⟩) L [] 0 μ (by simp) rfl fr_rf (by simpa using ht)))

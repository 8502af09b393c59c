def cg (μ : am_M) (i w : Int) : Int := μ 6 (i * 8 + w).toNat
def cn (μ : am_M) : Int := μ 5 1
def ends (μ : am_M) (i : Int) : Int := cg μ i 1 + cg μ i 4
theorem vc_X1_get_0 {x1 x2 : Int} {μ : am_M} {Q : Int → am_M → Prop} (h : (am_in (x1 * 8)) ∧ ((am_in ((x1 * 8) + x2)) ∧ ((0 ≤ (x1 * 8) + x2) ∧ ((x1 * 8) + x2 < 256) ∧ (Q (μ 6 ((x1 * 8) + x2).toNat) μ)))) : at_I kC 1 mX1_get 0 [vR 5, vI x1, vI x2] [] μ Q := by
  refine s_aload_n dX1_get_0 rfl rfl ?_
  refine s_getR dX1_get_1 flX1_9 kn5 kk5 rfl kr5_0 ?_
  refine s_iload_n dX1_get_4 rfl rfl ?_
  refine s_bipush dX1_get_5 (by decide) ?_
  obtain ⟨c, h⟩ := h
  refine s_imul dX1_get_7 (am_w_id c) ?_
  refine s_iload_n dX1_get_8 rfl rfl ?_
  obtain ⟨c, h⟩ := h
  refine s_iadd dX1_get_9 (am_w_id c) ?_
  obtain ⟨c, c2, h⟩ := h
  refine s_iald dX1_get_10 kn6 kk6 kl6 c c2 rfl ?_
  exact s_ireturn dX1_get_11 (Or.inl rfl) ⟨⟨rfl, rfl⟩, _, rfl, h⟩
theorem ve_X1_get {x1 x2 : Int} {μ : am_M} {Q : Int → am_M → Prop} (h : at_I kC 1 mX1_get 0 [vR 5, vI x1, vI x2] [] μ Q) : cl_I kC 1 mX1_get [vR 5, vI x1, vI x2] μ Q := am_intro pmX1_get (Nat.le_of_ble_eq_true rfl) rfl h
theorem sp_X1_get {μ : am_M} {c w : Int} {Q : Int → am_M → Prop} (h0 : in_ 0 32 c) (h1 : in_ 0 8 w) (hQ : Q (cg μ c w) μ) : cl_I kC 1 mX1_get [vR 5, vI c, vI w] μ Q :=
  ve_X1_get (vc_X1_get_0 ⟨by unfold am_in; unfold in_ at *; omega, by unfold am_in; unfold in_ at *; omega, by unfold in_ at *; omega, by unfold in_ at *; omega, hQ⟩)
theorem vc_X1_endOf_0 {x1 : Int} {μ : am_M} {Q : Int → am_M → Prop} (h : (in_ 0 32 x1) ∧ (in_ 0 8 1) ∧ ((in_ 0 32 x1) ∧ (in_ 0 8 4) ∧ ((am_in (cg μ x1 1 + (cg μ x1 4))) ∧ (Q (cg μ x1 1 + (cg μ x1 4)) μ)))) : at_I kC 2 mX1_endOf 0 [vR 5, vI x1] [] μ Q := by
  refine s_aload_n dX1_endOf_0 rfl rfl ?_
  refine s_iload_n dX1_endOf_1 rfl rfl ?_
  refine s_iconst dX1_endOf_2 (by decide) ?_
  obtain ⟨p0, p1, h⟩ := h
  refine s_callV (As := [vI x1, vI 1]) (rest := []) (k := 5) dX1_endOf_3 lkX1_19 kn5 ⟨by rw [kk5]; rfl, by rw [kk5]; decide⟩ lmX1_get rfl rfl (Nat.le_of_ble_eq_true rfl) (by decide) (Nat.le_refl 0) (Nat.le_refl 0) (hC := sp_X1_get (Q := fun z m => cg μ x1 1 = z ∧ μ = m) p0 p1 ⟨rfl, rfl⟩) (fun r n2 S2 m2 hP => ?_)
  obtain ⟨⟨rfl, rfl⟩, z, rfl, rfl, rfl⟩ := hP
  refine s_aload_n dX1_endOf_6 rfl rfl ?_
  refine s_iload_n dX1_endOf_7 rfl rfl ?_
  refine s_iconst dX1_endOf_8 (by decide) ?_
  obtain ⟨p0, p1, h⟩ := h
  refine s_callV (As := [vI x1, vI 4]) (rest := [vI (cg μ x1 1)]) (k := 5) dX1_endOf_9 lkX1_19 kn5 ⟨by rw [kk5]; rfl, by rw [kk5]; decide⟩ lmX1_get rfl rfl (Nat.le_of_ble_eq_true rfl) (by decide) (Nat.le_refl 0) (Nat.le_refl 0) (hC := sp_X1_get (Q := fun z m => cg μ x1 4 = z ∧ μ = m) p0 p1 ⟨rfl, rfl⟩) (fun r n2 S2 m2 hP => ?_)
  obtain ⟨⟨rfl, rfl⟩, z, rfl, rfl, rfl⟩ := hP
  obtain ⟨c, h⟩ := h
  refine s_iadd dX1_endOf_12 (am_w_id c) ?_
  exact s_ireturn dX1_endOf_13 (Or.inl rfl) ⟨⟨rfl, rfl⟩, _, rfl, h⟩
theorem ve_X1_endOf {x1 : Int} {μ : am_M} {Q : Int → am_M → Prop} (h : at_I kC 2 mX1_endOf 0 [vR 5, vI x1] [] μ Q) : cl_I kC 2 mX1_endOf [vR 5, vI x1] μ Q := am_intro pmX1_endOf (Nat.le_of_ble_eq_true rfl) rfl h
theorem sp_X1_endOf {μ : am_M} {c : Int} {Q : Int → am_M → Prop} (h0 : in_ 0 32 c) (h1 : am_in (ends μ c)) (hQ : Q (ends μ c) μ) : cl_I kC 2 mX1_endOf [vR 5, vI c] μ Q :=
  ve_X1_endOf (vc_X1_endOf_0 ⟨h0, by unfold in_; omega, h0, by unfold in_; omega, h1, hQ⟩)
theorem vc_X1_lastEnd_0 {μ : am_M} {Q : Int → am_M → Prop} (h : at_I kC 3 mX1_lastEnd 4 [vR 5, vI 0, vI 0] [] μ Q) : at_I kC 3 mX1_lastEnd 0 [vR 5, vU, vU] [] μ Q := by
  refine s_iconst dX1_lastEnd_0 (by decide) ?_
  refine s_istore_n dX1_lastEnd_1 rfl (by decide) (L' := [vR 5, vI 0, vU]) rfl ?_
  refine s_iconst dX1_lastEnd_2 (by decide) ?_
  refine s_istore_n dX1_lastEnd_3 rfl (by decide) (L' := [vR 5, vI 0, vI 0]) rfl ?_
  exact h
theorem vc_X1_lastEnd_4 {x1 x2 : Int} {μ : am_M} {Q : Int → am_M → Prop} (h : (μ 5 1 ≤ x2 → Q x1 μ) ∧ (x2 < μ 5 1 → (in_ 0 32 x2) ∧ (am_in (ends μ x2)) ∧ ((am_in (x2 + 1)) ∧ (at_I kC 3 mX1_lastEnd 4 [vR 5, vI (if x1 < ends μ x2 then ends μ x2 else x1), vI (x2 + 1)] [] μ Q)))) : at_I kC 3 mX1_lastEnd 4 [vR 5, vI x1, vI x2] [] μ Q := by
  refine s_iload_n dX1_lastEnd_4 rfl rfl ?_
  refine s_aload_n dX1_lastEnd_5 rfl rfl ?_
  refine s_getI dX1_lastEnd_6 flX1_15 kn5 kk5 rfl rfl ?_
  refine s_icmp_ge dX1_lastEnd_9 (tgt := 28) (by decide) (fun cc => ?_) (fun cc => ?_)
  · have h := h.1 cc
    refine s_iload_n dX1_lastEnd_28 rfl rfl ?_
    exact s_ireturn dX1_lastEnd_29 (Or.inl rfl) ⟨⟨rfl, rfl⟩, _, rfl, h⟩
  · have h := h.2 cc
    refine s_iload_n dX1_lastEnd_12 rfl rfl ?_
    refine s_aload_n dX1_lastEnd_13 rfl rfl ?_
    refine s_iload_n dX1_lastEnd_14 rfl rfl ?_
    obtain ⟨p0, p1, h⟩ := h
    refine s_callV (As := [vI x2]) (rest := [vI x1]) (k := 5) dX1_lastEnd_15 lkX1_23 kn5 ⟨by rw [kk5]; rfl, by rw [kk5]; decide⟩ lmX1_endOf rfl rfl (Nat.le_of_ble_eq_true rfl) (by decide) (Nat.le_refl 0) (Nat.le_refl 0) (hC := sp_X1_endOf (Q := fun z m => ends μ x2 = z ∧ μ = m) p0 p1 ⟨rfl, rfl⟩) (fun r n2 S2 m2 hP => ?_)
    obtain ⟨⟨rfl, rfl⟩, z, rfl, rfl, rfl⟩ := hP
    refine s_max dX1_lastEnd_18 wmX1_27 (Nat.le_of_ble_eq_true rfl) (by decide) rfl ?_
    refine s_istore_n dX1_lastEnd_21 rfl (by decide) (L' := [vR 5, vI (if x1 < ends μ x2 then ends μ x2 else x1), vI x2]) rfl ?_
    obtain ⟨c, h⟩ := h
    refine s_iinc dX1_lastEnd_22 rfl (am_w_id c) (by decide) (L' := [vR 5, vI (if x1 < ends μ x2 then ends μ x2 else x1), vI (x2 + 1)]) rfl ?_
    refine s_goto dX1_lastEnd_25 (tgt := 4) (by decide) ?_
    exact h
theorem ve_X1_lastEnd {μ : am_M} {Q : Int → am_M → Prop} (h : at_I kC 3 mX1_lastEnd 0 [vR 5, vU, vU] [] μ Q) : cl_I kC 3 mX1_lastEnd [vR 5] μ Q := am_intro pmX1_lastEnd (Nat.le_of_ble_eq_true rfl) rfl h
theorem vc_X1_on_0 {x1 x2 : Int} {μ : am_M} {Q : Int → am_M → Prop} (h : at_I kC 3 mX1_on 2 [vR 5, vI x1, vI x2, vI 0] [] μ Q) : at_I kC 3 mX1_on 0 [vR 5, vI x1, vI x2, vU] [] μ Q := by
  refine s_iconst dX1_on_0 (by decide) ?_
  refine s_istore_n dX1_on_1 rfl (by decide) (L' := [vR 5, vI x1, vI x2, vI 0]) rfl ?_
  exact h
theorem vc_X1_on_2 {x1 x2 x3 : Int} {μ : am_M} {Q : Int → am_M → Prop} (h : (μ 5 1 ≤ x3 → Q (-1) μ) ∧ (x3 < μ 5 1 → (in_ 0 32 x3) ∧ (in_ 0 8 0) ∧ ((cg μ x3 0 ≠ x1 → (am_in (x3 + 1)) ∧ (at_I kC 3 mX1_on 2 [vR 5, vI x1, vI x2, vI (x3 + 1)] [] μ Q)) ∧ (cg μ x3 0 = x1 → (in_ 0 32 x3) ∧ (in_ 0 8 1) ∧ ((x2 < cg μ x3 1 → (am_in (x3 + 1)) ∧ (at_I kC 3 mX1_on 2 [vR 5, vI x1, vI x2, vI (x3 + 1)] [] μ Q)) ∧ (cg μ x3 1 ≤ x2 → (in_ 0 32 x3) ∧ (am_in (ends μ x3)) ∧ ((ends μ x3 ≤ x2 → (am_in (x3 + 1)) ∧ (at_I kC 3 mX1_on 2 [vR 5, vI x1, vI x2, vI (x3 + 1)] [] μ Q)) ∧ (x2 < ends μ x3 → Q x3 μ)))))))) : at_I kC 3 mX1_on 2 [vR 5, vI x1, vI x2, vI x3] [] μ Q := by
  refine s_iload_n dX1_on_2 rfl rfl ?_
  refine s_aload_n dX1_on_3 rfl rfl ?_
  refine s_getI dX1_on_4 flX1_15 kn5 kk5 rfl rfl ?_
  refine s_icmp_ge dX1_on_7 (tgt := 47) (by decide) (fun cc => ?_) (fun cc => ?_)
  · have h := h.1 cc
    refine s_iconst dX1_on_47 (by decide) ?_
    exact s_ireturn dX1_on_48 (Or.inl rfl) ⟨⟨rfl, rfl⟩, _, rfl, h⟩
  · have h := h.2 cc
    refine s_aload_n dX1_on_10 rfl rfl ?_
    refine s_iload_n dX1_on_11 rfl rfl ?_
    refine s_iconst dX1_on_12 (by decide) ?_
    obtain ⟨p0, p1, h⟩ := h
    refine s_callV (As := [vI x3, vI 0]) (rest := []) (k := 5) dX1_on_13 lkX1_19 kn5 ⟨by rw [kk5]; rfl, by rw [kk5]; decide⟩ lmX1_get rfl rfl (Nat.le_of_ble_eq_true rfl) (by decide) (Nat.le_refl 0) (Nat.le_refl 0) (hC := sp_X1_get (Q := fun z m => cg μ x3 0 = z ∧ μ = m) p0 p1 ⟨rfl, rfl⟩) (fun r n2 S2 m2 hP => ?_)
    obtain ⟨⟨rfl, rfl⟩, z, rfl, rfl, rfl⟩ := hP
    refine s_iload_n dX1_on_16 rfl rfl ?_
    refine s_icmp_ne dX1_on_17 (tgt := 41) (by decide) (fun cc => ?_) (fun cc => ?_)
    · have h := h.1 cc
      obtain ⟨c, h⟩ := h
      refine s_iinc dX1_on_41 rfl (am_w_id c) (by decide) (L' := [vR 5, vI x1, vI x2, vI (x3 + 1)]) rfl ?_
      refine s_goto dX1_on_44 (tgt := 2) (by decide) ?_
      exact h
    · have h := h.2 cc
      refine s_aload_n dX1_on_20 rfl rfl ?_
      refine s_iload_n dX1_on_21 rfl rfl ?_
      refine s_iconst dX1_on_22 (by decide) ?_
      obtain ⟨p0, p1, h⟩ := h
      refine s_callV (As := [vI x3, vI 1]) (rest := []) (k := 5) dX1_on_23 lkX1_19 kn5 ⟨by rw [kk5]; rfl, by rw [kk5]; decide⟩ lmX1_get rfl rfl (Nat.le_of_ble_eq_true rfl) (by decide) (Nat.le_refl 0) (Nat.le_refl 0) (hC := sp_X1_get (Q := fun z m => cg μ x3 1 = z ∧ μ = m) p0 p1 ⟨rfl, rfl⟩) (fun r n2 S2 m2 hP => ?_)
      obtain ⟨⟨rfl, rfl⟩, z, rfl, rfl, rfl⟩ := hP
      refine s_iload_n dX1_on_26 rfl rfl ?_
      refine s_icmp_gt dX1_on_27 (tgt := 41) (by decide) (fun cc => ?_) (fun cc => ?_)
      · have h := h.1 cc
        obtain ⟨c, h⟩ := h
        refine s_iinc dX1_on_41 rfl (am_w_id c) (by decide) (L' := [vR 5, vI x1, vI x2, vI (x3 + 1)]) rfl ?_
        refine s_goto dX1_on_44 (tgt := 2) (by decide) ?_
        exact h
      · have h := h.2 cc
        refine s_iload_n dX1_on_30 rfl rfl ?_
        refine s_aload_n dX1_on_31 rfl rfl ?_
        refine s_iload_n dX1_on_32 rfl rfl ?_
        obtain ⟨p0, p1, h⟩ := h
        refine s_callV (As := [vI x3]) (rest := [vI x2]) (k := 5) dX1_on_33 lkX1_23 kn5 ⟨by rw [kk5]; rfl, by rw [kk5]; decide⟩ lmX1_endOf rfl rfl (Nat.le_of_ble_eq_true rfl) (by decide) (Nat.le_refl 0) (Nat.le_refl 0) (hC := sp_X1_endOf (Q := fun z m => ends μ x3 = z ∧ μ = m) p0 p1 ⟨rfl, rfl⟩) (fun r n2 S2 m2 hP => ?_)
        obtain ⟨⟨rfl, rfl⟩, z, rfl, rfl, rfl⟩ := hP
        refine s_icmp_ge dX1_on_36 (tgt := 41) (by decide) (fun cc => ?_) (fun cc => ?_)
        · have h := h.1 cc
          obtain ⟨c, h⟩ := h
          refine s_iinc dX1_on_41 rfl (am_w_id c) (by decide) (L' := [vR 5, vI x1, vI x2, vI (x3 + 1)]) rfl ?_
          refine s_goto dX1_on_44 (tgt := 2) (by decide) ?_
          exact h
        · have h := h.2 cc
          refine s_iload_n dX1_on_39 rfl rfl ?_
          exact s_ireturn dX1_on_40 (Or.inl rfl) ⟨⟨rfl, rfl⟩, _, rfl, h⟩
theorem ve_X1_on {x1 x2 : Int} {μ : am_M} {Q : Int → am_M → Prop} (h : at_I kC 3 mX1_on 0 [vR 5, vI x1, vI x2, vU] [] μ Q) : cl_I kC 3 mX1_on [vR 5, vI x1, vI x2] μ Q := am_intro pmX1_on (Nat.le_of_ble_eq_true rfl) rfl h
theorem vc_X1_isFading_0 {x1 x2 : Int} {μ : am_M} {Q : Int → am_M → Prop} (h : (in_ 0 32 x1) ∧ (in_ 0 8 1) ∧ ((am_in (x2 - (cg μ x1 1))) ∧ ((in_ 0 32 x1) ∧ (in_ 0 8 6) ∧ (((cg μ x1 6 ≤ x2 - (cg μ x1 1) → (in_ 0 32 x1) ∧ (am_in (ends μ x1)) ∧ ((am_in (ends μ x1 - x2)) ∧ ((in_ 0 32 x1) ∧ (in_ 0 8 7))))) ∧ (∀ v1 : Int, v1 = (if x2 - (cg μ x1 1) < cg μ x1 6 then 1 else (if cg μ x1 7 < ends μ x1 - x2 then 0 else 1)) → (v1 = 0 ∨ v1 = 1) ∧ Q v1 μ))))) : at_I kC 3 mX1_isFading 0 [vR 5, vI x1, vI x2] [] μ Q := by
  refine s_iload_n dX1_isFading_0 rfl rfl ?_
  refine s_aload_n dX1_isFading_1 rfl rfl ?_
  refine s_iload_n dX1_isFading_2 rfl rfl ?_
  refine s_iconst dX1_isFading_3 (by decide) ?_
  obtain ⟨p0, p1, h⟩ := h
  refine s_callV (As := [vI x1, vI 1]) (rest := [vI x2]) (k := 5) dX1_isFading_4 lkX1_19 kn5 ⟨by rw [kk5]; rfl, by rw [kk5]; decide⟩ lmX1_get rfl rfl (Nat.le_of_ble_eq_true rfl) (by decide) (Nat.le_refl 0) (Nat.le_refl 0) (hC := sp_X1_get (Q := fun z m => cg μ x1 1 = z ∧ μ = m) p0 p1 ⟨rfl, rfl⟩) (fun r n2 S2 m2 hP => ?_)
  obtain ⟨⟨rfl, rfl⟩, z, rfl, rfl, rfl⟩ := hP
  obtain ⟨c, h⟩ := h
  refine s_isub dX1_isFading_7 (am_w_id c) ?_
  refine s_aload_n dX1_isFading_8 rfl rfl ?_
  refine s_iload_n dX1_isFading_9 rfl rfl ?_
  refine s_bipush dX1_isFading_10 (by decide) ?_
  obtain ⟨p0, p1, h⟩ := h
  refine s_callV (As := [vI x1, vI 6]) (rest := [vI (x2 - (cg μ x1 1))]) (k := 5) dX1_isFading_12 lkX1_19 kn5 ⟨by rw [kk5]; rfl, by rw [kk5]; decide⟩ lmX1_get rfl rfl (Nat.le_of_ble_eq_true rfl) (by decide) (Nat.le_refl 0) (Nat.le_refl 0) (hC := sp_X1_get (Q := fun z m => cg μ x1 6 = z ∧ μ = m) p0 p1 ⟨rfl, rfl⟩) (fun r n2 S2 m2 hP => ?_)
  obtain ⟨⟨rfl, rfl⟩, z, rfl, rfl, rfl⟩ := hP
  obtain ⟨hsd, h⟩ := h
  have kj2 : ∀ (v1 : Int), ((v1 = 0 ∨ v1 = 1) ∧ Q v1 μ) → at_I kC 3 mX1_isFading 40 [vU, vU, vU] [vI v1] μ Q := by
    intro v1 h
    exact s_ireturn dX1_isFading_40 (Or.inr ⟨rfl, h.1⟩) ⟨⟨rfl, rfl⟩, _, rfl, h.2⟩
  refine s_icmp_lt dX1_isFading_15 (tgt := 35) (by decide) (fun cc => ?_) (fun cc => ?_)
  · have hp0 := cc
    refine s_iconst dX1_isFading_35 (by decide) ?_
    refine s_goto dX1_isFading_36 (tgt := 40) (by decide) ?_
    exact am_lesS (kj2 1 (h 1 (by rw [if_pos hp0]))) ⟨Or.inl rfl, Or.inl rfl, Or.inl rfl, trivial⟩
  · have hp0 := cc
    have hsd := hsd cc
    refine s_aload_n dX1_isFading_18 rfl rfl ?_
    refine s_iload_n dX1_isFading_19 rfl rfl ?_
    obtain ⟨p0, p1, hsd⟩ := hsd
    refine s_callV (As := [vI x1]) (rest := []) (k := 5) dX1_isFading_20 lkX1_23 kn5 ⟨by rw [kk5]; rfl, by rw [kk5]; decide⟩ lmX1_endOf rfl rfl (Nat.le_of_ble_eq_true rfl) (by decide) (Nat.le_refl 0) (Nat.le_refl 0) (hC := sp_X1_endOf (Q := fun z m => ends μ x1 = z ∧ μ = m) p0 p1 ⟨rfl, rfl⟩) (fun r n2 S2 m2 hP => ?_)
    obtain ⟨⟨rfl, rfl⟩, z, rfl, rfl, rfl⟩ := hP
    refine s_iload_n dX1_isFading_23 rfl rfl ?_
    obtain ⟨c, hsd⟩ := hsd
    refine s_isub dX1_isFading_24 (am_w_id c) ?_
    refine s_aload_n dX1_isFading_25 rfl rfl ?_
    refine s_iload_n dX1_isFading_26 rfl rfl ?_
    refine s_bipush dX1_isFading_27 (by decide) ?_
    obtain ⟨p0, p1⟩ := hsd
    refine s_callV (As := [vI x1, vI 7]) (rest := [vI (ends μ x1 - x2)]) (k := 5) dX1_isFading_29 lkX1_19 kn5 ⟨by rw [kk5]; rfl, by rw [kk5]; decide⟩ lmX1_get rfl rfl (Nat.le_of_ble_eq_true rfl) (by decide) (Nat.le_refl 0) (Nat.le_refl 0) (hC := sp_X1_get (Q := fun z m => cg μ x1 7 = z ∧ μ = m) p0 p1 ⟨rfl, rfl⟩) (fun r n2 S2 m2 hP => ?_)
    obtain ⟨⟨rfl, rfl⟩, z, rfl, rfl, rfl⟩ := hP
    refine s_icmp_gt dX1_isFading_32 (tgt := 39) (by decide) (fun cc => ?_) (fun cc => ?_)
    · have hp1 := cc
      refine s_iconst dX1_isFading_39 (by decide) ?_
      exact am_lesS (kj2 0 (h 0 (by rw [if_neg (Int.not_lt.mpr hp0), if_pos hp1]))) ⟨Or.inl rfl, Or.inl rfl, Or.inl rfl, trivial⟩
    · have hp1 := cc
      refine s_iconst dX1_isFading_35 (by decide) ?_
      refine s_goto dX1_isFading_36 (tgt := 40) (by decide) ?_
      exact am_lesS (kj2 1 (h 1 (by rw [if_neg (Int.not_lt.mpr hp0), if_neg (Int.not_lt.mpr hp1)]))) ⟨Or.inl rfl, Or.inl rfl, Or.inl rfl, trivial⟩
theorem ve_X1_isFading {x1 x2 : Int} {μ : am_M} {Q : Int → am_M → Prop} (h : at_I kC 3 mX1_isFading 0 [vR 5, vI x1, vI x2] [] μ Q) : cl_I kC 3 mX1_isFading [vR 5, vI x1, vI x2] μ Q := am_intro pmX1_isFading (Nat.le_of_ble_eq_true rfl) rfl h
theorem vc_X1_isFree_0 {x1 x2 x3 x4 : Int} {μ : am_M} {Q : Int → am_M → Prop} (h : at_I kC 3 mX1_isFree 3 [vR 5, vI x1, vI x2, vI x3, vI x4, vI 0] [] μ Q) : at_I kC 3 mX1_isFree 0 [vR 5, vI x1, vI x2, vI x3, vI x4, vU] [] μ Q := by
  refine s_iconst dX1_isFree_0 (by decide) ?_
  refine s_istore dX1_isFree_1 (by decide) (L' := [vR 5, vI x1, vI x2, vI x3, vI x4, vI 0]) rfl ?_
  exact h
theorem vc_X1_isFree_3 {x1 x2 x3 x4 x5 : Int} {μ : am_M} {Q : Int → am_M → Prop} (h : (μ 5 1 ≤ x5 → Q 1 μ) ∧ (x5 < μ 5 1 → (x5 = x4 → (am_in (x5 + 1)) ∧ (at_I kC 3 mX1_isFree 3 [vR 5, vI x1, vI x2, vI x3, vI x4, vI (x5 + 1)] [] μ Q)) ∧ (x5 ≠ x4 → (in_ 0 32 x5) ∧ (in_ 0 8 0) ∧ ((cg μ x5 0 ≠ x1 → (am_in (x5 + 1)) ∧ (at_I kC 3 mX1_isFree 3 [vR 5, vI x1, vI x2, vI x3, vI x4, vI (x5 + 1)] [] μ Q)) ∧ (cg μ x5 0 = x1 → (in_ 0 32 x5) ∧ (am_in (ends μ x5)) ∧ ((ends μ x5 ≤ x2 → (am_in (x5 + 1)) ∧ (at_I kC 3 mX1_isFree 3 [vR 5, vI x1, vI x2, vI x3, vI x4, vI (x5 + 1)] [] μ Q)) ∧ (x2 < ends μ x5 → (in_ 0 32 x5) ∧ (in_ 0 8 1) ∧ ((am_in (x2 + x3)) ∧ ((x2 + x3 ≤ cg μ x5 1 → (am_in (x5 + 1)) ∧ (at_I kC 3 mX1_isFree 3 [vR 5, vI x1, vI x2, vI x3, vI x4, vI (x5 + 1)] [] μ Q)) ∧ (cg μ x5 1 < x2 + x3 → Q 0 μ)))))))))) : at_I kC 3 mX1_isFree 3 [vR 5, vI x1, vI x2, vI x3, vI x4, vI x5] [] μ Q := by
  refine s_iload dX1_isFree_3 rfl ?_
  refine s_aload_n dX1_isFree_5 rfl rfl ?_
  refine s_getI dX1_isFree_6 flX1_15 kn5 kk5 rfl rfl ?_
  refine s_icmp_ge dX1_isFree_9 (tgt := 61) (by decide) (fun cc => ?_) (fun cc => ?_)
  · have h := h.1 cc
    refine s_iconst dX1_isFree_61 (by decide) ?_
    exact s_ireturn dX1_isFree_62 (Or.inr ⟨rfl, by decide⟩) ⟨⟨rfl, rfl⟩, _, rfl, h⟩
  · have h := h.2 cc
    refine s_iload dX1_isFree_12 rfl ?_
    refine s_iload dX1_isFree_14 rfl ?_
    refine s_icmp_eq dX1_isFree_16 (tgt := 55) (by decide) (fun cc => ?_) (fun cc => ?_)
    · have h := h.1 cc
      obtain ⟨c, h⟩ := h
      refine s_iinc dX1_isFree_55 rfl (am_w_id c) (by decide) (L' := [vR 5, vI x1, vI x2, vI x3, vI x4, vI (x5 + 1)]) rfl ?_
      refine s_goto dX1_isFree_58 (tgt := 3) (by decide) ?_
      exact h
    · have h := h.2 cc
      refine s_aload_n dX1_isFree_19 rfl rfl ?_
      refine s_iload dX1_isFree_20 rfl ?_
      refine s_iconst dX1_isFree_22 (by decide) ?_
      obtain ⟨p0, p1, h⟩ := h
      refine s_callV (As := [vI x5, vI 0]) (rest := []) (k := 5) dX1_isFree_23 lkX1_19 kn5 ⟨by rw [kk5]; rfl, by rw [kk5]; decide⟩ lmX1_get rfl rfl (Nat.le_of_ble_eq_true rfl) (by decide) (Nat.le_refl 0) (Nat.le_refl 0) (hC := sp_X1_get (Q := fun z m => cg μ x5 0 = z ∧ μ = m) p0 p1 ⟨rfl, rfl⟩) (fun r n2 S2 m2 hP => ?_)
      obtain ⟨⟨rfl, rfl⟩, z, rfl, rfl, rfl⟩ := hP
      refine s_iload_n dX1_isFree_26 rfl rfl ?_
      refine s_icmp_ne dX1_isFree_27 (tgt := 55) (by decide) (fun cc => ?_) (fun cc => ?_)
      · have h := h.1 cc
        obtain ⟨c, h⟩ := h
        refine s_iinc dX1_isFree_55 rfl (am_w_id c) (by decide) (L' := [vR 5, vI x1, vI x2, vI x3, vI x4, vI (x5 + 1)]) rfl ?_
        refine s_goto dX1_isFree_58 (tgt := 3) (by decide) ?_
        exact h
      · have h := h.2 cc
        refine s_iload_n dX1_isFree_30 rfl rfl ?_
        refine s_aload_n dX1_isFree_31 rfl rfl ?_
        refine s_iload dX1_isFree_32 rfl ?_
        obtain ⟨p0, p1, h⟩ := h
        refine s_callV (As := [vI x5]) (rest := [vI x2]) (k := 5) dX1_isFree_34 lkX1_23 kn5 ⟨by rw [kk5]; rfl, by rw [kk5]; decide⟩ lmX1_endOf rfl rfl (Nat.le_of_ble_eq_true rfl) (by decide) (Nat.le_refl 0) (Nat.le_refl 0) (hC := sp_X1_endOf (Q := fun z m => ends μ x5 = z ∧ μ = m) p0 p1 ⟨rfl, rfl⟩) (fun r n2 S2 m2 hP => ?_)
        obtain ⟨⟨rfl, rfl⟩, z, rfl, rfl, rfl⟩ := hP
        refine s_icmp_ge dX1_isFree_37 (tgt := 55) (by decide) (fun cc => ?_) (fun cc => ?_)
        · have h := h.1 cc
          obtain ⟨c, h⟩ := h
          refine s_iinc dX1_isFree_55 rfl (am_w_id c) (by decide) (L' := [vR 5, vI x1, vI x2, vI x3, vI x4, vI (x5 + 1)]) rfl ?_
          refine s_goto dX1_isFree_58 (tgt := 3) (by decide) ?_
          exact h
        · have h := h.2 cc
          refine s_aload_n dX1_isFree_40 rfl rfl ?_
          refine s_iload dX1_isFree_41 rfl ?_
          refine s_iconst dX1_isFree_43 (by decide) ?_
          obtain ⟨p0, p1, h⟩ := h
          refine s_callV (As := [vI x5, vI 1]) (rest := []) (k := 5) dX1_isFree_44 lkX1_19 kn5 ⟨by rw [kk5]; rfl, by rw [kk5]; decide⟩ lmX1_get rfl rfl (Nat.le_of_ble_eq_true rfl) (by decide) (Nat.le_refl 0) (Nat.le_refl 0) (hC := sp_X1_get (Q := fun z m => cg μ x5 1 = z ∧ μ = m) p0 p1 ⟨rfl, rfl⟩) (fun r n2 S2 m2 hP => ?_)
          obtain ⟨⟨rfl, rfl⟩, z, rfl, rfl, rfl⟩ := hP
          refine s_iload_n dX1_isFree_47 rfl rfl ?_
          refine s_iload_n dX1_isFree_48 rfl rfl ?_
          obtain ⟨c, h⟩ := h
          refine s_iadd dX1_isFree_49 (am_w_id c) ?_
          refine s_icmp_ge dX1_isFree_50 (tgt := 55) (by decide) (fun cc => ?_) (fun cc => ?_)
          · have h := h.1 cc
            obtain ⟨c, h⟩ := h
            refine s_iinc dX1_isFree_55 rfl (am_w_id c) (by decide) (L' := [vR 5, vI x1, vI x2, vI x3, vI x4, vI (x5 + 1)]) rfl ?_
            refine s_goto dX1_isFree_58 (tgt := 3) (by decide) ?_
            exact h
          · have h := h.2 cc
            refine s_iconst dX1_isFree_53 (by decide) ?_
            exact s_ireturn dX1_isFree_54 (Or.inr ⟨rfl, by decide⟩) ⟨⟨rfl, rfl⟩, _, rfl, h⟩
theorem ve_X1_isFree {x1 x2 x3 x4 : Int} {μ : am_M} {Q : Int → am_M → Prop} (h : at_I kC 3 mX1_isFree 0 [vR 5, vI x1, vI x2, vI x3, vI x4, vU] [] μ Q) : cl_I kC 3 mX1_isFree [vR 5, vI x1, vI x2, vI x3, vI x4] μ Q := am_intro pmX1_isFree (Nat.le_of_ble_eq_true rfl) rfl h
theorem vc_X1_usersOf_0 {x1 : Int} {μ : am_M} {Q : Int → am_M → Prop} (h : at_I kC 3 mX1_usersOf 4 [vR 5, vI x1, vI 0, vI 0] [] μ Q) : at_I kC 3 mX1_usersOf 0 [vR 5, vI x1, vU, vU] [] μ Q := by
  refine s_iconst dX1_usersOf_0 (by decide) ?_
  refine s_istore_n dX1_usersOf_1 rfl (by decide) (L' := [vR 5, vI x1, vI 0, vU]) rfl ?_
  refine s_iconst dX1_usersOf_2 (by decide) ?_
  refine s_istore_n dX1_usersOf_3 rfl (by decide) (L' := [vR 5, vI x1, vI 0, vI 0]) rfl ?_
  exact h
theorem vc_X1_usersOf_4 {x1 x2 x3 : Int} {μ : am_M} {Q : Int → am_M → Prop} (h : (μ 5 1 ≤ x3 → Q x2 μ) ∧ (x3 < μ 5 1 → (in_ 0 32 x3) ∧ (in_ 0 8 2) ∧ (∀ v1 : Int, v1 = (if cg μ x3 2 = x1 then 1 else 0) → (am_in (x2 + v1)) ∧ ((am_in (x3 + 1)) ∧ (at_I kC 3 mX1_usersOf 4 [vR 5, vI x1, vI (x2 + v1), vI (x3 + 1)] [] μ Q))))) : at_I kC 3 mX1_usersOf 4 [vR 5, vI x1, vI x2, vI x3] [] μ Q := by
  refine s_iload_n dX1_usersOf_4 rfl rfl ?_
  refine s_aload_n dX1_usersOf_5 rfl rfl ?_
  refine s_getI dX1_usersOf_6 flX1_15 kn5 kk5 rfl rfl ?_
  refine s_icmp_ge dX1_usersOf_9 (tgt := 36) (by decide) (fun cc => ?_) (fun cc => ?_)
  · have h := h.1 cc
    refine s_iload_n dX1_usersOf_36 rfl rfl ?_
    exact s_ireturn dX1_usersOf_37 (Or.inl rfl) ⟨⟨rfl, rfl⟩, _, rfl, h⟩
  · have h := h.2 cc
    refine s_iload_n dX1_usersOf_12 rfl rfl ?_
    refine s_aload_n dX1_usersOf_13 rfl rfl ?_
    refine s_iload_n dX1_usersOf_14 rfl rfl ?_
    refine s_iconst dX1_usersOf_15 (by decide) ?_
    obtain ⟨p0, p1, h⟩ := h
    refine s_callV (As := [vI x3, vI 2]) (rest := [vI x2]) (k := 5) dX1_usersOf_16 lkX1_19 kn5 ⟨by rw [kk5]; rfl, by rw [kk5]; decide⟩ lmX1_get rfl rfl (Nat.le_of_ble_eq_true rfl) (by decide) (Nat.le_refl 0) (Nat.le_refl 0) (hC := sp_X1_get (Q := fun z m => cg μ x3 2 = z ∧ μ = m) p0 p1 ⟨rfl, rfl⟩) (fun r n2 S2 m2 hP => ?_)
    obtain ⟨⟨rfl, rfl⟩, z, rfl, rfl, rfl⟩ := hP
    refine s_iload_n dX1_usersOf_19 rfl rfl ?_
    have kj2 : ∀ (v1 : Int), ((am_in (x2 + v1)) ∧ ((am_in (x3 + 1)) ∧ (at_I kC 3 mX1_usersOf 4 [vR 5, vI x1, vI (x2 + v1), vI (x3 + 1)] [] μ Q))) → at_I kC 3 mX1_usersOf 28 [vR 5, vI x1, vU, vI x3] [vI v1, vI x2] μ Q := by
      intro v1 h
      obtain ⟨c, h⟩ := h
      refine s_iadd dX1_usersOf_28 (am_w_id c) ?_
      refine s_istore_n dX1_usersOf_29 rfl (by decide) (L' := [vR 5, vI x1, vI (x2 + v1), vI x3]) rfl ?_
      obtain ⟨c, h⟩ := h
      refine s_iinc dX1_usersOf_30 rfl (am_w_id c) (by decide) (L' := [vR 5, vI x1, vI (x2 + v1), vI (x3 + 1)]) rfl ?_
      refine s_goto dX1_usersOf_33 (tgt := 4) (by decide) ?_
      exact h
    refine s_icmp_ne dX1_usersOf_20 (tgt := 27) (by decide) (fun cc => ?_) (fun cc => ?_)
    · have hp0 := cc
      refine s_iconst dX1_usersOf_27 (by decide) ?_
      exact am_lesS (kj2 0 (h 0 (by rw [if_neg hp0]))) ⟨Or.inr rfl, Or.inr rfl, Or.inl rfl, Or.inr rfl, trivial⟩
    · have hp0 := cc
      refine s_iconst dX1_usersOf_23 (by decide) ?_
      refine s_goto dX1_usersOf_24 (tgt := 28) (by decide) ?_
      exact am_lesS (kj2 1 (h 1 (by rw [if_pos hp0]))) ⟨Or.inr rfl, Or.inr rfl, Or.inl rfl, Or.inr rfl, trivial⟩
theorem ve_X1_usersOf {x1 : Int} {μ : am_M} {Q : Int → am_M → Prop} (h : at_I kC 3 mX1_usersOf 0 [vR 5, vI x1, vU, vU] [] μ Q) : cl_I kC 3 mX1_usersOf [vR 5, vI x1] μ Q := am_intro pmX1_usersOf (Nat.le_of_ble_eq_true rfl) rfl h
theorem vc_X1_placeFor_0 {x1 x2 : Int} {μ : am_M} {Q : Int → am_M → Prop} (h : at_I kC 3 mX1_placeFor 5 [vR 5, vI x1, vI x2, vI 0, vI 0, vU] [] μ Q) : at_I kC 3 mX1_placeFor 0 [vR 5, vI x1, vI x2, vU, vU, vU] [] μ Q := by
  refine s_iconst dX1_placeFor_0 (by decide) ?_
  refine s_istore_n dX1_placeFor_1 rfl (by decide) (L' := [vR 5, vI x1, vI x2, vI 0, vU, vU]) rfl ?_
  refine s_iconst dX1_placeFor_2 (by decide) ?_
  refine s_istore dX1_placeFor_3 (by decide) (L' := [vR 5, vI x1, vI x2, vI 0, vI 0, vU]) rfl ?_
  exact h
theorem vc_X1_placeFor_5 {x1 x2 x3 x4 : Int} {μ : am_M} {Q : Int → am_M → Prop} (h : (μ 5 1 ≤ x4 → Q x3 μ) ∧ (x4 < μ 5 1 → (in_ 0 32 x4) ∧ (in_ 0 8 0) ∧ (((cg μ x4 0 < x1 → (am_in (x3 + 1))) ∧ (x1 ≤ cg μ x4 0 → (cg μ x4 0 = x1 → (in_ 0 32 x4) ∧ (in_ 0 8 1) ∧ ((cg μ x4 1 < x2 → (am_in (x3 + 1))))))) ∧ (∀ v1 : Int, v1 = (if cg μ x4 0 < x1 then x3 + 1 else (if cg μ x4 0 = x1 then (if cg μ x4 1 < x2 then x3 + 1 else x3) else x3)) → (am_in (x4 + 1)) ∧ (at_I kC 3 mX1_placeFor 5 [vR 5, vI x1, vI x2, vI v1, vI (x4 + 1), vU] [] μ Q))))) : at_I kC 3 mX1_placeFor 5 [vR 5, vI x1, vI x2, vI x3, vI x4, vU] [] μ Q := by
  refine s_iload dX1_placeFor_5 rfl ?_
  refine s_aload_n dX1_placeFor_7 rfl rfl ?_
  refine s_getI dX1_placeFor_8 flX1_15 kn5 kk5 rfl rfl ?_
  refine s_icmp_ge dX1_placeFor_11 (tgt := 55) (by decide) (fun cc => ?_) (fun cc => ?_)
  · have h := h.1 cc
    refine s_iload_n dX1_placeFor_55 rfl rfl ?_
    exact s_ireturn dX1_placeFor_56 (Or.inl rfl) ⟨⟨rfl, rfl⟩, _, rfl, h⟩
  · have h := h.2 cc
    refine s_aload_n dX1_placeFor_14 rfl rfl ?_
    refine s_iload dX1_placeFor_15 rfl ?_
    refine s_iconst dX1_placeFor_17 (by decide) ?_
    obtain ⟨p0, p1, h⟩ := h
    refine s_callV (As := [vI x4, vI 0]) (rest := []) (k := 5) dX1_placeFor_18 lkX1_19 kn5 ⟨by rw [kk5]; rfl, by rw [kk5]; decide⟩ lmX1_get rfl rfl (Nat.le_of_ble_eq_true rfl) (by decide) (Nat.le_refl 0) (Nat.le_refl 0) (hC := sp_X1_get (Q := fun z m => cg μ x4 0 = z ∧ μ = m) p0 p1 ⟨rfl, rfl⟩) (fun r n2 S2 m2 hP => ?_)
    obtain ⟨⟨rfl, rfl⟩, z, rfl, rfl, rfl⟩ := hP
    refine s_istore dX1_placeFor_21 (by decide) (L' := [vR 5, vI x1, vI x2, vI x3, vI x4, vI (cg μ x4 0)]) rfl ?_
    refine s_iload dX1_placeFor_23 rfl ?_
    refine s_iload_n dX1_placeFor_25 rfl rfl ?_
    obtain ⟨hsd, h⟩ := h
    have kj2 : ∀ (v1 : Int), ((am_in (x4 + 1)) ∧ (at_I kC 3 mX1_placeFor 5 [vR 5, vI x1, vI x2, vI v1, vI (x4 + 1), vU] [] μ Q)) → at_I kC 3 mX1_placeFor 49 [vR 5, vI x1, vI x2, vI v1, vI x4, vU] [] μ Q := by
      intro v1 h
      obtain ⟨c, h⟩ := h
      refine s_iinc dX1_placeFor_49 rfl (am_w_id c) (by decide) (L' := [vR 5, vI x1, vI x2, vI v1, vI (x4 + 1), vU]) rfl ?_
      refine s_goto dX1_placeFor_52 (tgt := 5) (by decide) ?_
      exact h
    refine s_icmp_lt dX1_placeFor_26 (tgt := 46) (by decide) (fun cc => ?_) (fun cc => ?_)
    · have hp0 := cc
      have hsd := hsd.1 cc
      have c := hsd
      refine s_iinc dX1_placeFor_46 rfl (am_w_id c) (by decide) (L' := [vR 5, vI x1, vI x2, vI (x3 + 1), vI x4, vI (cg μ x4 0)]) rfl ?_
      exact am_lesS (kj2 (x3 + 1) (h (x3 + 1) (by rw [if_pos hp0]))) ⟨Or.inr rfl, Or.inr rfl, Or.inr rfl, Or.inr rfl, Or.inr rfl, Or.inl rfl, trivial⟩
    · have hp0 := cc
      have hsd := hsd.2 cc
      refine s_iload dX1_placeFor_29 rfl ?_
      refine s_iload_n dX1_placeFor_31 rfl rfl ?_
      refine s_icmp_ne dX1_placeFor_32 (tgt := 49) (by decide) (fun cc => ?_) (fun cc => ?_)
      · have hp1 := cc
        exact am_lesS (kj2 x3 (h x3 (by rw [if_neg (Int.not_lt.mpr hp0), if_neg hp1]))) ⟨Or.inr rfl, Or.inr rfl, Or.inr rfl, Or.inr rfl, Or.inr rfl, Or.inl rfl, trivial⟩
      · have hp1 := cc
        have hsd := hsd cc
        refine s_aload_n dX1_placeFor_35 rfl rfl ?_
        refine s_iload dX1_placeFor_36 rfl ?_
        refine s_iconst dX1_placeFor_38 (by decide) ?_
        obtain ⟨p0, p1, hsd⟩ := hsd
        refine s_callV (As := [vI x4, vI 1]) (rest := []) (k := 5) dX1_placeFor_39 lkX1_19 kn5 ⟨by rw [kk5]; rfl, by rw [kk5]; decide⟩ lmX1_get rfl rfl (Nat.le_of_ble_eq_true rfl) (by decide) (Nat.le_refl 0) (Nat.le_refl 0) (hC := sp_X1_get (Q := fun z m => cg μ x4 1 = z ∧ μ = m) p0 p1 ⟨rfl, rfl⟩) (fun r n2 S2 m2 hP => ?_)
        obtain ⟨⟨rfl, rfl⟩, z, rfl, rfl, rfl⟩ := hP
        refine s_iload_n dX1_placeFor_42 rfl rfl ?_
        refine s_icmp_ge dX1_placeFor_43 (tgt := 49) (by decide) (fun cc => ?_) (fun cc => ?_)
        · have hp2 := cc
          exact am_lesS (kj2 x3 (h x3 (by rw [if_neg (Int.not_lt.mpr hp0), if_pos hp1, if_neg (Int.not_lt.mpr hp2)]))) ⟨Or.inr rfl, Or.inr rfl, Or.inr rfl, Or.inr rfl, Or.inr rfl, Or.inl rfl, trivial⟩
        · have hp2 := cc
          have hsd := hsd cc
          have c := hsd
          refine s_iinc dX1_placeFor_46 rfl (am_w_id c) (by decide) (L' := [vR 5, vI x1, vI x2, vI (x3 + 1), vI x4, vI (cg μ x4 0)]) rfl ?_
          exact am_lesS (kj2 (x3 + 1) (h (x3 + 1) (by rw [if_neg (Int.not_lt.mpr hp0), if_pos hp1, if_pos hp2]))) ⟨Or.inr rfl, Or.inr rfl, Or.inr rfl, Or.inr rfl, Or.inr rfl, Or.inl rfl, trivial⟩
theorem ve_X1_placeFor {x1 x2 : Int} {μ : am_M} {Q : Int → am_M → Prop} (h : at_I kC 3 mX1_placeFor 0 [vR 5, vI x1, vI x2, vU, vU, vU] [] μ Q) : cl_I kC 3 mX1_placeFor [vR 5, vI x1, vI x2] μ Q := am_intro pmX1_placeFor (Nat.le_of_ble_eq_true rfl) rfl h
theorem vc_X1_openRow_0 {x1 : Int} {μ : am_M} {Q : am_M → Prop} (h : (am_in (x1 * 8)) ∧ ((am_in ((x1 * 8) + 8)) ∧ ((am_in (μ 5 1 - x1)) ∧ ((am_in ((μ 5 1 - x1) * 8)) ∧ ((0 ≤ x1 * 8) ∧ (0 ≤ (x1 * 8) + 8) ∧ (0 ≤ (μ 5 1 - x1) * 8) ∧ (x1 * 8 + ((μ 5 1 - x1) * 8) ≤ 256) ∧ ((x1 * 8) + 8 + ((μ 5 1 - x1) * 8) ≤ 256) ∧ ((am_in (((am_st μ 6 (am_cp (μ 6) (μ 6) (x1 * 8) ((x1 * 8) + 8) ((μ 5 1 - x1) * 8))) 5 1) + 1)) ∧ (Q (am_st (am_st μ 6 (am_cp (μ 6) (μ 6) (x1 * 8) ((x1 * 8) + 8) ((μ 5 1 - x1) * 8))) 5 (am_up ((am_st μ 6 (am_cp (μ 6) (μ 6) (x1 * 8) ((x1 * 8) + 8) ((μ 5 1 - x1) * 8))) 5) 1 (((am_st μ 6 (am_cp (μ 6) (μ 6) (x1 * 8) ((x1 * 8) + 8) ((μ 5 1 - x1) * 8))) 5 1) + 1)))))))))) : at_V kC 3 mX1_openRow 0 [vR 5, vI x1, vU] [] μ Q := by
  refine s_iload_n dX1_openRow_0 rfl rfl ?_
  refine s_bipush dX1_openRow_1 (by decide) ?_
  obtain ⟨c, h⟩ := h
  refine s_imul dX1_openRow_3 (am_w_id c) ?_
  refine s_istore_n dX1_openRow_4 rfl (by decide) (L' := [vR 5, vI x1, vI (x1 * 8)]) rfl ?_
  refine s_aload_n dX1_openRow_5 rfl rfl ?_
  refine s_getR dX1_openRow_6 flX1_9 kn5 kk5 rfl kr5_0 ?_
  refine s_iload_n dX1_openRow_9 rfl rfl ?_
  refine s_aload_n dX1_openRow_10 rfl rfl ?_
  refine s_getR dX1_openRow_11 flX1_9 kn5 kk5 rfl kr5_0 ?_
  refine s_iload_n dX1_openRow_14 rfl rfl ?_
  refine s_bipush dX1_openRow_15 (by decide) ?_
  obtain ⟨c, h⟩ := h
  refine s_iadd dX1_openRow_17 (am_w_id c) ?_
  refine s_aload_n dX1_openRow_18 rfl rfl ?_
  refine s_getI dX1_openRow_19 flX1_15 kn5 kk5 rfl rfl ?_
  refine s_iload_n dX1_openRow_22 rfl rfl ?_
  obtain ⟨c, h⟩ := h
  refine s_isub dX1_openRow_23 (am_w_id c) ?_
  refine s_bipush dX1_openRow_24 (by decide) ?_
  obtain ⟨c, h⟩ := h
  refine s_imul dX1_openRow_26 (am_w_id c) ?_
  obtain ⟨c1, c2, c3, c4, c5, h⟩ := h
  refine s_acopy dX1_openRow_27 waX1_32 kn6 kk6 kl6 kn6 kk6 kl6 (Nat.le_of_ble_eq_true rfl) (by decide) c1 c2 c3 c4 c5 rfl ?_
  refine s_aload_n dX1_openRow_30 rfl rfl ?_
  refine s_dup dX1_openRow_31 ?_
  refine s_getI dX1_openRow_32 flX1_15 kn5 kk5 rfl rfl ?_
  refine s_iconst dX1_openRow_35 (by decide) ?_
  obtain ⟨c, h⟩ := h
  refine s_iadd dX1_openRow_36 (am_w_id c) ?_
  refine s_putI dX1_openRow_37 flX1_15 kn5 kk5 rfl rfl (Or.inl rfl) rfl ?_
  exact s_return dX1_openRow_40 rfl ⟨⟨rfl, rfl⟩, rfl, h⟩
theorem ve_X1_openRow {x1 : Int} {μ : am_M} {Q : am_M → Prop} (h : at_V kC 3 mX1_openRow 0 [vR 5, vI x1, vU] [] μ Q) : cl_V kC 3 mX1_openRow [vR 5, vI x1] μ Q := am_intro pmX1_openRow (Nat.le_of_ble_eq_true rfl) rfl h
theorem vc_X1_closeRow_0 {x1 : Int} {μ : am_M} {Q : am_M → Prop} (h : (am_in (x1 * 8)) ∧ ((am_in (μ 5 1 - 1)) ∧ ((am_in ((x1 * 8) + 8)) ∧ ((am_in (((am_st μ 5 (am_up (μ 5) 1 (μ 5 1 - 1))) 5 1) - x1)) ∧ ((am_in ((((am_st μ 5 (am_up (μ 5) 1 (μ 5 1 - 1))) 5 1) - x1) * 8)) ∧ ((0 ≤ (x1 * 8) + 8) ∧ (0 ≤ x1 * 8) ∧ (0 ≤ (((am_st μ 5 (am_up (μ 5) 1 (μ 5 1 - 1))) 5 1) - x1) * 8) ∧ ((x1 * 8) + 8 + ((((am_st μ 5 (am_up (μ 5) 1 (μ 5 1 - 1))) 5 1) - x1) * 8) ≤ 256) ∧ (x1 * 8 + ((((am_st μ 5 (am_up (μ 5) 1 (μ 5 1 - 1))) 5 1) - x1) * 8) ≤ 256) ∧ (Q (am_st (am_st μ 5 (am_up (μ 5) 1 (μ 5 1 - 1))) 6 (am_cp ((am_st μ 5 (am_up (μ 5) 1 (μ 5 1 - 1))) 6) ((am_st μ 5 (am_up (μ 5) 1 (μ 5 1 - 1))) 6) ((x1 * 8) + 8) (x1 * 8) ((((am_st μ 5 (am_up (μ 5) 1 (μ 5 1 - 1))) 5 1) - x1) * 8)))))))))) : at_V kC 3 mX1_closeRow 0 [vR 5, vI x1, vU] [] μ Q := by
  refine s_iload_n dX1_closeRow_0 rfl rfl ?_
  refine s_bipush dX1_closeRow_1 (by decide) ?_
  obtain ⟨c, h⟩ := h
  refine s_imul dX1_closeRow_3 (am_w_id c) ?_
  refine s_istore_n dX1_closeRow_4 rfl (by decide) (L' := [vR 5, vI x1, vI (x1 * 8)]) rfl ?_
  refine s_aload_n dX1_closeRow_5 rfl rfl ?_
  refine s_dup dX1_closeRow_6 ?_
  refine s_getI dX1_closeRow_7 flX1_15 kn5 kk5 rfl rfl ?_
  refine s_iconst dX1_closeRow_10 (by decide) ?_
  obtain ⟨c, h⟩ := h
  refine s_isub dX1_closeRow_11 (am_w_id c) ?_
  refine s_putI dX1_closeRow_12 flX1_15 kn5 kk5 rfl rfl (Or.inl rfl) rfl ?_
  refine s_aload_n dX1_closeRow_15 rfl rfl ?_
  refine s_getR dX1_closeRow_16 flX1_9 kn5 kk5 rfl kr5_0 ?_
  refine s_iload_n dX1_closeRow_19 rfl rfl ?_
  refine s_bipush dX1_closeRow_20 (by decide) ?_
  obtain ⟨c, h⟩ := h
  refine s_iadd dX1_closeRow_22 (am_w_id c) ?_
  refine s_aload_n dX1_closeRow_23 rfl rfl ?_
  refine s_getR dX1_closeRow_24 flX1_9 kn5 kk5 rfl kr5_0 ?_
  refine s_iload_n dX1_closeRow_27 rfl rfl ?_
  refine s_aload_n dX1_closeRow_28 rfl rfl ?_
  refine s_getI dX1_closeRow_29 flX1_15 kn5 kk5 rfl rfl ?_
  refine s_iload_n dX1_closeRow_32 rfl rfl ?_
  obtain ⟨c, h⟩ := h
  refine s_isub dX1_closeRow_33 (am_w_id c) ?_
  refine s_bipush dX1_closeRow_34 (by decide) ?_
  obtain ⟨c, h⟩ := h
  refine s_imul dX1_closeRow_36 (am_w_id c) ?_
  obtain ⟨c1, c2, c3, c4, c5, h⟩ := h
  refine s_acopy dX1_closeRow_37 waX1_32 kn6 kk6 kl6 kn6 kk6 kl6 (Nat.le_of_ble_eq_true rfl) (by decide) c1 c2 c3 c4 c5 rfl ?_
  exact s_return dX1_closeRow_40 rfl ⟨⟨rfl, rfl⟩, rfl, h⟩
theorem ve_X1_closeRow {x1 : Int} {μ : am_M} {Q : am_M → Prop} (h : at_V kC 3 mX1_closeRow 0 [vR 5, vI x1, vU] [] μ Q) : cl_V kC 3 mX1_closeRow [vR 5, vI x1] μ Q := am_intro pmX1_closeRow (Nat.le_of_ble_eq_true rfl) rfl h

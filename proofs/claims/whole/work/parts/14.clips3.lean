/-! the class's clips: the commands -/
theorem vc_X9_isTrack_0 {x0 : Int} {μ : am_M} {Q : Int → am_M → Prop} (h : ∀ v1 : Int, v1 = (if x0 < 0 then 0 else (if x0 < 4 then 1 else 0)) → (v1 = 0 ∨ v1 = 1) ∧ Q v1 μ) : at_I kC 1 mX9_isTrack 0 [vI x0] [] μ Q := by
  refine s_iload_n dX9_isTrack_0 rfl rfl ?_
  have kj2 : ∀ (v1 : Int), ((v1 = 0 ∨ v1 = 1) ∧ Q v1 μ) → at_I kC 1 mX9_isTrack 14 [vU] [vI v1] μ Q := by
    intro v1 h
    exact s_ireturn dX9_isTrack_14 (Or.inr ⟨rfl, h.1⟩) ⟨⟨rfl, rfl⟩, _, rfl, h.2⟩
  refine s_if_lt dX9_isTrack_1 (tgt := 13) (by decide) (fun cc => ?_) (fun cc => ?_)
  · have hp0 := cc
    refine s_iconst dX9_isTrack_13 (by decide) ?_
    exact am_lesS (kj2 0 (h 0 (by rw [if_pos hp0]))) ⟨Or.inl rfl, trivial⟩
  · have hp0 := cc
    refine s_iload_n dX9_isTrack_4 rfl rfl ?_
    refine s_iconst dX9_isTrack_5 (by decide) ?_
    refine s_icmp_ge dX9_isTrack_6 (tgt := 13) (by decide) (fun cc => ?_) (fun cc => ?_)
    · have hp1 := cc
      refine s_iconst dX9_isTrack_13 (by decide) ?_
      exact am_lesS (kj2 0 (h 0 (by rw [if_neg (Int.not_lt.mpr hp0), if_neg (Int.not_lt.mpr hp1)]))) ⟨Or.inl rfl, trivial⟩
    · have hp1 := cc
      refine s_iconst dX9_isTrack_9 (by decide) ?_
      refine s_goto dX9_isTrack_10 (tgt := 14) (by decide) ?_
      exact am_lesS (kj2 1 (h 1 (by rw [if_neg (Int.not_lt.mpr hp0), if_pos hp1]))) ⟨Or.inl rfl, trivial⟩
theorem ve_X9_isTrack {x0 : Int} {μ : am_M} {Q : Int → am_M → Prop} (h : at_I kC 1 mX9_isTrack 0 [vI x0] [] μ Q) : cl_I kC 1 mX9_isTrack [vI x0] μ Q := am_intro pmX9_isTrack (Nat.le_of_ble_eq_true rfl) rfl h
theorem sp_X9_isTrack {μ : am_M} {t : Int} {Q : Int → am_M → Prop} (hQ : Q (bI (0 ≤ t ∧ t < 4)) μ) : cl_I kC 1 mX9_isTrack [vI t] μ Q :=
  ve_X9_isTrack (vc_X9_isTrack_0 fun v1 e => ⟨by omega, by rw [show v1 = bI (0 ≤ t ∧ t < 4) from (by (try subst_vars); (repeat' split) <;> first | (exact bI_t (by (try unfold in_ at *); omega)) | (exact (bI_t (by (try unfold in_ at *); omega)).symm) | (exact bI_f (by (try unfold in_ at *); omega)) | (exact (bI_f (by (try unfold in_ at *); omega)).symm))]; exact hQ⟩)
theorem vc_X9_isFrame_0 {x0 : Int} {μ : am_M} {Q : Int → am_M → Prop} (h : ∀ v1 : Int, v1 = (if x0 < 0 then 0 else (if x0 < 600 then 1 else 0)) → (v1 = 0 ∨ v1 = 1) ∧ Q v1 μ) : at_I kC 1 mX9_isFrame 0 [vI x0] [] μ Q := by
  refine s_iload_n dX9_isFrame_0 rfl rfl ?_
  have kj2 : ∀ (v1 : Int), ((v1 = 0 ∨ v1 = 1) ∧ Q v1 μ) → at_I kC 1 mX9_isFrame 16 [vU] [vI v1] μ Q := by
    intro v1 h
    exact s_ireturn dX9_isFrame_16 (Or.inr ⟨rfl, h.1⟩) ⟨⟨rfl, rfl⟩, _, rfl, h.2⟩
  refine s_if_lt dX9_isFrame_1 (tgt := 15) (by decide) (fun cc => ?_) (fun cc => ?_)
  · have hp0 := cc
    refine s_iconst dX9_isFrame_15 (by decide) ?_
    exact am_lesS (kj2 0 (h 0 (by rw [if_pos hp0]))) ⟨Or.inl rfl, trivial⟩
  · have hp0 := cc
    refine s_iload_n dX9_isFrame_4 rfl rfl ?_
    refine s_sipush dX9_isFrame_5 (by decide) ?_
    refine s_icmp_ge dX9_isFrame_8 (tgt := 15) (by decide) (fun cc => ?_) (fun cc => ?_)
    · have hp1 := cc
      refine s_iconst dX9_isFrame_15 (by decide) ?_
      exact am_lesS (kj2 0 (h 0 (by rw [if_neg (Int.not_lt.mpr hp0), if_neg (Int.not_lt.mpr hp1)]))) ⟨Or.inl rfl, trivial⟩
    · have hp1 := cc
      refine s_iconst dX9_isFrame_11 (by decide) ?_
      refine s_goto dX9_isFrame_12 (tgt := 16) (by decide) ?_
      exact am_lesS (kj2 1 (h 1 (by rw [if_neg (Int.not_lt.mpr hp0), if_pos hp1]))) ⟨Or.inl rfl, trivial⟩
theorem ve_X9_isFrame {x0 : Int} {μ : am_M} {Q : Int → am_M → Prop} (h : at_I kC 1 mX9_isFrame 0 [vI x0] [] μ Q) : cl_I kC 1 mX9_isFrame [vI x0] μ Q := am_intro pmX9_isFrame (Nat.le_of_ble_eq_true rfl) rfl h
theorem sp_X9_isFrame {μ : am_M} {t : Int} {Q : Int → am_M → Prop} (hQ : Q (bI (0 ≤ t ∧ t < 600)) μ) : cl_I kC 1 mX9_isFrame [vI t] μ Q :=
  ve_X9_isFrame (vc_X9_isFrame_0 fun v1 e => ⟨by omega, by rw [show v1 = bI (0 ≤ t ∧ t < 600) from (by (try subst_vars); (repeat' split) <;> first | (exact bI_t (by (try unfold in_ at *); omega)) | (exact (bI_t (by (try unfold in_ at *); omega)).symm) | (exact bI_f (by (try unfold in_ at *); omega)) | (exact (bI_f (by (try unfold in_ at *); omega)).symm))]; exact hQ⟩)
theorem vc_X9_isSilence_0 {x0 x1 : Int} {μ : am_M} {Q : Int → am_M → Prop} (h : ∀ v1 : Int, v1 = (if x0 < 1 then 0 else (if 999 < x0 then 0 else (if x1 < 1 then 0 else (if 600 < x1 then 0 else 1)))) → (v1 = 0 ∨ v1 = 1) ∧ Q v1 μ) : at_I kC 1 mX9_isSilence 0 [vI x0, vI x1] [] μ Q := by
  refine s_iload_n dX9_isSilence_0 rfl rfl ?_
  refine s_iconst dX9_isSilence_1 (by decide) ?_
  have kj2 : ∀ (v1 : Int), ((v1 = 0 ∨ v1 = 1) ∧ Q v1 μ) → at_I kC 1 mX9_isSilence 29 [vU, vU] [vI v1] μ Q := by
    intro v1 h
    exact s_ireturn dX9_isSilence_29 (Or.inr ⟨rfl, h.1⟩) ⟨⟨rfl, rfl⟩, _, rfl, h.2⟩
  refine s_icmp_lt dX9_isSilence_2 (tgt := 28) (by decide) (fun cc => ?_) (fun cc => ?_)
  · have hp0 := cc
    refine s_iconst dX9_isSilence_28 (by decide) ?_
    exact am_lesS (kj2 0 (h 0 (by rw [if_pos hp0]))) ⟨Or.inl rfl, Or.inl rfl, trivial⟩
  · have hp0 := cc
    refine s_iload_n dX9_isSilence_5 rfl rfl ?_
    refine s_sipush dX9_isSilence_6 (by decide) ?_
    refine s_icmp_gt dX9_isSilence_9 (tgt := 28) (by decide) (fun cc => ?_) (fun cc => ?_)
    · have hp1 := cc
      refine s_iconst dX9_isSilence_28 (by decide) ?_
      exact am_lesS (kj2 0 (h 0 (by rw [if_neg (Int.not_lt.mpr hp0), if_pos hp1]))) ⟨Or.inl rfl, Or.inl rfl, trivial⟩
    · have hp1 := cc
      refine s_iload_n dX9_isSilence_12 rfl rfl ?_
      refine s_iconst dX9_isSilence_13 (by decide) ?_
      refine s_icmp_lt dX9_isSilence_14 (tgt := 28) (by decide) (fun cc => ?_) (fun cc => ?_)
      · have hp2 := cc
        refine s_iconst dX9_isSilence_28 (by decide) ?_
        exact am_lesS (kj2 0 (h 0 (by rw [if_neg (Int.not_lt.mpr hp0), if_neg (Int.not_lt.mpr hp1), if_pos hp2]))) ⟨Or.inl rfl, Or.inl rfl, trivial⟩
      · have hp2 := cc
        refine s_iload_n dX9_isSilence_17 rfl rfl ?_
        refine s_sipush dX9_isSilence_18 (by decide) ?_
        refine s_icmp_gt dX9_isSilence_21 (tgt := 28) (by decide) (fun cc => ?_) (fun cc => ?_)
        · have hp3 := cc
          refine s_iconst dX9_isSilence_28 (by decide) ?_
          exact am_lesS (kj2 0 (h 0 (by rw [if_neg (Int.not_lt.mpr hp0), if_neg (Int.not_lt.mpr hp1), if_neg (Int.not_lt.mpr hp2), if_pos hp3]))) ⟨Or.inl rfl, Or.inl rfl, trivial⟩
        · have hp3 := cc
          refine s_iconst dX9_isSilence_24 (by decide) ?_
          refine s_goto dX9_isSilence_25 (tgt := 29) (by decide) ?_
          exact am_lesS (kj2 1 (h 1 (by rw [if_neg (Int.not_lt.mpr hp0), if_neg (Int.not_lt.mpr hp1), if_neg (Int.not_lt.mpr hp2), if_neg (Int.not_lt.mpr hp3)]))) ⟨Or.inl rfl, Or.inl rfl, trivial⟩
theorem ve_X9_isSilence {x0 x1 : Int} {μ : am_M} {Q : Int → am_M → Prop} (h : at_I kC 1 mX9_isSilence 0 [vI x0, vI x1] [] μ Q) : cl_I kC 1 mX9_isSilence [vI x0, vI x1] μ Q := am_intro pmX9_isSilence (Nat.le_of_ble_eq_true rfl) rfl h
theorem sp_X9_isSilence {μ : am_M} {v n : Int} {Q : Int → am_M → Prop} (hQ : Q (bI ((1 ≤ v ∧ v ≤ 999) ∧ 1 ≤ n ∧ n ≤ 600)) μ) : cl_I kC 1 mX9_isSilence [vI v, vI n] μ Q :=
  ve_X9_isSilence (vc_X9_isSilence_0 fun v1 e => ⟨by omega, by rw [show v1 = bI ((1 ≤ v ∧ v ≤ 999) ∧ 1 ≤ n ∧ n ≤ 600) from (by (try subst_vars); (repeat' split) <;> first | (exact bI_t (by (try unfold in_ at *); omega)) | (exact (bI_t (by (try unfold in_ at *); omega)).symm) | (exact bI_f (by (try unfold in_ at *); omega)) | (exact (bI_f (by (try unfold in_ at *); omega)).symm))]; exact hQ⟩)
/-- an answer, and the clips behind it -/
abbrev Rt : Type := Int × Int × Tb
def rk_ (μ m : am_M) (z : Int) (R : Rt) : Prop := z = R.1 ∧ ck_ μ m R.2.1 R.2.2
theorem rk_same {μ : am_M} {z : Int} {R : Rt} (h : R = (z, μ 5 1, cg μ)) : rk_ μ μ z R := by
  rw [h]
  exact ⟨rfl, ck_rf μ⟩
/-- set a number of a clip -/
noncomputable def r_set (n : Int) (g : Tb) (c w v : Int) : Rt :=
  cif (¬ (0 ≤ c ∧ c < n)) (-1, n, g) (cif (w < 0 ∨ 2 < w ∨ v < 0 ∨ (w = 0 ∧ 200 < v) ∨ (w = 1 ∧ g c 4 - g c 7 < v) ∨ (w = 2 ∧ g c 4 - g c 6 < v)) (-2, n, g) (g c (5 + w), n, up_T g c (5 + w) v))
theorem vc_X1_change_0 {x1 x2 x3 : Int} {μ : am_M} {Q : Int → am_M → Prop} (h : (0 ≤ x1 ∧ x1 < μ 5 1 → (x2 < 0 → Q (-2) μ) ∧ (0 ≤ x2 → (2 < x2 → Q (-2) μ) ∧ (x2 ≤ 2 → (0 ≤ x3 → ((x2 ≠ 1 → (in_ 0 32 x1) ∧ (in_ 0 8 6)) ∧ (x2 = 1 → (in_ 0 32 x1) ∧ (in_ 0 8 7))) ∧ (∀ v1 : Int, v1 = (if x2 = 1 then cg μ x1 7 else cg μ x1 6) → ((x2 ≠ 0 → (in_ 0 32 x1) ∧ (in_ 0 8 4) ∧ ((am_in (cg μ x1 4 - v1))))) ∧ (∀ v2 : Int, v2 = (if x2 = 0 then 200 else cg μ x1 4 - v1) → (x3 ≤ v2 → (am_in (5 + x2)) ∧ ((in_ 0 32 x1) ∧ (in_ 0 8 (5 + x2)) ∧ ((am_in (5 + x2)) ∧ ((in_ 0 32 x1) ∧ (in_ 0 8 (5 + x2)) ∧ (in_ 0 33 (μ 5 1)) ∧ (∀ m4 : am_M, ck_ μ m4 (μ 5 1) (up_T (cg μ) x1 (5 + x2) x3) → Q (cg μ x1 (5 + x2)) m4))))) ∧ (v2 < x3 → Q (-2) μ)))) ∧ (x3 < 0 → Q (-2) μ)))) ∧ (¬ (0 ≤ x1 ∧ x1 < μ 5 1) → Q (-1) μ)) : at_I kC 2 mX1_change 0 [vR 5, vI x1, vI x2, vI x3, vU, vU] [] μ Q := by
  refine s_aload_n dX1_change_0 rfl rfl ?_
  refine s_iload_n dX1_change_1 rfl rfl ?_
  refine s_callV (As := [vI x1]) (rest := []) (k := 5) dX1_change_2 lkX1_38 kn5 ⟨by rw [kk5]; rfl, by rw [kk5]; decide⟩ lmX1_has rfl rfl (Nat.le_of_ble_eq_true rfl) (by decide) (Nat.le_refl 0) (Nat.le_refl 0) (hC := sp_X1_has (Q := fun z m => bI (0 ≤ x1 ∧ x1 < μ 5 1) = z ∧ μ = m)  ⟨rfl, rfl⟩) (fun r n2 S2 m2 hP => ?_)
  obtain ⟨⟨rfl, rfl⟩, z, rfl, rfl, rfl⟩ := hP
  refine s_if_ne dX1_change_5 (tgt := 10) (by decide) (fun cc => ?_) (fun cc => ?_)
  · have h := h.1 (bI_ne cc)
    refine s_iload_n dX1_change_10 rfl rfl ?_
    refine s_if_lt dX1_change_11 (tgt := 23) (by decide) (fun cc => ?_) (fun cc => ?_)
    · have h := h.1 cc
      refine s_bipush dX1_change_23 (by decide) ?_
      exact s_ireturn dX1_change_25 (Or.inl rfl) ⟨⟨rfl, rfl⟩, _, rfl, h⟩
    · have h := h.2 cc
      refine s_iload_n dX1_change_14 rfl rfl ?_
      refine s_iconst dX1_change_15 (by decide) ?_
      refine s_icmp_gt dX1_change_16 (tgt := 23) (by decide) (fun cc => ?_) (fun cc => ?_)
      · have h := h.1 cc
        refine s_bipush dX1_change_23 (by decide) ?_
        exact s_ireturn dX1_change_25 (Or.inl rfl) ⟨⟨rfl, rfl⟩, _, rfl, h⟩
      · have h := h.2 cc
        refine s_iload_n dX1_change_19 rfl rfl ?_
        refine s_if_ge dX1_change_20 (tgt := 26) (by decide) (fun cc => ?_) (fun cc => ?_)
        · have h := h.1 cc
          refine s_iload_n dX1_change_26 rfl rfl ?_
          refine s_iconst dX1_change_27 (by decide) ?_
          obtain ⟨hsd, h⟩ := h
          have kj6 : ∀ (v1 : Int), (((x2 ≠ 0 → (in_ 0 32 x1) ∧ (in_ 0 8 4) ∧ ((am_in (cg μ x1 4 - v1))))) ∧ (∀ v2 : Int, v2 = (if x2 = 0 then 200 else cg μ x1 4 - v1) → (x3 ≤ v2 → (am_in (5 + x2)) ∧ ((in_ 0 32 x1) ∧ (in_ 0 8 (5 + x2)) ∧ ((am_in (5 + x2)) ∧ ((in_ 0 32 x1) ∧ (in_ 0 8 (5 + x2)) ∧ (in_ 0 33 (μ 5 1)) ∧ (∀ m4 : am_M, ck_ μ m4 (μ 5 1) (up_T (cg μ) x1 (5 + x2) x3) → Q (cg μ x1 (5 + x2)) m4))))) ∧ (v2 < x3 → Q (-2) μ))) → at_I kC 2 mX1_change 48 [vR 5, vI x1, vI x2, vI x3, vU, vU] [vI v1] μ Q := by
            intro v1 h
            refine s_istore dX1_change_48 (by decide) (L' := [vR 5, vI x1, vI x2, vI x3, vI v1, vU]) rfl ?_
            refine s_iload_n dX1_change_50 rfl rfl ?_
            refine s_iload_n dX1_change_51 rfl rfl ?_
            obtain ⟨hsd, h⟩ := h
            have kj5 : ∀ (v2 : Int), ((x3 ≤ v2 → (am_in (5 + x2)) ∧ ((in_ 0 32 x1) ∧ (in_ 0 8 (5 + x2)) ∧ ((am_in (5 + x2)) ∧ ((in_ 0 32 x1) ∧ (in_ 0 8 (5 + x2)) ∧ (in_ 0 33 (μ 5 1)) ∧ (∀ m4 : am_M, ck_ μ m4 (μ 5 1) (up_T (cg μ) x1 (5 + x2) x3) → Q (cg μ x1 (5 + x2)) m4))))) ∧ (v2 < x3 → Q (-2) μ)) → at_I kC 2 mX1_change 70 [vR 5, vI x1, vI x2, vI x3, vU, vU] [vI v2, vI x3] μ Q := by
              intro v2 h
              refine s_icmp_le dX1_change_70 (tgt := 76) (by decide) (fun cc => ?_) (fun cc => ?_)
              · have h := h.1 cc
                refine s_aload_n dX1_change_76 rfl rfl ?_
                refine s_iload_n dX1_change_77 rfl rfl ?_
                refine s_iconst dX1_change_78 (by decide) ?_
                refine s_iload_n dX1_change_79 rfl rfl ?_
                obtain ⟨c, h⟩ := h
                refine s_iadd dX1_change_80 (am_w_id c) ?_
                obtain ⟨p0, p1, h⟩ := h
                refine s_callV (As := [vI x1, vI (5 + x2)]) (rest := []) (k := 5) dX1_change_81 lkX1_19 kn5 ⟨by rw [kk5]; rfl, by rw [kk5]; decide⟩ lmX1_get rfl rfl (Nat.le_of_ble_eq_true rfl) (by decide) (Nat.le_refl 0) (Nat.le_refl 0) (hC := sp_X1_get (Q := fun z m => cg μ x1 (5 + x2) = z ∧ μ = m) p0 p1 ⟨rfl, rfl⟩) (fun r n2 S2 m2 hP => ?_)
                obtain ⟨⟨rfl, rfl⟩, z, rfl, rfl, rfl⟩ := hP
                refine s_istore dX1_change_84 (by decide) (L' := [vR 5, vI x1, vI x2, vI x3, vU, vI (cg μ x1 (5 + x2))]) rfl ?_
                refine s_aload_n dX1_change_86 rfl rfl ?_
                refine s_iload_n dX1_change_87 rfl rfl ?_
                refine s_iconst dX1_change_88 (by decide) ?_
                refine s_iload_n dX1_change_89 rfl rfl ?_
                obtain ⟨c, h⟩ := h
                refine s_iadd dX1_change_90 (am_w_id c) ?_
                refine s_iload_n dX1_change_91 rfl rfl ?_
                obtain ⟨p0, p1, p2, h⟩ := h
                refine s_callV (As := [vI x1, vI (5 + x2), vI x3]) (rest := []) (k := 5) dX1_change_92 lkX1_42 kn5 ⟨by rw [kk5]; rfl, by rw [kk5]; decide⟩ lmX1_put rfl rfl (Nat.le_of_ble_eq_true rfl) (by decide) (Nat.le_refl 0) (Nat.le_refl 0) (hC := sp_X1_putP  p0 p1 p2) (fun r n2 S2 m4 hP => ?_)
                obtain ⟨⟨rfl, rfl⟩, rfl, hq⟩ := hP
                have h := h m4 hq
                refine s_iload dX1_change_95 rfl ?_
                exact s_ireturn dX1_change_97 (Or.inl rfl) ⟨⟨rfl, rfl⟩, _, rfl, h⟩
              · have h := h.2 cc
                refine s_bipush dX1_change_73 (by decide) ?_
                exact s_ireturn dX1_change_75 (Or.inl rfl) ⟨⟨rfl, rfl⟩, _, rfl, h⟩
            refine s_if_ne dX1_change_52 (tgt := 61) (by decide) (fun cc => ?_) (fun cc => ?_)
            · have hp0 := cc
              have hsd := hsd hp0
              refine s_aload_n dX1_change_61 rfl rfl ?_
              refine s_iload_n dX1_change_62 rfl rfl ?_
              refine s_iconst dX1_change_63 (by decide) ?_
              obtain ⟨p0, p1, hsd⟩ := hsd
              refine s_callV (As := [vI x1, vI 4]) (rest := [vI x3]) (k := 5) dX1_change_64 lkX1_19 kn5 ⟨by rw [kk5]; rfl, by rw [kk5]; decide⟩ lmX1_get rfl rfl (Nat.le_of_ble_eq_true rfl) (by decide) (Nat.le_refl 0) (Nat.le_refl 0) (hC := sp_X1_get (Q := fun z m => cg μ x1 4 = z ∧ μ = m) p0 p1 ⟨rfl, rfl⟩) (fun r n2 S2 m2 hP => ?_)
              obtain ⟨⟨rfl, rfl⟩, z, rfl, rfl, rfl⟩ := hP
              refine s_iload dX1_change_67 rfl ?_
              have c := hsd
              refine s_isub dX1_change_69 (am_w_id c) ?_
              exact am_lesS (kj5 (cg μ x1 4 - v1) (h (cg μ x1 4 - v1) (by rw [if_neg hp0]))) ⟨Or.inr rfl, Or.inr rfl, Or.inr rfl, Or.inr rfl, Or.inl rfl, Or.inl rfl, trivial⟩
            · have hp0 := cc
              refine s_sipush dX1_change_55 (by decide) ?_
              refine s_goto dX1_change_58 (tgt := 70) (by decide) ?_
              exact am_lesS (kj5 200 (h 200 (by rw [if_pos hp0]))) ⟨Or.inr rfl, Or.inr rfl, Or.inr rfl, Or.inr rfl, Or.inl rfl, Or.inl rfl, trivial⟩
          refine s_icmp_ne dX1_change_28 (tgt := 41) (by decide) (fun cc => ?_) (fun cc => ?_)
          · have hp0 := cc
            have hsd := hsd.1 hp0
            refine s_aload_n dX1_change_41 rfl rfl ?_
            refine s_iload_n dX1_change_42 rfl rfl ?_
            refine s_bipush dX1_change_43 (by decide) ?_
            obtain ⟨p0, p1⟩ := hsd
            refine s_callV (As := [vI x1, vI 6]) (rest := []) (k := 5) dX1_change_45 lkX1_19 kn5 ⟨by rw [kk5]; rfl, by rw [kk5]; decide⟩ lmX1_get rfl rfl (Nat.le_of_ble_eq_true rfl) (by decide) (Nat.le_refl 0) (Nat.le_refl 0) (hC := sp_X1_get (Q := fun z m => cg μ x1 6 = z ∧ μ = m) p0 p1 ⟨rfl, rfl⟩) (fun r n2 S2 m2 hP => ?_)
            obtain ⟨⟨rfl, rfl⟩, z, rfl, rfl, rfl⟩ := hP
            exact kj6 (cg μ x1 6) (h (cg μ x1 6) (by rw [if_neg hp0]))
          · have hp0 := cc
            have hsd := hsd.2 hp0
            refine s_aload_n dX1_change_31 rfl rfl ?_
            refine s_iload_n dX1_change_32 rfl rfl ?_
            refine s_bipush dX1_change_33 (by decide) ?_
            obtain ⟨p0, p1⟩ := hsd
            refine s_callV (As := [vI x1, vI 7]) (rest := []) (k := 5) dX1_change_35 lkX1_19 kn5 ⟨by rw [kk5]; rfl, by rw [kk5]; decide⟩ lmX1_get rfl rfl (Nat.le_of_ble_eq_true rfl) (by decide) (Nat.le_refl 0) (Nat.le_refl 0) (hC := sp_X1_get (Q := fun z m => cg μ x1 7 = z ∧ μ = m) p0 p1 ⟨rfl, rfl⟩) (fun r n2 S2 m2 hP => ?_)
            obtain ⟨⟨rfl, rfl⟩, z, rfl, rfl, rfl⟩ := hP
            refine s_goto dX1_change_38 (tgt := 48) (by decide) ?_
            exact kj6 (cg μ x1 7) (h (cg μ x1 7) (by rw [if_pos hp0]))
        · have h := h.2 cc
          refine s_bipush dX1_change_23 (by decide) ?_
          exact s_ireturn dX1_change_25 (Or.inl rfl) ⟨⟨rfl, rfl⟩, _, rfl, h⟩
  · have h := h.2 (bI_eq cc)
    refine s_iconst dX1_change_8 (by decide) ?_
    exact s_ireturn dX1_change_9 (Or.inl rfl) ⟨⟨rfl, rfl⟩, _, rfl, h⟩
theorem ve_X1_change {x1 x2 x3 : Int} {μ : am_M} {Q : Int → am_M → Prop} (h : at_I kC 2 mX1_change 0 [vR 5, vI x1, vI x2, vI x3, vU, vU] [] μ Q) : cl_I kC 2 mX1_change [vR 5, vI x1, vI x2, vI x3] μ Q := am_intro pmX1_change (Nat.le_of_ble_eq_true rfl) rfl h
theorem sp_X1_change {μ : am_M} {c w v : Int} (h1 : ok_T (cg μ) (μ 5 1)) : cl_I kC 2 mX1_change [vR 5, vI c, vI w, vI v] μ (fun z m => rk_ μ m z (r_set (μ 5 1) (cg μ) c w v)) := by
  have q1 := h1.1
  refine ve_X1_change (vc_X1_change_0 ⟨fun hc => ?_, fun hc => rk_same (cif_t hc)⟩)
  obtain ⟨b0, b1, b2, b3, b4, b5, b6, b7⟩ := h1.2 c hc.1 hc.2
  have bad : (w < 0 ∨ 2 < w ∨ v < 0 ∨ (w = 0 ∧ 200 < v) ∨ (w = 1 ∧ cg μ c 4 - cg μ c 7 < v) ∨ (w = 2 ∧ cg μ c 4 - cg μ c 6 < v)) → rk_ μ μ (-2) (r_set (μ 5 1) (cg μ) c w v) := fun hb => rk_same ((cif_f (fun z => z hc)).trans (cif_t hb))
  refine ⟨fun h => bad (by omega), fun w0 => ⟨fun h => bad (by omega), fun w1 => ⟨fun v0 => ⟨⟨fun _ => ⟨(by (try unfold am_in); (try unfold in_ at *); omega), (by (try unfold am_in); (try unfold in_ at *); omega)⟩, fun _ => ⟨(by (try unfold am_in); (try unfold in_ at *); omega), (by (try unfold am_in); (try unfold in_ at *); omega)⟩⟩, fun v1 e1 => ⟨fun _ => ⟨(by (try unfold am_in); (try unfold in_ at *); omega), (by (try unfold am_in); (try unfold in_ at *); omega), by subst e1; split <;> ((try unfold am_in); (try unfold in_ at *); omega)⟩, fun v2 e2 => ⟨fun le => ?_, fun le => bad (by subst e2; subst e1; split at le <;> (try split at le) <;> omega)⟩⟩⟩, fun h => bad (by omega)⟩⟩⟩
  have ng : ¬ (w < 0 ∨ 2 < w ∨ v < 0 ∨ (w = 0 ∧ 200 < v) ∨ (w = 1 ∧ cg μ c 4 - cg μ c 7 < v) ∨ (w = 2 ∧ cg μ c 4 - cg μ c 6 < v)) := by
    subst e2; subst e1; split at le <;> (try split at le) <;> omega
  have e : r_set (μ 5 1) (cg μ) c w v = (cg μ c (5 + w), μ 5 1, up_T (cg μ) c (5 + w) v) := (cif_f (fun z => z hc)).trans (cif_f ng)
  refine ⟨(by (try unfold am_in); (try unfold in_ at *); omega), (by (try unfold am_in); (try unfold in_ at *); omega), (by (try unfold am_in); (try unfold in_ at *); omega), (by (try unfold am_in); (try unfold in_ at *); omega), (by (try unfold am_in); (try unfold in_ at *); omega), (by (try unfold am_in); (try unfold in_ at *); omega), q1, fun m hm => ?_⟩
  rw [e]
  exact ⟨rfl, hm⟩
/-- move a clip -/
noncomputable def r_mov (n : Int) (g : Tb) (c t s : Int) : Rt :=
  cif (¬ ((0 ≤ c ∧ c < n) ∧ 0 ≤ t ∧ t < 4)) (-1, n, g) (cif (s < 0 ∨ 600 - g c 4 < s) (-2, n, g) (cif (¬ fre_ g n t s (g c 4) c) (-4, n, g)
    (if c < pos_ g n t s then (pos_ g n t s - 1, n, del_T (ins_T g (pos_ g n t s) (mv_R g c t s)) c) else (pos_ g n t s, n, del_T (ins_T g (pos_ g n t s) (mv_R g c t s)) (c + 1)))))
theorem vc_X1_shift_0 {x1 x2 x3 : Int} {μ : am_M} {Q : Int → am_M → Prop} (h : (¬ (0 ≤ x1 ∧ x1 < μ 5 1) → Q (-1) μ) ∧ (0 ≤ x1 ∧ x1 < μ 5 1 → (0 ≤ x2 ∧ x2 < 4 → (x3 < 0 → Q (-2) μ) ∧ (0 ≤ x3 → (in_ 0 32 x1) ∧ (in_ 0 8 4) ∧ ((am_in (600 - (cg μ x1 4))) ∧ ((x3 ≤ 600 - (cg μ x1 4) → (in_ 0 32 x1) ∧ (in_ 0 8 4) ∧ ((ok_T (cg μ) (μ 5 1)) ∧ (am_in (x3 + (cg μ x1 4))) ∧ ((fre_ (cg μ) (μ 5 1) x2 x3 (cg μ x1 4) x1 → (ok_T (cg μ) (μ 5 1)) ∧ (μ 5 1 < 32) ∧ (0 ≤ x1 ∧ x1 < μ 5 1) ∧ (∀ (z1 : Int) (m2 : am_M), z1 = pos_ (cg μ) (μ 5 1) x2 x3 ∧ ck_ μ m2 (μ 5 1 + 1) (ins_T (cg μ) (pos_ (cg μ) (μ 5 1) x2 x3) (mv_R (cg μ) x1 x2 x3)) → ((z1 ≤ x1 → (am_in (x1 + 1)))) ∧ (∀ v3 : Int, v3 = (if x1 < z1 then x1 else x1 + 1) → (in_ 0 33 (m2 5 1)) ∧ (0 ≤ v3 ∧ v3 < m2 5 1) ∧ (∀ m5 : am_M, ck_ m2 m5 (m2 5 1 - 1) (del_T (cg m2) v3) → ((v3 < z1 → (am_in (z1 - 1)))) ∧ (∀ v6 : Int, v6 = (if v3 < z1 then z1 - 1 else z1) → Q v6 m5))))) ∧ (¬ (fre_ (cg μ) (μ 5 1) x2 x3 (cg μ x1 4) x1) → Q (-4) μ)))) ∧ (600 - (cg μ x1 4) < x3 → Q (-2) μ))))) ∧ (¬ (0 ≤ x2 ∧ x2 < 4) → Q (-1) μ))) : at_I kC 4 mX1_shift 0 [vR 5, vI x1, vI x2, vI x3, vU, vU] [] μ Q := by
  refine s_aload_n dX1_shift_0 rfl rfl ?_
  refine s_iload_n dX1_shift_1 rfl rfl ?_
  refine s_callV (As := [vI x1]) (rest := []) (k := 5) dX1_shift_2 lkX1_38 kn5 ⟨by rw [kk5]; rfl, by rw [kk5]; decide⟩ lmX1_has rfl rfl (Nat.le_of_ble_eq_true rfl) (by decide) (Nat.le_refl 0) (Nat.le_refl 0) (hC := sp_X1_has (Q := fun z m => bI (0 ≤ x1 ∧ x1 < μ 5 1) = z ∧ μ = m)  ⟨rfl, rfl⟩) (fun r n2 S2 m2 hP => ?_)
  obtain ⟨⟨rfl, rfl⟩, z, rfl, rfl, rfl⟩ := hP
  refine s_if_eq dX1_shift_5 (tgt := 15) (by decide) (fun cc => ?_) (fun cc => ?_)
  · have h := h.1 (bI_eq cc)
    refine s_iconst dX1_shift_15 (by decide) ?_
    exact s_ireturn dX1_shift_16 (Or.inl rfl) ⟨⟨rfl, rfl⟩, _, rfl, h⟩
  · have h := h.2 (bI_ne cc)
    refine s_iload_n dX1_shift_8 rfl rfl ?_
    refine s_callSN (As := [vI x2]) (rest := []) dX1_shift_9 lkX1_46 lmX9_isTrack rfl rfl (Nat.le_of_ble_eq_true rfl) (by decide) (Nat.le_refl 0) (Nat.le_refl 0) (hC := sp_X9_isTrack (Q := fun z m => bI (0 ≤ x2 ∧ x2 < 4) = z ∧ μ = m)  ⟨rfl, rfl⟩) (fun r n2 S2 m2 hP => ?_)
    obtain ⟨⟨rfl, rfl⟩, z, rfl, rfl, rfl⟩ := hP
    refine s_if_ne dX1_shift_12 (tgt := 17) (by decide) (fun cc => ?_) (fun cc => ?_)
    · have h := h.1 (bI_ne cc)
      refine s_iload_n dX1_shift_17 rfl rfl ?_
      refine s_if_lt dX1_shift_18 (tgt := 35) (by decide) (fun cc => ?_) (fun cc => ?_)
      · have h := h.1 cc
        refine s_bipush dX1_shift_35 (by decide) ?_
        exact s_ireturn dX1_shift_37 (Or.inl rfl) ⟨⟨rfl, rfl⟩, _, rfl, h⟩
      · have h := h.2 cc
        refine s_iload_n dX1_shift_21 rfl rfl ?_
        refine s_sipush dX1_shift_22 (by decide) ?_
        refine s_aload_n dX1_shift_25 rfl rfl ?_
        refine s_iload_n dX1_shift_26 rfl rfl ?_
        refine s_iconst dX1_shift_27 (by decide) ?_
        obtain ⟨p0, p1, h⟩ := h
        refine s_callV (As := [vI x1, vI 4]) (rest := [vI 600, vI x3]) (k := 5) dX1_shift_28 lkX1_19 kn5 ⟨by rw [kk5]; rfl, by rw [kk5]; decide⟩ lmX1_get rfl rfl (Nat.le_of_ble_eq_true rfl) (by decide) (Nat.le_refl 0) (Nat.le_refl 0) (hC := sp_X1_get (Q := fun z m => cg μ x1 4 = z ∧ μ = m) p0 p1 ⟨rfl, rfl⟩) (fun r n2 S2 m2 hP => ?_)
        obtain ⟨⟨rfl, rfl⟩, z, rfl, rfl, rfl⟩ := hP
        obtain ⟨c, h⟩ := h
        refine s_isub dX1_shift_31 (am_w_id c) ?_
        refine s_icmp_le dX1_shift_32 (tgt := 38) (by decide) (fun cc => ?_) (fun cc => ?_)
        · have h := h.1 cc
          refine s_aload_n dX1_shift_38 rfl rfl ?_
          refine s_iload_n dX1_shift_39 rfl rfl ?_
          refine s_iload_n dX1_shift_40 rfl rfl ?_
          refine s_aload_n dX1_shift_41 rfl rfl ?_
          refine s_iload_n dX1_shift_42 rfl rfl ?_
          refine s_iconst dX1_shift_43 (by decide) ?_
          obtain ⟨p0, p1, h⟩ := h
          refine s_callV (As := [vI x1, vI 4]) (rest := [vI x3, vI x2, vR 5]) (k := 5) dX1_shift_44 lkX1_19 kn5 ⟨by rw [kk5]; rfl, by rw [kk5]; decide⟩ lmX1_get rfl rfl (Nat.le_of_ble_eq_true rfl) (by decide) (Nat.le_refl 0) (Nat.le_refl 0) (hC := sp_X1_get (Q := fun z m => cg μ x1 4 = z ∧ μ = m) p0 p1 ⟨rfl, rfl⟩) (fun r n2 S2 m2 hP => ?_)
          obtain ⟨⟨rfl, rfl⟩, z, rfl, rfl, rfl⟩ := hP
          refine s_iload_n dX1_shift_47 rfl rfl ?_
          obtain ⟨p0, p1, h⟩ := h
          refine s_callV (As := [vI x2, vI x3, vI (cg μ x1 4), vI x1]) (rest := []) (k := 5) dX1_shift_48 lkX1_49 kn5 ⟨by rw [kk5]; rfl, by rw [kk5]; decide⟩ lmX1_isFree rfl rfl (Nat.le_of_ble_eq_true rfl) (by decide) (Nat.le_refl 0) (Nat.le_refl 0) (hC := sp_X1_isFree (Q := fun z m => bI (fre_ (cg μ) (μ 5 1) x2 x3 (cg μ x1 4) x1) = z ∧ μ = m) p0 p1 ⟨rfl, rfl⟩) (fun r n2 S2 m2 hP => ?_)
          obtain ⟨⟨rfl, rfl⟩, z, rfl, rfl, rfl⟩ := hP
          refine s_if_ne dX1_shift_51 (tgt := 57) (by decide) (fun cc => ?_) (fun cc => ?_)
          · have h := h.1 (bI_ne cc)
            refine s_aload_n dX1_shift_57 rfl rfl ?_
            refine s_iload_n dX1_shift_58 rfl rfl ?_
            refine s_iload_n dX1_shift_59 rfl rfl ?_
            refine s_iload_n dX1_shift_60 rfl rfl ?_
            obtain ⟨p0, p1, p2, h⟩ := h
            refine s_callV (As := [vI x1, vI x2, vI x3]) (rest := []) (k := 5) dX1_shift_61 lkX1_53 kn5 ⟨by rw [kk5]; rfl, by rw [kk5]; decide⟩ lmX1_copyTo rfl rfl (Nat.le_of_ble_eq_true rfl) (by decide) (Nat.le_refl 0) (Nat.le_refl 0) (hC := sp_X1_copyTo  p0 p1 p2) (fun r n2 S2 m2 hP => ?_)
            obtain ⟨⟨rfl, rfl⟩, z1, rfl, hq⟩ := hP
            have h := h z1 m2 hq
            refine s_istore dX1_shift_64 (by decide) (L' := [vR 5, vI x1, vI x2, vI x3, vI z1, vU]) rfl ?_
            refine s_iload_n dX1_shift_66 rfl rfl ?_
            refine s_iload dX1_shift_67 rfl ?_
            obtain ⟨hsd, h⟩ := h
            have kj8 : ∀ (v3 : Int), ((in_ 0 33 (m2 5 1)) ∧ (0 ≤ v3 ∧ v3 < m2 5 1) ∧ (∀ m5 : am_M, ck_ m2 m5 (m2 5 1 - 1) (del_T (cg m2) v3) → ((v3 < z1 → (am_in (z1 - 1)))) ∧ (∀ v6 : Int, v6 = (if v3 < z1 then z1 - 1 else z1) → Q v6 m5))) → at_I kC 4 mX1_shift 79 [vR 5, vU, vU, vU, vI z1, vU] [vI v3] m2 Q := by
              intro v3 h
              refine s_istore dX1_shift_79 (by decide) (L' := [vR 5, vU, vU, vU, vI z1, vI v3]) rfl ?_
              refine s_aload_n dX1_shift_81 rfl rfl ?_
              refine s_iload dX1_shift_82 rfl ?_
              obtain ⟨p0, p1, h⟩ := h
              refine s_callV (As := [vI v3]) (rest := []) (k := 5) dX1_shift_84 lkX1_57 kn5 ⟨by rw [kk5]; rfl, by rw [kk5]; decide⟩ lmX1_closeRow rfl rfl (Nat.le_of_ble_eq_true rfl) (by decide) (Nat.le_refl 0) (Nat.le_refl 0) (hC := sp_X1_closeRow  p0 p1) (fun r n2 S2 m5 hP => ?_)
              obtain ⟨⟨rfl, rfl⟩, rfl, hq⟩ := hP
              have h := h m5 hq
              refine s_iload dX1_shift_87 rfl ?_
              refine s_iload dX1_shift_89 rfl ?_
              obtain ⟨hsd, h⟩ := h
              have kj7 : ∀ (v6 : Int), (Q v6 m5) → at_I kC 4 mX1_shift 103 [vU, vU, vU, vU, vU, vU] [vI v6] m5 Q := by
                intro v6 h
                exact s_ireturn dX1_shift_103 (Or.inl rfl) ⟨⟨rfl, rfl⟩, _, rfl, h⟩
              refine s_icmp_ge dX1_shift_91 (tgt := 101) (by decide) (fun cc => ?_) (fun cc => ?_)
              · have hp0 := cc
                refine s_iload dX1_shift_101 rfl ?_
                exact am_lesS (kj7 z1 (h z1 (by rw [if_neg (Int.not_lt.mpr hp0)]))) ⟨Or.inl rfl, Or.inl rfl, Or.inl rfl, Or.inl rfl, Or.inl rfl, Or.inl rfl, trivial⟩
              · have hp0 := cc
                have hsd := hsd hp0
                refine s_iload dX1_shift_94 rfl ?_
                refine s_iconst dX1_shift_96 (by decide) ?_
                have c := hsd
                refine s_isub dX1_shift_97 (am_w_id c) ?_
                refine s_goto dX1_shift_98 (tgt := 103) (by decide) ?_
                exact am_lesS (kj7 (z1 - 1) (h (z1 - 1) (by rw [if_pos hp0]))) ⟨Or.inl rfl, Or.inl rfl, Or.inl rfl, Or.inl rfl, Or.inl rfl, Or.inl rfl, trivial⟩
            refine s_icmp_ge dX1_shift_69 (tgt := 76) (by decide) (fun cc => ?_) (fun cc => ?_)
            · have hp0 := cc
              have hsd := hsd hp0
              refine s_iload_n dX1_shift_76 rfl rfl ?_
              refine s_iconst dX1_shift_77 (by decide) ?_
              have c := hsd
              refine s_iadd dX1_shift_78 (am_w_id c) ?_
              exact am_lesS (kj8 (x1 + 1) (h (x1 + 1) (by rw [if_neg (Int.not_lt.mpr hp0)]))) ⟨Or.inr rfl, Or.inl rfl, Or.inl rfl, Or.inl rfl, Or.inr rfl, Or.inl rfl, trivial⟩
            · have hp0 := cc
              refine s_iload_n dX1_shift_72 rfl rfl ?_
              refine s_goto dX1_shift_73 (tgt := 79) (by decide) ?_
              exact am_lesS (kj8 x1 (h x1 (by rw [if_pos hp0]))) ⟨Or.inr rfl, Or.inl rfl, Or.inl rfl, Or.inl rfl, Or.inr rfl, Or.inl rfl, trivial⟩
          · have h := h.2 (bI_eq cc)
            refine s_bipush dX1_shift_54 (by decide) ?_
            exact s_ireturn dX1_shift_56 (Or.inl rfl) ⟨⟨rfl, rfl⟩, _, rfl, h⟩
        · have h := h.2 cc
          refine s_bipush dX1_shift_35 (by decide) ?_
          exact s_ireturn dX1_shift_37 (Or.inl rfl) ⟨⟨rfl, rfl⟩, _, rfl, h⟩
    · have h := h.2 (bI_eq cc)
      refine s_iconst dX1_shift_15 (by decide) ?_
      exact s_ireturn dX1_shift_16 (Or.inl rfl) ⟨⟨rfl, rfl⟩, _, rfl, h⟩
theorem ve_X1_shift {x1 x2 x3 : Int} {μ : am_M} {Q : Int → am_M → Prop} (h : at_I kC 4 mX1_shift 0 [vR 5, vI x1, vI x2, vI x3, vU, vU] [] μ Q) : cl_I kC 4 mX1_shift [vR 5, vI x1, vI x2, vI x3] μ Q := am_intro pmX1_shift (Nat.le_of_ble_eq_true rfl) rfl h
theorem sp_X1_shift {μ : am_M} {c t s : Int} (h1 : ok_T (cg μ) (μ 5 1)) (h2 : μ 5 1 < 32) : cl_I kC 4 mX1_shift [vR 5, vI c, vI t, vI s] μ (fun z m => rk_ μ m z (r_mov (μ 5 1) (cg μ) c t s)) := by
  have q1 := h1.1
  refine ve_X1_shift (vc_X1_shift_0 ⟨fun hc => rk_same (cif_t (by omega)), fun hc => ⟨fun ht => ?_, fun ht => rk_same (cif_t (by omega))⟩⟩)
  obtain ⟨b0, b1, b2, b3, b4, b5, b6, b7⟩ := h1.2 c hc.1 hc.2
  have e1 : r_mov (μ 5 1) (cg μ) c t s = _ := cif_f (fun z => z ⟨hc, ht⟩)
  have bad : (s < 0 ∨ 600 - cg μ c 4 < s) → rk_ μ μ (-2) (r_mov (μ 5 1) (cg μ) c t s) := fun hb => rk_same (e1.trans (cif_t hb))
  refine ⟨fun h => bad (by omega), fun s0 => ⟨(by (try unfold am_in); (try unfold in_ at *); omega), (by (try unfold am_in); (try unfold in_ at *); omega), (by (try unfold am_in); (try unfold in_ at *); omega), fun s1 => ⟨(by (try unfold am_in); (try unfold in_ at *); omega), (by (try unfold am_in); (try unfold in_ at *); omega), h1, (by (try unfold am_in); (try unfold in_ at *); omega), fun hf => ⟨h1, h2, hc, fun p m ⟨hp, hm⟩ => ?_⟩, fun hf => rk_same ((e1.trans (cif_f (by omega))).trans (cif_t hf))⟩, fun s1 => bad (by omega)⟩⟩
  have q2 := cnt_le (p := ls_ (cg μ) t s) (n := μ 5 1) (by (try unfold am_in); (try unfold in_ at *); omega)
  have q3 : 0 ≤ p ∧ p ≤ μ 5 1 := by rw [hp]; exact q2
  have e2 := (e1.trans (cif_f (by omega))).trans (cif_f (fun z => z hf))
  rw [← hp] at e2 hm
  refine ⟨fun _ => (by (try unfold am_in); (try unfold in_ at *); omega), fun v hv => ⟨by rw [hm.2.1]; ((try unfold am_in); (try unfold in_ at *); omega), by rw [hm.2.1]; subst hv; split <;> omega, fun m2 hm2 => ⟨fun _ => (by (try unfold am_in); (try unfold in_ at *); omega), fun v6 e6 => ?_⟩⟩⟩
  rw [hm.2.1] at hm2
  have d := ck_tr hm hm2 (fun e => e.del _)
  rw [show μ 5 1 + 1 - 1 = μ 5 1 by omega] at d
  rw [e2]
  by_cases q : c < p
  · rw [if_pos q]
    rw [if_pos q] at hv
    subst hv
    exact ⟨by rw [e6, if_pos q], d⟩
  · rw [if_neg q]
    rw [if_neg q] at hv
    subst hv
    exact ⟨by rw [e6, if_neg (by omega)], d⟩
/-- copy a clip -/
noncomputable def r_dup (n : Int) (g : Tb) (c t s : Int) : Rt :=
  cif (¬ ((0 ≤ c ∧ c < n) ∧ 0 ≤ t ∧ t < 4)) (-1, n, g) (cif (s < 0 ∨ 600 - g c 4 < s) (-2, n, g) (cif (24 ≤ n) (-3, n, g) (cif (¬ fre_ g n t s (g c 4) (-1)) (-4, n, g)
    (pos_ g n t s, n + 1, ins_T g (pos_ g n t s) (mv_R g c t s)))))
theorem vc_X1_duplicate_0 {x1 x2 x3 : Int} {μ : am_M} {Q : Int → am_M → Prop} (h : (¬ (0 ≤ x1 ∧ x1 < μ 5 1) → Q (-1) μ) ∧ (0 ≤ x1 ∧ x1 < μ 5 1 → (0 ≤ x2 ∧ x2 < 4 → (x3 < 0 → Q (-2) μ) ∧ (0 ≤ x3 → (in_ 0 32 x1) ∧ (in_ 0 8 4) ∧ ((am_in (600 - (cg μ x1 4))) ∧ ((x3 ≤ 600 - (cg μ x1 4) → (μ 5 1 < 24 → (in_ 0 32 x1) ∧ (in_ 0 8 4) ∧ ((ok_T (cg μ) (μ 5 1)) ∧ (am_in (x3 + (cg μ x1 4))) ∧ ((fre_ (cg μ) (μ 5 1) x2 x3 (cg μ x1 4) (-1) → (ok_T (cg μ) (μ 5 1)) ∧ (μ 5 1 < 32) ∧ (0 ≤ x1 ∧ x1 < μ 5 1) ∧ (∀ (z1 : Int) (m2 : am_M), z1 = pos_ (cg μ) (μ 5 1) x2 x3 ∧ ck_ μ m2 (μ 5 1 + 1) (ins_T (cg μ) (pos_ (cg μ) (μ 5 1) x2 x3) (mv_R (cg μ) x1 x2 x3)) → Q z1 m2)) ∧ (¬ (fre_ (cg μ) (μ 5 1) x2 x3 (cg μ x1 4) (-1)) → Q (-4) μ)))) ∧ (24 ≤ μ 5 1 → Q (-3) μ)) ∧ (600 - (cg μ x1 4) < x3 → Q (-2) μ))))) ∧ (¬ (0 ≤ x2 ∧ x2 < 4) → Q (-1) μ))) : at_I kC 4 mX1_duplicate 0 [vR 5, vI x1, vI x2, vI x3] [] μ Q := by
  refine s_aload_n dX1_duplicate_0 rfl rfl ?_
  refine s_iload_n dX1_duplicate_1 rfl rfl ?_
  refine s_callV (As := [vI x1]) (rest := []) (k := 5) dX1_duplicate_2 lkX1_38 kn5 ⟨by rw [kk5]; rfl, by rw [kk5]; decide⟩ lmX1_has rfl rfl (Nat.le_of_ble_eq_true rfl) (by decide) (Nat.le_refl 0) (Nat.le_refl 0) (hC := sp_X1_has (Q := fun z m => bI (0 ≤ x1 ∧ x1 < μ 5 1) = z ∧ μ = m)  ⟨rfl, rfl⟩) (fun r n2 S2 m2 hP => ?_)
  obtain ⟨⟨rfl, rfl⟩, z, rfl, rfl, rfl⟩ := hP
  refine s_if_eq dX1_duplicate_5 (tgt := 15) (by decide) (fun cc => ?_) (fun cc => ?_)
  · have h := h.1 (bI_eq cc)
    refine s_iconst dX1_duplicate_15 (by decide) ?_
    exact s_ireturn dX1_duplicate_16 (Or.inl rfl) ⟨⟨rfl, rfl⟩, _, rfl, h⟩
  · have h := h.2 (bI_ne cc)
    refine s_iload_n dX1_duplicate_8 rfl rfl ?_
    refine s_callSN (As := [vI x2]) (rest := []) dX1_duplicate_9 lkX1_46 lmX9_isTrack rfl rfl (Nat.le_of_ble_eq_true rfl) (by decide) (Nat.le_refl 0) (Nat.le_refl 0) (hC := sp_X9_isTrack (Q := fun z m => bI (0 ≤ x2 ∧ x2 < 4) = z ∧ μ = m)  ⟨rfl, rfl⟩) (fun r n2 S2 m2 hP => ?_)
    obtain ⟨⟨rfl, rfl⟩, z, rfl, rfl, rfl⟩ := hP
    refine s_if_ne dX1_duplicate_12 (tgt := 17) (by decide) (fun cc => ?_) (fun cc => ?_)
    · have h := h.1 (bI_ne cc)
      refine s_iload_n dX1_duplicate_17 rfl rfl ?_
      refine s_if_lt dX1_duplicate_18 (tgt := 35) (by decide) (fun cc => ?_) (fun cc => ?_)
      · have h := h.1 cc
        refine s_bipush dX1_duplicate_35 (by decide) ?_
        exact s_ireturn dX1_duplicate_37 (Or.inl rfl) ⟨⟨rfl, rfl⟩, _, rfl, h⟩
      · have h := h.2 cc
        refine s_iload_n dX1_duplicate_21 rfl rfl ?_
        refine s_sipush dX1_duplicate_22 (by decide) ?_
        refine s_aload_n dX1_duplicate_25 rfl rfl ?_
        refine s_iload_n dX1_duplicate_26 rfl rfl ?_
        refine s_iconst dX1_duplicate_27 (by decide) ?_
        obtain ⟨p0, p1, h⟩ := h
        refine s_callV (As := [vI x1, vI 4]) (rest := [vI 600, vI x3]) (k := 5) dX1_duplicate_28 lkX1_19 kn5 ⟨by rw [kk5]; rfl, by rw [kk5]; decide⟩ lmX1_get rfl rfl (Nat.le_of_ble_eq_true rfl) (by decide) (Nat.le_refl 0) (Nat.le_refl 0) (hC := sp_X1_get (Q := fun z m => cg μ x1 4 = z ∧ μ = m) p0 p1 ⟨rfl, rfl⟩) (fun r n2 S2 m2 hP => ?_)
        obtain ⟨⟨rfl, rfl⟩, z, rfl, rfl, rfl⟩ := hP
        obtain ⟨c, h⟩ := h
        refine s_isub dX1_duplicate_31 (am_w_id c) ?_
        refine s_icmp_le dX1_duplicate_32 (tgt := 38) (by decide) (fun cc => ?_) (fun cc => ?_)
        · have h := h.1 cc
          refine s_aload_n dX1_duplicate_38 rfl rfl ?_
          refine s_getI (x := (μ 5 1)) dX1_duplicate_39 flX1_15 kn5 kk5 rfl rfl ?_
          refine s_bipush dX1_duplicate_42 (by decide) ?_
          refine s_icmp_lt dX1_duplicate_44 (tgt := 50) (by decide) (fun cc => ?_) (fun cc => ?_)
          · have h := h.1 cc
            refine s_aload_n dX1_duplicate_50 rfl rfl ?_
            refine s_iload_n dX1_duplicate_51 rfl rfl ?_
            refine s_iload_n dX1_duplicate_52 rfl rfl ?_
            refine s_aload_n dX1_duplicate_53 rfl rfl ?_
            refine s_iload_n dX1_duplicate_54 rfl rfl ?_
            refine s_iconst dX1_duplicate_55 (by decide) ?_
            obtain ⟨p0, p1, h⟩ := h
            refine s_callV (As := [vI x1, vI 4]) (rest := [vI x3, vI x2, vR 5]) (k := 5) dX1_duplicate_56 lkX1_19 kn5 ⟨by rw [kk5]; rfl, by rw [kk5]; decide⟩ lmX1_get rfl rfl (Nat.le_of_ble_eq_true rfl) (by decide) (Nat.le_refl 0) (Nat.le_refl 0) (hC := sp_X1_get (Q := fun z m => cg μ x1 4 = z ∧ μ = m) p0 p1 ⟨rfl, rfl⟩) (fun r n2 S2 m2 hP => ?_)
            obtain ⟨⟨rfl, rfl⟩, z, rfl, rfl, rfl⟩ := hP
            refine s_iconst dX1_duplicate_59 (by decide) ?_
            obtain ⟨p0, p1, h⟩ := h
            refine s_callV (As := [vI x2, vI x3, vI (cg μ x1 4), vI (-1)]) (rest := []) (k := 5) dX1_duplicate_60 lkX1_49 kn5 ⟨by rw [kk5]; rfl, by rw [kk5]; decide⟩ lmX1_isFree rfl rfl (Nat.le_of_ble_eq_true rfl) (by decide) (Nat.le_refl 0) (Nat.le_refl 0) (hC := sp_X1_isFree (Q := fun z m => bI (fre_ (cg μ) (μ 5 1) x2 x3 (cg μ x1 4) (-1)) = z ∧ μ = m) p0 p1 ⟨rfl, rfl⟩) (fun r n2 S2 m2 hP => ?_)
            obtain ⟨⟨rfl, rfl⟩, z, rfl, rfl, rfl⟩ := hP
            refine s_if_ne dX1_duplicate_63 (tgt := 69) (by decide) (fun cc => ?_) (fun cc => ?_)
            · have h := h.1 (bI_ne cc)
              refine s_aload_n dX1_duplicate_69 rfl rfl ?_
              refine s_iload_n dX1_duplicate_70 rfl rfl ?_
              refine s_iload_n dX1_duplicate_71 rfl rfl ?_
              refine s_iload_n dX1_duplicate_72 rfl rfl ?_
              obtain ⟨p0, p1, p2, h⟩ := h
              refine s_callV (As := [vI x1, vI x2, vI x3]) (rest := []) (k := 5) dX1_duplicate_73 lkX1_53 kn5 ⟨by rw [kk5]; rfl, by rw [kk5]; decide⟩ lmX1_copyTo rfl rfl (Nat.le_of_ble_eq_true rfl) (by decide) (Nat.le_refl 0) (Nat.le_refl 0) (hC := sp_X1_copyTo  p0 p1 p2) (fun r n2 S2 m2 hP => ?_)
              obtain ⟨⟨rfl, rfl⟩, z1, rfl, hq⟩ := hP
              have h := h z1 m2 hq
              exact s_ireturn dX1_duplicate_76 (Or.inl rfl) ⟨⟨rfl, rfl⟩, _, rfl, h⟩
            · have h := h.2 (bI_eq cc)
              refine s_bipush dX1_duplicate_66 (by decide) ?_
              exact s_ireturn dX1_duplicate_68 (Or.inl rfl) ⟨⟨rfl, rfl⟩, _, rfl, h⟩
          · have h := h.2 cc
            refine s_bipush dX1_duplicate_47 (by decide) ?_
            exact s_ireturn dX1_duplicate_49 (Or.inl rfl) ⟨⟨rfl, rfl⟩, _, rfl, h⟩
        · have h := h.2 cc
          refine s_bipush dX1_duplicate_35 (by decide) ?_
          exact s_ireturn dX1_duplicate_37 (Or.inl rfl) ⟨⟨rfl, rfl⟩, _, rfl, h⟩
    · have h := h.2 (bI_eq cc)
      refine s_iconst dX1_duplicate_15 (by decide) ?_
      exact s_ireturn dX1_duplicate_16 (Or.inl rfl) ⟨⟨rfl, rfl⟩, _, rfl, h⟩
theorem ve_X1_duplicate {x1 x2 x3 : Int} {μ : am_M} {Q : Int → am_M → Prop} (h : at_I kC 4 mX1_duplicate 0 [vR 5, vI x1, vI x2, vI x3] [] μ Q) : cl_I kC 4 mX1_duplicate [vR 5, vI x1, vI x2, vI x3] μ Q := am_intro pmX1_duplicate (Nat.le_of_ble_eq_true rfl) rfl h
theorem sp_X1_duplicate {μ : am_M} {c t s : Int} (h1 : ok_T (cg μ) (μ 5 1)) : cl_I kC 4 mX1_duplicate [vR 5, vI c, vI t, vI s] μ (fun z m => rk_ μ m z (r_dup (μ 5 1) (cg μ) c t s)) := by
  have q1 := h1.1
  refine ve_X1_duplicate (vc_X1_duplicate_0 ⟨fun hc => rk_same (cif_t (by omega)), fun hc => ⟨fun ht => ?_, fun ht => rk_same (cif_t (by omega))⟩⟩)
  obtain ⟨b0, b1, b2, b3, b4, b5, b6, b7⟩ := h1.2 c hc.1 hc.2
  have e1 : r_dup (μ 5 1) (cg μ) c t s = _ := cif_f (fun z => z ⟨hc, ht⟩)
  have bad : (s < 0 ∨ 600 - cg μ c 4 < s) → rk_ μ μ (-2) (r_dup (μ 5 1) (cg μ) c t s) := fun hb => rk_same (e1.trans (cif_t hb))
  refine ⟨fun h => bad (by omega), fun s0 => ⟨(by (try unfold am_in); (try unfold in_ at *); omega), (by (try unfold am_in); (try unfold in_ at *); omega), (by (try unfold am_in); (try unfold in_ at *); omega), fun s1 => ⟨fun hn => ⟨(by (try unfold am_in); (try unfold in_ at *); omega), (by (try unfold am_in); (try unfold in_ at *); omega), h1, (by (try unfold am_in); (try unfold in_ at *); omega), fun hf => ⟨h1, by omega, hc, fun p m ⟨hp, hm⟩ => ?_⟩, fun hf => rk_same (((e1.trans (cif_f (by omega))).trans (cif_f (by omega))).trans (cif_t hf))⟩, fun hn => rk_same ((e1.trans (cif_f (by omega))).trans (cif_t (by omega)))⟩, fun s1 => bad (by omega)⟩⟩
  have e2 := ((e1.trans (cif_f (by omega))).trans (cif_f (by omega))).trans (cif_f (fun z => z hf))
  rw [e2]
  exact ⟨hp, hm⟩
/-- divide a clip -/
noncomputable def r_div (n : Int) (g : Tb) (c a : Int) : Rt :=
  cif (¬ (0 ≤ c ∧ c < n)) (-1, n, g) (cif (a < 1 ∨ g c 4 ≤ a) (-2, n, g) (cif (24 ≤ n) (-3, n, g) (c + 1, n + 1, spl_T g c a)))
theorem vc_X1_divideOne_0 {x1 x2 : Int} {μ : am_M} {Q : Int → am_M → Prop} (h : (0 ≤ x1 ∧ x1 < μ 5 1 → (x2 < 1 → Q (-2) μ) ∧ (1 ≤ x2 → (in_ 0 32 x1) ∧ (in_ 0 8 4) ∧ ((x2 < cg μ x1 4 → (μ 5 1 < 24 → (ok_T (cg μ) (μ 5 1)) ∧ (μ 5 1 < 32) ∧ (0 ≤ x1 ∧ x1 < μ 5 1) ∧ (0 < x2 ∧ x2 < cg μ x1 4) ∧ (∀ m2 : am_M, ck_ μ m2 (μ 5 1 + 1) (spl_T (cg μ) x1 x2) → (am_in (x1 + 1)) ∧ (Q (x1 + 1) m2))) ∧ (24 ≤ μ 5 1 → Q (-3) μ)) ∧ (cg μ x1 4 ≤ x2 → Q (-2) μ)))) ∧ (¬ (0 ≤ x1 ∧ x1 < μ 5 1) → Q (-1) μ)) : at_I kC 4 mX1_divideOne 0 [vR 5, vI x1, vI x2] [] μ Q := by
  refine s_aload_n dX1_divideOne_0 rfl rfl ?_
  refine s_iload_n dX1_divideOne_1 rfl rfl ?_
  refine s_callV (As := [vI x1]) (rest := []) (k := 5) dX1_divideOne_2 lkX1_38 kn5 ⟨by rw [kk5]; rfl, by rw [kk5]; decide⟩ lmX1_has rfl rfl (Nat.le_of_ble_eq_true rfl) (by decide) (Nat.le_refl 0) (Nat.le_refl 0) (hC := sp_X1_has (Q := fun z m => bI (0 ≤ x1 ∧ x1 < μ 5 1) = z ∧ μ = m)  ⟨rfl, rfl⟩) (fun r n2 S2 m2 hP => ?_)
  obtain ⟨⟨rfl, rfl⟩, z, rfl, rfl, rfl⟩ := hP
  refine s_if_ne dX1_divideOne_5 (tgt := 10) (by decide) (fun cc => ?_) (fun cc => ?_)
  · have h := h.1 (bI_ne cc)
    refine s_iload_n dX1_divideOne_10 rfl rfl ?_
    refine s_iconst dX1_divideOne_11 (by decide) ?_
    refine s_icmp_lt dX1_divideOne_12 (tgt := 25) (by decide) (fun cc => ?_) (fun cc => ?_)
    · have h := h.1 cc
      refine s_bipush dX1_divideOne_25 (by decide) ?_
      exact s_ireturn dX1_divideOne_27 (Or.inl rfl) ⟨⟨rfl, rfl⟩, _, rfl, h⟩
    · have h := h.2 cc
      refine s_iload_n dX1_divideOne_15 rfl rfl ?_
      refine s_aload_n dX1_divideOne_16 rfl rfl ?_
      refine s_iload_n dX1_divideOne_17 rfl rfl ?_
      refine s_iconst dX1_divideOne_18 (by decide) ?_
      obtain ⟨p0, p1, h⟩ := h
      refine s_callV (As := [vI x1, vI 4]) (rest := [vI x2]) (k := 5) dX1_divideOne_19 lkX1_19 kn5 ⟨by rw [kk5]; rfl, by rw [kk5]; decide⟩ lmX1_get rfl rfl (Nat.le_of_ble_eq_true rfl) (by decide) (Nat.le_refl 0) (Nat.le_refl 0) (hC := sp_X1_get (Q := fun z m => cg μ x1 4 = z ∧ μ = m) p0 p1 ⟨rfl, rfl⟩) (fun r n2 S2 m2 hP => ?_)
      obtain ⟨⟨rfl, rfl⟩, z, rfl, rfl, rfl⟩ := hP
      refine s_icmp_lt dX1_divideOne_22 (tgt := 28) (by decide) (fun cc => ?_) (fun cc => ?_)
      · have h := h.1 cc
        refine s_aload_n dX1_divideOne_28 rfl rfl ?_
        refine s_getI (x := (μ 5 1)) dX1_divideOne_29 flX1_15 kn5 kk5 rfl rfl ?_
        refine s_bipush dX1_divideOne_32 (by decide) ?_
        refine s_icmp_lt dX1_divideOne_34 (tgt := 40) (by decide) (fun cc => ?_) (fun cc => ?_)
        · have h := h.1 cc
          refine s_aload_n dX1_divideOne_40 rfl rfl ?_
          refine s_iload_n dX1_divideOne_41 rfl rfl ?_
          refine s_iload_n dX1_divideOne_42 rfl rfl ?_
          obtain ⟨p0, p1, p2, p3, h⟩ := h
          refine s_callV (As := [vI x1, vI x2]) (rest := []) (k := 5) dX1_divideOne_43 lkX1_71 kn5 ⟨by rw [kk5]; rfl, by rw [kk5]; decide⟩ lmX1_split rfl rfl (Nat.le_of_ble_eq_true rfl) (by decide) (Nat.le_refl 0) (Nat.le_refl 0) (hC := sp_X1_split  p0 p1 p2 p3) (fun r n2 S2 m2 hP => ?_)
          obtain ⟨⟨rfl, rfl⟩, rfl, hq⟩ := hP
          have h := h m2 hq
          refine s_iload_n dX1_divideOne_46 rfl rfl ?_
          refine s_iconst dX1_divideOne_47 (by decide) ?_
          obtain ⟨c, h⟩ := h
          refine s_iadd dX1_divideOne_48 (am_w_id c) ?_
          exact s_ireturn dX1_divideOne_49 (Or.inl rfl) ⟨⟨rfl, rfl⟩, _, rfl, h⟩
        · have h := h.2 cc
          refine s_bipush dX1_divideOne_37 (by decide) ?_
          exact s_ireturn dX1_divideOne_39 (Or.inl rfl) ⟨⟨rfl, rfl⟩, _, rfl, h⟩
      · have h := h.2 cc
        refine s_bipush dX1_divideOne_25 (by decide) ?_
        exact s_ireturn dX1_divideOne_27 (Or.inl rfl) ⟨⟨rfl, rfl⟩, _, rfl, h⟩
  · have h := h.2 (bI_eq cc)
    refine s_iconst dX1_divideOne_8 (by decide) ?_
    exact s_ireturn dX1_divideOne_9 (Or.inl rfl) ⟨⟨rfl, rfl⟩, _, rfl, h⟩
theorem ve_X1_divideOne {x1 x2 : Int} {μ : am_M} {Q : Int → am_M → Prop} (h : at_I kC 4 mX1_divideOne 0 [vR 5, vI x1, vI x2] [] μ Q) : cl_I kC 4 mX1_divideOne [vR 5, vI x1, vI x2] μ Q := am_intro pmX1_divideOne (Nat.le_of_ble_eq_true rfl) rfl h
theorem sp_X1_divideOne {μ : am_M} {c a : Int} (h1 : ok_T (cg μ) (μ 5 1)) : cl_I kC 4 mX1_divideOne [vR 5, vI c, vI a] μ (fun z m => rk_ μ m z (r_div (μ 5 1) (cg μ) c a)) := by
  have q1 := h1.1
  refine ve_X1_divideOne (vc_X1_divideOne_0 ⟨fun hc => ?_, fun hc => rk_same (cif_t hc)⟩)
  have e1 : r_div (μ 5 1) (cg μ) c a = _ := cif_f (fun z => z hc)
  refine ⟨fun h => rk_same (e1.trans (cif_t (by omega))), fun a0 => ⟨(by (try unfold am_in); (try unfold in_ at *); omega), (by (try unfold am_in); (try unfold in_ at *); omega), fun a1 => ⟨fun hn => ⟨h1, by omega, hc, by omega, fun m hm => ⟨(by (try unfold am_in); (try unfold in_ at *); omega), ?_⟩⟩, fun hn => rk_same ((e1.trans (cif_f (by omega))).trans (cif_t (by omega)))⟩, fun a1 => rk_same (e1.trans (cif_t (by omega)))⟩⟩
  rw [(e1.trans (cif_f (by omega))).trans (cif_f (by omega))]
  exact ⟨rfl, hm⟩
/-- remove a clip -/
noncomputable def r_rem (n : Int) (g : Tb) (c : Int) : Rt := cif (¬ (0 ≤ c ∧ c < n)) (-1, n, g) (n - 1, n - 1, del_T g c)
theorem vc_X1_takeOut_0 {x1 : Int} {μ : am_M} {Q : Int → am_M → Prop} (h : (0 ≤ x1 ∧ x1 < μ 5 1 → (in_ 0 33 (μ 5 1)) ∧ (0 ≤ x1 ∧ x1 < μ 5 1) ∧ (∀ m2 : am_M, ck_ μ m2 (μ 5 1 - 1) (del_T (cg μ) x1) → Q (m2 5 1) m2)) ∧ (¬ (0 ≤ x1 ∧ x1 < μ 5 1) → Q (-1) μ)) : at_I kC 3 mX1_takeOut 0 [vR 5, vI x1] [] μ Q := by
  refine s_aload_n dX1_takeOut_0 rfl rfl ?_
  refine s_iload_n dX1_takeOut_1 rfl rfl ?_
  refine s_callV (As := [vI x1]) (rest := []) (k := 5) dX1_takeOut_2 lkX1_38 kn5 ⟨by rw [kk5]; rfl, by rw [kk5]; decide⟩ lmX1_has rfl rfl (Nat.le_of_ble_eq_true rfl) (by decide) (Nat.le_refl 0) (Nat.le_refl 0) (hC := sp_X1_has (Q := fun z m => bI (0 ≤ x1 ∧ x1 < μ 5 1) = z ∧ μ = m)  ⟨rfl, rfl⟩) (fun r n2 S2 m2 hP => ?_)
  obtain ⟨⟨rfl, rfl⟩, z, rfl, rfl, rfl⟩ := hP
  refine s_if_ne dX1_takeOut_5 (tgt := 10) (by decide) (fun cc => ?_) (fun cc => ?_)
  · have h := h.1 (bI_ne cc)
    refine s_aload_n dX1_takeOut_10 rfl rfl ?_
    refine s_iload_n dX1_takeOut_11 rfl rfl ?_
    obtain ⟨p0, p1, h⟩ := h
    refine s_callV (As := [vI x1]) (rest := []) (k := 5) dX1_takeOut_12 lkX1_57 kn5 ⟨by rw [kk5]; rfl, by rw [kk5]; decide⟩ lmX1_closeRow rfl rfl (Nat.le_of_ble_eq_true rfl) (by decide) (Nat.le_refl 0) (Nat.le_refl 0) (hC := sp_X1_closeRow  p0 p1) (fun r n2 S2 m2 hP => ?_)
    obtain ⟨⟨rfl, rfl⟩, rfl, hq⟩ := hP
    have h := h m2 hq
    refine s_aload_n dX1_takeOut_15 rfl rfl ?_
    refine s_getI (x := (m2 5 1)) dX1_takeOut_16 flX1_15 kn5 kk5 rfl rfl ?_
    exact s_ireturn dX1_takeOut_19 (Or.inl rfl) ⟨⟨rfl, rfl⟩, _, rfl, h⟩
  · have h := h.2 (bI_eq cc)
    refine s_iconst dX1_takeOut_8 (by decide) ?_
    exact s_ireturn dX1_takeOut_9 (Or.inl rfl) ⟨⟨rfl, rfl⟩, _, rfl, h⟩
theorem ve_X1_takeOut {x1 : Int} {μ : am_M} {Q : Int → am_M → Prop} (h : at_I kC 3 mX1_takeOut 0 [vR 5, vI x1] [] μ Q) : cl_I kC 3 mX1_takeOut [vR 5, vI x1] μ Q := am_intro pmX1_takeOut (Nat.le_of_ble_eq_true rfl) rfl h
theorem sp_X1_takeOut {μ : am_M} {c : Int} (h1 : in_ 0 33 (μ 5 1)) : cl_I kC 3 mX1_takeOut [vR 5, vI c] μ (fun z m => rk_ μ m z (r_rem (μ 5 1) (cg μ) c)) := by
  refine ve_X1_takeOut (vc_X1_takeOut_0 ⟨fun hc => ⟨h1, hc, fun m hm => ?_⟩, fun hc => rk_same (cif_t hc)⟩)
  have e1 : r_rem (μ 5 1) (cg μ) c = _ := cif_f (fun z => z hc)
  rw [e1]
  exact ⟨hm.2.1, hm⟩

/-! the reference's questions, on -/
theorem vc_X10_track_0 {x1 x2 : Int} {μ : am_M} {Q : Int → am_M → Prop} (h : (0 ≤ x1 ∧ x1 < 4 → (0 ≤ x2 ∧ x2 ≤ 11 → (x2 ≠ 3 → (7 ≤ x2 → (x2 ≠ 7 → ∃ P : am_M → Prop, cl_V kR 3 mX10_works [vR 0] μ P ∧ (∀ m2 : am_M, P m2 → at_I kR 4 mX10_track 82 [vR 0, vI x1, vI x2, vI 0, vI 0] [] m2 Q)) ∧ (x2 = 7 → (in_ 0 4 x1) ∧ (∀ v3 : Int, v3 = (cif (aud_ (rT μ) x1) 1 0) → Q v3 μ))) ∧ (x2 < 7 → (in_ 0 4 x1) ∧ (in_ 0 7 x2) ∧ (Q (rT μ x1 x2) μ))) ∧ (x2 = 3 → (in_ 0 4 x1) ∧ (in_ 0 7 3) ∧ ((rT μ x1 3 ≠ (-1) → (7 ≤ x2 → (x2 ≠ 7 → ∃ P : am_M → Prop, cl_V kR 3 mX10_works [vR 0] μ P ∧ (∀ m6 : am_M, P m6 → at_I kR 4 mX10_track 82 [vR 0, vI x1, vI x2, vI 0, vI 0] [] m6 Q)) ∧ (x2 = 7 → (in_ 0 4 x1) ∧ (∀ v7 : Int, v7 = (cif (aud_ (rT μ) x1) 1 0) → Q v7 μ))) ∧ (x2 < 7 → (in_ 0 4 x1) ∧ (in_ 0 7 x2) ∧ (Q (rT μ x1 x2) μ))) ∧ (rT μ x1 3 = (-1) → Q (-6) μ)))) ∧ (¬ (0 ≤ x2 ∧ x2 ≤ 11) → Q (-2) μ)) ∧ (¬ (0 ≤ x1 ∧ x1 < 4) → Q (-1) μ)) : at_I kR 4 mX10_track 0 [vR 0, vI x1, vI x2, vU, vU] [] μ Q := by
  refine s_iload_n dX10_track_0 rfl rfl ?_
  refine s_callS (As := [vI x1]) (rest := []) dX10_track_1 lkX10_133 lmX10_isTrack rfl rfl (Nat.le_of_ble_eq_true rfl) (by decide) (Nat.le_refl 0) (Nat.le_refl 0) (hC := sp_X10_isTrack (Q := fun z m => bI (0 ≤ x1 ∧ x1 < 4) = z ∧ μ = m)  ⟨rfl, rfl⟩) (fun r n2 S2 m2 hP => ?_)
  obtain ⟨⟨rfl, rfl⟩, z, rfl, rfl, rfl⟩ := hP
  refine s_if_ne dX10_track_4 (tgt := 9) (by decide) (fun cc => ?_) (fun cc => ?_)
  · have h := h.1 (bI_ne cc)
    refine s_iload_n dX10_track_9 rfl rfl ?_
    refine s_iconst dX10_track_10 (by decide) ?_
    refine s_bipush dX10_track_11 (by decide) ?_
    refine s_callS (As := [vI x2, vI 0, vI 11]) (rest := []) dX10_track_13 lkX10_103 lmX10_isIn rfl rfl (Nat.le_of_ble_eq_true rfl) (by decide) (Nat.le_refl 0) (Nat.le_refl 0) (hC := sp_X10_isIn (Q := fun z m => bI (0 ≤ x2 ∧ x2 ≤ 11) = z ∧ μ = m)  ⟨rfl, rfl⟩) (fun r n2 S2 m2 hP => ?_)
    obtain ⟨⟨rfl, rfl⟩, z, rfl, rfl, rfl⟩ := hP
    refine s_if_ne dX10_track_16 (tgt := 22) (by decide) (fun cc => ?_) (fun cc => ?_)
    · have h := h.1 (bI_ne cc)
      refine s_iload_n dX10_track_22 rfl rfl ?_
      refine s_iconst dX10_track_23 (by decide) ?_
      refine s_icmp_ne dX10_track_24 (tgt := 40) (by decide) (fun cc => ?_) (fun cc => ?_)
      · have h := h.1 cc
        refine s_iload_n dX10_track_40 rfl rfl ?_
        refine s_bipush dX10_track_41 (by decide) ?_
        refine s_icmp_ge dX10_track_43 (tgt := 53) (by decide) (fun cc => ?_) (fun cc => ?_)
        · have h := h.1 cc
          refine s_iload_n dX10_track_53 rfl rfl ?_
          refine s_bipush dX10_track_54 (by decide) ?_
          refine s_icmp_ne dX10_track_56 (tgt := 73) (by decide) (fun cc => ?_) (fun cc => ?_)
          · have h := h.1 cc
            refine s_aload_n dX10_track_73 rfl rfl ?_
            obtain ⟨P, hcl, h⟩ := h
            refine s_callV (As := []) (rest := []) (k := 0) dX10_track_74 lkX10_152 rn0 ⟨by rw [rk0]; rfl, by rw [rk0]; decide⟩ lmX10_works rfl rfl (Nat.le_of_ble_eq_true rfl) (by decide) (Nat.le_refl 0) (Nat.le_refl 0) (hC := hcl) (fun r n2 S2 m2 hP => ?_)
            obtain ⟨⟨rfl, rfl⟩, rfl, hq⟩ := hP
            have h := h m2 hq
            refine s_iconst dX10_track_77 (by decide) ?_
            refine s_istore_n dX10_track_78 rfl (by decide) (L' := [vR 0, vI x1, vI x2, vI 0, vU]) rfl ?_
            refine s_iconst dX10_track_79 (by decide) ?_
            refine s_istore dX10_track_80 (by decide) (L' := [vR 0, vI x1, vI x2, vI 0, vI 0]) rfl ?_
            exact h
          · have h := h.2 cc
            refine s_aload_n dX10_track_59 rfl rfl ?_
            refine s_iload_n dX10_track_60 rfl rfl ?_
            obtain ⟨p0, h⟩ := h
            refine s_callV (As := [vI x1]) (rest := []) (k := 0) dX10_track_61 lkX10_149 rn0 ⟨by rw [rk0]; rfl, by rw [rk0]; decide⟩ lmX10_isAudible rfl rfl (Nat.le_of_ble_eq_true rfl) (by decide) (Nat.le_refl 0) (Nat.le_refl 0) (hC := sp_X10_isAudible (Q := fun z m => bI (aud_ (rT μ) x1) = z ∧ μ = m) p0 ⟨rfl, rfl⟩) (fun r n2 S2 m2 hP => ?_)
            obtain ⟨⟨rfl, rfl⟩, z, rfl, rfl, rfl⟩ := hP
            have kj4 : ∀ (v3 : Int), (Q v3 μ) → at_I kR 4 mX10_track 72 [vU, vU, vU, vU, vU] [vI v3] μ Q := by
              intro v3 h
              exact s_ireturn dX10_track_72 (Or.inl rfl) ⟨⟨rfl, rfl⟩, _, rfl, h⟩
            refine s_if_eq dX10_track_64 (tgt := 71) (by decide) (fun cc => ?_) (fun cc => ?_)
            · have hp0 := (bI_eq cc)
              refine s_iconst dX10_track_71 (by decide) ?_
              exact am_lesS (kj4 0 (h 0 (by rw [cif_f hp0]))) ⟨Or.inl rfl, Or.inl rfl, Or.inl rfl, Or.inl rfl, Or.inl rfl, trivial⟩
            · have hp0 := (bI_ne cc)
              refine s_iconst dX10_track_67 (by decide) ?_
              refine s_goto dX10_track_68 (tgt := 72) (by decide) ?_
              exact am_lesS (kj4 1 (h 1 (by rw [cif_t hp0]))) ⟨Or.inl rfl, Or.inl rfl, Or.inl rfl, Or.inl rfl, Or.inl rfl, trivial⟩
        · have h := h.2 cc
          refine s_aload_n dX10_track_46 rfl rfl ?_
          refine s_iload_n dX10_track_47 rfl rfl ?_
          refine s_iload_n dX10_track_48 rfl rfl ?_
          obtain ⟨p0, p1, h⟩ := h
          refine s_callV (As := [vI x1, vI x2]) (rest := []) (k := 0) dX10_track_49 lkX10_139 rn0 ⟨by rw [rk0]; rfl, by rw [rk0]; decide⟩ lmX10_trackOf rfl rfl (Nat.le_of_ble_eq_true rfl) (by decide) (Nat.le_refl 0) (Nat.le_refl 0) (hC := sp_X10_trackOf (Q := fun z m => rT μ x1 x2 = z ∧ μ = m) p0 p1 ⟨rfl, rfl⟩) (fun r n2 S2 m2 hP => ?_)
          obtain ⟨⟨rfl, rfl⟩, z, rfl, rfl, rfl⟩ := hP
          exact s_ireturn dX10_track_52 (Or.inl rfl) ⟨⟨rfl, rfl⟩, _, rfl, h⟩
      · have h := h.2 cc
        refine s_aload_n dX10_track_27 rfl rfl ?_
        refine s_iload_n dX10_track_28 rfl rfl ?_
        refine s_iconst dX10_track_29 (by decide) ?_
        obtain ⟨p0, p1, h⟩ := h
        refine s_callV (As := [vI x1, vI 3]) (rest := []) (k := 0) dX10_track_30 lkX10_139 rn0 ⟨by rw [rk0]; rfl, by rw [rk0]; decide⟩ lmX10_trackOf rfl rfl (Nat.le_of_ble_eq_true rfl) (by decide) (Nat.le_refl 0) (Nat.le_refl 0) (hC := sp_X10_trackOf (Q := fun z m => rT μ x1 3 = z ∧ μ = m) p0 p1 ⟨rfl, rfl⟩) (fun r n2 S2 m2 hP => ?_)
        obtain ⟨⟨rfl, rfl⟩, z, rfl, rfl, rfl⟩ := hP
        refine s_iconst dX10_track_33 (by decide) ?_
        refine s_icmp_ne dX10_track_34 (tgt := 40) (by decide) (fun cc => ?_) (fun cc => ?_)
        · have h := h.1 cc
          refine s_iload_n dX10_track_40 rfl rfl ?_
          refine s_bipush dX10_track_41 (by decide) ?_
          refine s_icmp_ge dX10_track_43 (tgt := 53) (by decide) (fun cc => ?_) (fun cc => ?_)
          · have h := h.1 cc
            refine s_iload_n dX10_track_53 rfl rfl ?_
            refine s_bipush dX10_track_54 (by decide) ?_
            refine s_icmp_ne dX10_track_56 (tgt := 73) (by decide) (fun cc => ?_) (fun cc => ?_)
            · have h := h.1 cc
              refine s_aload_n dX10_track_73 rfl rfl ?_
              obtain ⟨P, hcl, h⟩ := h
              refine s_callV (As := []) (rest := []) (k := 0) dX10_track_74 lkX10_152 rn0 ⟨by rw [rk0]; rfl, by rw [rk0]; decide⟩ lmX10_works rfl rfl (Nat.le_of_ble_eq_true rfl) (by decide) (Nat.le_refl 0) (Nat.le_refl 0) (hC := hcl) (fun r n2 S2 m6 hP => ?_)
              obtain ⟨⟨rfl, rfl⟩, rfl, hq⟩ := hP
              have h := h m6 hq
              refine s_iconst dX10_track_77 (by decide) ?_
              refine s_istore_n dX10_track_78 rfl (by decide) (L' := [vR 0, vI x1, vI x2, vI 0, vU]) rfl ?_
              refine s_iconst dX10_track_79 (by decide) ?_
              refine s_istore dX10_track_80 (by decide) (L' := [vR 0, vI x1, vI x2, vI 0, vI 0]) rfl ?_
              exact h
            · have h := h.2 cc
              refine s_aload_n dX10_track_59 rfl rfl ?_
              refine s_iload_n dX10_track_60 rfl rfl ?_
              obtain ⟨p0, h⟩ := h
              refine s_callV (As := [vI x1]) (rest := []) (k := 0) dX10_track_61 lkX10_149 rn0 ⟨by rw [rk0]; rfl, by rw [rk0]; decide⟩ lmX10_isAudible rfl rfl (Nat.le_of_ble_eq_true rfl) (by decide) (Nat.le_refl 0) (Nat.le_refl 0) (hC := sp_X10_isAudible (Q := fun z m => bI (aud_ (rT μ) x1) = z ∧ μ = m) p0 ⟨rfl, rfl⟩) (fun r n2 S2 m2 hP => ?_)
              obtain ⟨⟨rfl, rfl⟩, z, rfl, rfl, rfl⟩ := hP
              have kj8 : ∀ (v7 : Int), (Q v7 μ) → at_I kR 4 mX10_track 72 [vU, vU, vU, vU, vU] [vI v7] μ Q := by
                intro v7 h
                exact s_ireturn dX10_track_72 (Or.inl rfl) ⟨⟨rfl, rfl⟩, _, rfl, h⟩
              refine s_if_eq dX10_track_64 (tgt := 71) (by decide) (fun cc => ?_) (fun cc => ?_)
              · have hp0 := (bI_eq cc)
                refine s_iconst dX10_track_71 (by decide) ?_
                exact am_lesS (kj8 0 (h 0 (by rw [cif_f hp0]))) ⟨Or.inl rfl, Or.inl rfl, Or.inl rfl, Or.inl rfl, Or.inl rfl, trivial⟩
              · have hp0 := (bI_ne cc)
                refine s_iconst dX10_track_67 (by decide) ?_
                refine s_goto dX10_track_68 (tgt := 72) (by decide) ?_
                exact am_lesS (kj8 1 (h 1 (by rw [cif_t hp0]))) ⟨Or.inl rfl, Or.inl rfl, Or.inl rfl, Or.inl rfl, Or.inl rfl, trivial⟩
          · have h := h.2 cc
            refine s_aload_n dX10_track_46 rfl rfl ?_
            refine s_iload_n dX10_track_47 rfl rfl ?_
            refine s_iload_n dX10_track_48 rfl rfl ?_
            obtain ⟨p0, p1, h⟩ := h
            refine s_callV (As := [vI x1, vI x2]) (rest := []) (k := 0) dX10_track_49 lkX10_139 rn0 ⟨by rw [rk0]; rfl, by rw [rk0]; decide⟩ lmX10_trackOf rfl rfl (Nat.le_of_ble_eq_true rfl) (by decide) (Nat.le_refl 0) (Nat.le_refl 0) (hC := sp_X10_trackOf (Q := fun z m => rT μ x1 x2 = z ∧ μ = m) p0 p1 ⟨rfl, rfl⟩) (fun r n2 S2 m2 hP => ?_)
            obtain ⟨⟨rfl, rfl⟩, z, rfl, rfl, rfl⟩ := hP
            exact s_ireturn dX10_track_52 (Or.inl rfl) ⟨⟨rfl, rfl⟩, _, rfl, h⟩
        · have h := h.2 cc
          refine s_bipush dX10_track_37 (by decide) ?_
          exact s_ireturn dX10_track_39 (Or.inl rfl) ⟨⟨rfl, rfl⟩, _, rfl, h⟩
    · have h := h.2 (bI_eq cc)
      refine s_bipush dX10_track_19 (by decide) ?_
      exact s_ireturn dX10_track_21 (Or.inl rfl) ⟨⟨rfl, rfl⟩, _, rfl, h⟩
  · have h := h.2 (bI_eq cc)
    refine s_iconst dX10_track_7 (by decide) ?_
    exact s_ireturn dX10_track_8 (Or.inl rfl) ⟨⟨rfl, rfl⟩, _, rfl, h⟩
theorem vc_X10_track_82 {x1 x2 x3 x4 : Int} {μ : am_M} {Q : Int → am_M → Prop} (h : (μ 1 25 ≤ x4 → at_I kR 4 mX10_track 144 [vR 0, vI x1, vI x2, vI x3, vI 0] [] μ Q) ∧ (x4 < μ 1 25 → (10 ≤ x2 → at_I kR 4 mX10_track 144 [vR 0, vI x1, vI x2, vI x3, vI 0] [] μ Q) ∧ (x2 < 10 → (in_ 0 48 x4) ∧ (in_ 0 8 0) ∧ (((rg μ x4 0 = x1 → (x2 ≠ 8 → (in_ 0 48 x4) ∧ (in_ 0 8 4)))) ∧ (∀ v1 : Int, v1 = (if rg μ x4 0 = x1 then (if x2 = 8 then 1 else rg μ x4 4) else 0) → (am_in (x3 + v1)) ∧ ((am_in (x4 + 1)) ∧ (at_I kR 4 mX10_track 82 [vR 0, vI x1, vI x2, vI (x3 + v1), vI (x4 + 1)] [] μ Q))))))) : at_I kR 4 mX10_track 82 [vR 0, vI x1, vI x2, vI x3, vI x4] [] μ Q := by
  refine s_iload dX10_track_82 rfl ?_
  refine s_aload_n dX10_track_84 rfl rfl ?_
  refine s_getR dX10_track_85 flX10_9 rn0 rk0 rfl rr0_0 ?_
  refine s_bipush dX10_track_88 (by decide) ?_
  refine s_iald (x := (μ 1 25)) dX10_track_90 rn1 rk1 rl1 (by decide) (by decide) rfl ?_
  refine s_icmp_ge dX10_track_91 (tgt := 141) (by decide) (fun cc => ?_) (fun cc => ?_)
  · have h := h.1 cc
    refine s_iconst dX10_track_141 (by decide) ?_
    refine s_istore dX10_track_142 (by decide) (L' := [vR 0, vI x1, vI x2, vI x3, vI 0]) rfl ?_
    exact h
  · have h := h.2 cc
    refine s_iload_n dX10_track_94 rfl rfl ?_
    refine s_bipush dX10_track_95 (by decide) ?_
    refine s_icmp_ge dX10_track_97 (tgt := 141) (by decide) (fun cc => ?_) (fun cc => ?_)
    · have h := h.1 cc
      refine s_iconst dX10_track_141 (by decide) ?_
      refine s_istore dX10_track_142 (by decide) (L' := [vR 0, vI x1, vI x2, vI x3, vI 0]) rfl ?_
      exact h
    · have h := h.2 cc
      refine s_iload_n dX10_track_100 rfl rfl ?_
      refine s_aload_n dX10_track_101 rfl rfl ?_
      refine s_iload dX10_track_102 rfl ?_
      refine s_iconst dX10_track_104 (by decide) ?_
      obtain ⟨p0, p1, h⟩ := h
      refine s_callV (As := [vI x4, vI 0]) (rest := [vI x3]) (k := 0) dX10_track_105 lkX10_126 rn0 ⟨by rw [rk0]; rfl, by rw [rk0]; decide⟩ lmX10_of rfl rfl (Nat.le_of_ble_eq_true rfl) (by decide) (Nat.le_refl 0) (Nat.le_refl 0) (hC := sp_X10_of (Q := fun z m => rg μ x4 0 = z ∧ μ = m) p0 p1 ⟨rfl, rfl⟩) (fun r n2 S2 m2 hP => ?_)
      obtain ⟨⟨rfl, rfl⟩, z, rfl, rfl, rfl⟩ := hP
      refine s_iload_n dX10_track_108 rfl rfl ?_
      obtain ⟨hsd, h⟩ := h
      have kj2 : ∀ (v1 : Int), ((am_in (x3 + v1)) ∧ ((am_in (x4 + 1)) ∧ (at_I kR 4 mX10_track 82 [vR 0, vI x1, vI x2, vI (x3 + v1), vI (x4 + 1)] [] μ Q))) → at_I kR 4 mX10_track 133 [vR 0, vI x1, vI x2, vU, vI x4] [vI v1, vI x3] μ Q := by
        intro v1 h
        obtain ⟨c, h⟩ := h
        refine s_iadd dX10_track_133 (am_w_id c) ?_
        refine s_istore_n dX10_track_134 rfl (by decide) (L' := [vR 0, vI x1, vI x2, vI (x3 + v1), vI x4]) rfl ?_
        obtain ⟨c, h⟩ := h
        refine s_iinc dX10_track_135 rfl (am_w_id c) (by decide) (L' := [vR 0, vI x1, vI x2, vI (x3 + v1), vI (x4 + 1)]) rfl ?_
        refine s_goto dX10_track_138 (tgt := 82) (by decide) ?_
        exact h
      refine s_icmp_eq dX10_track_109 (tgt := 116) (by decide) (fun cc => ?_) (fun cc => ?_)
      · have hp0 := cc
        have hsd := hsd hp0
        refine s_iload_n dX10_track_116 rfl rfl ?_
        refine s_bipush dX10_track_117 (by decide) ?_
        refine s_icmp_ne dX10_track_119 (tgt := 126) (by decide) (fun cc => ?_) (fun cc => ?_)
        · have hp1 := cc
          have hsd := hsd hp1
          refine s_aload_n dX10_track_126 rfl rfl ?_
          refine s_iload dX10_track_127 rfl ?_
          refine s_iconst dX10_track_129 (by decide) ?_
          obtain ⟨p0, p1⟩ := hsd
          refine s_callV (As := [vI x4, vI 4]) (rest := [vI x3]) (k := 0) dX10_track_130 lkX10_126 rn0 ⟨by rw [rk0]; rfl, by rw [rk0]; decide⟩ lmX10_of rfl rfl (Nat.le_of_ble_eq_true rfl) (by decide) (Nat.le_refl 0) (Nat.le_refl 0) (hC := sp_X10_of (Q := fun z m => rg μ x4 4 = z ∧ μ = m) p0 p1 ⟨rfl, rfl⟩) (fun r n2 S2 m2 hP => ?_)
          obtain ⟨⟨rfl, rfl⟩, z, rfl, rfl, rfl⟩ := hP
          exact am_lesS (kj2 (rg μ x4 4) (h (rg μ x4 4) (by rw [if_pos hp0, if_neg hp1]))) ⟨Or.inr rfl, Or.inr rfl, Or.inr rfl, Or.inl rfl, Or.inr rfl, trivial⟩
        · have hp1 := cc
          refine s_iconst dX10_track_122 (by decide) ?_
          refine s_goto dX10_track_123 (tgt := 133) (by decide) ?_
          exact am_lesS (kj2 1 (h 1 (by rw [if_pos hp0, if_pos hp1]))) ⟨Or.inr rfl, Or.inr rfl, Or.inr rfl, Or.inl rfl, Or.inr rfl, trivial⟩
      · have hp0 := cc
        refine s_iconst dX10_track_112 (by decide) ?_
        refine s_goto dX10_track_113 (tgt := 133) (by decide) ?_
        exact am_lesS (kj2 0 (h 0 (by rw [if_neg hp0]))) ⟨Or.inr rfl, Or.inr rfl, Or.inr rfl, Or.inl rfl, Or.inr rfl, trivial⟩
theorem vc_X10_track_144 {x1 x2 x3 x4 : Int} {μ : am_M} {Q : Int → am_M → Prop} (h : (600 ≤ x4 → Q x3 μ) ∧ (x4 < 600 → (x2 ≤ 9 → Q x3 μ) ∧ (9 < x2 → ((x2 ≠ 10 → (am_in (600 * x1)) ∧ ((am_in ((600 * x1) + x4)) ∧ ((0 ≤ (600 * x1) + x4) ∧ ((600 * x1) + x4 < 2400) ∧ ((x3 < μ 11 (((600 * x1) + x4).toNat) → (am_in (600 * x1)) ∧ ((am_in ((600 * x1) + x4)) ∧ ((0 ≤ (600 * x1) + x4) ∧ ((600 * x1) + x4 < 2400)))))))) ∧ (x2 = 10 → (ok_T (rg μ) (μ 1 25)) ∧ ((la_ (rg μ) (μ 1 25) ≤ x4 → (am_in (x3 + 0))) ∧ (x4 < la_ (rg μ) (μ 1 25) → (am_in (600 * x1)) ∧ ((am_in ((600 * x1) + x4)) ∧ ((0 ≤ (600 * x1) + x4) ∧ ((600 * x1) + x4 < 2400) ∧ ((μ 13 (((600 * x1) + x4).toNat) = 0 → (am_in (x3 + 0))) ∧ (μ 13 (((600 * x1) + x4).toNat) ≠ 0 → (am_in (x3 + 1)))))))))) ∧ (∀ v1 : Int, v1 = (if x2 = 10 then (if x4 < la_ (rg μ) (μ 1 25) then (if μ 13 (((600 * x1) + x4).toNat) = 0 then x3 + 0 else x3 + 1) else x3 + 0) else (if x3 < μ 11 (((600 * x1) + x4).toNat) then μ 11 (((600 * x1) + x4).toNat) else x3)) → (am_in (x4 + 1)) ∧ (at_I kR 4 mX10_track 144 [vR 0, vI x1, vI x2, vI v1, vI (x4 + 1)] [] μ Q))))) : at_I kR 4 mX10_track 144 [vR 0, vI x1, vI x2, vI x3, vI x4] [] μ Q := by
  refine s_iload dX10_track_144 rfl ?_
  refine s_sipush dX10_track_146 (by decide) ?_
  refine s_icmp_ge dX10_track_149 (tgt := 241) (by decide) (fun cc => ?_) (fun cc => ?_)
  · have h := h.1 cc
    refine s_iload_n dX10_track_241 rfl rfl ?_
    exact s_ireturn dX10_track_242 (Or.inl rfl) ⟨⟨rfl, rfl⟩, _, rfl, h⟩
  · have h := h.2 cc
    refine s_iload_n dX10_track_152 rfl rfl ?_
    refine s_bipush dX10_track_153 (by decide) ?_
    refine s_icmp_le dX10_track_155 (tgt := 241) (by decide) (fun cc => ?_) (fun cc => ?_)
    · have h := h.1 cc
      refine s_iload_n dX10_track_241 rfl rfl ?_
      exact s_ireturn dX10_track_242 (Or.inl rfl) ⟨⟨rfl, rfl⟩, _, rfl, h⟩
    · have h := h.2 cc
      refine s_iload_n dX10_track_158 rfl rfl ?_
      refine s_bipush dX10_track_159 (by decide) ?_
      obtain ⟨hsd, h⟩ := h
      have kj2 : ∀ (v1 : Int), ((am_in (x4 + 1)) ∧ (at_I kR 4 mX10_track 144 [vR 0, vI x1, vI x2, vI v1, vI (x4 + 1)] [] μ Q)) → at_I kR 4 mX10_track 235 [vR 0, vI x1, vI x2, vI v1, vI x4] [] μ Q := by
        intro v1 h
        obtain ⟨c, h⟩ := h
        refine s_iinc dX10_track_235 rfl (am_w_id c) (by decide) (L' := [vR 0, vI x1, vI x2, vI v1, vI (x4 + 1)]) rfl ?_
        refine s_goto dX10_track_238 (tgt := 144) (by decide) ?_
        exact h
      refine s_icmp_ne dX10_track_161 (tgt := 200) (by decide) (fun cc => ?_) (fun cc => ?_)
      · have hp0 := cc
        have hsd := hsd.1 hp0
        refine s_aload_n dX10_track_200 rfl rfl ?_
        refine s_getR dX10_track_201 flX10_40 rn0 rk0 rfl rr0_15 ?_
        refine s_sipush dX10_track_204 (by decide) ?_
        refine s_iload_n dX10_track_207 rfl rfl ?_
        obtain ⟨c, hsd⟩ := hsd
        refine s_imul dX10_track_208 (am_w_id c) ?_
        refine s_iload dX10_track_209 rfl ?_
        obtain ⟨c, hsd⟩ := hsd
        refine s_iadd dX10_track_211 (am_w_id c) ?_
        obtain ⟨c, c2, hsd⟩ := hsd
        refine s_iald (x := (μ 11 (((600 * x1) + x4).toNat))) dX10_track_212 rn11 rk11 rl11 c c2 rfl ?_
        refine s_iload_n dX10_track_213 rfl rfl ?_
        refine s_icmp_le dX10_track_214 (tgt := 233) (by decide) (fun cc => ?_) (fun cc => ?_)
        · have hp1 := cc
          refine s_iload_n dX10_track_233 rfl rfl ?_
          refine s_istore_n dX10_track_234 rfl (by decide) (L' := [vR 0, vI x1, vI x2, vI x3, vI x4]) rfl ?_
          exact kj2 x3 (h x3 (by rw [if_neg hp0, if_neg (Int.not_lt.mpr hp1)]))
        · have hp1 := cc
          have hsd := hsd hp1
          refine s_aload_n dX10_track_217 rfl rfl ?_
          refine s_getR dX10_track_218 flX10_40 rn0 rk0 rfl rr0_15 ?_
          refine s_sipush dX10_track_221 (by decide) ?_
          refine s_iload_n dX10_track_224 rfl rfl ?_
          obtain ⟨c, hsd⟩ := hsd
          refine s_imul dX10_track_225 (am_w_id c) ?_
          refine s_iload dX10_track_226 rfl ?_
          obtain ⟨c, hsd⟩ := hsd
          refine s_iadd dX10_track_228 (am_w_id c) ?_
          obtain ⟨c, c2⟩ := hsd
          refine s_iald (x := (μ 11 (((600 * x1) + x4).toNat))) dX10_track_229 rn11 rk11 rl11 c c2 rfl ?_
          refine s_goto dX10_track_230 (tgt := 234) (by decide) ?_
          refine s_istore_n dX10_track_234 rfl (by decide) (L' := [vR 0, vI x1, vI x2, vI (μ 11 (((600 * x1) + x4).toNat)), vI x4]) rfl ?_
          exact kj2 (μ 11 (((600 * x1) + x4).toNat)) (h (μ 11 (((600 * x1) + x4).toNat)) (by rw [if_neg hp0, if_pos hp1]))
      · have hp0 := cc
        have hsd := hsd.2 hp0
        refine s_iload_n dX10_track_164 rfl rfl ?_
        refine s_iload dX10_track_165 rfl ?_
        refine s_aload_n dX10_track_167 rfl rfl ?_
        obtain ⟨p0, hsd⟩ := hsd
        refine s_callV (As := []) (rest := [vI x4, vI x3]) (k := 0) dX10_track_168 lkX10_155 rn0 ⟨by rw [rk0]; rfl, by rw [rk0]; decide⟩ lmX10_last rfl rfl (Nat.le_of_ble_eq_true rfl) (by decide) (Nat.le_refl 0) (Nat.le_refl 0) (hC := sp_X10_last (Q := fun z m => la_ (rg μ) (μ 1 25) = z ∧ μ = m) p0 ⟨rfl, rfl⟩) (fun r n2 S2 m2 hP => ?_)
        obtain ⟨⟨rfl, rfl⟩, z, rfl, rfl, rfl⟩ := hP
        refine s_icmp_ge dX10_track_171 (tgt := 194) (by decide) (fun cc => ?_) (fun cc => ?_)
        · have hp1 := cc
          have hsd := hsd.1 hp1
          refine s_iconst dX10_track_194 (by decide) ?_
          have c := hsd
          refine s_iadd dX10_track_195 (am_w_id c) ?_
          refine s_istore_n dX10_track_196 rfl (by decide) (L' := [vR 0, vI x1, vI x2, vI (x3 + 0), vI x4]) rfl ?_
          refine s_goto dX10_track_197 (tgt := 235) (by decide) ?_
          exact kj2 (x3 + 0) (h (x3 + 0) (by rw [if_pos hp0, if_neg (Int.not_lt.mpr hp1)]))
        · have hp1 := cc
          have hsd := hsd.2 hp1
          refine s_aload_n dX10_track_174 rfl rfl ?_
          refine s_getR dX10_track_175 flX10_46 rn0 rk0 rfl rr0_17 ?_
          refine s_sipush dX10_track_178 (by decide) ?_
          refine s_iload_n dX10_track_181 rfl rfl ?_
          obtain ⟨c, hsd⟩ := hsd
          refine s_imul dX10_track_182 (am_w_id c) ?_
          refine s_iload dX10_track_183 rfl ?_
          obtain ⟨c, hsd⟩ := hsd
          refine s_iadd dX10_track_185 (am_w_id c) ?_
          obtain ⟨c, c2, hsd⟩ := hsd
          refine s_bald (x := (μ 13 (((600 * x1) + x4).toNat))) dX10_track_186 rn13 rk13 rl13 c c2 rfl ?_
          refine s_if_eq dX10_track_187 (tgt := 194) (by decide) (fun cc => ?_) (fun cc => ?_)
          · have hp2 := cc
            have hsd := hsd.1 hp2
            refine s_iconst dX10_track_194 (by decide) ?_
            have c := hsd
            refine s_iadd dX10_track_195 (am_w_id c) ?_
            refine s_istore_n dX10_track_196 rfl (by decide) (L' := [vR 0, vI x1, vI x2, vI (x3 + 0), vI x4]) rfl ?_
            refine s_goto dX10_track_197 (tgt := 235) (by decide) ?_
            exact kj2 (x3 + 0) (h (x3 + 0) (by rw [if_pos hp0, if_pos hp1, if_pos hp2]))
          · have hp2 := cc
            have hsd := hsd.2 hp2
            refine s_iconst dX10_track_190 (by decide) ?_
            refine s_goto dX10_track_191 (tgt := 195) (by decide) ?_
            have c := hsd
            refine s_iadd dX10_track_195 (am_w_id c) ?_
            refine s_istore_n dX10_track_196 rfl (by decide) (L' := [vR 0, vI x1, vI x2, vI (x3 + 1), vI x4]) rfl ?_
            refine s_goto dX10_track_197 (tgt := 235) (by decide) ?_
            exact kj2 (x3 + 1) (h (x3 + 1) (by rw [if_pos hp0, if_pos hp1, if_neg hp2]))
theorem ve_X10_track {x1 x2 : Int} {μ : am_M} {Q : Int → am_M → Prop} (h : at_I kR 4 mX10_track 0 [vR 0, vI x1, vI x2, vU, vU] [] μ Q) : cl_I kR 4 mX10_track [vR 0, vI x1, vI x2] μ Q := am_intro pmX10_track (Nat.le_of_ble_eq_true rfl) rfl h
theorem sp_X10_track {μ : am_M} {t w : Int} (hV : vP (pR μ)) : cl_I kR 4 mX10_track [vR 0, vI t, vI w] μ (fun z m => z = q_track (pR μ) t w ∧ rq_ μ m) := by
  have hn : in_ 0 25 (μ 1 25) := hV.hn
  have lb : in_ 0 601 (la_ (rg μ) (μ 1 25)) := la_b6 hV
  refine ve_X10_track (vc_X10_track_0 ⟨fun c => ?_, fun c => ⟨(cif_t c).symm, rq_rf⟩⟩)
  have e1 : q_track (pR μ) t w = _ := cif_f (fun h => h c)
  refine ⟨fun cw => ?_, fun cw => ⟨(e1.trans (cif_t (by omega))).symm, rq_rf⟩⟩
  have e2 := e1.trans (cif_f (by omega))
  have low : w < 7 → w ≠ 3 → rT μ t w = q_track (pR μ) t w ∧ rq_ μ μ := fun h h3 => ⟨by rw [e2, if_pos h]; unfold q_tn; rw [if_neg h3]; rfl, rq_rf⟩
  have big : 7 ≤ w → (w ≠ 7 → ∃ P : am_M → Prop, cl_V kR 3 mX10_works [vR 0] μ P ∧ (∀ m2 : am_M, P m2 → at_I kR 4 mX10_track 82 [vR 0, vI t, vI w, vI 0, vI 0] [] m2 (fun z m => z = q_track (pR μ) t w ∧ rq_ μ m))) ∧ (w = 7 → (in_ 0 4 t) ∧ (∀ v3 : Int, v3 = (cif (aud_ (rT μ) t) 1 0) → v3 = q_track (pR μ) t w ∧ rq_ μ μ)) := fun w7 => by
    refine ⟨fun n7 => ⟨_, sp_X10_works hV, fun m2 ⟨h1, h2⟩ => ?_⟩, fun n7 => ⟨c, fun v e => ⟨by rw [e2, if_neg (by omega), if_pos n7, e]; rfl, rq_rf⟩⟩⟩
    have e21 : m2 1 = μ 1 := h1 1 (by decide)
    obtain ⟨eS, eg, eT⟩ := r1_e e21
    have hq := rq_of h1 wk_sc
    obtain ⟨-, -, -, h13, h11, -⟩ := h2
    change dv_ m2 13 (fun t f => bI (dukP (pR m2) t f)) at h13
    change dv_ m2 11 (weP (pR m2)) at h11
    rw [rq_P hq] at h13 h11
    have wb : ∀ f, in_ 0 1999 (weP (pR μ) t f) := fun f => (we_b hV _ (t := t) (f := f) c).1
    have second : 10 ≤ w → ∀ (j : Nat) (x y : Int), y + j = 600 → 0 ≤ y → x = (if w = 10 then sm_ (fun f => cif (dukP (pR μ) t f) 1 0) (if y < la_ (rg μ) (μ 1 25) then y else la_ (rg μ) (μ 1 25)) else mx_ (weP (pR μ) t) y) → at_I kR 4 mX10_track 144 [vR 0, vI t, vI w, vI x, vI y] [] m2 (fun z m => z = q_track (pR μ) t w ∧ rq_ μ m) := fun w10 => by
      intro j
      induction j with
      | zero =>
        intro x y hy y0 hx
        have e6 : y = 600 := by omega
        refine vc_X10_track_144 ⟨fun _ => ⟨?_, hq⟩, fun q => by omega⟩
        unfold in_ at lb
        by_cases c10 : w = 10
        · rw [if_pos c10, show (if y < la_ (rg μ) (μ 1 25) then y else la_ (rg μ) (μ 1 25)) = la_ (rg μ) (μ 1 25) by split <;> omega] at hx
          rw [e2, hx, if_neg (by omega), if_neg (by omega), if_neg (by omega), if_neg (by omega), if_pos c10]
          rfl
        · rw [if_neg c10, e6] at hx
          rw [e2, hx, if_neg (by omega), if_neg (by omega), if_neg (by omega), if_neg (by omega), if_neg c10]
      | succ j ih =>
        intro x y hy y0 hx
        have ib := ix_b (t := t) (f := y) c ⟨y0, by omega⟩
        have e13 : m2 13 ((600 * t) + y).toNat = bI (dukP (pR μ) t y) := h13 t y c ⟨y0, by omega⟩
        have e11 : m2 11 ((600 * t) + y).toNat = weP (pR μ) t y := h11 t y c ⟨y0, by omega⟩
        have sb : ∀ n : Int, 0 ≤ n → 0 ≤ sm_ (fun f => cif (dukP (pR μ) t f) 1 0) n ∧ sm_ (fun f => cif (dukP (pR μ) t f) 1 0) n ≤ n * 1 := fun n n0 => sm_b n0 (by omega) (fun i _ _ => by
          by_cases d : dukP (pR μ) t i
          · rw [cif_t d]; omega
          · rw [cif_f d]; omega)
        refine vc_X10_track_144 ⟨fun q => by omega, fun q => ⟨fun q9 => by omega, fun q9 => ?_⟩⟩
        rw [eg, e21, e13, e11]
        unfold in_ at lb
        refine ⟨⟨fun c10 => ⟨(by (try unfold am_in); (try unfold in_ at *); omega), (by (try unfold am_in); (try unfold in_ at *); omega), ib.1, ib.2, fun _ => ⟨(by (try unfold am_in); (try unfold in_ at *); omega), (by (try unfold am_in); (try unfold in_ at *); omega), ib.1, ib.2⟩⟩, fun c10 => ?_⟩, fun v ev => ⟨(by (try unfold am_in); (try unfold in_ at *); omega), ih v (y + 1) (by omega) (by omega) ?_⟩⟩
        · rw [if_pos c10] at hx
          have xb : 0 ≤ x ∧ x ≤ 600 := by
            have := sb (if y < la_ (rg μ) (μ 1 25) then y else la_ (rg μ) (μ 1 25)) (by split <;> omega)
            rw [← hx] at this
            split at this <;> omega
          exact ⟨hV.okT, fun _ => (by (try unfold am_in); (try unfold in_ at *); omega), fun _ => ⟨(by (try unfold am_in); (try unfold in_ at *); omega), (by (try unfold am_in); (try unfold in_ at *); omega), ib.1, ib.2, fun _ => (by (try unfold am_in); (try unfold in_ at *); omega), fun _ => (by (try unfold am_in); (try unfold in_ at *); omega)⟩⟩
        · rw [ev]
          by_cases c10 : w = 10
          · rw [if_pos c10] at hx ⊢
            rw [if_pos c10]
            by_cases cl : y < la_ (rg μ) (μ 1 25)
            · rw [if_pos cl] at hx ⊢
              rw [show (if y + 1 < la_ (rg μ) (μ 1 25) then y + 1 else la_ (rg μ) (μ 1 25)) = y + 1 by split <;> omega]
              unfold sm_ at hx ⊢
              rw [fI_s _ _ y0, ← hx]
              show _ = x + cif (dukP (pR μ) t y) 1 0
              by_cases d : dukP (pR μ) t y
              · rw [bI_t d, cif_t d, if_neg (by decide)]
              · rw [bI_f d, cif_f d, if_pos rfl]
            · rw [if_neg cl] at hx ⊢
              rw [if_neg (by omega), hx]
              omega
          · rw [if_neg c10] at hx ⊢
            rw [if_neg c10]
            unfold mx_ at hx ⊢
            rw [fI_s _ _ y0, ← hx]
    have first : w < 10 → ∀ (j : Nat) (x y : Int), y + j = μ 1 25 → 0 ≤ y → x = (if w = 8 then cnt_ (fun i => decide (rg μ i 0 = t)) (fun _ => 1) y else cnt_ (fun i => decide (rg μ i 0 = t)) (fun i => rg μ i 4) y) → at_I kR 4 mX10_track 82 [vR 0, vI t, vI w, vI x, vI y] [] m2 (fun z m => z = q_track (pR μ) t w ∧ rq_ μ m) := fun w10 => by
      intro j
      induction j with
      | zero =>
        intro x y hy y0 hx
        refine vc_X10_track_82 ⟨fun _ => vc_X10_track_144 ⟨fun q => by omega, fun _ => ⟨fun _ => ⟨?_, hq⟩, fun q => by omega⟩⟩, fun q => by rw [e21] at q; omega⟩
        have ey : y = μ 1 25 := by omega
        by_cases c8 : w = 8
        · rw [if_pos c8, ey] at hx
          rw [e2, hx, if_neg (by omega), if_neg (by omega), if_pos c8]; rfl
        · rw [if_neg c8, ey] at hx
          rw [e2, hx, if_neg (by omega), if_neg (by omega), if_neg c8, if_pos (by omega)]; rfl
      | succ j ih =>
        intro x y hy y0 hx
        have r4 : in_ 0 601 (rg μ y 4) := (hV.okT.2 y y0 (show y < μ 1 25 by omega)).2.2.2.2.1
        have b8 := cnt_le (p := fun i => decide (rg μ i 0 = t)) (n := y) y0
        have b9 := cnt_b (p := fun i => decide (rg μ i 0 = t)) (v := fun i => rg μ i 4) (n := y) (B := 600) y0 (by omega) (fun i i0 i1 => by
          have : in_ 0 601 (rg μ i 4) := (hV.okT.2 i i0 (show i < μ 1 25 by omega)).2.2.2.2.1
          ((try unfold am_in); (try unfold in_ at *); omega))
        have xb : 0 ≤ x ∧ x ≤ 24 * 600 := by
          rw [hx]
          unfold in_ at hn
          split <;> omega
        refine vc_X10_track_82 ⟨fun q => by rw [e21] at q; omega, fun q => ⟨fun q2 => by omega, fun _ => ?_⟩⟩
        rw [eg]
        refine ⟨(by (try unfold am_in); (try unfold in_ at *); omega), (by (try unfold am_in); (try unfold in_ at *); omega), fun _ _ => ⟨(by (try unfold am_in); (try unfold in_ at *); omega), (by (try unfold am_in); (try unfold in_ at *); omega)⟩, fun v ev => ⟨?_, (by (try unfold am_in); (try unfold in_ at *); omega), ih _ (y + 1) (by omega) (by omega) ?_⟩⟩
        · rw [ev]
          (repeat' split) <;> ((try unfold am_in); (try unfold in_ at *); omega)
        · rw [hx, ev]
          by_cases c8 : w = 8
          · rw [if_pos c8, if_pos c8, if_pos c8, cnt_s y0]
            simp only [decide_eq_true_eq]
          · rw [if_neg c8, if_neg c8, if_neg c8, cnt_s y0]
            simp only [decide_eq_true_eq]
    by_cases w10 : w < 10
    · exact first w10 (μ 1 25).toNat 0 0 (by ((try unfold am_in); (try unfold in_ at *); omega)) (by omega) (by split <;> rfl)
    · have s2 := second (by omega) 600 0 0 (by omega) (by omega) (by
        unfold in_ at lb
        by_cases c10 : w = 10
        · rw [if_pos c10, show (if (0 : Int) < la_ (rg μ) (μ 1 25) then 0 else la_ (rg μ) (μ 1 25)) = 0 by split <;> omega]
          rfl
        · rw [if_neg c10]; rfl)
      exact vc_X10_track_82 ⟨fun _ => s2, fun _ => ⟨fun _ => s2, fun q => by omega⟩⟩
  refine ⟨fun n3 => ⟨fun w7 => big w7, fun w7 => ⟨c, (by (try unfold am_in); (try unfold in_ at *); omega), low w7 n3⟩⟩, fun n3 => ⟨c, (by (try unfold am_in); (try unfold in_ at *); omega), fun nd => ⟨fun w7 => by omega, fun w7 => ⟨c, (by (try unfold am_in); (try unfold in_ at *); omega), ?_, rq_rf⟩⟩, fun nd => ⟨?_, rq_rf⟩⟩⟩
  · rw [e2, if_pos w7]
    unfold q_tn
    rw [if_pos n3, n3]
    show rT μ t 3 = if rT μ t 3 = -1 then _ else rT μ t 3
    rw [if_neg nd]
  · rw [e2, if_pos (by omega)]
    unfold q_tn
    rw [if_pos n3]
    show _ = if rT μ t 3 = -1 then _ else rT μ t 3
    rw [if_pos nd]
theorem vc_X10_explain_0 {x1 x2 : Int} {μ : am_M} {Q : Int → am_M → Prop} (h : (¬ (0 ≤ x1 ∧ x1 < 4) → Q (-1) μ) ∧ (0 ≤ x1 ∧ x1 < 4 → (0 ≤ x2 ∧ x2 < 600 → (ok_T (rg μ) (μ 1 25)) ∧ (∀ v1 : Int, v1 = (if ont_ (μ 1 25) (rg μ) x1 x2 < 0 then -6 else ont_ (μ 1 25) (rg μ) x1 x2) → (0 ≤ v1 → (in_ 0 4 x1) ∧ (in_ 0 7 1) ∧ ((rT μ x1 1 ≠ 1 → (in_ 0 4 x1) ∧ ((aud_ (rT μ) x1 → ∃ P : am_M → Prop, cl_V kR 3 mX10_works [vR 0] μ P ∧ (∀ m3 : am_M, P m3 → (am_in (600 * x1)) ∧ ((am_in ((600 * x1) + x2)) ∧ ((0 ≤ (600 * x1) + x2) ∧ ((600 * x1) + x2 < 2400) ∧ ((m3 13 (((600 * x1) + x2).toNat) = 0 → (in_ 0 48 v1) ∧ (in_ 0 8 1) ∧ ((am_in (x2 - (rg m3 v1 1))) ∧ ((in_ 0 48 v1) ∧ (in_ 0 8 6) ∧ (((rg m3 v1 6 ≤ x2 - (rg m3 v1 1) → (in_ 0 48 v1) ∧ (in_ 0 8 4) ∧ ((am_in (rg m3 v1 4 - (x2 - (rg m3 v1 1)))) ∧ ((in_ 0 48 v1) ∧ (in_ 0 8 7))))) ∧ (∀ v4 : Int, v4 = (if x2 - (rg m3 v1 1) < rg m3 v1 6 then 5 else (if rg m3 v1 7 < rg m3 v1 4 - (x2 - (rg m3 v1 1)) then 0 else 5)) → Q v4 m3))))) ∧ (m3 13 (((600 * x1) + x2).toNat) ≠ 0 → Q 4 m3)))))) ∧ (¬ (aud_ (rT μ) x1) → Q 3 μ))) ∧ (rT μ x1 1 = 1 → Q 2 μ))) ∧ (v1 < 0 → Q 1 μ))) ∧ (¬ (0 ≤ x2 ∧ x2 < 600) → Q (-1) μ))) : at_I kR 4 mX10_explain 0 [vR 0, vI x1, vI x2, vU, vU] [] μ Q := by
  refine s_iload_n dX10_explain_0 rfl rfl ?_
  refine s_callS (As := [vI x1]) (rest := []) dX10_explain_1 lkX10_133 lmX10_isTrack rfl rfl (Nat.le_of_ble_eq_true rfl) (by decide) (Nat.le_refl 0) (Nat.le_refl 0) (hC := sp_X10_isTrack (Q := fun z m => bI (0 ≤ x1 ∧ x1 < 4) = z ∧ μ = m)  ⟨rfl, rfl⟩) (fun r n2 S2 m2 hP => ?_)
  obtain ⟨⟨rfl, rfl⟩, z, rfl, rfl, rfl⟩ := hP
  refine s_if_eq dX10_explain_4 (tgt := 14) (by decide) (fun cc => ?_) (fun cc => ?_)
  · have h := h.1 (bI_eq cc)
    refine s_iconst dX10_explain_14 (by decide) ?_
    exact s_ireturn dX10_explain_15 (Or.inl rfl) ⟨⟨rfl, rfl⟩, _, rfl, h⟩
  · have h := h.2 (bI_ne cc)
    refine s_iload_n dX10_explain_7 rfl rfl ?_
    refine s_callS (As := [vI x2]) (rest := []) dX10_explain_8 lkX10_175 lmX10_isFrame rfl rfl (Nat.le_of_ble_eq_true rfl) (by decide) (Nat.le_refl 0) (Nat.le_refl 0) (hC := sp_X10_isFrame (Q := fun z m => bI (0 ≤ x2 ∧ x2 < 600) = z ∧ μ = m)  ⟨rfl, rfl⟩) (fun r n2 S2 m2 hP => ?_)
    obtain ⟨⟨rfl, rfl⟩, z, rfl, rfl, rfl⟩ := hP
    refine s_if_ne dX10_explain_11 (tgt := 16) (by decide) (fun cc => ?_) (fun cc => ?_)
    · have h := h.1 (bI_ne cc)
      refine s_aload_n dX10_explain_16 rfl rfl ?_
      refine s_iload_n dX10_explain_17 rfl rfl ?_
      refine s_iload_n dX10_explain_18 rfl rfl ?_
      obtain ⟨p0, h⟩ := h
      refine s_callV (As := [vI x1, vI x2]) (rest := []) (k := 0) dX10_explain_19 lkX10_178 rn0 ⟨by rw [rk0]; rfl, by rw [rk0]; decide⟩ lmX10_clipOn rfl rfl (Nat.le_of_ble_eq_true rfl) (by decide) (Nat.le_refl 0) (Nat.le_refl 0) (hC := sp_X10_clipOn (Q := fun z m => z = (if ont_ (μ 1 25) (rg μ) x1 x2 < 0 then -6 else ont_ (μ 1 25) (rg μ) x1 x2) ∧ μ = m) p0 ⟨rfl, rfl⟩) (fun r n2 S2 m2 hP => ?_)
      obtain ⟨⟨rfl, rfl⟩, v1, rfl, hz, rfl⟩ := hP
      have h := h v1 hz
      refine s_istore_n dX10_explain_22 rfl (by decide) (L' := [vR 0, vI x1, vI x2, vI v1, vU]) rfl ?_
      refine s_iload_n dX10_explain_23 rfl rfl ?_
      refine s_if_ge dX10_explain_24 (tgt := 29) (by decide) (fun cc => ?_) (fun cc => ?_)
      · have h := h.1 cc
        refine s_aload_n dX10_explain_29 rfl rfl ?_
        refine s_iload_n dX10_explain_30 rfl rfl ?_
        refine s_iconst dX10_explain_31 (by decide) ?_
        obtain ⟨p0, p1, h⟩ := h
        refine s_callV (As := [vI x1, vI 1]) (rest := []) (k := 0) dX10_explain_32 lkX10_139 rn0 ⟨by rw [rk0]; rfl, by rw [rk0]; decide⟩ lmX10_trackOf rfl rfl (Nat.le_of_ble_eq_true rfl) (by decide) (Nat.le_refl 0) (Nat.le_refl 0) (hC := sp_X10_trackOf (Q := fun z m => rT μ x1 1 = z ∧ μ = m) p0 p1 ⟨rfl, rfl⟩) (fun r n2 S2 m2 hP => ?_)
        obtain ⟨⟨rfl, rfl⟩, z, rfl, rfl, rfl⟩ := hP
        refine s_iconst dX10_explain_35 (by decide) ?_
        refine s_icmp_ne dX10_explain_36 (tgt := 41) (by decide) (fun cc => ?_) (fun cc => ?_)
        · have h := h.1 cc
          refine s_aload_n dX10_explain_41 rfl rfl ?_
          refine s_iload_n dX10_explain_42 rfl rfl ?_
          obtain ⟨p0, h⟩ := h
          refine s_callV (As := [vI x1]) (rest := []) (k := 0) dX10_explain_43 lkX10_149 rn0 ⟨by rw [rk0]; rfl, by rw [rk0]; decide⟩ lmX10_isAudible rfl rfl (Nat.le_of_ble_eq_true rfl) (by decide) (Nat.le_refl 0) (Nat.le_refl 0) (hC := sp_X10_isAudible (Q := fun z m => bI (aud_ (rT μ) x1) = z ∧ μ = m) p0 ⟨rfl, rfl⟩) (fun r n2 S2 m2 hP => ?_)
          obtain ⟨⟨rfl, rfl⟩, z, rfl, rfl, rfl⟩ := hP
          refine s_if_ne dX10_explain_46 (tgt := 51) (by decide) (fun cc => ?_) (fun cc => ?_)
          · have h := h.1 (bI_ne cc)
            refine s_aload_n dX10_explain_51 rfl rfl ?_
            obtain ⟨P, hcl, h⟩ := h
            refine s_callV (As := []) (rest := []) (k := 0) dX10_explain_52 lkX10_152 rn0 ⟨by rw [rk0]; rfl, by rw [rk0]; decide⟩ lmX10_works rfl rfl (Nat.le_of_ble_eq_true rfl) (by decide) (Nat.le_refl 0) (Nat.le_refl 0) (hC := hcl) (fun r n2 S2 m3 hP => ?_)
            obtain ⟨⟨rfl, rfl⟩, rfl, hq⟩ := hP
            have h := h m3 hq
            refine s_aload_n dX10_explain_55 rfl rfl ?_
            refine s_getR dX10_explain_56 flX10_46 rn0 rk0 rfl rr0_17 ?_
            refine s_sipush dX10_explain_59 (by decide) ?_
            refine s_iload_n dX10_explain_62 rfl rfl ?_
            obtain ⟨c, h⟩ := h
            refine s_imul dX10_explain_63 (am_w_id c) ?_
            refine s_iload_n dX10_explain_64 rfl rfl ?_
            obtain ⟨c, h⟩ := h
            refine s_iadd dX10_explain_65 (am_w_id c) ?_
            obtain ⟨c, c2, h⟩ := h
            refine s_bald (x := (m3 13 (((600 * x1) + x2).toNat))) dX10_explain_66 rn13 rk13 rl13 c c2 rfl ?_
            refine s_if_eq dX10_explain_67 (tgt := 72) (by decide) (fun cc => ?_) (fun cc => ?_)
            · have h := h.1 cc
              refine s_iload_n dX10_explain_72 rfl rfl ?_
              refine s_aload_n dX10_explain_73 rfl rfl ?_
              refine s_iload_n dX10_explain_74 rfl rfl ?_
              refine s_iconst dX10_explain_75 (by decide) ?_
              obtain ⟨p0, p1, h⟩ := h
              refine s_callV (As := [vI v1, vI 1]) (rest := [vI x2]) (k := 0) dX10_explain_76 lkX10_126 rn0 ⟨by rw [rk0]; rfl, by rw [rk0]; decide⟩ lmX10_of rfl rfl (Nat.le_of_ble_eq_true rfl) (by decide) (Nat.le_refl 0) (Nat.le_refl 0) (hC := sp_X10_of (Q := fun z m => rg m3 v1 1 = z ∧ m3 = m) p0 p1 ⟨rfl, rfl⟩) (fun r n2 S2 m2 hP => ?_)
              obtain ⟨⟨rfl, rfl⟩, z, rfl, rfl, rfl⟩ := hP
              obtain ⟨c, h⟩ := h
              refine s_isub dX10_explain_79 (am_w_id c) ?_
              refine s_istore dX10_explain_80 (by decide) (L' := [vR 0, vI x1, vI x2, vI v1, vI (x2 - (rg m3 v1 1))]) rfl ?_
              refine s_iload dX10_explain_82 rfl ?_
              refine s_aload_n dX10_explain_84 rfl rfl ?_
              refine s_iload_n dX10_explain_85 rfl rfl ?_
              refine s_bipush dX10_explain_86 (by decide) ?_
              obtain ⟨p0, p1, h⟩ := h
              refine s_callV (As := [vI v1, vI 6]) (rest := [vI (x2 - (rg m3 v1 1))]) (k := 0) dX10_explain_88 lkX10_126 rn0 ⟨by rw [rk0]; rfl, by rw [rk0]; decide⟩ lmX10_of rfl rfl (Nat.le_of_ble_eq_true rfl) (by decide) (Nat.le_refl 0) (Nat.le_refl 0) (hC := sp_X10_of (Q := fun z m => rg m3 v1 6 = z ∧ m3 = m) p0 p1 ⟨rfl, rfl⟩) (fun r n2 S2 m2 hP => ?_)
              obtain ⟨⟨rfl, rfl⟩, z, rfl, rfl, rfl⟩ := hP
              obtain ⟨hsd, h⟩ := h
              have kj5 : ∀ (v4 : Int), (Q v4 m3) → at_I kR 4 mX10_explain 118 [vU, vU, vU, vU, vU] [vI v4] m3 Q := by
                intro v4 h
                exact s_ireturn dX10_explain_118 (Or.inl rfl) ⟨⟨rfl, rfl⟩, _, rfl, h⟩
              refine s_icmp_lt dX10_explain_91 (tgt := 113) (by decide) (fun cc => ?_) (fun cc => ?_)
              · have hp0 := cc
                refine s_iconst dX10_explain_113 (by decide) ?_
                refine s_goto dX10_explain_114 (tgt := 118) (by decide) ?_
                exact am_lesS (kj5 5 (h 5 (by rw [if_pos hp0]))) ⟨Or.inl rfl, Or.inl rfl, Or.inl rfl, Or.inl rfl, Or.inl rfl, trivial⟩
              · have hp0 := cc
                have hsd := hsd hp0
                refine s_aload_n dX10_explain_94 rfl rfl ?_
                refine s_iload_n dX10_explain_95 rfl rfl ?_
                refine s_iconst dX10_explain_96 (by decide) ?_
                obtain ⟨p0, p1, hsd⟩ := hsd
                refine s_callV (As := [vI v1, vI 4]) (rest := []) (k := 0) dX10_explain_97 lkX10_126 rn0 ⟨by rw [rk0]; rfl, by rw [rk0]; decide⟩ lmX10_of rfl rfl (Nat.le_of_ble_eq_true rfl) (by decide) (Nat.le_refl 0) (Nat.le_refl 0) (hC := sp_X10_of (Q := fun z m => rg m3 v1 4 = z ∧ m3 = m) p0 p1 ⟨rfl, rfl⟩) (fun r n2 S2 m2 hP => ?_)
                obtain ⟨⟨rfl, rfl⟩, z, rfl, rfl, rfl⟩ := hP
                refine s_iload dX10_explain_100 rfl ?_
                obtain ⟨c, hsd⟩ := hsd
                refine s_isub dX10_explain_102 (am_w_id c) ?_
                refine s_aload_n dX10_explain_103 rfl rfl ?_
                refine s_iload_n dX10_explain_104 rfl rfl ?_
                refine s_bipush dX10_explain_105 (by decide) ?_
                obtain ⟨p0, p1⟩ := hsd
                refine s_callV (As := [vI v1, vI 7]) (rest := [vI (rg m3 v1 4 - (x2 - (rg m3 v1 1)))]) (k := 0) dX10_explain_107 lkX10_126 rn0 ⟨by rw [rk0]; rfl, by rw [rk0]; decide⟩ lmX10_of rfl rfl (Nat.le_of_ble_eq_true rfl) (by decide) (Nat.le_refl 0) (Nat.le_refl 0) (hC := sp_X10_of (Q := fun z m => rg m3 v1 7 = z ∧ m3 = m) p0 p1 ⟨rfl, rfl⟩) (fun r n2 S2 m2 hP => ?_)
                obtain ⟨⟨rfl, rfl⟩, z, rfl, rfl, rfl⟩ := hP
                refine s_icmp_gt dX10_explain_110 (tgt := 117) (by decide) (fun cc => ?_) (fun cc => ?_)
                · have hp1 := cc
                  refine s_iconst dX10_explain_117 (by decide) ?_
                  exact am_lesS (kj5 0 (h 0 (by rw [if_neg (Int.not_lt.mpr hp0), if_pos hp1]))) ⟨Or.inl rfl, Or.inl rfl, Or.inl rfl, Or.inl rfl, Or.inl rfl, trivial⟩
                · have hp1 := cc
                  refine s_iconst dX10_explain_113 (by decide) ?_
                  refine s_goto dX10_explain_114 (tgt := 118) (by decide) ?_
                  exact am_lesS (kj5 5 (h 5 (by rw [if_neg (Int.not_lt.mpr hp0), if_neg (Int.not_lt.mpr hp1)]))) ⟨Or.inl rfl, Or.inl rfl, Or.inl rfl, Or.inl rfl, Or.inl rfl, trivial⟩
            · have h := h.2 cc
              refine s_iconst dX10_explain_70 (by decide) ?_
              exact s_ireturn dX10_explain_71 (Or.inl rfl) ⟨⟨rfl, rfl⟩, _, rfl, h⟩
          · have h := h.2 (bI_eq cc)
            refine s_iconst dX10_explain_49 (by decide) ?_
            exact s_ireturn dX10_explain_50 (Or.inl rfl) ⟨⟨rfl, rfl⟩, _, rfl, h⟩
        · have h := h.2 cc
          refine s_iconst dX10_explain_39 (by decide) ?_
          exact s_ireturn dX10_explain_40 (Or.inl rfl) ⟨⟨rfl, rfl⟩, _, rfl, h⟩
      · have h := h.2 cc
        refine s_iconst dX10_explain_27 (by decide) ?_
        exact s_ireturn dX10_explain_28 (Or.inl rfl) ⟨⟨rfl, rfl⟩, _, rfl, h⟩
    · have h := h.2 (bI_eq cc)
      refine s_iconst dX10_explain_14 (by decide) ?_
      exact s_ireturn dX10_explain_15 (Or.inl rfl) ⟨⟨rfl, rfl⟩, _, rfl, h⟩
theorem ve_X10_explain {x1 x2 : Int} {μ : am_M} {Q : Int → am_M → Prop} (h : at_I kR 4 mX10_explain 0 [vR 0, vI x1, vI x2, vU, vU] [] μ Q) : cl_I kR 4 mX10_explain [vR 0, vI x1, vI x2] μ Q := am_intro pmX10_explain (Nat.le_of_ble_eq_true rfl) rfl h
theorem sp_X10_explain {μ : am_M} {t f : Int} (hV : vP (pR μ)) : cl_I kR 4 mX10_explain [vR 0, vI t, vI f] μ (fun z m => z = q_explain (pR μ) t f ∧ rq_ μ m) := by
  have hn : in_ 0 25 (μ 1 25) := hV.hn
  refine ve_X10_explain (vc_X10_explain_0 ⟨fun c => ⟨(cif_t (by omega)).symm, rq_rf⟩, fun c => ⟨fun c1 => ⟨hV.okT, fun v1 e1 => ?_⟩, fun c1 => ⟨(cif_t (by omega)).symm, rq_rf⟩⟩⟩)
  have e0 : q_explain (pR μ) t f = _ := cif_f (fun h => h ⟨c, c1⟩)
  have oc := ont_c (g := rg μ) hn.1 t f
  have eo : 0 ≤ v1 → onP (pR μ) t f = v1 := fun h => by
    rw [e1] at h ⊢
    show ont_ (μ 1 25) (rg μ) t f = _
    split
    · rename_i q; rw [if_pos q] at h; omega
    · rfl
  have en : v1 < 0 → onP (pR μ) t f < 0 := fun h => by
    show ont_ (μ 1 25) (rg μ) t f < 0
    rw [e1] at h
    by_cases q : ont_ (μ 1 25) (rg μ) t f < 0
    · exact q
    · rw [if_neg q] at h; exact h
  refine ⟨fun v0 => ⟨c, (by (try unfold am_in); (try unfold in_ at *); omega), fun c2 => ⟨c, fun c3 => ⟨_, sp_X10_works hV, fun m3 ⟨h1, h2⟩ => ?_⟩, fun c3 => ⟨?_, rq_rf⟩⟩, fun c2 => ⟨?_, rq_rf⟩⟩, fun v0 => ⟨by rw [e0, if_pos (en v0)], rq_rf⟩⟩
  · have e31 : m3 1 = μ 1 := h1 1 (by decide)
    obtain ⟨eS, eg, eT⟩ := r1_e e31
    have hq := rq_of h1 wk_sc
    have h13 := h2.2.2.2.1
    change dv_ m3 13 (fun t f => bI (dukP (pR m3) t f)) at h13
    rw [rq_P hq] at h13
    have ib := ix_b (t := t) (f := f) c c1
    have e13 : m3 13 ((600 * t) + f).toNat = bI (dukP (pR μ) t f) := h13 t f c c1
    rw [e13, eg]
    have e5 := eo v0
    have vb : 0 ≤ v1 ∧ v1 < μ 1 25 := by
      have e5' : ont_ (μ 1 25) (rg μ) t f = v1 := e5
      rw [e5'] at oc
      rcases oc with ⟨a, -⟩ | ⟨a, b, -⟩
      · omega
      · exact ⟨a, b⟩
    obtain ⟨b0, b1, b2, b3, b4, b5, b6, b7⟩ := hV.okT.2 v1 vb.1 vb.2
    change in_ 0 601 (rg μ v1 1) at b1
    change in_ 0 601 (rg μ v1 4) at b4
    unfold in_ at b1 b4 hn
    refine ⟨(by (try unfold am_in); (try unfold in_ at *); omega), (by (try unfold am_in); (try unfold in_ at *); omega), ib.1, ib.2, fun d => ?_, fun d => ⟨?_, hq⟩⟩
    · have nd : ¬ dukP (pR μ) t f := bI_eq d
      refine ⟨by ((try unfold am_in); (try unfold in_ at *); omega), (by (try unfold am_in); (try unfold in_ at *); omega), (by (try unfold am_in); (try unfold in_ at *); omega), by ((try unfold am_in); (try unfold in_ at *); omega), (by (try unfold am_in); (try unfold in_ at *); omega), fun _ => ⟨by ((try unfold am_in); (try unfold in_ at *); omega), (by (try unfold am_in); (try unfold in_ at *); omega), (by (try unfold am_in); (try unfold in_ at *); omega), by ((try unfold am_in); (try unfold in_ at *); omega), (by (try unfold am_in); (try unfold in_ at *); omega)⟩, fun v4 e4 => ⟨?_, hq⟩⟩
      rw [e0, e5, if_neg (by omega), if_neg (show ¬ pT (pR μ) t 1 = 1 from c2), cif_f (p := ¬ aud_ (pT (pR μ)) t) (fun h => h c3), cif_f nd, e4]
      by_cases c5 : fad_p (rg μ) v1 f
      · rw [show cif (fad_p (pG (pR μ)) v1 f) 5 0 = (5 : Int) from cif_t c5]
        unfold fad_p en_ at c5
        (repeat' split) <;> omega
      · rw [show cif (fad_p (pG (pR μ)) v1 f) 5 0 = (0 : Int) from cif_f c5]
        unfold fad_p en_ at c5
        (repeat' split) <;> omega
    · have yd : dukP (pR μ) t f := bI_ne d
      rw [e0, e5, if_neg (by omega), if_neg (show ¬ pT (pR μ) t 1 = 1 from c2), cif_f (p := ¬ aud_ (pT (pR μ)) t) (fun h => h c3), cif_t yd]
  · rw [e0, eo v0, if_neg (by omega), if_neg (show ¬ pT (pR μ) t 1 = 1 from c2), cif_t (p := ¬ aud_ (pT (pR μ)) t) c3]
  · rw [e0, eo v0, if_neg (by omega), if_pos (show pT (pR μ) t 1 = 1 from c2)]

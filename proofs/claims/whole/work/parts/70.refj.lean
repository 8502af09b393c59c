/-! the reference's commands on clips -/
theorem vc_X10_setClip_0 {x1 x2 x3 : Int} {μ : am_M} {Q : Int → am_M → Prop} (h : (in_ 0 49 (μ 1 25)) ∧ ((0 ≤ x1 ∧ x1 < μ 1 25 → (¬ (0 ≤ x2 ∧ x2 ≤ 2) → Q (-2) μ) ∧ (0 ≤ x2 ∧ x2 ≤ 2 → (x3 < 0 → Q (-2) μ) ∧ (0 ≤ x3 → (x2 ≠ 0 → (x2 ≤ 0 → ∃ P : am_M → Prop, cl_V kR 2 mX10_begins [vR 0] μ P ∧ (∀ m2 : am_M, P m2 → (am_in (5 + x2)) ∧ ((in_ 0 48 x1) ∧ (in_ 0 8 (5 + x2)) ∧ ((am_in (8 * x1)) ∧ ((am_in (26 + (8 * x1))) ∧ ((am_in ((26 + (8 * x1)) + 5)) ∧ ((am_in (((26 + (8 * x1)) + 5) + x2)) ∧ ((0 ≤ ((26 + (8 * x1)) + 5) + x2) ∧ (((26 + (8 * x1)) + 5) + x2 < 470) ∧ (∀ m3 : am_M, m3 = am_st m2 1 (am_up (m2 1) (((26 + (8 * x1)) + 5) + x2).toNat x3) → ∃ P : Int → am_M → Prop, cl_I kR 3 mX10_ends [vR 0, vI (rg m2 x1 (5 + x2))] m3 P ∧ (∀ (z4 : Int) (m5 : am_M), P z4 m5 → Q z4 m5)))))))))) ∧ (0 < x2 → (in_ 0 48 x1) ∧ (in_ 0 8 4) ∧ ((rg μ x1 4 < x3 → Q (-2) μ) ∧ (x3 ≤ rg μ x1 4 → ∀ v6 : Int, v6 = (if x2 = 1 then 7 else 6) → (in_ 0 48 x1) ∧ (in_ 0 8 v6) ∧ ((am_in (x3 + (rg μ x1 v6))) ∧ ((in_ 0 48 x1) ∧ (in_ 0 8 4) ∧ ((x3 + (rg μ x1 v6) ≤ rg μ x1 4 → ∃ P : am_M → Prop, cl_V kR 2 mX10_begins [vR 0] μ P ∧ (∀ m8 : am_M, P m8 → (am_in (5 + x2)) ∧ ((in_ 0 48 x1) ∧ (in_ 0 8 (5 + x2)) ∧ ((am_in (8 * x1)) ∧ ((am_in (26 + (8 * x1))) ∧ ((am_in ((26 + (8 * x1)) + 5)) ∧ ((am_in (((26 + (8 * x1)) + 5) + x2)) ∧ ((0 ≤ ((26 + (8 * x1)) + 5) + x2) ∧ (((26 + (8 * x1)) + 5) + x2 < 470) ∧ (∀ m9 : am_M, m9 = am_st m8 1 (am_up (m8 1) (((26 + (8 * x1)) + 5) + x2).toNat x3) → ∃ P : Int → am_M → Prop, cl_I kR 3 mX10_ends [vR 0, vI (rg m8 x1 (5 + x2))] m9 P ∧ (∀ (z10 : Int) (m11 : am_M), P z10 m11 → Q z10 m11)))))))))) ∧ (rg μ x1 4 < x3 + (rg μ x1 v6) → Q (-2) μ)))))))) ∧ (x2 = 0 → (x3 ≤ 200 → (x2 ≤ 0 → ∃ P : am_M → Prop, cl_V kR 2 mX10_begins [vR 0] μ P ∧ (∀ m14 : am_M, P m14 → (am_in (5 + x2)) ∧ ((in_ 0 48 x1) ∧ (in_ 0 8 (5 + x2)) ∧ ((am_in (8 * x1)) ∧ ((am_in (26 + (8 * x1))) ∧ ((am_in ((26 + (8 * x1)) + 5)) ∧ ((am_in (((26 + (8 * x1)) + 5) + x2)) ∧ ((0 ≤ ((26 + (8 * x1)) + 5) + x2) ∧ (((26 + (8 * x1)) + 5) + x2 < 470) ∧ (∀ m15 : am_M, m15 = am_st m14 1 (am_up (m14 1) (((26 + (8 * x1)) + 5) + x2).toNat x3) → ∃ P : Int → am_M → Prop, cl_I kR 3 mX10_ends [vR 0, vI (rg m14 x1 (5 + x2))] m15 P ∧ (∀ (z16 : Int) (m17 : am_M), P z16 m17 → Q z16 m17)))))))))) ∧ (0 < x2 → (in_ 0 48 x1) ∧ (in_ 0 8 4) ∧ ((rg μ x1 4 < x3 → Q (-2) μ) ∧ (x3 ≤ rg μ x1 4 → ∀ v18 : Int, v18 = (if x2 = 1 then 7 else 6) → (in_ 0 48 x1) ∧ (in_ 0 8 v18) ∧ ((am_in (x3 + (rg μ x1 v18))) ∧ ((in_ 0 48 x1) ∧ (in_ 0 8 4) ∧ ((x3 + (rg μ x1 v18) ≤ rg μ x1 4 → ∃ P : am_M → Prop, cl_V kR 2 mX10_begins [vR 0] μ P ∧ (∀ m20 : am_M, P m20 → (am_in (5 + x2)) ∧ ((in_ 0 48 x1) ∧ (in_ 0 8 (5 + x2)) ∧ ((am_in (8 * x1)) ∧ ((am_in (26 + (8 * x1))) ∧ ((am_in ((26 + (8 * x1)) + 5)) ∧ ((am_in (((26 + (8 * x1)) + 5) + x2)) ∧ ((0 ≤ ((26 + (8 * x1)) + 5) + x2) ∧ (((26 + (8 * x1)) + 5) + x2 < 470) ∧ (∀ m21 : am_M, m21 = am_st m20 1 (am_up (m20 1) (((26 + (8 * x1)) + 5) + x2).toNat x3) → ∃ P : Int → am_M → Prop, cl_I kR 3 mX10_ends [vR 0, vI (rg m20 x1 (5 + x2))] m21 P ∧ (∀ (z22 : Int) (m23 : am_M), P z22 m23 → Q z22 m23)))))))))) ∧ (rg μ x1 4 < x3 + (rg μ x1 v18) → Q (-2) μ)))))))) ∧ (200 < x3 → Q (-2) μ))))) ∧ (¬ (0 ≤ x1 ∧ x1 < μ 1 25) → Q (-1) μ))) : at_I kR 5 mX10_setClip 0 [vR 0, vI x1, vI x2, vI x3, vU] [] μ Q := by
  refine s_aload_n dX10_setClip_0 rfl rfl ?_
  refine s_iload_n dX10_setClip_1 rfl rfl ?_
  obtain ⟨p0, h⟩ := h
  refine s_callV (As := [vI x1]) (rest := []) (k := 0) dX10_setClip_2 lkX10_165 rn0 ⟨by rw [rk0]; rfl, by rw [rk0]; decide⟩ lmX10_isClip rfl rfl (Nat.le_of_ble_eq_true rfl) (by decide) (Nat.le_refl 0) (Nat.le_refl 0) (hC := sp_X10_isClip (Q := fun z m => bI (0 ≤ x1 ∧ x1 < μ 1 25) = z ∧ μ = m) p0 ⟨rfl, rfl⟩) (fun r n2 S2 m2 hP => ?_)
  obtain ⟨⟨rfl, rfl⟩, z, rfl, rfl, rfl⟩ := hP
  refine s_if_ne dX10_setClip_5 (tgt := 10) (by decide) (fun cc => ?_) (fun cc => ?_)
  · have h := h.1 (bI_ne cc)
    refine s_iload_n dX10_setClip_10 rfl rfl ?_
    refine s_iconst dX10_setClip_11 (by decide) ?_
    refine s_iconst dX10_setClip_12 (by decide) ?_
    refine s_callS (As := [vI x2, vI 0, vI 2]) (rest := []) dX10_setClip_13 lkX10_103 lmX10_isIn rfl rfl (Nat.le_of_ble_eq_true rfl) (by decide) (Nat.le_refl 0) (Nat.le_refl 0) (hC := sp_X10_isIn (Q := fun z m => bI (0 ≤ x2 ∧ x2 ≤ 2) = z ∧ μ = m)  ⟨rfl, rfl⟩) (fun r n2 S2 m2 hP => ?_)
    obtain ⟨⟨rfl, rfl⟩, z, rfl, rfl, rfl⟩ := hP
    refine s_if_eq dX10_setClip_16 (tgt := 34) (by decide) (fun cc => ?_) (fun cc => ?_)
    · have h := h.1 (bI_eq cc)
      refine s_bipush dX10_setClip_34 (by decide) ?_
      exact s_ireturn dX10_setClip_36 (Or.inl rfl) ⟨⟨rfl, rfl⟩, _, rfl, h⟩
    · have h := h.2 (bI_ne cc)
      refine s_iload_n dX10_setClip_19 rfl rfl ?_
      refine s_if_lt dX10_setClip_20 (tgt := 34) (by decide) (fun cc => ?_) (fun cc => ?_)
      · have h := h.1 cc
        refine s_bipush dX10_setClip_34 (by decide) ?_
        exact s_ireturn dX10_setClip_36 (Or.inl rfl) ⟨⟨rfl, rfl⟩, _, rfl, h⟩
      · have h := h.2 cc
        refine s_iload_n dX10_setClip_23 rfl rfl ?_
        refine s_if_ne dX10_setClip_24 (tgt := 37) (by decide) (fun cc => ?_) (fun cc => ?_)
        · have h := h.1 cc
          refine s_iload_n dX10_setClip_37 rfl rfl ?_
          refine s_if_le dX10_setClip_38 (tgt := 82) (by decide) (fun cc => ?_) (fun cc => ?_)
          · have h := h.1 cc
            refine s_aload_n dX10_setClip_82 rfl rfl ?_
            obtain ⟨P, hcl, h⟩ := h
            refine s_callV (As := []) (rest := []) (k := 0) dX10_setClip_83 lkX10_107 rn0 ⟨by rw [rk0]; rfl, by rw [rk0]; decide⟩ lmX10_begins rfl rfl (Nat.le_of_ble_eq_true rfl) (by decide) (Nat.le_refl 0) (Nat.le_refl 0) (hC := hcl) (fun r n2 S2 m2 hP => ?_)
            obtain ⟨⟨rfl, rfl⟩, rfl, hq⟩ := hP
            have h := h m2 hq
            refine s_aload_n dX10_setClip_86 rfl rfl ?_
            refine s_iload_n dX10_setClip_87 rfl rfl ?_
            refine s_iconst dX10_setClip_88 (by decide) ?_
            refine s_iload_n dX10_setClip_89 rfl rfl ?_
            obtain ⟨c, h⟩ := h
            refine s_iadd dX10_setClip_90 (am_w_id c) ?_
            obtain ⟨p0, p1, h⟩ := h
            refine s_callV (As := [vI x1, vI (5 + x2)]) (rest := []) (k := 0) dX10_setClip_91 lkX10_126 rn0 ⟨by rw [rk0]; rfl, by rw [rk0]; decide⟩ lmX10_of rfl rfl (Nat.le_of_ble_eq_true rfl) (by decide) (Nat.le_refl 0) (Nat.le_refl 0) (hC := sp_X10_of (Q := fun z m => rg m2 x1 (5 + x2) = z ∧ m2 = m) p0 p1 ⟨rfl, rfl⟩) (fun r n2 S2 m2 hP => ?_)
            obtain ⟨⟨rfl, rfl⟩, z, rfl, rfl, rfl⟩ := hP
            refine s_istore dX10_setClip_94 (by decide) (L' := [vR 0, vI x1, vI x2, vI x3, vI (rg m2 x1 (5 + x2))]) rfl ?_
            refine s_aload_n dX10_setClip_96 rfl rfl ?_
            refine s_getR dX10_setClip_97 flX10_9 rn0 rk0 rfl rr0_0 ?_
            refine s_bipush dX10_setClip_100 (by decide) ?_
            refine s_bipush dX10_setClip_102 (by decide) ?_
            refine s_iload_n dX10_setClip_104 rfl rfl ?_
            obtain ⟨c, h⟩ := h
            refine s_imul dX10_setClip_105 (am_w_id c) ?_
            obtain ⟨c, h⟩ := h
            refine s_iadd dX10_setClip_106 (am_w_id c) ?_
            refine s_iconst dX10_setClip_107 (by decide) ?_
            obtain ⟨c, h⟩ := h
            refine s_iadd dX10_setClip_108 (am_w_id c) ?_
            refine s_iload_n dX10_setClip_109 rfl rfl ?_
            obtain ⟨c, h⟩ := h
            refine s_iadd dX10_setClip_110 (am_w_id c) ?_
            refine s_iload_n dX10_setClip_111 rfl rfl ?_
            obtain ⟨c, c2, h⟩ := h
            obtain ⟨m3, hm3⟩ : ∃ x : am_M, x = am_st m2 1 (am_up (m2 1) (((26 + (8 * x1)) + 5) + x2).toNat x3) := ⟨_, rfl⟩
            have h := h m3 hm3
            refine s_iast dX10_setClip_112 rn1 rk1 rl1 c c2 hm3.symm ?_
            refine s_aload_n dX10_setClip_113 rfl rfl ?_
            refine s_iload dX10_setClip_114 rfl ?_
            obtain ⟨P, hcl, h⟩ := h
            refine s_callV (As := [vI (rg m2 x1 (5 + x2))]) (rest := []) (k := 0) dX10_setClip_116 lkX10_110 rn0 ⟨by rw [rk0]; rfl, by rw [rk0]; decide⟩ lmX10_ends rfl rfl (Nat.le_of_ble_eq_true rfl) (by decide) (Nat.le_refl 0) (Nat.le_refl 0) (hC := hcl) (fun r n2 S2 m5 hP => ?_)
            obtain ⟨⟨rfl, rfl⟩, z4, rfl, hq⟩ := hP
            have h := h z4 m5 hq
            exact s_ireturn dX10_setClip_119 (Or.inl rfl) ⟨⟨rfl, rfl⟩, _, rfl, h⟩
          · have h := h.2 cc
            refine s_iload_n dX10_setClip_41 rfl rfl ?_
            refine s_aload_n dX10_setClip_42 rfl rfl ?_
            refine s_iload_n dX10_setClip_43 rfl rfl ?_
            refine s_iconst dX10_setClip_44 (by decide) ?_
            obtain ⟨p0, p1, h⟩ := h
            refine s_callV (As := [vI x1, vI 4]) (rest := [vI x3]) (k := 0) dX10_setClip_45 lkX10_126 rn0 ⟨by rw [rk0]; rfl, by rw [rk0]; decide⟩ lmX10_of rfl rfl (Nat.le_of_ble_eq_true rfl) (by decide) (Nat.le_refl 0) (Nat.le_refl 0) (hC := sp_X10_of (Q := fun z m => rg μ x1 4 = z ∧ μ = m) p0 p1 ⟨rfl, rfl⟩) (fun r n2 S2 m2 hP => ?_)
            obtain ⟨⟨rfl, rfl⟩, z, rfl, rfl, rfl⟩ := hP
            refine s_icmp_gt dX10_setClip_48 (tgt := 79) (by decide) (fun cc => ?_) (fun cc => ?_)
            · have h := h.1 cc
              refine s_bipush dX10_setClip_79 (by decide) ?_
              exact s_ireturn dX10_setClip_81 (Or.inl rfl) ⟨⟨rfl, rfl⟩, _, rfl, h⟩
            · have h := h.2 cc
              refine s_iload_n dX10_setClip_51 rfl rfl ?_
              refine s_aload_n dX10_setClip_52 rfl rfl ?_
              refine s_iload_n dX10_setClip_53 rfl rfl ?_
              refine s_iload_n dX10_setClip_54 rfl rfl ?_
              refine s_iconst dX10_setClip_55 (by decide) ?_
              have kj12 : ∀ (v6 : Int), ((in_ 0 48 x1) ∧ (in_ 0 8 v6) ∧ ((am_in (x3 + (rg μ x1 v6))) ∧ ((in_ 0 48 x1) ∧ (in_ 0 8 4) ∧ ((x3 + (rg μ x1 v6) ≤ rg μ x1 4 → ∃ P : am_M → Prop, cl_V kR 2 mX10_begins [vR 0] μ P ∧ (∀ m8 : am_M, P m8 → (am_in (5 + x2)) ∧ ((in_ 0 48 x1) ∧ (in_ 0 8 (5 + x2)) ∧ ((am_in (8 * x1)) ∧ ((am_in (26 + (8 * x1))) ∧ ((am_in ((26 + (8 * x1)) + 5)) ∧ ((am_in (((26 + (8 * x1)) + 5) + x2)) ∧ ((0 ≤ ((26 + (8 * x1)) + 5) + x2) ∧ (((26 + (8 * x1)) + 5) + x2 < 470) ∧ (∀ m9 : am_M, m9 = am_st m8 1 (am_up (m8 1) (((26 + (8 * x1)) + 5) + x2).toNat x3) → ∃ P : Int → am_M → Prop, cl_I kR 3 mX10_ends [vR 0, vI (rg m8 x1 (5 + x2))] m9 P ∧ (∀ (z10 : Int) (m11 : am_M), P z10 m11 → Q z10 m11)))))))))) ∧ (rg μ x1 4 < x3 + (rg μ x1 v6) → Q (-2) μ))))) → at_I kR 5 mX10_setClip 66 [vR 0, vI x1, vI x2, vI x3, vU] [vI v6, vI x1, vR 0, vI x3] μ Q := by
                intro v6 h
                obtain ⟨p0, p1, h⟩ := h
                refine s_callV (As := [vI x1, vI v6]) (rest := [vI x3]) (k := 0) dX10_setClip_66 lkX10_126 rn0 ⟨by rw [rk0]; rfl, by rw [rk0]; decide⟩ lmX10_of rfl rfl (Nat.le_of_ble_eq_true rfl) (by decide) (Nat.le_refl 0) (Nat.le_refl 0) (hC := sp_X10_of (Q := fun z m => rg μ x1 v6 = z ∧ μ = m) p0 p1 ⟨rfl, rfl⟩) (fun r n2 S2 m2 hP => ?_)
                obtain ⟨⟨rfl, rfl⟩, z, rfl, rfl, rfl⟩ := hP
                obtain ⟨c, h⟩ := h
                refine s_iadd dX10_setClip_69 (am_w_id c) ?_
                refine s_aload_n dX10_setClip_70 rfl rfl ?_
                refine s_iload_n dX10_setClip_71 rfl rfl ?_
                refine s_iconst dX10_setClip_72 (by decide) ?_
                obtain ⟨p0, p1, h⟩ := h
                refine s_callV (As := [vI x1, vI 4]) (rest := [vI (x3 + (rg μ x1 v6))]) (k := 0) dX10_setClip_73 lkX10_126 rn0 ⟨by rw [rk0]; rfl, by rw [rk0]; decide⟩ lmX10_of rfl rfl (Nat.le_of_ble_eq_true rfl) (by decide) (Nat.le_refl 0) (Nat.le_refl 0) (hC := sp_X10_of (Q := fun z m => rg μ x1 4 = z ∧ μ = m) p0 p1 ⟨rfl, rfl⟩) (fun r n2 S2 m2 hP => ?_)
                obtain ⟨⟨rfl, rfl⟩, z, rfl, rfl, rfl⟩ := hP
                refine s_icmp_le dX10_setClip_76 (tgt := 82) (by decide) (fun cc => ?_) (fun cc => ?_)
                · have h := h.1 cc
                  refine s_aload_n dX10_setClip_82 rfl rfl ?_
                  obtain ⟨P, hcl, h⟩ := h
                  refine s_callV (As := []) (rest := []) (k := 0) dX10_setClip_83 lkX10_107 rn0 ⟨by rw [rk0]; rfl, by rw [rk0]; decide⟩ lmX10_begins rfl rfl (Nat.le_of_ble_eq_true rfl) (by decide) (Nat.le_refl 0) (Nat.le_refl 0) (hC := hcl) (fun r n2 S2 m8 hP => ?_)
                  obtain ⟨⟨rfl, rfl⟩, rfl, hq⟩ := hP
                  have h := h m8 hq
                  refine s_aload_n dX10_setClip_86 rfl rfl ?_
                  refine s_iload_n dX10_setClip_87 rfl rfl ?_
                  refine s_iconst dX10_setClip_88 (by decide) ?_
                  refine s_iload_n dX10_setClip_89 rfl rfl ?_
                  obtain ⟨c, h⟩ := h
                  refine s_iadd dX10_setClip_90 (am_w_id c) ?_
                  obtain ⟨p0, p1, h⟩ := h
                  refine s_callV (As := [vI x1, vI (5 + x2)]) (rest := []) (k := 0) dX10_setClip_91 lkX10_126 rn0 ⟨by rw [rk0]; rfl, by rw [rk0]; decide⟩ lmX10_of rfl rfl (Nat.le_of_ble_eq_true rfl) (by decide) (Nat.le_refl 0) (Nat.le_refl 0) (hC := sp_X10_of (Q := fun z m => rg m8 x1 (5 + x2) = z ∧ m8 = m) p0 p1 ⟨rfl, rfl⟩) (fun r n2 S2 m2 hP => ?_)
                  obtain ⟨⟨rfl, rfl⟩, z, rfl, rfl, rfl⟩ := hP
                  refine s_istore dX10_setClip_94 (by decide) (L' := [vR 0, vI x1, vI x2, vI x3, vI (rg m8 x1 (5 + x2))]) rfl ?_
                  refine s_aload_n dX10_setClip_96 rfl rfl ?_
                  refine s_getR dX10_setClip_97 flX10_9 rn0 rk0 rfl rr0_0 ?_
                  refine s_bipush dX10_setClip_100 (by decide) ?_
                  refine s_bipush dX10_setClip_102 (by decide) ?_
                  refine s_iload_n dX10_setClip_104 rfl rfl ?_
                  obtain ⟨c, h⟩ := h
                  refine s_imul dX10_setClip_105 (am_w_id c) ?_
                  obtain ⟨c, h⟩ := h
                  refine s_iadd dX10_setClip_106 (am_w_id c) ?_
                  refine s_iconst dX10_setClip_107 (by decide) ?_
                  obtain ⟨c, h⟩ := h
                  refine s_iadd dX10_setClip_108 (am_w_id c) ?_
                  refine s_iload_n dX10_setClip_109 rfl rfl ?_
                  obtain ⟨c, h⟩ := h
                  refine s_iadd dX10_setClip_110 (am_w_id c) ?_
                  refine s_iload_n dX10_setClip_111 rfl rfl ?_
                  obtain ⟨c, c2, h⟩ := h
                  obtain ⟨m9, hm9⟩ : ∃ x : am_M, x = am_st m8 1 (am_up (m8 1) (((26 + (8 * x1)) + 5) + x2).toNat x3) := ⟨_, rfl⟩
                  have h := h m9 hm9
                  refine s_iast dX10_setClip_112 rn1 rk1 rl1 c c2 hm9.symm ?_
                  refine s_aload_n dX10_setClip_113 rfl rfl ?_
                  refine s_iload dX10_setClip_114 rfl ?_
                  obtain ⟨P, hcl, h⟩ := h
                  refine s_callV (As := [vI (rg m8 x1 (5 + x2))]) (rest := []) (k := 0) dX10_setClip_116 lkX10_110 rn0 ⟨by rw [rk0]; rfl, by rw [rk0]; decide⟩ lmX10_ends rfl rfl (Nat.le_of_ble_eq_true rfl) (by decide) (Nat.le_refl 0) (Nat.le_refl 0) (hC := hcl) (fun r n2 S2 m11 hP => ?_)
                  obtain ⟨⟨rfl, rfl⟩, z10, rfl, hq⟩ := hP
                  have h := h z10 m11 hq
                  exact s_ireturn dX10_setClip_119 (Or.inl rfl) ⟨⟨rfl, rfl⟩, _, rfl, h⟩
                · have h := h.2 cc
                  refine s_bipush dX10_setClip_79 (by decide) ?_
                  exact s_ireturn dX10_setClip_81 (Or.inl rfl) ⟨⟨rfl, rfl⟩, _, rfl, h⟩
              refine s_icmp_ne dX10_setClip_56 (tgt := 64) (by decide) (fun cc => ?_) (fun cc => ?_)
              · have hp0 := cc
                refine s_bipush dX10_setClip_64 (by decide) ?_
                exact kj12 6 (h 6 (by rw [if_neg hp0]))
              · have hp0 := cc
                refine s_bipush dX10_setClip_59 (by decide) ?_
                refine s_goto dX10_setClip_61 (tgt := 66) (by decide) ?_
                exact kj12 7 (h 7 (by rw [if_pos hp0]))
        · have h := h.2 cc
          refine s_iload_n dX10_setClip_27 rfl rfl ?_
          refine s_sipush dX10_setClip_28 (by decide) ?_
          refine s_icmp_le dX10_setClip_31 (tgt := 37) (by decide) (fun cc => ?_) (fun cc => ?_)
          · have h := h.1 cc
            refine s_iload_n dX10_setClip_37 rfl rfl ?_
            refine s_if_le dX10_setClip_38 (tgt := 82) (by decide) (fun cc => ?_) (fun cc => ?_)
            · have h := h.1 cc
              refine s_aload_n dX10_setClip_82 rfl rfl ?_
              obtain ⟨P, hcl, h⟩ := h
              refine s_callV (As := []) (rest := []) (k := 0) dX10_setClip_83 lkX10_107 rn0 ⟨by rw [rk0]; rfl, by rw [rk0]; decide⟩ lmX10_begins rfl rfl (Nat.le_of_ble_eq_true rfl) (by decide) (Nat.le_refl 0) (Nat.le_refl 0) (hC := hcl) (fun r n2 S2 m14 hP => ?_)
              obtain ⟨⟨rfl, rfl⟩, rfl, hq⟩ := hP
              have h := h m14 hq
              refine s_aload_n dX10_setClip_86 rfl rfl ?_
              refine s_iload_n dX10_setClip_87 rfl rfl ?_
              refine s_iconst dX10_setClip_88 (by decide) ?_
              refine s_iload_n dX10_setClip_89 rfl rfl ?_
              obtain ⟨c, h⟩ := h
              refine s_iadd dX10_setClip_90 (am_w_id c) ?_
              obtain ⟨p0, p1, h⟩ := h
              refine s_callV (As := [vI x1, vI (5 + x2)]) (rest := []) (k := 0) dX10_setClip_91 lkX10_126 rn0 ⟨by rw [rk0]; rfl, by rw [rk0]; decide⟩ lmX10_of rfl rfl (Nat.le_of_ble_eq_true rfl) (by decide) (Nat.le_refl 0) (Nat.le_refl 0) (hC := sp_X10_of (Q := fun z m => rg m14 x1 (5 + x2) = z ∧ m14 = m) p0 p1 ⟨rfl, rfl⟩) (fun r n2 S2 m2 hP => ?_)
              obtain ⟨⟨rfl, rfl⟩, z, rfl, rfl, rfl⟩ := hP
              refine s_istore dX10_setClip_94 (by decide) (L' := [vR 0, vI x1, vI x2, vI x3, vI (rg m14 x1 (5 + x2))]) rfl ?_
              refine s_aload_n dX10_setClip_96 rfl rfl ?_
              refine s_getR dX10_setClip_97 flX10_9 rn0 rk0 rfl rr0_0 ?_
              refine s_bipush dX10_setClip_100 (by decide) ?_
              refine s_bipush dX10_setClip_102 (by decide) ?_
              refine s_iload_n dX10_setClip_104 rfl rfl ?_
              obtain ⟨c, h⟩ := h
              refine s_imul dX10_setClip_105 (am_w_id c) ?_
              obtain ⟨c, h⟩ := h
              refine s_iadd dX10_setClip_106 (am_w_id c) ?_
              refine s_iconst dX10_setClip_107 (by decide) ?_
              obtain ⟨c, h⟩ := h
              refine s_iadd dX10_setClip_108 (am_w_id c) ?_
              refine s_iload_n dX10_setClip_109 rfl rfl ?_
              obtain ⟨c, h⟩ := h
              refine s_iadd dX10_setClip_110 (am_w_id c) ?_
              refine s_iload_n dX10_setClip_111 rfl rfl ?_
              obtain ⟨c, c2, h⟩ := h
              obtain ⟨m15, hm15⟩ : ∃ x : am_M, x = am_st m14 1 (am_up (m14 1) (((26 + (8 * x1)) + 5) + x2).toNat x3) := ⟨_, rfl⟩
              have h := h m15 hm15
              refine s_iast dX10_setClip_112 rn1 rk1 rl1 c c2 hm15.symm ?_
              refine s_aload_n dX10_setClip_113 rfl rfl ?_
              refine s_iload dX10_setClip_114 rfl ?_
              obtain ⟨P, hcl, h⟩ := h
              refine s_callV (As := [vI (rg m14 x1 (5 + x2))]) (rest := []) (k := 0) dX10_setClip_116 lkX10_110 rn0 ⟨by rw [rk0]; rfl, by rw [rk0]; decide⟩ lmX10_ends rfl rfl (Nat.le_of_ble_eq_true rfl) (by decide) (Nat.le_refl 0) (Nat.le_refl 0) (hC := hcl) (fun r n2 S2 m17 hP => ?_)
              obtain ⟨⟨rfl, rfl⟩, z16, rfl, hq⟩ := hP
              have h := h z16 m17 hq
              exact s_ireturn dX10_setClip_119 (Or.inl rfl) ⟨⟨rfl, rfl⟩, _, rfl, h⟩
            · have h := h.2 cc
              refine s_iload_n dX10_setClip_41 rfl rfl ?_
              refine s_aload_n dX10_setClip_42 rfl rfl ?_
              refine s_iload_n dX10_setClip_43 rfl rfl ?_
              refine s_iconst dX10_setClip_44 (by decide) ?_
              obtain ⟨p0, p1, h⟩ := h
              refine s_callV (As := [vI x1, vI 4]) (rest := [vI x3]) (k := 0) dX10_setClip_45 lkX10_126 rn0 ⟨by rw [rk0]; rfl, by rw [rk0]; decide⟩ lmX10_of rfl rfl (Nat.le_of_ble_eq_true rfl) (by decide) (Nat.le_refl 0) (Nat.le_refl 0) (hC := sp_X10_of (Q := fun z m => rg μ x1 4 = z ∧ μ = m) p0 p1 ⟨rfl, rfl⟩) (fun r n2 S2 m2 hP => ?_)
              obtain ⟨⟨rfl, rfl⟩, z, rfl, rfl, rfl⟩ := hP
              refine s_icmp_gt dX10_setClip_48 (tgt := 79) (by decide) (fun cc => ?_) (fun cc => ?_)
              · have h := h.1 cc
                refine s_bipush dX10_setClip_79 (by decide) ?_
                exact s_ireturn dX10_setClip_81 (Or.inl rfl) ⟨⟨rfl, rfl⟩, _, rfl, h⟩
              · have h := h.2 cc
                refine s_iload_n dX10_setClip_51 rfl rfl ?_
                refine s_aload_n dX10_setClip_52 rfl rfl ?_
                refine s_iload_n dX10_setClip_53 rfl rfl ?_
                refine s_iload_n dX10_setClip_54 rfl rfl ?_
                refine s_iconst dX10_setClip_55 (by decide) ?_
                have kj24 : ∀ (v18 : Int), ((in_ 0 48 x1) ∧ (in_ 0 8 v18) ∧ ((am_in (x3 + (rg μ x1 v18))) ∧ ((in_ 0 48 x1) ∧ (in_ 0 8 4) ∧ ((x3 + (rg μ x1 v18) ≤ rg μ x1 4 → ∃ P : am_M → Prop, cl_V kR 2 mX10_begins [vR 0] μ P ∧ (∀ m20 : am_M, P m20 → (am_in (5 + x2)) ∧ ((in_ 0 48 x1) ∧ (in_ 0 8 (5 + x2)) ∧ ((am_in (8 * x1)) ∧ ((am_in (26 + (8 * x1))) ∧ ((am_in ((26 + (8 * x1)) + 5)) ∧ ((am_in (((26 + (8 * x1)) + 5) + x2)) ∧ ((0 ≤ ((26 + (8 * x1)) + 5) + x2) ∧ (((26 + (8 * x1)) + 5) + x2 < 470) ∧ (∀ m21 : am_M, m21 = am_st m20 1 (am_up (m20 1) (((26 + (8 * x1)) + 5) + x2).toNat x3) → ∃ P : Int → am_M → Prop, cl_I kR 3 mX10_ends [vR 0, vI (rg m20 x1 (5 + x2))] m21 P ∧ (∀ (z22 : Int) (m23 : am_M), P z22 m23 → Q z22 m23)))))))))) ∧ (rg μ x1 4 < x3 + (rg μ x1 v18) → Q (-2) μ))))) → at_I kR 5 mX10_setClip 66 [vR 0, vI x1, vI x2, vI x3, vU] [vI v18, vI x1, vR 0, vI x3] μ Q := by
                  intro v18 h
                  obtain ⟨p0, p1, h⟩ := h
                  refine s_callV (As := [vI x1, vI v18]) (rest := [vI x3]) (k := 0) dX10_setClip_66 lkX10_126 rn0 ⟨by rw [rk0]; rfl, by rw [rk0]; decide⟩ lmX10_of rfl rfl (Nat.le_of_ble_eq_true rfl) (by decide) (Nat.le_refl 0) (Nat.le_refl 0) (hC := sp_X10_of (Q := fun z m => rg μ x1 v18 = z ∧ μ = m) p0 p1 ⟨rfl, rfl⟩) (fun r n2 S2 m2 hP => ?_)
                  obtain ⟨⟨rfl, rfl⟩, z, rfl, rfl, rfl⟩ := hP
                  obtain ⟨c, h⟩ := h
                  refine s_iadd dX10_setClip_69 (am_w_id c) ?_
                  refine s_aload_n dX10_setClip_70 rfl rfl ?_
                  refine s_iload_n dX10_setClip_71 rfl rfl ?_
                  refine s_iconst dX10_setClip_72 (by decide) ?_
                  obtain ⟨p0, p1, h⟩ := h
                  refine s_callV (As := [vI x1, vI 4]) (rest := [vI (x3 + (rg μ x1 v18))]) (k := 0) dX10_setClip_73 lkX10_126 rn0 ⟨by rw [rk0]; rfl, by rw [rk0]; decide⟩ lmX10_of rfl rfl (Nat.le_of_ble_eq_true rfl) (by decide) (Nat.le_refl 0) (Nat.le_refl 0) (hC := sp_X10_of (Q := fun z m => rg μ x1 4 = z ∧ μ = m) p0 p1 ⟨rfl, rfl⟩) (fun r n2 S2 m2 hP => ?_)
                  obtain ⟨⟨rfl, rfl⟩, z, rfl, rfl, rfl⟩ := hP
                  refine s_icmp_le dX10_setClip_76 (tgt := 82) (by decide) (fun cc => ?_) (fun cc => ?_)
                  · have h := h.1 cc
                    refine s_aload_n dX10_setClip_82 rfl rfl ?_
                    obtain ⟨P, hcl, h⟩ := h
                    refine s_callV (As := []) (rest := []) (k := 0) dX10_setClip_83 lkX10_107 rn0 ⟨by rw [rk0]; rfl, by rw [rk0]; decide⟩ lmX10_begins rfl rfl (Nat.le_of_ble_eq_true rfl) (by decide) (Nat.le_refl 0) (Nat.le_refl 0) (hC := hcl) (fun r n2 S2 m20 hP => ?_)
                    obtain ⟨⟨rfl, rfl⟩, rfl, hq⟩ := hP
                    have h := h m20 hq
                    refine s_aload_n dX10_setClip_86 rfl rfl ?_
                    refine s_iload_n dX10_setClip_87 rfl rfl ?_
                    refine s_iconst dX10_setClip_88 (by decide) ?_
                    refine s_iload_n dX10_setClip_89 rfl rfl ?_
                    obtain ⟨c, h⟩ := h
                    refine s_iadd dX10_setClip_90 (am_w_id c) ?_
                    obtain ⟨p0, p1, h⟩ := h
                    refine s_callV (As := [vI x1, vI (5 + x2)]) (rest := []) (k := 0) dX10_setClip_91 lkX10_126 rn0 ⟨by rw [rk0]; rfl, by rw [rk0]; decide⟩ lmX10_of rfl rfl (Nat.le_of_ble_eq_true rfl) (by decide) (Nat.le_refl 0) (Nat.le_refl 0) (hC := sp_X10_of (Q := fun z m => rg m20 x1 (5 + x2) = z ∧ m20 = m) p0 p1 ⟨rfl, rfl⟩) (fun r n2 S2 m2 hP => ?_)
                    obtain ⟨⟨rfl, rfl⟩, z, rfl, rfl, rfl⟩ := hP
                    refine s_istore dX10_setClip_94 (by decide) (L' := [vR 0, vI x1, vI x2, vI x3, vI (rg m20 x1 (5 + x2))]) rfl ?_
                    refine s_aload_n dX10_setClip_96 rfl rfl ?_
                    refine s_getR dX10_setClip_97 flX10_9 rn0 rk0 rfl rr0_0 ?_
                    refine s_bipush dX10_setClip_100 (by decide) ?_
                    refine s_bipush dX10_setClip_102 (by decide) ?_
                    refine s_iload_n dX10_setClip_104 rfl rfl ?_
                    obtain ⟨c, h⟩ := h
                    refine s_imul dX10_setClip_105 (am_w_id c) ?_
                    obtain ⟨c, h⟩ := h
                    refine s_iadd dX10_setClip_106 (am_w_id c) ?_
                    refine s_iconst dX10_setClip_107 (by decide) ?_
                    obtain ⟨c, h⟩ := h
                    refine s_iadd dX10_setClip_108 (am_w_id c) ?_
                    refine s_iload_n dX10_setClip_109 rfl rfl ?_
                    obtain ⟨c, h⟩ := h
                    refine s_iadd dX10_setClip_110 (am_w_id c) ?_
                    refine s_iload_n dX10_setClip_111 rfl rfl ?_
                    obtain ⟨c, c2, h⟩ := h
                    obtain ⟨m21, hm21⟩ : ∃ x : am_M, x = am_st m20 1 (am_up (m20 1) (((26 + (8 * x1)) + 5) + x2).toNat x3) := ⟨_, rfl⟩
                    have h := h m21 hm21
                    refine s_iast dX10_setClip_112 rn1 rk1 rl1 c c2 hm21.symm ?_
                    refine s_aload_n dX10_setClip_113 rfl rfl ?_
                    refine s_iload dX10_setClip_114 rfl ?_
                    obtain ⟨P, hcl, h⟩ := h
                    refine s_callV (As := [vI (rg m20 x1 (5 + x2))]) (rest := []) (k := 0) dX10_setClip_116 lkX10_110 rn0 ⟨by rw [rk0]; rfl, by rw [rk0]; decide⟩ lmX10_ends rfl rfl (Nat.le_of_ble_eq_true rfl) (by decide) (Nat.le_refl 0) (Nat.le_refl 0) (hC := hcl) (fun r n2 S2 m23 hP => ?_)
                    obtain ⟨⟨rfl, rfl⟩, z22, rfl, hq⟩ := hP
                    have h := h z22 m23 hq
                    exact s_ireturn dX10_setClip_119 (Or.inl rfl) ⟨⟨rfl, rfl⟩, _, rfl, h⟩
                  · have h := h.2 cc
                    refine s_bipush dX10_setClip_79 (by decide) ?_
                    exact s_ireturn dX10_setClip_81 (Or.inl rfl) ⟨⟨rfl, rfl⟩, _, rfl, h⟩
                refine s_icmp_ne dX10_setClip_56 (tgt := 64) (by decide) (fun cc => ?_) (fun cc => ?_)
                · have hp0 := cc
                  refine s_bipush dX10_setClip_64 (by decide) ?_
                  exact kj24 6 (h 6 (by rw [if_neg hp0]))
                · have hp0 := cc
                  refine s_bipush dX10_setClip_59 (by decide) ?_
                  refine s_goto dX10_setClip_61 (tgt := 66) (by decide) ?_
                  exact kj24 7 (h 7 (by rw [if_pos hp0]))
          · have h := h.2 cc
            refine s_bipush dX10_setClip_34 (by decide) ?_
            exact s_ireturn dX10_setClip_36 (Or.inl rfl) ⟨⟨rfl, rfl⟩, _, rfl, h⟩
  · have h := h.2 (bI_eq cc)
    refine s_iconst dX10_setClip_8 (by decide) ?_
    exact s_ireturn dX10_setClip_9 (Or.inl rfl) ⟨⟨rfl, rfl⟩, _, rfl, h⟩
theorem ve_X10_setClip {x1 x2 x3 : Int} {μ : am_M} {Q : Int → am_M → Prop} (h : at_I kR 5 mX10_setClip 0 [vR 0, vI x1, vI x2, vI x3, vU] [] μ Q) : cl_I kR 5 mX10_setClip [vR 0, vI x1, vI x2, vI x3] μ Q := am_intro pmX10_setClip (Nat.le_of_ble_eq_true rfl) rfl h
theorem sp_X10_setClip {K : Int} {μ : am_M} {c w v : Int} (hI : RI K μ) (hK : K < 99999) : cl_I kR 5 mX10_setClip [vR 0, vI c, vI w, vI v] μ (fun z m => rn_ [] μ m z (o_cset (pR μ) c w v)) := by
  have hV := hI.1
  have ht := trL hV
  have hn := ht.1
  have h25 := vR_n hV
  unfold o_cset l_set
  refine ve_X10_setClip (vc_X10_setClip_0 ⟨(by (try unfold am_in); (try unfold in_ at *); omega), fun q => ?_, fun q => rn_no hV rm_rf rfl (by omega) ?_⟩)
  · obtain ⟨A, r, B, e, hc, hg, o, vv, hll, -, h24⟩ := cl_at hV q.1 q.2
    rw [cif_f (by omega), hg]
    have o2 := o
    unfold okC in_ at o2
    have bad : (w < 0 ∨ 2 < w ∨ v < 0 ∨ (w = 0 ∧ 200 < v) ∨ (w = 1 ∧ r 4 - r 7 < v) ∨ (w = 2 ∧ r 4 - r 6 < v)) → rn_ [] μ μ (-2) (o_L (pR μ) (cif (w < 0 ∨ 2 < w ∨ v < 0 ∨ (w = 0 ∧ 200 < v) ∨ (w = 1 ∧ r 4 - r 7 < v) ∨ (w = 2 ∧ r 4 - r 6 < v)) (-2, pL (pR μ)) (r (5 + w), (pL (pR μ)).set c.toNat (fun k => if k = 5 + w then v else r k)))) := fun h => rn_no hV rm_rf rfl (by omega) (by rw [cif_t h]; rfl)
    have good : ¬ (w < 0 ∨ 2 < w ∨ v < 0 ∨ (w = 0 ∧ 200 < v) ∨ (w = 1 ∧ r 4 - r 7 < v) ∨ (w = 2 ∧ r 4 - r 6 < v)) → ∃ P : am_M → Prop, cl_V kR 2 mX10_begins [vR 0] μ P ∧ (∀ m2 : am_M, P m2 → (am_in (5 + w)) ∧ ((in_ 0 48 c) ∧ (in_ 0 8 (5 + w)) ∧ ((am_in (8 * c)) ∧ ((am_in (26 + (8 * c))) ∧ ((am_in ((26 + (8 * c)) + 5)) ∧ ((am_in (((26 + (8 * c)) + 5) + w)) ∧ ((0 ≤ ((26 + (8 * c)) + 5) + w) ∧ (((26 + (8 * c)) + 5) + w < 470) ∧ (∀ m3 : am_M, m3 = am_st m2 1 (am_up (m2 1) (((26 + (8 * c)) + 5) + w).toNat v) → ∃ P : Int → am_M → Prop, cl_I kR 3 mX10_ends [vR 0, vI (rg m2 c (5 + w))] m3 P ∧ (∀ (z4 : Int) (m5 : am_M), P z4 m5 → rn_ [] μ m5 z4 (o_L (pR μ) (cif (w < 0 ∨ 2 < w ∨ v < 0 ∨ (w = 0 ∧ 200 < v) ∨ (w = 1 ∧ r 4 - r 7 < v) ∨ (w = 2 ∧ r 4 - r 6 < v)) (-2, pL (pR μ)) (r (5 + w), (pL (pR μ)).set c.toNat (fun k => if k = 5 + w then v else r k))))))))))))) := fun h => by
      refine ⟨_, sp_X10_begins, fun m2 ⟨f2, e2⟩ => ?_⟩
      have b2 : bg_ [] μ m2 := bg_of rm_rf rfl f2 e2
      have ht2 : tr_ m2 (A ++ r :: B) := by rw [← e]; exact tr_r1 (f2 1 (by decide)) ht
      refine ⟨(by (try unfold am_in); (try unfold in_ at *); omega), (by (try unfold am_in); (try unfold in_ at *); omega), (by (try unfold am_in); (try unfold in_ at *); omega), (by (try unfold am_in); (try unfold in_ at *); omega), (by (try unfold am_in); (try unfold in_ at *); omega), (by (try unfold am_in); (try unfold in_ at *); omega), (by (try unfold am_in); (try unfold in_ at *); omega), by omega, by omega, fun m3 e3 => ?_⟩
      have rw5 : rg m2 c (5 + w) = r (5 + w) := tr_at ht2 hc (by omega) (by omega)
      rw [rw5, cif_f h, e, set_at hc]
      rw [show ((26 + (8 * c)) + 5) + w = (26 + (8 * c)) + (5 + w) by omega] at e3
      obtain ⟨u1, u2, u3⟩ := tr_up (s := fun k => if k = 5 + w then v else r k) ht2 hc (by rw [← e]; omega) (by omega) (by omega) e3 (fun k k0 k1 => rfl)
      have vv : fv_ μ m3 := fv_tr (fv_e (f2 1 (by decide))) u2
      have r0 : 0 ≤ r (5 + w) := by
        have : w = 0 ∨ w = 1 ∨ w = 2 := by omega
        rcases this with rfl | rfl | rfl
        · show 0 ≤ r 5; omega
        · show 0 ≤ r 6; omega
        · show 0 ≤ r 7; omega
      exact rn_ok hI hK (by simp) (bg_fr b2 u1 (by decide) (by decide)) (peL hV u3 vv) (hz_0 (hz_fv vv hV.1.hl (hzL hV))) r0 rfl
    rw [vv 4 (by omega) (by omega)]
    have late : ∀ v6 : Int, 0 < w → w ≤ 2 → 0 ≤ v → v6 = (if w = 1 then 7 else 6) → rg μ c v6 = (if w = 1 then r 7 else r 6) ∧ in_ 0 8 v6 := fun v6 w0 w2 v0 h6 => by
      rw [h6]
      by_cases q1 : w = 1
      · rw [if_pos q1, if_pos q1]; exact ⟨vv 7 (by omega) (by omega), (by (try unfold am_in); (try unfold in_ at *); omega)⟩
      · rw [if_neg q1, if_neg q1]; exact ⟨vv 6 (by omega) (by omega), (by (try unfold am_in); (try unfold in_ at *); omega)⟩
    refine ⟨fun a => bad (by omega), fun a => ⟨fun b => bad (by omega), fun b => ⟨fun n0 => ⟨fun d => by omega, fun d => ⟨(by (try unfold am_in); (try unfold in_ at *); omega), (by (try unfold am_in); (try unfold in_ at *); omega), fun f => bad (by omega), fun f v6 h6 => ?_⟩⟩, fun n0 => ⟨fun d => ⟨fun _ => good (by omega), fun f => by omega⟩, fun d => bad (by omega)⟩⟩⟩⟩
    obtain ⟨l1, l2⟩ := late v6 d (by omega) b h6
    rw [l1]
    refine ⟨(by (try unfold am_in); (try unfold in_ at *); omega), l2, by split <;> ((try unfold am_in); (try unfold in_ at *); omega), (by (try unfold am_in); (try unfold in_ at *); omega), (by (try unfold am_in); (try unfold in_ at *); omega), fun g => good ?_, fun g => bad ?_⟩
    · intro h
      by_cases q1 : w = 1
      · rw [if_pos q1] at g; omega
      · rw [if_neg q1] at g; omega
    · by_cases q1 : w = 1
      · rw [if_pos q1] at g; omega
      · rw [if_neg q1] at g; omega
  · rw [cif_t (by omega)]
    rfl
theorem vc_X10_moveClip_0 {x1 x2 x3 : Int} {μ : am_M} {Q : Int → am_M → Prop} (h : (in_ 0 49 (μ 1 25)) ∧ ((¬ (0 ≤ x1 ∧ x1 < μ 1 25) → Q (-1) μ) ∧ (0 ≤ x1 ∧ x1 < μ 1 25 → (0 ≤ x2 ∧ x2 < 4 → (in_ 0 48 x1) ∧ (in_ 0 8 4) ∧ ((am_in (600 - (rg μ x1 4))) ∧ ((0 ≤ x3 ∧ x3 ≤ (600 - (rg μ x1 4)) → ∃ P : am_M → Prop, cl_V kR 2 mX10_takes [vR 0, vI x1] μ P ∧ (∀ m2 : am_M, P m2 → ∀ m3 : am_M, m3 = am_st m2 14 (am_up (m2 14) 0 x2) → ∀ m4 : am_M, m4 = am_st m3 14 (am_up (m3 14) 1 x3) → (ok_T (rg m4) (m4 1 25)) ∧ (am_in (m4 14 1 + m4 14 4)) ∧ ((¬ (¬ fre_ (rg m4) (m4 1 25) (m4 14 0) (m4 14 1) (m4 14 4) x1) → ∃ P : am_M → Prop, cl_V kR 2 mX10_begins [vR 0] m4 P ∧ (∀ m6 : am_M, P m6 → ∃ P : am_M → Prop, cl_V kR 1 mX10_drops [vR 0, vI x1] m6 P ∧ (∀ m8 : am_M, P m8 → ∃ P : Int → am_M → Prop, cl_I kR 2 mX10_lays [vR 0] m8 P ∧ (∀ (z9 : Int) (m10 : am_M), P z9 m10 → ∃ P : Int → am_M → Prop, cl_I kR 3 mX10_ends [vR 0, vI z9] m10 P ∧ (∀ (z11 : Int) (m12 : am_M), P z11 m12 → Q z11 m12))))) ∧ (¬ fre_ (rg m4) (m4 1 25) (m4 14 0) (m4 14 1) (m4 14 4) x1 → Q (-4) m4)))) ∧ (¬ (0 ≤ x3 ∧ x3 ≤ (600 - (rg μ x1 4))) → Q (-2) μ)))) ∧ (¬ (0 ≤ x2 ∧ x2 < 4) → Q (-1) μ)))) : at_I kR 5 mX10_moveClip 0 [vR 0, vI x1, vI x2, vI x3] [] μ Q := by
  refine s_aload_n dX10_moveClip_0 rfl rfl ?_
  refine s_iload_n dX10_moveClip_1 rfl rfl ?_
  obtain ⟨p0, h⟩ := h
  refine s_callV (As := [vI x1]) (rest := []) (k := 0) dX10_moveClip_2 lkX10_165 rn0 ⟨by rw [rk0]; rfl, by rw [rk0]; decide⟩ lmX10_isClip rfl rfl (Nat.le_of_ble_eq_true rfl) (by decide) (Nat.le_refl 0) (Nat.le_refl 0) (hC := sp_X10_isClip (Q := fun z m => bI (0 ≤ x1 ∧ x1 < μ 1 25) = z ∧ μ = m) p0 ⟨rfl, rfl⟩) (fun r n2 S2 m2 hP => ?_)
  obtain ⟨⟨rfl, rfl⟩, z, rfl, rfl, rfl⟩ := hP
  refine s_if_eq dX10_moveClip_5 (tgt := 15) (by decide) (fun cc => ?_) (fun cc => ?_)
  · have h := h.1 (bI_eq cc)
    refine s_iconst dX10_moveClip_15 (by decide) ?_
    exact s_ireturn dX10_moveClip_16 (Or.inl rfl) ⟨⟨rfl, rfl⟩, _, rfl, h⟩
  · have h := h.2 (bI_ne cc)
    refine s_iload_n dX10_moveClip_8 rfl rfl ?_
    refine s_callS (As := [vI x2]) (rest := []) dX10_moveClip_9 lkX10_133 lmX10_isTrack rfl rfl (Nat.le_of_ble_eq_true rfl) (by decide) (Nat.le_refl 0) (Nat.le_refl 0) (hC := sp_X10_isTrack (Q := fun z m => bI (0 ≤ x2 ∧ x2 < 4) = z ∧ μ = m)  ⟨rfl, rfl⟩) (fun r n2 S2 m2 hP => ?_)
    obtain ⟨⟨rfl, rfl⟩, z, rfl, rfl, rfl⟩ := hP
    refine s_if_ne dX10_moveClip_12 (tgt := 17) (by decide) (fun cc => ?_) (fun cc => ?_)
    · have h := h.1 (bI_ne cc)
      refine s_iload_n dX10_moveClip_17 rfl rfl ?_
      refine s_iconst dX10_moveClip_18 (by decide) ?_
      refine s_sipush dX10_moveClip_19 (by decide) ?_
      refine s_aload_n dX10_moveClip_22 rfl rfl ?_
      refine s_iload_n dX10_moveClip_23 rfl rfl ?_
      refine s_iconst dX10_moveClip_24 (by decide) ?_
      obtain ⟨p0, p1, h⟩ := h
      refine s_callV (As := [vI x1, vI 4]) (rest := [vI 600, vI 0, vI x3]) (k := 0) dX10_moveClip_25 lkX10_126 rn0 ⟨by rw [rk0]; rfl, by rw [rk0]; decide⟩ lmX10_of rfl rfl (Nat.le_of_ble_eq_true rfl) (by decide) (Nat.le_refl 0) (Nat.le_refl 0) (hC := sp_X10_of (Q := fun z m => rg μ x1 4 = z ∧ μ = m) p0 p1 ⟨rfl, rfl⟩) (fun r n2 S2 m2 hP => ?_)
      obtain ⟨⟨rfl, rfl⟩, z, rfl, rfl, rfl⟩ := hP
      obtain ⟨c, h⟩ := h
      refine s_isub dX10_moveClip_28 (am_w_id c) ?_
      refine s_callS (As := [vI x3, vI 0, vI (600 - (rg μ x1 4))]) (rest := []) dX10_moveClip_29 lkX10_103 lmX10_isIn rfl rfl (Nat.le_of_ble_eq_true rfl) (by decide) (Nat.le_refl 0) (Nat.le_refl 0) (hC := sp_X10_isIn (Q := fun z m => bI (0 ≤ x3 ∧ x3 ≤ (600 - (rg μ x1 4))) = z ∧ μ = m)  ⟨rfl, rfl⟩) (fun r n2 S2 m2 hP => ?_)
      obtain ⟨⟨rfl, rfl⟩, z, rfl, rfl, rfl⟩ := hP
      refine s_if_ne dX10_moveClip_32 (tgt := 38) (by decide) (fun cc => ?_) (fun cc => ?_)
      · have h := h.1 (bI_ne cc)
        refine s_aload_n dX10_moveClip_38 rfl rfl ?_
        refine s_iload_n dX10_moveClip_39 rfl rfl ?_
        obtain ⟨P, hcl, h⟩ := h
        refine s_callV (As := [vI x1]) (rest := []) (k := 0) dX10_moveClip_40 lkX10_168 rn0 ⟨by rw [rk0]; rfl, by rw [rk0]; decide⟩ lmX10_takes rfl rfl (Nat.le_of_ble_eq_true rfl) (by decide) (Nat.le_refl 0) (Nat.le_refl 0) (hC := hcl) (fun r n2 S2 m2 hP => ?_)
        obtain ⟨⟨rfl, rfl⟩, rfl, hq⟩ := hP
        have h := h m2 hq
        refine s_aload_n dX10_moveClip_43 rfl rfl ?_
        refine s_getR dX10_moveClip_44 flX10_50 rn0 rk0 rfl rr0_18 ?_
        refine s_iconst dX10_moveClip_47 (by decide) ?_
        refine s_iload_n dX10_moveClip_48 rfl rfl ?_
        obtain ⟨m3, hm3⟩ : ∃ x : am_M, x = am_st m2 14 (am_up (m2 14) 0 x2) := ⟨_, rfl⟩
        have h := h m3 hm3
        refine s_iast dX10_moveClip_49 rn14 rk14 rl14 (by decide) (by decide) hm3.symm ?_
        refine s_aload_n dX10_moveClip_50 rfl rfl ?_
        refine s_getR dX10_moveClip_51 flX10_50 rn0 rk0 rfl rr0_18 ?_
        refine s_iconst dX10_moveClip_54 (by decide) ?_
        refine s_iload_n dX10_moveClip_55 rfl rfl ?_
        obtain ⟨m4, hm4⟩ : ∃ x : am_M, x = am_st m3 14 (am_up (m3 14) 1 x3) := ⟨_, rfl⟩
        have h := h m4 hm4
        refine s_iast dX10_moveClip_56 rn14 rk14 rl14 (by decide) (by decide) hm4.symm ?_
        refine s_aload_n dX10_moveClip_57 rfl rfl ?_
        refine s_iload_n dX10_moveClip_58 rfl rfl ?_
        obtain ⟨p0, p1, h⟩ := h
        refine s_callV (As := [vI x1]) (rest := []) (k := 0) dX10_moveClip_59 lkX10_159 rn0 ⟨by rw [rk0]; rfl, by rw [rk0]; decide⟩ lmX10_isShared rfl rfl (Nat.le_of_ble_eq_true rfl) (by decide) (Nat.le_refl 0) (Nat.le_refl 0) (hC := sp_X10_isShared (Q := fun z m => bI (¬ fre_ (rg m4) (m4 1 25) (m4 14 0) (m4 14 1) (m4 14 4) x1) = z ∧ m4 = m) p0 p1 ⟨rfl, rfl⟩) (fun r n2 S2 m2 hP => ?_)
        obtain ⟨⟨rfl, rfl⟩, z, rfl, rfl, rfl⟩ := hP
        refine s_if_eq dX10_moveClip_62 (tgt := 68) (by decide) (fun cc => ?_) (fun cc => ?_)
        · have h := h.1 (bI_eq cc)
          refine s_aload_n dX10_moveClip_68 rfl rfl ?_
          obtain ⟨P, hcl, h⟩ := h
          refine s_callV (As := []) (rest := []) (k := 0) dX10_moveClip_69 lkX10_107 rn0 ⟨by rw [rk0]; rfl, by rw [rk0]; decide⟩ lmX10_begins rfl rfl (Nat.le_of_ble_eq_true rfl) (by decide) (Nat.le_refl 0) (Nat.le_refl 0) (hC := hcl) (fun r n2 S2 m6 hP => ?_)
          obtain ⟨⟨rfl, rfl⟩, rfl, hq⟩ := hP
          have h := h m6 hq
          refine s_aload_n dX10_moveClip_72 rfl rfl ?_
          refine s_iload_n dX10_moveClip_73 rfl rfl ?_
          obtain ⟨P, hcl, h⟩ := h
          refine s_callV (As := [vI x1]) (rest := []) (k := 0) dX10_moveClip_74 lkX10_172 rn0 ⟨by rw [rk0]; rfl, by rw [rk0]; decide⟩ lmX10_drops rfl rfl (Nat.le_of_ble_eq_true rfl) (by decide) (Nat.le_refl 0) (Nat.le_refl 0) (hC := hcl) (fun r n2 S2 m8 hP => ?_)
          obtain ⟨⟨rfl, rfl⟩, rfl, hq⟩ := hP
          have h := h m8 hq
          refine s_aload_n dX10_moveClip_77 rfl rfl ?_
          refine s_aload_n dX10_moveClip_78 rfl rfl ?_
          obtain ⟨P, hcl, h⟩ := h
          refine s_callV (As := []) (rest := [vR 0]) (k := 0) dX10_moveClip_79 lkX10_162 rn0 ⟨by rw [rk0]; rfl, by rw [rk0]; decide⟩ lmX10_lays rfl rfl (Nat.le_of_ble_eq_true rfl) (by decide) (Nat.le_refl 0) (Nat.le_refl 0) (hC := hcl) (fun r n2 S2 m10 hP => ?_)
          obtain ⟨⟨rfl, rfl⟩, z9, rfl, hq⟩ := hP
          have h := h z9 m10 hq
          obtain ⟨P, hcl, h⟩ := h
          refine s_callV (As := [vI z9]) (rest := []) (k := 0) dX10_moveClip_82 lkX10_110 rn0 ⟨by rw [rk0]; rfl, by rw [rk0]; decide⟩ lmX10_ends rfl rfl (Nat.le_of_ble_eq_true rfl) (by decide) (Nat.le_refl 0) (Nat.le_refl 0) (hC := hcl) (fun r n2 S2 m12 hP => ?_)
          obtain ⟨⟨rfl, rfl⟩, z11, rfl, hq⟩ := hP
          have h := h z11 m12 hq
          exact s_ireturn dX10_moveClip_85 (Or.inl rfl) ⟨⟨rfl, rfl⟩, _, rfl, h⟩
        · have h := h.2 (bI_ne cc)
          refine s_bipush dX10_moveClip_65 (by decide) ?_
          exact s_ireturn dX10_moveClip_67 (Or.inl rfl) ⟨⟨rfl, rfl⟩, _, rfl, h⟩
      · have h := h.2 (bI_eq cc)
        refine s_bipush dX10_moveClip_35 (by decide) ?_
        exact s_ireturn dX10_moveClip_37 (Or.inl rfl) ⟨⟨rfl, rfl⟩, _, rfl, h⟩
    · have h := h.2 (bI_eq cc)
      refine s_iconst dX10_moveClip_15 (by decide) ?_
      exact s_ireturn dX10_moveClip_16 (Or.inl rfl) ⟨⟨rfl, rfl⟩, _, rfl, h⟩
theorem ve_X10_moveClip {x1 x2 x3 : Int} {μ : am_M} {Q : Int → am_M → Prop} (h : at_I kR 5 mX10_moveClip 0 [vR 0, vI x1, vI x2, vI x3] [] μ Q) : cl_I kR 5 mX10_moveClip [vR 0, vI x1, vI x2, vI x3] μ Q := am_intro pmX10_moveClip (Nat.le_of_ble_eq_true rfl) rfl h
theorem sp_X10_moveClip {K : Int} {μ : am_M} {c t s : Int} (hI : RI K μ) (hK : K < 99999) : cl_I kR 5 mX10_moveClip [vR 0, vI c, vI t, vI s] μ (fun z m => rn_ [] μ m z (o_mov (pR μ) c t s)) := by
  have hV := hI.1
  have ht := trL hV
  have hn := ht.1
  have h25 := vR_n hV
  unfold o_mov l_mov
  refine ve_X10_moveClip (vc_X10_moveClip_0 ⟨(by (try unfold am_in); (try unfold in_ at *); omega), fun q => rn_no hV rm_rf rfl (by omega) ?_, fun q => ⟨fun q2 => ?_, fun q2 => rn_no hV rm_rf rfl (by omega) ?_⟩⟩)
  · rw [cif_t (by omega)]; rfl
  · obtain ⟨A, r, B, e, hc, hg, o, vv, hll, -, h24⟩ := cl_at hV q.1 q.2
    rw [cif_f (by omega), hg, vv 4 (by omega) (by omega)]
    have o2 := o
    unfold okC in_ at o2
    have ht' := ht
    rw [e] at ht'
    have eE : (pL (pR μ)).eraseIdx c.toNat = A ++ B := by rw [e]; exact er_at hc
    rw [eE]
    refine ⟨(by (try unfold am_in); (try unfold in_ at *); omega), (by (try unfold am_in); (try unfold in_ at *); omega), (by (try unfold am_in); (try unfold in_ at *); omega), fun q3 => ?_, fun q3 => rn_no hV rm_rf rfl (by omega) (by rw [cif_t (by omega)]; rfl)⟩
    rw [cif_f (p := s < 0 ∨ 600 - r 4 < s) (by omega)]
    refine ⟨_, sp_X10_takes (by (try unfold am_in); (try unfold in_ at *); omega), fun m2 ⟨f2, e2⟩ m3 e3 m4 e4 => ?_⟩
    obtain ⟨em4, f34⟩ := em_mv (fun k k0 k1 => (e2 k k0 k1).trans (vv k k0 k1)) e3 e4
    have f4 := fr_tr f2 f34
    have p4 := f4 1 (by decide)
    obtain ⟨y0, y1, -, -, y4, -⟩ := em_0 em4
    have hf := fre_Lx (r := mvR r t s) ht' hc
    rw [rg_1 p4, p4, y0, y1, y4]
    have z4 : mvR r t s 4 = r 4 := by simp [mvR]
    have z1 : mvR r t s 1 = s := by simp [mvR]
    refine ⟨vR_ok hV, by rw [z1, z4]; ((try unfold am_in); (try unfold in_ at *); omega), fun g => ?_, fun g => rn_no hV (rm_fr f4 (by decide)) p4 (by omega) ?_⟩
    · have g' : freR (A ++ B) (mvR r t s) := hf.mp (Classical.byContradiction g)
      rw [cif_f (fun w => w g')]
      refine ⟨_, sp_X10_begins, fun m6 ⟨f6, e6⟩ => ?_⟩
      have b6 : bg_ [] μ m6 := bg_of (rm_fr f4 (by decide)) p4 f6 e6
      have p6 : m6 1 = μ 1 := (f6 1 (by decide)).trans p4
      refine ⟨_, sp_X10_drops (tr_r1 p6 ht') hc (by rw [← e]; omega), fun m8 ⟨f8, v8, t8⟩ => ?_⟩
      refine ⟨_, sp_X10_lays t8 (em_fr f8 (by decide) (em_fr f6 (by decide) em4)) (by simp; omega), fun z9 m10 ⟨hz, f10, v10, t10⟩ => ?_⟩
      have w : fv_ μ m10 := fv_tr (fv_tr (fv_e p6) v8) v10
      have zi : 0 ≤ z9 := by rw [hz]; unfold insN; omega
      exact rn_ok hI hK (by simp) (bg_fr (bg_fr b6 f8 (by decide) (by decide)) f10 (by decide) (by decide)) (peL hV t10 w) (hz_0 (hz_fv w hV.1.hl (hzL hV))) zi hz
    · rw [cif_t (fun w => g (hf.mpr w))]; rfl
  · rw [cif_t (by omega)]; rfl
theorem vc_X10_copyClip_0 {x1 x2 x3 : Int} {μ : am_M} {Q : Int → am_M → Prop} (h : (in_ 0 49 (μ 1 25)) ∧ ((¬ (0 ≤ x1 ∧ x1 < μ 1 25) → Q (-1) μ) ∧ (0 ≤ x1 ∧ x1 < μ 1 25 → (0 ≤ x2 ∧ x2 < 4 → (in_ 0 48 x1) ∧ (in_ 0 8 4) ∧ ((am_in (600 - (rg μ x1 4))) ∧ ((0 ≤ x3 ∧ x3 ≤ (600 - (rg μ x1 4)) → (μ 1 25 ≠ 24 → ∃ P : am_M → Prop, cl_V kR 2 mX10_takes [vR 0, vI x1] μ P ∧ (∀ m2 : am_M, P m2 → ∀ m3 : am_M, m3 = am_st m2 14 (am_up (m2 14) 0 x2) → ∀ m4 : am_M, m4 = am_st m3 14 (am_up (m3 14) 1 x3) → (ok_T (rg m4) (m4 1 25)) ∧ (am_in (m4 14 1 + m4 14 4)) ∧ ((¬ (¬ fre_ (rg m4) (m4 1 25) (m4 14 0) (m4 14 1) (m4 14 4) (-1)) → ∃ P : am_M → Prop, cl_V kR 2 mX10_begins [vR 0] m4 P ∧ (∀ m6 : am_M, P m6 → ∃ P : Int → am_M → Prop, cl_I kR 2 mX10_lays [vR 0] m6 P ∧ (∀ (z7 : Int) (m8 : am_M), P z7 m8 → ∃ P : Int → am_M → Prop, cl_I kR 3 mX10_ends [vR 0, vI z7] m8 P ∧ (∀ (z9 : Int) (m10 : am_M), P z9 m10 → Q z9 m10)))) ∧ (¬ fre_ (rg m4) (m4 1 25) (m4 14 0) (m4 14 1) (m4 14 4) (-1) → Q (-4) m4)))) ∧ (μ 1 25 = 24 → Q (-3) μ)) ∧ (¬ (0 ≤ x3 ∧ x3 ≤ (600 - (rg μ x1 4))) → Q (-2) μ)))) ∧ (¬ (0 ≤ x2 ∧ x2 < 4) → Q (-1) μ)))) : at_I kR 5 mX10_copyClip 0 [vR 0, vI x1, vI x2, vI x3] [] μ Q := by
  refine s_aload_n dX10_copyClip_0 rfl rfl ?_
  refine s_iload_n dX10_copyClip_1 rfl rfl ?_
  obtain ⟨p0, h⟩ := h
  refine s_callV (As := [vI x1]) (rest := []) (k := 0) dX10_copyClip_2 lkX10_165 rn0 ⟨by rw [rk0]; rfl, by rw [rk0]; decide⟩ lmX10_isClip rfl rfl (Nat.le_of_ble_eq_true rfl) (by decide) (Nat.le_refl 0) (Nat.le_refl 0) (hC := sp_X10_isClip (Q := fun z m => bI (0 ≤ x1 ∧ x1 < μ 1 25) = z ∧ μ = m) p0 ⟨rfl, rfl⟩) (fun r n2 S2 m2 hP => ?_)
  obtain ⟨⟨rfl, rfl⟩, z, rfl, rfl, rfl⟩ := hP
  refine s_if_eq dX10_copyClip_5 (tgt := 15) (by decide) (fun cc => ?_) (fun cc => ?_)
  · have h := h.1 (bI_eq cc)
    refine s_iconst dX10_copyClip_15 (by decide) ?_
    exact s_ireturn dX10_copyClip_16 (Or.inl rfl) ⟨⟨rfl, rfl⟩, _, rfl, h⟩
  · have h := h.2 (bI_ne cc)
    refine s_iload_n dX10_copyClip_8 rfl rfl ?_
    refine s_callS (As := [vI x2]) (rest := []) dX10_copyClip_9 lkX10_133 lmX10_isTrack rfl rfl (Nat.le_of_ble_eq_true rfl) (by decide) (Nat.le_refl 0) (Nat.le_refl 0) (hC := sp_X10_isTrack (Q := fun z m => bI (0 ≤ x2 ∧ x2 < 4) = z ∧ μ = m)  ⟨rfl, rfl⟩) (fun r n2 S2 m2 hP => ?_)
    obtain ⟨⟨rfl, rfl⟩, z, rfl, rfl, rfl⟩ := hP
    refine s_if_ne dX10_copyClip_12 (tgt := 17) (by decide) (fun cc => ?_) (fun cc => ?_)
    · have h := h.1 (bI_ne cc)
      refine s_iload_n dX10_copyClip_17 rfl rfl ?_
      refine s_iconst dX10_copyClip_18 (by decide) ?_
      refine s_sipush dX10_copyClip_19 (by decide) ?_
      refine s_aload_n dX10_copyClip_22 rfl rfl ?_
      refine s_iload_n dX10_copyClip_23 rfl rfl ?_
      refine s_iconst dX10_copyClip_24 (by decide) ?_
      obtain ⟨p0, p1, h⟩ := h
      refine s_callV (As := [vI x1, vI 4]) (rest := [vI 600, vI 0, vI x3]) (k := 0) dX10_copyClip_25 lkX10_126 rn0 ⟨by rw [rk0]; rfl, by rw [rk0]; decide⟩ lmX10_of rfl rfl (Nat.le_of_ble_eq_true rfl) (by decide) (Nat.le_refl 0) (Nat.le_refl 0) (hC := sp_X10_of (Q := fun z m => rg μ x1 4 = z ∧ μ = m) p0 p1 ⟨rfl, rfl⟩) (fun r n2 S2 m2 hP => ?_)
      obtain ⟨⟨rfl, rfl⟩, z, rfl, rfl, rfl⟩ := hP
      obtain ⟨c, h⟩ := h
      refine s_isub dX10_copyClip_28 (am_w_id c) ?_
      refine s_callS (As := [vI x3, vI 0, vI (600 - (rg μ x1 4))]) (rest := []) dX10_copyClip_29 lkX10_103 lmX10_isIn rfl rfl (Nat.le_of_ble_eq_true rfl) (by decide) (Nat.le_refl 0) (Nat.le_refl 0) (hC := sp_X10_isIn (Q := fun z m => bI (0 ≤ x3 ∧ x3 ≤ (600 - (rg μ x1 4))) = z ∧ μ = m)  ⟨rfl, rfl⟩) (fun r n2 S2 m2 hP => ?_)
      obtain ⟨⟨rfl, rfl⟩, z, rfl, rfl, rfl⟩ := hP
      refine s_if_ne dX10_copyClip_32 (tgt := 38) (by decide) (fun cc => ?_) (fun cc => ?_)
      · have h := h.1 (bI_ne cc)
        refine s_aload_n dX10_copyClip_38 rfl rfl ?_
        refine s_getR dX10_copyClip_39 flX10_9 rn0 rk0 rfl rr0_0 ?_
        refine s_bipush dX10_copyClip_42 (by decide) ?_
        refine s_iald (x := (μ 1 25)) dX10_copyClip_44 rn1 rk1 rl1 (by decide) (by decide) rfl ?_
        refine s_bipush dX10_copyClip_45 (by decide) ?_
        refine s_icmp_ne dX10_copyClip_47 (tgt := 53) (by decide) (fun cc => ?_) (fun cc => ?_)
        · have h := h.1 cc
          refine s_aload_n dX10_copyClip_53 rfl rfl ?_
          refine s_iload_n dX10_copyClip_54 rfl rfl ?_
          obtain ⟨P, hcl, h⟩ := h
          refine s_callV (As := [vI x1]) (rest := []) (k := 0) dX10_copyClip_55 lkX10_168 rn0 ⟨by rw [rk0]; rfl, by rw [rk0]; decide⟩ lmX10_takes rfl rfl (Nat.le_of_ble_eq_true rfl) (by decide) (Nat.le_refl 0) (Nat.le_refl 0) (hC := hcl) (fun r n2 S2 m2 hP => ?_)
          obtain ⟨⟨rfl, rfl⟩, rfl, hq⟩ := hP
          have h := h m2 hq
          refine s_aload_n dX10_copyClip_58 rfl rfl ?_
          refine s_getR dX10_copyClip_59 flX10_50 rn0 rk0 rfl rr0_18 ?_
          refine s_iconst dX10_copyClip_62 (by decide) ?_
          refine s_iload_n dX10_copyClip_63 rfl rfl ?_
          obtain ⟨m3, hm3⟩ : ∃ x : am_M, x = am_st m2 14 (am_up (m2 14) 0 x2) := ⟨_, rfl⟩
          have h := h m3 hm3
          refine s_iast dX10_copyClip_64 rn14 rk14 rl14 (by decide) (by decide) hm3.symm ?_
          refine s_aload_n dX10_copyClip_65 rfl rfl ?_
          refine s_getR dX10_copyClip_66 flX10_50 rn0 rk0 rfl rr0_18 ?_
          refine s_iconst dX10_copyClip_69 (by decide) ?_
          refine s_iload_n dX10_copyClip_70 rfl rfl ?_
          obtain ⟨m4, hm4⟩ : ∃ x : am_M, x = am_st m3 14 (am_up (m3 14) 1 x3) := ⟨_, rfl⟩
          have h := h m4 hm4
          refine s_iast dX10_copyClip_71 rn14 rk14 rl14 (by decide) (by decide) hm4.symm ?_
          refine s_aload_n dX10_copyClip_72 rfl rfl ?_
          refine s_iconst dX10_copyClip_73 (by decide) ?_
          obtain ⟨p0, p1, h⟩ := h
          refine s_callV (As := [vI (-1)]) (rest := []) (k := 0) dX10_copyClip_74 lkX10_159 rn0 ⟨by rw [rk0]; rfl, by rw [rk0]; decide⟩ lmX10_isShared rfl rfl (Nat.le_of_ble_eq_true rfl) (by decide) (Nat.le_refl 0) (Nat.le_refl 0) (hC := sp_X10_isShared (Q := fun z m => bI (¬ fre_ (rg m4) (m4 1 25) (m4 14 0) (m4 14 1) (m4 14 4) (-1)) = z ∧ m4 = m) p0 p1 ⟨rfl, rfl⟩) (fun r n2 S2 m2 hP => ?_)
          obtain ⟨⟨rfl, rfl⟩, z, rfl, rfl, rfl⟩ := hP
          refine s_if_eq dX10_copyClip_77 (tgt := 83) (by decide) (fun cc => ?_) (fun cc => ?_)
          · have h := h.1 (bI_eq cc)
            refine s_aload_n dX10_copyClip_83 rfl rfl ?_
            obtain ⟨P, hcl, h⟩ := h
            refine s_callV (As := []) (rest := []) (k := 0) dX10_copyClip_84 lkX10_107 rn0 ⟨by rw [rk0]; rfl, by rw [rk0]; decide⟩ lmX10_begins rfl rfl (Nat.le_of_ble_eq_true rfl) (by decide) (Nat.le_refl 0) (Nat.le_refl 0) (hC := hcl) (fun r n2 S2 m6 hP => ?_)
            obtain ⟨⟨rfl, rfl⟩, rfl, hq⟩ := hP
            have h := h m6 hq
            refine s_aload_n dX10_copyClip_87 rfl rfl ?_
            refine s_aload_n dX10_copyClip_88 rfl rfl ?_
            obtain ⟨P, hcl, h⟩ := h
            refine s_callV (As := []) (rest := [vR 0]) (k := 0) dX10_copyClip_89 lkX10_162 rn0 ⟨by rw [rk0]; rfl, by rw [rk0]; decide⟩ lmX10_lays rfl rfl (Nat.le_of_ble_eq_true rfl) (by decide) (Nat.le_refl 0) (Nat.le_refl 0) (hC := hcl) (fun r n2 S2 m8 hP => ?_)
            obtain ⟨⟨rfl, rfl⟩, z7, rfl, hq⟩ := hP
            have h := h z7 m8 hq
            obtain ⟨P, hcl, h⟩ := h
            refine s_callV (As := [vI z7]) (rest := []) (k := 0) dX10_copyClip_92 lkX10_110 rn0 ⟨by rw [rk0]; rfl, by rw [rk0]; decide⟩ lmX10_ends rfl rfl (Nat.le_of_ble_eq_true rfl) (by decide) (Nat.le_refl 0) (Nat.le_refl 0) (hC := hcl) (fun r n2 S2 m10 hP => ?_)
            obtain ⟨⟨rfl, rfl⟩, z9, rfl, hq⟩ := hP
            have h := h z9 m10 hq
            exact s_ireturn dX10_copyClip_95 (Or.inl rfl) ⟨⟨rfl, rfl⟩, _, rfl, h⟩
          · have h := h.2 (bI_ne cc)
            refine s_bipush dX10_copyClip_80 (by decide) ?_
            exact s_ireturn dX10_copyClip_82 (Or.inl rfl) ⟨⟨rfl, rfl⟩, _, rfl, h⟩
        · have h := h.2 cc
          refine s_bipush dX10_copyClip_50 (by decide) ?_
          exact s_ireturn dX10_copyClip_52 (Or.inl rfl) ⟨⟨rfl, rfl⟩, _, rfl, h⟩
      · have h := h.2 (bI_eq cc)
        refine s_bipush dX10_copyClip_35 (by decide) ?_
        exact s_ireturn dX10_copyClip_37 (Or.inl rfl) ⟨⟨rfl, rfl⟩, _, rfl, h⟩
    · have h := h.2 (bI_eq cc)
      refine s_iconst dX10_copyClip_15 (by decide) ?_
      exact s_ireturn dX10_copyClip_16 (Or.inl rfl) ⟨⟨rfl, rfl⟩, _, rfl, h⟩
theorem ve_X10_copyClip {x1 x2 x3 : Int} {μ : am_M} {Q : Int → am_M → Prop} (h : at_I kR 5 mX10_copyClip 0 [vR 0, vI x1, vI x2, vI x3] [] μ Q) : cl_I kR 5 mX10_copyClip [vR 0, vI x1, vI x2, vI x3] μ Q := am_intro pmX10_copyClip (Nat.le_of_ble_eq_true rfl) rfl h
theorem sp_X10_copyClip {K : Int} {μ : am_M} {c t s : Int} (hI : RI K μ) (hK : K < 99999) : cl_I kR 5 mX10_copyClip [vR 0, vI c, vI t, vI s] μ (fun z m => rn_ [] μ m z (o_dup (pR μ) c t s)) := by
  have hV := hI.1
  have ht := trL hV
  have hn := ht.1
  have h25 := vR_n hV
  unfold o_dup l_dup
  refine ve_X10_copyClip (vc_X10_copyClip_0 ⟨(by (try unfold am_in); (try unfold in_ at *); omega), fun q => rn_no hV rm_rf rfl (by omega) ?_, fun q => ⟨fun q2 => ?_, fun q2 => rn_no hV rm_rf rfl (by omega) ?_⟩⟩)
  · rw [cif_t (by omega)]; rfl
  · obtain ⟨A, r, B, e, hc, hg, o, vv, hll, -, h24⟩ := cl_at hV q.1 q.2
    rw [cif_f (by omega), hg, vv 4 (by omega) (by omega)]
    have o2 := o
    unfold okC in_ at o2
    refine ⟨(by (try unfold am_in); (try unfold in_ at *); omega), (by (try unfold am_in); (try unfold in_ at *); omega), (by (try unfold am_in); (try unfold in_ at *); omega), fun q3 => ⟨fun q4 => ?_, fun q4 => rn_no hV rm_rf rfl (by omega) (by rw [cif_f (by omega), cif_t (by omega)]; rfl)⟩, fun q3 => rn_no hV rm_rf rfl (by omega) (by rw [cif_t (by omega)]; rfl)⟩
    rw [cif_f (p := s < 0 ∨ 600 - r 4 < s) (by omega), cif_f (p := 24 ≤ (pL (pR μ)).length) (by omega)]
    refine ⟨_, sp_X10_takes (by (try unfold am_in); (try unfold in_ at *); omega), fun m2 ⟨f2, e2⟩ m3 e3 m4 e4 => ?_⟩
    obtain ⟨em4, f34⟩ := em_mv (fun k k0 k1 => (e2 k k0 k1).trans (vv k k0 k1)) e3 e4
    have f4 := fr_tr f2 f34
    have p4 := f4 1 (by decide)
    obtain ⟨y0, y1, -, -, y4, -⟩ := em_0 em4
    have hf := fre_L (r := mvR r t s) ht
    rw [rg_1 p4, p4, y0, y1, y4]
    have z4 : mvR r t s 4 = r 4 := by simp [mvR]
    have z1 : mvR r t s 1 = s := by simp [mvR]
    refine ⟨vR_ok hV, by rw [z1, z4]; ((try unfold am_in); (try unfold in_ at *); omega), fun g => ?_, fun g => rn_no hV (rm_fr f4 (by decide)) p4 (by omega) ?_⟩
    · have g' : freR (pL (pR μ)) (mvR r t s) := hf.mp (Classical.byContradiction g)
      rw [cif_f (fun w => w g')]
      refine ⟨_, sp_X10_begins, fun m6 ⟨f6, e6⟩ => ?_⟩
      have b6 : bg_ [] μ m6 := bg_of (rm_fr f4 (by decide)) p4 f6 e6
      have p6 : m6 1 = μ 1 := (f6 1 (by decide)).trans p4
      refine ⟨_, sp_X10_lays (tr_r1 p6 ht) (em_fr f6 (by decide) em4) (by omega), fun z9 m10 ⟨hz, f10, v10, t10⟩ => ?_⟩
      have w : fv_ μ m10 := fv_tr (fv_e p6) v10
      have zi : 0 ≤ z9 := by rw [hz]; unfold insN; omega
      exact rn_ok hI hK (by simp) (bg_fr b6 f10 (by decide) (by decide)) (peL hV t10 w) (hz_0 (hz_fv w hV.1.hl (hzL hV))) zi hz
    · rw [cif_t (fun w => g (hf.mpr w))]; rfl
  · rw [cif_t (by omega)]; rfl

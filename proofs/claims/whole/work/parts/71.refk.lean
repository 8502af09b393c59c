/-! the reference's commands on clips, more -/
theorem vc_X10_addClip_0 {x1 x2 x3 x4 x5 : Int} {μ : am_M} {Q : Int → am_M → Prop} (h : (¬ (0 ≤ x1 ∧ x1 < 4) → Q (-1) μ) ∧ (0 ≤ x1 ∧ x1 < 4 → (in_ 0 7 (μ 1 0)) ∧ ((0 ≤ x3 ∧ x3 < μ 1 0 → ∀ v1 : Int, v1 = (cif (0 ≤ x2 ∧ x2 ≤ 599) (if x4 < 0 then 0 else (cif (1 ≤ x5 ∧ x5 ≤ 200) (if x4 < 200 then 1 else 0) 0)) 0) → (v1 = 0 → Q (-2) μ) ∧ (v1 ≠ 0 → (am_in (x4 + x5)) ∧ ((in_ 0 6 x3) ∧ (in_ 0 4 1) ∧ ((rS μ x3 1 < x4 + x5 → Q (-2) μ) ∧ (x4 + x5 ≤ rS μ x3 1 → (am_in (x2 + x5)) ∧ ((x2 + x5 ≤ 600 → (μ 1 25 ≠ 24 → ∀ m2 : am_M, m2 = am_st μ 14 (am_up (μ 14) 0 x1) → ∀ m3 : am_M, m3 = am_st m2 14 (am_up (m2 14) 1 x2) → ∀ m4 : am_M, m4 = am_st m3 14 (am_up (m3 14) 2 x3) → ∀ m5 : am_M, m5 = am_st m4 14 (am_up (m4 14) 3 x4) → ∀ m6 : am_M, m6 = am_st m5 14 (am_up (m5 14) 4 x5) → ∀ m7 : am_M, m7 = am_st m6 14 (am_up (m6 14) 5 100) → ∀ m8 : am_M, m8 = am_st m7 14 (am_up (m7 14) 6 0) → ∀ m9 : am_M, m9 = am_st m8 14 (am_up (m8 14) 7 0) → (ok_T (rg m9) (m9 1 25)) ∧ (am_in (m9 14 1 + m9 14 4)) ∧ ((¬ (¬ fre_ (rg m9) (m9 1 25) (m9 14 0) (m9 14 1) (m9 14 4) (-1)) → ∃ P : am_M → Prop, cl_V kR 2 mX10_begins [vR 0] m9 P ∧ (∀ m11 : am_M, P m11 → ∃ P : Int → am_M → Prop, cl_I kR 2 mX10_lays [vR 0] m11 P ∧ (∀ (z12 : Int) (m13 : am_M), P z12 m13 → ∃ P : Int → am_M → Prop, cl_I kR 3 mX10_ends [vR 0, vI z12] m13 P ∧ (∀ (z14 : Int) (m15 : am_M), P z14 m15 → Q z14 m15)))) ∧ (¬ fre_ (rg m9) (m9 1 25) (m9 14 0) (m9 14 1) (m9 14 4) (-1) → Q (-4) m9))) ∧ (μ 1 25 = 24 → Q (-3) μ)) ∧ (600 < x2 + x5 → Q (-2) μ))))))) ∧ (¬ (0 ≤ x3 ∧ x3 < μ 1 0) → Q (-1) μ)))) : at_I kR 5 mX10_addClip 0 [vR 0, vI x1, vI x2, vI x3, vI x4, vI x5, vU] [] μ Q := by
  refine s_iload_n dX10_addClip_0 rfl rfl ?_
  refine s_callS (As := [vI x1]) (rest := []) dX10_addClip_1 lkX10_133 lmX10_isTrack rfl rfl (Nat.le_of_ble_eq_true rfl) (by decide) (Nat.le_refl 0) (Nat.le_refl 0) (hC := sp_X10_isTrack (Q := fun z m => bI (0 ≤ x1 ∧ x1 < 4) = z ∧ μ = m)  ⟨rfl, rfl⟩) (fun r n2 S2 m2 hP => ?_)
  obtain ⟨⟨rfl, rfl⟩, z, rfl, rfl, rfl⟩ := hP
  refine s_if_eq dX10_addClip_4 (tgt := 15) (by decide) (fun cc => ?_) (fun cc => ?_)
  · have h := h.1 (bI_eq cc)
    refine s_iconst dX10_addClip_15 (by decide) ?_
    exact s_ireturn dX10_addClip_16 (Or.inl rfl) ⟨⟨rfl, rfl⟩, _, rfl, h⟩
  · have h := h.2 (bI_ne cc)
    refine s_aload_n dX10_addClip_7 rfl rfl ?_
    refine s_iload_n dX10_addClip_8 rfl rfl ?_
    obtain ⟨p0, h⟩ := h
    refine s_callV (As := [vI x3]) (rest := []) (k := 0) dX10_addClip_9 lkX10_119 rn0 ⟨by rw [rk0]; rfl, by rw [rk0]; decide⟩ lmX10_isSource rfl rfl (Nat.le_of_ble_eq_true rfl) (by decide) (Nat.le_refl 0) (Nat.le_refl 0) (hC := sp_X10_isSource (Q := fun z m => bI (0 ≤ x3 ∧ x3 < μ 1 0) = z ∧ μ = m) p0 ⟨rfl, rfl⟩) (fun r n2 S2 m2 hP => ?_)
    obtain ⟨⟨rfl, rfl⟩, z, rfl, rfl, rfl⟩ := hP
    refine s_if_ne dX10_addClip_12 (tgt := 17) (by decide) (fun cc => ?_) (fun cc => ?_)
    · have h := h.1 (bI_ne cc)
      refine s_iload_n dX10_addClip_17 rfl rfl ?_
      refine s_iconst dX10_addClip_18 (by decide) ?_
      refine s_sipush dX10_addClip_19 (by decide) ?_
      refine s_callS (As := [vI x2, vI 0, vI 599]) (rest := []) dX10_addClip_22 lkX10_103 lmX10_isIn rfl rfl (Nat.le_of_ble_eq_true rfl) (by decide) (Nat.le_refl 0) (Nat.le_refl 0) (hC := sp_X10_isIn (Q := fun z m => bI (0 ≤ x2 ∧ x2 ≤ 599) = z ∧ μ = m)  ⟨rfl, rfl⟩) (fun r n2 S2 m2 hP => ?_)
      obtain ⟨⟨rfl, rfl⟩, z, rfl, rfl, rfl⟩ := hP
      have kj16 : ∀ (v1 : Int), ((v1 = 0 → Q (-2) μ) ∧ (v1 ≠ 0 → (am_in (x4 + x5)) ∧ ((in_ 0 6 x3) ∧ (in_ 0 4 1) ∧ ((rS μ x3 1 < x4 + x5 → Q (-2) μ) ∧ (x4 + x5 ≤ rS μ x3 1 → (am_in (x2 + x5)) ∧ ((x2 + x5 ≤ 600 → (μ 1 25 ≠ 24 → ∀ m2 : am_M, m2 = am_st μ 14 (am_up (μ 14) 0 x1) → ∀ m3 : am_M, m3 = am_st m2 14 (am_up (m2 14) 1 x2) → ∀ m4 : am_M, m4 = am_st m3 14 (am_up (m3 14) 2 x3) → ∀ m5 : am_M, m5 = am_st m4 14 (am_up (m4 14) 3 x4) → ∀ m6 : am_M, m6 = am_st m5 14 (am_up (m5 14) 4 x5) → ∀ m7 : am_M, m7 = am_st m6 14 (am_up (m6 14) 5 100) → ∀ m8 : am_M, m8 = am_st m7 14 (am_up (m7 14) 6 0) → ∀ m9 : am_M, m9 = am_st m8 14 (am_up (m8 14) 7 0) → (ok_T (rg m9) (m9 1 25)) ∧ (am_in (m9 14 1 + m9 14 4)) ∧ ((¬ (¬ fre_ (rg m9) (m9 1 25) (m9 14 0) (m9 14 1) (m9 14 4) (-1)) → ∃ P : am_M → Prop, cl_V kR 2 mX10_begins [vR 0] m9 P ∧ (∀ m11 : am_M, P m11 → ∃ P : Int → am_M → Prop, cl_I kR 2 mX10_lays [vR 0] m11 P ∧ (∀ (z12 : Int) (m13 : am_M), P z12 m13 → ∃ P : Int → am_M → Prop, cl_I kR 3 mX10_ends [vR 0, vI z12] m13 P ∧ (∀ (z14 : Int) (m15 : am_M), P z14 m15 → Q z14 m15)))) ∧ (¬ fre_ (rg m9) (m9 1 25) (m9 14 0) (m9 14 1) (m9 14 4) (-1) → Q (-4) m9))) ∧ (μ 1 25 = 24 → Q (-3) μ)) ∧ (600 < x2 + x5 → Q (-2) μ))))))) → at_I kR 5 mX10_addClip 58 [vR 0, vI x1, vI x2, vI x3, vI x4, vI x5, vU] [vI v1] μ Q := by
        intro v1 h
        refine s_istore dX10_addClip_58 (by decide) (L' := [vR 0, vI x1, vI x2, vI x3, vI x4, vI x5, vI v1]) rfl ?_
        refine s_iload dX10_addClip_60 rfl ?_
        refine s_if_eq dX10_addClip_62 (tgt := 89) (by decide) (fun cc => ?_) (fun cc => ?_)
        · have h := h.1 cc
          refine s_bipush dX10_addClip_89 (by decide) ?_
          exact s_ireturn dX10_addClip_91 (Or.inl rfl) ⟨⟨rfl, rfl⟩, _, rfl, h⟩
        · have h := h.2 cc
          refine s_iload dX10_addClip_65 rfl ?_
          refine s_iload dX10_addClip_67 rfl ?_
          obtain ⟨c, h⟩ := h
          refine s_iadd dX10_addClip_69 (am_w_id c) ?_
          refine s_aload_n dX10_addClip_70 rfl rfl ?_
          refine s_iload_n dX10_addClip_71 rfl rfl ?_
          refine s_iconst dX10_addClip_72 (by decide) ?_
          obtain ⟨p0, p1, h⟩ := h
          refine s_callV (As := [vI x3, vI 1]) (rest := [vI (x4 + x5)]) (k := 0) dX10_addClip_73 lkX10_114 rn0 ⟨by rw [rk0]; rfl, by rw [rk0]; decide⟩ lmX10_sourceOf rfl rfl (Nat.le_of_ble_eq_true rfl) (by decide) (Nat.le_refl 0) (Nat.le_refl 0) (hC := sp_X10_sourceOf (Q := fun z m => rS μ x3 1 = z ∧ μ = m) p0 p1 ⟨rfl, rfl⟩) (fun r n2 S2 m2 hP => ?_)
          obtain ⟨⟨rfl, rfl⟩, z, rfl, rfl, rfl⟩ := hP
          refine s_icmp_gt dX10_addClip_76 (tgt := 89) (by decide) (fun cc => ?_) (fun cc => ?_)
          · have h := h.1 cc
            refine s_bipush dX10_addClip_89 (by decide) ?_
            exact s_ireturn dX10_addClip_91 (Or.inl rfl) ⟨⟨rfl, rfl⟩, _, rfl, h⟩
          · have h := h.2 cc
            refine s_iload_n dX10_addClip_79 rfl rfl ?_
            refine s_iload dX10_addClip_80 rfl ?_
            obtain ⟨c, h⟩ := h
            refine s_iadd dX10_addClip_82 (am_w_id c) ?_
            refine s_sipush dX10_addClip_83 (by decide) ?_
            refine s_icmp_le dX10_addClip_86 (tgt := 92) (by decide) (fun cc => ?_) (fun cc => ?_)
            · have h := h.1 cc
              refine s_aload_n dX10_addClip_92 rfl rfl ?_
              refine s_getR dX10_addClip_93 flX10_9 rn0 rk0 rfl rr0_0 ?_
              refine s_bipush dX10_addClip_96 (by decide) ?_
              refine s_iald (x := (μ 1 25)) dX10_addClip_98 rn1 rk1 rl1 (by decide) (by decide) rfl ?_
              refine s_bipush dX10_addClip_99 (by decide) ?_
              refine s_icmp_ne dX10_addClip_101 (tgt := 107) (by decide) (fun cc => ?_) (fun cc => ?_)
              · have h := h.1 cc
                refine s_aload_n dX10_addClip_107 rfl rfl ?_
                refine s_getR dX10_addClip_108 flX10_50 rn0 rk0 rfl rr0_18 ?_
                refine s_iconst dX10_addClip_111 (by decide) ?_
                refine s_iload_n dX10_addClip_112 rfl rfl ?_
                obtain ⟨m2, hm2⟩ : ∃ x : am_M, x = am_st μ 14 (am_up (μ 14) 0 x1) := ⟨_, rfl⟩
                have h := h m2 hm2
                refine s_iast dX10_addClip_113 rn14 rk14 rl14 (by decide) (by decide) hm2.symm ?_
                refine s_aload_n dX10_addClip_114 rfl rfl ?_
                refine s_getR dX10_addClip_115 flX10_50 rn0 rk0 rfl rr0_18 ?_
                refine s_iconst dX10_addClip_118 (by decide) ?_
                refine s_iload_n dX10_addClip_119 rfl rfl ?_
                obtain ⟨m3, hm3⟩ : ∃ x : am_M, x = am_st m2 14 (am_up (m2 14) 1 x2) := ⟨_, rfl⟩
                have h := h m3 hm3
                refine s_iast dX10_addClip_120 rn14 rk14 rl14 (by decide) (by decide) hm3.symm ?_
                refine s_aload_n dX10_addClip_121 rfl rfl ?_
                refine s_getR dX10_addClip_122 flX10_50 rn0 rk0 rfl rr0_18 ?_
                refine s_iconst dX10_addClip_125 (by decide) ?_
                refine s_iload_n dX10_addClip_126 rfl rfl ?_
                obtain ⟨m4, hm4⟩ : ∃ x : am_M, x = am_st m3 14 (am_up (m3 14) 2 x3) := ⟨_, rfl⟩
                have h := h m4 hm4
                refine s_iast dX10_addClip_127 rn14 rk14 rl14 (by decide) (by decide) hm4.symm ?_
                refine s_aload_n dX10_addClip_128 rfl rfl ?_
                refine s_getR dX10_addClip_129 flX10_50 rn0 rk0 rfl rr0_18 ?_
                refine s_iconst dX10_addClip_132 (by decide) ?_
                refine s_iload dX10_addClip_133 rfl ?_
                obtain ⟨m5, hm5⟩ : ∃ x : am_M, x = am_st m4 14 (am_up (m4 14) 3 x4) := ⟨_, rfl⟩
                have h := h m5 hm5
                refine s_iast dX10_addClip_135 rn14 rk14 rl14 (by decide) (by decide) hm5.symm ?_
                refine s_aload_n dX10_addClip_136 rfl rfl ?_
                refine s_getR dX10_addClip_137 flX10_50 rn0 rk0 rfl rr0_18 ?_
                refine s_iconst dX10_addClip_140 (by decide) ?_
                refine s_iload dX10_addClip_141 rfl ?_
                obtain ⟨m6, hm6⟩ : ∃ x : am_M, x = am_st m5 14 (am_up (m5 14) 4 x5) := ⟨_, rfl⟩
                have h := h m6 hm6
                refine s_iast dX10_addClip_143 rn14 rk14 rl14 (by decide) (by decide) hm6.symm ?_
                refine s_aload_n dX10_addClip_144 rfl rfl ?_
                refine s_getR dX10_addClip_145 flX10_50 rn0 rk0 rfl rr0_18 ?_
                refine s_iconst dX10_addClip_148 (by decide) ?_
                refine s_bipush dX10_addClip_149 (by decide) ?_
                obtain ⟨m7, hm7⟩ : ∃ x : am_M, x = am_st m6 14 (am_up (m6 14) 5 100) := ⟨_, rfl⟩
                have h := h m7 hm7
                refine s_iast dX10_addClip_151 rn14 rk14 rl14 (by decide) (by decide) hm7.symm ?_
                refine s_aload_n dX10_addClip_152 rfl rfl ?_
                refine s_getR dX10_addClip_153 flX10_50 rn0 rk0 rfl rr0_18 ?_
                refine s_bipush dX10_addClip_156 (by decide) ?_
                refine s_iconst dX10_addClip_158 (by decide) ?_
                obtain ⟨m8, hm8⟩ : ∃ x : am_M, x = am_st m7 14 (am_up (m7 14) 6 0) := ⟨_, rfl⟩
                have h := h m8 hm8
                refine s_iast dX10_addClip_159 rn14 rk14 rl14 (by decide) (by decide) hm8.symm ?_
                refine s_aload_n dX10_addClip_160 rfl rfl ?_
                refine s_getR dX10_addClip_161 flX10_50 rn0 rk0 rfl rr0_18 ?_
                refine s_bipush dX10_addClip_164 (by decide) ?_
                refine s_iconst dX10_addClip_166 (by decide) ?_
                obtain ⟨m9, hm9⟩ : ∃ x : am_M, x = am_st m8 14 (am_up (m8 14) 7 0) := ⟨_, rfl⟩
                have h := h m9 hm9
                refine s_iast dX10_addClip_167 rn14 rk14 rl14 (by decide) (by decide) hm9.symm ?_
                refine s_aload_n dX10_addClip_168 rfl rfl ?_
                refine s_iconst dX10_addClip_169 (by decide) ?_
                obtain ⟨p0, p1, h⟩ := h
                refine s_callV (As := [vI (-1)]) (rest := []) (k := 0) dX10_addClip_170 lkX10_159 rn0 ⟨by rw [rk0]; rfl, by rw [rk0]; decide⟩ lmX10_isShared rfl rfl (Nat.le_of_ble_eq_true rfl) (by decide) (Nat.le_refl 0) (Nat.le_refl 0) (hC := sp_X10_isShared (Q := fun z m => bI (¬ fre_ (rg m9) (m9 1 25) (m9 14 0) (m9 14 1) (m9 14 4) (-1)) = z ∧ m9 = m) p0 p1 ⟨rfl, rfl⟩) (fun r n2 S2 m2 hP => ?_)
                obtain ⟨⟨rfl, rfl⟩, z, rfl, rfl, rfl⟩ := hP
                refine s_if_eq dX10_addClip_173 (tgt := 179) (by decide) (fun cc => ?_) (fun cc => ?_)
                · have h := h.1 (bI_eq cc)
                  refine s_aload_n dX10_addClip_179 rfl rfl ?_
                  obtain ⟨P, hcl, h⟩ := h
                  refine s_callV (As := []) (rest := []) (k := 0) dX10_addClip_180 lkX10_107 rn0 ⟨by rw [rk0]; rfl, by rw [rk0]; decide⟩ lmX10_begins rfl rfl (Nat.le_of_ble_eq_true rfl) (by decide) (Nat.le_refl 0) (Nat.le_refl 0) (hC := hcl) (fun r n2 S2 m11 hP => ?_)
                  obtain ⟨⟨rfl, rfl⟩, rfl, hq⟩ := hP
                  have h := h m11 hq
                  refine s_aload_n dX10_addClip_183 rfl rfl ?_
                  refine s_aload_n dX10_addClip_184 rfl rfl ?_
                  obtain ⟨P, hcl, h⟩ := h
                  refine s_callV (As := []) (rest := [vR 0]) (k := 0) dX10_addClip_185 lkX10_162 rn0 ⟨by rw [rk0]; rfl, by rw [rk0]; decide⟩ lmX10_lays rfl rfl (Nat.le_of_ble_eq_true rfl) (by decide) (Nat.le_refl 0) (Nat.le_refl 0) (hC := hcl) (fun r n2 S2 m13 hP => ?_)
                  obtain ⟨⟨rfl, rfl⟩, z12, rfl, hq⟩ := hP
                  have h := h z12 m13 hq
                  obtain ⟨P, hcl, h⟩ := h
                  refine s_callV (As := [vI z12]) (rest := []) (k := 0) dX10_addClip_188 lkX10_110 rn0 ⟨by rw [rk0]; rfl, by rw [rk0]; decide⟩ lmX10_ends rfl rfl (Nat.le_of_ble_eq_true rfl) (by decide) (Nat.le_refl 0) (Nat.le_refl 0) (hC := hcl) (fun r n2 S2 m15 hP => ?_)
                  obtain ⟨⟨rfl, rfl⟩, z14, rfl, hq⟩ := hP
                  have h := h z14 m15 hq
                  exact s_ireturn dX10_addClip_191 (Or.inl rfl) ⟨⟨rfl, rfl⟩, _, rfl, h⟩
                · have h := h.2 (bI_ne cc)
                  refine s_bipush dX10_addClip_176 (by decide) ?_
                  exact s_ireturn dX10_addClip_178 (Or.inl rfl) ⟨⟨rfl, rfl⟩, _, rfl, h⟩
              · have h := h.2 cc
                refine s_bipush dX10_addClip_104 (by decide) ?_
                exact s_ireturn dX10_addClip_106 (Or.inl rfl) ⟨⟨rfl, rfl⟩, _, rfl, h⟩
            · have h := h.2 cc
              refine s_bipush dX10_addClip_89 (by decide) ?_
              exact s_ireturn dX10_addClip_91 (Or.inl rfl) ⟨⟨rfl, rfl⟩, _, rfl, h⟩
      refine s_if_eq dX10_addClip_25 (tgt := 57) (by decide) (fun cc => ?_) (fun cc => ?_)
      · have hp0 := (bI_eq cc)
        refine s_iconst dX10_addClip_57 (by decide) ?_
        exact kj16 0 (h 0 (by rw [cif_f hp0]))
      · have hp0 := (bI_ne cc)
        refine s_iload dX10_addClip_28 rfl ?_
        refine s_if_lt dX10_addClip_30 (tgt := 57) (by decide) (fun cc => ?_) (fun cc => ?_)
        · have hp1 := cc
          refine s_iconst dX10_addClip_57 (by decide) ?_
          exact kj16 0 (h 0 (by rw [cif_t hp0, if_pos hp1]))
        · have hp1 := cc
          refine s_iload dX10_addClip_33 rfl ?_
          refine s_iconst dX10_addClip_35 (by decide) ?_
          refine s_sipush dX10_addClip_36 (by decide) ?_
          refine s_callS (As := [vI x5, vI 1, vI 200]) (rest := []) dX10_addClip_39 lkX10_103 lmX10_isIn rfl rfl (Nat.le_of_ble_eq_true rfl) (by decide) (Nat.le_refl 0) (Nat.le_refl 0) (hC := sp_X10_isIn (Q := fun z m => bI (1 ≤ x5 ∧ x5 ≤ 200) = z ∧ μ = m)  ⟨rfl, rfl⟩) (fun r n2 S2 m2 hP => ?_)
          obtain ⟨⟨rfl, rfl⟩, z, rfl, rfl, rfl⟩ := hP
          refine s_if_eq dX10_addClip_42 (tgt := 57) (by decide) (fun cc => ?_) (fun cc => ?_)
          · have hp2 := (bI_eq cc)
            refine s_iconst dX10_addClip_57 (by decide) ?_
            exact kj16 0 (h 0 (by rw [cif_t hp0, if_neg (Int.not_lt.mpr hp1), cif_f hp2]))
          · have hp2 := (bI_ne cc)
            refine s_iload dX10_addClip_45 rfl ?_
            refine s_sipush dX10_addClip_47 (by decide) ?_
            refine s_icmp_ge dX10_addClip_50 (tgt := 57) (by decide) (fun cc => ?_) (fun cc => ?_)
            · have hp3 := cc
              refine s_iconst dX10_addClip_57 (by decide) ?_
              exact kj16 0 (h 0 (by rw [cif_t hp0, if_neg (Int.not_lt.mpr hp1), cif_t hp2, if_neg (Int.not_lt.mpr hp3)]))
            · have hp3 := cc
              refine s_iconst dX10_addClip_53 (by decide) ?_
              refine s_goto dX10_addClip_54 (tgt := 58) (by decide) ?_
              exact kj16 1 (h 1 (by rw [cif_t hp0, if_neg (Int.not_lt.mpr hp1), cif_t hp2, if_pos hp3]))
    · have h := h.2 (bI_eq cc)
      refine s_iconst dX10_addClip_15 (by decide) ?_
      exact s_ireturn dX10_addClip_16 (Or.inl rfl) ⟨⟨rfl, rfl⟩, _, rfl, h⟩
theorem ve_X10_addClip {x1 x2 x3 x4 x5 : Int} {μ : am_M} {Q : Int → am_M → Prop} (h : at_I kR 5 mX10_addClip 0 [vR 0, vI x1, vI x2, vI x3, vI x4, vI x5, vU] [] μ Q) : cl_I kR 5 mX10_addClip [vR 0, vI x1, vI x2, vI x3, vI x4, vI x5] μ Q := am_intro pmX10_addClip (Nat.le_of_ble_eq_true rfl) rfl h
theorem sp_X10_addClip {K : Int} {μ : am_M} {t s so of ln : Int} (hI : RI K μ) (hK : K < 99999) : cl_I kR 5 mX10_addClip [vR 0, vI t, vI s, vI so, vI of, vI ln] μ (fun z m => rn_ [] μ m z (o_add (pR μ) t s so of ln)) := by
  have hV := hI.1
  have ht := trL hV
  have hn := ht.1
  have h25 := vR_n hV
  have hM : in_ 0 7 (μ 1 0) := hV.1.hS.1
  have k8 : ∀ k : Int, 0 ≤ k → k < 8 → k = 0 ∨ k = 1 ∨ k = 2 ∨ k = 3 ∨ k = 4 ∨ k = 5 ∨ k = 6 ∨ k = 7 := fun k _ _ => by omega
  unfold o_add l_add
  have eM : pM (pR μ) = μ 1 0 := rfl
  have eS : pS (pR μ) = rS μ := rfl
  rw [eM, eS]
  have hl24 := (pL_v hV.1).2.2
  refine ve_X10_addClip (vc_X10_addClip_0 ⟨fun q => rn_no hV rm_rf rfl (by omega) (by rw [cif_t (by omega)]; rfl), fun q => ⟨hM, fun q2 v1 h1 => ?_, fun q2 => rn_no hV rm_rf rfl (by omega) (by rw [cif_t (by omega)]; rfl)⟩⟩)
  have hSo := hV.1.hS.2 so q2.1 q2.2
  have hS1 : in_ 1 201 (rS μ so 1) := hSo.2.1
  unfold in_ at hS1 hM
  rw [cif_f (p := ¬((0 ≤ t ∧ t < 4) ∧ 0 ≤ so ∧ so < μ 1 0)) (by omega)]
  have h1' : v1 = bI ((0 ≤ s ∧ s ≤ 599) ∧ 0 ≤ of ∧ (1 ≤ ln ∧ ln ≤ 200) ∧ of < 200) := by
    rw [h1]
    by_cases a1 : 0 ≤ s ∧ s ≤ 599
    · rw [cif_t a1]
      by_cases a2 : of < 0
      · rw [if_pos a2, bI_f (by omega)]
      · rw [if_neg a2]
        by_cases a3 : 1 ≤ ln ∧ ln ≤ 200
        · rw [cif_t a3]
          by_cases a4 : of < 200
          · rw [if_pos a4, bI_t (by omega)]
          · rw [if_neg a4, bI_f (by omega)]
        · rw [cif_f a3, bI_f (by omega)]
    · rw [cif_f a1, bI_f (by omega)]
  rw [h1']
  refine ⟨fun w => rn_no hV rm_rf rfl (by omega) ?_, fun w => ?_⟩
  · have w2 : ¬ ((0 ≤ s ∧ s ≤ 599) ∧ 0 ≤ of ∧ (1 ≤ ln ∧ ln ≤ 200) ∧ of < 200) := fun z => bI_eq w z
    rw [cif_t (by omega)]
    rfl
  · have w2 := bI_ne w
    refine ⟨(by (try unfold am_in); (try unfold in_ at *); omega), (by (try unfold am_in); (try unfold in_ at *); omega), (by (try unfold am_in); (try unfold in_ at *); omega), fun w3 => rn_no hV rm_rf rfl (by omega) (by rw [cif_t (by omega)]; rfl), fun w3 => ⟨(by (try unfold am_in); (try unfold in_ at *); omega), fun w4 => ⟨fun w5 => ?_, fun w5 => rn_no hV rm_rf rfl (by omega) (by rw [cif_f (by omega), cif_t (by omega)]; rfl)⟩, fun w4 => rn_no hV rm_rf rfl (by omega) (by rw [cif_t (by omega)]; rfl)⟩⟩
    rw [cif_f (p := ln < 1 ∨ rS μ so 1 < ln ∨ of < 0 ∨ rS μ so 1 - ln < of ∨ s < 0 ∨ 600 - ln < s) (by omega), cif_f (p := 24 ≤ (pL (pR μ)).length) (by omega)]
    intro m2 e2 m3 e3 m4 e4 m5 e5 m6 e6 m7 e7 m8 e8 m9 e9
    have em9 : em_ m9 (row8 t s so of ln) := fun k k0 k1 => by
      have a : m9 14 = am_up (am_up (am_up (am_up (am_up (am_up (am_up (am_up (μ 14) 0 t) 1 s) 2 so) 3 of) 4 ln) 5 100) 6 0) 7 0 := by
        rw [e9, st_s, e8, st_s, e7, st_s, e6, st_s, e5, st_s, e4, st_s, e3, st_s, e2, st_s]
      rw [a]
      rcases k8 k k0 k1 with rfl | rfl | rfl | rfl | rfl | rfl | rfl | rfl <;> simp [am_up, row8]
    have f4 : fr_ [14] μ m9 := by
      rw [e9, e8, e7, e6, e5, e4, e3, e2]
      exact fr_tr (fr_st (by simp)) (fr_tr (fr_st (by simp)) (fr_tr (fr_st (by simp)) (fr_tr (fr_st (by simp)) (fr_tr (fr_st (by simp)) (fr_tr (fr_st (by simp)) (fr_tr (fr_st (by simp)) (fr_st (by simp))))))))
    have p4 := f4 1 (by decide)
    obtain ⟨y0, y1, -, -, y4, -⟩ := em_0 em9
    have hf := fre_L (r := row8 t s so of ln) ht
    rw [rg_1 p4, p4, y0, y1, y4]
    have z4 : row8 t s so of ln 4 = ln := by simp [row8]
    have z1 : row8 t s so of ln 1 = s := by simp [row8]
    refine ⟨vR_ok hV, by rw [z1, z4]; ((try unfold am_in); (try unfold in_ at *); omega), fun g => ?_, fun g => rn_no hV (rm_fr f4 (by decide)) p4 (by omega) ?_⟩
    · have g' : freR (pL (pR μ)) (row8 t s so of ln) := hf.mp (Classical.byContradiction g)
      rw [cif_f (fun w => w g')]
      refine ⟨_, sp_X10_begins, fun m11 ⟨f11, e11⟩ => ?_⟩
      have b11 : bg_ [] μ m11 := bg_of (rm_fr f4 (by decide)) p4 f11 e11
      have p11 : m11 1 = μ 1 := (f11 1 (by decide)).trans p4
      refine ⟨_, sp_X10_lays (tr_r1 p11 ht) (em_fr f11 (by decide) em9) (by omega), fun z13 m13 ⟨hz, f13, v13, t13⟩ => ?_⟩
      have w : fv_ μ m13 := fv_tr (fv_e p11) v13
      have zi : 0 ≤ z13 := by rw [hz]; unfold insN; omega
      exact rn_ok hI hK (by simp) (bg_fr b11 f13 (by decide) (by decide)) (peL hV t13 w) (hz_0 (hz_fv w hV.1.hl (hzL hV))) zi hz
    · rw [cif_t (fun w => g (hf.mpr w))]; rfl
theorem vc_X10_trim_0 {x1 x2 x3 : Int} {μ : am_M} {Q : Int → am_M → Prop} (h : (in_ 0 49 (μ 1 25)) ∧ ((0 ≤ x1 ∧ x1 < μ 1 25 → (¬ (0 ≤ x2 ∧ x2 ≤ 1) → Q (-2) μ) ∧ (0 ≤ x2 ∧ x2 ≤ 1 → ((-600) ≤ x3 ∧ x3 ≤ 600 → ∃ P : am_M → Prop, cl_V kR 2 mX10_takes [vR 0, vI x1] μ P ∧ (∀ m2 : am_M, P m2 → ∀ v3 : Int, v3 = (if x2 = 0 then x3 else 0) → (am_in (m2 14 1 + v3)) ∧ (∀ m4 : am_M, m4 = am_st m2 14 (am_up (m2 14) 1 (m2 14 1 + v3)) → ∀ v5 : Int, v5 = (if x2 = 0 then x3 else 0) → (am_in (m2 14 3 + v5)) ∧ (∀ m6 : am_M, m6 = am_st m4 14 (am_up (m4 14) 3 (m2 14 3 + v5)) → (am_in (m2 14 4 - x3)) ∧ (∀ m7 : am_M, m7 = am_st m6 14 (am_up (m6 14) 4 (m2 14 4 - x3)) → ((0 < m2 14 4 - x3 → (0 ≤ m2 14 1 + v3 → (am_in ((m2 14 1 + v3) + (m2 14 4 - x3)))))) ∧ (∀ v8 : Int, v8 = (if 0 < m2 14 4 - x3 then (if m2 14 1 + v3 < 0 then 0 else (if 600 < (m2 14 1 + v3) + (m2 14 4 - x3) then 0 else 1)) else 0) → (v8 = 0 → Q (-2) m7) ∧ (v8 ≠ 0 → (m2 14 3 + v5 < 0 → Q (-2) m7) ∧ (0 ≤ m2 14 3 + v5 → (am_in ((m2 14 3 + v5) + (m2 14 4 - x3))) ∧ ((in_ 0 6 (m2 14 2)) ∧ (in_ 0 4 1) ∧ (((m2 14 3 + v5) + (m2 14 4 - x3) ≤ rS m7 (m2 14 2) 1 → (ok_T (rg m7) (m7 1 25)) ∧ (am_in (m7 14 1 + m7 14 4)) ∧ ((¬ (¬ fre_ (rg m7) (m7 1 25) (m7 14 0) (m7 14 1) (m7 14 4) x1) → ∃ P : am_M → Prop, cl_V kR 2 mX10_begins [vR 0] m7 P ∧ (∀ m10 : am_M, P m10 → ∃ P : am_M → Prop, cl_V kR 1 mX10_shortens [vR 0] m10 P ∧ (∀ m12 : am_M, P m12 → ∃ P : am_M → Prop, cl_V kR 1 mX10_drops [vR 0, vI x1] m12 P ∧ (∀ m14 : am_M, P m14 → ∃ P : Int → am_M → Prop, cl_I kR 2 mX10_lays [vR 0] m14 P ∧ (∀ (z15 : Int) (m16 : am_M), P z15 m16 → ∃ P : Int → am_M → Prop, cl_I kR 3 mX10_ends [vR 0, vI (m12 14 4)] m16 P ∧ (∀ (z17 : Int) (m18 : am_M), P z17 m18 → Q z17 m18)))))) ∧ (¬ fre_ (rg m7) (m7 1 25) (m7 14 0) (m7 14 1) (m7 14 4) x1 → Q (-4) m7))) ∧ (rS m7 (m2 14 2) 1 < (m2 14 3 + v5) + (m2 14 4 - x3) → Q (-2) m7))))))))))) ∧ (¬ ((-600) ≤ x3 ∧ x3 ≤ 600) → Q (-2) μ))) ∧ (¬ (0 ≤ x1 ∧ x1 < μ 1 25) → Q (-1) μ))) : at_I kR 5 mX10_trim 0 [vR 0, vI x1, vI x2, vI x3, vU, vU, vU] [] μ Q := by
  refine s_aload_n dX10_trim_0 rfl rfl ?_
  refine s_iload_n dX10_trim_1 rfl rfl ?_
  obtain ⟨p0, h⟩ := h
  refine s_callV (As := [vI x1]) (rest := []) (k := 0) dX10_trim_2 lkX10_165 rn0 ⟨by rw [rk0]; rfl, by rw [rk0]; decide⟩ lmX10_isClip rfl rfl (Nat.le_of_ble_eq_true rfl) (by decide) (Nat.le_refl 0) (Nat.le_refl 0) (hC := sp_X10_isClip (Q := fun z m => bI (0 ≤ x1 ∧ x1 < μ 1 25) = z ∧ μ = m) p0 ⟨rfl, rfl⟩) (fun r n2 S2 m2 hP => ?_)
  obtain ⟨⟨rfl, rfl⟩, z, rfl, rfl, rfl⟩ := hP
  refine s_if_ne dX10_trim_5 (tgt := 10) (by decide) (fun cc => ?_) (fun cc => ?_)
  · have h := h.1 (bI_ne cc)
    refine s_iload_n dX10_trim_10 rfl rfl ?_
    refine s_iconst dX10_trim_11 (by decide) ?_
    refine s_iconst dX10_trim_12 (by decide) ?_
    refine s_callS (As := [vI x2, vI 0, vI 1]) (rest := []) dX10_trim_13 lkX10_103 lmX10_isIn rfl rfl (Nat.le_of_ble_eq_true rfl) (by decide) (Nat.le_refl 0) (Nat.le_refl 0) (hC := sp_X10_isIn (Q := fun z m => bI (0 ≤ x2 ∧ x2 ≤ 1) = z ∧ μ = m)  ⟨rfl, rfl⟩) (fun r n2 S2 m2 hP => ?_)
    obtain ⟨⟨rfl, rfl⟩, z, rfl, rfl, rfl⟩ := hP
    refine s_if_eq dX10_trim_16 (tgt := 32) (by decide) (fun cc => ?_) (fun cc => ?_)
    · have h := h.1 (bI_eq cc)
      refine s_bipush dX10_trim_32 (by decide) ?_
      exact s_ireturn dX10_trim_34 (Or.inl rfl) ⟨⟨rfl, rfl⟩, _, rfl, h⟩
    · have h := h.2 (bI_ne cc)
      refine s_iload_n dX10_trim_19 rfl rfl ?_
      refine s_sipush dX10_trim_20 (by decide) ?_
      refine s_sipush dX10_trim_23 (by decide) ?_
      refine s_callS (As := [vI x3, vI (-600), vI 600]) (rest := []) dX10_trim_26 lkX10_103 lmX10_isIn rfl rfl (Nat.le_of_ble_eq_true rfl) (by decide) (Nat.le_refl 0) (Nat.le_refl 0) (hC := sp_X10_isIn (Q := fun z m => bI ((-600) ≤ x3 ∧ x3 ≤ 600) = z ∧ μ = m)  ⟨rfl, rfl⟩) (fun r n2 S2 m2 hP => ?_)
      obtain ⟨⟨rfl, rfl⟩, z, rfl, rfl, rfl⟩ := hP
      refine s_if_ne dX10_trim_29 (tgt := 35) (by decide) (fun cc => ?_) (fun cc => ?_)
      · have h := h.1 (bI_ne cc)
        refine s_aload_n dX10_trim_35 rfl rfl ?_
        refine s_iload_n dX10_trim_36 rfl rfl ?_
        obtain ⟨P, hcl, h⟩ := h
        refine s_callV (As := [vI x1]) (rest := []) (k := 0) dX10_trim_37 lkX10_168 rn0 ⟨by rw [rk0]; rfl, by rw [rk0]; decide⟩ lmX10_takes rfl rfl (Nat.le_of_ble_eq_true rfl) (by decide) (Nat.le_refl 0) (Nat.le_refl 0) (hC := hcl) (fun r n2 S2 m2 hP => ?_)
        obtain ⟨⟨rfl, rfl⟩, rfl, hq⟩ := hP
        have h := h m2 hq
        refine s_aload_n dX10_trim_40 rfl rfl ?_
        refine s_getR dX10_trim_41 flX10_50 rn0 rk0 rfl rr0_18 ?_
        refine s_iconst dX10_trim_44 (by decide) ?_
        refine s_dup2 dX10_trim_45 ?_
        refine s_iald (x := (m2 14 1)) dX10_trim_46 rn14 rk14 rl14 (by decide) (by decide) rfl ?_
        refine s_iload_n dX10_trim_47 rfl rfl ?_
        have kj21 : ∀ (v3 : Int), ((am_in (m2 14 1 + v3)) ∧ (∀ m4 : am_M, m4 = am_st m2 14 (am_up (m2 14) 1 (m2 14 1 + v3)) → ∀ v5 : Int, v5 = (if x2 = 0 then x3 else 0) → (am_in (m2 14 3 + v5)) ∧ (∀ m6 : am_M, m6 = am_st m4 14 (am_up (m4 14) 3 (m2 14 3 + v5)) → (am_in (m2 14 4 - x3)) ∧ (∀ m7 : am_M, m7 = am_st m6 14 (am_up (m6 14) 4 (m2 14 4 - x3)) → ((0 < m2 14 4 - x3 → (0 ≤ m2 14 1 + v3 → (am_in ((m2 14 1 + v3) + (m2 14 4 - x3)))))) ∧ (∀ v8 : Int, v8 = (if 0 < m2 14 4 - x3 then (if m2 14 1 + v3 < 0 then 0 else (if 600 < (m2 14 1 + v3) + (m2 14 4 - x3) then 0 else 1)) else 0) → (v8 = 0 → Q (-2) m7) ∧ (v8 ≠ 0 → (m2 14 3 + v5 < 0 → Q (-2) m7) ∧ (0 ≤ m2 14 3 + v5 → (am_in ((m2 14 3 + v5) + (m2 14 4 - x3))) ∧ ((in_ 0 6 (m2 14 2)) ∧ (in_ 0 4 1) ∧ (((m2 14 3 + v5) + (m2 14 4 - x3) ≤ rS m7 (m2 14 2) 1 → (ok_T (rg m7) (m7 1 25)) ∧ (am_in (m7 14 1 + m7 14 4)) ∧ ((¬ (¬ fre_ (rg m7) (m7 1 25) (m7 14 0) (m7 14 1) (m7 14 4) x1) → ∃ P : am_M → Prop, cl_V kR 2 mX10_begins [vR 0] m7 P ∧ (∀ m10 : am_M, P m10 → ∃ P : am_M → Prop, cl_V kR 1 mX10_shortens [vR 0] m10 P ∧ (∀ m12 : am_M, P m12 → ∃ P : am_M → Prop, cl_V kR 1 mX10_drops [vR 0, vI x1] m12 P ∧ (∀ m14 : am_M, P m14 → ∃ P : Int → am_M → Prop, cl_I kR 2 mX10_lays [vR 0] m14 P ∧ (∀ (z15 : Int) (m16 : am_M), P z15 m16 → ∃ P : Int → am_M → Prop, cl_I kR 3 mX10_ends [vR 0, vI (m12 14 4)] m16 P ∧ (∀ (z17 : Int) (m18 : am_M), P z17 m18 → Q z17 m18)))))) ∧ (¬ fre_ (rg m7) (m7 1 25) (m7 14 0) (m7 14 1) (m7 14 4) x1 → Q (-4) m7))) ∧ (rS m7 (m2 14 2) 1 < (m2 14 3 + v5) + (m2 14 4 - x3) → Q (-2) m7)))))))))) → at_I kR 5 mX10_trim 56 [vR 0, vI x1, vI x2, vI x3, vU, vU, vU] [vI v3, vI (m2 14 1), vI 1, vR 14] m2 Q := by
          intro v3 h
          obtain ⟨c, h⟩ := h
          refine s_iadd dX10_trim_56 (am_w_id c) ?_
          obtain ⟨m4, hm4⟩ : ∃ x : am_M, x = am_st m2 14 (am_up (m2 14) 1 (m2 14 1 + v3)) := ⟨_, rfl⟩
          have h := h m4 hm4
          refine s_iast dX10_trim_57 rn14 rk14 rl14 (by decide) (by decide) hm4.symm ?_
          refine s_aload_n dX10_trim_58 rfl rfl ?_
          refine s_getR dX10_trim_59 flX10_50 rn0 rk0 rfl rr0_18 ?_
          refine s_iconst dX10_trim_62 (by decide) ?_
          refine s_dup2 dX10_trim_63 ?_
          refine s_iald (x := (m2 14 3)) dX10_trim_64 rn14 rk14 rl14 (by decide) (by decide) (by subst hm4; rfl) ?_
          refine s_iload_n dX10_trim_65 rfl rfl ?_
          have kj20 : ∀ (v5 : Int), ((am_in (m2 14 3 + v5)) ∧ (∀ m6 : am_M, m6 = am_st m4 14 (am_up (m4 14) 3 (m2 14 3 + v5)) → (am_in (m2 14 4 - x3)) ∧ (∀ m7 : am_M, m7 = am_st m6 14 (am_up (m6 14) 4 (m2 14 4 - x3)) → ((0 < m2 14 4 - x3 → (0 ≤ m2 14 1 + v3 → (am_in ((m2 14 1 + v3) + (m2 14 4 - x3)))))) ∧ (∀ v8 : Int, v8 = (if 0 < m2 14 4 - x3 then (if m2 14 1 + v3 < 0 then 0 else (if 600 < (m2 14 1 + v3) + (m2 14 4 - x3) then 0 else 1)) else 0) → (v8 = 0 → Q (-2) m7) ∧ (v8 ≠ 0 → (m2 14 3 + v5 < 0 → Q (-2) m7) ∧ (0 ≤ m2 14 3 + v5 → (am_in ((m2 14 3 + v5) + (m2 14 4 - x3))) ∧ ((in_ 0 6 (m2 14 2)) ∧ (in_ 0 4 1) ∧ (((m2 14 3 + v5) + (m2 14 4 - x3) ≤ rS m7 (m2 14 2) 1 → (ok_T (rg m7) (m7 1 25)) ∧ (am_in (m7 14 1 + m7 14 4)) ∧ ((¬ (¬ fre_ (rg m7) (m7 1 25) (m7 14 0) (m7 14 1) (m7 14 4) x1) → ∃ P : am_M → Prop, cl_V kR 2 mX10_begins [vR 0] m7 P ∧ (∀ m10 : am_M, P m10 → ∃ P : am_M → Prop, cl_V kR 1 mX10_shortens [vR 0] m10 P ∧ (∀ m12 : am_M, P m12 → ∃ P : am_M → Prop, cl_V kR 1 mX10_drops [vR 0, vI x1] m12 P ∧ (∀ m14 : am_M, P m14 → ∃ P : Int → am_M → Prop, cl_I kR 2 mX10_lays [vR 0] m14 P ∧ (∀ (z15 : Int) (m16 : am_M), P z15 m16 → ∃ P : Int → am_M → Prop, cl_I kR 3 mX10_ends [vR 0, vI (m12 14 4)] m16 P ∧ (∀ (z17 : Int) (m18 : am_M), P z17 m18 → Q z17 m18)))))) ∧ (¬ fre_ (rg m7) (m7 1 25) (m7 14 0) (m7 14 1) (m7 14 4) x1 → Q (-4) m7))) ∧ (rS m7 (m2 14 2) 1 < (m2 14 3 + v5) + (m2 14 4 - x3) → Q (-2) m7))))))))) → at_I kR 5 mX10_trim 74 [vR 0, vI x1, vU, vI x3, vU, vU, vU] [vI v5, vI (m2 14 3), vI 3, vR 14] m4 Q := by
            intro v5 h
            obtain ⟨c, h⟩ := h
            refine s_iadd dX10_trim_74 (am_w_id c) ?_
            obtain ⟨m6, hm6⟩ : ∃ x : am_M, x = am_st m4 14 (am_up (m4 14) 3 (m2 14 3 + v5)) := ⟨_, rfl⟩
            have h := h m6 hm6
            refine s_iast dX10_trim_75 rn14 rk14 rl14 (by decide) (by decide) hm6.symm ?_
            refine s_aload_n dX10_trim_76 rfl rfl ?_
            refine s_getR dX10_trim_77 flX10_50 rn0 rk0 rfl rr0_18 ?_
            refine s_iconst dX10_trim_80 (by decide) ?_
            refine s_dup2 dX10_trim_81 ?_
            refine s_iald (x := (m2 14 4)) dX10_trim_82 rn14 rk14 rl14 (by decide) (by decide) (by subst hm6; subst hm4; rfl) ?_
            refine s_iload_n dX10_trim_83 rfl rfl ?_
            obtain ⟨c, h⟩ := h
            refine s_isub dX10_trim_84 (am_w_id c) ?_
            obtain ⟨m7, hm7⟩ : ∃ x : am_M, x = am_st m6 14 (am_up (m6 14) 4 (m2 14 4 - x3)) := ⟨_, rfl⟩
            have h := h m7 hm7
            refine s_iast dX10_trim_85 rn14 rk14 rl14 (by decide) (by decide) hm7.symm ?_
            refine s_aload_n dX10_trim_86 rfl rfl ?_
            refine s_getR dX10_trim_87 flX10_50 rn0 rk0 rfl rr0_18 ?_
            refine s_iconst dX10_trim_90 (by decide) ?_
            refine s_iald (x := (m2 14 4 - x3)) dX10_trim_91 rn14 rk14 rl14 (by decide) (by decide) (by subst hm7; rfl) ?_
            obtain ⟨hsd, h⟩ := h
            have kj19 : ∀ (v8 : Int), ((v8 = 0 → Q (-2) m7) ∧ (v8 ≠ 0 → (m2 14 3 + v5 < 0 → Q (-2) m7) ∧ (0 ≤ m2 14 3 + v5 → (am_in ((m2 14 3 + v5) + (m2 14 4 - x3))) ∧ ((in_ 0 6 (m2 14 2)) ∧ (in_ 0 4 1) ∧ (((m2 14 3 + v5) + (m2 14 4 - x3) ≤ rS m7 (m2 14 2) 1 → (ok_T (rg m7) (m7 1 25)) ∧ (am_in (m7 14 1 + m7 14 4)) ∧ ((¬ (¬ fre_ (rg m7) (m7 1 25) (m7 14 0) (m7 14 1) (m7 14 4) x1) → ∃ P : am_M → Prop, cl_V kR 2 mX10_begins [vR 0] m7 P ∧ (∀ m10 : am_M, P m10 → ∃ P : am_M → Prop, cl_V kR 1 mX10_shortens [vR 0] m10 P ∧ (∀ m12 : am_M, P m12 → ∃ P : am_M → Prop, cl_V kR 1 mX10_drops [vR 0, vI x1] m12 P ∧ (∀ m14 : am_M, P m14 → ∃ P : Int → am_M → Prop, cl_I kR 2 mX10_lays [vR 0] m14 P ∧ (∀ (z15 : Int) (m16 : am_M), P z15 m16 → ∃ P : Int → am_M → Prop, cl_I kR 3 mX10_ends [vR 0, vI (m12 14 4)] m16 P ∧ (∀ (z17 : Int) (m18 : am_M), P z17 m18 → Q z17 m18)))))) ∧ (¬ fre_ (rg m7) (m7 1 25) (m7 14 0) (m7 14 1) (m7 14 4) x1 → Q (-4) m7))) ∧ (rS m7 (m2 14 2) 1 < (m2 14 3 + v5) + (m2 14 4 - x3) → Q (-2) m7)))))) → at_I kR 5 mX10_trim 128 [vR 0, vI x1, vU, vU, vU, vU, vU] [vI v8] m7 Q := by
              intro v8 h
              refine s_istore dX10_trim_128 (by decide) (L' := [vR 0, vI x1, vU, vU, vI v8, vU, vU]) rfl ?_
              refine s_iload dX10_trim_130 rfl ?_
              refine s_if_eq dX10_trim_132 (tgt := 171) (by decide) (fun cc => ?_) (fun cc => ?_)
              · have h := h.1 cc
                refine s_bipush dX10_trim_171 (by decide) ?_
                exact s_ireturn dX10_trim_173 (Or.inl rfl) ⟨⟨rfl, rfl⟩, _, rfl, h⟩
              · have h := h.2 cc
                refine s_aload_n dX10_trim_135 rfl rfl ?_
                refine s_getR dX10_trim_136 flX10_50 rn0 rk0 rfl rr0_18 ?_
                refine s_iconst dX10_trim_139 (by decide) ?_
                refine s_iald (x := (m2 14 3 + v5)) dX10_trim_140 rn14 rk14 rl14 (by decide) (by decide) (by subst hm7; subst hm6; rfl) ?_
                refine s_if_lt dX10_trim_141 (tgt := 171) (by decide) (fun cc => ?_) (fun cc => ?_)
                · have h := h.1 cc
                  refine s_bipush dX10_trim_171 (by decide) ?_
                  exact s_ireturn dX10_trim_173 (Or.inl rfl) ⟨⟨rfl, rfl⟩, _, rfl, h⟩
                · have h := h.2 cc
                  refine s_aload_n dX10_trim_144 rfl rfl ?_
                  refine s_getR dX10_trim_145 flX10_50 rn0 rk0 rfl rr0_18 ?_
                  refine s_iconst dX10_trim_148 (by decide) ?_
                  refine s_iald (x := (m2 14 3 + v5)) dX10_trim_149 rn14 rk14 rl14 (by decide) (by decide) (by subst hm7; subst hm6; rfl) ?_
                  refine s_aload_n dX10_trim_150 rfl rfl ?_
                  refine s_getR dX10_trim_151 flX10_50 rn0 rk0 rfl rr0_18 ?_
                  refine s_iconst dX10_trim_154 (by decide) ?_
                  refine s_iald (x := (m2 14 4 - x3)) dX10_trim_155 rn14 rk14 rl14 (by decide) (by decide) (by subst hm7; rfl) ?_
                  obtain ⟨c, h⟩ := h
                  refine s_iadd dX10_trim_156 (am_w_id c) ?_
                  refine s_aload_n dX10_trim_157 rfl rfl ?_
                  refine s_aload_n dX10_trim_158 rfl rfl ?_
                  refine s_getR dX10_trim_159 flX10_50 rn0 rk0 rfl rr0_18 ?_
                  refine s_iconst dX10_trim_162 (by decide) ?_
                  refine s_iald (x := (m2 14 2)) dX10_trim_163 rn14 rk14 rl14 (by decide) (by decide) (by subst hm7; subst hm6; subst hm4; rfl) ?_
                  refine s_iconst dX10_trim_164 (by decide) ?_
                  obtain ⟨p0, p1, h⟩ := h
                  refine s_callV (As := [vI (m2 14 2), vI 1]) (rest := [vI ((m2 14 3 + v5) + (m2 14 4 - x3))]) (k := 0) dX10_trim_165 lkX10_114 rn0 ⟨by rw [rk0]; rfl, by rw [rk0]; decide⟩ lmX10_sourceOf rfl rfl (Nat.le_of_ble_eq_true rfl) (by decide) (Nat.le_refl 0) (Nat.le_refl 0) (hC := sp_X10_sourceOf (Q := fun z m => rS m7 (m2 14 2) 1 = z ∧ m7 = m) p0 p1 ⟨rfl, rfl⟩) (fun r n2 S2 m2 hP => ?_)
                  obtain ⟨⟨rfl, rfl⟩, z, rfl, rfl, rfl⟩ := hP
                  refine s_icmp_le dX10_trim_168 (tgt := 174) (by decide) (fun cc => ?_) (fun cc => ?_)
                  · have h := h.1 cc
                    refine s_aload_n dX10_trim_174 rfl rfl ?_
                    refine s_iload_n dX10_trim_175 rfl rfl ?_
                    obtain ⟨p0, p1, h⟩ := h
                    refine s_callV (As := [vI x1]) (rest := []) (k := 0) dX10_trim_176 lkX10_159 rn0 ⟨by rw [rk0]; rfl, by rw [rk0]; decide⟩ lmX10_isShared rfl rfl (Nat.le_of_ble_eq_true rfl) (by decide) (Nat.le_refl 0) (Nat.le_refl 0) (hC := sp_X10_isShared (Q := fun z m => bI (¬ fre_ (rg m7) (m7 1 25) (m7 14 0) (m7 14 1) (m7 14 4) x1) = z ∧ m7 = m) p0 p1 ⟨rfl, rfl⟩) (fun r n2 S2 m2 hP => ?_)
                    obtain ⟨⟨rfl, rfl⟩, z, rfl, rfl, rfl⟩ := hP
                    refine s_if_eq dX10_trim_179 (tgt := 185) (by decide) (fun cc => ?_) (fun cc => ?_)
                    · have h := h.1 (bI_eq cc)
                      refine s_aload_n dX10_trim_185 rfl rfl ?_
                      obtain ⟨P, hcl, h⟩ := h
                      refine s_callV (As := []) (rest := []) (k := 0) dX10_trim_186 lkX10_107 rn0 ⟨by rw [rk0]; rfl, by rw [rk0]; decide⟩ lmX10_begins rfl rfl (Nat.le_of_ble_eq_true rfl) (by decide) (Nat.le_refl 0) (Nat.le_refl 0) (hC := hcl) (fun r n2 S2 m10 hP => ?_)
                      obtain ⟨⟨rfl, rfl⟩, rfl, hq⟩ := hP
                      have h := h m10 hq
                      refine s_aload_n dX10_trim_189 rfl rfl ?_
                      obtain ⟨P, hcl, h⟩ := h
                      refine s_callV (As := []) (rest := []) (k := 0) dX10_trim_190 lkX10_181 rn0 ⟨by rw [rk0]; rfl, by rw [rk0]; decide⟩ lmX10_shortens rfl rfl (Nat.le_of_ble_eq_true rfl) (by decide) (Nat.le_refl 0) (Nat.le_refl 0) (hC := hcl) (fun r n2 S2 m12 hP => ?_)
                      obtain ⟨⟨rfl, rfl⟩, rfl, hq⟩ := hP
                      have h := h m12 hq
                      refine s_aload_n dX10_trim_193 rfl rfl ?_
                      refine s_getR dX10_trim_194 flX10_50 rn0 rk0 rfl rr0_18 ?_
                      refine s_iconst dX10_trim_197 (by decide) ?_
                      refine s_iald (x := (m12 14 4)) dX10_trim_198 rn14 rk14 rl14 (by decide) (by decide) rfl ?_
                      refine s_istore dX10_trim_199 (by decide) (L' := [vR 0, vI x1, vU, vU, vI v8, vI (m12 14 4), vU]) rfl ?_
                      refine s_aload_n dX10_trim_201 rfl rfl ?_
                      refine s_iload_n dX10_trim_202 rfl rfl ?_
                      obtain ⟨P, hcl, h⟩ := h
                      refine s_callV (As := [vI x1]) (rest := []) (k := 0) dX10_trim_203 lkX10_172 rn0 ⟨by rw [rk0]; rfl, by rw [rk0]; decide⟩ lmX10_drops rfl rfl (Nat.le_of_ble_eq_true rfl) (by decide) (Nat.le_refl 0) (Nat.le_refl 0) (hC := hcl) (fun r n2 S2 m14 hP => ?_)
                      obtain ⟨⟨rfl, rfl⟩, rfl, hq⟩ := hP
                      have h := h m14 hq
                      refine s_aload_n dX10_trim_206 rfl rfl ?_
                      obtain ⟨P, hcl, h⟩ := h
                      refine s_callV (As := []) (rest := []) (k := 0) dX10_trim_207 lkX10_162 rn0 ⟨by rw [rk0]; rfl, by rw [rk0]; decide⟩ lmX10_lays rfl rfl (Nat.le_of_ble_eq_true rfl) (by decide) (Nat.le_refl 0) (Nat.le_refl 0) (hC := hcl) (fun r n2 S2 m16 hP => ?_)
                      obtain ⟨⟨rfl, rfl⟩, z15, rfl, hq⟩ := hP
                      have h := h z15 m16 hq
                      refine s_istore dX10_trim_210 (by decide) (L' := [vR 0, vI x1, vU, vU, vI v8, vI (m12 14 4), vI z15]) rfl ?_
                      refine s_aload_n dX10_trim_212 rfl rfl ?_
                      refine s_iload dX10_trim_213 rfl ?_
                      obtain ⟨P, hcl, h⟩ := h
                      refine s_callV (As := [vI (m12 14 4)]) (rest := []) (k := 0) dX10_trim_215 lkX10_110 rn0 ⟨by rw [rk0]; rfl, by rw [rk0]; decide⟩ lmX10_ends rfl rfl (Nat.le_of_ble_eq_true rfl) (by decide) (Nat.le_refl 0) (Nat.le_refl 0) (hC := hcl) (fun r n2 S2 m18 hP => ?_)
                      obtain ⟨⟨rfl, rfl⟩, z17, rfl, hq⟩ := hP
                      have h := h z17 m18 hq
                      exact s_ireturn dX10_trim_218 (Or.inl rfl) ⟨⟨rfl, rfl⟩, _, rfl, h⟩
                    · have h := h.2 (bI_ne cc)
                      refine s_bipush dX10_trim_182 (by decide) ?_
                      exact s_ireturn dX10_trim_184 (Or.inl rfl) ⟨⟨rfl, rfl⟩, _, rfl, h⟩
                  · have h := h.2 cc
                    refine s_bipush dX10_trim_171 (by decide) ?_
                    exact s_ireturn dX10_trim_173 (Or.inl rfl) ⟨⟨rfl, rfl⟩, _, rfl, h⟩
            refine s_if_le dX10_trim_92 (tgt := 127) (by decide) (fun cc => ?_) (fun cc => ?_)
            · have hp0 := cc
              refine s_iconst dX10_trim_127 (by decide) ?_
              exact am_lesS (kj19 0 (h 0 (by rw [if_neg (Int.not_lt.mpr hp0)]))) ⟨Or.inr rfl, Or.inr rfl, Or.inl rfl, Or.inl rfl, Or.inl rfl, Or.inl rfl, Or.inl rfl, trivial⟩
            · have hp0 := cc
              have hsd := hsd hp0
              refine s_aload_n dX10_trim_95 rfl rfl ?_
              refine s_getR dX10_trim_96 flX10_50 rn0 rk0 rfl rr0_18 ?_
              refine s_iconst dX10_trim_99 (by decide) ?_
              refine s_iald (x := (m2 14 1 + v3)) dX10_trim_100 rn14 rk14 rl14 (by decide) (by decide) (by subst hm7; subst hm6; subst hm4; rfl) ?_
              refine s_if_lt dX10_trim_101 (tgt := 127) (by decide) (fun cc => ?_) (fun cc => ?_)
              · have hp1 := cc
                refine s_iconst dX10_trim_127 (by decide) ?_
                exact am_lesS (kj19 0 (h 0 (by rw [if_pos hp0, if_pos hp1]))) ⟨Or.inr rfl, Or.inr rfl, Or.inl rfl, Or.inl rfl, Or.inl rfl, Or.inl rfl, Or.inl rfl, trivial⟩
              · have hp1 := cc
                have hsd := hsd hp1
                refine s_aload_n dX10_trim_104 rfl rfl ?_
                refine s_getR dX10_trim_105 flX10_50 rn0 rk0 rfl rr0_18 ?_
                refine s_iconst dX10_trim_108 (by decide) ?_
                refine s_iald (x := (m2 14 1 + v3)) dX10_trim_109 rn14 rk14 rl14 (by decide) (by decide) (by subst hm7; subst hm6; subst hm4; rfl) ?_
                refine s_aload_n dX10_trim_110 rfl rfl ?_
                refine s_getR dX10_trim_111 flX10_50 rn0 rk0 rfl rr0_18 ?_
                refine s_iconst dX10_trim_114 (by decide) ?_
                refine s_iald (x := (m2 14 4 - x3)) dX10_trim_115 rn14 rk14 rl14 (by decide) (by decide) (by subst hm7; rfl) ?_
                have c := hsd
                refine s_iadd dX10_trim_116 (am_w_id c) ?_
                refine s_sipush dX10_trim_117 (by decide) ?_
                refine s_icmp_gt dX10_trim_120 (tgt := 127) (by decide) (fun cc => ?_) (fun cc => ?_)
                · have hp2 := cc
                  refine s_iconst dX10_trim_127 (by decide) ?_
                  exact am_lesS (kj19 0 (h 0 (by rw [if_pos hp0, if_neg (Int.not_lt.mpr hp1), if_pos hp2]))) ⟨Or.inr rfl, Or.inr rfl, Or.inl rfl, Or.inl rfl, Or.inl rfl, Or.inl rfl, Or.inl rfl, trivial⟩
                · have hp2 := cc
                  refine s_iconst dX10_trim_123 (by decide) ?_
                  refine s_goto dX10_trim_124 (tgt := 128) (by decide) ?_
                  exact am_lesS (kj19 1 (h 1 (by rw [if_pos hp0, if_neg (Int.not_lt.mpr hp1), if_neg (Int.not_lt.mpr hp2)]))) ⟨Or.inr rfl, Or.inr rfl, Or.inl rfl, Or.inl rfl, Or.inl rfl, Or.inl rfl, Or.inl rfl, trivial⟩
          refine s_if_ne dX10_trim_66 (tgt := 73) (by decide) (fun cc => ?_) (fun cc => ?_)
          · have hp0 := cc
            refine s_iconst dX10_trim_73 (by decide) ?_
            exact am_lesS (kj20 0 (h 0 (by rw [if_neg hp0]))) ⟨Or.inr rfl, Or.inr rfl, Or.inl rfl, Or.inr rfl, Or.inl rfl, Or.inl rfl, Or.inl rfl, trivial⟩
          · have hp0 := cc
            refine s_iload_n dX10_trim_69 rfl rfl ?_
            refine s_goto dX10_trim_70 (tgt := 74) (by decide) ?_
            exact am_lesS (kj20 x3 (h x3 (by rw [if_pos hp0]))) ⟨Or.inr rfl, Or.inr rfl, Or.inl rfl, Or.inr rfl, Or.inl rfl, Or.inl rfl, Or.inl rfl, trivial⟩
        refine s_if_ne dX10_trim_48 (tgt := 55) (by decide) (fun cc => ?_) (fun cc => ?_)
        · have hp0 := cc
          refine s_iconst dX10_trim_55 (by decide) ?_
          exact kj21 0 (h 0 (by rw [if_neg hp0]))
        · have hp0 := cc
          refine s_iload_n dX10_trim_51 rfl rfl ?_
          refine s_goto dX10_trim_52 (tgt := 56) (by decide) ?_
          exact kj21 x3 (h x3 (by rw [if_pos hp0]))
      · have h := h.2 (bI_eq cc)
        refine s_bipush dX10_trim_32 (by decide) ?_
        exact s_ireturn dX10_trim_34 (Or.inl rfl) ⟨⟨rfl, rfl⟩, _, rfl, h⟩
  · have h := h.2 (bI_eq cc)
    refine s_iconst dX10_trim_8 (by decide) ?_
    exact s_ireturn dX10_trim_9 (Or.inl rfl) ⟨⟨rfl, rfl⟩, _, rfl, h⟩
theorem ve_X10_trim {x1 x2 x3 : Int} {μ : am_M} {Q : Int → am_M → Prop} (h : at_I kR 5 mX10_trim 0 [vR 0, vI x1, vI x2, vI x3, vU, vU, vU] [] μ Q) : cl_I kR 5 mX10_trim [vR 0, vI x1, vI x2, vI x3] μ Q := am_intro pmX10_trim (Nat.le_of_ble_eq_true rfl) rfl h
theorem sp_X10_trim {K : Int} {μ : am_M} {c sd fr : Int} (hI : RI K μ) (hK : K < 99999) : cl_I kR 5 mX10_trim [vR 0, vI c, vI sd, vI fr] μ (fun z m => rn_ [] μ m z (o_trm (pR μ) c sd fr)) := by
  have hV := hI.1
  have ht := trL hV
  have hn := ht.1
  have h25 := vR_n hV
  have k8 : ∀ k : Int, 0 ≤ k → k < 8 → k = 0 ∨ k = 1 ∨ k = 2 ∨ k = 3 ∨ k = 4 ∨ k = 5 ∨ k = 6 ∨ k = 7 := fun k _ _ => by omega
  unfold o_trm l_trm
  have eS : pS (pR μ) = rS μ := rfl
  rw [eS]
  refine ve_X10_trim (vc_X10_trim_0 ⟨(by (try unfold am_in); (try unfold in_ at *); omega), fun q => ?_, fun q => rn_no hV rm_rf rfl (by omega) (by rw [cif_t (by omega)]; rfl)⟩)
  obtain ⟨A, r, B, e, hc, hg, o, vv, hll, -, h24⟩ := cl_at hV q.1 q.2
  rw [cif_f (by omega), hg]
  have o2 := o
  unfold okC in_ at o2
  have hv := pL_v hV.1
  have rc := (hv.1 r (by rw [e]; simp))
  have rM : r 2 < μ 1 0 := rc.2.1
  have hS1 : in_ 1 201 (rS μ (r 2) 1) := (hV.1.hS.2 (r 2) (by omega) rM).2.1
  unfold in_ at hS1
  have ht' := ht
  rw [e] at ht'
  have eE : (pL (pR μ)).eraseIdx c.toNat = A ++ B := by rw [e]; exact er_at hc
  rw [eE]
  have x1 : trR r sd fr 1 = r 1 + (if sd = 0 then fr else 0) := by simp [trR]
  have x3 : trR r sd fr 3 = r 3 + (if sd = 0 then fr else 0) := by simp [trR]
  have x4 : trR r sd fr 4 = r 4 - fr := by simp [trR]
  have x0 : trR r sd fr 0 = r 0 := by simp [trR]
  rw [x1, x3]
  refine ⟨fun a => rn_no hV rm_rf rfl (by omega) (by rw [cif_t (by omega)]; rfl), fun a => ⟨fun b => ?_, fun b => rn_no hV rm_rf rfl (by omega) (by rw [cif_t (by omega)]; rfl)⟩⟩
  refine ⟨_, sp_X10_takes (by (try unfold am_in); (try unfold in_ at *); omega), fun m2 ⟨f2, e2⟩ v3 h3 => ?_⟩
  have em2 : em_ m2 r := fun k k0 k1 => (e2 k k0 k1).trans (vv k k0 k1)
  obtain ⟨-, y1, y2, y3, y4, -⟩ := em_0 em2
  rw [y1, y2, y3, y4, ← h3]
  have b3 : -600 ≤ v3 ∧ v3 ≤ 600 := by rw [h3]; split <;> omega
  refine ⟨(by (try unfold am_in); (try unfold in_ at *); omega), fun m4 e4 v5 h5 => ?_⟩
  have e53 : v5 = v3 := by rw [h5, h3]
  subst e53
  refine ⟨(by (try unfold am_in); (try unfold in_ at *); omega), fun m6 e6 => ⟨(by (try unfold am_in); (try unfold in_ at *); omega), fun m7 e7 => ⟨fun _ _ => (by (try unfold am_in); (try unfold in_ at *); omega), fun v8 h8 => ?_⟩⟩⟩
  obtain ⟨N, hN⟩ : ∃ N : Rw, N = fun k => if k = 4 then r 4 - fr else if k = 3 then r 3 + v5 else if k = 1 then r 1 + v5 else r k := ⟨_, rfl⟩
  have em7 : em_ m7 N := fun k k0 k1 => by
    have a7 : m7 14 = am_up (am_up (am_up (m2 14) 1 (r 1 + v5)) 3 (r 3 + v5)) 4 (r 4 - fr) := by
      rw [e7, st_s, e6, st_s, e4, st_s]
    have z := em2 k k0 k1
    rw [a7, hN]
    rcases k8 k k0 k1 with rfl | rfl | rfl | rfl | rfl | rfl | rfl | rfl <;> simp [am_up] <;> exact z
  have f7 : fr_ [14] μ m7 := by
    rw [e7, e6, e4]
    exact fr_tr f2 (fr_tr (fr_st (by simp)) (fr_tr (fr_st (by simp)) (fr_st (by simp))))
  have p7 := f7 1 (by decide)
  obtain ⟨y0, y1, y2, y3, y4, -⟩ := em_0 em7
  have N0 : N 0 = r 0 := by rw [hN]; simp
  have N1 : N 1 = r 1 + v5 := by rw [hN]; simp
  have N4 : N 4 = r 4 - fr := by rw [hN]; simp
  rw [N0] at y0
  rw [N1] at y1
  rw [N4] at y4
  have h8' : v8 = bI (0 < r 4 - fr ∧ 0 ≤ r 1 + v5 ∧ (r 1 + v5) + (r 4 - fr) ≤ 600) := by
    rw [h8]
    by_cases a1 : 0 < r 4 - fr
    · rw [if_pos a1]
      by_cases a2 : r 1 + v5 < 0
      · rw [if_pos a2, bI_f (by omega)]
      · rw [if_neg a2]
        by_cases a3 : 600 < (r 1 + v5) + (r 4 - fr)
        · rw [if_pos a3, bI_f (by omega)]
        · rw [if_neg a3, bI_t (by omega)]
    · rw [if_neg a1, bI_f (by omega)]
  have bad : (sd < 0 ∨ 1 < sd ∨ r 4 - 1 < fr ∨ fr < r 4 - 200) ∨ (r 1 + v5 < 0 ∨ 600 - (r 4 - fr) < r 1 + v5 ∨ r 3 + v5 < 0 ∨ rS μ (r 2) 1 - (r 4 - fr) < r 3 + v5) → ∀ X Y : Rl, rn_ [] μ m7 (-2) (o_L (pR μ) (cif (sd < 0 ∨ 1 < sd ∨ r 4 - 1 < fr ∨ fr < r 4 - 200) (-2, pL (pR μ)) (cif (r 1 + v5 < 0 ∨ 600 - (r 4 - fr) < r 1 + v5 ∨ r 3 + v5 < 0 ∨ rS μ (r 2) 1 - (r 4 - fr) < r 3 + v5) (-2, pL (pR μ)) X))) := fun h X Y => rn_no hV (rm_fr f7 (by decide)) p7 (by omega) (by
    by_cases c1 : sd < 0 ∨ 1 < sd ∨ r 4 - 1 < fr ∨ fr < r 4 - 200
    · rw [cif_t c1]; rfl
    · rw [cif_f c1, cif_t (h.resolve_left c1)]; rfl)
  rw [h8']
  refine ⟨fun w => bad ?_ _ (0, []), fun w => ?_⟩
  · have w2 : ¬ (0 < r 4 - fr ∧ 0 ≤ r 1 + v5 ∧ (r 1 + v5) + (r 4 - fr) ≤ 600) := fun z => bI_eq w z
    omega
  · have w2 := bI_ne w
    refine ⟨fun w3 => bad (by omega) _ (0, []), fun w3 => ⟨(by (try unfold am_in); (try unfold in_ at *); omega), (by (try unfold am_in); (try unfold in_ at *); omega), (by (try unfold am_in); (try unfold in_ at *); omega), ?_⟩⟩
    have eS7 : rS m7 = rS μ := by
      unfold rS
      rw [p7]
    rw [eS7]
    refine ⟨fun w4 => ?_, fun w4 => bad (by omega) _ (0, [])⟩
    rw [cif_f (p := sd < 0 ∨ 1 < sd ∨ r 4 - 1 < fr ∨ fr < r 4 - 200) (by omega), cif_f (p := r 1 + v5 < 0 ∨ 600 - (r 4 - fr) < r 1 + v5 ∨ r 3 + v5 < 0 ∨ rS μ (r 2) 1 - (r 4 - fr) < r 3 + v5) (by omega)]
    have hf := fre_Lx (r := trR r sd fr) ht' hc
    rw [x0, x1, x4, ← h3] at hf
    rw [rg_1 p7, p7, y0, y1, y4]
    refine ⟨vR_ok hV, (by (try unfold am_in); (try unfold in_ at *); omega), fun g => ?_, fun g => rn_no hV (rm_fr f7 (by decide)) p7 (by omega) (by rw [cif_t (fun w => g (hf.mpr w))]; rfl)⟩
    have g' : freR (A ++ B) (trR r sd fr) := hf.mp (Classical.byContradiction g)
    rw [cif_f (fun w => w g')]
    refine ⟨_, sp_X10_begins, fun m10 ⟨f10, e10⟩ => ?_⟩
    have b10 : bg_ [] μ m10 := bg_of (rm_fr f7 (by decide)) p7 f10 e10
    have p10 : m10 1 = μ 1 := (f10 1 (by decide)).trans p7
    refine ⟨_, sp_X10_shortens (em_fr f10 (by decide) em7) (by rw [N4]; ((try unfold am_in); (try unfold in_ at *); omega)) (by rw [hN]; simp; ((try unfold am_in); (try unfold in_ at *); omega)) (by rw [hN]; simp; ((try unfold am_in); (try unfold in_ at *); omega)), fun m12 ⟨f12, e12⟩ => ?_⟩
    have em12 : em_ m12 (trR r sd fr) := fun k k0 k1 => by
      rw [e12 k k0 k1, hN]
      rcases k8 k k0 k1 with rfl | rfl | rfl | rfl | rfl | rfl | rfl | rfl <;> simp [shR, trR, ← h3] <;> (repeat' split) <;> omega
    have p12 : m12 1 = μ 1 := (f12 1 (by decide)).trans p10
    refine ⟨_, sp_X10_drops (tr_r1 p12 ht') hc (by rw [← e]; omega), fun m14 ⟨f14, v14, t14⟩ => ?_⟩
    refine ⟨_, sp_X10_lays t14 (em_fr f14 (by decide) em12) (by simp; omega), fun z16 m16 ⟨hz, f16, v16, t16⟩ => ?_⟩
    have y12 := (em_0 em12).2.2.2.2.1
    rw [x4] at y12
    rw [y12]
    have hs := hv.2.1
    have hl4 := hv.l4
    rw [e] at hs hl4
    obtain ⟨p1, p2, -, -, -, -⟩ := srt_pt hs
    have ia := ins_at (r := trR r sd fr) (A := A) (B := B) (fun a' ha => by
      have o1 := p1 a' ha
      have o3 := hl4 a' (by simp [ha])
      have o4 := g' a' (by simp [ha])
      rw [x0, x1, x4, ← h3] at o4
      unfold bfr_ at o1
      unfold lsR
      simp only [decide_eq_true_eq]
      rw [x0, x1, ← h3]
      have : v5 = 0 ∨ v5 = fr := by rw [h3]; split <;> omega
      omega) (fun b' hb => by
      have o1 := p2 b' hb
      unfold bfr_ at o1
      unfold lsR
      simp only [decide_eq_false_iff_not]
      rw [x0, x1, ← h3]
      have : v5 = 0 ∨ v5 = fr := by rw [h3]; split <;> omega
      omega)
    rw [ia.1] at t16
    have w : fv_ μ m16 := fv_tr (fv_tr (fv_e p12) v14) v16
    refine rn_ok hI hK (by simp) (bg_fr (bg_fr (bg_fr b10 f12 (by decide) (by decide)) f14 (by decide) (by decide)) f16 (by decide) (by decide)) ?_ (hz_0 (hz_fv w hV.1.hl (hzL hV))) (by omega) rfl
    show pe_ (wL (pR μ) ((pL (pR μ)).set c.toNat (trR r sd fr))) (pR m16)
    rw [e, set_at hc]
    exact peL hV t16 w

/-! the reference's loudness -/
theorem vc_X10_loudnessOf_0 {x1 x2 : Int} {μ : am_M} {Q : Int → am_M → Prop} (h : (vP (pR μ)) ∧ ((am_in ((μ 1 467) * (μ 1 467))) ∧ (at_I kR 4 mX10_loudnessOf 33 [vR 0, vI x1, vI x2, vI (winP (pR μ)), vI ((μ 1 467) * (μ 1 467)), vI 0, vI 0, vI 0, vU, vU, vU, vU] [] μ Q))) : at_I kR 4 mX10_loudnessOf 0 [vR 0, vI x1, vI x2, vU, vU, vU, vU, vU, vU, vU, vU, vU] [] μ Q := by
  refine s_aload_n dX10_loudnessOf_0 rfl rfl ?_
  obtain ⟨p0, h⟩ := h
  refine s_callV (As := []) (rest := []) (k := 0) dX10_loudnessOf_1 lkX10_224 rn0 ⟨by rw [rk0]; rfl, by rw [rk0]; decide⟩ lmX10_windows rfl rfl (Nat.le_of_ble_eq_true rfl) (by decide) (Nat.le_refl 0) (Nat.le_refl 0) (hC := sp_X10_windows (Q := fun z m => winP (pR μ) = z ∧ μ = m) p0 ⟨rfl, rfl⟩) (fun r n2 S2 m2 hP => ?_)
  obtain ⟨⟨rfl, rfl⟩, z, rfl, rfl, rfl⟩ := hP
  refine s_istore_n dX10_loudnessOf_4 rfl (by decide) (L' := [vR 0, vI x1, vI x2, vI (winP (pR μ)), vU, vU, vU, vU, vU, vU, vU, vU]) rfl ?_
  refine s_aload_n dX10_loudnessOf_5 rfl rfl ?_
  refine s_getR dX10_loudnessOf_6 flX10_9 rn0 rk0 rfl rr0_0 ?_
  refine s_sipush dX10_loudnessOf_9 (by decide) ?_
  refine s_iald (x := (μ 1 467)) dX10_loudnessOf_12 rn1 rk1 rl1 (by decide) (by decide) rfl ?_
  refine s_aload_n dX10_loudnessOf_13 rfl rfl ?_
  refine s_getR dX10_loudnessOf_14 flX10_9 rn0 rk0 rfl rr0_0 ?_
  refine s_sipush dX10_loudnessOf_17 (by decide) ?_
  refine s_iald (x := (μ 1 467)) dX10_loudnessOf_20 rn1 rk1 rl1 (by decide) (by decide) rfl ?_
  obtain ⟨c, h⟩ := h
  refine s_imul dX10_loudnessOf_21 (am_w_id c) ?_
  refine s_istore dX10_loudnessOf_22 (by decide) (L' := [vR 0, vI x1, vI x2, vI (winP (pR μ)), vI ((μ 1 467) * (μ 1 467)), vU, vU, vU, vU, vU, vU, vU]) rfl ?_
  refine s_iconst dX10_loudnessOf_24 (by decide) ?_
  refine s_istore dX10_loudnessOf_25 (by decide) (L' := [vR 0, vI x1, vI x2, vI (winP (pR μ)), vI ((μ 1 467) * (μ 1 467)), vI 0, vU, vU, vU, vU, vU, vU]) rfl ?_
  refine s_iconst dX10_loudnessOf_27 (by decide) ?_
  refine s_istore dX10_loudnessOf_28 (by decide) (L' := [vR 0, vI x1, vI x2, vI (winP (pR μ)), vI ((μ 1 467) * (μ 1 467)), vI 0, vI 0, vU, vU, vU, vU, vU]) rfl ?_
  refine s_iconst dX10_loudnessOf_30 (by decide) ?_
  refine s_istore dX10_loudnessOf_31 (by decide) (L' := [vR 0, vI x1, vI x2, vI (winP (pR μ)), vI ((μ 1 467) * (μ 1 467)), vI 0, vI 0, vI 0, vU, vU, vU, vU]) rfl ?_
  exact h
theorem vc_X10_loudnessOf_33 {x1 x2 x3 x4 x5 x6 x7 : Int} {μ : am_M} {Q : Int → am_M → Prop} (h : (x3 ≤ x7 → ((x5 ≠ x3 → (am_in (x3 - x5)) ∧ ((0 ≤ x6) ∧ (0 < x3 - x5)))) ∧ (∀ v1 : Int, v1 = (if x5 = x3 then 0 else x6 / (x3 - x5)) → at_I kR 4 mX10_loudnessOf 137 [vR 0, vI x1, vU, vI x3, vI x4, vI x5, vU, vI v1, vI 0, vI 0, vI 0, vU] [] μ Q)) ∧ (x7 < x3 → (rsnd_ μ) ∧ (vP (pR μ)) ∧ (0 ≤ x7 ∧ x7 < winP (pR μ)) ∧ (in_ 0 401 x2) ∧ ((0 ≤ x7) ∧ (x7 < 160) ∧ (∀ m3 : am_M, m3 = am_st μ 16 (am_up (μ 16) (x7).toNat (lvP (pR μ) x2 x7)) → (0 ≤ x7) ∧ (x7 < 160) ∧ (∀ v4 : Int, v4 = (if lvP (pR μ) x2 x7 < x4 then 1 else 0) → (am_in (x5 + v4)) ∧ ((0 ≤ x7) ∧ (x7 < 160) ∧ (((x4 ≤ lvP (pR μ) x2 x7 → (0 ≤ x7) ∧ (x7 < 160))) ∧ (∀ v5 : Int, v5 = (if lvP (pR μ) x2 x7 < x4 then 0 else lvP (pR μ) x2 x7) → (am_in (x6 + v5)) ∧ ((am_in (x7 + 1)) ∧ (at_I kR 4 mX10_loudnessOf 33 [vR 0, vI x1, vI x2, vI x3, vI x4, vI (x5 + v4), vI (x6 + v5), vI (x7 + 1), vU, vU, vU, vU] [] m3 Q)))))))))) : at_I kR 4 mX10_loudnessOf 33 [vR 0, vI x1, vI x2, vI x3, vI x4, vI x5, vI x6, vI x7, vU, vU, vU, vU] [] μ Q := by
  refine s_iload dX10_loudnessOf_33 rfl ?_
  refine s_iload_n dX10_loudnessOf_35 rfl rfl ?_
  refine s_icmp_ge dX10_loudnessOf_36 (tgt := 109) (by decide) (fun cc => ?_) (fun cc => ?_)
  · have h := h.1 cc
    refine s_iload dX10_loudnessOf_109 rfl ?_
    refine s_iload_n dX10_loudnessOf_111 rfl rfl ?_
    obtain ⟨hsd, h⟩ := h
    have kj2 : ∀ (v1 : Int), (at_I kR 4 mX10_loudnessOf 137 [vR 0, vI x1, vU, vI x3, vI x4, vI x5, vU, vI v1, vI 0, vI 0, vI 0, vU] [] μ Q) → at_I kR 4 mX10_loudnessOf 126 [vR 0, vI x1, vU, vI x3, vI x4, vI x5, vU, vU, vU, vU, vU, vU] [vI v1] μ Q := by
      intro v1 h
      refine s_istore dX10_loudnessOf_126 (by decide) (L' := [vR 0, vI x1, vU, vI x3, vI x4, vI x5, vU, vI v1, vU, vU, vU, vU]) rfl ?_
      refine s_iconst dX10_loudnessOf_128 (by decide) ?_
      refine s_istore dX10_loudnessOf_129 (by decide) (L' := [vR 0, vI x1, vU, vI x3, vI x4, vI x5, vU, vI v1, vI 0, vU, vU, vU]) rfl ?_
      refine s_iconst dX10_loudnessOf_131 (by decide) ?_
      refine s_istore dX10_loudnessOf_132 (by decide) (L' := [vR 0, vI x1, vU, vI x3, vI x4, vI x5, vU, vI v1, vI 0, vI 0, vU, vU]) rfl ?_
      refine s_iconst dX10_loudnessOf_134 (by decide) ?_
      refine s_istore dX10_loudnessOf_135 (by decide) (L' := [vR 0, vI x1, vU, vI x3, vI x4, vI x5, vU, vI v1, vI 0, vI 0, vI 0, vU]) rfl ?_
      exact h
    refine s_icmp_ne dX10_loudnessOf_112 (tgt := 119) (by decide) (fun cc => ?_) (fun cc => ?_)
    · have hp0 := cc
      have hsd := hsd hp0
      refine s_iload dX10_loudnessOf_119 rfl ?_
      refine s_iload_n dX10_loudnessOf_121 rfl rfl ?_
      refine s_iload dX10_loudnessOf_122 rfl ?_
      obtain ⟨c, hsd⟩ := hsd
      refine s_isub dX10_loudnessOf_124 (am_w_id c) ?_
      obtain ⟨c, c2⟩ := hsd
      refine s_idivp dX10_loudnessOf_125 c c2 rfl ?_
      exact am_lesS (kj2 (x6 / (x3 - x5)) (h (x6 / (x3 - x5)) (by rw [if_neg hp0]))) ⟨Or.inr rfl, Or.inr rfl, Or.inl rfl, Or.inr rfl, Or.inr rfl, Or.inr rfl, Or.inl rfl, Or.inl rfl, Or.inl rfl, Or.inl rfl, Or.inl rfl, Or.inl rfl, trivial⟩
    · have hp0 := cc
      refine s_iconst dX10_loudnessOf_115 (by decide) ?_
      refine s_goto dX10_loudnessOf_116 (tgt := 126) (by decide) ?_
      exact am_lesS (kj2 0 (h 0 (by rw [if_pos hp0]))) ⟨Or.inr rfl, Or.inr rfl, Or.inl rfl, Or.inr rfl, Or.inr rfl, Or.inr rfl, Or.inl rfl, Or.inl rfl, Or.inl rfl, Or.inl rfl, Or.inl rfl, Or.inl rfl, trivial⟩
  · have h := h.2 cc
    refine s_aload_n dX10_loudnessOf_39 rfl rfl ?_
    refine s_getR dX10_loudnessOf_40 flX10_56 rn0 rk0 rfl rr0_21 ?_
    refine s_iload dX10_loudnessOf_43 rfl ?_
    refine s_aload_n dX10_loudnessOf_45 rfl rfl ?_
    refine s_iload dX10_loudnessOf_46 rfl ?_
    refine s_iload_n dX10_loudnessOf_48 rfl rfl ?_
    obtain ⟨p0, p1, p2, p3, h⟩ := h
    refine s_callV (As := [vI x7, vI x2]) (rest := [vI x7, vR 16]) (k := 0) dX10_loudnessOf_49 lkX10_227 rn0 ⟨by rw [rk0]; rfl, by rw [rk0]; decide⟩ lmX10_levelOf rfl rfl (Nat.le_of_ble_eq_true rfl) (by decide) (Nat.le_refl 0) (Nat.le_refl 0) (hC := sp_X10_levelOf (Q := fun z m => lvP (pR μ) x2 x7 = z ∧ μ = m) p0 p1 p2 p3 ⟨rfl, rfl⟩) (fun r n2 S2 m2 hP => ?_)
    obtain ⟨⟨rfl, rfl⟩, z, rfl, rfl, rfl⟩ := hP
    obtain ⟨c, c2, h⟩ := h
    obtain ⟨m3, hm3⟩ : ∃ x : am_M, x = am_st μ 16 (am_up (μ 16) (x7).toNat (lvP (pR μ) x2 x7)) := ⟨_, rfl⟩
    have h := h m3 hm3
    refine s_iast dX10_loudnessOf_52 rn16 rk16 rl16 c c2 hm3.symm ?_
    refine s_iload dX10_loudnessOf_53 rfl ?_
    refine s_aload_n dX10_loudnessOf_55 rfl rfl ?_
    refine s_getR dX10_loudnessOf_56 flX10_56 rn0 rk0 rfl rr0_21 ?_
    refine s_iload dX10_loudnessOf_59 rfl ?_
    obtain ⟨c, c2, h⟩ := h
    refine s_iald (x := (lvP (pR μ) x2 x7)) dX10_loudnessOf_61 rn16 rk16 rl16 c c2 (by subst hm3; simp [am_st, am_up]) ?_
    refine s_iload dX10_loudnessOf_62 rfl ?_
    have kj7 : ∀ (v4 : Int), ((am_in (x5 + v4)) ∧ ((0 ≤ x7) ∧ (x7 < 160) ∧ (((x4 ≤ lvP (pR μ) x2 x7 → (0 ≤ x7) ∧ (x7 < 160))) ∧ (∀ v5 : Int, v5 = (if lvP (pR μ) x2 x7 < x4 then 0 else lvP (pR μ) x2 x7) → (am_in (x6 + v5)) ∧ ((am_in (x7 + 1)) ∧ (at_I kR 4 mX10_loudnessOf 33 [vR 0, vI x1, vI x2, vI x3, vI x4, vI (x5 + v4), vI (x6 + v5), vI (x7 + 1), vU, vU, vU, vU] [] m3 Q)))))) → at_I kR 4 mX10_loudnessOf 72 [vR 0, vI x1, vI x2, vI x3, vI x4, vU, vI x6, vI x7, vU, vU, vU, vU] [vI v4, vI x5] m3 Q := by
      intro v4 h
      obtain ⟨c, h⟩ := h
      refine s_iadd dX10_loudnessOf_72 (am_w_id c) ?_
      refine s_istore dX10_loudnessOf_73 (by decide) (L' := [vR 0, vI x1, vI x2, vI x3, vI x4, vI (x5 + v4), vI x6, vI x7, vU, vU, vU, vU]) rfl ?_
      refine s_iload dX10_loudnessOf_75 rfl ?_
      refine s_aload_n dX10_loudnessOf_77 rfl rfl ?_
      refine s_getR dX10_loudnessOf_78 flX10_56 rn0 rk0 rfl rr0_21 ?_
      refine s_iload dX10_loudnessOf_81 rfl ?_
      obtain ⟨c, c2, h⟩ := h
      refine s_iald (x := (lvP (pR μ) x2 x7)) dX10_loudnessOf_83 rn16 rk16 rl16 c c2 (by subst hm3; simp [am_st, am_up]) ?_
      refine s_iload dX10_loudnessOf_84 rfl ?_
      obtain ⟨hsd, h⟩ := h
      have kj6 : ∀ (v5 : Int), ((am_in (x6 + v5)) ∧ ((am_in (x7 + 1)) ∧ (at_I kR 4 mX10_loudnessOf 33 [vR 0, vI x1, vI x2, vI x3, vI x4, vI (x5 + v4), vI (x6 + v5), vI (x7 + 1), vU, vU, vU, vU] [] m3 Q))) → at_I kR 4 mX10_loudnessOf 100 [vR 0, vI x1, vI x2, vI x3, vI x4, vI (x5 + v4), vU, vI x7, vU, vU, vU, vU] [vI v5, vI x6] m3 Q := by
        intro v5 h
        obtain ⟨c, h⟩ := h
        refine s_iadd dX10_loudnessOf_100 (am_w_id c) ?_
        refine s_istore dX10_loudnessOf_101 (by decide) (L' := [vR 0, vI x1, vI x2, vI x3, vI x4, vI (x5 + v4), vI (x6 + v5), vI x7, vU, vU, vU, vU]) rfl ?_
        obtain ⟨c, h⟩ := h
        refine s_iinc dX10_loudnessOf_103 rfl (am_w_id c) (by decide) (L' := [vR 0, vI x1, vI x2, vI x3, vI x4, vI (x5 + v4), vI (x6 + v5), vI (x7 + 1), vU, vU, vU, vU]) rfl ?_
        refine s_goto dX10_loudnessOf_106 (tgt := 33) (by decide) ?_
        exact h
      refine s_icmp_ge dX10_loudnessOf_86 (tgt := 93) (by decide) (fun cc => ?_) (fun cc => ?_)
      · have hp0 := cc
        have hsd := hsd hp0
        refine s_aload_n dX10_loudnessOf_93 rfl rfl ?_
        refine s_getR dX10_loudnessOf_94 flX10_56 rn0 rk0 rfl rr0_21 ?_
        refine s_iload dX10_loudnessOf_97 rfl ?_
        obtain ⟨c, c2⟩ := hsd
        refine s_iald (x := (lvP (pR μ) x2 x7)) dX10_loudnessOf_99 rn16 rk16 rl16 c c2 (by subst hm3; simp [am_st, am_up]) ?_
        exact am_lesS (kj6 (lvP (pR μ) x2 x7) (h (lvP (pR μ) x2 x7) (by rw [if_neg (Int.not_lt.mpr hp0)]))) ⟨Or.inr rfl, Or.inr rfl, Or.inr rfl, Or.inr rfl, Or.inr rfl, Or.inr rfl, Or.inl rfl, Or.inr rfl, Or.inl rfl, Or.inl rfl, Or.inl rfl, Or.inl rfl, trivial⟩
      · have hp0 := cc
        refine s_iconst dX10_loudnessOf_89 (by decide) ?_
        refine s_goto dX10_loudnessOf_90 (tgt := 100) (by decide) ?_
        exact am_lesS (kj6 0 (h 0 (by rw [if_pos hp0]))) ⟨Or.inr rfl, Or.inr rfl, Or.inr rfl, Or.inr rfl, Or.inr rfl, Or.inr rfl, Or.inl rfl, Or.inr rfl, Or.inl rfl, Or.inl rfl, Or.inl rfl, Or.inl rfl, trivial⟩
    refine s_icmp_ge dX10_loudnessOf_64 (tgt := 71) (by decide) (fun cc => ?_) (fun cc => ?_)
    · have hp0 := cc
      refine s_iconst dX10_loudnessOf_71 (by decide) ?_
      exact am_lesS (kj7 0 (h 0 (by rw [if_neg (Int.not_lt.mpr hp0)]))) ⟨Or.inr rfl, Or.inr rfl, Or.inr rfl, Or.inr rfl, Or.inr rfl, Or.inl rfl, Or.inr rfl, Or.inr rfl, Or.inl rfl, Or.inl rfl, Or.inl rfl, Or.inl rfl, trivial⟩
    · have hp0 := cc
      refine s_iconst dX10_loudnessOf_67 (by decide) ?_
      refine s_goto dX10_loudnessOf_68 (tgt := 72) (by decide) ?_
      exact am_lesS (kj7 1 (h 1 (by rw [if_pos hp0]))) ⟨Or.inr rfl, Or.inr rfl, Or.inr rfl, Or.inr rfl, Or.inr rfl, Or.inl rfl, Or.inr rfl, Or.inr rfl, Or.inl rfl, Or.inl rfl, Or.inl rfl, Or.inl rfl, trivial⟩
theorem vc_X10_loudnessOf_137 {x1 x3 x4 x5 x7 x8 x9 x10 : Int} {μ : am_M} {Q : Int → am_M → Prop} (h : (x3 ≤ x10 → ((x1 ≠ 0 → (x1 ≠ 1 → (x1 ≠ 2 → (x1 ≠ 3 → (am_in (x5 + x8)) ∧ ((x5 + x8 ≠ x3 → (am_in (x3 - x5)) ∧ ((am_in ((x3 - x5) - x8)) ∧ ((0 ≤ x9) ∧ (0 < (x3 - x5) - x8)))))))))) ∧ (∀ v1 : Int, v1 = (if x1 = 0 then x3 else (if x1 = 1 then x5 else (if x1 = 2 then x8 else (if x1 = 3 then x7 else (if x5 + x8 = x3 then 0 else x9 / ((x3 - x5) - x8)))))) → Q v1 μ)) ∧ (x10 < x3 → (0 ≤ x10) ∧ (x10 < 160) ∧ (((x4 ≤ μ 16 ((x10).toNat) → (0 ≤ x10) ∧ (x10 < 160) ∧ ((am_in (100 * (μ 16 ((x10).toNat)))) ∧ ((am_in (x7 * (μ 1 468))) ∧ ((x7 * (μ 1 468) ≤ 100 * (μ 16 ((x10).toNat)) → ((0 : Int) = 0 → (am_in (x8 + 0)) ∧ (((0 : Int) = 0 → (0 ≤ x10) ∧ (x10 < 160) ∧ ((am_in (x9 + (μ 16 ((x10).toNat)))))) ∧ ((0 : Int) ≠ 0 → (am_in (x9 + 0))))) ∧ ((0 : Int) ≠ 0 → (am_in (x8 + 1)) ∧ (((0 : Int) = 0 → (0 ≤ x10) ∧ (x10 < 160) ∧ ((am_in (x9 + (μ 16 ((x10).toNat)))))) ∧ ((0 : Int) ≠ 0 → (am_in (x9 + 0)))))) ∧ (100 * (μ 16 ((x10).toNat)) < x7 * (μ 1 468) → ((1 : Int) = 0 → (am_in (x8 + 0)) ∧ (((1 : Int) = 0 → (0 ≤ x10) ∧ (x10 < 160) ∧ ((am_in (x9 + (μ 16 ((x10).toNat)))))) ∧ ((1 : Int) ≠ 0 → (am_in (x9 + 0))))) ∧ ((1 : Int) ≠ 0 → (am_in (x8 + 1)) ∧ (((1 : Int) = 0 → (0 ≤ x10) ∧ (x10 < 160) ∧ ((am_in (x9 + (μ 16 ((x10).toNat)))))) ∧ ((1 : Int) ≠ 0 → (am_in (x9 + 0))))))))))) ∧ (∀ v3 : Int, v3 = (if μ 16 ((x10).toNat) < x4 then x8 else (if 100 * (μ 16 ((x10).toNat)) < x7 * (μ 1 468) then (if (1 : Int) = 0 then x8 + 0 else x8 + 1) else (if (0 : Int) = 0 then x8 + 0 else x8 + 1))) → ∀ v4 : Int, v4 = (if μ 16 ((x10).toNat) < x4 then x9 else (if 100 * (μ 16 ((x10).toNat)) < x7 * (μ 1 468) then (if (1 : Int) = 0 then x9 + (μ 16 ((x10).toNat)) else x9 + 0) else (if (0 : Int) = 0 then x9 + (μ 16 ((x10).toNat)) else x9 + 0))) → (am_in (x10 + 1)) ∧ (at_I kR 4 mX10_loudnessOf 137 [vR 0, vI x1, vU, vI x3, vI x4, vI x5, vU, vI x7, vI v3, vI v4, vI (x10 + 1), vU] [] μ Q))))) : at_I kR 4 mX10_loudnessOf 137 [vR 0, vI x1, vU, vI x3, vI x4, vI x5, vU, vI x7, vI x8, vI x9, vI x10, vU] [] μ Q := by
  refine s_iload dX10_loudnessOf_137 rfl ?_
  refine s_iload_n dX10_loudnessOf_139 rfl rfl ?_
  refine s_icmp_ge dX10_loudnessOf_140 (tgt := 231) (by decide) (fun cc => ?_) (fun cc => ?_)
  · have h := h.1 cc
    refine s_iload_n dX10_loudnessOf_231 rfl rfl ?_
    obtain ⟨hsd, h⟩ := h
    have kj2 : ∀ (v1 : Int), (Q v1 μ) → at_I kR 4 mX10_loudnessOf 292 [vU, vU, vU, vU, vU, vU, vU, vU, vU, vU, vU, vU] [vI v1] μ Q := by
      intro v1 h
      exact s_ireturn dX10_loudnessOf_292 (Or.inl rfl) ⟨⟨rfl, rfl⟩, _, rfl, h⟩
    refine s_if_ne dX10_loudnessOf_232 (tgt := 239) (by decide) (fun cc => ?_) (fun cc => ?_)
    · have hp0 := cc
      have hsd := hsd hp0
      refine s_iload_n dX10_loudnessOf_239 rfl rfl ?_
      refine s_iconst dX10_loudnessOf_240 (by decide) ?_
      refine s_icmp_ne dX10_loudnessOf_241 (tgt := 249) (by decide) (fun cc => ?_) (fun cc => ?_)
      · have hp1 := cc
        have hsd := hsd hp1
        refine s_iload_n dX10_loudnessOf_249 rfl rfl ?_
        refine s_iconst dX10_loudnessOf_250 (by decide) ?_
        refine s_icmp_ne dX10_loudnessOf_251 (tgt := 259) (by decide) (fun cc => ?_) (fun cc => ?_)
        · have hp2 := cc
          have hsd := hsd hp2
          refine s_iload_n dX10_loudnessOf_259 rfl rfl ?_
          refine s_iconst dX10_loudnessOf_260 (by decide) ?_
          refine s_icmp_ne dX10_loudnessOf_261 (tgt := 269) (by decide) (fun cc => ?_) (fun cc => ?_)
          · have hp3 := cc
            have hsd := hsd hp3
            refine s_iload dX10_loudnessOf_269 rfl ?_
            refine s_iload dX10_loudnessOf_271 rfl ?_
            obtain ⟨c, hsd⟩ := hsd
            refine s_iadd dX10_loudnessOf_273 (am_w_id c) ?_
            refine s_iload_n dX10_loudnessOf_274 rfl rfl ?_
            refine s_icmp_ne dX10_loudnessOf_275 (tgt := 282) (by decide) (fun cc => ?_) (fun cc => ?_)
            · have hp4 := cc
              have hsd := hsd hp4
              refine s_iload dX10_loudnessOf_282 rfl ?_
              refine s_iload_n dX10_loudnessOf_284 rfl rfl ?_
              refine s_iload dX10_loudnessOf_285 rfl ?_
              obtain ⟨c, hsd⟩ := hsd
              refine s_isub dX10_loudnessOf_287 (am_w_id c) ?_
              refine s_iload dX10_loudnessOf_288 rfl ?_
              obtain ⟨c, hsd⟩ := hsd
              refine s_isub dX10_loudnessOf_290 (am_w_id c) ?_
              obtain ⟨c, c2⟩ := hsd
              refine s_idivp dX10_loudnessOf_291 c c2 rfl ?_
              exact am_lesS (kj2 (x9 / ((x3 - x5) - x8)) (h (x9 / ((x3 - x5) - x8)) (by rw [if_neg hp0, if_neg hp1, if_neg hp2, if_neg hp3, if_neg hp4]))) ⟨Or.inl rfl, Or.inl rfl, Or.inl rfl, Or.inl rfl, Or.inl rfl, Or.inl rfl, Or.inl rfl, Or.inl rfl, Or.inl rfl, Or.inl rfl, Or.inl rfl, Or.inl rfl, trivial⟩
            · have hp4 := cc
              refine s_iconst dX10_loudnessOf_278 (by decide) ?_
              refine s_goto dX10_loudnessOf_279 (tgt := 292) (by decide) ?_
              exact am_lesS (kj2 0 (h 0 (by rw [if_neg hp0, if_neg hp1, if_neg hp2, if_neg hp3, if_pos hp4]))) ⟨Or.inl rfl, Or.inl rfl, Or.inl rfl, Or.inl rfl, Or.inl rfl, Or.inl rfl, Or.inl rfl, Or.inl rfl, Or.inl rfl, Or.inl rfl, Or.inl rfl, Or.inl rfl, trivial⟩
          · have hp3 := cc
            refine s_iload dX10_loudnessOf_264 rfl ?_
            refine s_goto dX10_loudnessOf_266 (tgt := 292) (by decide) ?_
            exact am_lesS (kj2 x7 (h x7 (by rw [if_neg hp0, if_neg hp1, if_neg hp2, if_pos hp3]))) ⟨Or.inl rfl, Or.inl rfl, Or.inl rfl, Or.inl rfl, Or.inl rfl, Or.inl rfl, Or.inl rfl, Or.inl rfl, Or.inl rfl, Or.inl rfl, Or.inl rfl, Or.inl rfl, trivial⟩
        · have hp2 := cc
          refine s_iload dX10_loudnessOf_254 rfl ?_
          refine s_goto dX10_loudnessOf_256 (tgt := 292) (by decide) ?_
          exact am_lesS (kj2 x8 (h x8 (by rw [if_neg hp0, if_neg hp1, if_pos hp2]))) ⟨Or.inl rfl, Or.inl rfl, Or.inl rfl, Or.inl rfl, Or.inl rfl, Or.inl rfl, Or.inl rfl, Or.inl rfl, Or.inl rfl, Or.inl rfl, Or.inl rfl, Or.inl rfl, trivial⟩
      · have hp1 := cc
        refine s_iload dX10_loudnessOf_244 rfl ?_
        refine s_goto dX10_loudnessOf_246 (tgt := 292) (by decide) ?_
        exact am_lesS (kj2 x5 (h x5 (by rw [if_neg hp0, if_pos hp1]))) ⟨Or.inl rfl, Or.inl rfl, Or.inl rfl, Or.inl rfl, Or.inl rfl, Or.inl rfl, Or.inl rfl, Or.inl rfl, Or.inl rfl, Or.inl rfl, Or.inl rfl, Or.inl rfl, trivial⟩
    · have hp0 := cc
      refine s_iload_n dX10_loudnessOf_235 rfl rfl ?_
      refine s_goto dX10_loudnessOf_236 (tgt := 292) (by decide) ?_
      exact am_lesS (kj2 x3 (h x3 (by rw [if_pos hp0]))) ⟨Or.inl rfl, Or.inl rfl, Or.inl rfl, Or.inl rfl, Or.inl rfl, Or.inl rfl, Or.inl rfl, Or.inl rfl, Or.inl rfl, Or.inl rfl, Or.inl rfl, Or.inl rfl, trivial⟩
  · have h := h.2 cc
    refine s_aload_n dX10_loudnessOf_143 rfl rfl ?_
    refine s_getR dX10_loudnessOf_144 flX10_56 rn0 rk0 rfl rr0_21 ?_
    refine s_iload dX10_loudnessOf_147 rfl ?_
    obtain ⟨c, c2, h⟩ := h
    refine s_iald (x := (μ 16 ((x10).toNat))) dX10_loudnessOf_149 rn16 rk16 rl16 c c2 rfl ?_
    refine s_iload dX10_loudnessOf_150 rfl ?_
    obtain ⟨hsd, h⟩ := h
    have kj5 : ∀ (v3 : Int) (v4 : Int), ((am_in (x10 + 1)) ∧ (at_I kR 4 mX10_loudnessOf 137 [vR 0, vI x1, vU, vI x3, vI x4, vI x5, vU, vI x7, vI v3, vI v4, vI (x10 + 1), vU] [] μ Q)) → at_I kR 4 mX10_loudnessOf 225 [vR 0, vI x1, vU, vI x3, vI x4, vI x5, vU, vI x7, vI v3, vI v4, vI x10, vU] [] μ Q := by
      intro v3 v4 h
      obtain ⟨c, h⟩ := h
      refine s_iinc dX10_loudnessOf_225 rfl (am_w_id c) (by decide) (L' := [vR 0, vI x1, vU, vI x3, vI x4, vI x5, vU, vI x7, vI v3, vI v4, vI (x10 + 1), vU]) rfl ?_
      refine s_goto dX10_loudnessOf_228 (tgt := 137) (by decide) ?_
      exact h
    refine s_icmp_ge dX10_loudnessOf_152 (tgt := 158) (by decide) (fun cc => ?_) (fun cc => ?_)
    · have hp0 := cc
      have hsd := hsd hp0
      refine s_bipush dX10_loudnessOf_158 (by decide) ?_
      refine s_aload_n dX10_loudnessOf_160 rfl rfl ?_
      refine s_getR dX10_loudnessOf_161 flX10_56 rn0 rk0 rfl rr0_21 ?_
      refine s_iload dX10_loudnessOf_164 rfl ?_
      obtain ⟨c, c2, hsd⟩ := hsd
      refine s_iald (x := (μ 16 ((x10).toNat))) dX10_loudnessOf_166 rn16 rk16 rl16 c c2 rfl ?_
      obtain ⟨c, hsd⟩ := hsd
      refine s_imul dX10_loudnessOf_167 (am_w_id c) ?_
      refine s_iload dX10_loudnessOf_168 rfl ?_
      refine s_aload_n dX10_loudnessOf_170 rfl rfl ?_
      refine s_getR dX10_loudnessOf_171 flX10_9 rn0 rk0 rfl rr0_0 ?_
      refine s_sipush dX10_loudnessOf_174 (by decide) ?_
      refine s_iald (x := (μ 1 468)) dX10_loudnessOf_177 rn1 rk1 rl1 (by decide) (by decide) rfl ?_
      obtain ⟨c, hsd⟩ := hsd
      refine s_imul dX10_loudnessOf_178 (am_w_id c) ?_
      refine s_icmp_ge dX10_loudnessOf_179 (tgt := 186) (by decide) (fun cc => ?_) (fun cc => ?_)
      · have hp1 := cc
        have hsd := hsd.1 hp1
        refine s_iconst dX10_loudnessOf_186 (by decide) ?_
        refine s_istore dX10_loudnessOf_187 (by decide) (L' := [vR 0, vI x1, vU, vI x3, vI x4, vI x5, vU, vI x7, vI x8, vI x9, vI x10, vI 0]) rfl ?_
        refine s_iload dX10_loudnessOf_189 rfl ?_
        refine s_iload dX10_loudnessOf_191 rfl ?_
        refine s_if_eq dX10_loudnessOf_193 (tgt := 200) (by decide) (fun cc => ?_) (fun cc => ?_)
        · have hp2 := cc
          have hsd := hsd.1 hp2
          refine s_iconst dX10_loudnessOf_200 (by decide) ?_
          obtain ⟨c, hsd⟩ := hsd
          refine s_iadd dX10_loudnessOf_201 (am_w_id c) ?_
          refine s_istore dX10_loudnessOf_202 (by decide) (L' := [vR 0, vI x1, vU, vI x3, vI x4, vI x5, vU, vI x7, vI (x8 + 0), vI x9, vI x10, vI 0]) rfl ?_
          refine s_iload dX10_loudnessOf_204 rfl ?_
          refine s_iload dX10_loudnessOf_206 rfl ?_
          refine s_if_eq dX10_loudnessOf_208 (tgt := 215) (by decide) (fun cc => ?_) (fun cc => ?_)
          · have hp3 := cc
            have hsd := hsd.1 hp3
            refine s_aload_n dX10_loudnessOf_215 rfl rfl ?_
            refine s_getR dX10_loudnessOf_216 flX10_56 rn0 rk0 rfl rr0_21 ?_
            refine s_iload dX10_loudnessOf_219 rfl ?_
            obtain ⟨c, c2, hsd⟩ := hsd
            refine s_iald (x := (μ 16 ((x10).toNat))) dX10_loudnessOf_221 rn16 rk16 rl16 c c2 rfl ?_
            have c := hsd
            refine s_iadd dX10_loudnessOf_222 (am_w_id c) ?_
            refine s_istore dX10_loudnessOf_223 (by decide) (L' := [vR 0, vI x1, vU, vI x3, vI x4, vI x5, vU, vI x7, vI (x8 + 0), vI (x9 + (μ 16 ((x10).toNat))), vI x10, vI 0]) rfl ?_
            exact am_lesS (kj5 (x8 + 0) (x9 + (μ 16 ((x10).toNat))) (h (x8 + 0) (by rw [if_neg (Int.not_lt.mpr hp0), if_neg (Int.not_lt.mpr hp1), if_pos hp2]) (x9 + (μ 16 ((x10).toNat))) (by rw [if_neg (Int.not_lt.mpr hp0), if_neg (Int.not_lt.mpr hp1), if_pos hp3]))) ⟨Or.inr rfl, Or.inr rfl, Or.inl rfl, Or.inr rfl, Or.inr rfl, Or.inr rfl, Or.inl rfl, Or.inr rfl, Or.inr rfl, Or.inr rfl, Or.inr rfl, Or.inl rfl, trivial⟩
          · have hp3 := cc
            have hsd := hsd.2 hp3
            refine s_iconst dX10_loudnessOf_211 (by decide) ?_
            refine s_goto dX10_loudnessOf_212 (tgt := 222) (by decide) ?_
            have c := hsd
            refine s_iadd dX10_loudnessOf_222 (am_w_id c) ?_
            refine s_istore dX10_loudnessOf_223 (by decide) (L' := [vR 0, vI x1, vU, vI x3, vI x4, vI x5, vU, vI x7, vI (x8 + 0), vI (x9 + 0), vI x10, vI 0]) rfl ?_
            exact am_lesS (kj5 (x8 + 0) (x9 + 0) (h (x8 + 0) (by rw [if_neg (Int.not_lt.mpr hp0), if_neg (Int.not_lt.mpr hp1), if_pos hp2]) (x9 + 0) (by rw [if_neg (Int.not_lt.mpr hp0), if_neg (Int.not_lt.mpr hp1), if_neg hp3]))) ⟨Or.inr rfl, Or.inr rfl, Or.inl rfl, Or.inr rfl, Or.inr rfl, Or.inr rfl, Or.inl rfl, Or.inr rfl, Or.inr rfl, Or.inr rfl, Or.inr rfl, Or.inl rfl, trivial⟩
        · have hp2 := cc
          have hsd := hsd.2 hp2
          refine s_iconst dX10_loudnessOf_196 (by decide) ?_
          refine s_goto dX10_loudnessOf_197 (tgt := 201) (by decide) ?_
          obtain ⟨c, hsd⟩ := hsd
          refine s_iadd dX10_loudnessOf_201 (am_w_id c) ?_
          refine s_istore dX10_loudnessOf_202 (by decide) (L' := [vR 0, vI x1, vU, vI x3, vI x4, vI x5, vU, vI x7, vI (x8 + 1), vI x9, vI x10, vI 0]) rfl ?_
          refine s_iload dX10_loudnessOf_204 rfl ?_
          refine s_iload dX10_loudnessOf_206 rfl ?_
          refine s_if_eq dX10_loudnessOf_208 (tgt := 215) (by decide) (fun cc => ?_) (fun cc => ?_)
          · have hp3 := cc
            have hsd := hsd.1 hp3
            refine s_aload_n dX10_loudnessOf_215 rfl rfl ?_
            refine s_getR dX10_loudnessOf_216 flX10_56 rn0 rk0 rfl rr0_21 ?_
            refine s_iload dX10_loudnessOf_219 rfl ?_
            obtain ⟨c, c2, hsd⟩ := hsd
            refine s_iald (x := (μ 16 ((x10).toNat))) dX10_loudnessOf_221 rn16 rk16 rl16 c c2 rfl ?_
            have c := hsd
            refine s_iadd dX10_loudnessOf_222 (am_w_id c) ?_
            refine s_istore dX10_loudnessOf_223 (by decide) (L' := [vR 0, vI x1, vU, vI x3, vI x4, vI x5, vU, vI x7, vI (x8 + 1), vI (x9 + (μ 16 ((x10).toNat))), vI x10, vI 0]) rfl ?_
            exact am_lesS (kj5 (x8 + 1) (x9 + (μ 16 ((x10).toNat))) (h (x8 + 1) (by rw [if_neg (Int.not_lt.mpr hp0), if_neg (Int.not_lt.mpr hp1), if_neg hp2]) (x9 + (μ 16 ((x10).toNat))) (by rw [if_neg (Int.not_lt.mpr hp0), if_neg (Int.not_lt.mpr hp1), if_pos hp3]))) ⟨Or.inr rfl, Or.inr rfl, Or.inl rfl, Or.inr rfl, Or.inr rfl, Or.inr rfl, Or.inl rfl, Or.inr rfl, Or.inr rfl, Or.inr rfl, Or.inr rfl, Or.inl rfl, trivial⟩
          · have hp3 := cc
            have hsd := hsd.2 hp3
            refine s_iconst dX10_loudnessOf_211 (by decide) ?_
            refine s_goto dX10_loudnessOf_212 (tgt := 222) (by decide) ?_
            have c := hsd
            refine s_iadd dX10_loudnessOf_222 (am_w_id c) ?_
            refine s_istore dX10_loudnessOf_223 (by decide) (L' := [vR 0, vI x1, vU, vI x3, vI x4, vI x5, vU, vI x7, vI (x8 + 1), vI (x9 + 0), vI x10, vI 0]) rfl ?_
            exact am_lesS (kj5 (x8 + 1) (x9 + 0) (h (x8 + 1) (by rw [if_neg (Int.not_lt.mpr hp0), if_neg (Int.not_lt.mpr hp1), if_neg hp2]) (x9 + 0) (by rw [if_neg (Int.not_lt.mpr hp0), if_neg (Int.not_lt.mpr hp1), if_neg hp3]))) ⟨Or.inr rfl, Or.inr rfl, Or.inl rfl, Or.inr rfl, Or.inr rfl, Or.inr rfl, Or.inl rfl, Or.inr rfl, Or.inr rfl, Or.inr rfl, Or.inr rfl, Or.inl rfl, trivial⟩
      · have hp1 := cc
        have hsd := hsd.2 hp1
        refine s_iconst dX10_loudnessOf_182 (by decide) ?_
        refine s_goto dX10_loudnessOf_183 (tgt := 187) (by decide) ?_
        refine s_istore dX10_loudnessOf_187 (by decide) (L' := [vR 0, vI x1, vU, vI x3, vI x4, vI x5, vU, vI x7, vI x8, vI x9, vI x10, vI 1]) rfl ?_
        refine s_iload dX10_loudnessOf_189 rfl ?_
        refine s_iload dX10_loudnessOf_191 rfl ?_
        refine s_if_eq dX10_loudnessOf_193 (tgt := 200) (by decide) (fun cc => ?_) (fun cc => ?_)
        · have hp2 := cc
          have hsd := hsd.1 hp2
          refine s_iconst dX10_loudnessOf_200 (by decide) ?_
          obtain ⟨c, hsd⟩ := hsd
          refine s_iadd dX10_loudnessOf_201 (am_w_id c) ?_
          refine s_istore dX10_loudnessOf_202 (by decide) (L' := [vR 0, vI x1, vU, vI x3, vI x4, vI x5, vU, vI x7, vI (x8 + 0), vI x9, vI x10, vI 1]) rfl ?_
          refine s_iload dX10_loudnessOf_204 rfl ?_
          refine s_iload dX10_loudnessOf_206 rfl ?_
          refine s_if_eq dX10_loudnessOf_208 (tgt := 215) (by decide) (fun cc => ?_) (fun cc => ?_)
          · have hp3 := cc
            have hsd := hsd.1 hp3
            refine s_aload_n dX10_loudnessOf_215 rfl rfl ?_
            refine s_getR dX10_loudnessOf_216 flX10_56 rn0 rk0 rfl rr0_21 ?_
            refine s_iload dX10_loudnessOf_219 rfl ?_
            obtain ⟨c, c2, hsd⟩ := hsd
            refine s_iald (x := (μ 16 ((x10).toNat))) dX10_loudnessOf_221 rn16 rk16 rl16 c c2 rfl ?_
            have c := hsd
            refine s_iadd dX10_loudnessOf_222 (am_w_id c) ?_
            refine s_istore dX10_loudnessOf_223 (by decide) (L' := [vR 0, vI x1, vU, vI x3, vI x4, vI x5, vU, vI x7, vI (x8 + 0), vI (x9 + (μ 16 ((x10).toNat))), vI x10, vI 1]) rfl ?_
            exact am_lesS (kj5 (x8 + 0) (x9 + (μ 16 ((x10).toNat))) (h (x8 + 0) (by rw [if_neg (Int.not_lt.mpr hp0), if_pos hp1, if_pos hp2]) (x9 + (μ 16 ((x10).toNat))) (by rw [if_neg (Int.not_lt.mpr hp0), if_pos hp1, if_pos hp3]))) ⟨Or.inr rfl, Or.inr rfl, Or.inl rfl, Or.inr rfl, Or.inr rfl, Or.inr rfl, Or.inl rfl, Or.inr rfl, Or.inr rfl, Or.inr rfl, Or.inr rfl, Or.inl rfl, trivial⟩
          · have hp3 := cc
            have hsd := hsd.2 hp3
            refine s_iconst dX10_loudnessOf_211 (by decide) ?_
            refine s_goto dX10_loudnessOf_212 (tgt := 222) (by decide) ?_
            have c := hsd
            refine s_iadd dX10_loudnessOf_222 (am_w_id c) ?_
            refine s_istore dX10_loudnessOf_223 (by decide) (L' := [vR 0, vI x1, vU, vI x3, vI x4, vI x5, vU, vI x7, vI (x8 + 0), vI (x9 + 0), vI x10, vI 1]) rfl ?_
            exact am_lesS (kj5 (x8 + 0) (x9 + 0) (h (x8 + 0) (by rw [if_neg (Int.not_lt.mpr hp0), if_pos hp1, if_pos hp2]) (x9 + 0) (by rw [if_neg (Int.not_lt.mpr hp0), if_pos hp1, if_neg hp3]))) ⟨Or.inr rfl, Or.inr rfl, Or.inl rfl, Or.inr rfl, Or.inr rfl, Or.inr rfl, Or.inl rfl, Or.inr rfl, Or.inr rfl, Or.inr rfl, Or.inr rfl, Or.inl rfl, trivial⟩
        · have hp2 := cc
          have hsd := hsd.2 hp2
          refine s_iconst dX10_loudnessOf_196 (by decide) ?_
          refine s_goto dX10_loudnessOf_197 (tgt := 201) (by decide) ?_
          obtain ⟨c, hsd⟩ := hsd
          refine s_iadd dX10_loudnessOf_201 (am_w_id c) ?_
          refine s_istore dX10_loudnessOf_202 (by decide) (L' := [vR 0, vI x1, vU, vI x3, vI x4, vI x5, vU, vI x7, vI (x8 + 1), vI x9, vI x10, vI 1]) rfl ?_
          refine s_iload dX10_loudnessOf_204 rfl ?_
          refine s_iload dX10_loudnessOf_206 rfl ?_
          refine s_if_eq dX10_loudnessOf_208 (tgt := 215) (by decide) (fun cc => ?_) (fun cc => ?_)
          · have hp3 := cc
            have hsd := hsd.1 hp3
            refine s_aload_n dX10_loudnessOf_215 rfl rfl ?_
            refine s_getR dX10_loudnessOf_216 flX10_56 rn0 rk0 rfl rr0_21 ?_
            refine s_iload dX10_loudnessOf_219 rfl ?_
            obtain ⟨c, c2, hsd⟩ := hsd
            refine s_iald (x := (μ 16 ((x10).toNat))) dX10_loudnessOf_221 rn16 rk16 rl16 c c2 rfl ?_
            have c := hsd
            refine s_iadd dX10_loudnessOf_222 (am_w_id c) ?_
            refine s_istore dX10_loudnessOf_223 (by decide) (L' := [vR 0, vI x1, vU, vI x3, vI x4, vI x5, vU, vI x7, vI (x8 + 1), vI (x9 + (μ 16 ((x10).toNat))), vI x10, vI 1]) rfl ?_
            exact am_lesS (kj5 (x8 + 1) (x9 + (μ 16 ((x10).toNat))) (h (x8 + 1) (by rw [if_neg (Int.not_lt.mpr hp0), if_pos hp1, if_neg hp2]) (x9 + (μ 16 ((x10).toNat))) (by rw [if_neg (Int.not_lt.mpr hp0), if_pos hp1, if_pos hp3]))) ⟨Or.inr rfl, Or.inr rfl, Or.inl rfl, Or.inr rfl, Or.inr rfl, Or.inr rfl, Or.inl rfl, Or.inr rfl, Or.inr rfl, Or.inr rfl, Or.inr rfl, Or.inl rfl, trivial⟩
          · have hp3 := cc
            have hsd := hsd.2 hp3
            refine s_iconst dX10_loudnessOf_211 (by decide) ?_
            refine s_goto dX10_loudnessOf_212 (tgt := 222) (by decide) ?_
            have c := hsd
            refine s_iadd dX10_loudnessOf_222 (am_w_id c) ?_
            refine s_istore dX10_loudnessOf_223 (by decide) (L' := [vR 0, vI x1, vU, vI x3, vI x4, vI x5, vU, vI x7, vI (x8 + 1), vI (x9 + 0), vI x10, vI 1]) rfl ?_
            exact am_lesS (kj5 (x8 + 1) (x9 + 0) (h (x8 + 1) (by rw [if_neg (Int.not_lt.mpr hp0), if_pos hp1, if_neg hp2]) (x9 + 0) (by rw [if_neg (Int.not_lt.mpr hp0), if_pos hp1, if_neg hp3]))) ⟨Or.inr rfl, Or.inr rfl, Or.inl rfl, Or.inr rfl, Or.inr rfl, Or.inr rfl, Or.inl rfl, Or.inr rfl, Or.inr rfl, Or.inr rfl, Or.inr rfl, Or.inl rfl, trivial⟩
    · have hp0 := cc
      refine s_goto dX10_loudnessOf_155 (tgt := 225) (by decide) ?_
      exact kj5 x8 x9 (h x8 (by rw [if_pos hp0]) x9 (by rw [if_pos hp0]))
theorem ve_X10_loudnessOf {x1 x2 : Int} {μ : am_M} {Q : Int → am_M → Prop} (h : at_I kR 4 mX10_loudnessOf 0 [vR 0, vI x1, vI x2, vU, vU, vU, vU, vU, vU, vU, vU, vU] [] μ Q) : cl_I kR 4 mX10_loudnessOf [vR 0, vI x1, vI x2] μ Q := am_intro pmX10_loudnessOf (Nat.le_of_ble_eq_true rfl) rfl h
theorem rsnd_fr {ks : List Nat} {μ m : am_M} (h : fr_ ks μ m) (h1 : 1 ∉ ks) (hk : ∀ k ∈ ks, k ∉ wkL) (hs : rsnd_ μ) : rsnd_ m := by
  have e1 : m 1 = μ 1 := h 1 h1
  obtain ⟨eS, eg, eT⟩ := r1_e e1
  have n : ∀ k ∈ wkL, k ∉ ks := fun k a b => hk k b a
  obtain ⟨a1, a2, a3, a4, a5, a6⟩ := hs
  refine ⟨rv_e e1 (h 8 (n 8 (by decide))) a1, ?_⟩
  unfold vtR drR dukR weR suR at *
  rw [e1, eS, eg, eT, h 12 (n 12 (by decide))]
  exact ⟨dv_fr h (n 9 (by decide)) a2, dv_fr h (n 10 (by decide)) a3, dv_fr h (n 13 (by decide)) a4, dv_fr h (n 11 (by decide)) a5, a6⟩
theorem pR_fr {ks : List Nat} {μ m : am_M} (h : fr_ ks μ m) (h1 : 1 ∉ ks) : pR m = pR μ := by
  show pA (m 1) = pA (μ 1)
  rw [h 1 h1]
noncomputable def q_lo (P : Pj) (ms w : Int) : Int := if w = 0 then winP P else if w = 1 then lq_ (lvP P ms) (winP P) (gtP P) else if w = 2 then ll_ (lvP P ms) (winP P) (gtP P) (pE P 3) else if w = 3 then lm_ (lvP P ms) (winP P) (gtP P) else loP P ms
theorem lvP_b {P : Pj} (hV : vP P) {ms : Int} (hm : in_ 0 401 ms) : in_ 0 151 (winP P) ∧ ∀ k, 0 ≤ k → k < winP P → 0 ≤ lvP P ms k ∧ lvP P ms k ≤ 998001 := by
  have lb := la_b6 hV
  have hw := hV.hE.2.1
  refine ⟨(win_b lb hw).1, fun k h0 h1 => lvl_b (fun f => ?_) hm hw lb ⟨h0, h1⟩⟩
  have : 0 ≤ suP P f ∧ suP P f ≤ 4 * 1998 := su_b hV _ (by omega) (by omega)
  ((try unfold am_in); (try unfold in_ at *); omega)
theorem lp2_X10_loudnessOf {μ : am_M} {ms w : Int} (hV : vP (pR μ)) (hm : in_ 0 401 ms) : ∀ (j : Nat) (a b k : Int) (m : am_M), k + j = winP (pR μ) → 0 ≤ k → fr_ [16] μ m → (∀ i : Int, 0 ≤ i → i < winP (pR μ) → m 16 i.toNat = lvP (pR μ) ms i) → a = cnt_ (fun k => decide (gtP (pR μ) ≤ lvP (pR μ) ms k ∧ 100 * lvP (pR μ) ms k < lm_ (lvP (pR μ) ms) (winP (pR μ)) (gtP (pR μ)) * μ 1 468)) (fun _ => 1) k → b = cnt_ (fun k => decide (gtP (pR μ) ≤ lvP (pR μ) ms k ∧ lm_ (lvP (pR μ) ms) (winP (pR μ)) (gtP (pR μ)) * μ 1 468 ≤ 100 * lvP (pR μ) ms k)) (lvP (pR μ) ms) k → at_I kR 4 mX10_loudnessOf 137 [vR 0, vI w, vU, vI (winP (pR μ)), vI (gtP (pR μ)), vI (lq_ (lvP (pR μ) ms) (winP (pR μ)) (gtP (pR μ))), vU, vI (lm_ (lvP (pR μ) ms) (winP (pR μ)) (gtP (pR μ))), vI a, vI b, vI k, vU] [] m (fun z m => z = q_lo (pR μ) ms w ∧ fr_ [16] μ m) := by
  obtain ⟨w1, Lb⟩ := lvP_b hV hm
  have h3 : in_ 0 101 (μ 1 468) := hV.hE.2.2.2.1
  have mb := lm_b (L := lvP (pR μ) ms) (gt := gtP (pR μ)) w1.1 Lb
  unfold in_ at w1 h3
  have mm := mulb (x := lm_ (lvP (pR μ) ms) (winP (pR μ)) (gtP (pR μ))) (y := μ 1 468) (A := 998001) (B := 100) mb.1 mb.2 h3.1 (by omega)
  have qn := cnt_le (p := fun k => decide (lvP (pR μ) ms k < gtP (pR μ))) (n := winP (pR μ)) w1.1
  change 0 ≤ lq_ (lvP (pR μ) ms) (winP (pR μ)) (gtP (pR μ)) ∧ lq_ (lvP (pR μ) ms) (winP (pR μ)) (gtP (pR μ)) ≤ winP (pR μ) at qn
  have c3 := cnt_3 (L := lvP (pR μ) ms) (gt := gtP (pR μ)) (bar := lm_ (lvP (pR μ) ms) (winP (pR μ)) (gtP (pR μ)) * μ 1 468) (winP (pR μ)).toNat
  rw [show (((winP (pR μ)).toNat : Nat) : Int) = winP (pR μ) by omega] at c3
  have c3b := cnt_le (p := fun k => decide (gtP (pR μ) ≤ lvP (pR μ) ms k ∧ lm_ (lvP (pR μ) ms) (winP (pR μ)) (gtP (pR μ)) * μ 1 468 ≤ 100 * lvP (pR μ) ms k)) (n := winP (pR μ)) w1.1
  intro j
  induction j with
  | zero =>
    intro a b k m hk h0 hf hl ha hb
    have ek : k = winP (pR μ) := by omega
    have la : a = ll_ (lvP (pR μ) ms) (winP (pR μ)) (gtP (pR μ)) (μ 1 468) := by rw [ha, ek]; rfl
    have lb : b = l2_ (lvP (pR μ) ms) (winP (pR μ)) (gtP (pR μ)) (μ 1 468) := by rw [hb, ek]; rfl
    have cb := cnt_b (p := fun k => decide (gtP (pR μ) ≤ lvP (pR μ) ms k ∧ lm_ (lvP (pR μ) ms) (winP (pR μ)) (gtP (pR μ)) * μ 1 468 ≤ 100 * lvP (pR μ) ms k)) (v := lvP (pR μ) ms) (n := k) (B := 998001) h0 (by omega) (fun i i0 i1 => Lb i i0 (by omega))
    rw [← hb] at cb
    have sum3 : lq_ (lvP (pR μ) ms) (winP (pR μ)) (gtP (pR μ)) + a ≤ winP (pR μ) ∧ 0 ≤ a := by
      have c2b := cnt_le (p := fun k => decide (gtP (pR μ) ≤ lvP (pR μ) ms k ∧ 100 * lvP (pR μ) ms k < lm_ (lvP (pR μ) ms) (winP (pR μ)) (gtP (pR μ)) * μ 1 468)) (n := winP (pR μ)) w1.1
      rw [ha, ek]
      unfold lq_
      omega
    refine vc_X10_loudnessOf_137 ⟨fun _ => ⟨fun _ _ _ _ => ⟨(by (try unfold am_in); (try unfold in_ at *); omega), fun ne => ⟨(by (try unfold am_in); (try unfold in_ at *); omega), (by (try unfold am_in); (try unfold in_ at *); omega), cb.1, by omega⟩⟩, fun v ev => ⟨?_, hf⟩⟩, fun q => by omega⟩
    rw [ev]
    unfold q_lo
    have e4 : (if lq_ (lvP (pR μ) ms) (winP (pR μ)) (gtP (pR μ)) + a = winP (pR μ) then 0 else b / (winP (pR μ) - lq_ (lvP (pR μ) ms) (winP (pR μ)) (gtP (pR μ)) - a)) = loP (pR μ) ms := by
      show _ = lo_ (lvP (pR μ) ms) (winP (pR μ)) (gtP (pR μ)) (μ 1 468)
      unfold lo_
      rw [← la, ← lb]
      by_cases c : lq_ (lvP (pR μ) ms) (winP (pR μ)) (gtP (pR μ)) + a = winP (pR μ)
      · rw [if_pos c, if_neg (by omega)]
      · rw [if_neg c, if_pos (by omega)]
    rw [e4, la]
    rfl
  | succ j ih =>
    intro a b k m hk h0 hf hl ha hb
    have e1 : m 1 = μ 1 := hf 1 (by decide)
    have Lk := Lb k h0 (by omega)
    have ab := cnt_le (p := fun k => decide (gtP (pR μ) ≤ lvP (pR μ) ms k ∧ 100 * lvP (pR μ) ms k < lm_ (lvP (pR μ) ms) (winP (pR μ)) (gtP (pR μ)) * μ 1 468)) (n := k) h0
    have bb := cnt_b (p := fun k => decide (gtP (pR μ) ≤ lvP (pR μ) ms k ∧ lm_ (lvP (pR μ) ms) (winP (pR μ)) (gtP (pR μ)) * μ 1 468 ≤ 100 * lvP (pR μ) ms k)) (v := lvP (pR μ) ms) (n := k) (B := 998001) h0 (by omega) (fun i i0 i1 => Lb i i0 (by omega))
    rw [← ha] at ab
    rw [← hb] at bb
    have gt0 : gtP (pR μ) = gtP (pR μ) := rfl
    refine vc_X10_loudnessOf_137 ⟨fun q => by omega, fun _ => ?_⟩
    rw [hl k h0 (by omega), e1]
    refine ⟨h0, by omega, fun c1 => ⟨h0, by omega, by ((try unfold am_in); (try unfold in_ at *); omega), by ((try unfold am_in); (try unfold in_ at *); omega), fun c2 => ⟨fun _ => ⟨by ((try unfold am_in); (try unfold in_ at *); omega), fun _ => ⟨h0, by omega, by ((try unfold am_in); (try unfold in_ at *); omega)⟩, fun z => absurd rfl z⟩, fun z => absurd rfl z⟩, fun c2 => ⟨fun z => absurd z (by decide), fun _ => ⟨by ((try unfold am_in); (try unfold in_ at *); omega), fun z => absurd z (by decide), fun _ => by ((try unfold am_in); (try unfold in_ at *); omega)⟩⟩⟩, fun v3 e3 v4 e4 => ⟨(by (try unfold am_in); (try unfold in_ at *); omega), ih v3 v4 (k + 1) m (by omega) (by omega) hf hl ?_ ?_⟩⟩
    · rw [cnt_s h0, ← ha, e3]
      simp only [decide_eq_true_eq]
      by_cases c1 : lvP (pR μ) ms k < gtP (pR μ)
      · rw [if_pos c1, if_neg (by omega)]; omega
      · rw [if_neg c1]
        by_cases c2 : 100 * lvP (pR μ) ms k < lm_ (lvP (pR μ) ms) (winP (pR μ)) (gtP (pR μ)) * μ 1 468
        · rw [if_pos c2, if_neg (by decide), if_pos (by omega)]
        · rw [if_neg c2, if_pos trivial, if_neg (by omega)]
    · rw [cnt_s h0, ← hb, e4]
      simp only [decide_eq_true_eq]
      by_cases c1 : lvP (pR μ) ms k < gtP (pR μ)
      · rw [if_pos c1, if_neg (by omega)]; omega
      · rw [if_neg c1]
        by_cases c2 : 100 * lvP (pR μ) ms k < lm_ (lvP (pR μ) ms) (winP (pR μ)) (gtP (pR μ)) * μ 1 468
        · rw [if_pos c2, if_neg (by decide), if_neg (by omega)]
        · rw [if_neg c2, if_pos trivial, if_pos (by omega)]
theorem sp_X10_loudnessOf {μ : am_M} {w ms : Int} (hV : vP (pR μ)) (hs : rsnd_ μ) (hm : in_ 0 401 ms) : cl_I kR 4 mX10_loudnessOf [vR 0, vI w, vI ms] μ (fun z m => z = q_lo (pR μ) ms w ∧ fr_ [16] μ m) := by
  obtain ⟨w1, Lb⟩ := lvP_b hV hm
  have h2 : in_ 0 1000 (μ 1 467) := hV.hE.2.2.1
  unfold in_ at w1 h2
  have g2 := mulb (x := μ 1 467) (y := μ 1 467) (A := 999) (B := 999) h2.1 (by omega) h2.1 (by omega)
  refine ve_X10_loudnessOf (vc_X10_loudnessOf_0 ⟨hV, (by (try unfold am_in); (try unfold in_ at *); omega), ?_⟩)
  change at_I kR 4 mX10_loudnessOf 33 [vR 0, vI w, vI ms, vI (winP (pR μ)), vI (gtP (pR μ)), vI 0, vI 0, vI 0, vU, vU, vU, vU] [] μ _
  have : ∀ (j : Nat) (a b k : Int) (m : am_M), k + j = winP (pR μ) → 0 ≤ k → fr_ [16] μ m → (∀ i : Int, 0 ≤ i → i < k → m 16 i.toNat = lvP (pR μ) ms i) → a = cnt_ (fun k => decide (lvP (pR μ) ms k < gtP (pR μ))) (fun _ => 1) k → b = cnt_ (fun k => decide (gtP (pR μ) ≤ lvP (pR μ) ms k)) (lvP (pR μ) ms) k → at_I kR 4 mX10_loudnessOf 33 [vR 0, vI w, vI ms, vI (winP (pR μ)), vI (gtP (pR μ)), vI a, vI b, vI k, vU, vU, vU, vU] [] m (fun z m => z = q_lo (pR μ) ms w ∧ fr_ [16] μ m) := by
    intro j
    induction j with
    | zero =>
      intro a b k m hk h0 hf hl ha hb
      have ek : k = winP (pR μ) := by omega
      have bb := cnt_b (p := fun k => decide (gtP (pR μ) ≤ lvP (pR μ) ms k)) (v := lvP (pR μ) ms) (n := k) (B := 998001) h0 (by omega) (fun i i0 i1 => Lb i i0 (by omega))
      rw [← hb] at bb
      have ab := cnt_le (p := fun k => decide (lvP (pR μ) ms k < gtP (pR μ))) (n := k) h0
      rw [← ha] at ab
      have la : a = lq_ (lvP (pR μ) ms) (winP (pR μ)) (gtP (pR μ)) := by rw [ha, ek]; rfl
      have lb : b = l1_ (lvP (pR μ) ms) (winP (pR μ)) (gtP (pR μ)) := by rw [hb, ek]; rfl
      refine vc_X10_loudnessOf_33 ⟨fun _ => ⟨fun ne => ⟨(by (try unfold am_in); (try unfold in_ at *); omega), bb.1, by omega⟩, fun v ev => ?_⟩, fun q => by omega⟩
      have ev2 : v = lm_ (lvP (pR μ) ms) (winP (pR μ)) (gtP (pR μ)) := by
        rw [ev]
        unfold lm_
        rw [← la, ← lb]
        by_cases c : a = winP (pR μ)
        · rw [if_pos c, if_neg (by omega)]
        · rw [if_neg c, if_pos (by omega)]
      rw [ev2, la]
      exact lp2_X10_loudnessOf hV hm (winP (pR μ)).toNat 0 0 0 m (by omega) (by omega) hf (fun i i0 i1 => hl i i0 (by omega)) rfl rfl
    | succ j ih =>
      intro a b k m hk h0 hf hl ha hb
      have Lk := Lb k h0 (by omega)
      have bb := cnt_b (p := fun k => decide (gtP (pR μ) ≤ lvP (pR μ) ms k)) (v := lvP (pR μ) ms) (n := k) (B := 998001) h0 (by omega) (fun i i0 i1 => Lb i i0 (by omega))
      rw [← hb] at bb
      have ab := cnt_le (p := fun k => decide (lvP (pR μ) ms k < gtP (pR μ))) (n := k) h0
      rw [← ha] at ab
      have ep : pR m = pR μ := pR_fr hf (by decide)
      refine vc_X10_loudnessOf_33 ⟨fun q => by omega, fun _ => ?_⟩
      rw [ep]
      refine ⟨rsnd_fr hf (by decide) (by decide) hs, hV, ⟨h0, by omega⟩, hm, h0, by omega, fun m3 e3 => ⟨h0, by omega, fun v4 e4 => ⟨by rw [e4]; split <;> ((try unfold am_in); (try unfold in_ at *); omega), h0, by omega, fun _ => ⟨h0, by omega⟩, fun v5 e5 => ⟨by rw [e5]; split <;> ((try unfold am_in); (try unfold in_ at *); omega), (by (try unfold am_in); (try unfold in_ at *); omega), ih _ _ (k + 1) m3 (by omega) (by omega) (by rw [e3]; exact fr_tr hf (fr_st (by simp))) (fun i i0 i1 => ?_) ?_ ?_⟩⟩⟩⟩
      · rw [e3, st_s]
        by_cases c : i = k
        · rw [c, up_s]
        · rw [up_n (by omega)]
          exact hl i i0 (by omega)
      · rw [cnt_s h0, ← ha, e4]
        simp only [decide_eq_true_eq]
      · rw [cnt_s h0, ← hb, e5]
        simp only [decide_eq_true_eq]
        by_cases c : lvP (pR μ) ms k < gtP (pR μ)
        · rw [if_pos c, if_neg (by omega)]
        · rw [if_neg c, if_pos (by omega)]
  exact this (winP (pR μ)).toNat 0 0 0 μ (by omega) (by omega) fr_rf (fun i i0 i1 => by omega) rfl rfl

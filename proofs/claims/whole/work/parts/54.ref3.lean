/-! the reference's sound: waves, values of clips -/
theorem vc_X10_faded_0 {x1 x2 x3 : Int} {μ : am_M} {Q : Int → am_M → Prop} (h : ((μ 1 469 ≠ 0 → (μ 1 469 ≠ 1 → (am_in (2 * x2))) ∧ (μ 1 469 = 1 → (am_in (x1 * x2)) ∧ ((am_in ((x1 * x2) * x2)) ∧ ((am_in (x3 * x3)) ∧ ((0 ≤ (x1 * x2) * x2) ∧ (0 < x3 * x3)))))) ∧ (μ 1 469 = 0 → (am_in (x1 * x2)) ∧ ((0 ≤ x1 * x2) ∧ (0 < x3)))) ∧ (∀ v1 : Int, v1 = (if μ 1 469 = 0 then (x1 * x2) / x3 else (if μ 1 469 = 1 then ((x1 * x2) * x2) / (x3 * x3) else (if 2 * x2 < x3 then 0 else x1))) → Q v1 μ)) : at_I kR 1 mX10_faded 0 [vR 0, vI x1, vI x2, vI x3, vU] [] μ Q := by
  refine s_aload_n dX10_faded_0 rfl rfl ?_
  refine s_getR dX10_faded_1 flX10_9 rn0 rk0 rfl rr0_0 ?_
  refine s_sipush dX10_faded_4 (by decide) ?_
  refine s_iald (x := (μ 1 469)) dX10_faded_7 rn1 rk1 rl1 (by decide) (by decide) rfl ?_
  refine s_istore dX10_faded_8 (by decide) (L' := [vR 0, vI x1, vI x2, vI x3, vI (μ 1 469)]) rfl ?_
  refine s_iload dX10_faded_10 rfl ?_
  obtain ⟨hsd, h⟩ := h
  have kj2 : ∀ (v1 : Int), (Q v1 μ) → at_I kR 1 mX10_faded 53 [vU, vU, vU, vU, vU] [vI v1] μ Q := by
    intro v1 h
    exact s_ireturn dX10_faded_53 (Or.inl rfl) ⟨⟨rfl, rfl⟩, _, rfl, h⟩
  refine s_if_ne dX10_faded_12 (tgt := 23) (by decide) (fun cc => ?_) (fun cc => ?_)
  · have hp0 := cc
    have hsd := hsd.1 hp0
    refine s_iload dX10_faded_23 rfl ?_
    refine s_iconst dX10_faded_25 (by decide) ?_
    refine s_icmp_ne dX10_faded_26 (tgt := 41) (by decide) (fun cc => ?_) (fun cc => ?_)
    · have hp1 := cc
      have hsd := hsd.1 hp1
      refine s_iconst dX10_faded_41 (by decide) ?_
      refine s_iload_n dX10_faded_42 rfl rfl ?_
      have c := hsd
      refine s_imul dX10_faded_43 (am_w_id c) ?_
      refine s_iload_n dX10_faded_44 rfl rfl ?_
      refine s_icmp_ge dX10_faded_45 (tgt := 52) (by decide) (fun cc => ?_) (fun cc => ?_)
      · have hp2 := cc
        refine s_iload_n dX10_faded_52 rfl rfl ?_
        exact am_lesS (kj2 x1 (h x1 (by rw [if_neg hp0, if_neg hp1, if_neg (Int.not_lt.mpr hp2)]))) ⟨Or.inl rfl, Or.inl rfl, Or.inl rfl, Or.inl rfl, Or.inl rfl, trivial⟩
      · have hp2 := cc
        refine s_iconst dX10_faded_48 (by decide) ?_
        refine s_goto dX10_faded_49 (tgt := 53) (by decide) ?_
        exact am_lesS (kj2 0 (h 0 (by rw [if_neg hp0, if_neg hp1, if_pos hp2]))) ⟨Or.inl rfl, Or.inl rfl, Or.inl rfl, Or.inl rfl, Or.inl rfl, trivial⟩
    · have hp1 := cc
      have hsd := hsd.2 hp1
      refine s_iload_n dX10_faded_29 rfl rfl ?_
      refine s_iload_n dX10_faded_30 rfl rfl ?_
      obtain ⟨c, hsd⟩ := hsd
      refine s_imul dX10_faded_31 (am_w_id c) ?_
      refine s_iload_n dX10_faded_32 rfl rfl ?_
      obtain ⟨c, hsd⟩ := hsd
      refine s_imul dX10_faded_33 (am_w_id c) ?_
      refine s_iload_n dX10_faded_34 rfl rfl ?_
      refine s_iload_n dX10_faded_35 rfl rfl ?_
      obtain ⟨c, hsd⟩ := hsd
      refine s_imul dX10_faded_36 (am_w_id c) ?_
      obtain ⟨c, c2⟩ := hsd
      refine s_idivp dX10_faded_37 c c2 rfl ?_
      refine s_goto dX10_faded_38 (tgt := 53) (by decide) ?_
      exact am_lesS (kj2 (((x1 * x2) * x2) / (x3 * x3)) (h (((x1 * x2) * x2) / (x3 * x3)) (by rw [if_neg hp0, if_pos hp1]))) ⟨Or.inl rfl, Or.inl rfl, Or.inl rfl, Or.inl rfl, Or.inl rfl, trivial⟩
  · have hp0 := cc
    have hsd := hsd.2 hp0
    refine s_iload_n dX10_faded_15 rfl rfl ?_
    refine s_iload_n dX10_faded_16 rfl rfl ?_
    obtain ⟨c, hsd⟩ := hsd
    refine s_imul dX10_faded_17 (am_w_id c) ?_
    refine s_iload_n dX10_faded_18 rfl rfl ?_
    obtain ⟨c, c2⟩ := hsd
    refine s_idivp dX10_faded_19 c c2 rfl ?_
    refine s_goto dX10_faded_20 (tgt := 53) (by decide) ?_
    exact am_lesS (kj2 ((x1 * x2) / x3) (h ((x1 * x2) / x3) (by rw [if_pos hp0]))) ⟨Or.inl rfl, Or.inl rfl, Or.inl rfl, Or.inl rfl, Or.inl rfl, trivial⟩
theorem ve_X10_faded {x1 x2 x3 : Int} {μ : am_M} {Q : Int → am_M → Prop} (h : at_I kR 1 mX10_faded 0 [vR 0, vI x1, vI x2, vI x3, vU] [] μ Q) : cl_I kR 1 mX10_faded [vR 0, vI x1, vI x2, vI x3] μ Q := am_intro pmX10_faded (Nat.le_of_ble_eq_true rfl) rfl h
theorem sp_X10_faded {μ : am_M} {v p q : Int} {Q : Int → am_M → Prop} (h0 : in_ 0 2000 v) (h1 : in_ 1 602 p) (h2 : in_ 1 602 q) (hQ : Q (fd_ (μ 1 469) v p q) μ) : cl_I kR 1 mX10_faded [vR 0, vI v, vI p, vI q] μ Q := by
  unfold in_ at *
  have m1 := mulb (x := v) (y := p) (A := 1999) (B := 601) (by omega) (by omega) (by omega) (by omega)
  have m2 := mulb (x := v * p) (y := p) (A := 1999 * 601) (B := 601) (by omega) (by omega) (by omega) (by omega)
  have m3 := mulb (x := q) (y := q) (A := 601) (B := 601) (by omega) (by omega) (by omega) (by omega)
  have m4 : 0 < q * q := Int.mul_pos (by omega) (by omega)
  unfold fd_ at hQ
  exact ve_X10_faded (vc_X10_faded_0 ⟨⟨fun a => ⟨fun b => by unfold am_in; omega, fun b => ⟨by unfold am_in; omega, by unfold am_in; omega, by unfold am_in; omega, m2.1, m4⟩⟩, fun a => ⟨by unfold am_in; omega, m1.1, by omega⟩⟩, fun w e => by rw [e]; exact hQ⟩)
/-- the waves stand -/
def rv_ (m : am_M) : Prop := ∀ s i : Int, 0 ≤ s → s < m 1 0 → 0 ≤ i → i < rS m s 1 → m 8 ((200 * s) + i).toNat = wav_ (rS m) s i
theorem vc_X10_laysWaves_0 {μ : am_M} {Q : am_M → Prop} (h : at_V kR 2 mX10_laysWaves 2 [vR 0, vI 0, vU, vU, vU, vU, vU, vU] [] μ Q) : at_V kR 2 mX10_laysWaves 0 [vR 0, vU, vU, vU, vU, vU, vU, vU] [] μ Q := by
  refine s_iconst dX10_laysWaves_0 (by decide) ?_
  refine s_istore_n dX10_laysWaves_1 rfl (by decide) (L' := [vR 0, vI 0, vU, vU, vU, vU, vU, vU]) rfl ?_
  exact h
theorem vc_X10_laysWaves_2 {x1 : Int} {μ : am_M} {Q : am_M → Prop} (h : (μ 1 0 ≤ x1 → Q μ) ∧ (x1 < μ 1 0 → (in_ 0 6 x1) ∧ (in_ 0 4 0) ∧ ((in_ 0 6 x1) ∧ (in_ 0 4 1) ∧ ((in_ 0 6 x1) ∧ (in_ 0 4 2) ∧ ((in_ 0 6 x1) ∧ (in_ 0 4 3) ∧ (at_V kR 2 mX10_laysWaves 49 [vR 0, vI x1, vI (rS μ x1 0), vI (rS μ x1 1), vI (rS μ x1 2), vI (rS μ x1 3), vI (rS μ x1 3), vI 0] [] μ Q)))))) : at_V kR 2 mX10_laysWaves 2 [vR 0, vI x1, vU, vU, vU, vU, vU, vU] [] μ Q := by
  refine s_iload_n dX10_laysWaves_2 rfl rfl ?_
  refine s_aload_n dX10_laysWaves_3 rfl rfl ?_
  refine s_getR dX10_laysWaves_4 flX10_9 rn0 rk0 rfl rr0_0 ?_
  refine s_iconst dX10_laysWaves_7 (by decide) ?_
  refine s_iald (x := (μ 1 0)) dX10_laysWaves_8 rn1 rk1 rl1 (by decide) (by decide) rfl ?_
  refine s_icmp_ge dX10_laysWaves_9 (tgt := 155) (by decide) (fun cc => ?_) (fun cc => ?_)
  · have h := h.1 cc
    exact s_return dX10_laysWaves_155 rfl ⟨⟨rfl, rfl⟩, rfl, h⟩
  · have h := h.2 cc
    refine s_aload_n dX10_laysWaves_12 rfl rfl ?_
    refine s_iload_n dX10_laysWaves_13 rfl rfl ?_
    refine s_iconst dX10_laysWaves_14 (by decide) ?_
    obtain ⟨p0, p1, h⟩ := h
    refine s_callV (As := [vI x1, vI 0]) (rest := []) (k := 0) dX10_laysWaves_15 lkX10_114 rn0 ⟨by rw [rk0]; rfl, by rw [rk0]; decide⟩ lmX10_sourceOf rfl rfl (Nat.le_of_ble_eq_true rfl) (by decide) (Nat.le_refl 0) (Nat.le_refl 0) (hC := sp_X10_sourceOf (Q := fun z m => rS μ x1 0 = z ∧ μ = m) p0 p1 ⟨rfl, rfl⟩) (fun r n2 S2 m2 hP => ?_)
    obtain ⟨⟨rfl, rfl⟩, z, rfl, rfl, rfl⟩ := hP
    refine s_istore_n dX10_laysWaves_18 rfl (by decide) (L' := [vR 0, vI x1, vI (rS μ x1 0), vU, vU, vU, vU, vU]) rfl ?_
    refine s_aload_n dX10_laysWaves_19 rfl rfl ?_
    refine s_iload_n dX10_laysWaves_20 rfl rfl ?_
    refine s_iconst dX10_laysWaves_21 (by decide) ?_
    obtain ⟨p0, p1, h⟩ := h
    refine s_callV (As := [vI x1, vI 1]) (rest := []) (k := 0) dX10_laysWaves_22 lkX10_114 rn0 ⟨by rw [rk0]; rfl, by rw [rk0]; decide⟩ lmX10_sourceOf rfl rfl (Nat.le_of_ble_eq_true rfl) (by decide) (Nat.le_refl 0) (Nat.le_refl 0) (hC := sp_X10_sourceOf (Q := fun z m => rS μ x1 1 = z ∧ μ = m) p0 p1 ⟨rfl, rfl⟩) (fun r n2 S2 m2 hP => ?_)
    obtain ⟨⟨rfl, rfl⟩, z, rfl, rfl, rfl⟩ := hP
    refine s_istore_n dX10_laysWaves_25 rfl (by decide) (L' := [vR 0, vI x1, vI (rS μ x1 0), vI (rS μ x1 1), vU, vU, vU, vU]) rfl ?_
    refine s_aload_n dX10_laysWaves_26 rfl rfl ?_
    refine s_iload_n dX10_laysWaves_27 rfl rfl ?_
    refine s_iconst dX10_laysWaves_28 (by decide) ?_
    obtain ⟨p0, p1, h⟩ := h
    refine s_callV (As := [vI x1, vI 2]) (rest := []) (k := 0) dX10_laysWaves_29 lkX10_114 rn0 ⟨by rw [rk0]; rfl, by rw [rk0]; decide⟩ lmX10_sourceOf rfl rfl (Nat.le_of_ble_eq_true rfl) (by decide) (Nat.le_refl 0) (Nat.le_refl 0) (hC := sp_X10_sourceOf (Q := fun z m => rS μ x1 2 = z ∧ μ = m) p0 p1 ⟨rfl, rfl⟩) (fun r n2 S2 m2 hP => ?_)
    obtain ⟨⟨rfl, rfl⟩, z, rfl, rfl, rfl⟩ := hP
    refine s_istore dX10_laysWaves_32 (by decide) (L' := [vR 0, vI x1, vI (rS μ x1 0), vI (rS μ x1 1), vI (rS μ x1 2), vU, vU, vU]) rfl ?_
    refine s_aload_n dX10_laysWaves_34 rfl rfl ?_
    refine s_iload_n dX10_laysWaves_35 rfl rfl ?_
    refine s_iconst dX10_laysWaves_36 (by decide) ?_
    obtain ⟨p0, p1, h⟩ := h
    refine s_callV (As := [vI x1, vI 3]) (rest := []) (k := 0) dX10_laysWaves_37 lkX10_114 rn0 ⟨by rw [rk0]; rfl, by rw [rk0]; decide⟩ lmX10_sourceOf rfl rfl (Nat.le_of_ble_eq_true rfl) (by decide) (Nat.le_refl 0) (Nat.le_refl 0) (hC := sp_X10_sourceOf (Q := fun z m => rS μ x1 3 = z ∧ μ = m) p0 p1 ⟨rfl, rfl⟩) (fun r n2 S2 m2 hP => ?_)
    obtain ⟨⟨rfl, rfl⟩, z, rfl, rfl, rfl⟩ := hP
    refine s_istore dX10_laysWaves_40 (by decide) (L' := [vR 0, vI x1, vI (rS μ x1 0), vI (rS μ x1 1), vI (rS μ x1 2), vI (rS μ x1 3), vU, vU]) rfl ?_
    refine s_iload dX10_laysWaves_42 rfl ?_
    refine s_istore dX10_laysWaves_44 (by decide) (L' := [vR 0, vI x1, vI (rS μ x1 0), vI (rS μ x1 1), vI (rS μ x1 2), vI (rS μ x1 3), vI (rS μ x1 3), vU]) rfl ?_
    refine s_iconst dX10_laysWaves_46 (by decide) ?_
    refine s_istore dX10_laysWaves_47 (by decide) (L' := [vR 0, vI x1, vI (rS μ x1 0), vI (rS μ x1 1), vI (rS μ x1 2), vI (rS μ x1 3), vI (rS μ x1 3), vI 0]) rfl ?_
    exact h
theorem vc_X10_laysWaves_49 {x1 x2 x3 x4 x5 x6 x7 : Int} {μ : am_M} {Q : am_M → Prop} (h : (x3 ≤ x7 → (am_in (x1 + 1)) ∧ (at_V kR 2 mX10_laysWaves 2 [vR 0, vI (x1 + 1), vU, vU, vU, vU, vU, vU] [] μ Q)) ∧ (x7 < x3 → (am_in (200 * x1)) ∧ ((am_in ((200 * x1) + x7)) ∧ (((x2 ≠ 0 → (x2 ≠ 1 → (x2 ≠ 2 → (am_in (x4 + 1)) ∧ ((0 ≤ am_ushr (am_w (am_w (x6 * 1103515245) + 12345)) 16) ∧ (0 < x4 + 1))) ∧ (x2 = 2 → (0 ≤ x7) ∧ (0 < x5) ∧ ((0 ≤ x7 / x5)))) ∧ (x2 = 1 → (am_in (x5 - x4)) ∧ ((am_in ((x5 - x4) * x7)) ∧ ((x3 ≠ 0) ∧ (am_in (Int.tdiv ((x5 - x4) * x7) x3)) ∧ ((am_in (x4 + (Int.tdiv ((x5 - x4) * x7) x3))))))))) ∧ (∀ v1 : Int, v1 = (if x2 = 0 then x4 else (if x2 = 1 then x4 + (Int.tdiv ((x5 - x4) * x7) x3) else (if x2 = 2 then (if (x7 / x5) % 2 = 0 then x4 else 0) else (am_ushr (am_w (am_w (x6 * 1103515245) + 12345)) 16) % (x4 + 1)))) → (0 ≤ (200 * x1) + x7) ∧ ((200 * x1) + x7 < 1200) ∧ (∀ m2 : am_M, m2 = am_st μ 8 (am_up (μ 8) ((200 * x1) + x7).toNat v1) → (am_in (x7 + 1)) ∧ (at_V kR 2 mX10_laysWaves 49 [vR 0, vI x1, vI x2, vI x3, vI x4, vI x5, vI (am_w (am_w (x6 * 1103515245) + 12345)), vI (x7 + 1)] [] m2 Q))))))) : at_V kR 2 mX10_laysWaves 49 [vR 0, vI x1, vI x2, vI x3, vI x4, vI x5, vI x6, vI x7] [] μ Q := by
  refine s_iload dX10_laysWaves_49 rfl ?_
  refine s_iload_n dX10_laysWaves_51 rfl rfl ?_
  refine s_icmp_ge dX10_laysWaves_52 (tgt := 149) (by decide) (fun cc => ?_) (fun cc => ?_)
  · have h := h.1 cc
    obtain ⟨c, h⟩ := h
    refine s_iinc dX10_laysWaves_149 rfl (am_w_id c) (by decide) (L' := [vR 0, vI (x1 + 1), vI x2, vI x3, vI x4, vI x5, vI x6, vI x7]) rfl ?_
    refine s_goto dX10_laysWaves_152 (tgt := 2) (by decide) ?_
    exact am_lesS h ⟨Or.inr rfl, Or.inr rfl, Or.inl rfl, Or.inl rfl, Or.inl rfl, Or.inl rfl, Or.inl rfl, Or.inl rfl, trivial⟩
  · have h := h.2 cc
    refine s_iload dX10_laysWaves_55 rfl ?_
    refine s_ldc (z := 1103515245) dX10_laysWaves_57 wcX10_118 (by unfold am_in; decide) ?_
    refine s_imul dX10_laysWaves_59 rfl ?_
    refine s_sipush dX10_laysWaves_60 (by decide) ?_
    refine s_iadd dX10_laysWaves_63 rfl ?_
    refine s_istore dX10_laysWaves_64 (by decide) (L' := [vR 0, vI x1, vI x2, vI x3, vI x4, vI x5, vI (am_w (am_w (x6 * 1103515245) + 12345)), vI x7]) rfl ?_
    refine s_aload_n dX10_laysWaves_66 rfl rfl ?_
    refine s_getR dX10_laysWaves_67 flX10_31 rn0 rk0 rfl rr0_12 ?_
    refine s_sipush dX10_laysWaves_70 (by decide) ?_
    refine s_iload_n dX10_laysWaves_73 rfl rfl ?_
    obtain ⟨c, h⟩ := h
    refine s_imul dX10_laysWaves_74 (am_w_id c) ?_
    refine s_iload dX10_laysWaves_75 rfl ?_
    obtain ⟨c, h⟩ := h
    refine s_iadd dX10_laysWaves_77 (am_w_id c) ?_
    refine s_iload_n dX10_laysWaves_78 rfl rfl ?_
    obtain ⟨hsd, h⟩ := h
    have kj3 : ∀ (v1 : Int), ((0 ≤ (200 * x1) + x7) ∧ ((200 * x1) + x7 < 1200) ∧ (∀ m2 : am_M, m2 = am_st μ 8 (am_up (μ 8) ((200 * x1) + x7).toNat v1) → (am_in (x7 + 1)) ∧ (at_V kR 2 mX10_laysWaves 49 [vR 0, vI x1, vI x2, vI x3, vI x4, vI x5, vI (am_w (am_w (x6 * 1103515245) + 12345)), vI (x7 + 1)] [] m2 Q))) → at_V kR 2 mX10_laysWaves 142 [vR 0, vI x1, vI x2, vI x3, vI x4, vI x5, vI (am_w (am_w (x6 * 1103515245) + 12345)), vI x7] [vI v1, vI ((200 * x1) + x7), vR 8] μ Q := by
      intro v1 h
      obtain ⟨c, c2, h⟩ := h
      obtain ⟨m2, hm2⟩ : ∃ x : am_M, x = am_st μ 8 (am_up (μ 8) ((200 * x1) + x7).toNat v1) := ⟨_, rfl⟩
      have h := h m2 hm2
      refine s_iast dX10_laysWaves_142 rn8 rk8 rl8 c c2 hm2.symm ?_
      obtain ⟨c, h⟩ := h
      refine s_iinc dX10_laysWaves_143 rfl (am_w_id c) (by decide) (L' := [vR 0, vI x1, vI x2, vI x3, vI x4, vI x5, vI (am_w (am_w (x6 * 1103515245) + 12345)), vI (x7 + 1)]) rfl ?_
      refine s_goto dX10_laysWaves_146 (tgt := 49) (by decide) ?_
      exact h
    refine s_if_ne dX10_laysWaves_79 (tgt := 87) (by decide) (fun cc => ?_) (fun cc => ?_)
    · have hp0 := cc
      have hsd := hsd hp0
      refine s_iload_n dX10_laysWaves_87 rfl rfl ?_
      refine s_iconst dX10_laysWaves_88 (by decide) ?_
      refine s_icmp_ne dX10_laysWaves_89 (tgt := 108) (by decide) (fun cc => ?_) (fun cc => ?_)
      · have hp1 := cc
        have hsd := hsd.1 hp1
        refine s_iload_n dX10_laysWaves_108 rfl rfl ?_
        refine s_iconst dX10_laysWaves_109 (by decide) ?_
        refine s_icmp_ne dX10_laysWaves_110 (tgt := 132) (by decide) (fun cc => ?_) (fun cc => ?_)
        · have hp2 := cc
          have hsd := hsd.1 hp2
          refine s_iload dX10_laysWaves_132 rfl ?_
          refine s_bipush dX10_laysWaves_134 (by decide) ?_
          refine s_iushr dX10_laysWaves_136 rfl ?_
          refine s_iload dX10_laysWaves_137 rfl ?_
          refine s_iconst dX10_laysWaves_139 (by decide) ?_
          obtain ⟨c, hsd⟩ := hsd
          refine s_iadd dX10_laysWaves_140 (am_w_id c) ?_
          obtain ⟨c, c2⟩ := hsd
          refine s_iremp dX10_laysWaves_141 c c2 rfl ?_
          exact kj3 ((am_ushr (am_w (am_w (x6 * 1103515245) + 12345)) 16) % (x4 + 1)) (h ((am_ushr (am_w (am_w (x6 * 1103515245) + 12345)) 16) % (x4 + 1)) (by rw [if_neg hp0, if_neg hp1, if_neg hp2]))
        · have hp2 := cc
          have hsd := hsd.2 hp2
          refine s_iload dX10_laysWaves_113 rfl ?_
          refine s_iload dX10_laysWaves_115 rfl ?_
          obtain ⟨c, c2, hsd⟩ := hsd
          refine s_idivp dX10_laysWaves_117 c c2 rfl ?_
          refine s_iconst dX10_laysWaves_118 (by decide) ?_
          have c := hsd
          refine s_iremp dX10_laysWaves_119 c (by decide) rfl ?_
          refine s_if_ne dX10_laysWaves_120 (tgt := 128) (by decide) (fun cc => ?_) (fun cc => ?_)
          · have hp3 := cc
            refine s_iconst dX10_laysWaves_128 (by decide) ?_
            refine s_goto dX10_laysWaves_129 (tgt := 142) (by decide) ?_
            exact kj3 0 (h 0 (by rw [if_neg hp0, if_neg hp1, if_pos hp2, if_neg hp3]))
          · have hp3 := cc
            refine s_iload dX10_laysWaves_123 rfl ?_
            refine s_goto dX10_laysWaves_125 (tgt := 142) (by decide) ?_
            exact kj3 x4 (h x4 (by rw [if_neg hp0, if_neg hp1, if_pos hp2, if_pos hp3]))
      · have hp1 := cc
        have hsd := hsd.2 hp1
        refine s_iload dX10_laysWaves_92 rfl ?_
        refine s_iload dX10_laysWaves_94 rfl ?_
        refine s_iload dX10_laysWaves_96 rfl ?_
        obtain ⟨c, hsd⟩ := hsd
        refine s_isub dX10_laysWaves_98 (am_w_id c) ?_
        refine s_iload dX10_laysWaves_99 rfl ?_
        obtain ⟨c, hsd⟩ := hsd
        refine s_imul dX10_laysWaves_101 (am_w_id c) ?_
        refine s_iload_n dX10_laysWaves_102 rfl rfl ?_
        obtain ⟨c, c2, hsd⟩ := hsd
        refine s_idiv dX10_laysWaves_103 c (am_w_id c2) ?_
        have c := hsd
        refine s_iadd dX10_laysWaves_104 (am_w_id c) ?_
        refine s_goto dX10_laysWaves_105 (tgt := 142) (by decide) ?_
        exact kj3 (x4 + (Int.tdiv ((x5 - x4) * x7) x3)) (h (x4 + (Int.tdiv ((x5 - x4) * x7) x3)) (by rw [if_neg hp0, if_pos hp1]))
    · have hp0 := cc
      refine s_iload dX10_laysWaves_82 rfl ?_
      refine s_goto dX10_laysWaves_84 (tgt := 142) (by decide) ?_
      exact kj3 x4 (h x4 (by rw [if_pos hp0]))
theorem ve_X10_laysWaves {μ : am_M} {Q : am_M → Prop} (h : at_V kR 2 mX10_laysWaves 0 [vR 0, vU, vU, vU, vU, vU, vU, vU] [] μ Q) : cl_V kR 2 mX10_laysWaves [vR 0] μ Q := am_intro pmX10_laysWaves (Nat.le_of_ble_eq_true rfl) rfl h
theorem lp_X10_laysWaves {μ : am_M} (hV : vP (pR μ)) {s : Int} (hs : 0 ≤ s ∧ s < μ 1 0) {Q : am_M → Prop} (hQ : ∀ m, fr_ [8] μ m → (∀ t i : Int, 0 ≤ t → t < s + 1 → 0 ≤ i → i < rS μ t 1 → m 8 ((200 * t) + i).toNat = wav_ (rS μ) t i) → at_V kR 2 mX10_laysWaves 2 [vR 0, vI (s + 1), vU, vU, vU, vU, vU, vU] [] m Q) : ∀ (j : Nat) (z x : Int) (m : am_M), x + j = rS μ s 1 → 0 ≤ x → z = zz_ (rS μ s 3) x.toNat → fr_ [8] μ m → (∀ t i : Int, 0 ≤ t → t < s → 0 ≤ i → i < rS μ t 1 → m 8 ((200 * t) + i).toNat = wav_ (rS μ) t i) → (∀ i : Int, 0 ≤ i → i < x → m 8 ((200 * s) + i).toNat = wav_ (rS μ) s i) → at_V kR 2 mX10_laysWaves 49 [vR 0, vI s, vI (rS μ s 0), vI (rS μ s 1), vI (rS μ s 2), vI (rS μ s 3), vI z, vI x] [] m Q := by
  have h6 : in_ 0 7 (μ 1 0) := hV.hS.1
  obtain ⟨b0, b1, b2, b3⟩ := hV.hS.2 s hs.1 hs.2
  change in_ 0 4 (rS μ s 0) at b0
  change in_ 1 201 (rS μ s 1) at b1
  change in_ 0 1000 (rS μ s 2) at b2
  change in_ 0 1000 (rS μ s 3) at b3
  have hp : rS μ s 0 = 2 → 1 ≤ rS μ s 3 := hV.hS2 s hs.1 hs.2
  have hr := fun i h0 h1 => ramp_b (i := i) b2 b3 h0 h1 (show rS μ s 1 ≤ 200 by ((try unfold am_in); (try unfold in_ at *); omega))
  have hl : ∀ t, 0 ≤ t → t < μ 1 0 → rS μ t 1 ≤ 200 := fun t t0 t1 => by
    have : in_ 1 201 (rS μ t 1) := (hV.hS.2 t t0 t1).2.1
    ((try unfold am_in); (try unfold in_ at *); omega)
  intro j
  induction j with
  | zero =>
    intro z x m hx h0 hz hf ho hv
    refine vc_X10_laysWaves_49 ⟨fun _ => ⟨(by (try unfold am_in); (try unfold in_ at *); omega), hQ m hf (fun t i t0 t1 i0 i1 => ?_)⟩, fun q => by omega⟩
    by_cases c : t = s
    · rw [c]; exact hv i i0 (by rw [c] at i1; omega)
    · exact ho t i t0 (by omega) i0 i1
  | succ j ih =>
    intro z x m hx h0 hz hf ho hv
    have u16 := ush_nn (am_w (am_w (z * 1103515245) + 12345))
    unfold in_ at b0 b1 b2 b3 h6
    refine vc_X10_laysWaves_49 ⟨fun q => by omega, fun q => ⟨by unfold am_in; omega, by unfold am_in; omega, ⟨fun k0 => ⟨fun k1 => ⟨fun k2 => ⟨by unfold am_in; omega, u16, by omega⟩, fun k2 => ⟨h0, by have := hp k2; omega, Int.ediv_nonneg h0 (by omega)⟩⟩, fun k1 => ?_⟩, fun v e => ⟨by omega, by omega, fun m2 e2 => ⟨by unfold am_in; omega, ?_⟩⟩⟩⟩⟩
    · obtain ⟨r1, r2, r3⟩ := hr x h0 q
      unfold in_ at r3
      exact ⟨by unfold am_in; omega, by unfold am_in; omega, by omega, by unfold am_in; omega, by unfold am_in; omega⟩
    · refine ih _ (x + 1) m2 (by omega) (by omega) ?_ (by rw [e2]; exact fr_tr hf (fr_st (by simp))) (fun t i t0 t1 i0 i1 => ?_) (fun i i0 i1 => ?_)
      · rw [show (x + 1).toNat = x.toNat + 1 by omega, hz]
        rfl
      · have := hl t t0 (by omega)
        rw [e2, st_s, up_n (by omega)]
        exact ho t i t0 t1 i0 i1
      · rw [e2, st_s]
        by_cases c : i = x
        · rw [c, up_s, e]
          unfold wav_
          rw [show (x.toNat + 1) = x.toNat + 1 from rfl]
          by_cases k0 : rS μ s 0 = 0
          · rw [if_pos k0, if_neg (by omega), if_neg (by omega), if_neg (by omega)]
          · rw [if_neg k0]
            by_cases k1 : rS μ s 0 = 1
            · rw [if_pos k1, if_pos k1]
            · rw [if_neg k1, if_neg k1]
              by_cases k2 : rS μ s 0 = 2
              · rw [if_pos k2, if_pos k2]
              · rw [if_neg k2, if_neg k2, if_pos (by omega), hz]
                rfl
        · rw [up_n (by omega)]
          exact hv i i0 (by omega)
theorem sp_X10_laysWaves {μ : am_M} (hV : vP (pR μ)) : cl_V kR 2 mX10_laysWaves [vR 0] μ (fun m => fr_ [8] μ m ∧ rv_ m) := by
  have h6 : in_ 0 7 (μ 1 0) := hV.hS.1
  refine ve_X10_laysWaves (vc_X10_laysWaves_0 ?_)
  have : ∀ (j : Nat) (x : Int) (m : am_M), x + j = μ 1 0 → 0 ≤ x → fr_ [8] μ m → (∀ t i : Int, 0 ≤ t → t < x → 0 ≤ i → i < rS μ t 1 → m 8 ((200 * t) + i).toNat = wav_ (rS μ) t i) → at_V kR 2 mX10_laysWaves 2 [vR 0, vI x, vU, vU, vU, vU, vU, vU] [] m (fun m => fr_ [8] μ m ∧ rv_ m) := by
    intro j
    induction j with
    | zero =>
      intro x m hx h0 hf hv
      have e1 : m 1 = μ 1 := hf 1 (by decide)
      refine vc_X10_laysWaves_2 ⟨fun _ => ⟨hf, fun s i s0 s1 i0 i1 => ?_⟩, fun q => by rw [e1] at q; omega⟩
      have eS : rS m = rS μ := by unfold rS; rw [e1]
      rw [eS] at i1 ⊢
      rw [e1] at s1
      exact hv s i s0 (by omega) i0 i1
    | succ j ih =>
      intro x m hx h0 hf hv
      have e1 : m 1 = μ 1 := hf 1 (by decide)
      have eS : rS m = rS μ := by unfold rS; rw [e1]
      obtain ⟨b0, b1, b2, b3⟩ := hV.hS.2 x h0 (show x < μ 1 0 by omega)
      change in_ 1 201 (rS μ x 1) at b1
      refine vc_X10_laysWaves_2 ⟨fun q => by rw [e1] at q; omega, fun q => ⟨(by (try unfold am_in); (try unfold in_ at *); omega), (by (try unfold am_in); (try unfold in_ at *); omega), (by (try unfold am_in); (try unfold in_ at *); omega), (by (try unfold am_in); (try unfold in_ at *); omega), (by (try unfold am_in); (try unfold in_ at *); omega), (by (try unfold am_in); (try unfold in_ at *); omega), (by (try unfold am_in); (try unfold in_ at *); omega), (by (try unfold am_in); (try unfold in_ at *); omega), ?_⟩⟩
      rw [eS]
      exact lp_X10_laysWaves hV ⟨h0, by omega⟩ (fun m2 f2 v2 => ih (x + 1) m2 (by omega) (by omega) f2 v2) (rS μ x 1).toNat (rS μ x 3) 0 m (by ((try unfold am_in); (try unfold in_ at *); omega)) (by omega) rfl hf hv (fun i i0 i1 => by omega)
  exact this (μ 1 0).toNat 0 μ (by (try unfold am_in); (try unfold in_ at *); omega) (by omega) fr_rf (fun t i t0 t1 => by omega)
theorem vc_X10_clipValue_0 {x1 x2 : Int} {μ : am_M} {Q : Int → am_M → Prop} (h : (in_ 0 48 x1) ∧ (in_ 0 8 2) ∧ ((am_in (200 * (rg μ x1 2))) ∧ ((in_ 0 48 x1) ∧ (in_ 0 8 3) ∧ ((am_in ((200 * (rg μ x1 2)) + (rg μ x1 3))) ∧ ((am_in (((200 * (rg μ x1 2)) + (rg μ x1 3)) + x2)) ∧ ((0 ≤ ((200 * (rg μ x1 2)) + (rg μ x1 3)) + x2) ∧ (((200 * (rg μ x1 2)) + (rg μ x1 3)) + x2 < 1200) ∧ ((in_ 0 48 x1) ∧ (in_ 0 8 5) ∧ ((am_in ((μ 8 ((((200 * (rg μ x1 2)) + (rg μ x1 3)) + x2).toNat)) * (rg μ x1 5))) ∧ ((0 ≤ (μ 8 ((((200 * (rg μ x1 2)) + (rg μ x1 3)) + x2).toNat)) * (rg μ x1 5)) ∧ ((in_ 0 48 x1) ∧ (in_ 0 8 6) ∧ (((x2 < rg μ x1 6 → (am_in (x2 + 1)) ∧ ((in_ 0 48 x1) ∧ (in_ 0 8 6) ∧ ((am_in (rg μ x1 6 + 1)) ∧ ((in_ 0 2000 (((μ 8 ((((200 * (rg μ x1 2)) + (rg μ x1 3)) + x2).toNat)) * (rg μ x1 5)) / 100)) ∧ (in_ 1 602 (x2 + 1)) ∧ (in_ 1 602 (rg μ x1 6 + 1))))))) ∧ (∀ v1 : Int, v1 = (if x2 < rg μ x1 6 then fd_ (μ 1 469) (((μ 8 ((((200 * (rg μ x1 2)) + (rg μ x1 3)) + x2).toNat)) * (rg μ x1 5)) / 100) (x2 + 1) (rg μ x1 6 + 1) else ((μ 8 ((((200 * (rg μ x1 2)) + (rg μ x1 3)) + x2).toNat)) * (rg μ x1 5)) / 100) → (in_ 0 48 x1) ∧ (in_ 0 8 4) ∧ ((am_in (rg μ x1 4 - x2)) ∧ ((in_ 0 48 x1) ∧ (in_ 0 8 7) ∧ (((rg μ x1 4 - x2 ≤ rg μ x1 7 → (in_ 0 48 x1) ∧ (in_ 0 8 7) ∧ ((am_in (rg μ x1 7 + 1)) ∧ ((in_ 0 2000 v1) ∧ (in_ 1 602 (rg μ x1 4 - x2)) ∧ (in_ 1 602 (rg μ x1 7 + 1)))))) ∧ (∀ v2 : Int, v2 = (if rg μ x1 7 < rg μ x1 4 - x2 then v1 else fd_ (μ 1 469) v1 (rg μ x1 4 - x2) (rg μ x1 7 + 1)) → ∀ v3 : Int, v3 = (if 999 < v2 then 999 else v2) → Q v3 μ)))))))))))))))) : at_I kR 2 mX10_clipValue 0 [vR 0, vI x1, vI x2, vU, vU] [] μ Q := by
  refine s_aload_n dX10_clipValue_0 rfl rfl ?_
  refine s_getR dX10_clipValue_1 flX10_31 rn0 rk0 rfl rr0_12 ?_
  refine s_sipush dX10_clipValue_4 (by decide) ?_
  refine s_aload_n dX10_clipValue_7 rfl rfl ?_
  refine s_iload_n dX10_clipValue_8 rfl rfl ?_
  refine s_iconst dX10_clipValue_9 (by decide) ?_
  obtain ⟨p0, p1, h⟩ := h
  refine s_callV (As := [vI x1, vI 2]) (rest := [vI 200, vR 8]) (k := 0) dX10_clipValue_10 lkX10_126 rn0 ⟨by rw [rk0]; rfl, by rw [rk0]; decide⟩ lmX10_of rfl rfl (Nat.le_of_ble_eq_true rfl) (by decide) (Nat.le_refl 0) (Nat.le_refl 0) (hC := sp_X10_of (Q := fun z m => rg μ x1 2 = z ∧ μ = m) p0 p1 ⟨rfl, rfl⟩) (fun r n2 S2 m2 hP => ?_)
  obtain ⟨⟨rfl, rfl⟩, z, rfl, rfl, rfl⟩ := hP
  obtain ⟨c, h⟩ := h
  refine s_imul dX10_clipValue_13 (am_w_id c) ?_
  refine s_aload_n dX10_clipValue_14 rfl rfl ?_
  refine s_iload_n dX10_clipValue_15 rfl rfl ?_
  refine s_iconst dX10_clipValue_16 (by decide) ?_
  obtain ⟨p0, p1, h⟩ := h
  refine s_callV (As := [vI x1, vI 3]) (rest := [vI (200 * (rg μ x1 2)), vR 8]) (k := 0) dX10_clipValue_17 lkX10_126 rn0 ⟨by rw [rk0]; rfl, by rw [rk0]; decide⟩ lmX10_of rfl rfl (Nat.le_of_ble_eq_true rfl) (by decide) (Nat.le_refl 0) (Nat.le_refl 0) (hC := sp_X10_of (Q := fun z m => rg μ x1 3 = z ∧ μ = m) p0 p1 ⟨rfl, rfl⟩) (fun r n2 S2 m2 hP => ?_)
  obtain ⟨⟨rfl, rfl⟩, z, rfl, rfl, rfl⟩ := hP
  obtain ⟨c, h⟩ := h
  refine s_iadd dX10_clipValue_20 (am_w_id c) ?_
  refine s_iload_n dX10_clipValue_21 rfl rfl ?_
  obtain ⟨c, h⟩ := h
  refine s_iadd dX10_clipValue_22 (am_w_id c) ?_
  obtain ⟨c, c2, h⟩ := h
  refine s_iald (x := (μ 8 ((((200 * (rg μ x1 2)) + (rg μ x1 3)) + x2).toNat))) dX10_clipValue_23 rn8 rk8 rl8 c c2 rfl ?_
  refine s_aload_n dX10_clipValue_24 rfl rfl ?_
  refine s_iload_n dX10_clipValue_25 rfl rfl ?_
  refine s_iconst dX10_clipValue_26 (by decide) ?_
  obtain ⟨p0, p1, h⟩ := h
  refine s_callV (As := [vI x1, vI 5]) (rest := [vI (μ 8 ((((200 * (rg μ x1 2)) + (rg μ x1 3)) + x2).toNat))]) (k := 0) dX10_clipValue_27 lkX10_126 rn0 ⟨by rw [rk0]; rfl, by rw [rk0]; decide⟩ lmX10_of rfl rfl (Nat.le_of_ble_eq_true rfl) (by decide) (Nat.le_refl 0) (Nat.le_refl 0) (hC := sp_X10_of (Q := fun z m => rg μ x1 5 = z ∧ μ = m) p0 p1 ⟨rfl, rfl⟩) (fun r n2 S2 m2 hP => ?_)
  obtain ⟨⟨rfl, rfl⟩, z, rfl, rfl, rfl⟩ := hP
  obtain ⟨c, h⟩ := h
  refine s_imul dX10_clipValue_30 (am_w_id c) ?_
  refine s_bipush dX10_clipValue_31 (by decide) ?_
  obtain ⟨c, h⟩ := h
  refine s_idivp dX10_clipValue_33 c (by decide) rfl ?_
  refine s_istore_n dX10_clipValue_34 rfl (by decide) (L' := [vR 0, vI x1, vI x2, vI (((μ 8 ((((200 * (rg μ x1 2)) + (rg μ x1 3)) + x2).toNat)) * (rg μ x1 5)) / 100), vU]) rfl ?_
  refine s_iload_n dX10_clipValue_35 rfl rfl ?_
  refine s_aload_n dX10_clipValue_36 rfl rfl ?_
  refine s_iload_n dX10_clipValue_37 rfl rfl ?_
  refine s_bipush dX10_clipValue_38 (by decide) ?_
  obtain ⟨p0, p1, h⟩ := h
  refine s_callV (As := [vI x1, vI 6]) (rest := [vI x2]) (k := 0) dX10_clipValue_40 lkX10_126 rn0 ⟨by rw [rk0]; rfl, by rw [rk0]; decide⟩ lmX10_of rfl rfl (Nat.le_of_ble_eq_true rfl) (by decide) (Nat.le_refl 0) (Nat.le_refl 0) (hC := sp_X10_of (Q := fun z m => rg μ x1 6 = z ∧ μ = m) p0 p1 ⟨rfl, rfl⟩) (fun r n2 S2 m2 hP => ?_)
  obtain ⟨⟨rfl, rfl⟩, z, rfl, rfl, rfl⟩ := hP
  obtain ⟨hsd, h⟩ := h
  have kj6 : ∀ (v1 : Int), ((in_ 0 48 x1) ∧ (in_ 0 8 4) ∧ ((am_in (rg μ x1 4 - x2)) ∧ ((in_ 0 48 x1) ∧ (in_ 0 8 7) ∧ (((rg μ x1 4 - x2 ≤ rg μ x1 7 → (in_ 0 48 x1) ∧ (in_ 0 8 7) ∧ ((am_in (rg μ x1 7 + 1)) ∧ ((in_ 0 2000 v1) ∧ (in_ 1 602 (rg μ x1 4 - x2)) ∧ (in_ 1 602 (rg μ x1 7 + 1)))))) ∧ (∀ v2 : Int, v2 = (if rg μ x1 7 < rg μ x1 4 - x2 then v1 else fd_ (μ 1 469) v1 (rg μ x1 4 - x2) (rg μ x1 7 + 1)) → ∀ v3 : Int, v3 = (if 999 < v2 then 999 else v2) → Q v3 μ))))) → at_I kR 2 mX10_clipValue 64 [vR 0, vI x1, vI x2, vI v1, vU] [] μ Q := by
    intro v1 h
    refine s_aload_n dX10_clipValue_64 rfl rfl ?_
    refine s_iload_n dX10_clipValue_65 rfl rfl ?_
    refine s_iconst dX10_clipValue_66 (by decide) ?_
    obtain ⟨p0, p1, h⟩ := h
    refine s_callV (As := [vI x1, vI 4]) (rest := []) (k := 0) dX10_clipValue_67 lkX10_126 rn0 ⟨by rw [rk0]; rfl, by rw [rk0]; decide⟩ lmX10_of rfl rfl (Nat.le_of_ble_eq_true rfl) (by decide) (Nat.le_refl 0) (Nat.le_refl 0) (hC := sp_X10_of (Q := fun z m => rg μ x1 4 = z ∧ μ = m) p0 p1 ⟨rfl, rfl⟩) (fun r n2 S2 m2 hP => ?_)
    obtain ⟨⟨rfl, rfl⟩, z, rfl, rfl, rfl⟩ := hP
    refine s_iload_n dX10_clipValue_70 rfl rfl ?_
    obtain ⟨c, h⟩ := h
    refine s_isub dX10_clipValue_71 (am_w_id c) ?_
    refine s_istore dX10_clipValue_72 (by decide) (L' := [vR 0, vI x1, vI x2, vI v1, vI (rg μ x1 4 - x2)]) rfl ?_
    refine s_iload dX10_clipValue_74 rfl ?_
    refine s_aload_n dX10_clipValue_76 rfl rfl ?_
    refine s_iload_n dX10_clipValue_77 rfl rfl ?_
    refine s_bipush dX10_clipValue_78 (by decide) ?_
    obtain ⟨p0, p1, h⟩ := h
    refine s_callV (As := [vI x1, vI 7]) (rest := [vI (rg μ x1 4 - x2)]) (k := 0) dX10_clipValue_80 lkX10_126 rn0 ⟨by rw [rk0]; rfl, by rw [rk0]; decide⟩ lmX10_of rfl rfl (Nat.le_of_ble_eq_true rfl) (by decide) (Nat.le_refl 0) (Nat.le_refl 0) (hC := sp_X10_of (Q := fun z m => rg μ x1 7 = z ∧ μ = m) p0 p1 ⟨rfl, rfl⟩) (fun r n2 S2 m2 hP => ?_)
    obtain ⟨⟨rfl, rfl⟩, z, rfl, rfl, rfl⟩ := hP
    obtain ⟨hsd, h⟩ := h
    have kj5 : ∀ (v2 : Int), (∀ v3 : Int, v3 = (if 999 < v2 then 999 else v2) → Q v3 μ) → at_I kR 2 mX10_clipValue 103 [vU, vU, vU, vI v2, vU] [] μ Q := by
      intro v2 h
      refine s_iload_n dX10_clipValue_103 rfl rfl ?_
      refine s_sipush dX10_clipValue_104 (by decide) ?_
      have kj4 : ∀ (v3 : Int), (Q v3 μ) → at_I kR 2 mX10_clipValue 117 [vU, vU, vU, vU, vU] [vI v3] μ Q := by
        intro v3 h
        exact s_ireturn dX10_clipValue_117 (Or.inl rfl) ⟨⟨rfl, rfl⟩, _, rfl, h⟩
      refine s_icmp_le dX10_clipValue_107 (tgt := 116) (by decide) (fun cc => ?_) (fun cc => ?_)
      · have hp0 := cc
        refine s_iload_n dX10_clipValue_116 rfl rfl ?_
        exact am_lesS (kj4 v2 (h v2 (by rw [if_neg (Int.not_lt.mpr hp0)]))) ⟨Or.inl rfl, Or.inl rfl, Or.inl rfl, Or.inl rfl, Or.inl rfl, trivial⟩
      · have hp0 := cc
        refine s_sipush dX10_clipValue_110 (by decide) ?_
        refine s_goto dX10_clipValue_113 (tgt := 117) (by decide) ?_
        exact am_lesS (kj4 999 (h 999 (by rw [if_pos hp0]))) ⟨Or.inl rfl, Or.inl rfl, Or.inl rfl, Or.inl rfl, Or.inl rfl, trivial⟩
    refine s_icmp_gt dX10_clipValue_83 (tgt := 103) (by decide) (fun cc => ?_) (fun cc => ?_)
    · have hp0 := cc
      exact am_lesS (kj5 v1 (h v1 (by rw [if_pos hp0]))) ⟨Or.inl rfl, Or.inl rfl, Or.inl rfl, Or.inr rfl, Or.inl rfl, trivial⟩
    · have hp0 := cc
      have hsd := hsd hp0
      refine s_aload_n dX10_clipValue_86 rfl rfl ?_
      refine s_iload_n dX10_clipValue_87 rfl rfl ?_
      refine s_iload dX10_clipValue_88 rfl ?_
      refine s_aload_n dX10_clipValue_90 rfl rfl ?_
      refine s_iload_n dX10_clipValue_91 rfl rfl ?_
      refine s_bipush dX10_clipValue_92 (by decide) ?_
      obtain ⟨p0, p1, hsd⟩ := hsd
      refine s_callV (As := [vI x1, vI 7]) (rest := [vI (rg μ x1 4 - x2), vI v1, vR 0]) (k := 0) dX10_clipValue_94 lkX10_126 rn0 ⟨by rw [rk0]; rfl, by rw [rk0]; decide⟩ lmX10_of rfl rfl (Nat.le_of_ble_eq_true rfl) (by decide) (Nat.le_refl 0) (Nat.le_refl 0) (hC := sp_X10_of (Q := fun z m => rg μ x1 7 = z ∧ μ = m) p0 p1 ⟨rfl, rfl⟩) (fun r n2 S2 m2 hP => ?_)
      obtain ⟨⟨rfl, rfl⟩, z, rfl, rfl, rfl⟩ := hP
      refine s_iconst dX10_clipValue_97 (by decide) ?_
      obtain ⟨c, hsd⟩ := hsd
      refine s_iadd dX10_clipValue_98 (am_w_id c) ?_
      obtain ⟨p0, p1, p2⟩ := hsd
      refine s_callV (As := [vI v1, vI (rg μ x1 4 - x2), vI (rg μ x1 7 + 1)]) (rest := []) (k := 0) dX10_clipValue_99 lkX10_142 rn0 ⟨by rw [rk0]; rfl, by rw [rk0]; decide⟩ lmX10_faded rfl rfl (Nat.le_of_ble_eq_true rfl) (by decide) (Nat.le_refl 0) (Nat.le_refl 0) (hC := sp_X10_faded (Q := fun z m => fd_ (μ 1 469) v1 (rg μ x1 4 - x2) (rg μ x1 7 + 1) = z ∧ μ = m) p0 p1 p2 ⟨rfl, rfl⟩) (fun r n2 S2 m2 hP => ?_)
      obtain ⟨⟨rfl, rfl⟩, z, rfl, rfl, rfl⟩ := hP
      refine s_istore_n dX10_clipValue_102 rfl (by decide) (L' := [vR 0, vI x1, vI x2, vI (fd_ (μ 1 469) v1 (rg μ x1 4 - x2) (rg μ x1 7 + 1)), vI (rg μ x1 4 - x2)]) rfl ?_
      exact am_lesS (kj5 (fd_ (μ 1 469) v1 (rg μ x1 4 - x2) (rg μ x1 7 + 1)) (h (fd_ (μ 1 469) v1 (rg μ x1 4 - x2) (rg μ x1 7 + 1)) (by rw [if_neg (Int.not_lt.mpr hp0)]))) ⟨Or.inl rfl, Or.inl rfl, Or.inl rfl, Or.inr rfl, Or.inl rfl, trivial⟩
  refine s_icmp_ge dX10_clipValue_43 (tgt := 64) (by decide) (fun cc => ?_) (fun cc => ?_)
  · have hp0 := cc
    exact kj6 (((μ 8 ((((200 * (rg μ x1 2)) + (rg μ x1 3)) + x2).toNat)) * (rg μ x1 5)) / 100) (h (((μ 8 ((((200 * (rg μ x1 2)) + (rg μ x1 3)) + x2).toNat)) * (rg μ x1 5)) / 100) (by rw [if_neg (Int.not_lt.mpr hp0)]))
  · have hp0 := cc
    have hsd := hsd hp0
    refine s_aload_n dX10_clipValue_46 rfl rfl ?_
    refine s_iload_n dX10_clipValue_47 rfl rfl ?_
    refine s_iload_n dX10_clipValue_48 rfl rfl ?_
    refine s_iconst dX10_clipValue_49 (by decide) ?_
    obtain ⟨c, hsd⟩ := hsd
    refine s_iadd dX10_clipValue_50 (am_w_id c) ?_
    refine s_aload_n dX10_clipValue_51 rfl rfl ?_
    refine s_iload_n dX10_clipValue_52 rfl rfl ?_
    refine s_bipush dX10_clipValue_53 (by decide) ?_
    obtain ⟨p0, p1, hsd⟩ := hsd
    refine s_callV (As := [vI x1, vI 6]) (rest := [vI (x2 + 1), vI (((μ 8 ((((200 * (rg μ x1 2)) + (rg μ x1 3)) + x2).toNat)) * (rg μ x1 5)) / 100), vR 0]) (k := 0) dX10_clipValue_55 lkX10_126 rn0 ⟨by rw [rk0]; rfl, by rw [rk0]; decide⟩ lmX10_of rfl rfl (Nat.le_of_ble_eq_true rfl) (by decide) (Nat.le_refl 0) (Nat.le_refl 0) (hC := sp_X10_of (Q := fun z m => rg μ x1 6 = z ∧ μ = m) p0 p1 ⟨rfl, rfl⟩) (fun r n2 S2 m2 hP => ?_)
    obtain ⟨⟨rfl, rfl⟩, z, rfl, rfl, rfl⟩ := hP
    refine s_iconst dX10_clipValue_58 (by decide) ?_
    obtain ⟨c, hsd⟩ := hsd
    refine s_iadd dX10_clipValue_59 (am_w_id c) ?_
    obtain ⟨p0, p1, p2⟩ := hsd
    refine s_callV (As := [vI (((μ 8 ((((200 * (rg μ x1 2)) + (rg μ x1 3)) + x2).toNat)) * (rg μ x1 5)) / 100), vI (x2 + 1), vI (rg μ x1 6 + 1)]) (rest := []) (k := 0) dX10_clipValue_60 lkX10_142 rn0 ⟨by rw [rk0]; rfl, by rw [rk0]; decide⟩ lmX10_faded rfl rfl (Nat.le_of_ble_eq_true rfl) (by decide) (Nat.le_refl 0) (Nat.le_refl 0) (hC := sp_X10_faded (Q := fun z m => fd_ (μ 1 469) (((μ 8 ((((200 * (rg μ x1 2)) + (rg μ x1 3)) + x2).toNat)) * (rg μ x1 5)) / 100) (x2 + 1) (rg μ x1 6 + 1) = z ∧ μ = m) p0 p1 p2 ⟨rfl, rfl⟩) (fun r n2 S2 m2 hP => ?_)
    obtain ⟨⟨rfl, rfl⟩, z, rfl, rfl, rfl⟩ := hP
    refine s_istore_n dX10_clipValue_63 rfl (by decide) (L' := [vR 0, vI x1, vI x2, vI (fd_ (μ 1 469) (((μ 8 ((((200 * (rg μ x1 2)) + (rg μ x1 3)) + x2).toNat)) * (rg μ x1 5)) / 100) (x2 + 1) (rg μ x1 6 + 1)), vU]) rfl ?_
    exact kj6 (fd_ (μ 1 469) (((μ 8 ((((200 * (rg μ x1 2)) + (rg μ x1 3)) + x2).toNat)) * (rg μ x1 5)) / 100) (x2 + 1) (rg μ x1 6 + 1)) (h (fd_ (μ 1 469) (((μ 8 ((((200 * (rg μ x1 2)) + (rg μ x1 3)) + x2).toNat)) * (rg μ x1 5)) / 100) (x2 + 1) (rg μ x1 6 + 1)) (by rw [if_pos hp0]))
theorem ve_X10_clipValue {x1 x2 : Int} {μ : am_M} {Q : Int → am_M → Prop} (h : at_I kR 2 mX10_clipValue 0 [vR 0, vI x1, vI x2, vU, vU] [] μ Q) : cl_I kR 2 mX10_clipValue [vR 0, vI x1, vI x2] μ Q := am_intro pmX10_clipValue (Nat.le_of_ble_eq_true rfl) rfl h
theorem sp_X10_clipValue {μ : am_M} {c k : Int} {Q : Int → am_M → Prop} (hV : vP (pR μ)) (hv : rv_ μ) (hc : 0 ≤ c ∧ c < μ 1 25) (hk : 0 ≤ k ∧ k < rg μ c 4) (hQ : Q (cv_ (μ 1 469) (rS μ) (rg μ) c k) μ) : cl_I kR 2 mX10_clipValue [vR 0, vI c, vI k] μ Q := by
  obtain ⟨o, l1, l2⟩ := hV.hc c hc.1 hc.2
  change okC (rg μ c) at o
  change rg μ c 2 < μ 1 0 at l1
  change rg μ c 3 + rg μ c 4 ≤ rS μ (rg μ c 2) 1 at l2
  have hn : in_ 0 25 (μ 1 25) := hV.hn
  have h6 : in_ 0 7 (μ 1 0) := hV.hS.1
  have b1 := cv1_b hV hc hk
  have b2 := cv2_b hV hc hk (μ 1 469)
  change (0 ≤ wav_ (rS μ) (rg μ c 2) (rg μ c 3 + k) * rg μ c 5 ∧ wav_ (rS μ) (rg μ c 2) (rg μ c 3 + k) * rg μ c 5 ≤ 199800) ∧ 0 ≤ cv1_ (rS μ) (rg μ) c k ∧ cv1_ (rS μ) (rg μ) c k ≤ 1998 at b1
  change 0 ≤ cv2_ (μ 1 469) (rS μ) (rg μ) c k ∧ cv2_ (μ 1 469) (rS μ) (rg μ) c k ≤ 1998 at b2
  unfold okC at o
  have ew : μ 8 (((200 * rg μ c 2) + rg μ c 3) + k).toNat = wav_ (rS μ) (rg μ c 2) (rg μ c 3 + k) := by
    rw [Int.add_assoc]
    exact hv _ _ (by ((try unfold am_in); (try unfold in_ at *); omega)) l1 (by ((try unfold am_in); (try unfold in_ at *); omega)) (by omega)
  refine ve_X10_clipValue (vc_X10_clipValue_0 ?_)
  rw [ew]
  have e1 : wav_ (rS μ) (rg μ c 2) (rg μ c 3 + k) * rg μ c 5 / 100 = cv1_ (rS μ) (rg μ) c k := rfl
  rw [e1]
  refine ⟨(by (try unfold am_in); (try unfold in_ at *); omega), (by (try unfold am_in); (try unfold in_ at *); omega), (by (try unfold am_in); (try unfold in_ at *); omega), (by (try unfold am_in); (try unfold in_ at *); omega), (by (try unfold am_in); (try unfold in_ at *); omega), (by (try unfold am_in); (try unfold in_ at *); omega), (by (try unfold am_in); (try unfold in_ at *); omega), (by (try unfold am_in); (try unfold in_ at *); omega), (by (try unfold am_in); (try unfold in_ at *); omega), (by (try unfold am_in); (try unfold in_ at *); omega), (by (try unfold am_in); (try unfold in_ at *); omega), (by (try unfold am_in); (try unfold in_ at *); omega), b1.1.1, (by (try unfold am_in); (try unfold in_ at *); omega), (by (try unfold am_in); (try unfold in_ at *); omega), fun q => ⟨(by (try unfold am_in); (try unfold in_ at *); omega), (by (try unfold am_in); (try unfold in_ at *); omega), (by (try unfold am_in); (try unfold in_ at *); omega), (by (try unfold am_in); (try unfold in_ at *); omega), (by (try unfold am_in); (try unfold in_ at *); omega), (by (try unfold am_in); (try unfold in_ at *); omega), (by (try unfold am_in); (try unfold in_ at *); omega)⟩, fun v2 e2 => ?_⟩
  have e2' : v2 = cv2_ (μ 1 469) (rS μ) (rg μ) c k := by rw [e2]; rfl
  rw [e2']
  refine ⟨(by (try unfold am_in); (try unfold in_ at *); omega), (by (try unfold am_in); (try unfold in_ at *); omega), (by (try unfold am_in); (try unfold in_ at *); omega), (by (try unfold am_in); (try unfold in_ at *); omega), (by (try unfold am_in); (try unfold in_ at *); omega), fun q => ⟨(by (try unfold am_in); (try unfold in_ at *); omega), (by (try unfold am_in); (try unfold in_ at *); omega), (by (try unfold am_in); (try unfold in_ at *); omega), (by (try unfold am_in); (try unfold in_ at *); omega), (by (try unfold am_in); (try unfold in_ at *); omega), (by (try unfold am_in); (try unfold in_ at *); omega)⟩, fun v3 e3 v4 e4 => ?_⟩
  have e3' : v3 = cv3_ (μ 1 469) (rS μ) (rg μ) c k := by rw [e3]; rfl
  have e4' : v4 = cv_ (μ 1 469) (rS μ) (rg μ) c k := by rw [e4, e3']; rfl
  rw [e4']
  exact hQ

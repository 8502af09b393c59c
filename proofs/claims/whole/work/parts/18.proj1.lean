/-! the class's project: sources, settings, tracks -/
def tg (a : Nat → Int) (w : Int) : Tb := fun i j => a (i * w + j).toNat
theorem tg_put {a : Nat → Int} {w c j v : Int} (hw : 0 < w) (hc : 0 ≤ c) (hj : 0 ≤ j ∧ j < w) {n : Int} : eq_T n w (tg (am_up a (c * w + j).toNat v) w) (up_T (tg a w) c j v) := fun i k h1 h2 h3 h4 => by
  unfold tg up_T
  by_cases h : i = c ∧ k = j
  · rw [if_pos h, h.1, h.2, up_s]
  · rw [if_neg h, up_n]
    intro e
    have p1 : 0 ≤ i * w := Int.mul_nonneg h1 (by omega)
    have p2 : 0 ≤ c * w := Int.mul_nonneg hc (by omega)
    have e2 : i * w + k = c * w + j := by omega
    apply h
    have d1 : (i * w + k) / w = i := by
      rw [Int.add_comm, Int.add_mul_ediv_right _ _ (by omega), Int.ediv_eq_zero_of_lt h3 h4, Int.zero_add]
    have d2 : (c * w + j) / w = c := by
      rw [Int.add_comm, Int.add_mul_ediv_right _ _ (by omega), Int.ediv_eq_zero_of_lt hj.1 hj.2, Int.zero_add]
    rw [e2, d2] at d1
    subst d1
    exact ⟨rfl, by omega⟩
theorem vc_X4_hasSource_0 {x1 : Int} {μ : am_M} {Q : Int → am_M → Prop} (h : ∀ v1 : Int, v1 = (if x1 < 0 then 0 else (if x1 < μ 1 5 then 1 else 0)) → (v1 = 0 ∨ v1 = 1) ∧ Q v1 μ) : at_I kC 1 mX4_hasSource 0 [vR 1, vI x1] [] μ Q := by
  refine s_iload_n dX4_hasSource_0 rfl rfl ?_
  have kj2 : ∀ (v1 : Int), ((v1 = 0 ∨ v1 = 1) ∧ Q v1 μ) → at_I kC 1 mX4_hasSource 17 [vU, vU] [vI v1] μ Q := by
    intro v1 h
    exact s_ireturn dX4_hasSource_17 (Or.inr ⟨rfl, h.1⟩) ⟨⟨rfl, rfl⟩, _, rfl, h.2⟩
  refine s_if_lt dX4_hasSource_1 (tgt := 16) (by decide) (fun cc => ?_) (fun cc => ?_)
  · have hp0 := cc
    refine s_iconst dX4_hasSource_16 (by decide) ?_
    exact am_lesS (kj2 0 (h 0 (by rw [if_pos hp0]))) ⟨Or.inl rfl, Or.inl rfl, trivial⟩
  · have hp0 := cc
    refine s_iload_n dX4_hasSource_4 rfl rfl ?_
    refine s_aload_n dX4_hasSource_5 rfl rfl ?_
    refine s_getI (x := (μ 1 5)) dX4_hasSource_6 flX4_56 kn1 kk1 rfl rfl ?_
    refine s_icmp_ge dX4_hasSource_9 (tgt := 16) (by decide) (fun cc => ?_) (fun cc => ?_)
    · have hp1 := cc
      refine s_iconst dX4_hasSource_16 (by decide) ?_
      exact am_lesS (kj2 0 (h 0 (by rw [if_neg (Int.not_lt.mpr hp0), if_neg (Int.not_lt.mpr hp1)]))) ⟨Or.inl rfl, Or.inl rfl, trivial⟩
    · have hp1 := cc
      refine s_iconst dX4_hasSource_12 (by decide) ?_
      refine s_goto dX4_hasSource_13 (tgt := 17) (by decide) ?_
      exact am_lesS (kj2 1 (h 1 (by rw [if_neg (Int.not_lt.mpr hp0), if_pos hp1]))) ⟨Or.inl rfl, Or.inl rfl, trivial⟩
theorem ve_X4_hasSource {x1 : Int} {μ : am_M} {Q : Int → am_M → Prop} (h : at_I kC 1 mX4_hasSource 0 [vR 1, vI x1] [] μ Q) : cl_I kC 1 mX4_hasSource [vR 1, vI x1] μ Q := am_intro pmX4_hasSource (Nat.le_of_ble_eq_true rfl) rfl h
theorem sp_X4_hasSource {μ : am_M} {c : Int} {Q : Int → am_M → Prop} (hQ : Q (bI (0 ≤ c ∧ c < μ 1 5)) μ) : cl_I kC 1 mX4_hasSource [vR 1, vI c] μ Q :=
  ve_X4_hasSource (vc_X4_hasSource_0 fun v1 e => ⟨by omega, by rw [show v1 = bI (0 ≤ c ∧ c < μ 1 5) from (by (try subst_vars); (repeat' split) <;> first | (exact bI_t (by (try unfold in_ at *); omega)) | (exact (bI_t (by (try unfold in_ at *); omega)).symm) | (exact bI_f (by (try unfold in_ at *); omega)) | (exact (bI_f (by (try unfold in_ at *); omega)).symm))]; exact hQ⟩)
theorem vc_X4_sourceNumber_0 {x1 x2 : Int} {μ : am_M} {Q : Int → am_M → Prop} (h : (am_in (x1 * 4)) ∧ ((am_in ((x1 * 4) + x2)) ∧ ((0 ≤ (x1 * 4) + x2) ∧ ((x1 * 4) + x2 < 24) ∧ (Q (μ 4 (((x1 * 4) + x2).toNat)) μ)))) : at_I kC 1 mX4_sourceNumber 0 [vR 1, vI x1, vI x2] [] μ Q := by
  refine s_aload_n dX4_sourceNumber_0 rfl rfl ?_
  refine s_getR dX4_sourceNumber_1 flX4_18 kn1 kk1 rfl kr1_2 ?_
  refine s_iload_n dX4_sourceNumber_4 rfl rfl ?_
  refine s_iconst dX4_sourceNumber_5 (by decide) ?_
  obtain ⟨c, h⟩ := h
  refine s_imul dX4_sourceNumber_6 (am_w_id c) ?_
  refine s_iload_n dX4_sourceNumber_7 rfl rfl ?_
  obtain ⟨c, h⟩ := h
  refine s_iadd dX4_sourceNumber_8 (am_w_id c) ?_
  obtain ⟨c, c2, h⟩ := h
  refine s_iald (x := (μ 4 (((x1 * 4) + x2).toNat))) dX4_sourceNumber_9 kn4 kk4 kl4 c c2 rfl ?_
  exact s_ireturn dX4_sourceNumber_10 (Or.inl rfl) ⟨⟨rfl, rfl⟩, _, rfl, h⟩
theorem ve_X4_sourceNumber {x1 x2 : Int} {μ : am_M} {Q : Int → am_M → Prop} (h : at_I kC 1 mX4_sourceNumber 0 [vR 1, vI x1, vI x2] [] μ Q) : cl_I kC 1 mX4_sourceNumber [vR 1, vI x1, vI x2] μ Q := am_intro pmX4_sourceNumber (Nat.le_of_ble_eq_true rfl) rfl h
theorem sp_X4_sourceNumber {μ : am_M} {c w : Int} {Q : Int → am_M → Prop} (h0 : in_ 0 6 c) (h1 : in_ 0 4 w) (hQ : Q (tg (μ 4) 4 c w) μ) : cl_I kC 1 mX4_sourceNumber [vR 1, vI c, vI w] μ Q :=
  ve_X4_sourceNumber (vc_X4_sourceNumber_0 ⟨(by (try unfold am_in); (try unfold in_ at *); omega), (by (try unfold am_in); (try unfold in_ at *); omega), (by (try unfold am_in); (try unfold in_ at *); omega), (by (try unfold am_in); (try unfold in_ at *); omega), hQ⟩)
theorem vc_X4_trackNumber_0 {x1 x2 : Int} {μ : am_M} {Q : Int → am_M → Prop} (h : (am_in (x1 * 7)) ∧ ((am_in ((x1 * 7) + x2)) ∧ ((0 ≤ (x1 * 7) + x2) ∧ ((x1 * 7) + x2 < 28) ∧ (Q (μ 3 (((x1 * 7) + x2).toNat)) μ)))) : at_I kC 1 mX4_trackNumber 0 [vR 1, vI x1, vI x2] [] μ Q := by
  refine s_aload_n dX4_trackNumber_0 rfl rfl ?_
  refine s_getR dX4_trackNumber_1 flX4_15 kn1 kk1 rfl kr1_1 ?_
  refine s_iload_n dX4_trackNumber_4 rfl rfl ?_
  refine s_bipush dX4_trackNumber_5 (by decide) ?_
  obtain ⟨c, h⟩ := h
  refine s_imul dX4_trackNumber_7 (am_w_id c) ?_
  refine s_iload_n dX4_trackNumber_8 rfl rfl ?_
  obtain ⟨c, h⟩ := h
  refine s_iadd dX4_trackNumber_9 (am_w_id c) ?_
  obtain ⟨c, c2, h⟩ := h
  refine s_iald (x := (μ 3 (((x1 * 7) + x2).toNat))) dX4_trackNumber_10 kn3 kk3 kl3 c c2 rfl ?_
  exact s_ireturn dX4_trackNumber_11 (Or.inl rfl) ⟨⟨rfl, rfl⟩, _, rfl, h⟩
theorem ve_X4_trackNumber {x1 x2 : Int} {μ : am_M} {Q : Int → am_M → Prop} (h : at_I kC 1 mX4_trackNumber 0 [vR 1, vI x1, vI x2] [] μ Q) : cl_I kC 1 mX4_trackNumber [vR 1, vI x1, vI x2] μ Q := am_intro pmX4_trackNumber (Nat.le_of_ble_eq_true rfl) rfl h
theorem sp_X4_trackNumber {μ : am_M} {c w : Int} {Q : Int → am_M → Prop} (h0 : in_ 0 4 c) (h1 : in_ 0 7 w) (hQ : Q (tg (μ 3) 7 c w) μ) : cl_I kC 1 mX4_trackNumber [vR 1, vI c, vI w] μ Q :=
  ve_X4_trackNumber (vc_X4_trackNumber_0 ⟨(by (try unfold am_in); (try unfold in_ at *); omega), (by (try unfold am_in); (try unfold in_ at *); omega), (by (try unfold am_in); (try unfold in_ at *); omega), (by (try unfold am_in); (try unfold in_ at *); omega), hQ⟩)
/-- a source that can't be -/
def badS (k n a b : Int) : Prop := k < 0 ∨ 3 < k ∨ n < 1 ∨ 200 < n ∨ a < 0 ∨ 999 < a ∨ b < (am_sv 6).getD k.toNat 0 ∨ (am_sv 7).getD k.toNat 0 < b
def row4 (k n a b : Int) : Int → Int := fun j => if j = 0 then k else if j = 1 then n else if j = 2 then a else b
noncomputable def r_src (sn : Int) (g : Tb) (k n a b : Int) : Int × Int × Tb := cif (badS k n a b) (-2, sn, g) (cif (6 ≤ sn) (-3, sn, g) (sn, sn + 1, ins_T g sn (row4 k n a b)))
theorem vc_X4_putSource_0 {x1 x2 x3 x4 : Int} {μ : am_M} {Q : Int → am_M → Prop} (h : (x1 < 0 → Q (-2) μ) ∧ (0 ≤ x1 → (3 < x1 → Q (-2) μ) ∧ (x1 ≤ 3 → (x2 < 1 → Q (-2) μ) ∧ (1 ≤ x2 → (200 < x2 → Q (-2) μ) ∧ (x2 ≤ 200 → (x3 < 0 → Q (-2) μ) ∧ (0 ≤ x3 → (999 < x3 → Q (-2) μ) ∧ (x3 ≤ 999 → (0 ≤ x1) ∧ (x1 < 4) ∧ ((x4 < (am_sv 6).getD (x1).toNat 0 → Q (-2) μ) ∧ ((am_sv 6).getD (x1).toNat 0 ≤ x4 → (0 ≤ x1) ∧ (x1 < 4) ∧ ((x4 ≤ (am_sv 7).getD (x1).toNat 0 → (μ 1 5 < 6 → (am_in ((μ 1 5) * 4)) ∧ ((am_in (((μ 1 5) * 4) + 0)) ∧ ((0 ≤ ((μ 1 5) * 4) + 0) ∧ (((μ 1 5) * 4) + 0 < 24) ∧ (∀ m1 : am_M, m1 = am_st μ 4 (am_up (μ 4) (((μ 1 5) * 4) + 0).toNat x1) → (am_in (((μ 1 5) * 4) + 1)) ∧ ((0 ≤ ((μ 1 5) * 4) + 1) ∧ (((μ 1 5) * 4) + 1 < 24) ∧ (∀ m2 : am_M, m2 = am_st m1 4 (am_up (m1 4) (((μ 1 5) * 4) + 1).toNat x2) → (am_in (((μ 1 5) * 4) + 2)) ∧ ((0 ≤ ((μ 1 5) * 4) + 2) ∧ (((μ 1 5) * 4) + 2 < 24) ∧ (∀ m3 : am_M, m3 = am_st m2 4 (am_up (m2 4) (((μ 1 5) * 4) + 2).toNat x3) → (am_in (((μ 1 5) * 4) + 3)) ∧ ((0 ≤ ((μ 1 5) * 4) + 3) ∧ (((μ 1 5) * 4) + 3 < 24) ∧ (∀ m4 : am_M, m4 = am_st m3 4 (am_up (m3 4) (((μ 1 5) * 4) + 3).toNat x4) → (am_in (μ 1 5 + 1)) ∧ (∀ m5 : am_M, m5 = am_st m4 1 (am_up (m4 1) 5 (μ 1 5 + 1)) → (am_in ((μ 1 5 + 1) - 1)) ∧ (Q ((μ 1 5 + 1) - 1) m5)))))))))))) ∧ (6 ≤ μ 1 5 → Q (-3) μ)) ∧ ((am_sv 7).getD (x1).toNat 0 < x4 → Q (-2) μ))))))))))) : at_I kC 1 mX4_putSource 0 [vR 1, vI x1, vI x2, vI x3, vI x4, vU] [] μ Q := by
  refine s_iload_n dX4_putSource_0 rfl rfl ?_
  refine s_if_lt dX4_putSource_1 (tgt := 52) (by decide) (fun cc => ?_) (fun cc => ?_)
  · have h := h.1 cc
    refine s_bipush dX4_putSource_52 (by decide) ?_
    exact s_ireturn dX4_putSource_54 (Or.inl rfl) ⟨⟨rfl, rfl⟩, _, rfl, h⟩
  · have h := h.2 cc
    refine s_iload_n dX4_putSource_4 rfl rfl ?_
    refine s_iconst dX4_putSource_5 (by decide) ?_
    refine s_icmp_gt dX4_putSource_6 (tgt := 52) (by decide) (fun cc => ?_) (fun cc => ?_)
    · have h := h.1 cc
      refine s_bipush dX4_putSource_52 (by decide) ?_
      exact s_ireturn dX4_putSource_54 (Or.inl rfl) ⟨⟨rfl, rfl⟩, _, rfl, h⟩
    · have h := h.2 cc
      refine s_iload_n dX4_putSource_9 rfl rfl ?_
      refine s_iconst dX4_putSource_10 (by decide) ?_
      refine s_icmp_lt dX4_putSource_11 (tgt := 52) (by decide) (fun cc => ?_) (fun cc => ?_)
      · have h := h.1 cc
        refine s_bipush dX4_putSource_52 (by decide) ?_
        exact s_ireturn dX4_putSource_54 (Or.inl rfl) ⟨⟨rfl, rfl⟩, _, rfl, h⟩
      · have h := h.2 cc
        refine s_iload_n dX4_putSource_14 rfl rfl ?_
        refine s_sipush dX4_putSource_15 (by decide) ?_
        refine s_icmp_gt dX4_putSource_18 (tgt := 52) (by decide) (fun cc => ?_) (fun cc => ?_)
        · have h := h.1 cc
          refine s_bipush dX4_putSource_52 (by decide) ?_
          exact s_ireturn dX4_putSource_54 (Or.inl rfl) ⟨⟨rfl, rfl⟩, _, rfl, h⟩
        · have h := h.2 cc
          refine s_iload_n dX4_putSource_21 rfl rfl ?_
          refine s_if_lt dX4_putSource_22 (tgt := 52) (by decide) (fun cc => ?_) (fun cc => ?_)
          · have h := h.1 cc
            refine s_bipush dX4_putSource_52 (by decide) ?_
            exact s_ireturn dX4_putSource_54 (Or.inl rfl) ⟨⟨rfl, rfl⟩, _, rfl, h⟩
          · have h := h.2 cc
            refine s_iload_n dX4_putSource_25 rfl rfl ?_
            refine s_sipush dX4_putSource_26 (by decide) ?_
            refine s_icmp_gt dX4_putSource_29 (tgt := 52) (by decide) (fun cc => ?_) (fun cc => ?_)
            · have h := h.1 cc
              refine s_bipush dX4_putSource_52 (by decide) ?_
              exact s_ireturn dX4_putSource_54 (Or.inl rfl) ⟨⟨rfl, rfl⟩, _, rfl, h⟩
            · have h := h.2 cc
              refine s_iload dX4_putSource_32 rfl ?_
              refine s_gets dX4_putSource_34 (by decide) gsX4_64 ?_
              refine s_iload_n dX4_putSource_37 rfl rfl ?_
              obtain ⟨c, c2, h⟩ := h
              refine s_iald_s dX4_putSource_38 (by decide) c c2 rfl ?_
              refine s_icmp_lt dX4_putSource_39 (tgt := 52) (by decide) (fun cc => ?_) (fun cc => ?_)
              · have h := h.1 cc
                refine s_bipush dX4_putSource_52 (by decide) ?_
                exact s_ireturn dX4_putSource_54 (Or.inl rfl) ⟨⟨rfl, rfl⟩, _, rfl, h⟩
              · have h := h.2 cc
                refine s_iload dX4_putSource_42 rfl ?_
                refine s_gets dX4_putSource_44 (by decide) gsX4_67 ?_
                refine s_iload_n dX4_putSource_47 rfl rfl ?_
                obtain ⟨c, c2, h⟩ := h
                refine s_iald_s dX4_putSource_48 (by decide) c c2 rfl ?_
                refine s_icmp_le dX4_putSource_49 (tgt := 55) (by decide) (fun cc => ?_) (fun cc => ?_)
                · have h := h.1 cc
                  refine s_aload_n dX4_putSource_55 rfl rfl ?_
                  refine s_getI (x := (μ 1 5)) dX4_putSource_56 flX4_56 kn1 kk1 rfl rfl ?_
                  refine s_bipush dX4_putSource_59 (by decide) ?_
                  refine s_icmp_lt dX4_putSource_61 (tgt := 67) (by decide) (fun cc => ?_) (fun cc => ?_)
                  · have h := h.1 cc
                    refine s_aload_n dX4_putSource_67 rfl rfl ?_
                    refine s_getI (x := (μ 1 5)) dX4_putSource_68 flX4_56 kn1 kk1 rfl rfl ?_
                    refine s_iconst dX4_putSource_71 (by decide) ?_
                    obtain ⟨c, h⟩ := h
                    refine s_imul dX4_putSource_72 (am_w_id c) ?_
                    refine s_istore dX4_putSource_73 (by decide) (L' := [vR 1, vI x1, vI x2, vI x3, vI x4, vI ((μ 1 5) * 4)]) rfl ?_
                    refine s_aload_n dX4_putSource_75 rfl rfl ?_
                    refine s_getR dX4_putSource_76 flX4_18 kn1 kk1 rfl kr1_2 ?_
                    refine s_iload dX4_putSource_79 rfl ?_
                    refine s_iconst dX4_putSource_81 (by decide) ?_
                    obtain ⟨c, h⟩ := h
                    refine s_iadd dX4_putSource_82 (am_w_id c) ?_
                    refine s_iload_n dX4_putSource_83 rfl rfl ?_
                    obtain ⟨c, c2, h⟩ := h
                    obtain ⟨m1, hm1⟩ : ∃ x : am_M, x = am_st μ 4 (am_up (μ 4) (((μ 1 5) * 4) + 0).toNat x1) := ⟨_, rfl⟩
                    have h := h m1 hm1
                    refine s_iast dX4_putSource_84 kn4 kk4 kl4 c c2 hm1.symm ?_
                    refine s_aload_n dX4_putSource_85 rfl rfl ?_
                    refine s_getR dX4_putSource_86 flX4_18 kn1 kk1 rfl kr1_2 ?_
                    refine s_iload dX4_putSource_89 rfl ?_
                    refine s_iconst dX4_putSource_91 (by decide) ?_
                    obtain ⟨c, h⟩ := h
                    refine s_iadd dX4_putSource_92 (am_w_id c) ?_
                    refine s_iload_n dX4_putSource_93 rfl rfl ?_
                    obtain ⟨c, c2, h⟩ := h
                    obtain ⟨m2, hm2⟩ : ∃ x : am_M, x = am_st m1 4 (am_up (m1 4) (((μ 1 5) * 4) + 1).toNat x2) := ⟨_, rfl⟩
                    have h := h m2 hm2
                    refine s_iast dX4_putSource_94 kn4 kk4 kl4 c c2 hm2.symm ?_
                    refine s_aload_n dX4_putSource_95 rfl rfl ?_
                    refine s_getR dX4_putSource_96 flX4_18 kn1 kk1 rfl kr1_2 ?_
                    refine s_iload dX4_putSource_99 rfl ?_
                    refine s_iconst dX4_putSource_101 (by decide) ?_
                    obtain ⟨c, h⟩ := h
                    refine s_iadd dX4_putSource_102 (am_w_id c) ?_
                    refine s_iload_n dX4_putSource_103 rfl rfl ?_
                    obtain ⟨c, c2, h⟩ := h
                    obtain ⟨m3, hm3⟩ : ∃ x : am_M, x = am_st m2 4 (am_up (m2 4) (((μ 1 5) * 4) + 2).toNat x3) := ⟨_, rfl⟩
                    have h := h m3 hm3
                    refine s_iast dX4_putSource_104 kn4 kk4 kl4 c c2 hm3.symm ?_
                    refine s_aload_n dX4_putSource_105 rfl rfl ?_
                    refine s_getR dX4_putSource_106 flX4_18 kn1 kk1 rfl kr1_2 ?_
                    refine s_iload dX4_putSource_109 rfl ?_
                    refine s_iconst dX4_putSource_111 (by decide) ?_
                    obtain ⟨c, h⟩ := h
                    refine s_iadd dX4_putSource_112 (am_w_id c) ?_
                    refine s_iload dX4_putSource_113 rfl ?_
                    obtain ⟨c, c2, h⟩ := h
                    obtain ⟨m4, hm4⟩ : ∃ x : am_M, x = am_st m3 4 (am_up (m3 4) (((μ 1 5) * 4) + 3).toNat x4) := ⟨_, rfl⟩
                    have h := h m4 hm4
                    refine s_iast dX4_putSource_115 kn4 kk4 kl4 c c2 hm4.symm ?_
                    refine s_aload_n dX4_putSource_116 rfl rfl ?_
                    refine s_dup dX4_putSource_117 ?_
                    refine s_getI (x := (μ 1 5)) dX4_putSource_118 flX4_56 kn1 kk1 rfl (by subst hm4; subst hm3; subst hm2; subst hm1; rfl) ?_
                    refine s_iconst dX4_putSource_121 (by decide) ?_
                    obtain ⟨c, h⟩ := h
                    refine s_iadd dX4_putSource_122 (am_w_id c) ?_
                    obtain ⟨m5, hm5⟩ : ∃ x : am_M, x = am_st m4 1 (am_up (m4 1) 5 (μ 1 5 + 1)) := ⟨_, rfl⟩
                    have h := h m5 hm5
                    refine s_putI dX4_putSource_123 flX4_56 kn1 kk1 rfl rfl (Or.inl rfl) hm5.symm ?_
                    refine s_aload_n dX4_putSource_126 rfl rfl ?_
                    refine s_getI (x := (μ 1 5 + 1)) dX4_putSource_127 flX4_56 kn1 kk1 rfl (by subst hm5; rfl) ?_
                    refine s_iconst dX4_putSource_130 (by decide) ?_
                    obtain ⟨c, h⟩ := h
                    refine s_isub dX4_putSource_131 (am_w_id c) ?_
                    exact s_ireturn dX4_putSource_132 (Or.inl rfl) ⟨⟨rfl, rfl⟩, _, rfl, h⟩
                  · have h := h.2 cc
                    refine s_bipush dX4_putSource_64 (by decide) ?_
                    exact s_ireturn dX4_putSource_66 (Or.inl rfl) ⟨⟨rfl, rfl⟩, _, rfl, h⟩
                · have h := h.2 cc
                  refine s_bipush dX4_putSource_52 (by decide) ?_
                  exact s_ireturn dX4_putSource_54 (Or.inl rfl) ⟨⟨rfl, rfl⟩, _, rfl, h⟩
theorem ve_X4_putSource {x1 x2 x3 x4 : Int} {μ : am_M} {Q : Int → am_M → Prop} (h : at_I kC 1 mX4_putSource 0 [vR 1, vI x1, vI x2, vI x3, vI x4, vU] [] μ Q) : cl_I kC 1 mX4_putSource [vR 1, vI x1, vI x2, vI x3, vI x4] μ Q := am_intro pmX4_putSource (Nat.le_of_ble_eq_true rfl) rfl h
theorem sp_X4_putSource {μ : am_M} {k n a b : Int} (h0 : in_ 0 7 (μ 1 5)) : cl_I kC 1 mX4_putSource [vR 1, vI k, vI n, vI a, vI b] μ (fun z m => z = (r_src (μ 1 5) (tg (μ 4) 4) k n a b).1 ∧ fr_ [1, 4] μ m ∧ m 1 5 = (r_src (μ 1 5) (tg (μ 4) 4) k n a b).2.1 ∧ eq_T (m 1 5) 4 (tg (m 4) 4) (r_src (μ 1 5) (tg (μ 4) 4) k n a b).2.2) := by
  have bad : badS k n a b → (fun (z : Int) (m : am_M) => z = (r_src (μ 1 5) (tg (μ 4) 4) k n a b).1 ∧ fr_ [1, 4] μ m ∧ m 1 5 = (r_src (μ 1 5) (tg (μ 4) 4) k n a b).2.1 ∧ eq_T (m 1 5) 4 (tg (m 4) 4) (r_src (μ 1 5) (tg (μ 4) 4) k n a b).2.2) (-2) μ := fun h => by
    rw [show r_src (μ 1 5) (tg (μ 4) 4) k n a b = _ from cif_t h]
    exact ⟨rfl, fr_rf, rfl, eq_T.rf⟩
  unfold badS at bad
  refine ve_X4_putSource (vc_X4_putSource_0 ⟨fun h => bad (by omega), fun a1 => ⟨fun h => bad (by omega), fun a2 => ⟨fun h => bad (by omega), fun a3 => ⟨fun h => bad (by omega), fun a4 => ⟨fun h => bad (by omega), fun a5 => ⟨fun h => bad (by omega), fun a6 => ⟨by omega, by omega, fun h => bad (by omega), fun a7 => ⟨by omega, by omega, fun a8 => ⟨fun a9 => ?_, fun a9 => ?_⟩, fun h => bad (by omega)⟩⟩⟩⟩⟩⟩⟩⟩)
  · have ng : ¬ badS k n a b := by unfold badS; omega
    refine ⟨(by (try unfold am_in); (try unfold in_ at *); omega), (by (try unfold am_in); (try unfold in_ at *); omega), (by (try unfold am_in); (try unfold in_ at *); omega), (by (try unfold am_in); (try unfold in_ at *); omega), fun m1 e1 => ⟨(by (try unfold am_in); (try unfold in_ at *); omega), (by (try unfold am_in); (try unfold in_ at *); omega), (by (try unfold am_in); (try unfold in_ at *); omega), fun m2 e2 => ⟨(by (try unfold am_in); (try unfold in_ at *); omega), (by (try unfold am_in); (try unfold in_ at *); omega), (by (try unfold am_in); (try unfold in_ at *); omega), fun m3 e3 => ⟨(by (try unfold am_in); (try unfold in_ at *); omega), (by (try unfold am_in); (try unfold in_ at *); omega), (by (try unfold am_in); (try unfold in_ at *); omega), fun m4 e4 => ⟨(by (try unfold am_in); (try unfold in_ at *); omega), fun m5 e5 => ⟨(by (try unfold am_in); (try unfold in_ at *); omega), ?_⟩⟩⟩⟩⟩⟩
    rw [show r_src (μ 1 5) (tg (μ 4) 4) k n a b = _ from (cif_f ng).trans (cif_f (by omega))]
    refine ⟨by omega, ?_, ?_, ?_⟩
    · rw [e5, e4, e3, e2, e1]
      intro j hj
      have j1 : j ≠ 1 := fun e => hj (by simp [e])
      have j4 : j ≠ 4 := fun e => hj (by simp [e])
      rw [st_n j1, st_n j4, st_n j4, st_n j4, st_n j4]
    · rw [e5, st_s, up_s]
    · intro i j i0 i1 j0 j1
      have e0 : m5 4 = am_up (am_up (am_up (am_up (μ 4) (μ 1 5 * 4 + 0).toNat k) (μ 1 5 * 4 + 1).toNat n) (μ 1 5 * 4 + 2).toNat a) (μ 1 5 * 4 + 3).toNat b := by
        rw [e5, st_n (by decide), e4, st_s, e3, st_s, e2, st_s, e1, st_s]
      have i2 : i < μ 1 5 + 1 := by
        rw [e5, st_s, up_s] at i1
        exact i1
      have hb := h0
      unfold in_ at hb
      show tg (m5 4) 4 i j = ins_T (tg (μ 4) 4) (μ 1 5) (row4 k n a b) i j
      unfold tg ins_T row4
      rw [e0]
      by_cases q : i < μ 1 5
      · rw [if_pos q, up_n (by omega), up_n (by omega), up_n (by omega), up_n (by omega)]
      · have qi : i = μ 1 5 := by omega
        subst qi
        rw [if_neg (by omega), if_pos rfl]
        have : j = 0 ∨ j = 1 ∨ j = 2 ∨ j = 3 := by omega
        rcases this with rfl | rfl | rfl | rfl
        · rw [up_n (by omega), up_n (by omega), up_n (by omega), up_s]; rfl
        · rw [up_n (by omega), up_n (by omega), up_s]; rfl
        · rw [up_n (by omega), up_s]; rfl
        · rw [up_s]; rfl
  · have ng : ¬ badS k n a b := by unfold badS; omega
    rw [show r_src (μ 1 5) (tg (μ 4) 4) k n a b = _ from (cif_f ng).trans (cif_t a9)]
    exact ⟨rfl, fr_rf, rfl, eq_T.rf⟩
/-- a setting -/
def badE (w v : Int) : Prop := w < 0 ∨ 5 ≤ w ∨ v < (am_sv 1).getD w.toNat 0 ∨ (am_sv 2).getD w.toNat 0 < v
def up_1 (f : Int → Int) (w v : Int) : Int → Int := fun i => if i = w then v else f i
theorem vc_X4_changeSetting_0 {x1 x2 : Int} {μ : am_M} {Q : Int → am_M → Prop} (h : (x1 < 0 → Q (-2) μ) ∧ (0 ≤ x1 → (5 ≤ x1 → Q (-2) μ) ∧ (x1 < 5 → (0 ≤ x1) ∧ (x1 < 5) ∧ ((x2 < (am_sv 1).getD (x1).toNat 0 → Q (-2) μ) ∧ ((am_sv 1).getD (x1).toNat 0 ≤ x2 → (0 ≤ x1) ∧ (x1 < 5) ∧ ((x2 ≤ (am_sv 2).getD (x1).toNat 0 → (0 ≤ x1) ∧ (x1 < 5) ∧ ((0 ≤ x1) ∧ (x1 < 5) ∧ (Q (μ 2 ((x1).toNat)) (am_st μ 2 (am_up (μ 2) (x1).toNat x2))))) ∧ ((am_sv 2).getD (x1).toNat 0 < x2 → Q (-2) μ))))))) : at_I kC 1 mX4_changeSetting 0 [vR 1, vI x1, vI x2, vU] [] μ Q := by
  refine s_iload_n dX4_changeSetting_0 rfl rfl ?_
  refine s_if_lt dX4_changeSetting_1 (tgt := 27) (by decide) (fun cc => ?_) (fun cc => ?_)
  · have h := h.1 cc
    refine s_bipush dX4_changeSetting_27 (by decide) ?_
    exact s_ireturn dX4_changeSetting_29 (Or.inl rfl) ⟨⟨rfl, rfl⟩, _, rfl, h⟩
  · have h := h.2 cc
    refine s_iload_n dX4_changeSetting_4 rfl rfl ?_
    refine s_iconst dX4_changeSetting_5 (by decide) ?_
    refine s_icmp_ge dX4_changeSetting_6 (tgt := 27) (by decide) (fun cc => ?_) (fun cc => ?_)
    · have h := h.1 cc
      refine s_bipush dX4_changeSetting_27 (by decide) ?_
      exact s_ireturn dX4_changeSetting_29 (Or.inl rfl) ⟨⟨rfl, rfl⟩, _, rfl, h⟩
    · have h := h.2 cc
      refine s_iload_n dX4_changeSetting_9 rfl rfl ?_
      refine s_gets dX4_changeSetting_10 (by decide) gsX4_70 ?_
      refine s_iload_n dX4_changeSetting_13 rfl rfl ?_
      obtain ⟨c, c2, h⟩ := h
      refine s_iald_s dX4_changeSetting_14 (by decide) c c2 rfl ?_
      refine s_icmp_lt dX4_changeSetting_15 (tgt := 27) (by decide) (fun cc => ?_) (fun cc => ?_)
      · have h := h.1 cc
        refine s_bipush dX4_changeSetting_27 (by decide) ?_
        exact s_ireturn dX4_changeSetting_29 (Or.inl rfl) ⟨⟨rfl, rfl⟩, _, rfl, h⟩
      · have h := h.2 cc
        refine s_iload_n dX4_changeSetting_18 rfl rfl ?_
        refine s_gets dX4_changeSetting_19 (by decide) gsX4_73 ?_
        refine s_iload_n dX4_changeSetting_22 rfl rfl ?_
        obtain ⟨c, c2, h⟩ := h
        refine s_iald_s dX4_changeSetting_23 (by decide) c c2 rfl ?_
        refine s_icmp_le dX4_changeSetting_24 (tgt := 30) (by decide) (fun cc => ?_) (fun cc => ?_)
        · have h := h.1 cc
          refine s_aload_n dX4_changeSetting_30 rfl rfl ?_
          refine s_getR dX4_changeSetting_31 flX4_9 kn1 kk1 rfl kr1_0 ?_
          refine s_iload_n dX4_changeSetting_34 rfl rfl ?_
          obtain ⟨c, c2, h⟩ := h
          refine s_iald (x := (μ 2 ((x1).toNat))) dX4_changeSetting_35 kn2 kk2 kl2 c c2 rfl ?_
          refine s_istore_n dX4_changeSetting_36 rfl (by decide) (L' := [vR 1, vI x1, vI x2, vI (μ 2 ((x1).toNat))]) rfl ?_
          refine s_aload_n dX4_changeSetting_37 rfl rfl ?_
          refine s_getR dX4_changeSetting_38 flX4_9 kn1 kk1 rfl kr1_0 ?_
          refine s_iload_n dX4_changeSetting_41 rfl rfl ?_
          refine s_iload_n dX4_changeSetting_42 rfl rfl ?_
          obtain ⟨c, c2, h⟩ := h
          refine s_iast dX4_changeSetting_43 kn2 kk2 kl2 c c2 rfl ?_
          refine s_iload_n dX4_changeSetting_44 rfl rfl ?_
          exact s_ireturn dX4_changeSetting_45 (Or.inl rfl) ⟨⟨rfl, rfl⟩, _, rfl, h⟩
        · have h := h.2 cc
          refine s_bipush dX4_changeSetting_27 (by decide) ?_
          exact s_ireturn dX4_changeSetting_29 (Or.inl rfl) ⟨⟨rfl, rfl⟩, _, rfl, h⟩
theorem ve_X4_changeSetting {x1 x2 : Int} {μ : am_M} {Q : Int → am_M → Prop} (h : at_I kC 1 mX4_changeSetting 0 [vR 1, vI x1, vI x2, vU] [] μ Q) : cl_I kC 1 mX4_changeSetting [vR 1, vI x1, vI x2] μ Q := am_intro pmX4_changeSetting (Nat.le_of_ble_eq_true rfl) rfl h
theorem sp_X4_changeSetting {μ : am_M} {w v : Int} : cl_I kC 1 mX4_changeSetting [vR 1, vI w, vI v] μ (fun z m => (badE w v ∧ z = -2 ∧ m = μ) ∨ (¬ badE w v ∧ z = μ 2 w.toNat ∧ m = am_st μ 2 (am_up (μ 2) w.toNat v))) := by
  refine ve_X4_changeSetting (vc_X4_changeSetting_0 ⟨fun h => Or.inl ⟨by unfold badE; omega, rfl, rfl⟩, fun a1 => ⟨fun h => Or.inl ⟨by unfold badE; omega, rfl, rfl⟩, fun a2 => ⟨a1, a2, fun h => Or.inl ⟨by unfold badE; omega, rfl, rfl⟩, fun a3 => ⟨a1, a2, fun a4 => ⟨a1, a2, a1, a2, Or.inr ⟨by unfold badE; omega, rfl, rfl⟩⟩, fun h => Or.inl ⟨by unfold badE; omega, rfl, rfl⟩⟩⟩⟩⟩)
/-- a track's number -/
def okTr (t w v : Int) : Prop := 0 ≤ w ∧ w < 7 ∧ (am_sv 4).getD w.toNat 0 ≤ v ∧ v ≤ (am_sv 5).getD w.toNat 0 ∧ ¬ (w = 3 ∧ v = t)
theorem vc_X4_fitsTrack_0 {x1 x2 x3 : Int} {μ : am_M} {Q : Int → am_M → Prop} (h : ((0 ≤ x2 → (x2 < 7 → (0 ≤ x2) ∧ (x2 < 7) ∧ (((am_sv 4).getD (x2).toNat 0 ≤ x3 → (0 ≤ x2) ∧ (x2 < 7)))))) ∧ (∀ v1 : Int, v1 = (if x2 < 0 then 0 else (if x2 < 7 then (if x3 < (am_sv 4).getD (x2).toNat 0 then 0 else (if (am_sv 5).getD (x2).toNat 0 < x3 then 0 else (if x2 = 3 then (if x3 = x1 then 0 else 1) else 1))) else 0)) → (v1 = 0 ∨ v1 = 1) ∧ Q v1 μ)) : at_I kC 1 mX4_fitsTrack 0 [vR 1, vI x1, vI x2, vI x3] [] μ Q := by
  refine s_iload_n dX4_fitsTrack_0 rfl rfl ?_
  obtain ⟨hsd, h⟩ := h
  have kj2 : ∀ (v1 : Int), ((v1 = 0 ∨ v1 = 1) ∧ Q v1 μ) → at_I kC 1 mX4_fitsTrack 43 [vU, vU, vU, vU] [vI v1] μ Q := by
    intro v1 h
    exact s_ireturn dX4_fitsTrack_43 (Or.inr ⟨rfl, h.1⟩) ⟨⟨rfl, rfl⟩, _, rfl, h.2⟩
  refine s_if_lt dX4_fitsTrack_1 (tgt := 42) (by decide) (fun cc => ?_) (fun cc => ?_)
  · have hp0 := cc
    refine s_iconst dX4_fitsTrack_42 (by decide) ?_
    exact am_lesS (kj2 0 (h 0 (by rw [if_pos hp0]))) ⟨Or.inl rfl, Or.inl rfl, Or.inl rfl, Or.inl rfl, trivial⟩
  · have hp0 := cc
    have hsd := hsd hp0
    refine s_iload_n dX4_fitsTrack_4 rfl rfl ?_
    refine s_bipush dX4_fitsTrack_5 (by decide) ?_
    refine s_icmp_ge dX4_fitsTrack_7 (tgt := 42) (by decide) (fun cc => ?_) (fun cc => ?_)
    · have hp1 := cc
      refine s_iconst dX4_fitsTrack_42 (by decide) ?_
      exact am_lesS (kj2 0 (h 0 (by rw [if_neg (Int.not_lt.mpr hp0), if_neg (Int.not_lt.mpr hp1)]))) ⟨Or.inl rfl, Or.inl rfl, Or.inl rfl, Or.inl rfl, trivial⟩
    · have hp1 := cc
      have hsd := hsd hp1
      refine s_iload_n dX4_fitsTrack_10 rfl rfl ?_
      refine s_gets dX4_fitsTrack_11 (by decide) gsX4_76 ?_
      refine s_iload_n dX4_fitsTrack_14 rfl rfl ?_
      obtain ⟨c, c2, hsd⟩ := hsd
      refine s_iald_s dX4_fitsTrack_15 (by decide) c c2 rfl ?_
      refine s_icmp_lt dX4_fitsTrack_16 (tgt := 42) (by decide) (fun cc => ?_) (fun cc => ?_)
      · have hp2 := cc
        refine s_iconst dX4_fitsTrack_42 (by decide) ?_
        exact am_lesS (kj2 0 (h 0 (by rw [if_neg (Int.not_lt.mpr hp0), if_pos hp1, if_pos hp2]))) ⟨Or.inl rfl, Or.inl rfl, Or.inl rfl, Or.inl rfl, trivial⟩
      · have hp2 := cc
        have hsd := hsd hp2
        refine s_iload_n dX4_fitsTrack_19 rfl rfl ?_
        refine s_gets dX4_fitsTrack_20 (by decide) gsX4_79 ?_
        refine s_iload_n dX4_fitsTrack_23 rfl rfl ?_
        obtain ⟨c, c2⟩ := hsd
        refine s_iald_s dX4_fitsTrack_24 (by decide) c c2 rfl ?_
        refine s_icmp_gt dX4_fitsTrack_25 (tgt := 42) (by decide) (fun cc => ?_) (fun cc => ?_)
        · have hp3 := cc
          refine s_iconst dX4_fitsTrack_42 (by decide) ?_
          exact am_lesS (kj2 0 (h 0 (by rw [if_neg (Int.not_lt.mpr hp0), if_pos hp1, if_neg (Int.not_lt.mpr hp2), if_pos hp3]))) ⟨Or.inl rfl, Or.inl rfl, Or.inl rfl, Or.inl rfl, trivial⟩
        · have hp3 := cc
          refine s_iload_n dX4_fitsTrack_28 rfl rfl ?_
          refine s_iconst dX4_fitsTrack_29 (by decide) ?_
          refine s_icmp_ne dX4_fitsTrack_30 (tgt := 38) (by decide) (fun cc => ?_) (fun cc => ?_)
          · have hp4 := cc
            refine s_iconst dX4_fitsTrack_38 (by decide) ?_
            refine s_goto dX4_fitsTrack_39 (tgt := 43) (by decide) ?_
            exact am_lesS (kj2 1 (h 1 (by rw [if_neg (Int.not_lt.mpr hp0), if_pos hp1, if_neg (Int.not_lt.mpr hp2), if_neg (Int.not_lt.mpr hp3), if_neg hp4]))) ⟨Or.inl rfl, Or.inl rfl, Or.inl rfl, Or.inl rfl, trivial⟩
          · have hp4 := cc
            refine s_iload_n dX4_fitsTrack_33 rfl rfl ?_
            refine s_iload_n dX4_fitsTrack_34 rfl rfl ?_
            refine s_icmp_eq dX4_fitsTrack_35 (tgt := 42) (by decide) (fun cc => ?_) (fun cc => ?_)
            · have hp5 := cc
              refine s_iconst dX4_fitsTrack_42 (by decide) ?_
              exact am_lesS (kj2 0 (h 0 (by rw [if_neg (Int.not_lt.mpr hp0), if_pos hp1, if_neg (Int.not_lt.mpr hp2), if_neg (Int.not_lt.mpr hp3), if_pos hp4, if_pos hp5]))) ⟨Or.inl rfl, Or.inl rfl, Or.inl rfl, Or.inl rfl, trivial⟩
            · have hp5 := cc
              refine s_iconst dX4_fitsTrack_38 (by decide) ?_
              refine s_goto dX4_fitsTrack_39 (tgt := 43) (by decide) ?_
              exact am_lesS (kj2 1 (h 1 (by rw [if_neg (Int.not_lt.mpr hp0), if_pos hp1, if_neg (Int.not_lt.mpr hp2), if_neg (Int.not_lt.mpr hp3), if_pos hp4, if_neg hp5]))) ⟨Or.inl rfl, Or.inl rfl, Or.inl rfl, Or.inl rfl, trivial⟩
theorem ve_X4_fitsTrack {x1 x2 x3 : Int} {μ : am_M} {Q : Int → am_M → Prop} (h : at_I kC 1 mX4_fitsTrack 0 [vR 1, vI x1, vI x2, vI x3] [] μ Q) : cl_I kC 1 mX4_fitsTrack [vR 1, vI x1, vI x2, vI x3] μ Q := am_intro pmX4_fitsTrack (Nat.le_of_ble_eq_true rfl) rfl h
theorem sp_X4_fitsTrack {μ : am_M} {t w v : Int} {Q : Int → am_M → Prop} (hQ : Q (bI (okTr t w v)) μ) : cl_I kC 1 mX4_fitsTrack [vR 1, vI t, vI w, vI v] μ Q := by
  refine ve_X4_fitsTrack (vc_X4_fitsTrack_0 ⟨fun h1 h2 => ⟨h1, h2, fun _ => ⟨h1, h2⟩⟩, fun v1 e => ?_⟩)
  have e2 : v1 = bI (okTr t w v) := by
    unfold okTr
    subst e
    (repeat' split) <;> first | (exact (bI_t (by omega)).symm) | (exact (bI_f (by omega)).symm)
  rw [e2]
  exact ⟨bI_01, hQ⟩
theorem vc_X4_eventKey_0 {x0 x1 x2 : Int} {μ : am_M} {Q : Int → am_M → Prop} (h : (am_in (x0 * 3)) ∧ ((am_in ((x0 * 3) + x1)) ∧ ((am_in (((x0 * 3) + x1) * 4)) ∧ ((am_in ((((x0 * 3) + x1) * 4) + x2)) ∧ (Q ((((x0 * 3) + x1) * 4) + x2) μ))))) : at_I kC 1 mX4_eventKey 0 [vI x0, vI x1, vI x2] [] μ Q := by
  refine s_iload_n dX4_eventKey_0 rfl rfl ?_
  refine s_iconst dX4_eventKey_1 (by decide) ?_
  obtain ⟨c, h⟩ := h
  refine s_imul dX4_eventKey_2 (am_w_id c) ?_
  refine s_iload_n dX4_eventKey_3 rfl rfl ?_
  obtain ⟨c, h⟩ := h
  refine s_iadd dX4_eventKey_4 (am_w_id c) ?_
  refine s_iconst dX4_eventKey_5 (by decide) ?_
  obtain ⟨c, h⟩ := h
  refine s_imul dX4_eventKey_6 (am_w_id c) ?_
  refine s_iload_n dX4_eventKey_7 rfl rfl ?_
  obtain ⟨c, h⟩ := h
  refine s_iadd dX4_eventKey_8 (am_w_id c) ?_
  exact s_ireturn dX4_eventKey_9 (Or.inl rfl) ⟨⟨rfl, rfl⟩, _, rfl, h⟩
theorem ve_X4_eventKey {x0 x1 x2 : Int} {μ : am_M} {Q : Int → am_M → Prop} (h : at_I kC 1 mX4_eventKey 0 [vI x0, vI x1, vI x2] [] μ Q) : cl_I kC 1 mX4_eventKey [vI x0, vI x1, vI x2] μ Q := am_intro pmX4_eventKey (Nat.le_of_ble_eq_true rfl) rfl h
theorem sp_X4_eventKey {μ : am_M} {f k t : Int} {Q : Int → am_M → Prop} (h0 : in_ 0 1201 f) (h1 : in_ 0 3 k) (h2 : in_ 0 4 t) (hQ : Q ((f * 3 + k) * 4 + t) μ) : cl_I kC 1 mX4_eventKey [vI f, vI k, vI t] μ Q :=
  ve_X4_eventKey (vc_X4_eventKey_0 ⟨(by (try unfold am_in); (try unfold in_ at *); omega), (by (try unfold am_in); (try unfold in_ at *); omega), (by (try unfold am_in); (try unfold in_ at *); omega), (by (try unfold am_in); (try unfold in_ at *); omega), hQ⟩)
def nea_ (k n o : Int) : Int := if k < o then (if o < n then o else n) else n
theorem vc_X4_nearer_0 {x0 x1 x2 : Int} {μ : am_M} {Q : Int → am_M → Prop} (h : ∀ v1 : Int, v1 = (if x0 < x2 then (if x2 < x1 then x2 else x1) else x1) → Q v1 μ) : at_I kC 1 mX4_nearer 0 [vI x0, vI x1, vI x2] [] μ Q := by
  refine s_iload_n dX4_nearer_0 rfl rfl ?_
  refine s_iload_n dX4_nearer_1 rfl rfl ?_
  have kj2 : ∀ (v1 : Int), (Q v1 μ) → at_I kC 1 mX4_nearer 15 [vU, vU, vU] [vI v1] μ Q := by
    intro v1 h
    exact s_ireturn dX4_nearer_15 (Or.inl rfl) ⟨⟨rfl, rfl⟩, _, rfl, h⟩
  refine s_icmp_le dX4_nearer_2 (tgt := 14) (by decide) (fun cc => ?_) (fun cc => ?_)
  · have hp0 := cc
    refine s_iload_n dX4_nearer_14 rfl rfl ?_
    exact am_lesS (kj2 x1 (h x1 (by rw [if_neg (Int.not_lt.mpr hp0)]))) ⟨Or.inl rfl, Or.inl rfl, Or.inl rfl, trivial⟩
  · have hp0 := cc
    refine s_iload_n dX4_nearer_5 rfl rfl ?_
    refine s_iload_n dX4_nearer_6 rfl rfl ?_
    refine s_icmp_ge dX4_nearer_7 (tgt := 14) (by decide) (fun cc => ?_) (fun cc => ?_)
    · have hp1 := cc
      refine s_iload_n dX4_nearer_14 rfl rfl ?_
      exact am_lesS (kj2 x1 (h x1 (by rw [if_pos hp0, if_neg (Int.not_lt.mpr hp1)]))) ⟨Or.inl rfl, Or.inl rfl, Or.inl rfl, trivial⟩
    · have hp1 := cc
      refine s_iload_n dX4_nearer_10 rfl rfl ?_
      refine s_goto dX4_nearer_11 (tgt := 15) (by decide) ?_
      exact am_lesS (kj2 x2 (h x2 (by rw [if_pos hp0, if_pos hp1]))) ⟨Or.inl rfl, Or.inl rfl, Or.inl rfl, trivial⟩
theorem ve_X4_nearer {x0 x1 x2 : Int} {μ : am_M} {Q : Int → am_M → Prop} (h : at_I kC 1 mX4_nearer 0 [vI x0, vI x1, vI x2] [] μ Q) : cl_I kC 1 mX4_nearer [vI x0, vI x1, vI x2] μ Q := am_intro pmX4_nearer (Nat.le_of_ble_eq_true rfl) rfl h
theorem sp_X4_nearer {μ : am_M} {k n o : Int} {Q : Int → am_M → Prop} (hQ : Q (nea_ k n o) μ) : cl_I kC 1 mX4_nearer [vI k, vI n, vI o] μ Q :=
  ve_X4_nearer (vc_X4_nearer_0 fun v e => by rw [e]; exact hQ)
theorem vc_X4_events_0 {μ : am_M} {Q : Int → am_M → Prop} (h : (am_in (2 * (μ 5 1))) ∧ ((am_in ((2 * (μ 5 1)) + (μ 7 2))) ∧ (Q ((2 * (μ 5 1)) + (μ 7 2)) μ))) : at_I kC 1 mX4_events 0 [vR 1] [] μ Q := by
  refine s_iconst dX4_events_0 (by decide) ?_
  refine s_aload_n dX4_events_1 rfl rfl ?_
  refine s_getR dX4_events_2 flX4_24 kn1 kk1 rfl kr1_3 ?_
  refine s_getI (x := (μ 5 1)) dX4_events_5 flX4_60 kn5 kk5 rfl rfl ?_
  obtain ⟨c, h⟩ := h
  refine s_imul dX4_events_8 (am_w_id c) ?_
  refine s_aload_n dX4_events_9 rfl rfl ?_
  refine s_getR dX4_events_10 flX4_31 kn1 kk1 rfl kr1_4 ?_
  refine s_getI (x := (μ 7 2)) dX4_events_13 flX4_63 kn7 kk7 rfl rfl ?_
  obtain ⟨c, h⟩ := h
  refine s_iadd dX4_events_16 (am_w_id c) ?_
  exact s_ireturn dX4_events_17 (Or.inl rfl) ⟨⟨rfl, rfl⟩, _, rfl, h⟩
theorem ve_X4_events {μ : am_M} {Q : Int → am_M → Prop} (h : at_I kC 1 mX4_events 0 [vR 1] [] μ Q) : cl_I kC 1 mX4_events [vR 1] μ Q := am_intro pmX4_events (Nat.le_of_ble_eq_true rfl) rfl h
theorem sp_X4_events {μ : am_M} {Q : Int → am_M → Prop} (h0 : in_ 0 33 (μ 5 1)) (h1 : in_ 0 13 (μ 7 2)) (hQ : Q (2 * μ 5 1 + μ 7 2) μ) : cl_I kC 1 mX4_events [vR 1] μ Q :=
  ve_X4_events (vc_X4_events_0 ⟨(by (try unfold am_in); (try unfold in_ at *); omega), (by (try unfold am_in); (try unfold in_ at *); omega), hQ⟩)

/-! the reference carries a text out -/
/-- rows of the reference hold commands -/
def crR_ (m : am_M) (A : List Cm) : Prop := ∀ (i : Nat) (c : Cm), A[i]? = some c → ltr_ c.1 ∧ m 18 i = c.1 ∧ m 19 i = c.2.1 ∧ (c.1 = 100 ∨ m 20 i = c.2.2)
theorem cmd_l {T : Nat → Int} {n p : Int} (h : (cmd_ T n p).1 = true) : ltr_ (cmd_ T n p).2.1 ∧ p < n := by
  have key : sgn_ (hr_ T n p) ≠ -1 → ltr_ (hr_ T n p) ∧ p < n := fun h => by
    constructor
    · unfold ltr_
      unfold sgn_ at h
      (repeat' split at h) <;> omega
    · rcases Int.lt_or_le p n with h2 | h2
      · exact h2
      · exfalso
        apply h
        unfold hr_
        rw [if_neg (by omega)]
        rfl
  unfold cmd_ at h ⊢
  by_cases q : sgn_ (hr_ T n p) = -1
  · rw [if_pos q] at h
    exact absurd h (by simp)
  · rw [if_neg q] at h ⊢
    have k := key q
    (repeat' split) <;> exact k
/-- while a text is read: commands A so far, the place p -/
def lsR_ (μ m : am_M) (A : List Cm) (p f : Int) : Prop := fr_ [0, 18, 19, 20] μ m ∧ (∀ j, j ≠ 24 → j ≠ 25 → m 0 j = μ 0 j) ∧ m 0 24 = p ∧ m 0 25 = f ∧ crR_ m A
/-- a text that reads as R, carried out by the reference -/
def exQ_ (μ : am_M) (R : Int × List Cm) (z : Int) (m : am_M) : Prop := m 0 23 = 0 ∧ ((0 ≤ R.1 ∧ z = -1000 - R.1 ∧ ru_ [23] μ m) ∨
  (R.1 < 0 ∧ (exe_ R.2 0 (pR μ)).1 < 0 ∧ z = -5 ∧ ru_ [23, 26, 27] μ m ∧ m 0 26 = (exe_ R.2 0 (pR μ)).1 ∧ m 0 27 = (exe_ R.2 0 (pR μ)).2.1) ∨
  (R.1 < 0 ∧ ¬ (exe_ R.2 0 (pR μ)).1 < 0 ∧ z = R.2.length ∧ rch_ [23] μ m (exe_ R.2 0 (pR μ)).2.2))
theorem vc_X10_execute_0 {μ : am_M} {Q : Int → am_M → Prop} (h : ∀ m1 : am_M, m1 = am_st μ 0 (am_up (μ 0) 24 0) → ∀ m2 : am_M, m2 = am_st m1 0 (am_up (m1 0) 25 0) → at_I kR 9 mX10_execute 14 [vR 0, vI 0, vI 1, vU, vU] [] m2 Q) : at_I kR 9 mX10_execute 0 [vR 0, vU, vU, vU, vU] [] μ Q := by
  refine s_aload_n dX10_execute_0 rfl rfl ?_
  refine s_iconst dX10_execute_1 (by decide) ?_
  obtain ⟨m1, hm1⟩ : ∃ x : am_M, x = am_st μ 0 (am_up (μ 0) 24 0) := ⟨_, rfl⟩
  have h := h m1 hm1
  refine s_putI dX10_execute_2 flX10_246 rn0 rk0 rfl rfl (Or.inl rfl) hm1.symm ?_
  refine s_aload_n dX10_execute_5 rfl rfl ?_
  refine s_iconst dX10_execute_6 (by decide) ?_
  obtain ⟨m2, hm2⟩ : ∃ x : am_M, x = am_st m1 0 (am_up (m1 0) 25 0) := ⟨_, rfl⟩
  have h := h m2 hm2
  refine s_putI dX10_execute_7 flX10_249 rn0 rk0 rfl rfl (Or.inr (by decide)) hm2.symm ?_
  refine s_iconst dX10_execute_10 (by decide) ?_
  refine s_istore_n dX10_execute_11 rfl (by decide) (L' := [vR 0, vI 0, vU, vU, vU]) rfl ?_
  refine s_iconst dX10_execute_12 (by decide) ?_
  refine s_istore_n dX10_execute_13 rfl (by decide) (L' := [vR 0, vI 0, vI 1, vU, vU]) rfl ?_
  exact h
theorem vc_X10_execute_14 {x1 x2 : Int} {μ : am_M} {Q : Int → am_M → Prop} (h : (x2 = 0 → ∀ v1 : Int, v1 = (if μ 0 24 < μ 0 23 then 1 else 0) → (am_or (μ 0 25) v1 = 0 ∨ am_or (μ 0 25) v1 = 1) ∧ (∀ m2 : am_M, m2 = am_st μ 0 (am_up (μ 0) 25 (am_or (μ 0 25) v1)) → ∀ m3 : am_M, m3 = am_st m2 0 (am_up (m2 0) 23 0) → (am_or (μ 0 25) v1 = 0 → ∃ P : am_M → Prop, cl_V kR 2 mX10_begins [vR 0] m3 P ∧ (∀ m5 : am_M, P m5 → ∃ P : am_M → Prop, cl_V kR 1 mX10_copies [vR 1, vR 7] m5 P ∧ (∀ m7 : am_M, P m7 → at_I kR 9 mX10_execute 132 [vR 0, vI x1, vU, vI 0, vU] [] m7 Q))) ∧ (am_or (μ 0 25) v1 ≠ 0 → (am_in ((-1000) - (μ 0 24))) ∧ (Q ((-1000) - (μ 0 24)) m3)))) ∧ (x2 ≠ 0 → ∃ P : am_M → Prop, cl_V kR 3 mX10_command [vR 0, vI x1] μ P ∧ (∀ m10 : am_M, P m10 → (am_in (x1 + 1)) ∧ (((m10 0 25 = 0 → (m10 0 23 ≤ 60) ∧ (0 ≤ m10 0 24))) ∧ (∀ v11 : Int, v11 = (if m10 0 25 = 0 then (if hr_ (m10 17) (m10 0 23) (m10 0 24) = 59 then 1 else 0) else 0) → ∀ v12 : Int, v12 = (if v11 = 0 then 0 else 1) → (am_in (m10 0 24 + v12)) ∧ (∀ m13 : am_M, m13 = am_st m10 0 (am_up (m10 0) 24 (m10 0 24 + v12)) → at_I kR 9 mX10_execute 14 [vR 0, vI (x1 + 1), vI v11, vU, vU] [] m13 Q)))))) : at_I kR 9 mX10_execute 14 [vR 0, vI x1, vI x2, vU, vU] [] μ Q := by
  refine s_iload_n dX10_execute_14 rfl rfl ?_
  refine s_if_eq dX10_execute_15 (tgt := 69) (by decide) (fun cc => ?_) (fun cc => ?_)
  · have h := h.1 cc
    refine s_aload_n dX10_execute_69 rfl rfl ?_
    refine s_dup dX10_execute_70 ?_
    refine s_getI (x := (μ 0 25)) dX10_execute_71 flX10_249 rn0 rk0 rfl rfl ?_
    refine s_aload_n dX10_execute_74 rfl rfl ?_
    refine s_getI (x := (μ 0 24)) dX10_execute_75 flX10_246 rn0 rk0 rfl rfl ?_
    refine s_aload_n dX10_execute_78 rfl rfl ?_
    refine s_getI (x := (μ 0 23)) dX10_execute_79 flX10_243 rn0 rk0 rfl rfl ?_
    have kj8 : ∀ (v1 : Int), ((am_or (μ 0 25) v1 = 0 ∨ am_or (μ 0 25) v1 = 1) ∧ (∀ m2 : am_M, m2 = am_st μ 0 (am_up (μ 0) 25 (am_or (μ 0 25) v1)) → ∀ m3 : am_M, m3 = am_st m2 0 (am_up (m2 0) 23 0) → (am_or (μ 0 25) v1 = 0 → ∃ P : am_M → Prop, cl_V kR 2 mX10_begins [vR 0] m3 P ∧ (∀ m5 : am_M, P m5 → ∃ P : am_M → Prop, cl_V kR 1 mX10_copies [vR 1, vR 7] m5 P ∧ (∀ m7 : am_M, P m7 → at_I kR 9 mX10_execute 132 [vR 0, vI x1, vU, vI 0, vU] [] m7 Q))) ∧ (am_or (μ 0 25) v1 ≠ 0 → (am_in ((-1000) - (μ 0 24))) ∧ (Q ((-1000) - (μ 0 24)) m3)))) → at_I kR 9 mX10_execute 90 [vR 0, vI x1, vU, vU, vU] [vI v1, vI (μ 0 25), vR 0] μ Q := by
      intro v1 h
      refine s_ior dX10_execute_90 rfl ?_
      obtain ⟨c, h⟩ := h
      obtain ⟨m2, hm2⟩ : ∃ x : am_M, x = am_st μ 0 (am_up (μ 0) 25 (am_or (μ 0 25) v1)) := ⟨_, rfl⟩
      have h := h m2 hm2
      refine s_putI dX10_execute_91 flX10_249 rn0 rk0 rfl rfl (Or.inr c) hm2.symm ?_
      refine s_aload_n dX10_execute_94 rfl rfl ?_
      refine s_iconst dX10_execute_95 (by decide) ?_
      obtain ⟨m3, hm3⟩ : ∃ x : am_M, x = am_st m2 0 (am_up (m2 0) 23 0) := ⟨_, rfl⟩
      have h := h m3 hm3
      refine s_putI dX10_execute_96 flX10_243 rn0 rk0 rfl rfl (Or.inl rfl) hm3.symm ?_
      refine s_aload_n dX10_execute_99 rfl rfl ?_
      refine s_getI (x := (am_or (μ 0 25) v1)) dX10_execute_100 flX10_249 rn0 rk0 rfl (by subst hm3; subst hm2; rfl) ?_
      refine s_if_eq dX10_execute_103 (tgt := 115) (by decide) (fun cc => ?_) (fun cc => ?_)
      · have h := h.1 cc
        refine s_aload_n dX10_execute_115 rfl rfl ?_
        obtain ⟨P, hcl, h⟩ := h
        refine s_callV (As := []) (rest := []) (k := 0) dX10_execute_116 lkX10_107 rn0 ⟨by rw [rk0]; rfl, by rw [rk0]; decide⟩ lmX10_begins rfl rfl (Nat.le_of_ble_eq_true rfl) (by decide) (Nat.le_refl 0) (Nat.le_refl 0) (hC := hcl) (fun r n2 S2 m5 hP => ?_)
        obtain ⟨⟨rfl, rfl⟩, rfl, hq⟩ := hP
        have h := h m5 hq
        refine s_aload_n dX10_execute_119 rfl rfl ?_
        refine s_getR dX10_execute_120 flX10_9 rn0 rk0 rfl rr0_0 ?_
        refine s_aload_n dX10_execute_123 rfl rfl ?_
        refine s_getR dX10_execute_124 flX10_28 rn0 rk0 rfl rr0_6 ?_
        obtain ⟨P, hcl, h⟩ := h
        refine s_callS (As := [vR 1, vR 7]) (rest := []) dX10_execute_127 lkX10_78 lmX10_copies rfl rfl (Nat.le_of_ble_eq_true rfl) (by decide) (Nat.le_refl 0) (Nat.le_refl 0) (hC := hcl) (fun r n2 S2 m7 hP => ?_)
        obtain ⟨⟨rfl, rfl⟩, rfl, hq⟩ := hP
        have h := h m7 hq
        refine s_iconst dX10_execute_130 (by decide) ?_
        refine s_istore_n dX10_execute_131 rfl (by decide) (L' := [vR 0, vI x1, vU, vI 0, vU]) rfl ?_
        exact h
      · have h := h.2 cc
        refine s_sipush dX10_execute_106 (by decide) ?_
        refine s_aload_n dX10_execute_109 rfl rfl ?_
        refine s_getI (x := (μ 0 24)) dX10_execute_110 flX10_246 rn0 rk0 rfl (by subst hm3; subst hm2; rfl) ?_
        obtain ⟨c, h⟩ := h
        refine s_isub dX10_execute_113 (am_w_id c) ?_
        exact s_ireturn dX10_execute_114 (Or.inl rfl) ⟨⟨rfl, rfl⟩, _, rfl, h⟩
    refine s_icmp_ge dX10_execute_82 (tgt := 89) (by decide) (fun cc => ?_) (fun cc => ?_)
    · have hp0 := cc
      refine s_iconst dX10_execute_89 (by decide) ?_
      exact am_lesS (kj8 0 (h 0 (by rw [if_neg (Int.not_lt.mpr hp0)]))) ⟨Or.inr rfl, Or.inr rfl, Or.inl rfl, Or.inl rfl, Or.inl rfl, trivial⟩
    · have hp0 := cc
      refine s_iconst dX10_execute_85 (by decide) ?_
      refine s_goto dX10_execute_86 (tgt := 90) (by decide) ?_
      exact am_lesS (kj8 1 (h 1 (by rw [if_pos hp0]))) ⟨Or.inr rfl, Or.inr rfl, Or.inl rfl, Or.inl rfl, Or.inl rfl, trivial⟩
  · have h := h.2 cc
    refine s_aload_n dX10_execute_18 rfl rfl ?_
    refine s_iload_n dX10_execute_19 rfl rfl ?_
    obtain ⟨P, hcl, h⟩ := h
    refine s_callV (As := [vI x1]) (rest := []) (k := 0) dX10_execute_20 lkX10_261 rn0 ⟨by rw [rk0]; rfl, by rw [rk0]; decide⟩ lmX10_command rfl rfl (Nat.le_of_ble_eq_true rfl) (by decide) (Nat.le_refl 0) (Nat.le_refl 0) (hC := hcl) (fun r n2 S2 m10 hP => ?_)
    obtain ⟨⟨rfl, rfl⟩, rfl, hq⟩ := hP
    have h := h m10 hq
    obtain ⟨c, h⟩ := h
    refine s_iinc dX10_execute_23 rfl (am_w_id c) (by decide) (L' := [vR 0, vI (x1 + 1), vI x2, vU, vU]) rfl ?_
    refine s_aload_n dX10_execute_26 rfl rfl ?_
    refine s_getI (x := (m10 0 25)) dX10_execute_27 flX10_249 rn0 rk0 rfl rfl ?_
    obtain ⟨hsd, h⟩ := h
    have kj15 : ∀ (v11 : Int), (∀ v12 : Int, v12 = (if v11 = 0 then 0 else 1) → (am_in (m10 0 24 + v12)) ∧ (∀ m13 : am_M, m13 = am_st m10 0 (am_up (m10 0) 24 (m10 0 24 + v12)) → at_I kR 9 mX10_execute 14 [vR 0, vI (x1 + 1), vI v11, vU, vU] [] m13 Q)) → at_I kR 9 mX10_execute 47 [vR 0, vI (x1 + 1), vU, vU, vU] [vI v11] m10 Q := by
      intro v11 h
      refine s_istore_n dX10_execute_47 rfl (by decide) (L' := [vR 0, vI (x1 + 1), vI v11, vU, vU]) rfl ?_
      refine s_aload_n dX10_execute_48 rfl rfl ?_
      refine s_dup dX10_execute_49 ?_
      refine s_getI (x := (m10 0 24)) dX10_execute_50 flX10_246 rn0 rk0 rfl rfl ?_
      refine s_iload_n dX10_execute_53 rfl rfl ?_
      have kj14 : ∀ (v12 : Int), ((am_in (m10 0 24 + v12)) ∧ (∀ m13 : am_M, m13 = am_st m10 0 (am_up (m10 0) 24 (m10 0 24 + v12)) → at_I kR 9 mX10_execute 14 [vR 0, vI (x1 + 1), vI v11, vU, vU] [] m13 Q)) → at_I kR 9 mX10_execute 62 [vR 0, vI (x1 + 1), vI v11, vU, vU] [vI v12, vI (m10 0 24), vR 0] m10 Q := by
        intro v12 h
        obtain ⟨c, h⟩ := h
        refine s_iadd dX10_execute_62 (am_w_id c) ?_
        obtain ⟨m13, hm13⟩ : ∃ x : am_M, x = am_st m10 0 (am_up (m10 0) 24 (m10 0 24 + v12)) := ⟨_, rfl⟩
        have h := h m13 hm13
        refine s_putI dX10_execute_63 flX10_246 rn0 rk0 rfl rfl (Or.inl rfl) hm13.symm ?_
        refine s_goto dX10_execute_66 (tgt := 14) (by decide) ?_
        exact h
      refine s_if_eq dX10_execute_54 (tgt := 61) (by decide) (fun cc => ?_) (fun cc => ?_)
      · have hp0 := cc
        refine s_iconst dX10_execute_61 (by decide) ?_
        exact kj14 0 (h 0 (by rw [if_pos hp0]))
      · have hp0 := cc
        refine s_iconst dX10_execute_57 (by decide) ?_
        refine s_goto dX10_execute_58 (tgt := 62) (by decide) ?_
        exact kj14 1 (h 1 (by rw [if_neg hp0]))
    refine s_if_ne dX10_execute_30 (tgt := 46) (by decide) (fun cc => ?_) (fun cc => ?_)
    · have hp0 := cc
      refine s_iconst dX10_execute_46 (by decide) ?_
      exact am_lesS (kj15 0 (h 0 (by rw [if_neg hp0]))) ⟨Or.inr rfl, Or.inr rfl, Or.inl rfl, Or.inl rfl, Or.inl rfl, trivial⟩
    · have hp0 := cc
      have hsd := hsd hp0
      refine s_aload_n dX10_execute_33 rfl rfl ?_
      obtain ⟨p0, p1⟩ := hsd
      refine s_callV (As := []) (rest := []) (k := 0) dX10_execute_34 lkX10_252 rn0 ⟨by rw [rk0]; rfl, by rw [rk0]; decide⟩ lmX10_here rfl rfl (Nat.le_of_ble_eq_true rfl) (by decide) (Nat.le_refl 0) (Nat.le_refl 0) (hC := sp_X10_here (Q := fun z m => hr_ (m10 17) (m10 0 23) (m10 0 24) = z ∧ m10 = m) p0 p1 ⟨rfl, rfl⟩) (fun r n2 S2 m2 hP => ?_)
      obtain ⟨⟨rfl, rfl⟩, z, rfl, rfl, rfl⟩ := hP
      refine s_bipush dX10_execute_37 (by decide) ?_
      refine s_icmp_ne dX10_execute_39 (tgt := 46) (by decide) (fun cc => ?_) (fun cc => ?_)
      · have hp1 := cc
        refine s_iconst dX10_execute_46 (by decide) ?_
        exact am_lesS (kj15 0 (h 0 (by rw [if_pos hp0, if_neg hp1]))) ⟨Or.inr rfl, Or.inr rfl, Or.inl rfl, Or.inl rfl, Or.inl rfl, trivial⟩
      · have hp1 := cc
        refine s_iconst dX10_execute_42 (by decide) ?_
        refine s_goto dX10_execute_43 (tgt := 47) (by decide) ?_
        exact am_lesS (kj15 1 (h 1 (by rw [if_pos hp0, if_pos hp1]))) ⟨Or.inr rfl, Or.inr rfl, Or.inl rfl, Or.inl rfl, Or.inl rfl, trivial⟩
theorem vc_X10_execute_132 {x1 x3 : Int} {μ : am_M} {Q : Int → am_M → Prop} (h : (x1 ≤ x3 → ∃ P : Int → am_M → Prop, cl_I kR 3 mX10_ends [vR 0, vI x1] μ P ∧ (∀ (z1 : Int) (m2 : am_M), P z1 m2 → Q z1 m2)) ∧ (x3 < x1 → ∃ P : Int → am_M → Prop, cl_I kR 8 mX10_done [vR 0, vI x3] μ P ∧ (∀ (z3 : Int) (m4 : am_M), P z3 m4 → (z3 < 0 → ∃ P : am_M → Prop, cl_V kR 1 mX10_copies [vR 7, vR 1] m4 P ∧ (∀ m6 : am_M, P m6 → ∀ m7 : am_M, m7 = am_st m6 0 (am_up (m6 0) 26 z3) → ∀ m8 : am_M, m8 = am_st m7 0 (am_up (m7 0) 27 x3) → Q (-5) m8)) ∧ (0 ≤ z3 → (am_in (x3 + 1)) ∧ (at_I kR 9 mX10_execute 132 [vR 0, vI x1, vU, vI (x3 + 1), vU] [] m4 Q))))) : at_I kR 9 mX10_execute 132 [vR 0, vI x1, vU, vI x3, vU] [] μ Q := by
  refine s_iload_n dX10_execute_132 rfl rfl ?_
  refine s_iload_n dX10_execute_133 rfl rfl ?_
  refine s_icmp_ge dX10_execute_134 (tgt := 183) (by decide) (fun cc => ?_) (fun cc => ?_)
  · have h := h.1 cc
    refine s_aload_n dX10_execute_183 rfl rfl ?_
    refine s_iload_n dX10_execute_184 rfl rfl ?_
    obtain ⟨P, hcl, h⟩ := h
    refine s_callV (As := [vI x1]) (rest := []) (k := 0) dX10_execute_185 lkX10_110 rn0 ⟨by rw [rk0]; rfl, by rw [rk0]; decide⟩ lmX10_ends rfl rfl (Nat.le_of_ble_eq_true rfl) (by decide) (Nat.le_refl 0) (Nat.le_refl 0) (hC := hcl) (fun r n2 S2 m2 hP => ?_)
    obtain ⟨⟨rfl, rfl⟩, z1, rfl, hq⟩ := hP
    have h := h z1 m2 hq
    exact s_ireturn dX10_execute_188 (Or.inl rfl) ⟨⟨rfl, rfl⟩, _, rfl, h⟩
  · have h := h.2 cc
    refine s_aload_n dX10_execute_137 rfl rfl ?_
    refine s_iload_n dX10_execute_138 rfl rfl ?_
    obtain ⟨P, hcl, h⟩ := h
    refine s_callV (As := [vI x3]) (rest := []) (k := 0) dX10_execute_139 lkX10_264 rn0 ⟨by rw [rk0]; rfl, by rw [rk0]; decide⟩ lmX10_done rfl rfl (Nat.le_of_ble_eq_true rfl) (by decide) (Nat.le_refl 0) (Nat.le_refl 0) (hC := hcl) (fun r n2 S2 m4 hP => ?_)
    obtain ⟨⟨rfl, rfl⟩, z3, rfl, hq⟩ := hP
    have h := h z3 m4 hq
    refine s_istore dX10_execute_142 (by decide) (L' := [vR 0, vI x1, vU, vI x3, vI z3]) rfl ?_
    refine s_iload dX10_execute_144 rfl ?_
    refine s_if_lt dX10_execute_146 (tgt := 152) (by decide) (fun cc => ?_) (fun cc => ?_)
    · have h := h.1 cc
      refine s_aload_n dX10_execute_152 rfl rfl ?_
      refine s_getR dX10_execute_153 flX10_28 rn0 rk0 rfl rr0_6 ?_
      refine s_aload_n dX10_execute_156 rfl rfl ?_
      refine s_getR dX10_execute_157 flX10_9 rn0 rk0 rfl rr0_0 ?_
      obtain ⟨P, hcl, h⟩ := h
      refine s_callS (As := [vR 7, vR 1]) (rest := []) dX10_execute_160 lkX10_78 lmX10_copies rfl rfl (Nat.le_of_ble_eq_true rfl) (by decide) (Nat.le_refl 0) (Nat.le_refl 0) (hC := hcl) (fun r n2 S2 m6 hP => ?_)
      obtain ⟨⟨rfl, rfl⟩, rfl, hq⟩ := hP
      have h := h m6 hq
      refine s_aload_n dX10_execute_163 rfl rfl ?_
      refine s_iload dX10_execute_164 rfl ?_
      obtain ⟨m7, hm7⟩ : ∃ x : am_M, x = am_st m6 0 (am_up (m6 0) 26 z3) := ⟨_, rfl⟩
      have h := h m7 hm7
      refine s_putI dX10_execute_166 flX10_267 rn0 rk0 rfl rfl (Or.inl rfl) hm7.symm ?_
      refine s_aload_n dX10_execute_169 rfl rfl ?_
      refine s_iload_n dX10_execute_170 rfl rfl ?_
      obtain ⟨m8, hm8⟩ : ∃ x : am_M, x = am_st m7 0 (am_up (m7 0) 27 x3) := ⟨_, rfl⟩
      have h := h m8 hm8
      refine s_putI dX10_execute_171 flX10_62 rn0 rk0 rfl rfl (Or.inl rfl) hm8.symm ?_
      refine s_bipush dX10_execute_174 (by decide) ?_
      exact s_ireturn dX10_execute_176 (Or.inl rfl) ⟨⟨rfl, rfl⟩, _, rfl, h⟩
    · have h := h.2 cc
      refine s_goto dX10_execute_149 (tgt := 177) (by decide) ?_
      obtain ⟨c, h⟩ := h
      refine s_iinc dX10_execute_177 rfl (am_w_id c) (by decide) (L' := [vR 0, vI x1, vU, vI (x3 + 1), vI z3]) rfl ?_
      refine s_goto dX10_execute_180 (tgt := 132) (by decide) ?_
      exact am_lesS h ⟨Or.inr rfl, Or.inr rfl, Or.inl rfl, Or.inr rfl, Or.inl rfl, trivial⟩
theorem ve_X10_execute {μ : am_M} {Q : Int → am_M → Prop} (h : at_I kR 9 mX10_execute 0 [vR 0, vU, vU, vU, vU] [] μ Q) : cl_I kR 9 mX10_execute [vR 0] μ Q := am_intro pmX10_execute (Nat.le_of_ble_eq_true rfl) rfl h
theorem sp_X10_execute {K : Int} {μ : am_M} (hI : RI K μ) (hK : K < 99999) : cl_I kR 9 mX10_execute [vR 0] μ (fun z m => exQ_ μ (prs_ (μ 17) (μ 0 23) 20 0) z m) := by
  have hV := hI.1
  have h23 : in_ 0 61 (μ 0 23) := hI.2.2.2.2.1
  have h23' := h23
  unfold in_ at h23'
  obtain ⟨R, hR⟩ : ∃ R, R = prs_ (μ 17) (μ 0 23) 20 0 := ⟨_, rfl⟩
  rw [← hR]
  have hR20 : R.2.length ≤ 20 := by rw [hR]; exact prs_l 20 0
  -- the commands are carried out
  have third : R.1 < 0 → ∀ m7 : am_M, bg_ [23] μ m7 → m7 1 = μ 1 → (∀ i : Nat, i < 470 → m7 7 i = μ 1 i) → m7 0 23 = 0 → crR_ m7 R.2 → ∀ (B A : List Cm) (x : Int) (P : Pj) (m : am_M), R.2 = A ++ B → x = A.length → vP P → pe_ P (pR m) → 0 ≤ m 1 438 → fr_ [1, 14] m7 m → exe_ R.2 0 (pR μ) = exe_ B x P → at_I kR 9 mX10_execute 132 [vR 0, vI R.2.length, vU, vI x, vU] [] m (fun z m => exQ_ μ R z m) := by
    intro hR1 m7 b7 p7 t7 z23 c7 B
    induction B with
    | nil =>
      intro A x P m hA hx hv hp h4 hf he
      rw [List.append_nil] at hA
      have ex : (R.2.length : Int) ≤ x := by rw [hA, hx]; omega
      refine vc_X10_execute_132 ⟨fun _ => ?_, fun q => by omega⟩
      have bm := bg_fr b7 hf (by decide) (by decide)
      obtain ⟨n7, n9, -⟩ := ends_n hI hK (by simp) bm.1
      refine ⟨_, sp_X10_ends n7 n9, fun w m' h => ?_⟩
      obtain ⟨hw, hed⟩ := h
      have e0 : exe_ R.2 0 (pR μ) = (0, x, P) := he
      refine ⟨?_, Or.inr (Or.inr ⟨hR1, by rw [e0]; show ¬ (0 : Int) < 0; omega, hw, ?_⟩)⟩
      · rw [hed.2.1 23 (by decide) (by decide) (by decide), hf 0 (by decide)]
        exact z23
      · rw [e0]
        exact ends_C hI hK (by simp) bm.1 bm.2 hp h4 hed
    | cons c B ih =>
      intro A x P m hA hx hv hp h4 hf he
      have hll : R.2.length = A.length + 1 + B.length := by rw [hA]; simp; omega
      have Vm : vR_ m := ⟨pe_v hv hp, h4⟩
      have hc := c7 A.length c (by rw [hA]; simp)
      have xA : x.toNat = A.length := by omega
      refine vc_X10_execute_132 ⟨fun q => by omega, fun q => ⟨_, sp_X10_done (c := c) Vm (by (try unfold am_in); (try unfold in_ at *); omega) hc.1 (by rw [hf 18 (by decide), xA]; exact hc.2.1) (by rw [hf 19 (by decide), xA]; exact hc.2.2.1) (by rw [hf 20 (by decide), xA]; exact hc.2.2.2), fun z m4 ⟨d1, d2, d3⟩ => ?_⟩⟩
      have ce := cmd_pe hp c
      have f4 : fr_ [1, 14] m7 m4 := fr_tr hf d3
      have b4 := bg_fr b7 f4 (by decide) (by decide)
      refine ⟨fun z0 => ⟨_, sp_X10_copies (rrow (by simp)) (rrow (by simp)) (by decide), fun m6 ⟨f6, e6⟩ m8 e8 m9 e9 => ?_⟩, fun z0 => ⟨(by (try unfold am_in); (try unfold in_ at *); omega), ?_⟩⟩
      · have oc : (o_cmd P c).1 = z := by rw [ce.1]; exact d1 z0
        have e0 : exe_ R.2 0 (pR μ) = (z, x, P) := by rw [he, exe_s, if_pos (by omega), oc]
        unfold exQ_
        rw [e0]
        have pa := pA_c (a := μ 1) (b := m6 1) hV.1 hV.2 (fun i hi => by rw [e6 i hi, f4 7 (by decide)]; exact t7 i hi)
        have a0 : ∀ j, j ≠ 26 → j ≠ 27 → m9 0 j = m7 0 j := fun j h1 h2 => by rw [e9, st_s, up_n h2, e8, st_s, up_n h1, f6 0 (by decide), f4 0 (by decide)]
        have a1 : m9 1 = m6 1 := by rw [e9, st_n (by decide), e8, st_n (by decide)]
        have f9 : fr_ (0 :: 1 :: scR) m7 m9 := fr_tr (fr_up f4 (by decide)) (fr_tr (fr_up f6 (by decide)) (by rw [e9, e8]; exact fr_tr (fr_st (by simp)) (fr_st (by simp))))
        refine ⟨by rw [a0 23 (by decide) (by decide)]; exact z23, Or.inr (Or.inl ⟨hR1, z0, rfl, ⟨⟨fr_tr b7.1.1 f9, fun j hj => ?_⟩, ?_, by rw [a1]; exact pa.2⟩, by rw [e9, st_s, up_n (by decide), e8, st_s, up_s], by rw [e9, st_s, up_s]⟩)⟩
        · simp only [List.mem_cons, not_or] at hj
          rw [a0 j hj.2.2.2.2.1 hj.2.2.2.2.2.1, b7.1.2 j (by simp only [List.mem_cons, not_or]; exact ⟨hj.1, hj.2.1, hj.2.2.1, hj.2.2.2.1, by simp⟩)]
        · show pe_ (pA (μ 1)) (pA (m9 1))
          rw [a1]
          exact pa.1
      · have oc : ¬ (o_cmd P c).1 < 0 := by rw [ce.1]; have := (d2 z0).1; omega
        rw [exe_s, if_neg oc] at he
        exact ih (A ++ [c]) (x + 1) (o_cmd P c).2 m4 (by rw [hA]; simp) (by simp; omega) (ov_cmd hv c).2 (pe_tr ce.2 (d2 z0).2.1) (d2 z0).2.2 f4 he
  -- the text has been read
  have second : ∀ (y : Int) (A : List Cm) (p f : Int) (m : am_M), lsR_ μ m A p f → 0 ≤ p → p ≤ μ 0 23 → (f = 1 ∧ R.1 = p ∨ f = 0 ∧ p < μ 0 23 ∧ R.1 = p ∨ f = 0 ∧ p = μ 0 23 ∧ R = (-1, A) ∧ y = A.length) → at_I kR 9 mX10_execute 14 [vR 0, vI y, vI 0, vU, vU] [] m (fun z m => exQ_ μ R z m) := by
    intro y A p f m ⟨g1, g2, g3, g4, g5⟩ hp0 hp1 hc
    have n23 : m 0 23 = μ 0 23 := g2 23 (by decide) (by decide)
    refine vc_X10_execute_14 ⟨fun _ v1 hv1 => ?_, fun q => absurd rfl q⟩
    rw [g3, n23] at hv1
    rw [g3, g4]
    have or3 : am_or f v1 = (if f = 1 ∨ p < μ 0 23 then 1 else 0) := by
      rcases hc with ⟨h, _⟩ | ⟨h, h2, _⟩ | ⟨h, h2, _⟩
      · rw [h, if_pos (Or.inl rfl), hv1]
        split
        · exact or01.2.2.2
        · exact or01.2.2.1
      · rw [h, if_pos (Or.inr h2), hv1, if_pos h2]
        exact or01.2.1
      · rw [h, if_neg (by omega), hv1, if_neg (by omega)]
        exact or01.1
    rw [or3]
    refine ⟨by split <;> omega, fun m2 e2 m3 e3 => ?_⟩
    have f3 : fr_ [0] m m3 := by rw [e3, e2]; exact fr_tr (fr_st (by simp)) (fr_st (by simp))
    have a0 : ∀ j, j ≠ 23 → j ≠ 24 → j ≠ 25 → m3 0 j = μ 0 j := fun j h1 h2 h3 => by rw [e3, st_s, up_n h1, e2, st_s, up_n h3, g2 j h2 h3]
    have a23 : m3 0 23 = 0 := by rw [e3, st_s, up_s]
    have r3 : rm_ [23] μ m3 := by
      refine ⟨fr_tr (fr_up g1 (by decide)) (fr_up f3 (by decide)), fun j hj => ?_⟩
      simp only [List.mem_cons, not_or] at hj
      exact a0 j hj.2.2.2.1 hj.2.1 hj.2.2.1
    have p3 : m3 1 = μ 1 := (f3 1 (by decide)).trans (g1 1 (by decide))
    refine ⟨fun c => ?_, fun c => ⟨(by (try unfold am_in); (try unfold in_ at *); omega), a23, Or.inl ?_⟩⟩
    · have hR' : R = (-1, A) ∧ y = A.length := by
        rcases hc with ⟨h, _⟩ | ⟨h, h2, _⟩ | ⟨h, h2, h3⟩
        · rw [if_pos (Or.inl h)] at c; omega
        · rw [if_pos (Or.inr h2)] at c; omega
        · exact h3
      refine ⟨_, sp_X10_begins, fun m5 ⟨f5, e5⟩ => ?_⟩
      have b5 : bg_ [23] μ m5 := bg_of r3 p3 f5 e5
      have p5 : m5 1 = μ 1 := (f5 1 (by decide)).trans p3
      refine ⟨_, sp_X10_copies (rrow (by simp)) (rrow (by simp)) (by decide), fun m7 ⟨f7, e7⟩ => ?_⟩
      have b7 := bg_fr b5 f7 (by decide) (by decide)
      have p7 : m7 1 = μ 1 := (f7 1 (by decide)).trans p5
      obtain ⟨hR', hy⟩ := hR'
      have hA : A = R.2 := by rw [hR']
      rw [hy, hA]
      refine third (by rw [hR']; show (-1 : Int) < 0; omega) m7 b7 p7 (fun i hi => by rw [e7 i hi, p5]) (by rw [f7 0 (by decide), f5 0 (by decide), a23]) ?_ R.2 [] 0 (pR μ) m7 rfl rfl hV.1 (by show pe_ (pA (μ 1)) (pA (m7 1)); rw [p7]; exact pe_rf) (by rw [p7]; exact hV.2) fr_rf rfl
      intro i c' hi
      have := g5 i c' (by rw [hA]; exact hi)
      rw [f7 18 (by decide), f7 19 (by decide), f7 20 (by decide), f5 18 (by decide), f5 19 (by decide), f5 20 (by decide), f3 18 (by decide), f3 19 (by decide), f3 20 (by decide)]
      exact this
    · have hR1 : R.1 = p := by
        rcases hc with ⟨h, h1⟩ | ⟨h, h2, h1⟩ | ⟨h, h2, h3⟩
        · exact h1
        · exact h1
        · rw [if_neg (by omega)] at c; exact absurd rfl c
      refine ⟨by omega, by rw [hR1], r3, ?_, by rw [p3]; exact hV.2⟩
      show pe_ (pA (μ 1)) (pA (m3 1))
      rw [p3]
      exact pe_rf
  -- what reading a command leaves
  have step : ∀ (A : List Cm) (p : Int) (m : am_M), A.length ≤ 20 → 0 ≤ p → p ≤ μ 0 23 → lsR_ μ m A p 0 → ((cmd_ (μ 17) (μ 0 23) p).1 = false → R.1 = (cmd_ (μ 17) (μ 0 23) p).2.2.2.2) → ((cmd_ (μ 17) (μ 0 23) p).1 = true → ∀ m10 : am_M, lsR_ μ m10 (A ++ [((cmd_ (μ 17) (μ 0 23) p).2.1, (cmd_ (μ 17) (μ 0 23) p).2.2.1, (cmd_ (μ 17) (μ 0 23) p).2.2.2.1)]) (cmd_ (μ 17) (μ 0 23) p).2.2.2.2 0 → ∀ v11 v12 : Int, v11 = (if hr_ (μ 17) (μ 0 23) (cmd_ (μ 17) (μ 0 23) p).2.2.2.2 = 59 then 1 else 0) → v12 = v11 → ∀ m13 : am_M, m13 = am_st m10 0 (am_up (m10 0) 24 (m10 0 24 + v12)) → at_I kR 9 mX10_execute 14 [vR 0, vI (A.length + 1), vI v11, vU, vU] [] m13 (fun z m => exQ_ μ R z m)) → at_I kR 9 mX10_execute 14 [vR 0, vI A.length, vI 1, vU, vU] [] m (fun z m => exQ_ μ R z m) := by
    intro A p m hA hp0 hp1 ⟨g1, g2, g3, g4, g5⟩ hbad hgood
    have t17 : m 17 = μ 17 := g1 17 (by decide)
    have t23 : m 0 23 = μ 0 23 := g2 23 (by decide) (by decide)
    refine vc_X10_execute_14 ⟨fun q => by omega, fun _ => ⟨_, sp_X10_command (p := p) (by rw [t23]; exact h23) hp0 (by omega) g3 g4 (by (try unfold am_in); (try unfold in_ at *); omega), fun m10 hc => ?_⟩⟩
    rw [t17, t23, show ((A.length : Int)).toNat = A.length by omega] at hc
    obtain ⟨c1, c2, c3, c4, c5⟩ := hc
    have cb := cmd_b (T := μ 17) (n := μ 0 23) (p := p)
    have cb3 := cb.2.2 hp1
    have f10 : fr_ [0, 18, 19, 20] μ m10 := fr_tr g1 c1
    have b0 : ∀ j, j ≠ 24 → j ≠ 25 → m10 0 j = μ 0 j := fun j h1 h2 => (c2 j h1 h2).trans (g2 j h1 h2)
    have u23 : m10 0 23 = μ 0 23 := b0 23 (by decide) (by decide)
    have u17 : m10 17 = μ 17 := f10 17 (by decide)
    refine ⟨(by (try unfold am_in); (try unfold in_ at *); omega), fun _ => ⟨by omega, by omega⟩, fun v11 h11 v12 h12 => ?_⟩
    rw [u17, u23, c3] at h11
    have b11 : v11 = 0 ∨ v11 = 1 := by rw [h11]; (repeat' split) <;> omega
    have h12' : v12 = v11 := by
      rw [h12]
      split <;> omega
    refine ⟨by rw [c3]; ((try unfold am_in); (try unfold in_ at *); omega), fun m13 e13 => ?_⟩
    rcases c5 with ⟨q1, q2, q3, q4, q5⟩ | ⟨q1, q2⟩
    · rw [if_pos q2] at h11
      refine hgood q1 m10 ⟨f10, b0, c3, q2, fun i c hi => ?_⟩ v11 v12 h11 h12' m13 e13
      by_cases hl : i < A.length
      · rw [List.getElem?_append_left hl] at hi
        obtain ⟨w1, w2, w3⟩ := c4 i (by omega)
        rw [w1, w2, w3]
        exact g5 i c hi
      · have hl2 := (List.getElem?_eq_some_iff.mp hi).1
        simp at hl2
        have : i = A.length := by omega
        subst this
        simp at hi
        subst hi
        exact ⟨(cmd_l q1).1, q3, q4, q5⟩
    · rw [if_neg (by omega)] at h11
      rw [h11] at h12' ⊢
      rw [h12'] at e13
      refine second (A.length + 1) [] (cmd_ (μ 17) (μ 0 23) p).2.2.2.2 1 m13 ⟨fr_tr f10 (by rw [e13]; exact fr_st (by simp)), fun j h1 h2 => by rw [e13, st_s, up_n h1, b0 j h1 h2], by rw [e13, st_s, up_s, c3]; omega, by rw [e13, st_s, up_n (by decide), q2], fun i c hi => by simp at hi⟩ (by omega) cb3 (Or.inl ⟨rfl, hbad q1⟩)
  have first : ∀ (k : Nat) (A : List Cm) (p : Int) (m : am_M), (A.length : Int) + k = 20 → 3 * (A.length : Int) ≤ p → p ≤ μ 0 23 → R = ((prs_ (μ 17) (μ 0 23) k p).1, A ++ (prs_ (μ 17) (μ 0 23) k p).2) → lsR_ μ m A p 0 → at_I kR 9 mX10_execute 14 [vR 0, vI A.length, vI 1, vU, vU] [] m (fun z m => exQ_ μ R z m) := by
    intro k
    induction k with
    | zero =>
      intro A p m hA hp0 hp1 hRp hl
      have ec : cmd_ (μ 17) (μ 0 23) p = (false, hr_ (μ 17) (μ 0 23) p, 0, 0, p) := by
        unfold cmd_
        rw [if_pos]
        unfold hr_
        rw [if_neg (by omega)]
        rfl
      refine step A p m (by omega) (by omega) hp1 hl (fun _ => ?_) (fun q => ?_)
      · rw [ec, hRp]
        rfl
      · rw [ec] at q
        exact absurd q (by simp)
    | succ k ih =>
      intro A p m hA hp0 hp1 hRp hl
      refine step A p m (by omega) (by omega) hp1 hl (fun q => ?_) (fun q m10 l10 v11 v12 h11 h12 m13 e13 => ?_)
      · have r1 : prs_ (μ 17) (μ 0 23) (k + 1) p = _ := if_pos q
        rw [hRp, r1]
      · have r1 : prs_ (μ 17) (μ 0 23) (k + 1) p = _ := if_neg (by rw [q]; decide)
        have cb := cmd_b (T := μ 17) (n := μ 0 23) (p := p)
        have cb2 := cb.2.1 q
        have cb3 := cb.2.2 hp1
        obtain ⟨g1, g2, g3, g4, g5⟩ := l10
        have l13 : ∀ x, x = (cmd_ (μ 17) (μ 0 23) p).2.2.2.2 + v12 → lsR_ μ m13 (A ++ [((cmd_ (μ 17) (μ 0 23) p).2.1, (cmd_ (μ 17) (μ 0 23) p).2.2.1, (cmd_ (μ 17) (μ 0 23) p).2.2.2.1)]) x 0 := fun x hx => by
          refine ⟨fr_tr g1 (by rw [e13]; exact fr_st (by simp)), fun j h1 h2 => by rw [e13, st_s, up_n h1, g2 j h1 h2], by rw [e13, st_s, up_s, g3, hx], by rw [e13, st_s, up_n (by decide), g4], fun i c hi => ?_⟩
          rw [e13, st_n (by decide), st_n (by decide), st_n (by decide)]
          exact g5 i c hi
        have el : ((A ++ [((cmd_ (μ 17) (μ 0 23) p).2.1, (cmd_ (μ 17) (μ 0 23) p).2.2.1, (cmd_ (μ 17) (μ 0 23) p).2.2.2.1)]).length : Int) = A.length + 1 := by simp
        by_cases q2 : (cmd_ (μ 17) (μ 0 23) p).2.2.2.2 = μ 0 23
        · have h59 : ¬ hr_ (μ 17) (μ 0 23) (cmd_ (μ 17) (μ 0 23) p).2.2.2.2 = 59 := by
            unfold hr_
            rw [if_neg (by omega)]
            decide
          rw [if_neg h59] at h11
          have r2 := r1.trans (if_pos q2)
          rw [h11]
          refine second (A.length + 1) _ _ 0 m13 (l13 (cmd_ (μ 17) (μ 0 23) p).2.2.2.2 (by omega)) (by omega) cb3 (Or.inr (Or.inr ⟨rfl, q2, ?_, el.symm⟩))
          rw [hRp, r2]
        · have r2 := r1.trans (if_neg q2)
          by_cases q3 : hr_ (μ 17) (μ 0 23) (cmd_ (μ 17) (μ 0 23) p).2.2.2.2 = 59
          · have r3 := r2.trans (if_pos q3)
            rw [if_pos q3] at h11
            rw [h11]
            have := ih _ ((cmd_ (μ 17) (μ 0 23) p).2.2.2.2 + 1) m13 (by rw [el]; omega) (by rw [el]; omega) (by omega) ?_ (l13 _ (by omega))
            · rw [el] at this
              exact this
            · rw [hRp, r3]
              simp
          · have r3 := r2.trans (if_neg q3)
            rw [if_neg q3] at h11
            rw [h11]
            refine second (A.length + 1) _ _ 0 m13 (l13 (cmd_ (μ 17) (μ 0 23) p).2.2.2.2 (by omega)) (by omega) cb3 (Or.inr (Or.inl ⟨rfl, by omega, ?_⟩))
            rw [hRp, r3]
  refine ve_X10_execute (vc_X10_execute_0 (fun m1 e1 m2 e2 => ?_))
  refine first 20 [] 0 m2 (by simp) (by simp) h23'.1 (by rw [hR]; simp) ⟨by rw [e2, e1]; exact fr_tr (fr_st (by simp)) (fr_st (by simp)), fun j h1 h2 => by rw [e2, st_s, up_n h2, e1, st_s, up_n h1], by rw [e2, st_s, up_n (by decide), e1, st_s, up_s], by rw [e2, st_s, up_s], fun i c hi => by simp at hi⟩

/-! the reference's groups, steps, snapshot, counts -/
theorem vc_X10_begin_0 {μ : am_M} {Q : Int → am_M → Prop} (h : (μ 0 11 = 0 → ∀ m1 : am_M, m1 = am_st μ 0 (am_up (μ 0) 11 1) → ∀ m2 : am_M, m2 = am_st m1 0 (am_up (m1 0) 9 0) → Q (μ 0 7) m2) ∧ (μ 0 11 ≠ 0 → Q (-5) μ)) : at_I kR 1 mX10_begin 0 [vR 0] [] μ Q := by
  refine s_aload_n dX10_begin_0 rfl rfl ?_
  refine s_getI (x := (μ 0 11)) dX10_begin_1 flX10_92 rn0 rk0 rfl rfl ?_
  refine s_if_eq dX10_begin_4 (tgt := 10) (by decide) (fun cc => ?_) (fun cc => ?_)
  · have h := h.1 cc
    refine s_aload_n dX10_begin_10 rfl rfl ?_
    refine s_iconst dX10_begin_11 (by decide) ?_
    obtain ⟨m1, hm1⟩ : ∃ x : am_M, x = am_st μ 0 (am_up (μ 0) 11 1) := ⟨_, rfl⟩
    have h := h m1 hm1
    refine s_putI dX10_begin_12 flX10_92 rn0 rk0 rfl rfl (Or.inr (by decide)) hm1.symm ?_
    refine s_aload_n dX10_begin_15 rfl rfl ?_
    refine s_iconst dX10_begin_16 (by decide) ?_
    obtain ⟨m2, hm2⟩ : ∃ x : am_M, x = am_st m1 0 (am_up (m1 0) 9 0) := ⟨_, rfl⟩
    have h := h m2 hm2
    refine s_putI dX10_begin_17 flX10_96 rn0 rk0 rfl rfl (Or.inl rfl) hm2.symm ?_
    refine s_aload_n dX10_begin_20 rfl rfl ?_
    refine s_getI (x := (μ 0 7)) dX10_begin_21 flX10_82 rn0 rk0 rfl (by subst hm2; subst hm1; rfl) ?_
    exact s_ireturn dX10_begin_24 (Or.inl rfl) ⟨⟨rfl, rfl⟩, _, rfl, h⟩
  · have h := h.2 cc
    refine s_bipush dX10_begin_7 (by decide) ?_
    exact s_ireturn dX10_begin_9 (Or.inl rfl) ⟨⟨rfl, rfl⟩, _, rfl, h⟩
theorem ve_X10_begin {μ : am_M} {Q : Int → am_M → Prop} (h : at_I kR 1 mX10_begin 0 [vR 0] [] μ Q) : cl_I kR 1 mX10_begin [vR 0] μ Q := am_intro pmX10_begin (Nat.le_of_ble_eq_true rfl) rfl h
theorem sp_X10_begin {μ : am_M} : cl_I kR 1 mX10_begin [vR 0] μ (fun z m => (μ 0 11 ≠ 0 ∧ z = -5 ∧ m = μ) ∨ (μ 0 11 = 0 ∧ z = μ 0 7 ∧ fr_ [0] μ m ∧ (∀ j, j ≠ 9 → j ≠ 11 → m 0 j = μ 0 j) ∧ m 0 9 = 0 ∧ m 0 11 = 1)) := by
  refine ve_X10_begin (vc_X10_begin_0 ⟨fun q m1 e1 m2 e2 => Or.inr ⟨q, rfl, ?_, fun j h1 h2 => ?_, ?_, ?_⟩, fun q => Or.inl ⟨q, rfl, rfl⟩⟩)
  · rw [e2, e1]; exact fr_tr (fr_st (by simp)) (fr_st (by simp))
  · rw [e2, st_s, up_n h1, e1, st_s, up_n h2]
  · rw [e2, st_s, up_s]
  · rw [e2, st_s, up_n (by decide), e1, st_s, up_s]
theorem vc_X10_end_0 {μ : am_M} {Q : Int → am_M → Prop} (h : (μ 0 11 ≠ 0 → ∀ m1 : am_M, m1 = am_st μ 0 (am_up (μ 0) 11 0) → (μ 0 9 ≤ 0 → Q (μ 0 9) m1) ∧ (0 < μ 0 9 → ∃ P : am_M → Prop, cl_V kR 2 mX10_steps [vR 0, vR 6] m1 P ∧ (∀ m3 : am_M, P m3 → Q (m3 0 9) m3))) ∧ (μ 0 11 = 0 → Q (-5) μ)) : at_I kR 3 mX10_end 0 [vR 0] [] μ Q := by
  refine s_aload_n dX10_end_0 rfl rfl ?_
  refine s_getI (x := (μ 0 11)) dX10_end_1 flX10_92 rn0 rk0 rfl rfl ?_
  refine s_if_ne dX10_end_4 (tgt := 10) (by decide) (fun cc => ?_) (fun cc => ?_)
  · have h := h.1 cc
    refine s_aload_n dX10_end_10 rfl rfl ?_
    refine s_iconst dX10_end_11 (by decide) ?_
    obtain ⟨m1, hm1⟩ : ∃ x : am_M, x = am_st μ 0 (am_up (μ 0) 11 0) := ⟨_, rfl⟩
    have h := h m1 hm1
    refine s_putI dX10_end_12 flX10_92 rn0 rk0 rfl rfl (Or.inr (by decide)) hm1.symm ?_
    refine s_aload_n dX10_end_15 rfl rfl ?_
    refine s_getI (x := (μ 0 9)) dX10_end_16 flX10_96 rn0 rk0 rfl (by subst hm1; rfl) ?_
    refine s_if_le dX10_end_19 (tgt := 30) (by decide) (fun cc => ?_) (fun cc => ?_)
    · have h := h.1 cc
      refine s_aload_n dX10_end_30 rfl rfl ?_
      refine s_getI (x := (μ 0 9)) dX10_end_31 flX10_96 rn0 rk0 rfl (by subst hm1; rfl) ?_
      exact s_ireturn dX10_end_34 (Or.inl rfl) ⟨⟨rfl, rfl⟩, _, rfl, h⟩
    · have h := h.2 cc
      refine s_aload_n dX10_end_22 rfl rfl ?_
      refine s_aload_n dX10_end_23 rfl rfl ?_
      refine s_getR dX10_end_24 flX10_25 rn0 rk0 rfl rr0_5 ?_
      obtain ⟨P, hcl, h⟩ := h
      refine s_callV (As := [vR 6]) (rest := []) (k := 0) dX10_end_27 lkX10_99 rn0 ⟨by rw [rk0]; rfl, by rw [rk0]; decide⟩ lmX10_steps rfl rfl (Nat.le_of_ble_eq_true rfl) (by decide) (Nat.le_refl 0) (Nat.le_refl 0) (hC := hcl) (fun r n2 S2 m3 hP => ?_)
      obtain ⟨⟨rfl, rfl⟩, rfl, hq⟩ := hP
      have h := h m3 hq
      refine s_aload_n dX10_end_30 rfl rfl ?_
      refine s_getI (x := (m3 0 9)) dX10_end_31 flX10_96 rn0 rk0 rfl rfl ?_
      exact s_ireturn dX10_end_34 (Or.inl rfl) ⟨⟨rfl, rfl⟩, _, rfl, h⟩
  · have h := h.2 cc
    refine s_bipush dX10_end_7 (by decide) ?_
    exact s_ireturn dX10_end_9 (Or.inl rfl) ⟨⟨rfl, rfl⟩, _, rfl, h⟩
theorem ve_X10_end {μ : am_M} {Q : Int → am_M → Prop} (h : at_I kR 3 mX10_end 0 [vR 0] [] μ Q) : cl_I kR 3 mX10_end [vR 0] μ Q := am_intro pmX10_end (Nat.le_of_ble_eq_true rfl) rfl h
theorem sp_X10_end {μ : am_M} (hn : in_ 0 11 (μ 0 7)) : cl_I kR 3 mX10_end [vR 0] μ (fun z m => (μ 0 11 = 0 ∧ z = -5 ∧ m = μ) ∨ (μ 0 11 ≠ 0 ∧ μ 0 9 ≤ 0 ∧ z = μ 0 9 ∧ fr_ [0] μ m ∧ (∀ j, j ≠ 11 → m 0 j = μ 0 j) ∧ m 0 11 = 0) ∨ (μ 0 11 ≠ 0 ∧ 0 < μ 0 9 ∧ z = μ 0 9 ∧ fr_ [0, 4] μ m ∧ (∀ j, j ≠ 7 → j ≠ 11 → m 0 j = μ 0 j) ∧ m 0 11 = 0 ∧ ((μ 0 7 = 10 ∧ m 0 7 = 10 ∧ (∀ i : Nat, i < 4230 → m 4 i = μ 4 (i + 470)) ∧ ∀ i : Nat, i < 470 → m 4 (4230 + i) = μ 6 i) ∨ (μ 0 7 ≠ 10 ∧ m 0 7 = μ 0 7 + 1 ∧ (∀ i : Nat, i < 470 * (μ 0 7).toNat → m 4 i = μ 4 i) ∧ ∀ i : Nat, i < 470 → m 4 (470 * (μ 0 7).toNat + i) = μ 6 i)))) := by
  refine ve_X10_end (vc_X10_end_0 ⟨fun q m1 e1 => ?_, fun q => Or.inl ⟨q, rfl, rfl⟩⟩)
  have f1 : fr_ [0] μ m1 := by rw [e1]; exact fr_st (by simp)
  have a : ∀ j, j ≠ 11 → m1 0 j = μ 0 j := fun j hj => by rw [e1, st_s, up_n hj]
  have a11 : m1 0 11 = 0 := by rw [e1, st_s, up_s]
  refine ⟨fun c => Or.inr (Or.inl ⟨q, c, rfl, f1, a, a11⟩), fun c => ⟨_, sp_X10_steps (b := 6) (rrow (by simp)) (by rw [a 7 (by decide)]; exact hn), fun m3 ⟨h1, h2, h3⟩ => Or.inr (Or.inr ⟨q, c, ?_, fr_tr (fr_up f1 (by simp)) h1, fun j h7 h11 => ?_, ?_, ?_⟩)⟩⟩
  · rw [h2 9 (by decide), a 9 (by decide)]
  · rw [h2 j h7, a j h11]
  · rw [h2 11 (by decide), a11]
  · rw [a 7 (by decide), f1 4 (by decide), f1 6 (by decide)] at h3
    exact h3
theorem vc_X10_undo_0 {μ : am_M} {Q : Int → am_M → Prop} (h : (μ 0 11 = 0 → (μ 0 7 ≠ 0 → ∃ P : am_M → Prop, cl_V kR 1 mX10_pushes [vR 0, vR 5, vI (μ 0 8), vR 1] μ P ∧ (∀ m2 : am_M, P m2 → (am_in (m2 0 8 + 1)) ∧ (∀ m3 : am_M, m3 = am_st m2 0 (am_up (m2 0) 8 (m2 0 8 + 1)) → (am_in (m2 0 7 - 1)) ∧ (∀ m4 : am_M, m4 = am_st m3 0 (am_up (m3 0) 7 (m2 0 7 - 1)) → at_I kR 2 mX10_undo 58 [vR 0, vI 0] [] m4 Q)))) ∧ (μ 0 7 = 0 → Q (-6) μ)) ∧ (μ 0 11 ≠ 0 → Q (-5) μ)) : at_I kR 2 mX10_undo 0 [vR 0, vU] [] μ Q := by
  refine s_aload_n dX10_undo_0 rfl rfl ?_
  refine s_getI (x := (μ 0 11)) dX10_undo_1 flX10_92 rn0 rk0 rfl rfl ?_
  refine s_if_eq dX10_undo_4 (tgt := 10) (by decide) (fun cc => ?_) (fun cc => ?_)
  · have h := h.1 cc
    refine s_aload_n dX10_undo_10 rfl rfl ?_
    refine s_getI (x := (μ 0 7)) dX10_undo_11 flX10_82 rn0 rk0 rfl rfl ?_
    refine s_if_ne dX10_undo_14 (tgt := 20) (by decide) (fun cc => ?_) (fun cc => ?_)
    · have h := h.1 cc
      refine s_aload_n dX10_undo_20 rfl rfl ?_
      refine s_aload_n dX10_undo_21 rfl rfl ?_
      refine s_getR dX10_undo_22 flX10_22 rn0 rk0 rfl rr0_4 ?_
      refine s_aload_n dX10_undo_25 rfl rfl ?_
      refine s_getI (x := (μ 0 8)) dX10_undo_26 flX10_89 rn0 rk0 rfl rfl ?_
      refine s_aload_n dX10_undo_29 rfl rfl ?_
      refine s_getR dX10_undo_30 flX10_9 rn0 rk0 rfl rr0_0 ?_
      obtain ⟨P, hcl, h⟩ := h
      refine s_callV (As := [vR 5, vI (μ 0 8), vR 1]) (rest := []) (k := 0) dX10_undo_33 lkX10_85 rn0 ⟨by rw [rk0]; rfl, by rw [rk0]; decide⟩ lmX10_pushes rfl rfl (Nat.le_of_ble_eq_true rfl) (by decide) (Nat.le_refl 0) (Nat.le_refl 0) (hC := hcl) (fun r n2 S2 m2 hP => ?_)
      obtain ⟨⟨rfl, rfl⟩, rfl, hq⟩ := hP
      have h := h m2 hq
      refine s_aload_n dX10_undo_36 rfl rfl ?_
      refine s_dup dX10_undo_37 ?_
      refine s_getI (x := (m2 0 8)) dX10_undo_38 flX10_89 rn0 rk0 rfl rfl ?_
      refine s_iconst dX10_undo_41 (by decide) ?_
      obtain ⟨c, h⟩ := h
      refine s_iadd dX10_undo_42 (am_w_id c) ?_
      obtain ⟨m3, hm3⟩ : ∃ x : am_M, x = am_st m2 0 (am_up (m2 0) 8 (m2 0 8 + 1)) := ⟨_, rfl⟩
      have h := h m3 hm3
      refine s_putI dX10_undo_43 flX10_89 rn0 rk0 rfl rfl (Or.inl rfl) hm3.symm ?_
      refine s_aload_n dX10_undo_46 rfl rfl ?_
      refine s_dup dX10_undo_47 ?_
      refine s_getI (x := (m2 0 7)) dX10_undo_48 flX10_82 rn0 rk0 rfl (by subst hm3; rfl) ?_
      refine s_iconst dX10_undo_51 (by decide) ?_
      obtain ⟨c, h⟩ := h
      refine s_isub dX10_undo_52 (am_w_id c) ?_
      obtain ⟨m4, hm4⟩ : ∃ x : am_M, x = am_st m3 0 (am_up (m3 0) 7 (m2 0 7 - 1)) := ⟨_, rfl⟩
      have h := h m4 hm4
      refine s_putI dX10_undo_53 flX10_82 rn0 rk0 rfl rfl (Or.inl rfl) hm4.symm ?_
      refine s_iconst dX10_undo_56 (by decide) ?_
      refine s_istore_n dX10_undo_57 rfl (by decide) (L' := [vR 0, vI 0]) rfl ?_
      exact h
    · have h := h.2 cc
      refine s_bipush dX10_undo_17 (by decide) ?_
      exact s_ireturn dX10_undo_19 (Or.inl rfl) ⟨⟨rfl, rfl⟩, _, rfl, h⟩
  · have h := h.2 cc
    refine s_bipush dX10_undo_7 (by decide) ?_
    exact s_ireturn dX10_undo_9 (Or.inl rfl) ⟨⟨rfl, rfl⟩, _, rfl, h⟩
theorem vc_X10_undo_58 {x1 : Int} {μ : am_M} {Q : Int → am_M → Prop} (h : (470 ≤ x1 → Q (μ 0 7) μ) ∧ (x1 < 470 → (am_in ((μ 0 7) * 470)) ∧ ((am_in (((μ 0 7) * 470) + x1)) ∧ ((0 ≤ ((μ 0 7) * 470) + x1) ∧ (((μ 0 7) * 470) + x1 < 4700) ∧ ((0 ≤ x1) ∧ (x1 < 470) ∧ (∀ m1 : am_M, m1 = am_st μ 1 (am_up (μ 1) (x1).toNat (μ 4 ((((μ 0 7) * 470) + x1).toNat))) → (am_in (x1 + 1)) ∧ (at_I kR 2 mX10_undo 58 [vR 0, vI (x1 + 1)] [] m1 Q))))))) : at_I kR 2 mX10_undo 58 [vR 0, vI x1] [] μ Q := by
  refine s_iload_n dX10_undo_58 rfl rfl ?_
  refine s_sipush dX10_undo_59 (by decide) ?_
  refine s_icmp_ge dX10_undo_62 (tgt := 92) (by decide) (fun cc => ?_) (fun cc => ?_)
  · have h := h.1 cc
    refine s_aload_n dX10_undo_92 rfl rfl ?_
    refine s_getI (x := (μ 0 7)) dX10_undo_93 flX10_82 rn0 rk0 rfl rfl ?_
    exact s_ireturn dX10_undo_96 (Or.inl rfl) ⟨⟨rfl, rfl⟩, _, rfl, h⟩
  · have h := h.2 cc
    refine s_aload_n dX10_undo_65 rfl rfl ?_
    refine s_getR dX10_undo_66 flX10_9 rn0 rk0 rfl rr0_0 ?_
    refine s_iload_n dX10_undo_69 rfl rfl ?_
    refine s_aload_n dX10_undo_70 rfl rfl ?_
    refine s_getR dX10_undo_71 flX10_19 rn0 rk0 rfl rr0_3 ?_
    refine s_aload_n dX10_undo_74 rfl rfl ?_
    refine s_getI (x := (μ 0 7)) dX10_undo_75 flX10_82 rn0 rk0 rfl rfl ?_
    refine s_sipush dX10_undo_78 (by decide) ?_
    obtain ⟨c, h⟩ := h
    refine s_imul dX10_undo_81 (am_w_id c) ?_
    refine s_iload_n dX10_undo_82 rfl rfl ?_
    obtain ⟨c, h⟩ := h
    refine s_iadd dX10_undo_83 (am_w_id c) ?_
    obtain ⟨c, c2, h⟩ := h
    refine s_iald (x := (μ 4 ((((μ 0 7) * 470) + x1).toNat))) dX10_undo_84 rn4 rk4 rl4 c c2 rfl ?_
    obtain ⟨c, c2, h⟩ := h
    obtain ⟨m1, hm1⟩ : ∃ x : am_M, x = am_st μ 1 (am_up (μ 1) (x1).toNat (μ 4 ((((μ 0 7) * 470) + x1).toNat))) := ⟨_, rfl⟩
    have h := h m1 hm1
    refine s_iast dX10_undo_85 rn1 rk1 rl1 c c2 hm1.symm ?_
    obtain ⟨c, h⟩ := h
    refine s_iinc dX10_undo_86 rfl (am_w_id c) (by decide) (L' := [vR 0, vI (x1 + 1)]) rfl ?_
    refine s_goto dX10_undo_89 (tgt := 58) (by decide) ?_
    exact h
theorem ve_X10_undo {μ : am_M} {Q : Int → am_M → Prop} (h : at_I kR 2 mX10_undo 0 [vR 0, vU] [] μ Q) : cl_I kR 2 mX10_undo [vR 0] μ Q := am_intro pmX10_undo (Nat.le_of_ble_eq_true rfl) rfl h
theorem sp_X10_undo {μ : am_M} (hu : 0 ≤ μ 0 7 ∧ 0 ≤ μ 0 8 ∧ μ 0 7 + μ 0 8 ≤ 10) : cl_I kR 2 mX10_undo [vR 0] μ (fun z m => (μ 0 11 ≠ 0 ∧ z = -5 ∧ m = μ) ∨ (μ 0 11 = 0 ∧ μ 0 7 = 0 ∧ z = -6 ∧ m = μ) ∨ (μ 0 11 = 0 ∧ 0 < μ 0 7 ∧ z = μ 0 7 - 1 ∧ fr_ [0, 1, 5] μ m ∧ (∀ j, j ≠ 7 → j ≠ 8 → m 0 j = μ 0 j) ∧ m 0 7 = μ 0 7 - 1 ∧ m 0 8 = μ 0 8 + 1 ∧ (∀ i : Nat, i < 470 → m 1 i = μ 4 (470 * (μ 0 7 - 1).toNat + i)) ∧ (∀ i : Nat, i < 470 * (μ 0 8).toNat → m 5 i = μ 5 i) ∧ ∀ i : Nat, i < 470 → m 5 (470 * (μ 0 8).toNat + i) = μ 1 i)) := by
  refine ve_X10_undo (vc_X10_undo_0 ⟨fun q => ⟨fun q2 => ⟨_, sp_X10_pushes (rbig (by simp)) (rrow (by simp)) (by (try unfold am_in); (try unfold in_ at *); omega), fun m2 ⟨h1, _, h3⟩ => ?_⟩, fun q2 => Or.inr (Or.inl ⟨q, q2, rfl, rfl⟩)⟩, fun q => Or.inl ⟨q, rfl, rfl⟩⟩)
  have h3' := h3 (by omega)
  have z2 : m2 0 = μ 0 := h1 0 (by decide)
  rw [z2]
  refine ⟨(by (try unfold am_in); (try unfold in_ at *); omega), fun m3 e3 => ⟨(by (try unfold am_in); (try unfold in_ at *); omega), fun m4 e4 => ?_⟩⟩
  have f4 : fr_ [0, 5] μ m4 := by rw [e4, e3]; exact fr_tr (fr_up h1 (by simp)) (fr_tr (fr_st (by simp)) (fr_st (by simp)))
  have a : ∀ j, j ≠ 7 → j ≠ 8 → m4 0 j = μ 0 j := fun j h7 h8 => by rw [e4, st_s, up_n h7, e3, st_s, up_n h8]
  have a7 : m4 0 7 = μ 0 7 - 1 := by rw [e4, st_s, up_s]
  have a8 : m4 0 8 = μ 0 8 + 1 := by rw [e4, st_s, up_n (by decide), e3, st_s, up_s]
  have a5 : m4 5 = m2 5 := by rw [e4, st_n (by decide), e3, st_n (by decide)]
  have : ∀ (j : Nat) (x : Int) (m : am_M), x + j = 470 → 0 ≤ x → fr_ [1] m4 m → (∀ i : Nat, (i : Int) < x → m 1 i = μ 4 (470 * (μ 0 7 - 1).toNat + i)) → at_I kR 2 mX10_undo 58 [vR 0, vI x] [] m (fun z m => (μ 0 11 ≠ 0 ∧ z = -5 ∧ m = μ) ∨ (μ 0 11 = 0 ∧ μ 0 7 = 0 ∧ z = -6 ∧ m = μ) ∨ (μ 0 11 = 0 ∧ 0 < μ 0 7 ∧ z = μ 0 7 - 1 ∧ fr_ [0, 1, 5] μ m ∧ (∀ j, j ≠ 7 → j ≠ 8 → m 0 j = μ 0 j) ∧ m 0 7 = μ 0 7 - 1 ∧ m 0 8 = μ 0 8 + 1 ∧ (∀ i : Nat, i < 470 → m 1 i = μ 4 (470 * (μ 0 7 - 1).toNat + i)) ∧ (∀ i : Nat, i < 470 * (μ 0 8).toNat → m 5 i = μ 5 i) ∧ ∀ i : Nat, i < 470 → m 5 (470 * (μ 0 8).toNat + i) = μ 1 i)) := by
    intro j
    induction j with
    | zero =>
      intro x m hx x0 hf hv
      have e0 : m 0 = m4 0 := hf 0 (by decide)
      have e5 : m 5 = m2 5 := (hf 5 (by decide)).trans a5
      refine vc_X10_undo_58 ⟨fun _ => Or.inr (Or.inr ⟨q, by omega, by rw [e0, a7], fr_tr (fr_up f4 (by simp)) (fr_up hf (by simp)), fun j h7 h8 => by rw [e0, a j h7 h8], by rw [e0, a7], by rw [e0, a8], fun i hi => hv i (by omega), fun i hi => by rw [e5]; exact h3'.1 i hi, fun i hi => by rw [e5]; exact h3'.2 i hi⟩), fun q => by omega⟩
    | succ j ih =>
      intro x m hx x0 hf hv
      have e0 : m 0 7 = μ 0 7 - 1 := by rw [hf 0 (by decide), a7]
      have e4' : m 4 = μ 4 := (hf 4 (by decide)).trans (f4 4 (by decide))
      refine vc_X10_undo_58 ⟨fun q => by omega, fun q => ?_⟩
      rw [e0, e4']
      refine ⟨(by (try unfold am_in); (try unfold in_ at *); omega), (by (try unfold am_in); (try unfold in_ at *); omega), by omega, by omega, x0, q, fun m1 e1 => ⟨(by (try unfold am_in); (try unfold in_ at *); omega), ih (x + 1) m1 (by omega) (by omega) (by rw [e1]; exact fr_tr hf (fr_st (by simp))) (fun i hi => ?_)⟩⟩
      rw [e1, st_s]
      by_cases c : i = x.toNat
      · rw [c, up_s]
        congr 1
        omega
      · rw [up_n c]
        exact hv i (by omega)
  exact this 470 0 m4 (by omega) (by omega) fr_rf (fun i hi => by omega)
theorem vc_X10_redo_0 {μ : am_M} {Q : Int → am_M → Prop} (h : (μ 0 11 = 0 → (μ 0 8 ≠ 0 → ∃ P : am_M → Prop, cl_V kR 2 mX10_steps [vR 0, vR 1] μ P ∧ (∀ m2 : am_M, P m2 → (am_in (m2 0 8 - 1)) ∧ (∀ m3 : am_M, m3 = am_st m2 0 (am_up (m2 0) 8 (m2 0 8 - 1)) → at_I kR 3 mX10_redo 40 [vR 0, vI 0] [] m3 Q))) ∧ (μ 0 8 = 0 → Q (-6) μ)) ∧ (μ 0 11 ≠ 0 → Q (-5) μ)) : at_I kR 3 mX10_redo 0 [vR 0, vU] [] μ Q := by
  refine s_aload_n dX10_redo_0 rfl rfl ?_
  refine s_getI (x := (μ 0 11)) dX10_redo_1 flX10_92 rn0 rk0 rfl rfl ?_
  refine s_if_eq dX10_redo_4 (tgt := 10) (by decide) (fun cc => ?_) (fun cc => ?_)
  · have h := h.1 cc
    refine s_aload_n dX10_redo_10 rfl rfl ?_
    refine s_getI (x := (μ 0 8)) dX10_redo_11 flX10_89 rn0 rk0 rfl rfl ?_
    refine s_if_ne dX10_redo_14 (tgt := 20) (by decide) (fun cc => ?_) (fun cc => ?_)
    · have h := h.1 cc
      refine s_aload_n dX10_redo_20 rfl rfl ?_
      refine s_aload_n dX10_redo_21 rfl rfl ?_
      refine s_getR dX10_redo_22 flX10_9 rn0 rk0 rfl rr0_0 ?_
      obtain ⟨P, hcl, h⟩ := h
      refine s_callV (As := [vR 1]) (rest := []) (k := 0) dX10_redo_25 lkX10_99 rn0 ⟨by rw [rk0]; rfl, by rw [rk0]; decide⟩ lmX10_steps rfl rfl (Nat.le_of_ble_eq_true rfl) (by decide) (Nat.le_refl 0) (Nat.le_refl 0) (hC := hcl) (fun r n2 S2 m2 hP => ?_)
      obtain ⟨⟨rfl, rfl⟩, rfl, hq⟩ := hP
      have h := h m2 hq
      refine s_aload_n dX10_redo_28 rfl rfl ?_
      refine s_dup dX10_redo_29 ?_
      refine s_getI (x := (m2 0 8)) dX10_redo_30 flX10_89 rn0 rk0 rfl rfl ?_
      refine s_iconst dX10_redo_33 (by decide) ?_
      obtain ⟨c, h⟩ := h
      refine s_isub dX10_redo_34 (am_w_id c) ?_
      obtain ⟨m3, hm3⟩ : ∃ x : am_M, x = am_st m2 0 (am_up (m2 0) 8 (m2 0 8 - 1)) := ⟨_, rfl⟩
      have h := h m3 hm3
      refine s_putI dX10_redo_35 flX10_89 rn0 rk0 rfl rfl (Or.inl rfl) hm3.symm ?_
      refine s_iconst dX10_redo_38 (by decide) ?_
      refine s_istore_n dX10_redo_39 rfl (by decide) (L' := [vR 0, vI 0]) rfl ?_
      exact h
    · have h := h.2 cc
      refine s_bipush dX10_redo_17 (by decide) ?_
      exact s_ireturn dX10_redo_19 (Or.inl rfl) ⟨⟨rfl, rfl⟩, _, rfl, h⟩
  · have h := h.2 cc
    refine s_bipush dX10_redo_7 (by decide) ?_
    exact s_ireturn dX10_redo_9 (Or.inl rfl) ⟨⟨rfl, rfl⟩, _, rfl, h⟩
theorem vc_X10_redo_40 {x1 : Int} {μ : am_M} {Q : Int → am_M → Prop} (h : (470 ≤ x1 → Q (μ 0 8) μ) ∧ (x1 < 470 → (am_in ((μ 0 8) * 470)) ∧ ((am_in (((μ 0 8) * 470) + x1)) ∧ ((0 ≤ ((μ 0 8) * 470) + x1) ∧ (((μ 0 8) * 470) + x1 < 4700) ∧ ((0 ≤ x1) ∧ (x1 < 470) ∧ (∀ m1 : am_M, m1 = am_st μ 1 (am_up (μ 1) (x1).toNat (μ 5 ((((μ 0 8) * 470) + x1).toNat))) → (am_in (x1 + 1)) ∧ (at_I kR 3 mX10_redo 40 [vR 0, vI (x1 + 1)] [] m1 Q))))))) : at_I kR 3 mX10_redo 40 [vR 0, vI x1] [] μ Q := by
  refine s_iload_n dX10_redo_40 rfl rfl ?_
  refine s_sipush dX10_redo_41 (by decide) ?_
  refine s_icmp_ge dX10_redo_44 (tgt := 74) (by decide) (fun cc => ?_) (fun cc => ?_)
  · have h := h.1 cc
    refine s_aload_n dX10_redo_74 rfl rfl ?_
    refine s_getI (x := (μ 0 8)) dX10_redo_75 flX10_89 rn0 rk0 rfl rfl ?_
    exact s_ireturn dX10_redo_78 (Or.inl rfl) ⟨⟨rfl, rfl⟩, _, rfl, h⟩
  · have h := h.2 cc
    refine s_aload_n dX10_redo_47 rfl rfl ?_
    refine s_getR dX10_redo_48 flX10_9 rn0 rk0 rfl rr0_0 ?_
    refine s_iload_n dX10_redo_51 rfl rfl ?_
    refine s_aload_n dX10_redo_52 rfl rfl ?_
    refine s_getR dX10_redo_53 flX10_22 rn0 rk0 rfl rr0_4 ?_
    refine s_aload_n dX10_redo_56 rfl rfl ?_
    refine s_getI (x := (μ 0 8)) dX10_redo_57 flX10_89 rn0 rk0 rfl rfl ?_
    refine s_sipush dX10_redo_60 (by decide) ?_
    obtain ⟨c, h⟩ := h
    refine s_imul dX10_redo_63 (am_w_id c) ?_
    refine s_iload_n dX10_redo_64 rfl rfl ?_
    obtain ⟨c, h⟩ := h
    refine s_iadd dX10_redo_65 (am_w_id c) ?_
    obtain ⟨c, c2, h⟩ := h
    refine s_iald (x := (μ 5 ((((μ 0 8) * 470) + x1).toNat))) dX10_redo_66 rn5 rk5 rl5 c c2 rfl ?_
    obtain ⟨c, c2, h⟩ := h
    obtain ⟨m1, hm1⟩ : ∃ x : am_M, x = am_st μ 1 (am_up (μ 1) (x1).toNat (μ 5 ((((μ 0 8) * 470) + x1).toNat))) := ⟨_, rfl⟩
    have h := h m1 hm1
    refine s_iast dX10_redo_67 rn1 rk1 rl1 c c2 hm1.symm ?_
    obtain ⟨c, h⟩ := h
    refine s_iinc dX10_redo_68 rfl (am_w_id c) (by decide) (L' := [vR 0, vI (x1 + 1)]) rfl ?_
    refine s_goto dX10_redo_71 (tgt := 40) (by decide) ?_
    exact h
theorem ve_X10_redo {μ : am_M} {Q : Int → am_M → Prop} (h : at_I kR 3 mX10_redo 0 [vR 0, vU] [] μ Q) : cl_I kR 3 mX10_redo [vR 0] μ Q := am_intro pmX10_redo (Nat.le_of_ble_eq_true rfl) rfl h
theorem sp_X10_redo {μ : am_M} (hu : 0 ≤ μ 0 7 ∧ 0 ≤ μ 0 8 ∧ μ 0 7 + μ 0 8 ≤ 10) : cl_I kR 3 mX10_redo [vR 0] μ (fun z m => (μ 0 11 ≠ 0 ∧ z = -5 ∧ m = μ) ∨ (μ 0 11 = 0 ∧ μ 0 8 = 0 ∧ z = -6 ∧ m = μ) ∨ (μ 0 11 = 0 ∧ 0 < μ 0 8 ∧ z = μ 0 8 - 1 ∧ fr_ [0, 1, 4] μ m ∧ (∀ j, j ≠ 7 → j ≠ 8 → m 0 j = μ 0 j) ∧ m 0 7 = μ 0 7 + 1 ∧ m 0 8 = μ 0 8 - 1 ∧ (∀ i : Nat, i < 470 → m 1 i = μ 5 (470 * (μ 0 8 - 1).toNat + i)) ∧ (∀ i : Nat, i < 470 * (μ 0 7).toNat → m 4 i = μ 4 i) ∧ ∀ i : Nat, i < 470 → m 4 (470 * (μ 0 7).toNat + i) = μ 1 i)) := by
  refine ve_X10_redo (vc_X10_redo_0 ⟨fun q => ⟨fun q2 => ⟨_, sp_X10_steps (b := 1) (rrow (by simp)) (by (try unfold am_in); (try unfold in_ at *); omega), fun m2 ⟨h1, h2, h3⟩ => ?_⟩, fun q2 => Or.inr (Or.inl ⟨q, q2, rfl, rfl⟩)⟩, fun q => Or.inl ⟨q, rfl, rfl⟩⟩)
  rcases h3 with ⟨h3, _⟩ | ⟨_, h7, h3'⟩
  · omega
  have z8 : m2 0 8 = μ 0 8 := h2 8 (by decide)
  rw [z8]
  refine ⟨(by (try unfold am_in); (try unfold in_ at *); omega), fun m4 e4 => ?_⟩
  have f4 : fr_ [0, 4] μ m4 := by rw [e4]; exact fr_tr h1 (fr_st (by simp))
  have a : ∀ j, j ≠ 7 → j ≠ 8 → m4 0 j = μ 0 j := fun j h7 h8 => by rw [e4, st_s, up_n h8, h2 j h7]
  have a7 : m4 0 7 = μ 0 7 + 1 := by rw [e4, st_s, up_n (by decide), h7]
  have a8 : m4 0 8 = μ 0 8 - 1 := by rw [e4, st_s, up_s]
  have a5 : m4 4 = m2 4 := by rw [e4, st_n (by decide)]
  have : ∀ (j : Nat) (x : Int) (m : am_M), x + j = 470 → 0 ≤ x → fr_ [1] m4 m → (∀ i : Nat, (i : Int) < x → m 1 i = μ 5 (470 * (μ 0 8 - 1).toNat + i)) → at_I kR 3 mX10_redo 40 [vR 0, vI x] [] m (fun z m => (μ 0 11 ≠ 0 ∧ z = -5 ∧ m = μ) ∨ (μ 0 11 = 0 ∧ μ 0 8 = 0 ∧ z = -6 ∧ m = μ) ∨ (μ 0 11 = 0 ∧ 0 < μ 0 8 ∧ z = μ 0 8 - 1 ∧ fr_ [0, 1, 4] μ m ∧ (∀ j, j ≠ 7 → j ≠ 8 → m 0 j = μ 0 j) ∧ m 0 7 = μ 0 7 + 1 ∧ m 0 8 = μ 0 8 - 1 ∧ (∀ i : Nat, i < 470 → m 1 i = μ 5 (470 * (μ 0 8 - 1).toNat + i)) ∧ (∀ i : Nat, i < 470 * (μ 0 7).toNat → m 4 i = μ 4 i) ∧ ∀ i : Nat, i < 470 → m 4 (470 * (μ 0 7).toNat + i) = μ 1 i)) := by
    intro j
    induction j with
    | zero =>
      intro x m hx x0 hf hv
      have e0 : m 0 = m4 0 := hf 0 (by decide)
      have e5 : m 4 = m2 4 := (hf 4 (by decide)).trans a5
      refine vc_X10_redo_40 ⟨fun _ => Or.inr (Or.inr ⟨q, by omega, by rw [e0, a8], fr_tr (fr_up f4 (by simp)) (fr_up hf (by simp)), fun j h7 h8 => by rw [e0, a j h7 h8], by rw [e0, a7], by rw [e0, a8], fun i hi => hv i (by omega), fun i hi => by rw [e5]; exact h3'.1 i hi, fun i hi => by rw [e5]; exact h3'.2 i hi⟩), fun q => by omega⟩
    | succ j ih =>
      intro x m hx x0 hf hv
      have e0 : m 0 8 = μ 0 8 - 1 := by rw [hf 0 (by decide), a8]
      have e4' : m 5 = μ 5 := (hf 5 (by decide)).trans (f4 5 (by decide))
      refine vc_X10_redo_40 ⟨fun q => by omega, fun q => ?_⟩
      rw [e0, e4']
      refine ⟨(by (try unfold am_in); (try unfold in_ at *); omega), (by (try unfold am_in); (try unfold in_ at *); omega), by omega, by omega, x0, q, fun m1 e1 => ⟨(by (try unfold am_in); (try unfold in_ at *); omega), ih (x + 1) m1 (by omega) (by omega) (by rw [e1]; exact fr_tr hf (fr_st (by simp))) (fun i hi => ?_)⟩⟩
      rw [e1, st_s]
      by_cases c : i = x.toNat
      · rw [c, up_s]
        congr 1
        omega
      · rw [up_n c]
        exact hv i (by omega)
  exact this 470 0 m4 (by omega) (by omega) fr_rf (fun i hi => by omega)
theorem vc_X10_save_0 {μ : am_M} {Q : Int → am_M → Prop} (h : ∃ P : am_M → Prop, cl_V kR 1 mX10_copies [vR 1, vR 3] μ P ∧ (∀ m2 : am_M, P m2 → ∀ m3 : am_M, m3 = am_st m2 0 (am_up (m2 0) 10 1) → Q (m2 1 25) m3)) : at_I kR 2 mX10_save 0 [vR 0] [] μ Q := by
  refine s_aload_n dX10_save_0 rfl rfl ?_
  refine s_getR dX10_save_1 flX10_9 rn0 rk0 rfl rr0_0 ?_
  refine s_aload_n dX10_save_4 rfl rfl ?_
  refine s_getR dX10_save_5 flX10_16 rn0 rk0 rfl rr0_2 ?_
  obtain ⟨P, hcl, h⟩ := h
  refine s_callS (As := [vR 1, vR 3]) (rest := []) dX10_save_8 lkX10_78 lmX10_copies rfl rfl (Nat.le_of_ble_eq_true rfl) (by decide) (Nat.le_refl 0) (Nat.le_refl 0) (hC := hcl) (fun r n2 S2 m2 hP => ?_)
  obtain ⟨⟨rfl, rfl⟩, rfl, hq⟩ := hP
  have h := h m2 hq
  refine s_aload_n dX10_save_11 rfl rfl ?_
  refine s_iconst dX10_save_12 (by decide) ?_
  obtain ⟨m3, hm3⟩ : ∃ x : am_M, x = am_st m2 0 (am_up (m2 0) 10 1) := ⟨_, rfl⟩
  have h := h m3 hm3
  refine s_putI dX10_save_13 flX10_276 rn0 rk0 rfl rfl (Or.inr (by decide)) hm3.symm ?_
  refine s_aload_n dX10_save_16 rfl rfl ?_
  refine s_getR dX10_save_17 flX10_9 rn0 rk0 rfl rr0_0 ?_
  refine s_bipush dX10_save_20 (by decide) ?_
  refine s_iald (x := (m2 1 25)) dX10_save_22 rn1 rk1 rl1 (by decide) (by decide) (by subst hm3; rfl) ?_
  exact s_ireturn dX10_save_23 (Or.inl rfl) ⟨⟨rfl, rfl⟩, _, rfl, h⟩
theorem ve_X10_save {μ : am_M} {Q : Int → am_M → Prop} (h : at_I kR 2 mX10_save 0 [vR 0] [] μ Q) : cl_I kR 2 mX10_save [vR 0] μ Q := am_intro pmX10_save (Nat.le_of_ble_eq_true rfl) rfl h
theorem sp_X10_save {μ : am_M} : cl_I kR 2 mX10_save [vR 0] μ (fun z m => z = μ 1 25 ∧ fr_ [0, 3] μ m ∧ (∀ j, j ≠ 10 → m 0 j = μ 0 j) ∧ m 0 10 = 1 ∧ ∀ i : Nat, i < 470 → m 3 i = μ 1 i) := by
  refine ve_X10_save (vc_X10_save_0 ⟨_, sp_X10_copies (rrow (by simp)) (rrow (by simp)) (by decide), fun m2 ⟨g1, g2⟩ m3 e3 => ⟨by rw [g1 1 (by decide)], ?_, fun j hj => ?_, ?_, fun i hi => ?_⟩⟩)
  · exact fr_tr (fr_up g1 (by simp)) (by rw [e3]; exact fr_st (by simp))
  · rw [e3, st_s, up_n hj, g1 0 (by decide)]
  · rw [e3, st_s, up_s]
  · rw [e3, st_n (by decide)]
    exact g2 i hi
theorem vc_X10_restore_0 {μ : am_M} {Q : Int → am_M → Prop} (h : (μ 0 11 = 0 → (μ 0 10 ≠ 0 → ∃ P : am_M → Prop, cl_V kR 1 mX10_copies [vR 3, vR 1] μ P ∧ (∀ m2 : am_M, P m2 → ∀ m3 : am_M, m3 = am_st m2 0 (am_up (m2 0) 7 0) → ∀ m4 : am_M, m4 = am_st m3 0 (am_up (m3 0) 8 0) → Q (m2 1 25) m4)) ∧ (μ 0 10 = 0 → Q (-6) μ)) ∧ (μ 0 11 ≠ 0 → Q (-5) μ)) : at_I kR 2 mX10_restore 0 [vR 0] [] μ Q := by
  refine s_aload_n dX10_restore_0 rfl rfl ?_
  refine s_getI (x := (μ 0 11)) dX10_restore_1 flX10_92 rn0 rk0 rfl rfl ?_
  refine s_if_eq dX10_restore_4 (tgt := 10) (by decide) (fun cc => ?_) (fun cc => ?_)
  · have h := h.1 cc
    refine s_aload_n dX10_restore_10 rfl rfl ?_
    refine s_getI (x := (μ 0 10)) dX10_restore_11 flX10_276 rn0 rk0 rfl rfl ?_
    refine s_if_ne dX10_restore_14 (tgt := 20) (by decide) (fun cc => ?_) (fun cc => ?_)
    · have h := h.1 cc
      refine s_aload_n dX10_restore_20 rfl rfl ?_
      refine s_getR dX10_restore_21 flX10_16 rn0 rk0 rfl rr0_2 ?_
      refine s_aload_n dX10_restore_24 rfl rfl ?_
      refine s_getR dX10_restore_25 flX10_9 rn0 rk0 rfl rr0_0 ?_
      obtain ⟨P, hcl, h⟩ := h
      refine s_callS (As := [vR 3, vR 1]) (rest := []) dX10_restore_28 lkX10_78 lmX10_copies rfl rfl (Nat.le_of_ble_eq_true rfl) (by decide) (Nat.le_refl 0) (Nat.le_refl 0) (hC := hcl) (fun r n2 S2 m2 hP => ?_)
      obtain ⟨⟨rfl, rfl⟩, rfl, hq⟩ := hP
      have h := h m2 hq
      refine s_aload_n dX10_restore_31 rfl rfl ?_
      refine s_iconst dX10_restore_32 (by decide) ?_
      obtain ⟨m3, hm3⟩ : ∃ x : am_M, x = am_st m2 0 (am_up (m2 0) 7 0) := ⟨_, rfl⟩
      have h := h m3 hm3
      refine s_putI dX10_restore_33 flX10_82 rn0 rk0 rfl rfl (Or.inl rfl) hm3.symm ?_
      refine s_aload_n dX10_restore_36 rfl rfl ?_
      refine s_iconst dX10_restore_37 (by decide) ?_
      obtain ⟨m4, hm4⟩ : ∃ x : am_M, x = am_st m3 0 (am_up (m3 0) 8 0) := ⟨_, rfl⟩
      have h := h m4 hm4
      refine s_putI dX10_restore_38 flX10_89 rn0 rk0 rfl rfl (Or.inl rfl) hm4.symm ?_
      refine s_aload_n dX10_restore_41 rfl rfl ?_
      refine s_getR dX10_restore_42 flX10_9 rn0 rk0 rfl rr0_0 ?_
      refine s_bipush dX10_restore_45 (by decide) ?_
      refine s_iald (x := (m2 1 25)) dX10_restore_47 rn1 rk1 rl1 (by decide) (by decide) (by subst hm4; subst hm3; rfl) ?_
      exact s_ireturn dX10_restore_48 (Or.inl rfl) ⟨⟨rfl, rfl⟩, _, rfl, h⟩
    · have h := h.2 cc
      refine s_bipush dX10_restore_17 (by decide) ?_
      exact s_ireturn dX10_restore_19 (Or.inl rfl) ⟨⟨rfl, rfl⟩, _, rfl, h⟩
  · have h := h.2 cc
    refine s_bipush dX10_restore_7 (by decide) ?_
    exact s_ireturn dX10_restore_9 (Or.inl rfl) ⟨⟨rfl, rfl⟩, _, rfl, h⟩
theorem ve_X10_restore {μ : am_M} {Q : Int → am_M → Prop} (h : at_I kR 2 mX10_restore 0 [vR 0] [] μ Q) : cl_I kR 2 mX10_restore [vR 0] μ Q := am_intro pmX10_restore (Nat.le_of_ble_eq_true rfl) rfl h
theorem sp_X10_restore {μ : am_M} : cl_I kR 2 mX10_restore [vR 0] μ (fun z m => (μ 0 11 ≠ 0 ∧ z = -5 ∧ m = μ) ∨ (μ 0 11 = 0 ∧ μ 0 10 = 0 ∧ z = -6 ∧ m = μ) ∨ (μ 0 11 = 0 ∧ μ 0 10 ≠ 0 ∧ z = μ 3 25 ∧ fr_ [0, 1] μ m ∧ (∀ j, j ≠ 7 → j ≠ 8 → m 0 j = μ 0 j) ∧ m 0 7 = 0 ∧ m 0 8 = 0 ∧ ∀ i : Nat, i < 470 → m 1 i = μ 3 i)) := by
  refine ve_X10_restore (vc_X10_restore_0 ⟨fun q => ⟨fun q2 => ⟨_, sp_X10_copies (rrow (by simp)) (rrow (by simp)) (by decide), fun m2 ⟨g1, g2⟩ m3 e3 m4 e4 => Or.inr (Or.inr ⟨q, q2, g2 25 (by decide), ?_, fun j h7 h8 => ?_, ?_, ?_, fun i hi => ?_⟩)⟩, fun q2 => Or.inr (Or.inl ⟨q, q2, rfl, rfl⟩)⟩, fun q => Or.inl ⟨q, rfl, rfl⟩⟩)
  · rw [e4, e3]; exact fr_tr (fr_up g1 (by simp)) (fr_tr (fr_st (by simp)) (fr_st (by simp)))
  · rw [e4, st_s, up_n h8, e3, st_s, up_n h7, g1 0 (by decide)]
  · rw [e4, st_s, up_n (by decide), e3, st_s, up_s]
  · rw [e4, st_s, up_s]
  · rw [e4, st_n (by decide), e3, st_n (by decide)]
    exact g2 i hi
theorem vc_X10_count_0 {x1 : Int} {μ : am_M} {Q : Int → am_M → Prop} (h : (0 ≤ x1 ∧ x1 ≤ 12 → (x1 ≤ 7 → ((x1 ≠ 0 → (x1 ≠ 1 → (x1 ≠ 2 → (x1 = 3 → (in_ 0 33 (μ 1 25)) ∧ (in_ 0 13 (μ 1 438))))))) ∧ (∀ v1 : Int, v1 = (if x1 = 0 then μ 1 0 else (if x1 = 1 then μ 1 25 else (if x1 = 2 then μ 1 438 else (if x1 = 3 then 2 * μ 1 25 + μ 1 438 else (if x1 = 4 then μ 0 7 else (if x1 = 5 then μ 0 8 else (if x1 = 6 then (if μ 0 11 = 0 then 0 else 1) else μ 0 23))))))) → Q v1 μ)) ∧ (7 < x1 → (am_in (465 + x1)) ∧ ((am_in ((465 + x1) - 8)) ∧ ((0 ≤ (465 + x1) - 8) ∧ ((465 + x1) - 8 < 470) ∧ (Q (μ 1 (((465 + x1) - 8).toNat)) μ))))) ∧ (¬ (0 ≤ x1 ∧ x1 ≤ 12) → Q (-2) μ)) : at_I kR 2 mX10_count 0 [vR 0, vI x1] [] μ Q := by
  refine s_iload_n dX10_count_0 rfl rfl ?_
  refine s_iconst dX10_count_1 (by decide) ?_
  refine s_bipush dX10_count_2 (by decide) ?_
  refine s_callS (As := [vI x1, vI 0, vI 12]) (rest := []) dX10_count_4 lkX10_103 lmX10_isIn rfl rfl (Nat.le_of_ble_eq_true rfl) (by decide) (Nat.le_refl 0) (Nat.le_refl 0) (hC := sp_X10_isIn (Q := fun z m => bI (0 ≤ x1 ∧ x1 ≤ 12) = z ∧ μ = m)  ⟨rfl, rfl⟩) (fun r n2 S2 m2 hP => ?_)
  obtain ⟨⟨rfl, rfl⟩, z, rfl, rfl, rfl⟩ := hP
  refine s_if_ne dX10_count_7 (tgt := 13) (by decide) (fun cc => ?_) (fun cc => ?_)
  · have h := h.1 (bI_ne cc)
    refine s_iload_n dX10_count_13 rfl rfl ?_
    refine s_bipush dX10_count_14 (by decide) ?_
    refine s_icmp_le dX10_count_16 (tgt := 33) (by decide) (fun cc => ?_) (fun cc => ?_)
    · have h := h.1 cc
      refine s_iload_n dX10_count_33 rfl rfl ?_
      obtain ⟨hsd, h⟩ := h
      have kj2 : ∀ (v1 : Int), (Q v1 μ) → at_I kR 2 mX10_count 138 [vU, vU] [vI v1] μ Q := by
        intro v1 h
        exact s_ireturn dX10_count_138 (Or.inl rfl) ⟨⟨rfl, rfl⟩, _, rfl, h⟩
      refine s_if_ne dX10_count_34 (tgt := 46) (by decide) (fun cc => ?_) (fun cc => ?_)
      · have hp0 := cc
        have hsd := hsd hp0
        refine s_iload_n dX10_count_46 rfl rfl ?_
        refine s_iconst dX10_count_47 (by decide) ?_
        refine s_icmp_ne dX10_count_48 (tgt := 61) (by decide) (fun cc => ?_) (fun cc => ?_)
        · have hp1 := cc
          have hsd := hsd hp1
          refine s_iload_n dX10_count_61 rfl rfl ?_
          refine s_iconst dX10_count_62 (by decide) ?_
          refine s_icmp_ne dX10_count_63 (tgt := 77) (by decide) (fun cc => ?_) (fun cc => ?_)
          · have hp2 := cc
            have hsd := hsd hp2
            refine s_iload_n dX10_count_77 rfl rfl ?_
            refine s_iconst dX10_count_78 (by decide) ?_
            refine s_icmp_ne dX10_count_79 (tgt := 89) (by decide) (fun cc => ?_) (fun cc => ?_)
            · have hp3 := cc
              refine s_iload_n dX10_count_89 rfl rfl ?_
              refine s_iconst dX10_count_90 (by decide) ?_
              refine s_icmp_ne dX10_count_91 (tgt := 101) (by decide) (fun cc => ?_) (fun cc => ?_)
              · have hp4 := cc
                refine s_iload_n dX10_count_101 rfl rfl ?_
                refine s_iconst dX10_count_102 (by decide) ?_
                refine s_icmp_ne dX10_count_103 (tgt := 113) (by decide) (fun cc => ?_) (fun cc => ?_)
                · have hp5 := cc
                  refine s_iload_n dX10_count_113 rfl rfl ?_
                  refine s_bipush dX10_count_114 (by decide) ?_
                  refine s_icmp_ne dX10_count_116 (tgt := 134) (by decide) (fun cc => ?_) (fun cc => ?_)
                  · have hp6 := cc
                    refine s_aload_n dX10_count_134 rfl rfl ?_
                    refine s_getI (x := (μ 0 23)) dX10_count_135 flX10_243 rn0 rk0 rfl rfl ?_
                    exact am_lesS (kj2 (μ 0 23) (h (μ 0 23) (by rw [if_neg hp0, if_neg hp1, if_neg hp2, if_neg hp3, if_neg hp4, if_neg hp5, if_neg hp6]))) ⟨Or.inl rfl, Or.inl rfl, trivial⟩
                  · have hp6 := cc
                    refine s_aload_n dX10_count_119 rfl rfl ?_
                    refine s_getI (x := (μ 0 11)) dX10_count_120 flX10_92 rn0 rk0 rfl rfl ?_
                    refine s_if_eq dX10_count_123 (tgt := 130) (by decide) (fun cc => ?_) (fun cc => ?_)
                    · have hp7 := cc
                      refine s_iconst dX10_count_130 (by decide) ?_
                      refine s_goto dX10_count_131 (tgt := 138) (by decide) ?_
                      exact am_lesS (kj2 0 (h 0 (by rw [if_neg hp0, if_neg hp1, if_neg hp2, if_neg hp3, if_neg hp4, if_neg hp5, if_pos hp6, if_pos hp7]))) ⟨Or.inl rfl, Or.inl rfl, trivial⟩
                    · have hp7 := cc
                      refine s_iconst dX10_count_126 (by decide) ?_
                      refine s_goto dX10_count_127 (tgt := 138) (by decide) ?_
                      exact am_lesS (kj2 1 (h 1 (by rw [if_neg hp0, if_neg hp1, if_neg hp2, if_neg hp3, if_neg hp4, if_neg hp5, if_pos hp6, if_neg hp7]))) ⟨Or.inl rfl, Or.inl rfl, trivial⟩
                · have hp5 := cc
                  refine s_aload_n dX10_count_106 rfl rfl ?_
                  refine s_getI (x := (μ 0 8)) dX10_count_107 flX10_89 rn0 rk0 rfl rfl ?_
                  refine s_goto dX10_count_110 (tgt := 138) (by decide) ?_
                  exact am_lesS (kj2 (μ 0 8) (h (μ 0 8) (by rw [if_neg hp0, if_neg hp1, if_neg hp2, if_neg hp3, if_neg hp4, if_pos hp5]))) ⟨Or.inl rfl, Or.inl rfl, trivial⟩
              · have hp4 := cc
                refine s_aload_n dX10_count_94 rfl rfl ?_
                refine s_getI (x := (μ 0 7)) dX10_count_95 flX10_82 rn0 rk0 rfl rfl ?_
                refine s_goto dX10_count_98 (tgt := 138) (by decide) ?_
                exact am_lesS (kj2 (μ 0 7) (h (μ 0 7) (by rw [if_neg hp0, if_neg hp1, if_neg hp2, if_neg hp3, if_pos hp4]))) ⟨Or.inl rfl, Or.inl rfl, trivial⟩
            · have hp3 := cc
              have hsd := hsd hp3
              refine s_aload_n dX10_count_82 rfl rfl ?_
              obtain ⟨p0, p1⟩ := hsd
              refine s_callV (As := []) (rest := []) (k := 0) dX10_count_83 lkX10_237 rn0 ⟨by rw [rk0]; rfl, by rw [rk0]; decide⟩ lmX10_events rfl rfl (Nat.le_of_ble_eq_true rfl) (by decide) (Nat.le_refl 0) (Nat.le_refl 0) (hC := sp_X10_events (Q := fun z m => 2 * μ 1 25 + μ 1 438 = z ∧ μ = m) p0 p1 ⟨rfl, rfl⟩) (fun r n2 S2 m2 hP => ?_)
              obtain ⟨⟨rfl, rfl⟩, z, rfl, rfl, rfl⟩ := hP
              refine s_goto dX10_count_86 (tgt := 138) (by decide) ?_
              exact am_lesS (kj2 (2 * μ 1 25 + μ 1 438) (h (2 * μ 1 25 + μ 1 438) (by rw [if_neg hp0, if_neg hp1, if_neg hp2, if_pos hp3]))) ⟨Or.inl rfl, Or.inl rfl, trivial⟩
          · have hp2 := cc
            refine s_aload_n dX10_count_66 rfl rfl ?_
            refine s_getR dX10_count_67 flX10_9 rn0 rk0 rfl rr0_0 ?_
            refine s_sipush dX10_count_70 (by decide) ?_
            refine s_iald (x := (μ 1 438)) dX10_count_73 rn1 rk1 rl1 (by decide) (by decide) rfl ?_
            refine s_goto dX10_count_74 (tgt := 138) (by decide) ?_
            exact am_lesS (kj2 (μ 1 438) (h (μ 1 438) (by rw [if_neg hp0, if_neg hp1, if_pos hp2]))) ⟨Or.inl rfl, Or.inl rfl, trivial⟩
        · have hp1 := cc
          refine s_aload_n dX10_count_51 rfl rfl ?_
          refine s_getR dX10_count_52 flX10_9 rn0 rk0 rfl rr0_0 ?_
          refine s_bipush dX10_count_55 (by decide) ?_
          refine s_iald (x := (μ 1 25)) dX10_count_57 rn1 rk1 rl1 (by decide) (by decide) rfl ?_
          refine s_goto dX10_count_58 (tgt := 138) (by decide) ?_
          exact am_lesS (kj2 (μ 1 25) (h (μ 1 25) (by rw [if_neg hp0, if_pos hp1]))) ⟨Or.inl rfl, Or.inl rfl, trivial⟩
      · have hp0 := cc
        refine s_aload_n dX10_count_37 rfl rfl ?_
        refine s_getR dX10_count_38 flX10_9 rn0 rk0 rfl rr0_0 ?_
        refine s_iconst dX10_count_41 (by decide) ?_
        refine s_iald (x := (μ 1 0)) dX10_count_42 rn1 rk1 rl1 (by decide) (by decide) rfl ?_
        refine s_goto dX10_count_43 (tgt := 138) (by decide) ?_
        exact am_lesS (kj2 (μ 1 0) (h (μ 1 0) (by rw [if_pos hp0]))) ⟨Or.inl rfl, Or.inl rfl, trivial⟩
    · have h := h.2 cc
      refine s_aload_n dX10_count_19 rfl rfl ?_
      refine s_getR dX10_count_20 flX10_9 rn0 rk0 rfl rr0_0 ?_
      refine s_sipush dX10_count_23 (by decide) ?_
      refine s_iload_n dX10_count_26 rfl rfl ?_
      obtain ⟨c, h⟩ := h
      refine s_iadd dX10_count_27 (am_w_id c) ?_
      refine s_bipush dX10_count_28 (by decide) ?_
      obtain ⟨c, h⟩ := h
      refine s_isub dX10_count_30 (am_w_id c) ?_
      obtain ⟨c, c2, h⟩ := h
      refine s_iald (x := (μ 1 (((465 + x1) - 8).toNat))) dX10_count_31 rn1 rk1 rl1 c c2 rfl ?_
      exact s_ireturn dX10_count_32 (Or.inl rfl) ⟨⟨rfl, rfl⟩, _, rfl, h⟩
  · have h := h.2 (bI_eq cc)
    refine s_bipush dX10_count_10 (by decide) ?_
    exact s_ireturn dX10_count_12 (Or.inl rfl) ⟨⟨rfl, rfl⟩, _, rfl, h⟩
theorem ve_X10_count {x1 : Int} {μ : am_M} {Q : Int → am_M → Prop} (h : at_I kR 2 mX10_count 0 [vR 0, vI x1] [] μ Q) : cl_I kR 2 mX10_count [vR 0, vI x1] μ Q := am_intro pmX10_count (Nat.le_of_ble_eq_true rfl) rfl h
theorem sp_X10_count {μ : am_M} {w : Int} (hV : vR_ μ) : cl_I kR 2 mX10_count [vR 0, vI w] μ (fun z m => z = q_cnt (pR μ) (μ 0 7) (μ 0 8) (μ 0 11) (μ 0 23) w ∧ m = μ) := by
  have h25 := vR_n hV
  have h13 := (vR_h hV).2.2
  have hh : ((pH (pR μ)).length : Int) = μ 1 438 := (hzL hV).1.symm
  have e0 : q_cnt (pR μ) (μ 0 7) (μ 0 8) (μ 0 11) (μ 0 23) w = if w = 0 then μ 1 0 else if w = 1 then μ 1 25 else if w = 2 then ((pH (pR μ)).length : Int) else if w = 3 then 2 * μ 1 25 + ((pH (pR μ)).length : Int) else if w = 4 then μ 0 7 else if w = 5 then μ 0 8 else if w = 6 then (if μ 0 11 = 0 then 0 else 1) else if w = 7 then μ 0 23 else if w < 8 then -2 else if w < 13 then μ 1 (465 + (w - 8).toNat) else -2 := rfl
  rw [hh] at e0
  rw [e0]
  unfold in_ at h25
  refine ve_X10_count (vc_X10_count_0 ⟨fun q => ⟨fun q7 => ⟨fun _ _ _ _ => ⟨(by (try unfold am_in); (try unfold in_ at *); omega), h13⟩, fun v e => ⟨?_, rfl⟩⟩, fun q7 => ⟨(by (try unfold am_in); (try unfold in_ at *); omega), (by (try unfold am_in); (try unfold in_ at *); omega), by omega, by omega, ?_, rfl⟩⟩, fun q => ⟨?_, rfl⟩⟩)
  · rw [e]
    have : w = 0 ∨ w = 1 ∨ w = 2 ∨ w = 3 ∨ w = 4 ∨ w = 5 ∨ w = 6 ∨ w = 7 := by omega
    rcases this with rfl | rfl | rfl | rfl | rfl | rfl | rfl | rfl <;> simp
  · have : w = 8 ∨ w = 9 ∨ w = 10 ∨ w = 11 ∨ w = 12 := by omega
    rcases this with rfl | rfl | rfl | rfl | rfl <;> rfl
  · by_cases c : w < 0
    · (repeat' split) <;> omega
    · (repeat' split) <;> omega

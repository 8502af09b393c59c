/-! the editor's texts, groups, undo, snapshot, counts -/
theorem vc_X9_append_0 {x1 : Int} {μ : am_M} {Q : Int → am_M → Prop} (h : (x1 < 32 → Q (-2) μ) ∧ (32 ≤ x1 → (x1 ≤ 126 → ∃ P : Int → am_M → Prop, cl_I kC 1 mX5_add [vR 151, vI x1] μ P ∧ (∀ (z1 : Int) (m2 : am_M), P z1 m2 → Q z1 m2)) ∧ (126 < x1 → Q (-2) μ))) : at_I kC 3 mX9_append 0 [vR 0, vI x1] [] μ Q := by
  refine s_iload_n dX9_append_0 rfl rfl ?_
  refine s_bipush dX9_append_1 (by decide) ?_
  refine s_icmp_lt dX9_append_3 (tgt := 12) (by decide) (fun cc => ?_) (fun cc => ?_)
  · have h := h.1 cc
    refine s_bipush dX9_append_12 (by decide) ?_
    exact s_ireturn dX9_append_14 (Or.inl rfl) ⟨⟨rfl, rfl⟩, _, rfl, h⟩
  · have h := h.2 cc
    refine s_iload_n dX9_append_6 rfl rfl ?_
    refine s_bipush dX9_append_7 (by decide) ?_
    refine s_icmp_le dX9_append_9 (tgt := 15) (by decide) (fun cc => ?_) (fun cc => ?_)
    · have h := h.1 cc
      refine s_aload_n dX9_append_15 rfl rfl ?_
      refine s_getR dX9_append_16 flX9_57 kn0 kk0 rfl kr0_7 ?_
      refine s_iload_n dX9_append_19 rfl rfl ?_
      obtain ⟨P, hcl, h⟩ := h
      refine s_callV (As := [vI x1]) (rest := []) (k := 151) dX9_append_20 lkX9_320 kn151 ⟨by rw [kk151]; rfl, by rw [kk151]; decide⟩ lmX5_add rfl rfl (Nat.le_of_ble_eq_true rfl) (by decide) (Nat.le_refl 0) (Nat.le_refl 0) (hC := hcl) (fun r n2 S2 m2 hP => ?_)
      obtain ⟨⟨rfl, rfl⟩, z1, rfl, hq⟩ := hP
      have h := h z1 m2 hq
      exact s_ireturn dX9_append_23 (Or.inl rfl) ⟨⟨rfl, rfl⟩, _, rfl, h⟩
    · have h := h.2 cc
      refine s_bipush dX9_append_12 (by decide) ?_
      exact s_ireturn dX9_append_14 (Or.inl rfl) ⟨⟨rfl, rfl⟩, _, rfl, h⟩
theorem ve_X9_append {x1 : Int} {μ : am_M} {Q : Int → am_M → Prop} (h : at_I kC 3 mX9_append 0 [vR 0, vI x1] [] μ Q) : cl_I kC 3 mX9_append [vR 0, vI x1] μ Q := am_intro pmX9_append (Nat.le_of_ble_eq_true rfl) rfl h
theorem sp_X9_append {K : Int} {μ : am_M} {c : Int} (hI : CI K μ) : cl_I kC 3 mX9_append [vR 0, vI c] μ (fun z m => ((c < 32 ∨ 126 < c) ∧ z = -2 ∧ m = μ) ∨ ((32 ≤ c ∧ c ≤ 126) ∧ 60 ≤ μ 151 4 ∧ z = -3 ∧ m = μ) ∨ ((32 ≤ c ∧ c ≤ 126) ∧ μ 151 4 < 60 ∧ z = μ 151 4 + 1 ∧ fr_ [151, 152] μ m ∧ m 151 = am_up (μ 151) 4 (μ 151 4 + 1) ∧ m 152 = am_up (μ 152) (μ 151 4).toNat c)) := by
  have h61 : in_ 0 61 (μ 151 4) := hI.2.2.2.2.2.2.2.2.1
  refine ve_X9_append (vc_X9_append_0 ⟨fun q => Or.inl ⟨Or.inl q, rfl, rfl⟩, fun q0 => ⟨fun q1 => ⟨_, sp_X5_add h61, fun z m h => ?_⟩, fun q => Or.inl ⟨Or.inr q, rfl, rfl⟩⟩⟩)
  rcases h with ⟨a, b, c⟩ | ⟨a, b, c⟩
  · exact Or.inr (Or.inl ⟨⟨q0, q1⟩, a, b, c⟩)
  · exact Or.inr (Or.inr ⟨⟨q0, q1⟩, a, b, c⟩)
theorem vc_X9_refused_0 {x1 : Int} {μ : am_M} {Q : Int → am_M → Prop} (h : (x1 < 0 → Q (-2) μ) ∧ (0 ≤ x1 → (x1 ≤ 1 → (μ 0 10 ≠ 0 → ∀ v1 : Int, v1 = (if x1 = 0 then μ 0 10 else μ 0 11) → Q v1 μ) ∧ (μ 0 10 = 0 → Q (-6) μ)) ∧ (1 < x1 → Q (-2) μ))) : at_I kC 1 mX9_refused 0 [vR 0, vI x1] [] μ Q := by
  refine s_iload_n dX9_refused_0 rfl rfl ?_
  refine s_if_lt dX9_refused_1 (tgt := 9) (by decide) (fun cc => ?_) (fun cc => ?_)
  · have h := h.1 cc
    refine s_bipush dX9_refused_9 (by decide) ?_
    exact s_ireturn dX9_refused_11 (Or.inl rfl) ⟨⟨rfl, rfl⟩, _, rfl, h⟩
  · have h := h.2 cc
    refine s_iload_n dX9_refused_4 rfl rfl ?_
    refine s_iconst dX9_refused_5 (by decide) ?_
    refine s_icmp_le dX9_refused_6 (tgt := 12) (by decide) (fun cc => ?_) (fun cc => ?_)
    · have h := h.1 cc
      refine s_aload_n dX9_refused_12 rfl rfl ?_
      refine s_getI (x := (μ 0 10)) dX9_refused_13 flX9_342 kn0 kk0 rfl rfl ?_
      refine s_if_ne dX9_refused_16 (tgt := 22) (by decide) (fun cc => ?_) (fun cc => ?_)
      · have h := h.1 cc
        refine s_iload_n dX9_refused_22 rfl rfl ?_
        have kj2 : ∀ (v1 : Int), (Q v1 μ) → at_I kC 1 mX9_refused 37 [vU, vU] [vI v1] μ Q := by
          intro v1 h
          exact s_ireturn dX9_refused_37 (Or.inl rfl) ⟨⟨rfl, rfl⟩, _, rfl, h⟩
        refine s_if_ne dX9_refused_23 (tgt := 33) (by decide) (fun cc => ?_) (fun cc => ?_)
        · have hp0 := cc
          refine s_aload_n dX9_refused_33 rfl rfl ?_
          refine s_getI (x := (μ 0 11)) dX9_refused_34 flX9_345 kn0 kk0 rfl rfl ?_
          exact am_lesS (kj2 (μ 0 11) (h (μ 0 11) (by rw [if_neg hp0]))) ⟨Or.inl rfl, Or.inl rfl, trivial⟩
        · have hp0 := cc
          refine s_aload_n dX9_refused_26 rfl rfl ?_
          refine s_getI (x := (μ 0 10)) dX9_refused_27 flX9_342 kn0 kk0 rfl rfl ?_
          refine s_goto dX9_refused_30 (tgt := 37) (by decide) ?_
          exact am_lesS (kj2 (μ 0 10) (h (μ 0 10) (by rw [if_pos hp0]))) ⟨Or.inl rfl, Or.inl rfl, trivial⟩
      · have h := h.2 cc
        refine s_bipush dX9_refused_19 (by decide) ?_
        exact s_ireturn dX9_refused_21 (Or.inl rfl) ⟨⟨rfl, rfl⟩, _, rfl, h⟩
    · have h := h.2 cc
      refine s_bipush dX9_refused_9 (by decide) ?_
      exact s_ireturn dX9_refused_11 (Or.inl rfl) ⟨⟨rfl, rfl⟩, _, rfl, h⟩
theorem ve_X9_refused {x1 : Int} {μ : am_M} {Q : Int → am_M → Prop} (h : at_I kC 1 mX9_refused 0 [vR 0, vI x1] [] μ Q) : cl_I kC 1 mX9_refused [vR 0, vI x1] μ Q := am_intro pmX9_refused (Nat.le_of_ble_eq_true rfl) rfl h
theorem sp_X9_refused {μ : am_M} {w : Int} : cl_I kC 1 mX9_refused [vR 0, vI w] μ (fun z m => z = (if w < 0 then -2 else if 1 < w then -2 else if μ 0 10 = 0 then -6 else if w = 0 then μ 0 10 else μ 0 11) ∧ m = μ) := by
  refine ve_X9_refused (vc_X9_refused_0 ⟨fun q => ⟨(if_pos q).symm, rfl⟩, fun q0 => ⟨fun q1 => ⟨fun n v e => ⟨?_, rfl⟩, fun n => ⟨?_, rfl⟩⟩, fun q => ⟨?_, rfl⟩⟩⟩)
  · rw [if_neg (by omega), if_neg (by omega), if_neg n, e]
  · rw [if_neg (by omega), if_neg (by omega), if_pos n]
  · rw [if_neg (by omega), if_pos q]
theorem vc_X9_begin_0 {μ : am_M} {Q : Int → am_M → Prop} (h : (μ 28 5 = 0 → ∀ m1 : am_M, m1 = am_st μ 28 (am_up (μ 28) 5 1) → ∀ m2 : am_M, m2 = am_st m1 28 (am_up (m1 28) 4 0) → Q (μ 28 2) m2) ∧ (μ 28 5 ≠ 0 → Q (-5) μ)) : at_I kC 1 mX9_begin 0 [vR 0] [] μ Q := by
  refine s_aload_n dX9_begin_0 rfl rfl ?_
  refine s_getR dX9_begin_1 flX9_25 kn0 kk0 rfl kr0_3 ?_
  refine s_getI (x := (μ 28 5)) dX9_begin_4 flX9_361 kn28 kk28 rfl rfl ?_
  refine s_if_eq dX9_begin_7 (tgt := 13) (by decide) (fun cc => ?_) (fun cc => ?_)
  · have h := h.1 cc
    refine s_aload_n dX9_begin_13 rfl rfl ?_
    refine s_getR dX9_begin_14 flX9_25 kn0 kk0 rfl kr0_3 ?_
    refine s_iconst dX9_begin_17 (by decide) ?_
    obtain ⟨m1, hm1⟩ : ∃ x : am_M, x = am_st μ 28 (am_up (μ 28) 5 1) := ⟨_, rfl⟩
    have h := h m1 hm1
    refine s_putI dX9_begin_18 flX9_361 kn28 kk28 rfl rfl (Or.inr (by decide)) hm1.symm ?_
    refine s_aload_n dX9_begin_21 rfl rfl ?_
    refine s_getR dX9_begin_22 flX9_25 kn0 kk0 rfl kr0_3 ?_
    refine s_iconst dX9_begin_25 (by decide) ?_
    obtain ⟨m2, hm2⟩ : ∃ x : am_M, x = am_st m1 28 (am_up (m1 28) 4 0) := ⟨_, rfl⟩
    have h := h m2 hm2
    refine s_putI dX9_begin_26 flX9_364 kn28 kk28 rfl rfl (Or.inl rfl) hm2.symm ?_
    refine s_aload_n dX9_begin_29 rfl rfl ?_
    refine s_getR dX9_begin_30 flX9_25 kn0 kk0 rfl kr0_3 ?_
    refine s_getI (x := (μ 28 2)) dX9_begin_33 flX9_367 kn28 kk28 rfl (by subst hm2; subst hm1; rfl) ?_
    exact s_ireturn dX9_begin_36 (Or.inl rfl) ⟨⟨rfl, rfl⟩, _, rfl, h⟩
  · have h := h.2 cc
    refine s_bipush dX9_begin_10 (by decide) ?_
    exact s_ireturn dX9_begin_12 (Or.inl rfl) ⟨⟨rfl, rfl⟩, _, rfl, h⟩
theorem ve_X9_begin {μ : am_M} {Q : Int → am_M → Prop} (h : at_I kC 1 mX9_begin 0 [vR 0] [] μ Q) : cl_I kC 1 mX9_begin [vR 0] μ Q := am_intro pmX9_begin (Nat.le_of_ble_eq_true rfl) rfl h
theorem sp_X9_begin {μ : am_M} : cl_I kC 1 mX9_begin [vR 0] μ (fun z m => (μ 28 5 ≠ 0 ∧ z = -5 ∧ m = μ) ∨ (μ 28 5 = 0 ∧ z = μ 28 2 ∧ fr_ [28] μ m ∧ m 28 1 = μ 28 1 ∧ m 28 2 = μ 28 2 ∧ m 28 3 = μ 28 3 ∧ m 28 4 = 0 ∧ m 28 5 = 1)) := by
  refine ve_X9_begin (vc_X9_begin_0 ⟨fun q m1 e1 m2 e2 => Or.inr ⟨q, rfl, ?_, ?_, ?_, ?_, ?_, ?_⟩, fun q => Or.inl ⟨q, rfl, rfl⟩⟩)
  · rw [e2, e1]; exact fr_tr (fr_st (by simp)) (fr_st (by simp))
  · rw [e2, st_s, up_n (by decide), e1, st_s, up_n (by decide)]
  · rw [e2, st_s, up_n (by decide), e1, st_s, up_n (by decide)]
  · rw [e2, st_s, up_n (by decide), e1, st_s, up_n (by decide)]
  · rw [e2, st_s, up_s]
  · rw [e2, st_s, up_n (by decide), e1, st_s, up_s]
theorem vc_X9_end_0 {μ : am_M} {Q : Int → am_M → Prop} (h : (μ 28 5 ≠ 0 → ∀ m1 : am_M, m1 = am_st μ 28 (am_up (μ 28) 5 0) → (μ 28 4 ≤ 0 → Q (μ 28 4) m1) ∧ (0 < μ 28 4 → ∃ P : am_M → Prop, cl_V kC 3 mX2_keep [vR 28, vR 1] m1 P ∧ (∀ m3 : am_M, P m3 → Q (m3 28 4) m3))) ∧ (μ 28 5 = 0 → Q (-5) μ)) : at_I kC 4 mX9_end 0 [vR 0] [] μ Q := by
  refine s_aload_n dX9_end_0 rfl rfl ?_
  refine s_getR dX9_end_1 flX9_25 kn0 kk0 rfl kr0_3 ?_
  refine s_getI (x := (μ 28 5)) dX9_end_4 flX9_361 kn28 kk28 rfl rfl ?_
  refine s_if_ne dX9_end_7 (tgt := 13) (by decide) (fun cc => ?_) (fun cc => ?_)
  · have h := h.1 cc
    refine s_aload_n dX9_end_13 rfl rfl ?_
    refine s_getR dX9_end_14 flX9_25 kn0 kk0 rfl kr0_3 ?_
    refine s_iconst dX9_end_17 (by decide) ?_
    obtain ⟨m1, hm1⟩ : ∃ x : am_M, x = am_st μ 28 (am_up (μ 28) 5 0) := ⟨_, rfl⟩
    have h := h m1 hm1
    refine s_putI dX9_end_18 flX9_361 kn28 kk28 rfl rfl (Or.inr (by decide)) hm1.symm ?_
    refine s_aload_n dX9_end_21 rfl rfl ?_
    refine s_getR dX9_end_22 flX9_25 kn0 kk0 rfl kr0_3 ?_
    refine s_getI (x := (μ 28 4)) dX9_end_25 flX9_364 kn28 kk28 rfl (by subst hm1; rfl) ?_
    refine s_if_le dX9_end_28 (tgt := 42) (by decide) (fun cc => ?_) (fun cc => ?_)
    · have h := h.1 cc
      refine s_aload_n dX9_end_42 rfl rfl ?_
      refine s_getR dX9_end_43 flX9_25 kn0 kk0 rfl kr0_3 ?_
      refine s_getI (x := (μ 28 4)) dX9_end_46 flX9_364 kn28 kk28 rfl (by subst hm1; rfl) ?_
      exact s_ireturn dX9_end_49 (Or.inl rfl) ⟨⟨rfl, rfl⟩, _, rfl, h⟩
    · have h := h.2 cc
      refine s_aload_n dX9_end_31 rfl rfl ?_
      refine s_getR dX9_end_32 flX9_25 kn0 kk0 rfl kr0_3 ?_
      refine s_aload_n dX9_end_35 rfl rfl ?_
      refine s_getR dX9_end_36 flX9_12 kn0 kk0 rfl kr0_0 ?_
      obtain ⟨P, hcl, h⟩ := h
      refine s_callV (As := [vR 1]) (rest := []) (k := 28) dX9_end_39 lkX9_370 kn28 ⟨by rw [kk28]; rfl, by rw [kk28]; decide⟩ lmX2_keep rfl rfl (Nat.le_of_ble_eq_true rfl) (by decide) (Nat.le_refl 0) (Nat.le_refl 0) (hC := hcl) (fun r n2 S2 m3 hP => ?_)
      obtain ⟨⟨rfl, rfl⟩, rfl, hq⟩ := hP
      have h := h m3 hq
      refine s_aload_n dX9_end_42 rfl rfl ?_
      refine s_getR dX9_end_43 flX9_25 kn0 kk0 rfl kr0_3 ?_
      refine s_getI (x := (m3 28 4)) dX9_end_46 flX9_364 kn28 kk28 rfl rfl ?_
      exact s_ireturn dX9_end_49 (Or.inl rfl) ⟨⟨rfl, rfl⟩, _, rfl, h⟩
  · have h := h.2 cc
    refine s_bipush dX9_end_10 (by decide) ?_
    exact s_ireturn dX9_end_12 (Or.inl rfl) ⟨⟨rfl, rfl⟩, _, rfl, h⟩
theorem ve_X9_end {μ : am_M} {Q : Int → am_M → Prop} (h : at_I kC 4 mX9_end 0 [vR 0] [] μ Q) : cl_I kC 4 mX9_end [vR 0] μ Q := am_intro pmX9_end (Nat.le_of_ble_eq_true rfl) rfl h
theorem sp_X9_end {K : Int} {μ : am_M} (hI : CI K μ) : cl_I kC 4 mX9_end [vR 0] μ (fun z m => (μ 28 5 = 0 ∧ z = -5 ∧ m = μ) ∨ (μ 28 5 ≠ 0 ∧ μ 28 4 = 0 ∧ z = 0 ∧ fr_ [28] μ m ∧ m 28 1 = μ 28 1 ∧ m 28 2 = μ 28 2 ∧ m 28 3 = μ 28 3 ∧ m 28 5 = 0 ∧ m 28 4 = μ 28 4) ∨ (μ 28 5 ≠ 0 ∧ 0 < μ 28 4 ∧ z = μ 28 4 ∧ ∃ o u, ((μ 28 2 = 10 ∧ o = (μ 28 1 + 1) % 11 ∧ u = 10) ∨ (μ 28 2 ≠ 10 ∧ o = μ 28 1 ∧ u = μ 28 2 + 1)) ∧ fr_ (28 :: pjC (rg_ o u)) μ m ∧ m 28 1 = o ∧ m 28 2 = u ∧ m 28 3 = μ 28 3 ∧ m 28 4 = μ 28 4 ∧ m 28 5 = 0 ∧ pq_ μ 1 m (rg_ o u))) := by
  obtain ⟨-, i1, i2, i3, -⟩ := hI
  unfold in_ at i1 i3
  refine ve_X9_end (vc_X9_end_0 ⟨fun q m1 e1 => ?_, fun q => Or.inl ⟨q, rfl, rfl⟩⟩)
  have f1 : fr_ [28] μ m1 := by rw [e1]; exact fr_st (by simp)
  have a1 : m1 28 1 = μ 28 1 := by rw [e1, st_s, up_n (by decide)]
  have a2 : m1 28 2 = μ 28 2 := by rw [e1, st_s, up_n (by decide)]
  have a3 : m1 28 3 = μ 28 3 := by rw [e1, st_s, up_n (by decide)]
  have a4 : m1 28 4 = μ 28 4 := by rw [e1, st_s, up_n (by decide)]
  have a5 : m1 28 5 = 0 := by rw [e1, st_s, up_s]
  refine ⟨fun c => Or.inr (Or.inl ⟨q, by omega, by omega, f1, a1, a2, a3, a5, a4⟩), fun c => ⟨_, sp_X2_keep (by rw [a1]; ((try unfold am_in); (try unfold in_ at *); omega)) (by rw [a2]; ((try unfold am_in); (try unfold in_ at *); omega)), fun m3 h => ?_⟩⟩
  rw [a1, a2, a3] at h
  obtain ⟨o, u, g1, ⟨g2, g3, g4, g5, g6, g7⟩, g8⟩ := h
  refine Or.inr (Or.inr ⟨q, c, by rw [g6, a4], o, u, g1, fr_tr (fr_up f1 (by simp)) g2, g3, g4, g5, by rw [g6, a4], by rw [g7, a5], pq_tr (pq_fr f1 (by simp)) g8⟩)
theorem vc_X9_undo_0 {μ : am_M} {Q : Int → am_M → Prop} (h : (μ 28 5 = 0 → (μ 28 2 ≠ 0 → ∃ P : am_M → Prop, cl_V kC 3 mX2_goBack [vR 28, vR 1] μ P ∧ (∀ m2 : am_M, P m2 → ∀ m3 : am_M, m3 = am_st m2 129 (am_up (m2 129) 5 1) → Q (m2 28 2) m3)) ∧ (μ 28 2 = 0 → Q (-6) μ)) ∧ (μ 28 5 ≠ 0 → Q (-5) μ)) : at_I kC 4 mX9_undo 0 [vR 0] [] μ Q := by
  refine s_aload_n dX9_undo_0 rfl rfl ?_
  refine s_getR dX9_undo_1 flX9_25 kn0 kk0 rfl kr0_3 ?_
  refine s_getI (x := (μ 28 5)) dX9_undo_4 flX9_361 kn28 kk28 rfl rfl ?_
  refine s_if_eq dX9_undo_7 (tgt := 13) (by decide) (fun cc => ?_) (fun cc => ?_)
  · have h := h.1 cc
    refine s_aload_n dX9_undo_13 rfl rfl ?_
    refine s_getR dX9_undo_14 flX9_25 kn0 kk0 rfl kr0_3 ?_
    refine s_getI (x := (μ 28 2)) dX9_undo_17 flX9_367 kn28 kk28 rfl rfl ?_
    refine s_if_ne dX9_undo_20 (tgt := 26) (by decide) (fun cc => ?_) (fun cc => ?_)
    · have h := h.1 cc
      refine s_aload_n dX9_undo_26 rfl rfl ?_
      refine s_getR dX9_undo_27 flX9_25 kn0 kk0 rfl kr0_3 ?_
      refine s_aload_n dX9_undo_30 rfl rfl ?_
      refine s_getR dX9_undo_31 flX9_12 kn0 kk0 rfl kr0_0 ?_
      obtain ⟨P, hcl, h⟩ := h
      refine s_callV (As := [vR 1]) (rest := []) (k := 28) dX9_undo_34 lkX9_373 kn28 ⟨by rw [kk28]; rfl, by rw [kk28]; decide⟩ lmX2_goBack rfl rfl (Nat.le_of_ble_eq_true rfl) (by decide) (Nat.le_refl 0) (Nat.le_refl 0) (hC := hcl) (fun r n2 S2 m2 hP => ?_)
      obtain ⟨⟨rfl, rfl⟩, rfl, hq⟩ := hP
      have h := h m2 hq
      refine s_aload_n dX9_undo_37 rfl rfl ?_
      refine s_getR dX9_undo_38 flX9_34 kn0 kk0 rfl kr0_4 ?_
      refine s_iconst dX9_undo_41 (by decide) ?_
      obtain ⟨m3, hm3⟩ : ∃ x : am_M, x = am_st m2 129 (am_up (m2 129) 5 1) := ⟨_, rfl⟩
      have h := h m3 hm3
      refine s_putI dX9_undo_42 flX9_304 kn129 kk129 rfl rfl (Or.inr (by decide)) hm3.symm ?_
      refine s_aload_n dX9_undo_45 rfl rfl ?_
      refine s_getR dX9_undo_46 flX9_25 kn0 kk0 rfl kr0_3 ?_
      refine s_getI (x := (m2 28 2)) dX9_undo_49 flX9_367 kn28 kk28 rfl (by subst hm3; rfl) ?_
      exact s_ireturn dX9_undo_52 (Or.inl rfl) ⟨⟨rfl, rfl⟩, _, rfl, h⟩
    · have h := h.2 cc
      refine s_bipush dX9_undo_23 (by decide) ?_
      exact s_ireturn dX9_undo_25 (Or.inl rfl) ⟨⟨rfl, rfl⟩, _, rfl, h⟩
  · have h := h.2 cc
    refine s_bipush dX9_undo_10 (by decide) ?_
    exact s_ireturn dX9_undo_12 (Or.inl rfl) ⟨⟨rfl, rfl⟩, _, rfl, h⟩
theorem ve_X9_undo {μ : am_M} {Q : Int → am_M → Prop} (h : at_I kC 4 mX9_undo 0 [vR 0] [] μ Q) : cl_I kC 4 mX9_undo [vR 0] μ Q := am_intro pmX9_undo (Nat.le_of_ble_eq_true rfl) rfl h
theorem sp_X9_undo {K : Int} {μ : am_M} (hI : CI K μ) : cl_I kC 4 mX9_undo [vR 0] μ (fun z m => (μ 28 5 ≠ 0 ∧ z = -5 ∧ m = μ) ∨ (μ 28 5 = 0 ∧ μ 28 2 = 0 ∧ z = -6 ∧ m = μ) ∨ (μ 28 5 = 0 ∧ 0 < μ 28 2 ∧ z = μ 28 2 - 1 ∧ fr_ (28 :: 129 :: pjC 1) μ m ∧ m 28 1 = μ 28 1 ∧ m 28 2 = μ 28 2 - 1 ∧ m 28 3 = μ 28 3 + 1 ∧ m 28 4 = μ 28 4 ∧ m 28 5 = μ 28 5 ∧ m 129 5 = 1 ∧ pq_ μ (rg_ (μ 28 1) (μ 28 2 - 1)) m 1)) := by
  obtain ⟨-, i1, i2, i3, -⟩ := hI
  unfold in_ at i1 i3
  refine ve_X9_undo (vc_X9_undo_0 ⟨fun q => ⟨fun q2 => ⟨_, sp_X2_goBack i1 (by ((try unfold am_in); (try unfold in_ at *); omega)) (by ((try unfold am_in); (try unfold in_ at *); omega)), fun m2 ⟨⟨g1, g2, g3, g4, g5, g6⟩, g7⟩ m3 e3 => Or.inr (Or.inr ⟨q, by omega, g3, ?_, ?_, ?_, ?_, ?_, ?_, ?_, ?_⟩)⟩, fun q2 => Or.inr (Or.inl ⟨q, q2, rfl, rfl⟩)⟩, fun q => Or.inl ⟨q, rfl, rfl⟩⟩)
  · refine fr_tr (fr_up g1 (by decide)) (by rw [e3]; exact fr_st (by decide))
  · rw [e3, st_n (by decide), g2]
  · rw [e3, st_n (by decide), g3]
  · rw [e3, st_n (by decide), g4]
  · rw [e3, st_n (by decide), g5]
  · rw [e3, st_n (by decide), g6]
  · rw [e3, st_s, up_s]
  · exact pq_tr g7 (pq_fr (ks := [129]) (by rw [e3]; exact fr_st (by simp)) (by decide))
theorem vc_X9_redo_0 {μ : am_M} {Q : Int → am_M → Prop} (h : (μ 28 5 = 0 → (μ 28 3 ≠ 0 → ∃ P : am_M → Prop, cl_V kC 3 mX2_goOn [vR 28, vR 1] μ P ∧ (∀ m2 : am_M, P m2 → ∀ m3 : am_M, m3 = am_st m2 129 (am_up (m2 129) 5 1) → Q (m2 28 3) m3)) ∧ (μ 28 3 = 0 → Q (-6) μ)) ∧ (μ 28 5 ≠ 0 → Q (-5) μ)) : at_I kC 4 mX9_redo 0 [vR 0] [] μ Q := by
  refine s_aload_n dX9_redo_0 rfl rfl ?_
  refine s_getR dX9_redo_1 flX9_25 kn0 kk0 rfl kr0_3 ?_
  refine s_getI (x := (μ 28 5)) dX9_redo_4 flX9_361 kn28 kk28 rfl rfl ?_
  refine s_if_eq dX9_redo_7 (tgt := 13) (by decide) (fun cc => ?_) (fun cc => ?_)
  · have h := h.1 cc
    refine s_aload_n dX9_redo_13 rfl rfl ?_
    refine s_getR dX9_redo_14 flX9_25 kn0 kk0 rfl kr0_3 ?_
    refine s_getI (x := (μ 28 3)) dX9_redo_17 flX9_376 kn28 kk28 rfl rfl ?_
    refine s_if_ne dX9_redo_20 (tgt := 26) (by decide) (fun cc => ?_) (fun cc => ?_)
    · have h := h.1 cc
      refine s_aload_n dX9_redo_26 rfl rfl ?_
      refine s_getR dX9_redo_27 flX9_25 kn0 kk0 rfl kr0_3 ?_
      refine s_aload_n dX9_redo_30 rfl rfl ?_
      refine s_getR dX9_redo_31 flX9_12 kn0 kk0 rfl kr0_0 ?_
      obtain ⟨P, hcl, h⟩ := h
      refine s_callV (As := [vR 1]) (rest := []) (k := 28) dX9_redo_34 lkX9_379 kn28 ⟨by rw [kk28]; rfl, by rw [kk28]; decide⟩ lmX2_goOn rfl rfl (Nat.le_of_ble_eq_true rfl) (by decide) (Nat.le_refl 0) (Nat.le_refl 0) (hC := hcl) (fun r n2 S2 m2 hP => ?_)
      obtain ⟨⟨rfl, rfl⟩, rfl, hq⟩ := hP
      have h := h m2 hq
      refine s_aload_n dX9_redo_37 rfl rfl ?_
      refine s_getR dX9_redo_38 flX9_34 kn0 kk0 rfl kr0_4 ?_
      refine s_iconst dX9_redo_41 (by decide) ?_
      obtain ⟨m3, hm3⟩ : ∃ x : am_M, x = am_st m2 129 (am_up (m2 129) 5 1) := ⟨_, rfl⟩
      have h := h m3 hm3
      refine s_putI dX9_redo_42 flX9_304 kn129 kk129 rfl rfl (Or.inr (by decide)) hm3.symm ?_
      refine s_aload_n dX9_redo_45 rfl rfl ?_
      refine s_getR dX9_redo_46 flX9_25 kn0 kk0 rfl kr0_3 ?_
      refine s_getI (x := (m2 28 3)) dX9_redo_49 flX9_376 kn28 kk28 rfl (by subst hm3; rfl) ?_
      exact s_ireturn dX9_redo_52 (Or.inl rfl) ⟨⟨rfl, rfl⟩, _, rfl, h⟩
    · have h := h.2 cc
      refine s_bipush dX9_redo_23 (by decide) ?_
      exact s_ireturn dX9_redo_25 (Or.inl rfl) ⟨⟨rfl, rfl⟩, _, rfl, h⟩
  · have h := h.2 cc
    refine s_bipush dX9_redo_10 (by decide) ?_
    exact s_ireturn dX9_redo_12 (Or.inl rfl) ⟨⟨rfl, rfl⟩, _, rfl, h⟩
theorem ve_X9_redo {μ : am_M} {Q : Int → am_M → Prop} (h : at_I kC 4 mX9_redo 0 [vR 0] [] μ Q) : cl_I kC 4 mX9_redo [vR 0] μ Q := am_intro pmX9_redo (Nat.le_of_ble_eq_true rfl) rfl h
theorem sp_X9_redo {K : Int} {μ : am_M} (hI : CI K μ) : cl_I kC 4 mX9_redo [vR 0] μ (fun z m => (μ 28 5 ≠ 0 ∧ z = -5 ∧ m = μ) ∨ (μ 28 5 = 0 ∧ μ 28 3 = 0 ∧ z = -6 ∧ m = μ) ∨ (μ 28 5 = 0 ∧ 0 < μ 28 3 ∧ z = μ 28 3 - 1 ∧ fr_ (28 :: 129 :: pjC 1) μ m ∧ m 28 1 = μ 28 1 ∧ m 28 2 = μ 28 2 + 1 ∧ m 28 3 = μ 28 3 - 1 ∧ m 28 4 = μ 28 4 ∧ m 28 5 = μ 28 5 ∧ m 129 5 = 1 ∧ pq_ μ (rg_ (μ 28 1) (μ 28 2 + 1)) m 1)) := by
  obtain ⟨-, i1, i2, i3, -⟩ := hI
  unfold in_ at i1 i3
  refine ve_X9_redo (vc_X9_redo_0 ⟨fun q => ⟨fun q2 => ⟨_, sp_X2_goOn i1 (by ((try unfold am_in); (try unfold in_ at *); omega)) (by ((try unfold am_in); (try unfold in_ at *); omega)), fun m2 ⟨⟨g1, g2, g3, g4, g5, g6⟩, g7⟩ m3 e3 => Or.inr (Or.inr ⟨q, by omega, g4, ?_, ?_, ?_, ?_, ?_, ?_, ?_, ?_⟩)⟩, fun q2 => Or.inr (Or.inl ⟨q, q2, rfl, rfl⟩)⟩, fun q => Or.inl ⟨q, rfl, rfl⟩⟩)
  · refine fr_tr (fr_up g1 (by decide)) (by rw [e3]; exact fr_st (by decide))
  · rw [e3, st_n (by decide), g2]
  · rw [e3, st_n (by decide), g3]
  · rw [e3, st_n (by decide), g4]
  · rw [e3, st_n (by decide), g5]
  · rw [e3, st_n (by decide), g6]
  · rw [e3, st_s, up_s]
  · exact pq_tr g7 (pq_fr (ks := [129]) (by rw [e3]; exact fr_st (by simp)) (by decide))
theorem vc_X9_save_0 {μ : am_M} {Q : Int → am_M → Prop} (h : ∃ P : am_M → Prop, cl_V kC 1 mX4_copy [vR 1, vR 19] μ P ∧ (∀ m2 : am_M, P m2 → ∀ m3 : am_M, m3 = am_st m2 0 (am_up (m2 0) 9 1) → Q (m2 5 1) m3)) : at_I kC 2 mX9_save 0 [vR 0] [] μ Q := by
  refine s_aload_n dX9_save_0 rfl rfl ?_
  refine s_getR dX9_save_1 flX9_12 kn0 kk0 rfl kr0_0 ?_
  refine s_aload_n dX9_save_4 rfl rfl ?_
  refine s_getR dX9_save_5 flX9_19 kn0 kk0 rfl kr0_2 ?_
  obtain ⟨P, hcl, h⟩ := h
  refine s_callS (As := [vR 1, vR 19]) (rest := []) dX9_save_8 lkX9_300 lmX4_copy rfl rfl (Nat.le_of_ble_eq_true rfl) (by decide) (Nat.le_refl 0) (Nat.le_refl 0) (hC := hcl) (fun r n2 S2 m2 hP => ?_)
  obtain ⟨⟨rfl, rfl⟩, rfl, hq⟩ := hP
  have h := h m2 hq
  refine s_aload_n dX9_save_11 rfl rfl ?_
  refine s_iconst dX9_save_12 (by decide) ?_
  obtain ⟨m3, hm3⟩ : ∃ x : am_M, x = am_st m2 0 (am_up (m2 0) 9 1) := ⟨_, rfl⟩
  have h := h m3 hm3
  refine s_putI dX9_save_13 flX9_382 kn0 kk0 rfl rfl (Or.inr (by decide)) hm3.symm ?_
  refine s_aload_n dX9_save_16 rfl rfl ?_
  refine s_getR dX9_save_17 flX9_12 kn0 kk0 rfl kr0_0 ?_
  refine s_getR dX9_save_20 flX9_80 kn1 kk1 rfl kr1_3 ?_
  refine s_getI (x := (m2 5 1)) dX9_save_23 flX9_385 kn5 kk5 rfl (by subst hm3; rfl) ?_
  exact s_ireturn dX9_save_26 (Or.inl rfl) ⟨⟨rfl, rfl⟩, _, rfl, h⟩
theorem ve_X9_save {μ : am_M} {Q : Int → am_M → Prop} (h : at_I kC 2 mX9_save 0 [vR 0] [] μ Q) : cl_I kC 2 mX9_save [vR 0] μ Q := am_intro pmX9_save (Nat.le_of_ble_eq_true rfl) rfl h
theorem sp_X9_save {μ : am_M} : cl_I kC 2 mX9_save [vR 0] μ (fun z m => z = μ 5 1 ∧ fr_ (0 :: pjC 19) μ m ∧ m 0 = am_up (μ 0) 9 1 ∧ pq_ μ 1 m 19) := by
  refine ve_X9_save (vc_X9_save_0 ⟨_, sp_X4_copy (by decide) (by decide) (by decide), fun m2 ⟨g1, g2⟩ m3 e3 => ⟨by rw [g1 5 (by decide)], ?_, ?_, ?_⟩⟩)
  · exact fr_tr (fr_up g1 (by decide)) (by rw [e3]; exact fr_st (by simp))
  · rw [e3, st_s, g1 0 (by decide)]
  · exact pq_tr g2 (pq_fr (ks := [0]) (by rw [e3]; exact fr_st (by simp)) (by decide))
theorem vc_X9_restore_0 {μ : am_M} {Q : Int → am_M → Prop} (h : (μ 28 5 = 0 → (μ 0 9 ≠ 0 → ∃ P : am_M → Prop, cl_V kC 1 mX4_copy [vR 19, vR 1] μ P ∧ (∀ m2 : am_M, P m2 → ∃ P : am_M → Prop, cl_V kC 3 mX2_startFrom [vR 28, vR 1] m2 P ∧ (∀ m4 : am_M, P m4 → ∀ m5 : am_M, m5 = am_st m4 129 (am_up (m4 129) 5 1) → Q (m4 5 1) m5))) ∧ (μ 0 9 = 0 → Q (-6) μ)) ∧ (μ 28 5 ≠ 0 → Q (-5) μ)) : at_I kC 4 mX9_restore 0 [vR 0] [] μ Q := by
  refine s_aload_n dX9_restore_0 rfl rfl ?_
  refine s_getR dX9_restore_1 flX9_25 kn0 kk0 rfl kr0_3 ?_
  refine s_getI (x := (μ 28 5)) dX9_restore_4 flX9_361 kn28 kk28 rfl rfl ?_
  refine s_if_eq dX9_restore_7 (tgt := 13) (by decide) (fun cc => ?_) (fun cc => ?_)
  · have h := h.1 cc
    refine s_aload_n dX9_restore_13 rfl rfl ?_
    refine s_getI (x := (μ 0 9)) dX9_restore_14 flX9_382 kn0 kk0 rfl rfl ?_
    refine s_if_ne dX9_restore_17 (tgt := 23) (by decide) (fun cc => ?_) (fun cc => ?_)
    · have h := h.1 cc
      refine s_aload_n dX9_restore_23 rfl rfl ?_
      refine s_getR dX9_restore_24 flX9_19 kn0 kk0 rfl kr0_2 ?_
      refine s_aload_n dX9_restore_27 rfl rfl ?_
      refine s_getR dX9_restore_28 flX9_12 kn0 kk0 rfl kr0_0 ?_
      obtain ⟨P, hcl, h⟩ := h
      refine s_callS (As := [vR 19, vR 1]) (rest := []) dX9_restore_31 lkX9_300 lmX4_copy rfl rfl (Nat.le_of_ble_eq_true rfl) (by decide) (Nat.le_refl 0) (Nat.le_refl 0) (hC := hcl) (fun r n2 S2 m2 hP => ?_)
      obtain ⟨⟨rfl, rfl⟩, rfl, hq⟩ := hP
      have h := h m2 hq
      refine s_aload_n dX9_restore_34 rfl rfl ?_
      refine s_getR dX9_restore_35 flX9_25 kn0 kk0 rfl kr0_3 ?_
      refine s_aload_n dX9_restore_38 rfl rfl ?_
      refine s_getR dX9_restore_39 flX9_12 kn0 kk0 rfl kr0_0 ?_
      obtain ⟨P, hcl, h⟩ := h
      refine s_callV (As := [vR 1]) (rest := []) (k := 28) dX9_restore_42 lkX9_386 kn28 ⟨by rw [kk28]; rfl, by rw [kk28]; decide⟩ lmX2_startFrom rfl rfl (Nat.le_of_ble_eq_true rfl) (by decide) (Nat.le_refl 0) (Nat.le_refl 0) (hC := hcl) (fun r n2 S2 m4 hP => ?_)
      obtain ⟨⟨rfl, rfl⟩, rfl, hq⟩ := hP
      have h := h m4 hq
      refine s_aload_n dX9_restore_45 rfl rfl ?_
      refine s_getR dX9_restore_46 flX9_34 kn0 kk0 rfl kr0_4 ?_
      refine s_iconst dX9_restore_49 (by decide) ?_
      obtain ⟨m5, hm5⟩ : ∃ x : am_M, x = am_st m4 129 (am_up (m4 129) 5 1) := ⟨_, rfl⟩
      have h := h m5 hm5
      refine s_putI dX9_restore_50 flX9_304 kn129 kk129 rfl rfl (Or.inr (by decide)) hm5.symm ?_
      refine s_aload_n dX9_restore_53 rfl rfl ?_
      refine s_getR dX9_restore_54 flX9_12 kn0 kk0 rfl kr0_0 ?_
      refine s_getR dX9_restore_57 flX9_80 kn1 kk1 rfl kr1_3 ?_
      refine s_getI (x := (m4 5 1)) dX9_restore_60 flX9_385 kn5 kk5 rfl (by subst hm5; rfl) ?_
      exact s_ireturn dX9_restore_63 (Or.inl rfl) ⟨⟨rfl, rfl⟩, _, rfl, h⟩
    · have h := h.2 cc
      refine s_bipush dX9_restore_20 (by decide) ?_
      exact s_ireturn dX9_restore_22 (Or.inl rfl) ⟨⟨rfl, rfl⟩, _, rfl, h⟩
  · have h := h.2 cc
    refine s_bipush dX9_restore_10 (by decide) ?_
    exact s_ireturn dX9_restore_12 (Or.inl rfl) ⟨⟨rfl, rfl⟩, _, rfl, h⟩
theorem ve_X9_restore {μ : am_M} {Q : Int → am_M → Prop} (h : at_I kC 4 mX9_restore 0 [vR 0] [] μ Q) : cl_I kC 4 mX9_restore [vR 0] μ Q := am_intro pmX9_restore (Nat.le_of_ble_eq_true rfl) rfl h
theorem sp_X9_restore {K : Int} {μ : am_M} (hI : CI K μ) : cl_I kC 4 mX9_restore [vR 0] μ (fun z m => (μ 28 5 ≠ 0 ∧ z = -5 ∧ m = μ) ∨ (μ 28 5 = 0 ∧ μ 0 9 = 0 ∧ z = -6 ∧ m = μ) ∨ (μ 28 5 = 0 ∧ μ 0 9 ≠ 0 ∧ z = μ 23 1 ∧ fr_ (28 :: 129 :: (pjC 1 ++ pjC (rg_ (μ 28 1) 0))) μ m ∧ m 28 1 = μ 28 1 ∧ m 28 2 = 0 ∧ m 28 3 = 0 ∧ m 28 4 = μ 28 4 ∧ m 28 5 = μ 28 5 ∧ m 129 5 = 1 ∧ pq_ μ 19 m 1 ∧ pq_ μ 19 m (rg_ (μ 28 1) 0))) := by
  obtain ⟨-, i1, i2, i3, -⟩ := hI
  unfold in_ at i1 i3
  refine ve_X9_restore (vc_X9_restore_0 ⟨fun q => ⟨fun q2 => ⟨_, sp_X4_copy (by decide) (by decide) (by decide), fun m2 ⟨g1, g2⟩ => ?_⟩, fun q2 => Or.inr (Or.inl ⟨q, q2, rfl, rfl⟩)⟩, fun q => Or.inl ⟨q, rfl, rfl⟩⟩)
  have e28 : m2 28 = μ 28 := g1 28 (by decide)
  have far : ∀ k ∈ 28 :: pjC (rg_ (μ 28 1) 0), 28 ≤ k ∧ k ≤ 128 := fun k hk => by
    rcases List.mem_cons.mp hk with h | h
    · omega
    · unfold pjC rg_ at h
      simp at h
      omega
  refine ⟨_, sp_X2_startFrom (by rw [e28]; exact i1), fun m4 ⟨⟨k1, k2, k3, k4, k5, k6⟩, k7⟩ m5 e5 => ?_⟩
  rw [e28] at k1 k2 k5 k6 k7
  have n : ∀ k, k < 28 → m4 k = m2 k := fun k hk => k1 k (fun q => by have := far k q; omega)
  refine Or.inr (Or.inr ⟨q, q2, by rw [n 5 (by omega), g2.2.1], ?_, ?_, ?_, ?_, ?_, ?_, ?_, ?_, ?_⟩)
  · refine fr_tr (fr_up g1 (fun k hk => by simp [hk])) (fr_tr (fr_up k1 (fun k hk => ?_)) (by rw [e5]; exact fr_st (by simp)))
    rcases List.mem_cons.mp hk with h | h
    · simp [h]
    · simp [h]
  · rw [e5, st_n (by decide), k2]
  · rw [e5, st_n (by decide), k3]
  · rw [e5, st_n (by decide), k4]
  · rw [e5, st_n (by decide), k5]
  · rw [e5, st_n (by decide), k6]
  · rw [e5, st_s, up_s]
  · refine pq_tr (pq_tr g2 (pq_fr k1 (fun k hk => by have := far k hk; omega))) (pq_fr (ks := [129]) (by rw [e5]; exact fr_st (by simp)) (by decide))
  · refine pq_tr (pq_tr g2 k7) (pq_fr (ks := [129]) (by rw [e5]; exact fr_st (by simp)) (fun k hk => ?_))
    simp at hk
    unfold rg_
    omega
theorem vc_X9_count_0 {x1 : Int} {μ : am_M} {Q : Int → am_M → Prop} (h : (x1 = 0 → Q (μ 1 5) μ) ∧ (x1 = 1 → Q (μ 5 1) μ) ∧ (x1 = 2 → Q (μ 7 2) μ) ∧ (x1 = 3 → (in_ 0 33 (μ 5 1)) ∧ (in_ 0 13 (μ 7 2)) ∧ (Q (2 * μ 5 1 + μ 7 2) μ)) ∧ (x1 = 4 → Q (μ 28 2) μ) ∧ (x1 = 5 → Q (μ 28 3) μ) ∧ (x1 = 6 → ∀ v1 : Int, v1 = (if μ 28 5 = 0 then 0 else 1) → Q v1 μ) ∧ (x1 = 7 → Q (μ 151 4) μ) ∧ (x1 ≠ 0 → x1 ≠ 1 → x1 ≠ 2 → x1 ≠ 3 → x1 ≠ 4 → x1 ≠ 5 → x1 ≠ 6 → x1 ≠ 7 → ((8 ≤ x1 → (x1 < 13 → (am_in (x1 - 8)) ∧ ((0 ≤ x1 - 8) ∧ (x1 - 8 < 5))))) ∧ (∀ v3 : Int, v3 = (if x1 < 8 then (-2) else (if x1 < 13 then μ 2 ((x1 - 8).toNat) else (-2))) → Q v3 μ))) : at_I kC 2 mX9_count 0 [vR 0, vI x1] [] μ Q := by
  refine s_iload_n dX9_count_0 rfl rfl ?_
  by_cases cc : x1 = 0
  · have h := h.1 cc
    refine s_table_in dX9_count_1 (by omega) (by omega) (by rw [cc] <;> rfl) (tgt := 48) (by decide) ?_
    refine s_aload_n dX9_count_48 rfl rfl ?_
    refine s_getR dX9_count_49 flX9_12 kn0 kk0 rfl kr0_0 ?_
    refine s_getI (x := (μ 1 5)) dX9_count_52 flX9_389 kn1 kk1 rfl rfl ?_
    exact s_ireturn dX9_count_55 (Or.inl rfl) ⟨⟨rfl, rfl⟩, _, rfl, h⟩
  have n0 := cc
  have h := h.2
  by_cases cc : x1 = 1
  · have h := h.1 cc
    refine s_table_in dX9_count_1 (by omega) (by omega) (by rw [cc] <;> rfl) (tgt := 56) (by decide) ?_
    refine s_aload_n dX9_count_56 rfl rfl ?_
    refine s_getR dX9_count_57 flX9_12 kn0 kk0 rfl kr0_0 ?_
    refine s_getR dX9_count_60 flX9_80 kn1 kk1 rfl kr1_3 ?_
    refine s_getI (x := (μ 5 1)) dX9_count_63 flX9_385 kn5 kk5 rfl rfl ?_
    exact s_ireturn dX9_count_66 (Or.inl rfl) ⟨⟨rfl, rfl⟩, _, rfl, h⟩
  have n1 := cc
  have h := h.2
  by_cases cc : x1 = 2
  · have h := h.1 cc
    refine s_table_in dX9_count_1 (by omega) (by omega) (by rw [cc] <;> rfl) (tgt := 67) (by decide) ?_
    refine s_aload_n dX9_count_67 rfl rfl ?_
    refine s_getR dX9_count_68 flX9_12 kn0 kk0 rfl kr0_0 ?_
    refine s_getR dX9_count_71 flX9_199 kn1 kk1 rfl kr1_4 ?_
    refine s_getI (x := (μ 7 2)) dX9_count_74 flX9_349 kn7 kk7 rfl rfl ?_
    exact s_ireturn dX9_count_77 (Or.inl rfl) ⟨⟨rfl, rfl⟩, _, rfl, h⟩
  have n2 := cc
  have h := h.2
  by_cases cc : x1 = 3
  · have h := h.1 cc
    refine s_table_in dX9_count_1 (by omega) (by omega) (by rw [cc] <;> rfl) (tgt := 78) (by decide) ?_
    refine s_aload_n dX9_count_78 rfl rfl ?_
    refine s_getR dX9_count_79 flX9_12 kn0 kk0 rfl kr0_0 ?_
    obtain ⟨p0, p1, h⟩ := h
    refine s_callV (As := []) (rest := []) (k := 1) dX9_count_82 lkX9_311 kn1 ⟨by rw [kk1]; rfl, by rw [kk1]; decide⟩ lmX4_events rfl rfl (Nat.le_of_ble_eq_true rfl) (by decide) (Nat.le_refl 0) (Nat.le_refl 0) (hC := sp_X4_events (Q := fun z m => 2 * μ 5 1 + μ 7 2 = z ∧ μ = m) p0 p1 ⟨rfl, rfl⟩) (fun r n2 S2 m2 hP => ?_)
    obtain ⟨⟨rfl, rfl⟩, z, rfl, rfl, rfl⟩ := hP
    exact s_ireturn dX9_count_85 (Or.inl rfl) ⟨⟨rfl, rfl⟩, _, rfl, h⟩
  have n3 := cc
  have h := h.2
  by_cases cc : x1 = 4
  · have h := h.1 cc
    refine s_table_in dX9_count_1 (by omega) (by omega) (by rw [cc] <;> rfl) (tgt := 86) (by decide) ?_
    refine s_aload_n dX9_count_86 rfl rfl ?_
    refine s_getR dX9_count_87 flX9_25 kn0 kk0 rfl kr0_3 ?_
    refine s_getI (x := (μ 28 2)) dX9_count_90 flX9_367 kn28 kk28 rfl rfl ?_
    exact s_ireturn dX9_count_93 (Or.inl rfl) ⟨⟨rfl, rfl⟩, _, rfl, h⟩
  have n4 := cc
  have h := h.2
  by_cases cc : x1 = 5
  · have h := h.1 cc
    refine s_table_in dX9_count_1 (by omega) (by omega) (by rw [cc] <;> rfl) (tgt := 94) (by decide) ?_
    refine s_aload_n dX9_count_94 rfl rfl ?_
    refine s_getR dX9_count_95 flX9_25 kn0 kk0 rfl kr0_3 ?_
    refine s_getI (x := (μ 28 3)) dX9_count_98 flX9_376 kn28 kk28 rfl rfl ?_
    exact s_ireturn dX9_count_101 (Or.inl rfl) ⟨⟨rfl, rfl⟩, _, rfl, h⟩
  have n5 := cc
  have h := h.2
  by_cases cc : x1 = 6
  · have h := h.1 cc
    refine s_table_in dX9_count_1 (by omega) (by omega) (by rw [cc] <;> rfl) (tgt := 102) (by decide) ?_
    refine s_aload_n dX9_count_102 rfl rfl ?_
    refine s_getR dX9_count_103 flX9_25 kn0 kk0 rfl kr0_3 ?_
    refine s_getI (x := (μ 28 5)) dX9_count_106 flX9_361 kn28 kk28 rfl rfl ?_
    have kj2 : ∀ (v1 : Int), (Q v1 μ) → at_I kC 2 mX9_count 117 [vU, vU] [vI v1] μ Q := by
      intro v1 h
      exact s_ireturn dX9_count_117 (Or.inl rfl) ⟨⟨rfl, rfl⟩, _, rfl, h⟩
    refine s_if_eq dX9_count_109 (tgt := 116) (by decide) (fun cc => ?_) (fun cc => ?_)
    · have hp0 := cc
      refine s_iconst dX9_count_116 (by decide) ?_
      exact am_lesS (kj2 0 (h 0 (by rw [if_pos hp0]))) ⟨Or.inl rfl, Or.inl rfl, trivial⟩
    · have hp0 := cc
      refine s_iconst dX9_count_112 (by decide) ?_
      refine s_goto dX9_count_113 (tgt := 117) (by decide) ?_
      exact am_lesS (kj2 1 (h 1 (by rw [if_neg hp0]))) ⟨Or.inl rfl, Or.inl rfl, trivial⟩
  have n6 := cc
  have h := h.2
  by_cases cc : x1 = 7
  · have h := h.1 cc
    refine s_table_in dX9_count_1 (by omega) (by omega) (by rw [cc] <;> rfl) (tgt := 118) (by decide) ?_
    refine s_aload_n dX9_count_118 rfl rfl ?_
    refine s_getR dX9_count_119 flX9_57 kn0 kk0 rfl kr0_7 ?_
    refine s_getI (x := (μ 151 4)) dX9_count_122 flX9_326 kn151 kk151 rfl rfl ?_
    exact s_ireturn dX9_count_125 (Or.inl rfl) ⟨⟨rfl, rfl⟩, _, rfl, h⟩
  have n7 := cc
  have h := h.2
  have h := h n0 n1 n2 n3 n4 n5 n6 n7
  refine s_table_out dX9_count_1 ((Int.lt_or_le (x1) 0).elim Or.inl (fun q => Or.inr (by have q := q; have q := Int.lt_iff_le_and_ne.mpr ⟨(show 0 ≤ x1 from q), (fun e => n0 e.symm)⟩; have q := Int.lt_iff_le_and_ne.mpr ⟨(show 1 ≤ x1 from q), (fun e => n1 e.symm)⟩; have q := Int.lt_iff_le_and_ne.mpr ⟨(show 2 ≤ x1 from q), (fun e => n2 e.symm)⟩; have q := Int.lt_iff_le_and_ne.mpr ⟨(show 3 ≤ x1 from q), (fun e => n3 e.symm)⟩; have q := Int.lt_iff_le_and_ne.mpr ⟨(show 4 ≤ x1 from q), (fun e => n4 e.symm)⟩; have q := Int.lt_iff_le_and_ne.mpr ⟨(show 5 ≤ x1 from q), (fun e => n5 e.symm)⟩; have q := Int.lt_iff_le_and_ne.mpr ⟨(show 6 ≤ x1 from q), (fun e => n6 e.symm)⟩; have q := Int.lt_iff_le_and_ne.mpr ⟨(show 7 ≤ x1 from q), (fun e => n7 e.symm)⟩; exact q))) (tgt := 126) (by decide) ?_
  refine s_iload_n dX9_count_126 rfl rfl ?_
  refine s_bipush dX9_count_127 (by decide) ?_
  obtain ⟨hsd, h⟩ := h
  have kj4 : ∀ (v3 : Int), (Q v3 μ) → at_I kC 2 mX9_count 155 [vU, vU] [vI v3] μ Q := by
    intro v3 h
    exact s_ireturn dX9_count_155 (Or.inl rfl) ⟨⟨rfl, rfl⟩, _, rfl, h⟩
  refine s_icmp_lt dX9_count_129 (tgt := 138) (by decide) (fun cc => ?_) (fun cc => ?_)
  · have hp0 := cc
    refine s_bipush dX9_count_138 (by decide) ?_
    refine s_goto dX9_count_140 (tgt := 155) (by decide) ?_
    exact am_lesS (kj4 (-2) (h (-2) (by rw [if_pos hp0]))) ⟨Or.inl rfl, Or.inl rfl, trivial⟩
  · have hp0 := cc
    have hsd := hsd hp0
    refine s_iload_n dX9_count_132 rfl rfl ?_
    refine s_bipush dX9_count_133 (by decide) ?_
    refine s_icmp_lt dX9_count_135 (tgt := 143) (by decide) (fun cc => ?_) (fun cc => ?_)
    · have hp1 := cc
      have hsd := hsd hp1
      refine s_aload_n dX9_count_143 rfl rfl ?_
      refine s_getR dX9_count_144 flX9_12 kn0 kk0 rfl kr0_0 ?_
      refine s_getR dX9_count_147 flX9_275 kn1 kk1 rfl kr1_0 ?_
      refine s_iload_n dX9_count_150 rfl rfl ?_
      refine s_bipush dX9_count_151 (by decide) ?_
      obtain ⟨c, hsd⟩ := hsd
      refine s_isub dX9_count_153 (am_w_id c) ?_
      obtain ⟨c, c2⟩ := hsd
      refine s_iald (x := (μ 2 ((x1 - 8).toNat))) dX9_count_154 kn2 kk2 kl2 c c2 rfl ?_
      exact am_lesS (kj4 (μ 2 ((x1 - 8).toNat)) (h (μ 2 ((x1 - 8).toNat)) (by rw [if_neg (Int.not_lt.mpr hp0), if_pos hp1]))) ⟨Or.inl rfl, Or.inl rfl, trivial⟩
    · have hp1 := cc
      refine s_bipush dX9_count_138 (by decide) ?_
      refine s_goto dX9_count_140 (tgt := 155) (by decide) ?_
      exact am_lesS (kj4 (-2) (h (-2) (by rw [if_neg (Int.not_lt.mpr hp0), if_neg (Int.not_lt.mpr hp1)]))) ⟨Or.inl rfl, Or.inl rfl, trivial⟩
theorem ve_X9_count {x1 : Int} {μ : am_M} {Q : Int → am_M → Prop} (h : at_I kC 2 mX9_count 0 [vR 0, vI x1] [] μ Q) : cl_I kC 2 mX9_count [vR 0, vI x1] μ Q := am_intro pmX9_count (Nat.le_of_ble_eq_true rfl) rfl h
noncomputable def q_cnt (P : Pj) (u r op tn w : Int) : Int := if w = 0 then pM P else if w = 1 then pN P else if w = 2 then (pH P).length else if w = 3 then 2 * pN P + (pH P).length else if w = 4 then u else if w = 5 then r else if w = 6 then (if op = 0 then 0 else 1) else if w = 7 then tn else if w < 8 then -2 else if w < 13 then pE P (w - 8).toNat else -2
theorem sp_X9_count {K : Int} {μ : am_M} {w : Int} (hI : CI K μ) : cl_I kC 2 mX9_count [vR 0, vI w] μ (fun z m => z = q_cnt (pC μ 1) (μ 28 2) (μ 28 3) (μ 28 5) (μ 151 4) w ∧ m = μ) := by
  have hn := hI.v.hn
  have hl := (hl_hC hI.h7).1
  have hm := hI.v.hl
  have e0 : q_cnt (pC μ 1) (μ 28 2) (μ 28 3) (μ 28 5) (μ 151 4) w = if w = 0 then μ 1 5 else if w = 1 then μ 5 1 else if w = 2 then ((hC μ).length : Int) else if w = 3 then 2 * μ 5 1 + ((hC μ).length : Int) else if w = 4 then μ 28 2 else if w = 5 then μ 28 3 else if w = 6 then (if μ 28 5 = 0 then 0 else 1) else if w = 7 then μ 151 4 else if w < 8 then -2 else if w < 13 then μ 2 (w - 8).toNat else -2 := rfl
  rw [← hl] at e0
  unfold in_ at hn
  refine ve_X9_count (vc_X9_count_0 ⟨fun n => ⟨?_, rfl⟩, fun n => ⟨?_, rfl⟩, fun n => ⟨?_, rfl⟩, fun n => ⟨(by (try unfold am_in); (try unfold in_ at *); omega), (by (try unfold am_in); (try unfold in_ at *); omega), ?_, rfl⟩, fun n => ⟨?_, rfl⟩, fun n => ⟨?_, rfl⟩, fun n v e => ⟨?_, rfl⟩, fun n => ⟨?_, rfl⟩, fun n0 n1 n2 n3 n4 n5 n6 n7 => ⟨fun a b => ⟨by unfold am_in; clear n0 n1 n2 n3 n4 n5 n6 n7; omega, by clear n0 n1 n2 n3 n4 n5 n6 n7; omega, by clear n0 n1 n2 n3 n4 n5 n6 n7; omega⟩, fun v e => ⟨?_, rfl⟩⟩⟩)
  · rw [e0, if_pos n]
  · rw [e0, if_neg (by omega), if_pos n]
  · rw [e0, if_neg (by omega), if_neg (by omega), if_pos n]
  · rw [e0, if_neg (by omega), if_neg (by omega), if_neg (by omega), if_pos n]
  · rw [e0, if_neg (by omega), if_neg (by omega), if_neg (by omega), if_neg (by omega), if_pos n]
  · rw [e0, if_neg (by omega), if_neg (by omega), if_neg (by omega), if_neg (by omega), if_neg (by omega), if_pos n]
  · rw [e0, if_neg (by omega), if_neg (by omega), if_neg (by omega), if_neg (by omega), if_neg (by omega), if_neg (by omega), if_pos n, e]
  · rw [e0, if_neg (by omega), if_neg (by omega), if_neg (by omega), if_neg (by omega), if_neg (by omega), if_neg (by omega), if_neg (by omega), if_pos n]
  · rw [e0, if_neg n0, if_neg n1, if_neg n2, if_neg n3, if_neg n4, if_neg n5, if_neg n6, if_neg n7, e]

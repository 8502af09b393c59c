/-! the reference's texts -/
theorem vc_X10_append_0 {x1 : Int} {μ : am_M} {Q : Int → am_M → Prop} (h : (32 ≤ x1 ∧ x1 ≤ 126 → (μ 0 23 ≠ 60 → (0 ≤ μ 0 23) ∧ (μ 0 23 < 60) ∧ (∀ m1 : am_M, m1 = am_st μ 17 (am_up (μ 17) (μ 0 23).toNat x1) → (am_in (μ 0 23 + 1)) ∧ (∀ m2 : am_M, m2 = am_st m1 0 (am_up (m1 0) 23 (μ 0 23 + 1)) → Q (μ 0 23 + 1) m2))) ∧ (μ 0 23 = 60 → Q (-3) μ)) ∧ (¬ (32 ≤ x1 ∧ x1 ≤ 126) → Q (-2) μ)) : at_I kR 2 mX10_append 0 [vR 0, vI x1] [] μ Q := by
  refine s_iload_n dX10_append_0 rfl rfl ?_
  refine s_bipush dX10_append_1 (by decide) ?_
  refine s_bipush dX10_append_3 (by decide) ?_
  refine s_callS (As := [vI x1, vI 32, vI 126]) (rest := []) dX10_append_5 lkX10_103 lmX10_isIn rfl rfl (Nat.le_of_ble_eq_true rfl) (by decide) (Nat.le_refl 0) (Nat.le_refl 0) (hC := sp_X10_isIn (Q := fun z m => bI (32 ≤ x1 ∧ x1 ≤ 126) = z ∧ μ = m)  ⟨rfl, rfl⟩) (fun r n2 S2 m2 hP => ?_)
  obtain ⟨⟨rfl, rfl⟩, z, rfl, rfl, rfl⟩ := hP
  refine s_if_ne dX10_append_8 (tgt := 14) (by decide) (fun cc => ?_) (fun cc => ?_)
  · have h := h.1 (bI_ne cc)
    refine s_aload_n dX10_append_14 rfl rfl ?_
    refine s_getI (x := (μ 0 23)) dX10_append_15 flX10_243 rn0 rk0 rfl rfl ?_
    refine s_bipush dX10_append_18 (by decide) ?_
    refine s_icmp_ne dX10_append_20 (tgt := 26) (by decide) (fun cc => ?_) (fun cc => ?_)
    · have h := h.1 cc
      refine s_aload_n dX10_append_26 rfl rfl ?_
      refine s_getR dX10_append_27 flX10_59 rn0 rk0 rfl rr0_22 ?_
      refine s_aload_n dX10_append_30 rfl rfl ?_
      refine s_getI (x := (μ 0 23)) dX10_append_31 flX10_243 rn0 rk0 rfl rfl ?_
      refine s_iload_n dX10_append_34 rfl rfl ?_
      obtain ⟨c, c2, h⟩ := h
      obtain ⟨m1, hm1⟩ : ∃ x : am_M, x = am_st μ 17 (am_up (μ 17) (μ 0 23).toNat x1) := ⟨_, rfl⟩
      have h := h m1 hm1
      refine s_iast dX10_append_35 rn17 rk17 rl17 c c2 hm1.symm ?_
      refine s_aload_n dX10_append_36 rfl rfl ?_
      refine s_dup dX10_append_37 ?_
      refine s_getI (x := (μ 0 23)) dX10_append_38 flX10_243 rn0 rk0 rfl (by subst hm1; rfl) ?_
      refine s_iconst dX10_append_41 (by decide) ?_
      obtain ⟨c, h⟩ := h
      refine s_iadd dX10_append_42 (am_w_id c) ?_
      obtain ⟨m2, hm2⟩ : ∃ x : am_M, x = am_st m1 0 (am_up (m1 0) 23 (μ 0 23 + 1)) := ⟨_, rfl⟩
      have h := h m2 hm2
      refine s_putI dX10_append_43 flX10_243 rn0 rk0 rfl rfl (Or.inl rfl) hm2.symm ?_
      refine s_aload_n dX10_append_46 rfl rfl ?_
      refine s_getI (x := (μ 0 23 + 1)) dX10_append_47 flX10_243 rn0 rk0 rfl (by subst hm2; rfl) ?_
      exact s_ireturn dX10_append_50 (Or.inl rfl) ⟨⟨rfl, rfl⟩, _, rfl, h⟩
    · have h := h.2 cc
      refine s_bipush dX10_append_23 (by decide) ?_
      exact s_ireturn dX10_append_25 (Or.inl rfl) ⟨⟨rfl, rfl⟩, _, rfl, h⟩
  · have h := h.2 (bI_eq cc)
    refine s_bipush dX10_append_11 (by decide) ?_
    exact s_ireturn dX10_append_13 (Or.inl rfl) ⟨⟨rfl, rfl⟩, _, rfl, h⟩
theorem ve_X10_append {x1 : Int} {μ : am_M} {Q : Int → am_M → Prop} (h : at_I kR 2 mX10_append 0 [vR 0, vI x1] [] μ Q) : cl_I kR 2 mX10_append [vR 0, vI x1] μ Q := am_intro pmX10_append (Nat.le_of_ble_eq_true rfl) rfl h
theorem sp_X10_append {K : Int} {μ : am_M} {c : Int} (hI : RI K μ) : cl_I kR 2 mX10_append [vR 0, vI c] μ (fun z m => ((c < 32 ∨ 126 < c) ∧ z = -2 ∧ m = μ) ∨ ((32 ≤ c ∧ c ≤ 126) ∧ 60 ≤ μ 0 23 ∧ z = -3 ∧ m = μ) ∨ ((32 ≤ c ∧ c ≤ 126) ∧ μ 0 23 < 60 ∧ z = μ 0 23 + 1 ∧ fr_ [0, 17] μ m ∧ m 0 = am_up (μ 0) 23 (μ 0 23 + 1) ∧ m 17 = am_up (μ 17) (μ 0 23).toNat c)) := by
  have h23 : in_ 0 61 (μ 0 23) := hI.2.2.2.2.1
  unfold in_ at h23
  refine ve_X10_append (vc_X10_append_0 ⟨fun q => ⟨fun q2 => ⟨by omega, by omega, fun m1 e1 => ⟨(by (try unfold am_in); (try unfold in_ at *); omega), fun m2 e2 => Or.inr (Or.inr ⟨q, by omega, rfl, ?_, ?_, ?_⟩)⟩⟩, fun q2 => Or.inr (Or.inl ⟨q, by omega, rfl, rfl⟩)⟩, fun q => Or.inl ⟨by omega, rfl, rfl⟩⟩)
  · rw [e2, e1]; exact fr_tr (fr_st (by simp)) (fr_st (by simp))
  · rw [e2, st_s, e1, st_n (by decide)]
  · rw [e2, st_n (by decide), e1, st_s]
theorem vc_X10_refused_0 {x1 : Int} {μ : am_M} {Q : Int → am_M → Prop} (h : (0 ≤ x1 ∧ x1 ≤ 1 → ∀ v1 : Int, v1 = (if μ 0 27 < 0 then (-6) else (if x1 = 0 then μ 0 26 else μ 0 27)) → Q v1 μ) ∧ (¬ (0 ≤ x1 ∧ x1 ≤ 1) → Q (-2) μ)) : at_I kR 2 mX10_refused 0 [vR 0, vI x1] [] μ Q := by
  refine s_iload_n dX10_refused_0 rfl rfl ?_
  refine s_iconst dX10_refused_1 (by decide) ?_
  refine s_iconst dX10_refused_2 (by decide) ?_
  refine s_callS (As := [vI x1, vI 0, vI 1]) (rest := []) dX10_refused_3 lkX10_103 lmX10_isIn rfl rfl (Nat.le_of_ble_eq_true rfl) (by decide) (Nat.le_refl 0) (Nat.le_refl 0) (hC := sp_X10_isIn (Q := fun z m => bI (0 ≤ x1 ∧ x1 ≤ 1) = z ∧ μ = m)  ⟨rfl, rfl⟩) (fun r n2 S2 m2 hP => ?_)
  obtain ⟨⟨rfl, rfl⟩, z, rfl, rfl, rfl⟩ := hP
  refine s_if_ne dX10_refused_6 (tgt := 12) (by decide) (fun cc => ?_) (fun cc => ?_)
  · have h := h.1 (bI_ne cc)
    refine s_aload_n dX10_refused_12 rfl rfl ?_
    refine s_getI (x := (μ 0 27)) dX10_refused_13 flX10_62 rn0 rk0 rfl rfl ?_
    have kj2 : ∀ (v1 : Int), (Q v1 μ) → at_I kR 2 mX10_refused 39 [vU, vU] [vI v1] μ Q := by
      intro v1 h
      exact s_ireturn dX10_refused_39 (Or.inl rfl) ⟨⟨rfl, rfl⟩, _, rfl, h⟩
    refine s_if_ge dX10_refused_16 (tgt := 24) (by decide) (fun cc => ?_) (fun cc => ?_)
    · have hp0 := cc
      refine s_iload_n dX10_refused_24 rfl rfl ?_
      refine s_if_ne dX10_refused_25 (tgt := 35) (by decide) (fun cc => ?_) (fun cc => ?_)
      · have hp1 := cc
        refine s_aload_n dX10_refused_35 rfl rfl ?_
        refine s_getI (x := (μ 0 27)) dX10_refused_36 flX10_62 rn0 rk0 rfl rfl ?_
        exact am_lesS (kj2 (μ 0 27) (h (μ 0 27) (by rw [if_neg (Int.not_lt.mpr hp0), if_neg hp1]))) ⟨Or.inl rfl, Or.inl rfl, trivial⟩
      · have hp1 := cc
        refine s_aload_n dX10_refused_28 rfl rfl ?_
        refine s_getI (x := (μ 0 26)) dX10_refused_29 flX10_267 rn0 rk0 rfl rfl ?_
        refine s_goto dX10_refused_32 (tgt := 39) (by decide) ?_
        exact am_lesS (kj2 (μ 0 26) (h (μ 0 26) (by rw [if_neg (Int.not_lt.mpr hp0), if_pos hp1]))) ⟨Or.inl rfl, Or.inl rfl, trivial⟩
    · have hp0 := cc
      refine s_bipush dX10_refused_19 (by decide) ?_
      refine s_goto dX10_refused_21 (tgt := 39) (by decide) ?_
      exact am_lesS (kj2 (-6) (h (-6) (by rw [if_pos hp0]))) ⟨Or.inl rfl, Or.inl rfl, trivial⟩
  · have h := h.2 (bI_eq cc)
    refine s_bipush dX10_refused_9 (by decide) ?_
    exact s_ireturn dX10_refused_11 (Or.inl rfl) ⟨⟨rfl, rfl⟩, _, rfl, h⟩
theorem ve_X10_refused {x1 : Int} {μ : am_M} {Q : Int → am_M → Prop} (h : at_I kR 2 mX10_refused 0 [vR 0, vI x1] [] μ Q) : cl_I kR 2 mX10_refused [vR 0, vI x1] μ Q := am_intro pmX10_refused (Nat.le_of_ble_eq_true rfl) rfl h
theorem sp_X10_refused {μ : am_M} {w : Int} : cl_I kR 2 mX10_refused [vR 0, vI w] μ (fun z m => z = (if w < 0 then -2 else if 1 < w then -2 else if μ 0 27 < 0 then -6 else if w = 0 then μ 0 26 else μ 0 27) ∧ m = μ) := by
  refine ve_X10_refused (vc_X10_refused_0 ⟨fun q v1 e1 => ⟨?_, rfl⟩, fun q => ⟨?_, rfl⟩⟩)
  · rw [e1, if_neg (show ¬ w < 0 by omega), if_neg (show ¬ 1 < w by omega)]
  · by_cases a : w < 0
    · rw [if_pos a]
    · rw [if_neg a, if_pos (by omega)]
/-- the reference's written text is W -/
def wrR (μ : am_M) (W : List Int) : Prop := μ 0 32 = W.length ∧ ∀ (i : Nat) (c : Int), W[i]? = some c → μ 21 i = c
/-- only the written text has changed -/
def fwR (ν m : am_M) : Prop := fr_ [0, 21] ν m ∧ ∀ j, j ≠ 32 → m 0 j = ν 0 j
theorem fwR_tr {a b c : am_M} (h : fwR a b) (g : fwR b c) : fwR a c := ⟨fr_tr h.1 g.1, fun j hj => (g.2 j hj).trans (h.2 j hj)⟩
theorem wr_add {ν m m1 m2 : am_M} {W : List Int} {c : Int} (h : wrR m W) (f : fwR ν m) (e1 : m1 = am_st m 21 (am_up (m 21) (m 0 32).toNat c)) (e2 : m2 = am_st m1 0 (am_up (m1 0) 32 (m 0 32 + 1))) : fwR ν m2 ∧ wrR m2 (W ++ [c]) := by
  have h1 := h.1
  refine ⟨⟨fr_tr f.1 (by rw [e2, e1]; exact fr_tr (fr_st (by simp)) (fr_st (by simp))), fun j hj => by rw [e2, st_s, up_n hj, e1, st_n (by decide), f.2 j hj]⟩, by rw [e2, st_s, up_s, h1]; simp, fun i d hi => ?_⟩
  rw [e2, st_n (by decide), e1, st_s]
  by_cases q1 : i < W.length
  · rw [up_n (by omega)]
    rw [List.getElem?_append_left q1] at hi
    exact h.2 i d hi
  · have hl2 := (List.getElem?_eq_some_iff.mp hi).1
    simp at hl2
    have : i = W.length := by omega
    subst this
    simp at hi
    rw [show (m 0 32).toNat = W.length by omega, up_s]
    exact hi
theorem vc_X10_puts_0 {x1 x2 : Int} {μ : am_M} {Q : am_M → Prop} (h : at_V kR 1 mX10_puts 2 [vR 0, vI x1, vU, vI x2] [] μ Q) : at_V kR 1 mX10_puts 0 [vR 0, vI x1, vI x2, vU] [] μ Q := by
  refine s_iload_n dX10_puts_0 rfl rfl ?_
  refine s_istore_n dX10_puts_1 rfl (by decide) (L' := [vR 0, vI x1, vI x2, vI x2]) rfl ?_
  exact am_lesS h ⟨Or.inr rfl, Or.inr rfl, Or.inl rfl, Or.inr rfl, trivial⟩
theorem vc_X10_puts_2 {x1 x3 : Int} {μ : am_M} {Q : am_M → Prop} (h : (x3 ≤ 0 → Q μ) ∧ (0 < x3 → (x3 ≤ x1 → (0 ≤ x1) ∧ (0 < x3) ∧ ((0 ≤ x1 / x3) ∧ ((am_in (48 + ((x1 / x3) % 10))) ∧ ((0 ≤ μ 0 32) ∧ (μ 0 32 < 100) ∧ (∀ m1 : am_M, m1 = am_st μ 21 (am_up (μ 21) (μ 0 32).toNat (48 + ((x1 / x3) % 10))) → (am_in (μ 0 32 + 1)) ∧ (∀ m2 : am_M, m2 = am_st m1 0 (am_up (m1 0) 32 (μ 0 32 + 1)) → (0 ≤ x3) ∧ (at_V kR 1 mX10_puts 2 [vR 0, vI x1, vU, vI (x3 / 10)] [] m2 Q))))))) ∧ (x1 < x3 → (x3 ≤ 1 → (0 ≤ x1) ∧ (0 < x3) ∧ ((0 ≤ x1 / x3) ∧ ((am_in (48 + ((x1 / x3) % 10))) ∧ ((0 ≤ μ 0 32) ∧ (μ 0 32 < 100) ∧ (∀ m3 : am_M, m3 = am_st μ 21 (am_up (μ 21) (μ 0 32).toNat (48 + ((x1 / x3) % 10))) → (am_in (μ 0 32 + 1)) ∧ (∀ m4 : am_M, m4 = am_st m3 0 (am_up (m3 0) 32 (μ 0 32 + 1)) → (0 ≤ x3) ∧ (at_V kR 1 mX10_puts 2 [vR 0, vI x1, vU, vI (x3 / 10)] [] m4 Q))))))) ∧ (1 < x3 → (0 ≤ x3) ∧ (at_V kR 1 mX10_puts 2 [vR 0, vI x1, vU, vI (x3 / 10)] [] μ Q))))) : at_V kR 1 mX10_puts 2 [vR 0, vI x1, vU, vI x3] [] μ Q := by
  refine s_iload_n dX10_puts_2 rfl rfl ?_
  refine s_if_le dX10_puts_3 (tgt := 55) (by decide) (fun cc => ?_) (fun cc => ?_)
  · have h := h.1 cc
    exact s_return dX10_puts_55 rfl ⟨⟨rfl, rfl⟩, rfl, h⟩
  · have h := h.2 cc
    refine s_iload_n dX10_puts_6 rfl rfl ?_
    refine s_iload_n dX10_puts_7 rfl rfl ?_
    refine s_icmp_ge dX10_puts_8 (tgt := 19) (by decide) (fun cc => ?_) (fun cc => ?_)
    · have h := h.1 cc
      refine s_aload_n dX10_puts_19 rfl rfl ?_
      refine s_getR dX10_puts_20 flX10_75 rn0 rk0 rfl rr0_31 ?_
      refine s_aload_n dX10_puts_23 rfl rfl ?_
      refine s_getI (x := (μ 0 32)) dX10_puts_24 flX10_270 rn0 rk0 rfl rfl ?_
      refine s_bipush dX10_puts_27 (by decide) ?_
      refine s_iload_n dX10_puts_29 rfl rfl ?_
      refine s_iload_n dX10_puts_30 rfl rfl ?_
      obtain ⟨c, c2, h⟩ := h
      refine s_idivp dX10_puts_31 c c2 rfl ?_
      refine s_bipush dX10_puts_32 (by decide) ?_
      obtain ⟨c, h⟩ := h
      refine s_iremp dX10_puts_34 c (by decide) rfl ?_
      obtain ⟨c, h⟩ := h
      refine s_iadd dX10_puts_35 (am_w_id c) ?_
      obtain ⟨c, c2, h⟩ := h
      obtain ⟨m1, hm1⟩ : ∃ x : am_M, x = am_st μ 21 (am_up (μ 21) (μ 0 32).toNat (48 + ((x1 / x3) % 10))) := ⟨_, rfl⟩
      have h := h m1 hm1
      refine s_iast dX10_puts_36 rn21 rk21 rl21 c c2 hm1.symm ?_
      refine s_aload_n dX10_puts_37 rfl rfl ?_
      refine s_dup dX10_puts_38 ?_
      refine s_getI (x := (μ 0 32)) dX10_puts_39 flX10_270 rn0 rk0 rfl (by subst hm1; rfl) ?_
      refine s_iconst dX10_puts_42 (by decide) ?_
      obtain ⟨c, h⟩ := h
      refine s_iadd dX10_puts_43 (am_w_id c) ?_
      obtain ⟨m2, hm2⟩ : ∃ x : am_M, x = am_st m1 0 (am_up (m1 0) 32 (μ 0 32 + 1)) := ⟨_, rfl⟩
      have h := h m2 hm2
      refine s_putI dX10_puts_44 flX10_270 rn0 rk0 rfl rfl (Or.inl rfl) hm2.symm ?_
      refine s_iload_n dX10_puts_47 rfl rfl ?_
      refine s_bipush dX10_puts_48 (by decide) ?_
      obtain ⟨c, h⟩ := h
      refine s_idivp dX10_puts_50 c (by decide) rfl ?_
      refine s_istore_n dX10_puts_51 rfl (by decide) (L' := [vR 0, vI x1, vU, vI (x3 / 10)]) rfl ?_
      refine s_goto dX10_puts_52 (tgt := 2) (by decide) ?_
      exact h
    · have h := h.2 cc
      refine s_iload_n dX10_puts_11 rfl rfl ?_
      refine s_iconst dX10_puts_12 (by decide) ?_
      refine s_icmp_le dX10_puts_13 (tgt := 19) (by decide) (fun cc => ?_) (fun cc => ?_)
      · have h := h.1 cc
        refine s_aload_n dX10_puts_19 rfl rfl ?_
        refine s_getR dX10_puts_20 flX10_75 rn0 rk0 rfl rr0_31 ?_
        refine s_aload_n dX10_puts_23 rfl rfl ?_
        refine s_getI (x := (μ 0 32)) dX10_puts_24 flX10_270 rn0 rk0 rfl rfl ?_
        refine s_bipush dX10_puts_27 (by decide) ?_
        refine s_iload_n dX10_puts_29 rfl rfl ?_
        refine s_iload_n dX10_puts_30 rfl rfl ?_
        obtain ⟨c, c2, h⟩ := h
        refine s_idivp dX10_puts_31 c c2 rfl ?_
        refine s_bipush dX10_puts_32 (by decide) ?_
        obtain ⟨c, h⟩ := h
        refine s_iremp dX10_puts_34 c (by decide) rfl ?_
        obtain ⟨c, h⟩ := h
        refine s_iadd dX10_puts_35 (am_w_id c) ?_
        obtain ⟨c, c2, h⟩ := h
        obtain ⟨m3, hm3⟩ : ∃ x : am_M, x = am_st μ 21 (am_up (μ 21) (μ 0 32).toNat (48 + ((x1 / x3) % 10))) := ⟨_, rfl⟩
        have h := h m3 hm3
        refine s_iast dX10_puts_36 rn21 rk21 rl21 c c2 hm3.symm ?_
        refine s_aload_n dX10_puts_37 rfl rfl ?_
        refine s_dup dX10_puts_38 ?_
        refine s_getI (x := (μ 0 32)) dX10_puts_39 flX10_270 rn0 rk0 rfl (by subst hm3; rfl) ?_
        refine s_iconst dX10_puts_42 (by decide) ?_
        obtain ⟨c, h⟩ := h
        refine s_iadd dX10_puts_43 (am_w_id c) ?_
        obtain ⟨m4, hm4⟩ : ∃ x : am_M, x = am_st m3 0 (am_up (m3 0) 32 (μ 0 32 + 1)) := ⟨_, rfl⟩
        have h := h m4 hm4
        refine s_putI dX10_puts_44 flX10_270 rn0 rk0 rfl rfl (Or.inl rfl) hm4.symm ?_
        refine s_iload_n dX10_puts_47 rfl rfl ?_
        refine s_bipush dX10_puts_48 (by decide) ?_
        obtain ⟨c, h⟩ := h
        refine s_idivp dX10_puts_50 c (by decide) rfl ?_
        refine s_istore_n dX10_puts_51 rfl (by decide) (L' := [vR 0, vI x1, vU, vI (x3 / 10)]) rfl ?_
        refine s_goto dX10_puts_52 (tgt := 2) (by decide) ?_
        exact h
      · have h := h.2 cc
        refine s_goto dX10_puts_16 (tgt := 47) (by decide) ?_
        refine s_iload_n dX10_puts_47 rfl rfl ?_
        refine s_bipush dX10_puts_48 (by decide) ?_
        obtain ⟨c, h⟩ := h
        refine s_idivp dX10_puts_50 c (by decide) rfl ?_
        refine s_istore_n dX10_puts_51 rfl (by decide) (L' := [vR 0, vI x1, vU, vI (x3 / 10)]) rfl ?_
        refine s_goto dX10_puts_52 (tgt := 2) (by decide) ?_
        exact h
theorem ve_X10_puts {x1 x2 : Int} {μ : am_M} {Q : am_M → Prop} (h : at_V kR 1 mX10_puts 0 [vR 0, vI x1, vI x2, vU] [] μ Q) : cl_V kR 1 mX10_puts [vR 0, vI x1, vI x2] μ Q := am_intro pmX10_puts (Nat.le_of_ble_eq_true rfl) rfl h
theorem sp_X10_puts {ν μ : am_M} {n b : Int} (W : List Int) (f : fwR ν μ) (h : wrR μ W) (hn : 0 ≤ n) (hb : (b = 100 ∧ n < 1000) ∨ (b = 10 ∧ n < 100)) (hl : W.length ≤ 96) : cl_V kR 1 mX10_puts [vR 0, vI n, vI b] μ (fun m => fwR ν m ∧ wrR m (W ++ dig_ n)) := by
  refine ve_X10_puts (vc_X10_puts_0 ?_)
  have zero : ∀ (m : am_M), fwR ν m → wrR m (W ++ dig_ n) → at_V kR 1 mX10_puts 2 [vR 0, vI n, vU, vI 0] [] m (fun m => fwR ν m ∧ wrR m (W ++ dig_ n)) := fun m a b => vc_X10_puts_2 ⟨fun _ => ⟨a, b⟩, fun q => by omega⟩
  have d1 : n / 1 % 10 = n % 10 := by omega
  have one : ∀ (m : am_M) (V : List Int), fwR ν m → wrR m V → V.length ≤ 98 → V ++ [48 + n % 10] = W ++ dig_ n → at_V kR 1 mX10_puts 2 [vR 0, vI n, vU, vI 1] [] m (fun m => fwR ν m ∧ wrR m (W ++ dig_ n)) := fun m V a b hV e => by
    have b1 := b.1
    refine vc_X10_puts_2 ⟨fun q => by omega, fun _ => ⟨fun q => ⟨hn, by omega, by omega, by ((try unfold am_in); (try unfold in_ at *); omega), by omega, by omega, fun m1 e1 => ⟨by ((try unfold am_in); (try unfold in_ at *); omega), fun m2 e2 => ⟨by omega, ?_⟩⟩⟩, fun q => ⟨fun q2 => ⟨hn, by omega, by omega, by ((try unfold am_in); (try unfold in_ at *); omega), by omega, by omega, fun m1 e1 => ⟨by ((try unfold am_in); (try unfold in_ at *); omega), fun m2 e2 => ⟨by omega, ?_⟩⟩⟩, fun q2 => by omega⟩⟩⟩
    · obtain ⟨x1, x2⟩ := wr_add b a e1 e2
      rw [d1, e] at x2
      exact zero m2 x1 x2
    · obtain ⟨x1, x2⟩ := wr_add b a e1 e2
      rw [d1, e] at x2
      exact zero m2 x1 x2
  have ten : ∀ (m : am_M) (V : List Int), fwR ν m → wrR m V → V.length ≤ 97 → V ++ (if 10 ≤ n then [48 + n / 10 % 10] else []) ++ [48 + n % 10] = W ++ dig_ n → at_V kR 1 mX10_puts 2 [vR 0, vI n, vU, vI 10] [] m (fun m => fwR ν m ∧ wrR m (W ++ dig_ n)) := fun m V a b hV e => by
    have b1 := b.1
    refine vc_X10_puts_2 ⟨fun q => by omega, fun _ => ⟨fun q => ⟨hn, by omega, by omega, by ((try unfold am_in); (try unfold in_ at *); omega), by omega, by omega, fun m1 e1 => ⟨by ((try unfold am_in); (try unfold in_ at *); omega), fun m2 e2 => ⟨by omega, ?_⟩⟩⟩, fun q => ⟨fun q2 => by omega, fun q2 => ⟨by omega, ?_⟩⟩⟩⟩
    · obtain ⟨x1, x2⟩ := wr_add b a e1 e2
      rw [if_pos q] at e
      exact one m2 _ x1 x2 (by simp; omega) e
    · rw [if_neg (by omega), List.append_nil] at e
      exact one m V a b (by omega) e
  rcases hb with ⟨hb, hn2⟩ | ⟨hb, hn2⟩
  · subst hb
    have b1 := h.1
    refine vc_X10_puts_2 ⟨fun q => by omega, fun _ => ⟨fun q => ⟨hn, by omega, by omega, by ((try unfold am_in); (try unfold in_ at *); omega), by omega, by omega, fun m1 e1 => ⟨by ((try unfold am_in); (try unfold in_ at *); omega), fun m2 e2 => ⟨by omega, ?_⟩⟩⟩, fun q => ⟨fun q2 => by omega, fun q2 => ⟨by omega, ?_⟩⟩⟩⟩
    · obtain ⟨x1, x2⟩ := wr_add h f e1 e2
      refine ten m2 _ x1 x2 (by simp; omega) ?_
      unfold dig_
      rw [if_pos q]
      simp
    · refine ten μ W f h (by omega) ?_
      unfold dig_
      rw [if_neg (show ¬ 100 ≤ n by omega)]
      simp
  · subst hb
    refine ten μ W f h (by omega) ?_
    unfold dig_
    rw [if_neg (show ¬ 100 ≤ n by omega)]
    simp
theorem vc_X10_write_0 {μ : am_M} {Q : Int → am_M → Prop} (h : ∀ m1 : am_M, m1 = am_st μ 0 (am_up (μ 0) 32 0) → at_I kR 2 mX10_write 7 [vR 0, vI 0] [] m1 Q) : at_I kR 2 mX10_write 0 [vR 0, vU] [] μ Q := by
  refine s_aload_n dX10_write_0 rfl rfl ?_
  refine s_iconst dX10_write_1 (by decide) ?_
  obtain ⟨m1, hm1⟩ : ∃ x : am_M, x = am_st μ 0 (am_up (μ 0) 32 0) := ⟨_, rfl⟩
  have h := h m1 hm1
  refine s_putI dX10_write_2 flX10_270 rn0 rk0 rfl rfl (Or.inl rfl) hm1.symm ?_
  refine s_iconst dX10_write_5 (by decide) ?_
  refine s_istore_n dX10_write_6 rfl (by decide) (L' := [vR 0, vI 0]) rfl ?_
  exact h
theorem vc_X10_write_7 {x1 : Int} {μ : am_M} {Q : Int → am_M → Prop} (h : (μ 1 438 ≤ x1 → Q (μ 0 32) μ) ∧ (x1 < μ 1 438 → (x1 ≤ 0 → ∀ v1 : Int, v1 = (if 0 < x1 then 1 else 0) → (am_in (μ 0 32 + v1)) ∧ (∀ m2 : am_M, m2 = am_st μ 0 (am_up (μ 0) 32 (μ 0 32 + v1)) → (0 ≤ μ 0 32 + v1) ∧ (μ 0 32 + v1 < 100) ∧ (∀ m3 : am_M, m3 = am_st m2 21 (am_up (m2 21) (μ 0 32 + v1).toNat 99) → (am_in ((μ 0 32 + v1) + 1)) ∧ (∀ m4 : am_M, m4 = am_st m3 0 (am_up (m3 0) 32 ((μ 0 32 + v1) + 1)) → (am_in (2 * x1)) ∧ ((am_in (439 + (2 * x1))) ∧ ((0 ≤ 439 + (2 * x1)) ∧ (439 + (2 * x1) < 470) ∧ (∃ P : am_M → Prop, cl_V kR 1 mX10_puts [vR 0, vI (μ 1 ((439 + (2 * x1)).toNat)), vI 100] m4 P ∧ (∀ m6 : am_M, P m6 → (0 ≤ m6 0 32) ∧ (m6 0 32 < 100) ∧ (∀ m7 : am_M, m7 = am_st m6 21 (am_up (m6 21) (m6 0 32).toNat 61) → (am_in (m6 0 32 + 1)) ∧ (∀ m8 : am_M, m8 = am_st m7 0 (am_up (m7 0) 32 (m6 0 32 + 1)) → (am_in (2 * x1)) ∧ ((am_in (439 + (2 * x1))) ∧ ((am_in ((439 + (2 * x1)) + 1)) ∧ ((0 ≤ (439 + (2 * x1)) + 1) ∧ ((439 + (2 * x1)) + 1 < 470) ∧ (∃ P : am_M → Prop, cl_V kR 1 mX10_puts [vR 0, vI (m6 1 (((439 + (2 * x1)) + 1).toNat)), vI 10] m8 P ∧ (∀ m10 : am_M, P m10 → (am_in (x1 + 1)) ∧ (at_I kR 2 mX10_write 7 [vR 0, vI (x1 + 1)] [] m10 Q)))))))))))))))) ∧ (0 < x1 → (0 ≤ μ 0 32) ∧ (μ 0 32 < 100) ∧ (∀ m12 : am_M, m12 = am_st μ 21 (am_up (μ 21) (μ 0 32).toNat 59) → ∀ v13 : Int, v13 = (if 0 < x1 then 1 else 0) → (am_in (μ 0 32 + v13)) ∧ (∀ m14 : am_M, m14 = am_st m12 0 (am_up (m12 0) 32 (μ 0 32 + v13)) → (0 ≤ μ 0 32 + v13) ∧ (μ 0 32 + v13 < 100) ∧ (∀ m15 : am_M, m15 = am_st m14 21 (am_up (m14 21) (μ 0 32 + v13).toNat 99) → (am_in ((μ 0 32 + v13) + 1)) ∧ (∀ m16 : am_M, m16 = am_st m15 0 (am_up (m15 0) 32 ((μ 0 32 + v13) + 1)) → (am_in (2 * x1)) ∧ ((am_in (439 + (2 * x1))) ∧ ((0 ≤ 439 + (2 * x1)) ∧ (439 + (2 * x1) < 470) ∧ (∃ P : am_M → Prop, cl_V kR 1 mX10_puts [vR 0, vI (μ 1 ((439 + (2 * x1)).toNat)), vI 100] m16 P ∧ (∀ m18 : am_M, P m18 → (0 ≤ m18 0 32) ∧ (m18 0 32 < 100) ∧ (∀ m19 : am_M, m19 = am_st m18 21 (am_up (m18 21) (m18 0 32).toNat 61) → (am_in (m18 0 32 + 1)) ∧ (∀ m20 : am_M, m20 = am_st m19 0 (am_up (m19 0) 32 (m18 0 32 + 1)) → (am_in (2 * x1)) ∧ ((am_in (439 + (2 * x1))) ∧ ((am_in ((439 + (2 * x1)) + 1)) ∧ ((0 ≤ (439 + (2 * x1)) + 1) ∧ ((439 + (2 * x1)) + 1 < 470) ∧ (∃ P : am_M → Prop, cl_V kR 1 mX10_puts [vR 0, vI (m18 1 (((439 + (2 * x1)) + 1).toNat)), vI 10] m20 P ∧ (∀ m22 : am_M, P m22 → (am_in (x1 + 1)) ∧ (at_I kR 2 mX10_write 7 [vR 0, vI (x1 + 1)] [] m22 Q))))))))))))))))))) : at_I kR 2 mX10_write 7 [vR 0, vI x1] [] μ Q := by
  refine s_iload_n dX10_write_7 rfl rfl ?_
  refine s_aload_n dX10_write_8 rfl rfl ?_
  refine s_getR dX10_write_9 flX10_9 rn0 rk0 rfl rr0_0 ?_
  refine s_sipush dX10_write_12 (by decide) ?_
  refine s_iald (x := (μ 1 438)) dX10_write_15 rn1 rk1 rl1 (by decide) (by decide) rfl ?_
  refine s_icmp_ge dX10_write_16 (tgt := 138) (by decide) (fun cc => ?_) (fun cc => ?_)
  · have h := h.1 cc
    refine s_aload_n dX10_write_138 rfl rfl ?_
    refine s_getI (x := (μ 0 32)) dX10_write_139 flX10_270 rn0 rk0 rfl rfl ?_
    exact s_ireturn dX10_write_142 (Or.inl rfl) ⟨⟨rfl, rfl⟩, _, rfl, h⟩
  · have h := h.2 cc
    refine s_iload_n dX10_write_19 rfl rfl ?_
    refine s_if_le dX10_write_20 (tgt := 34) (by decide) (fun cc => ?_) (fun cc => ?_)
    · have h := h.1 cc
      refine s_aload_n dX10_write_34 rfl rfl ?_
      refine s_dup dX10_write_35 ?_
      refine s_getI (x := (μ 0 32)) dX10_write_36 flX10_270 rn0 rk0 rfl rfl ?_
      refine s_iload_n dX10_write_39 rfl rfl ?_
      have kj11 : ∀ (v1 : Int), ((am_in (μ 0 32 + v1)) ∧ (∀ m2 : am_M, m2 = am_st μ 0 (am_up (μ 0) 32 (μ 0 32 + v1)) → (0 ≤ μ 0 32 + v1) ∧ (μ 0 32 + v1 < 100) ∧ (∀ m3 : am_M, m3 = am_st m2 21 (am_up (m2 21) (μ 0 32 + v1).toNat 99) → (am_in ((μ 0 32 + v1) + 1)) ∧ (∀ m4 : am_M, m4 = am_st m3 0 (am_up (m3 0) 32 ((μ 0 32 + v1) + 1)) → (am_in (2 * x1)) ∧ ((am_in (439 + (2 * x1))) ∧ ((0 ≤ 439 + (2 * x1)) ∧ (439 + (2 * x1) < 470) ∧ (∃ P : am_M → Prop, cl_V kR 1 mX10_puts [vR 0, vI (μ 1 ((439 + (2 * x1)).toNat)), vI 100] m4 P ∧ (∀ m6 : am_M, P m6 → (0 ≤ m6 0 32) ∧ (m6 0 32 < 100) ∧ (∀ m7 : am_M, m7 = am_st m6 21 (am_up (m6 21) (m6 0 32).toNat 61) → (am_in (m6 0 32 + 1)) ∧ (∀ m8 : am_M, m8 = am_st m7 0 (am_up (m7 0) 32 (m6 0 32 + 1)) → (am_in (2 * x1)) ∧ ((am_in (439 + (2 * x1))) ∧ ((am_in ((439 + (2 * x1)) + 1)) ∧ ((0 ≤ (439 + (2 * x1)) + 1) ∧ ((439 + (2 * x1)) + 1 < 470) ∧ (∃ P : am_M → Prop, cl_V kR 1 mX10_puts [vR 0, vI (m6 1 (((439 + (2 * x1)) + 1).toNat)), vI 10] m8 P ∧ (∀ m10 : am_M, P m10 → (am_in (x1 + 1)) ∧ (at_I kR 2 mX10_write 7 [vR 0, vI (x1 + 1)] [] m10 Q)))))))))))))))) → at_I kR 2 mX10_write 48 [vR 0, vI x1] [vI v1, vI (μ 0 32), vR 0] μ Q := by
        intro v1 h
        obtain ⟨c, h⟩ := h
        refine s_iadd dX10_write_48 (am_w_id c) ?_
        obtain ⟨m2, hm2⟩ : ∃ x : am_M, x = am_st μ 0 (am_up (μ 0) 32 (μ 0 32 + v1)) := ⟨_, rfl⟩
        have h := h m2 hm2
        refine s_putI dX10_write_49 flX10_270 rn0 rk0 rfl rfl (Or.inl rfl) hm2.symm ?_
        refine s_aload_n dX10_write_52 rfl rfl ?_
        refine s_getR dX10_write_53 flX10_75 rn0 rk0 rfl rr0_31 ?_
        refine s_aload_n dX10_write_56 rfl rfl ?_
        refine s_getI (x := (μ 0 32 + v1)) dX10_write_57 flX10_270 rn0 rk0 rfl (by subst hm2; rfl) ?_
        refine s_bipush dX10_write_60 (by decide) ?_
        obtain ⟨c, c2, h⟩ := h
        obtain ⟨m3, hm3⟩ : ∃ x : am_M, x = am_st m2 21 (am_up (m2 21) (μ 0 32 + v1).toNat 99) := ⟨_, rfl⟩
        have h := h m3 hm3
        refine s_iast dX10_write_62 rn21 rk21 rl21 c c2 hm3.symm ?_
        refine s_aload_n dX10_write_63 rfl rfl ?_
        refine s_dup dX10_write_64 ?_
        refine s_getI (x := (μ 0 32 + v1)) dX10_write_65 flX10_270 rn0 rk0 rfl (by subst hm3; subst hm2; rfl) ?_
        refine s_iconst dX10_write_68 (by decide) ?_
        obtain ⟨c, h⟩ := h
        refine s_iadd dX10_write_69 (am_w_id c) ?_
        obtain ⟨m4, hm4⟩ : ∃ x : am_M, x = am_st m3 0 (am_up (m3 0) 32 ((μ 0 32 + v1) + 1)) := ⟨_, rfl⟩
        have h := h m4 hm4
        refine s_putI dX10_write_70 flX10_270 rn0 rk0 rfl rfl (Or.inl rfl) hm4.symm ?_
        refine s_aload_n dX10_write_73 rfl rfl ?_
        refine s_aload_n dX10_write_74 rfl rfl ?_
        refine s_getR dX10_write_75 flX10_9 rn0 rk0 rfl rr0_0 ?_
        refine s_sipush dX10_write_78 (by decide) ?_
        refine s_iconst dX10_write_81 (by decide) ?_
        refine s_iload_n dX10_write_82 rfl rfl ?_
        obtain ⟨c, h⟩ := h
        refine s_imul dX10_write_83 (am_w_id c) ?_
        obtain ⟨c, h⟩ := h
        refine s_iadd dX10_write_84 (am_w_id c) ?_
        obtain ⟨c, c2, h⟩ := h
        refine s_iald (x := (μ 1 ((439 + (2 * x1)).toNat))) dX10_write_85 rn1 rk1 rl1 c c2 (by subst hm4; subst hm3; subst hm2; rfl) ?_
        refine s_bipush dX10_write_86 (by decide) ?_
        obtain ⟨P, hcl, h⟩ := h
        refine s_callV (As := [vI (μ 1 ((439 + (2 * x1)).toNat)), vI 100]) (rest := []) (k := 0) dX10_write_88 lkX10_273 rn0 ⟨by rw [rk0]; rfl, by rw [rk0]; decide⟩ lmX10_puts rfl rfl (Nat.le_of_ble_eq_true rfl) (by decide) (Nat.le_refl 0) (Nat.le_refl 0) (hC := hcl) (fun r n2 S2 m6 hP => ?_)
        obtain ⟨⟨rfl, rfl⟩, rfl, hq⟩ := hP
        have h := h m6 hq
        refine s_aload_n dX10_write_91 rfl rfl ?_
        refine s_getR dX10_write_92 flX10_75 rn0 rk0 rfl rr0_31 ?_
        refine s_aload_n dX10_write_95 rfl rfl ?_
        refine s_getI (x := (m6 0 32)) dX10_write_96 flX10_270 rn0 rk0 rfl rfl ?_
        refine s_bipush dX10_write_99 (by decide) ?_
        obtain ⟨c, c2, h⟩ := h
        obtain ⟨m7, hm7⟩ : ∃ x : am_M, x = am_st m6 21 (am_up (m6 21) (m6 0 32).toNat 61) := ⟨_, rfl⟩
        have h := h m7 hm7
        refine s_iast dX10_write_101 rn21 rk21 rl21 c c2 hm7.symm ?_
        refine s_aload_n dX10_write_102 rfl rfl ?_
        refine s_dup dX10_write_103 ?_
        refine s_getI (x := (m6 0 32)) dX10_write_104 flX10_270 rn0 rk0 rfl (by subst hm7; rfl) ?_
        refine s_iconst dX10_write_107 (by decide) ?_
        obtain ⟨c, h⟩ := h
        refine s_iadd dX10_write_108 (am_w_id c) ?_
        obtain ⟨m8, hm8⟩ : ∃ x : am_M, x = am_st m7 0 (am_up (m7 0) 32 (m6 0 32 + 1)) := ⟨_, rfl⟩
        have h := h m8 hm8
        refine s_putI dX10_write_109 flX10_270 rn0 rk0 rfl rfl (Or.inl rfl) hm8.symm ?_
        refine s_aload_n dX10_write_112 rfl rfl ?_
        refine s_aload_n dX10_write_113 rfl rfl ?_
        refine s_getR dX10_write_114 flX10_9 rn0 rk0 rfl rr0_0 ?_
        refine s_sipush dX10_write_117 (by decide) ?_
        refine s_iconst dX10_write_120 (by decide) ?_
        refine s_iload_n dX10_write_121 rfl rfl ?_
        obtain ⟨c, h⟩ := h
        refine s_imul dX10_write_122 (am_w_id c) ?_
        obtain ⟨c, h⟩ := h
        refine s_iadd dX10_write_123 (am_w_id c) ?_
        refine s_iconst dX10_write_124 (by decide) ?_
        obtain ⟨c, h⟩ := h
        refine s_iadd dX10_write_125 (am_w_id c) ?_
        obtain ⟨c, c2, h⟩ := h
        refine s_iald (x := (m6 1 (((439 + (2 * x1)) + 1).toNat))) dX10_write_126 rn1 rk1 rl1 c c2 (by subst hm8; subst hm7; rfl) ?_
        refine s_bipush dX10_write_127 (by decide) ?_
        obtain ⟨P, hcl, h⟩ := h
        refine s_callV (As := [vI (m6 1 (((439 + (2 * x1)) + 1).toNat)), vI 10]) (rest := []) (k := 0) dX10_write_129 lkX10_273 rn0 ⟨by rw [rk0]; rfl, by rw [rk0]; decide⟩ lmX10_puts rfl rfl (Nat.le_of_ble_eq_true rfl) (by decide) (Nat.le_refl 0) (Nat.le_refl 0) (hC := hcl) (fun r n2 S2 m10 hP => ?_)
        obtain ⟨⟨rfl, rfl⟩, rfl, hq⟩ := hP
        have h := h m10 hq
        obtain ⟨c, h⟩ := h
        refine s_iinc dX10_write_132 rfl (am_w_id c) (by decide) (L' := [vR 0, vI (x1 + 1)]) rfl ?_
        refine s_goto dX10_write_135 (tgt := 7) (by decide) ?_
        exact h
      refine s_if_le dX10_write_40 (tgt := 47) (by decide) (fun cc => ?_) (fun cc => ?_)
      · have hp0 := cc
        refine s_iconst dX10_write_47 (by decide) ?_
        exact kj11 0 (h 0 (by rw [if_neg (Int.not_lt.mpr hp0)]))
      · have hp0 := cc
        refine s_iconst dX10_write_43 (by decide) ?_
        refine s_goto dX10_write_44 (tgt := 48) (by decide) ?_
        exact kj11 1 (h 1 (by rw [if_pos hp0]))
    · have h := h.2 cc
      refine s_aload_n dX10_write_23 rfl rfl ?_
      refine s_getR dX10_write_24 flX10_75 rn0 rk0 rfl rr0_31 ?_
      refine s_aload_n dX10_write_27 rfl rfl ?_
      refine s_getI (x := (μ 0 32)) dX10_write_28 flX10_270 rn0 rk0 rfl rfl ?_
      refine s_bipush dX10_write_31 (by decide) ?_
      obtain ⟨c, c2, h⟩ := h
      obtain ⟨m12, hm12⟩ : ∃ x : am_M, x = am_st μ 21 (am_up (μ 21) (μ 0 32).toNat 59) := ⟨_, rfl⟩
      have h := h m12 hm12
      refine s_iast dX10_write_33 rn21 rk21 rl21 c c2 hm12.symm ?_
      refine s_aload_n dX10_write_34 rfl rfl ?_
      refine s_dup dX10_write_35 ?_
      refine s_getI (x := (μ 0 32)) dX10_write_36 flX10_270 rn0 rk0 rfl (by subst hm12; rfl) ?_
      refine s_iload_n dX10_write_39 rfl rfl ?_
      have kj23 : ∀ (v13 : Int), ((am_in (μ 0 32 + v13)) ∧ (∀ m14 : am_M, m14 = am_st m12 0 (am_up (m12 0) 32 (μ 0 32 + v13)) → (0 ≤ μ 0 32 + v13) ∧ (μ 0 32 + v13 < 100) ∧ (∀ m15 : am_M, m15 = am_st m14 21 (am_up (m14 21) (μ 0 32 + v13).toNat 99) → (am_in ((μ 0 32 + v13) + 1)) ∧ (∀ m16 : am_M, m16 = am_st m15 0 (am_up (m15 0) 32 ((μ 0 32 + v13) + 1)) → (am_in (2 * x1)) ∧ ((am_in (439 + (2 * x1))) ∧ ((0 ≤ 439 + (2 * x1)) ∧ (439 + (2 * x1) < 470) ∧ (∃ P : am_M → Prop, cl_V kR 1 mX10_puts [vR 0, vI (μ 1 ((439 + (2 * x1)).toNat)), vI 100] m16 P ∧ (∀ m18 : am_M, P m18 → (0 ≤ m18 0 32) ∧ (m18 0 32 < 100) ∧ (∀ m19 : am_M, m19 = am_st m18 21 (am_up (m18 21) (m18 0 32).toNat 61) → (am_in (m18 0 32 + 1)) ∧ (∀ m20 : am_M, m20 = am_st m19 0 (am_up (m19 0) 32 (m18 0 32 + 1)) → (am_in (2 * x1)) ∧ ((am_in (439 + (2 * x1))) ∧ ((am_in ((439 + (2 * x1)) + 1)) ∧ ((0 ≤ (439 + (2 * x1)) + 1) ∧ ((439 + (2 * x1)) + 1 < 470) ∧ (∃ P : am_M → Prop, cl_V kR 1 mX10_puts [vR 0, vI (m18 1 (((439 + (2 * x1)) + 1).toNat)), vI 10] m20 P ∧ (∀ m22 : am_M, P m22 → (am_in (x1 + 1)) ∧ (at_I kR 2 mX10_write 7 [vR 0, vI (x1 + 1)] [] m22 Q)))))))))))))))) → at_I kR 2 mX10_write 48 [vR 0, vI x1] [vI v13, vI (μ 0 32), vR 0] m12 Q := by
        intro v13 h
        obtain ⟨c, h⟩ := h
        refine s_iadd dX10_write_48 (am_w_id c) ?_
        obtain ⟨m14, hm14⟩ : ∃ x : am_M, x = am_st m12 0 (am_up (m12 0) 32 (μ 0 32 + v13)) := ⟨_, rfl⟩
        have h := h m14 hm14
        refine s_putI dX10_write_49 flX10_270 rn0 rk0 rfl rfl (Or.inl rfl) hm14.symm ?_
        refine s_aload_n dX10_write_52 rfl rfl ?_
        refine s_getR dX10_write_53 flX10_75 rn0 rk0 rfl rr0_31 ?_
        refine s_aload_n dX10_write_56 rfl rfl ?_
        refine s_getI (x := (μ 0 32 + v13)) dX10_write_57 flX10_270 rn0 rk0 rfl (by subst hm14; rfl) ?_
        refine s_bipush dX10_write_60 (by decide) ?_
        obtain ⟨c, c2, h⟩ := h
        obtain ⟨m15, hm15⟩ : ∃ x : am_M, x = am_st m14 21 (am_up (m14 21) (μ 0 32 + v13).toNat 99) := ⟨_, rfl⟩
        have h := h m15 hm15
        refine s_iast dX10_write_62 rn21 rk21 rl21 c c2 hm15.symm ?_
        refine s_aload_n dX10_write_63 rfl rfl ?_
        refine s_dup dX10_write_64 ?_
        refine s_getI (x := (μ 0 32 + v13)) dX10_write_65 flX10_270 rn0 rk0 rfl (by subst hm15; subst hm14; rfl) ?_
        refine s_iconst dX10_write_68 (by decide) ?_
        obtain ⟨c, h⟩ := h
        refine s_iadd dX10_write_69 (am_w_id c) ?_
        obtain ⟨m16, hm16⟩ : ∃ x : am_M, x = am_st m15 0 (am_up (m15 0) 32 ((μ 0 32 + v13) + 1)) := ⟨_, rfl⟩
        have h := h m16 hm16
        refine s_putI dX10_write_70 flX10_270 rn0 rk0 rfl rfl (Or.inl rfl) hm16.symm ?_
        refine s_aload_n dX10_write_73 rfl rfl ?_
        refine s_aload_n dX10_write_74 rfl rfl ?_
        refine s_getR dX10_write_75 flX10_9 rn0 rk0 rfl rr0_0 ?_
        refine s_sipush dX10_write_78 (by decide) ?_
        refine s_iconst dX10_write_81 (by decide) ?_
        refine s_iload_n dX10_write_82 rfl rfl ?_
        obtain ⟨c, h⟩ := h
        refine s_imul dX10_write_83 (am_w_id c) ?_
        obtain ⟨c, h⟩ := h
        refine s_iadd dX10_write_84 (am_w_id c) ?_
        obtain ⟨c, c2, h⟩ := h
        refine s_iald (x := (μ 1 ((439 + (2 * x1)).toNat))) dX10_write_85 rn1 rk1 rl1 c c2 (by subst hm16; subst hm15; subst hm14; subst hm12; rfl) ?_
        refine s_bipush dX10_write_86 (by decide) ?_
        obtain ⟨P, hcl, h⟩ := h
        refine s_callV (As := [vI (μ 1 ((439 + (2 * x1)).toNat)), vI 100]) (rest := []) (k := 0) dX10_write_88 lkX10_273 rn0 ⟨by rw [rk0]; rfl, by rw [rk0]; decide⟩ lmX10_puts rfl rfl (Nat.le_of_ble_eq_true rfl) (by decide) (Nat.le_refl 0) (Nat.le_refl 0) (hC := hcl) (fun r n2 S2 m18 hP => ?_)
        obtain ⟨⟨rfl, rfl⟩, rfl, hq⟩ := hP
        have h := h m18 hq
        refine s_aload_n dX10_write_91 rfl rfl ?_
        refine s_getR dX10_write_92 flX10_75 rn0 rk0 rfl rr0_31 ?_
        refine s_aload_n dX10_write_95 rfl rfl ?_
        refine s_getI (x := (m18 0 32)) dX10_write_96 flX10_270 rn0 rk0 rfl rfl ?_
        refine s_bipush dX10_write_99 (by decide) ?_
        obtain ⟨c, c2, h⟩ := h
        obtain ⟨m19, hm19⟩ : ∃ x : am_M, x = am_st m18 21 (am_up (m18 21) (m18 0 32).toNat 61) := ⟨_, rfl⟩
        have h := h m19 hm19
        refine s_iast dX10_write_101 rn21 rk21 rl21 c c2 hm19.symm ?_
        refine s_aload_n dX10_write_102 rfl rfl ?_
        refine s_dup dX10_write_103 ?_
        refine s_getI (x := (m18 0 32)) dX10_write_104 flX10_270 rn0 rk0 rfl (by subst hm19; rfl) ?_
        refine s_iconst dX10_write_107 (by decide) ?_
        obtain ⟨c, h⟩ := h
        refine s_iadd dX10_write_108 (am_w_id c) ?_
        obtain ⟨m20, hm20⟩ : ∃ x : am_M, x = am_st m19 0 (am_up (m19 0) 32 (m18 0 32 + 1)) := ⟨_, rfl⟩
        have h := h m20 hm20
        refine s_putI dX10_write_109 flX10_270 rn0 rk0 rfl rfl (Or.inl rfl) hm20.symm ?_
        refine s_aload_n dX10_write_112 rfl rfl ?_
        refine s_aload_n dX10_write_113 rfl rfl ?_
        refine s_getR dX10_write_114 flX10_9 rn0 rk0 rfl rr0_0 ?_
        refine s_sipush dX10_write_117 (by decide) ?_
        refine s_iconst dX10_write_120 (by decide) ?_
        refine s_iload_n dX10_write_121 rfl rfl ?_
        obtain ⟨c, h⟩ := h
        refine s_imul dX10_write_122 (am_w_id c) ?_
        obtain ⟨c, h⟩ := h
        refine s_iadd dX10_write_123 (am_w_id c) ?_
        refine s_iconst dX10_write_124 (by decide) ?_
        obtain ⟨c, h⟩ := h
        refine s_iadd dX10_write_125 (am_w_id c) ?_
        obtain ⟨c, c2, h⟩ := h
        refine s_iald (x := (m18 1 (((439 + (2 * x1)) + 1).toNat))) dX10_write_126 rn1 rk1 rl1 c c2 (by subst hm20; subst hm19; rfl) ?_
        refine s_bipush dX10_write_127 (by decide) ?_
        obtain ⟨P, hcl, h⟩ := h
        refine s_callV (As := [vI (m18 1 (((439 + (2 * x1)) + 1).toNat)), vI 10]) (rest := []) (k := 0) dX10_write_129 lkX10_273 rn0 ⟨by rw [rk0]; rfl, by rw [rk0]; decide⟩ lmX10_puts rfl rfl (Nat.le_of_ble_eq_true rfl) (by decide) (Nat.le_refl 0) (Nat.le_refl 0) (hC := hcl) (fun r n2 S2 m22 hP => ?_)
        obtain ⟨⟨rfl, rfl⟩, rfl, hq⟩ := hP
        have h := h m22 hq
        obtain ⟨c, h⟩ := h
        refine s_iinc dX10_write_132 rfl (am_w_id c) (by decide) (L' := [vR 0, vI (x1 + 1)]) rfl ?_
        refine s_goto dX10_write_135 (tgt := 7) (by decide) ?_
        exact h
      refine s_if_le dX10_write_40 (tgt := 47) (by decide) (fun cc => ?_) (fun cc => ?_)
      · have hp0 := cc
        refine s_iconst dX10_write_47 (by decide) ?_
        exact kj23 0 (h 0 (by rw [if_neg (Int.not_lt.mpr hp0)]))
      · have hp0 := cc
        refine s_iconst dX10_write_43 (by decide) ?_
        refine s_goto dX10_write_44 (tgt := 48) (by decide) ?_
        exact kj23 1 (h 1 (by rw [if_pos hp0]))
theorem ve_X10_write {μ : am_M} {Q : Int → am_M → Prop} (h : at_I kR 2 mX10_write 0 [vR 0, vU] [] μ Q) : cl_I kR 2 mX10_write [vR 0] μ Q := am_intro pmX10_write (Nat.le_of_ble_eq_true rfl) rfl h
theorem sp_X10_write {μ : am_M} (hV : vR_ μ) : cl_I kR 2 mX10_write [vR 0] μ (fun z m => z = (wrt_ (pH (pR μ))).length ∧ fwR μ m ∧ wrR m (wrt_ (pH (pR μ)))) := by
  have hz := hzL hV
  have hl : (pH (pR μ)).length ≤ 12 := hV.1.hl
  have ho : ∀ p ∈ pH (pR μ), in_ 0 600 p.1 ∧ in_ 0 100 p.2 := hV.1.hh
  generalize pH (pR μ) = H at *
  refine ve_X10_write (vc_X10_write_0 (fun m1 e1 => ?_))
  have : ∀ (B A : Hl) (x : Int) (m : am_M), H = A ++ B → x = A.length → fwR μ m → wrR m (wrt_ A) → at_I kR 2 mX10_write 7 [vR 0, vI x] [] m (fun z m => z = (wrt_ H).length ∧ fwR μ m ∧ wrR m (wrt_ H)) := by
    intro B
    induction B with
    | nil =>
      intro A x m hA hx hf hw
      rw [List.append_nil] at hA
      subst hA
      have n1 := hz.1
      refine vc_X10_write_7 ⟨fun _ => ⟨hw.1, hf, hw⟩, fun q => ?_⟩
      rw [hf.1 1 (by decide)] at q
      omega
    | cons p B ih =>
      intro A x m hA hx hf hw
      have hll : H.length = A.length + 1 + B.length := by rw [hA]; simp; omega
      have hz2 := hz
      rw [hA] at hz2
      have v := hz_at hz2 hx
      have nn := hz.1
      have po := ho p (by rw [hA]; simp)
      unfold in_ at po
      have e438 : m 1 = μ 1 := hf.1 1 (by decide)
      have hwl := wrt_l (A := A) (fun q hq => ho q (by rw [hA]; simp [hq]))
      have d1 := dig_l (n := p.1) (by omega)
      have d1' : (dig_ p.1).length ≤ 3 := by split at d1 <;> (try split at d1) <;> omega
      have go : ∀ (m0 : am_M) (W : List Int) (y : Int), fwR μ m0 → wrR m0 W → W.length ≤ 89 → y = m0 0 32 → wrt_ (A ++ [p]) = W ++ wch_ p → (0 ≤ y) ∧ (y < 100) ∧ (∀ m3 : am_M, m3 = am_st m0 21 (am_up (m0 21) y.toNat 99) → (am_in (y + 1)) ∧ (∀ m4 : am_M, m4 = am_st m3 0 (am_up (m3 0) 32 (y + 1)) → (am_in (2 * x)) ∧ ((am_in (439 + (2 * x))) ∧ ((0 ≤ 439 + (2 * x)) ∧ (439 + (2 * x) < 470) ∧ (∃ P : am_M → Prop, cl_V kR 1 mX10_puts [vR 0, vI p.1, vI 100] m4 P ∧ (∀ m6 : am_M, P m6 → (0 ≤ m6 0 32) ∧ (m6 0 32 < 100) ∧ (∀ m7 : am_M, m7 = am_st m6 21 (am_up (m6 21) (m6 0 32).toNat 61) → (am_in (m6 0 32 + 1)) ∧ (∀ m8 : am_M, m8 = am_st m7 0 (am_up (m7 0) 32 (m6 0 32 + 1)) → (am_in (2 * x)) ∧ ((am_in (439 + (2 * x))) ∧ ((am_in ((439 + (2 * x)) + 1)) ∧ ((0 ≤ (439 + (2 * x)) + 1) ∧ ((439 + (2 * x)) + 1 < 470) ∧ (∃ P : am_M → Prop, cl_V kR 1 mX10_puts [vR 0, vI (m6 1 (((439 + (2 * x)) + 1).toNat)), vI 10] m8 P ∧ (∀ m10 : am_M, P m10 → (am_in (x + 1)) ∧ (at_I kR 2 mX10_write 7 [vR 0, vI (x + 1)] [] m10 (fun z m => z = (wrt_ H).length ∧ fwR μ m ∧ wrR m (wrt_ H)))))))))))))))) := by
        intro m0 W y f0 w0 hW hy e0
        have b0 := w0.1
        subst hy
        refine ⟨by omega, by omega, fun m3 e3 => ⟨(by (try unfold am_in); (try unfold in_ at *); omega), fun m4 e4 => ⟨(by (try unfold am_in); (try unfold in_ at *); omega), (by (try unfold am_in); (try unfold in_ at *); omega), by omega, by omega, ?_⟩⟩⟩
        obtain ⟨f4, w4⟩ := wr_add w0 f0 e3 e4
        refine ⟨_, sp_X10_puts (ν := μ) _ f4 w4 (by omega) (Or.inl ⟨rfl, by omega⟩) (by simp; omega), fun m6 ⟨f6, w6⟩ => ?_⟩
        have b6 := w6.1
        simp only [List.length_append, List.length_singleton] at b6
        refine ⟨by omega, by omega, fun m7 e7 => ⟨by ((try unfold am_in); (try unfold in_ at *); omega), fun m8 e8 => ⟨(by (try unfold am_in); (try unfold in_ at *); omega), (by (try unfold am_in); (try unfold in_ at *); omega), (by (try unfold am_in); (try unfold in_ at *); omega), by omega, by omega, ?_⟩⟩⟩
        obtain ⟨f8, w8⟩ := wr_add w6 f6 e7 e8
        rw [f6.1 1 (by decide), v.2]
        refine ⟨_, sp_X10_puts (ν := μ) _ f8 w8 (by omega) (Or.inr ⟨rfl, by omega⟩) (by simp; omega), fun m10 ⟨f10, w10⟩ => ⟨(by (try unfold am_in); (try unfold in_ at *); omega), ?_⟩⟩
        refine ih (A ++ [p]) (x + 1) m10 (by rw [hA]; simp) (by simp; omega) f10 ?_
        rw [e0]
        unfold wch_
        simpa using w10
      refine vc_X10_write_7 ⟨fun q => by rw [e438] at q; omega, fun q => ?_⟩
      rw [e438, v.1]
      have b := hw.1
      refine ⟨fun c v1 h1 => ⟨by rw [h1, if_neg (by omega)]; ((try unfold am_in); (try unfold in_ at *); omega), fun m2 e2 => ?_⟩, fun c => ⟨by omega, by omega, fun m12 e12 v13 h13 => ⟨by rw [h13, if_pos c]; ((try unfold am_in); (try unfold in_ at *); omega), fun m14 e14 => ?_⟩⟩⟩
      · have : A = [] := List.eq_nil_of_length_eq_zero (by omega)
        subst this
        rw [if_neg (by omega)] at h1
        subst h1
        have f2 : fwR m m2 := ⟨by rw [e2]; exact fr_st (by simp), fun j hj => by rw [e2, st_s, up_n hj]⟩
        have w2 : wrR m2 (wrt_ []) := ⟨by rw [e2, st_s, up_s, b]; rfl, fun i c hi => by simp [wrt_] at hi⟩
        exact go m2 (wrt_ []) (m 0 32 + 0) (fwR_tr hf f2) w2 (by simp [wrt_]) (by rw [e2, st_s, up_s]) (by rw [wrt_s]; rfl)
      · rw [if_pos c] at h13
        subst h13
        obtain ⟨f14, w14⟩ := wr_add hw hf e12 e14
        refine go m14 (wrt_ A ++ [59]) (m 0 32 + 1) f14 w14 (by simp; omega) (by rw [e14, st_s, up_s]) ?_
        rw [wrt_s]
        cases A with
        | nil => simp at hx; omega
        | cons q A => rfl
  refine this H [] 0 m1 (by simp) rfl ⟨by rw [e1]; exact fr_st (by simp), fun j hj => by rw [e1, st_s, up_n hj]⟩ ⟨by rw [e1, st_s, up_s]; rfl, fun i c hi => by simp [wrt_] at hi⟩
theorem vc_X10_written_0 {x1 : Int} {μ : am_M} {Q : Int → am_M → Prop} (h : (am_in (μ 0 32 - 1)) ∧ (((0 ≤ x1 ∧ x1 ≤ (μ 0 32 - 1) → (0 ≤ x1) ∧ (x1 < 100))) ∧ (∀ v1 : Int, v1 = (cif (0 ≤ x1 ∧ x1 ≤ (μ 0 32 - 1)) (μ 21 ((x1).toNat)) (-1)) → Q v1 μ))) : at_I kR 2 mX10_written 0 [vR 0, vI x1] [] μ Q := by
  refine s_iload_n dX10_written_0 rfl rfl ?_
  refine s_iconst dX10_written_1 (by decide) ?_
  refine s_aload_n dX10_written_2 rfl rfl ?_
  refine s_getI (x := (μ 0 32)) dX10_written_3 flX10_270 rn0 rk0 rfl rfl ?_
  refine s_iconst dX10_written_6 (by decide) ?_
  obtain ⟨c, h⟩ := h
  refine s_isub dX10_written_7 (am_w_id c) ?_
  refine s_callS (As := [vI x1, vI 0, vI (μ 0 32 - 1)]) (rest := []) dX10_written_8 lkX10_103 lmX10_isIn rfl rfl (Nat.le_of_ble_eq_true rfl) (by decide) (Nat.le_refl 0) (Nat.le_refl 0) (hC := sp_X10_isIn (Q := fun z m => bI (0 ≤ x1 ∧ x1 ≤ (μ 0 32 - 1)) = z ∧ μ = m)  ⟨rfl, rfl⟩) (fun r n2 S2 m2 hP => ?_)
  obtain ⟨⟨rfl, rfl⟩, z, rfl, rfl, rfl⟩ := hP
  obtain ⟨hsd, h⟩ := h
  have kj2 : ∀ (v1 : Int), (Q v1 μ) → at_I kR 2 mX10_written 24 [vU, vU] [vI v1] μ Q := by
    intro v1 h
    exact s_ireturn dX10_written_24 (Or.inl rfl) ⟨⟨rfl, rfl⟩, _, rfl, h⟩
  refine s_if_eq dX10_written_11 (tgt := 23) (by decide) (fun cc => ?_) (fun cc => ?_)
  · have hp0 := (bI_eq cc)
    refine s_iconst dX10_written_23 (by decide) ?_
    exact am_lesS (kj2 (-1) (h (-1) (by rw [cif_f hp0]))) ⟨Or.inl rfl, Or.inl rfl, trivial⟩
  · have hp0 := (bI_ne cc)
    have hsd := hsd hp0
    refine s_aload_n dX10_written_14 rfl rfl ?_
    refine s_getR dX10_written_15 flX10_75 rn0 rk0 rfl rr0_31 ?_
    refine s_iload_n dX10_written_18 rfl rfl ?_
    obtain ⟨c, c2⟩ := hsd
    refine s_iald (x := (μ 21 ((x1).toNat))) dX10_written_19 rn21 rk21 rl21 c c2 rfl ?_
    refine s_goto dX10_written_20 (tgt := 24) (by decide) ?_
    exact am_lesS (kj2 (μ 21 ((x1).toNat)) (h (μ 21 ((x1).toNat)) (by rw [cif_t hp0]))) ⟨Or.inl rfl, Or.inl rfl, trivial⟩
theorem ve_X10_written {x1 : Int} {μ : am_M} {Q : Int → am_M → Prop} (h : at_I kR 2 mX10_written 0 [vR 0, vI x1] [] μ Q) : cl_I kR 2 mX10_written [vR 0, vI x1] μ Q := am_intro pmX10_written (Nat.le_of_ble_eq_true rfl) rfl h
theorem sp_X10_written {μ : am_M} {i : Int} (W : List Int) (hw : wrR μ W) (hl : W.length ≤ 96) : cl_I kR 2 mX10_written [vR 0, vI i] μ (fun z m => z = (if 0 ≤ i then W.getD i.toNat (-1) else -1) ∧ m = μ) := by
  have h1 := hw.1
  refine ve_X10_written (vc_X10_written_0 ⟨(by (try unfold am_in); (try unfold in_ at *); omega), fun q => ⟨q.1, by omega⟩, fun v e => ⟨?_, rfl⟩⟩)
  rw [e]
  by_cases a : 0 ≤ i
  · rw [if_pos a, List.getD_eq_getElem?_getD]
    by_cases b : i < μ 0 32
    · have hl : i.toNat < W.length := by omega
      rw [cif_t (by omega), List.getElem?_eq_getElem hl]
      exact hw.2 _ _ (List.getElem?_eq_getElem hl)
    · rw [cif_f (by omega), List.getElem?_eq_none (by omega)]
      rfl
  · rw [if_neg a, cif_f (by omega)]

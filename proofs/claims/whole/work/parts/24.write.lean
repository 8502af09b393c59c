/-! the class's written text -/
/-- the written text is W -/
def wr_ (μ : am_M) (W : List Int) : Prop := μ 156 1 = W.length ∧ ∀ (i : Nat) (c : Int), W[i]? = some c → μ 157 i = c
theorem vc_X8_add_0 {x1 : Int} {μ : am_M} {Q : am_M → Prop} (h : (96 ≤ μ 156 1 → Q μ) ∧ (μ 156 1 < 96 → (0 ≤ μ 156 1) ∧ (μ 156 1 < 96) ∧ (∀ m1 : am_M, m1 = am_st μ 157 (am_up (μ 157) (μ 156 1).toNat x1) → (am_in (μ 156 1 + 1)) ∧ (∀ m2 : am_M, m2 = am_st m1 156 (am_up (m1 156) 1 (μ 156 1 + 1)) → Q m2)))) : at_V kC 1 mX8_add 0 [vR 156, vI x1] [] μ Q := by
  refine s_aload_n dX8_add_0 rfl rfl ?_
  refine s_getI (x := (μ 156 1)) dX8_add_1 flX8_15 kn156 kk156 rfl rfl ?_
  refine s_bipush dX8_add_4 (by decide) ?_
  refine s_icmp_ge dX8_add_6 (tgt := 29) (by decide) (fun cc => ?_) (fun cc => ?_)
  · have h := h.1 cc
    exact s_return dX8_add_29 rfl ⟨⟨rfl, rfl⟩, rfl, h⟩
  · have h := h.2 cc
    refine s_aload_n dX8_add_9 rfl rfl ?_
    refine s_getR dX8_add_10 flX8_9 kn156 kk156 rfl kr156_0 ?_
    refine s_aload_n dX8_add_13 rfl rfl ?_
    refine s_getI (x := (μ 156 1)) dX8_add_14 flX8_15 kn156 kk156 rfl rfl ?_
    refine s_iload_n dX8_add_17 rfl rfl ?_
    obtain ⟨c, c2, h⟩ := h
    obtain ⟨m1, hm1⟩ : ∃ x : am_M, x = am_st μ 157 (am_up (μ 157) (μ 156 1).toNat x1) := ⟨_, rfl⟩
    have h := h m1 hm1
    refine s_iast dX8_add_18 kn157 kk157 kl157 c c2 hm1.symm ?_
    refine s_aload_n dX8_add_19 rfl rfl ?_
    refine s_dup dX8_add_20 ?_
    refine s_getI (x := (μ 156 1)) dX8_add_21 flX8_15 kn156 kk156 rfl (by subst hm1; rfl) ?_
    refine s_iconst dX8_add_24 (by decide) ?_
    obtain ⟨c, h⟩ := h
    refine s_iadd dX8_add_25 (am_w_id c) ?_
    obtain ⟨m2, hm2⟩ : ∃ x : am_M, x = am_st m1 156 (am_up (m1 156) 1 (μ 156 1 + 1)) := ⟨_, rfl⟩
    have h := h m2 hm2
    refine s_putI dX8_add_26 flX8_15 kn156 kk156 rfl rfl (Or.inl rfl) hm2.symm ?_
    exact s_return dX8_add_29 rfl ⟨⟨rfl, rfl⟩, rfl, h⟩
theorem ve_X8_add {x1 : Int} {μ : am_M} {Q : am_M → Prop} (h : at_V kC 1 mX8_add 0 [vR 156, vI x1] [] μ Q) : cl_V kC 1 mX8_add [vR 156, vI x1] μ Q := am_intro pmX8_add (Nat.le_of_ble_eq_true rfl) rfl h
theorem sp_X8_add {μ : am_M} {c : Int} (W : List Int) (h : wr_ μ W) (hl : W.length < 96) : cl_V kC 1 mX8_add [vR 156, vI c] μ (fun m => fr_ [156, 157] μ m ∧ wr_ m (W ++ [c])) := by
  have h1 := h.1
  refine ve_X8_add (vc_X8_add_0 ⟨fun q => by omega, fun q => ⟨by omega, q, fun m1 e1 => ⟨(by (try unfold am_in); (try unfold in_ at *); omega), fun m2 e2 => ⟨?_, ?_, fun i d hi => ?_⟩⟩⟩⟩)
  · rw [e2, e1]; exact fr_tr (fr_st (by simp)) (fr_st (by simp))
  · rw [e2, st_s, up_s, h1]; simp
  · rw [e2, st_n (by decide), e1, st_s]
    by_cases q1 : i < W.length
    · rw [up_n (by omega)]
      rw [List.getElem?_append_left q1] at hi
      exact h.2 i d hi
    · have hl2 := (List.getElem?_eq_some_iff.mp hi).1
      simp at hl2
      have : i = W.length := by omega
      subst this
      simp at hi
      rw [show (μ 156 1).toNat = W.length by omega, up_s]
      exact hi
def dig_ (n : Int) : List Int := (if 100 ≤ n then [48 + n / 100 % 10] else []) ++ (if 10 ≤ n then [48 + n / 10 % 10] else []) ++ [48 + n % 10]
theorem vc_X8_addNumber_0 {x1 : Int} {μ : am_M} {Q : am_M → Prop} (h : (x1 < 100 → (x1 < 10 → (0 ≤ x1) ∧ ((am_in (48 + (x1 % 10))) ∧ (∃ P : am_M → Prop, cl_V kC 1 mX8_add [vR 156, vI (48 + (x1 % 10))] μ P ∧ (∀ m2 : am_M, P m2 → Q m2)))) ∧ (10 ≤ x1 → (0 ≤ x1) ∧ ((0 ≤ x1 / 10) ∧ ((am_in (48 + ((x1 / 10) % 10))) ∧ (∃ P : am_M → Prop, cl_V kC 1 mX8_add [vR 156, vI (48 + ((x1 / 10) % 10))] μ P ∧ (∀ m4 : am_M, P m4 → (0 ≤ x1) ∧ ((am_in (48 + (x1 % 10))) ∧ (∃ P : am_M → Prop, cl_V kC 1 mX8_add [vR 156, vI (48 + (x1 % 10))] m4 P ∧ (∀ m6 : am_M, P m6 → Q m6))))))))) ∧ (100 ≤ x1 → (0 ≤ x1) ∧ ((0 ≤ x1 / 100) ∧ ((am_in (48 + ((x1 / 100) % 10))) ∧ (∃ P : am_M → Prop, cl_V kC 1 mX8_add [vR 156, vI (48 + ((x1 / 100) % 10))] μ P ∧ (∀ m8 : am_M, P m8 → (x1 < 10 → (0 ≤ x1) ∧ ((am_in (48 + (x1 % 10))) ∧ (∃ P : am_M → Prop, cl_V kC 1 mX8_add [vR 156, vI (48 + (x1 % 10))] m8 P ∧ (∀ m10 : am_M, P m10 → Q m10)))) ∧ (10 ≤ x1 → (0 ≤ x1) ∧ ((0 ≤ x1 / 10) ∧ ((am_in (48 + ((x1 / 10) % 10))) ∧ (∃ P : am_M → Prop, cl_V kC 1 mX8_add [vR 156, vI (48 + ((x1 / 10) % 10))] m8 P ∧ (∀ m12 : am_M, P m12 → (0 ≤ x1) ∧ ((am_in (48 + (x1 % 10))) ∧ (∃ P : am_M → Prop, cl_V kC 1 mX8_add [vR 156, vI (48 + (x1 % 10))] m12 P ∧ (∀ m14 : am_M, P m14 → Q m14)))))))))))))) : at_V kC 2 mX8_addNumber 0 [vR 156, vI x1] [] μ Q := by
  refine s_iload_n dX8_addNumber_0 rfl rfl ?_
  refine s_bipush dX8_addNumber_1 (by decide) ?_
  refine s_icmp_lt dX8_addNumber_3 (tgt := 20) (by decide) (fun cc => ?_) (fun cc => ?_)
  · have h := h.1 cc
    refine s_iload_n dX8_addNumber_20 rfl rfl ?_
    refine s_bipush dX8_addNumber_21 (by decide) ?_
    refine s_icmp_lt dX8_addNumber_23 (tgt := 40) (by decide) (fun cc => ?_) (fun cc => ?_)
    · have h := h.1 cc
      refine s_aload_n dX8_addNumber_40 rfl rfl ?_
      refine s_bipush dX8_addNumber_41 (by decide) ?_
      refine s_iload_n dX8_addNumber_43 rfl rfl ?_
      refine s_bipush dX8_addNumber_44 (by decide) ?_
      obtain ⟨c, h⟩ := h
      refine s_iremp dX8_addNumber_46 c (by decide) rfl ?_
      obtain ⟨c, h⟩ := h
      refine s_iadd dX8_addNumber_47 (am_w_id c) ?_
      obtain ⟨P, hcl, h⟩ := h
      refine s_callV (As := [vI (48 + (x1 % 10))]) (rest := []) (k := 156) dX8_addNumber_48 lkX8_19 kn156 ⟨by rw [kk156]; rfl, by rw [kk156]; decide⟩ lmX8_add rfl rfl (Nat.le_of_ble_eq_true rfl) (by decide) (Nat.le_refl 0) (Nat.le_refl 0) (hC := hcl) (fun r n2 S2 m2 hP => ?_)
      obtain ⟨⟨rfl, rfl⟩, rfl, hq⟩ := hP
      have h := h m2 hq
      exact s_return dX8_addNumber_51 rfl ⟨⟨rfl, rfl⟩, rfl, h⟩
    · have h := h.2 cc
      refine s_aload_n dX8_addNumber_26 rfl rfl ?_
      refine s_bipush dX8_addNumber_27 (by decide) ?_
      refine s_iload_n dX8_addNumber_29 rfl rfl ?_
      refine s_bipush dX8_addNumber_30 (by decide) ?_
      obtain ⟨c, h⟩ := h
      refine s_idivp dX8_addNumber_32 c (by decide) rfl ?_
      refine s_bipush dX8_addNumber_33 (by decide) ?_
      obtain ⟨c, h⟩ := h
      refine s_iremp dX8_addNumber_35 c (by decide) rfl ?_
      obtain ⟨c, h⟩ := h
      refine s_iadd dX8_addNumber_36 (am_w_id c) ?_
      obtain ⟨P, hcl, h⟩ := h
      refine s_callV (As := [vI (48 + ((x1 / 10) % 10))]) (rest := []) (k := 156) dX8_addNumber_37 lkX8_19 kn156 ⟨by rw [kk156]; rfl, by rw [kk156]; decide⟩ lmX8_add rfl rfl (Nat.le_of_ble_eq_true rfl) (by decide) (Nat.le_refl 0) (Nat.le_refl 0) (hC := hcl) (fun r n2 S2 m4 hP => ?_)
      obtain ⟨⟨rfl, rfl⟩, rfl, hq⟩ := hP
      have h := h m4 hq
      refine s_aload_n dX8_addNumber_40 rfl rfl ?_
      refine s_bipush dX8_addNumber_41 (by decide) ?_
      refine s_iload_n dX8_addNumber_43 rfl rfl ?_
      refine s_bipush dX8_addNumber_44 (by decide) ?_
      obtain ⟨c, h⟩ := h
      refine s_iremp dX8_addNumber_46 c (by decide) rfl ?_
      obtain ⟨c, h⟩ := h
      refine s_iadd dX8_addNumber_47 (am_w_id c) ?_
      obtain ⟨P, hcl, h⟩ := h
      refine s_callV (As := [vI (48 + (x1 % 10))]) (rest := []) (k := 156) dX8_addNumber_48 lkX8_19 kn156 ⟨by rw [kk156]; rfl, by rw [kk156]; decide⟩ lmX8_add rfl rfl (Nat.le_of_ble_eq_true rfl) (by decide) (Nat.le_refl 0) (Nat.le_refl 0) (hC := hcl) (fun r n2 S2 m6 hP => ?_)
      obtain ⟨⟨rfl, rfl⟩, rfl, hq⟩ := hP
      have h := h m6 hq
      exact s_return dX8_addNumber_51 rfl ⟨⟨rfl, rfl⟩, rfl, h⟩
  · have h := h.2 cc
    refine s_aload_n dX8_addNumber_6 rfl rfl ?_
    refine s_bipush dX8_addNumber_7 (by decide) ?_
    refine s_iload_n dX8_addNumber_9 rfl rfl ?_
    refine s_bipush dX8_addNumber_10 (by decide) ?_
    obtain ⟨c, h⟩ := h
    refine s_idivp dX8_addNumber_12 c (by decide) rfl ?_
    refine s_bipush dX8_addNumber_13 (by decide) ?_
    obtain ⟨c, h⟩ := h
    refine s_iremp dX8_addNumber_15 c (by decide) rfl ?_
    obtain ⟨c, h⟩ := h
    refine s_iadd dX8_addNumber_16 (am_w_id c) ?_
    obtain ⟨P, hcl, h⟩ := h
    refine s_callV (As := [vI (48 + ((x1 / 100) % 10))]) (rest := []) (k := 156) dX8_addNumber_17 lkX8_19 kn156 ⟨by rw [kk156]; rfl, by rw [kk156]; decide⟩ lmX8_add rfl rfl (Nat.le_of_ble_eq_true rfl) (by decide) (Nat.le_refl 0) (Nat.le_refl 0) (hC := hcl) (fun r n2 S2 m8 hP => ?_)
    obtain ⟨⟨rfl, rfl⟩, rfl, hq⟩ := hP
    have h := h m8 hq
    refine s_iload_n dX8_addNumber_20 rfl rfl ?_
    refine s_bipush dX8_addNumber_21 (by decide) ?_
    refine s_icmp_lt dX8_addNumber_23 (tgt := 40) (by decide) (fun cc => ?_) (fun cc => ?_)
    · have h := h.1 cc
      refine s_aload_n dX8_addNumber_40 rfl rfl ?_
      refine s_bipush dX8_addNumber_41 (by decide) ?_
      refine s_iload_n dX8_addNumber_43 rfl rfl ?_
      refine s_bipush dX8_addNumber_44 (by decide) ?_
      obtain ⟨c, h⟩ := h
      refine s_iremp dX8_addNumber_46 c (by decide) rfl ?_
      obtain ⟨c, h⟩ := h
      refine s_iadd dX8_addNumber_47 (am_w_id c) ?_
      obtain ⟨P, hcl, h⟩ := h
      refine s_callV (As := [vI (48 + (x1 % 10))]) (rest := []) (k := 156) dX8_addNumber_48 lkX8_19 kn156 ⟨by rw [kk156]; rfl, by rw [kk156]; decide⟩ lmX8_add rfl rfl (Nat.le_of_ble_eq_true rfl) (by decide) (Nat.le_refl 0) (Nat.le_refl 0) (hC := hcl) (fun r n2 S2 m10 hP => ?_)
      obtain ⟨⟨rfl, rfl⟩, rfl, hq⟩ := hP
      have h := h m10 hq
      exact s_return dX8_addNumber_51 rfl ⟨⟨rfl, rfl⟩, rfl, h⟩
    · have h := h.2 cc
      refine s_aload_n dX8_addNumber_26 rfl rfl ?_
      refine s_bipush dX8_addNumber_27 (by decide) ?_
      refine s_iload_n dX8_addNumber_29 rfl rfl ?_
      refine s_bipush dX8_addNumber_30 (by decide) ?_
      obtain ⟨c, h⟩ := h
      refine s_idivp dX8_addNumber_32 c (by decide) rfl ?_
      refine s_bipush dX8_addNumber_33 (by decide) ?_
      obtain ⟨c, h⟩ := h
      refine s_iremp dX8_addNumber_35 c (by decide) rfl ?_
      obtain ⟨c, h⟩ := h
      refine s_iadd dX8_addNumber_36 (am_w_id c) ?_
      obtain ⟨P, hcl, h⟩ := h
      refine s_callV (As := [vI (48 + ((x1 / 10) % 10))]) (rest := []) (k := 156) dX8_addNumber_37 lkX8_19 kn156 ⟨by rw [kk156]; rfl, by rw [kk156]; decide⟩ lmX8_add rfl rfl (Nat.le_of_ble_eq_true rfl) (by decide) (Nat.le_refl 0) (Nat.le_refl 0) (hC := hcl) (fun r n2 S2 m12 hP => ?_)
      obtain ⟨⟨rfl, rfl⟩, rfl, hq⟩ := hP
      have h := h m12 hq
      refine s_aload_n dX8_addNumber_40 rfl rfl ?_
      refine s_bipush dX8_addNumber_41 (by decide) ?_
      refine s_iload_n dX8_addNumber_43 rfl rfl ?_
      refine s_bipush dX8_addNumber_44 (by decide) ?_
      obtain ⟨c, h⟩ := h
      refine s_iremp dX8_addNumber_46 c (by decide) rfl ?_
      obtain ⟨c, h⟩ := h
      refine s_iadd dX8_addNumber_47 (am_w_id c) ?_
      obtain ⟨P, hcl, h⟩ := h
      refine s_callV (As := [vI (48 + (x1 % 10))]) (rest := []) (k := 156) dX8_addNumber_48 lkX8_19 kn156 ⟨by rw [kk156]; rfl, by rw [kk156]; decide⟩ lmX8_add rfl rfl (Nat.le_of_ble_eq_true rfl) (by decide) (Nat.le_refl 0) (Nat.le_refl 0) (hC := hcl) (fun r n2 S2 m14 hP => ?_)
      obtain ⟨⟨rfl, rfl⟩, rfl, hq⟩ := hP
      have h := h m14 hq
      exact s_return dX8_addNumber_51 rfl ⟨⟨rfl, rfl⟩, rfl, h⟩
theorem ve_X8_addNumber {x1 : Int} {μ : am_M} {Q : am_M → Prop} (h : at_V kC 2 mX8_addNumber 0 [vR 156, vI x1] [] μ Q) : cl_V kC 2 mX8_addNumber [vR 156, vI x1] μ Q := am_intro pmX8_addNumber (Nat.le_of_ble_eq_true rfl) rfl h

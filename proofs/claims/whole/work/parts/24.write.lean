/-! the class's written text -/
/-- the written text is W -/
def wr_ (μ : am_M) (W : List Int) : Prop := μ 156 1 = W.length ∧ ∀ (i : Nat) (c : Int), W[i]? = some c → μ 157 i = c
theorem vc_X8_add_0 {x1 : Int} {μ : am_M} {Q : am_M → Prop} (h : (96 ≤ μ 156 1 → Q μ) ∧ (μ 156 1 < 96 → (0 ≤ μ 156 1) ∧ (μ 156 1 < 96) ∧ (∀ m1 : am_M, m1 = am_st μ 157 (am_up (μ 157) (μ 156 1).toNat x1) → (am_in (μ 156 1 + 1)) ∧ (∀ m2 : am_M, m2 = am_st m1 156 (am_up (m1 156) 1 (μ 156 1 + 1)) → Q m2)))) : at_V kC 1 mX8_add 0 [vR 156, vI x1] [] μ Q := by
  refine s_aload_n dX8_add_0 rfl rfl ?_
  refine s_getI (x := (μ 156 1)) dX8_add_1 flX8_15 kn156 kk156 rfl rfl ?_
  refine s_bipush dX8_add_4 (by decide) ?_
  refine s_icmp_ge dX8_add_6 (tgt := 29) (by decide) (fun cc => ?_) (fun cc => ?_)
  · have h := h.1 cc
    exact s_return dX8_add_29 rfl ⟨⟨rfl, rfl⟩, rfl, h⟩
  · have h := h.2 cc
    refine s_aload_n dX8_add_9 rfl rfl ?_
    refine s_getR dX8_add_10 flX8_9 kn156 kk156 rfl kr156_0 ?_
    refine s_aload_n dX8_add_13 rfl rfl ?_
    refine s_getI (x := (μ 156 1)) dX8_add_14 flX8_15 kn156 kk156 rfl rfl ?_
    refine s_iload_n dX8_add_17 rfl rfl ?_
    obtain ⟨c, c2, h⟩ := h
    obtain ⟨m1, hm1⟩ : ∃ x : am_M, x = am_st μ 157 (am_up (μ 157) (μ 156 1).toNat x1) := ⟨_, rfl⟩
    have h := h m1 hm1
    refine s_iast dX8_add_18 kn157 kk157 kl157 c c2 hm1.symm ?_
    refine s_aload_n dX8_add_19 rfl rfl ?_
    refine s_dup dX8_add_20 ?_
    refine s_getI (x := (μ 156 1)) dX8_add_21 flX8_15 kn156 kk156 rfl (by subst hm1; rfl) ?_
    refine s_iconst dX8_add_24 (by decide) ?_
    obtain ⟨c, h⟩ := h
    refine s_iadd dX8_add_25 (am_w_id c) ?_
    obtain ⟨m2, hm2⟩ : ∃ x : am_M, x = am_st m1 156 (am_up (m1 156) 1 (μ 156 1 + 1)) := ⟨_, rfl⟩
    have h := h m2 hm2
    refine s_putI dX8_add_26 flX8_15 kn156 kk156 rfl rfl (Or.inl rfl) hm2.symm ?_
    exact s_return dX8_add_29 rfl ⟨⟨rfl, rfl⟩, rfl, h⟩
theorem ve_X8_add {x1 : Int} {μ : am_M} {Q : am_M → Prop} (h : at_V kC 1 mX8_add 0 [vR 156, vI x1] [] μ Q) : cl_V kC 1 mX8_add [vR 156, vI x1] μ Q := am_intro pmX8_add (Nat.le_of_ble_eq_true rfl) rfl h
theorem sp_X8_add {μ : am_M} {c : Int} (W : List Int) (h : wr_ μ W) (hl : W.length < 96) : cl_V kC 1 mX8_add [vR 156, vI c] μ (fun m => fr_ [156, 157] μ m ∧ wr_ m (W ++ [c])) := by
  have h1 := h.1
  refine ve_X8_add (vc_X8_add_0 ⟨fun q => by omega, fun q => ⟨by omega, q, fun m1 e1 => ⟨(by (try unfold am_in); (try unfold in_ at *); omega), fun m2 e2 => ⟨?_, ?_, fun i d hi => ?_⟩⟩⟩⟩)
  · rw [e2, e1]; exact fr_tr (fr_st (by simp)) (fr_st (by simp))
  · rw [e2, st_s, up_s, h1]; simp
  · rw [e2, st_n (by decide), e1, st_s]
    by_cases q1 : i < W.length
    · rw [up_n (by omega)]
      rw [List.getElem?_append_left q1] at hi
      exact h.2 i d hi
    · have hl2 := (List.getElem?_eq_some_iff.mp hi).1
      simp at hl2
      have : i = W.length := by omega
      subst this
      simp at hi
      rw [show (μ 156 1).toNat = W.length by omega, up_s]
      exact hi
def dig_ (n : Int) : List Int := (if 100 ≤ n then [48 + n / 100 % 10] else []) ++ (if 10 ≤ n then [48 + n / 10 % 10] else []) ++ [48 + n % 10]
theorem vc_X8_addNumber_0 {x1 : Int} {μ : am_M} {Q : am_M → Prop} (h : (x1 < 100 → (x1 < 10 → (0 ≤ x1) ∧ ((am_in (48 + (x1 % 10))) ∧ (∃ P : am_M → Prop, cl_V kC 1 mX8_add [vR 156, vI (48 + (x1 % 10))] μ P ∧ (∀ m2 : am_M, P m2 → Q m2)))) ∧ (10 ≤ x1 → (0 ≤ x1) ∧ ((0 ≤ x1 / 10) ∧ ((am_in (48 + ((x1 / 10) % 10))) ∧ (∃ P : am_M → Prop, cl_V kC 1 mX8_add [vR 156, vI (48 + ((x1 / 10) % 10))] μ P ∧ (∀ m4 : am_M, P m4 → (0 ≤ x1) ∧ ((am_in (48 + (x1 % 10))) ∧ (∃ P : am_M → Prop, cl_V kC 1 mX8_add [vR 156, vI (48 + (x1 % 10))] m4 P ∧ (∀ m6 : am_M, P m6 → Q m6))))))))) ∧ (100 ≤ x1 → (0 ≤ x1) ∧ ((0 ≤ x1 / 100) ∧ ((am_in (48 + ((x1 / 100) % 10))) ∧ (∃ P : am_M → Prop, cl_V kC 1 mX8_add [vR 156, vI (48 + ((x1 / 100) % 10))] μ P ∧ (∀ m8 : am_M, P m8 → (x1 < 10 → (0 ≤ x1) ∧ ((am_in (48 + (x1 % 10))) ∧ (∃ P : am_M → Prop, cl_V kC 1 mX8_add [vR 156, vI (48 + (x1 % 10))] m8 P ∧ (∀ m10 : am_M, P m10 → Q m10)))) ∧ (10 ≤ x1 → (0 ≤ x1) ∧ ((0 ≤ x1 / 10) ∧ ((am_in (48 + ((x1 / 10) % 10))) ∧ (∃ P : am_M → Prop, cl_V kC 1 mX8_add [vR 156, vI (48 + ((x1 / 10) % 10))] m8 P ∧ (∀ m12 : am_M, P m12 → (0 ≤ x1) ∧ ((am_in (48 + (x1 % 10))) ∧ (∃ P : am_M → Prop, cl_V kC 1 mX8_add [vR 156, vI (48 + (x1 % 10))] m12 P ∧ (∀ m14 : am_M, P m14 → Q m14)))))))))))))) : at_V kC 2 mX8_addNumber 0 [vR 156, vI x1] [] μ Q := by
  refine s_iload_n dX8_addNumber_0 rfl rfl ?_
  refine s_bipush dX8_addNumber_1 (by decide) ?_
  refine s_icmp_lt dX8_addNumber_3 (tgt := 20) (by decide) (fun cc => ?_) (fun cc => ?_)
  · have h := h.1 cc
    refine s_iload_n dX8_addNumber_20 rfl rfl ?_
    refine s_bipush dX8_addNumber_21 (by decide) ?_
    refine s_icmp_lt dX8_addNumber_23 (tgt := 40) (by decide) (fun cc => ?_) (fun cc => ?_)
    · have h := h.1 cc
      refine s_aload_n dX8_addNumber_40 rfl rfl ?_
      refine s_bipush dX8_addNumber_41 (by decide) ?_
      refine s_iload_n dX8_addNumber_43 rfl rfl ?_
      refine s_bipush dX8_addNumber_44 (by decide) ?_
      obtain ⟨c, h⟩ := h
      refine s_iremp dX8_addNumber_46 c (by decide) rfl ?_
      obtain ⟨c, h⟩ := h
      refine s_iadd dX8_addNumber_47 (am_w_id c) ?_
      obtain ⟨P, hcl, h⟩ := h
      refine s_callV (As := [vI (48 + (x1 % 10))]) (rest := []) (k := 156) dX8_addNumber_48 lkX8_19 kn156 ⟨by rw [kk156]; rfl, by rw [kk156]; decide⟩ lmX8_add rfl rfl (Nat.le_of_ble_eq_true rfl) (by decide) (Nat.le_refl 0) (Nat.le_refl 0) (hC := hcl) (fun r n2 S2 m2 hP => ?_)
      obtain ⟨⟨rfl, rfl⟩, rfl, hq⟩ := hP
      have h := h m2 hq
      exact s_return dX8_addNumber_51 rfl ⟨⟨rfl, rfl⟩, rfl, h⟩
    · have h := h.2 cc
      refine s_aload_n dX8_addNumber_26 rfl rfl ?_
      refine s_bipush dX8_addNumber_27 (by decide) ?_
      refine s_iload_n dX8_addNumber_29 rfl rfl ?_
      refine s_bipush dX8_addNumber_30 (by decide) ?_
      obtain ⟨c, h⟩ := h
      refine s_idivp dX8_addNumber_32 c (by decide) rfl ?_
      refine s_bipush dX8_addNumber_33 (by decide) ?_
      obtain ⟨c, h⟩ := h
      refine s_iremp dX8_addNumber_35 c (by decide) rfl ?_
      obtain ⟨c, h⟩ := h
      refine s_iadd dX8_addNumber_36 (am_w_id c) ?_
      obtain ⟨P, hcl, h⟩ := h
      refine s_callV (As := [vI (48 + ((x1 / 10) % 10))]) (rest := []) (k := 156) dX8_addNumber_37 lkX8_19 kn156 ⟨by rw [kk156]; rfl, by rw [kk156]; decide⟩ lmX8_add rfl rfl (Nat.le_of_ble_eq_true rfl) (by decide) (Nat.le_refl 0) (Nat.le_refl 0) (hC := hcl) (fun r n2 S2 m4 hP => ?_)
      obtain ⟨⟨rfl, rfl⟩, rfl, hq⟩ := hP
      have h := h m4 hq
      refine s_aload_n dX8_addNumber_40 rfl rfl ?_
      refine s_bipush dX8_addNumber_41 (by decide) ?_
      refine s_iload_n dX8_addNumber_43 rfl rfl ?_
      refine s_bipush dX8_addNumber_44 (by decide) ?_
      obtain ⟨c, h⟩ := h
      refine s_iremp dX8_addNumber_46 c (by decide) rfl ?_
      obtain ⟨c, h⟩ := h
      refine s_iadd dX8_addNumber_47 (am_w_id c) ?_
      obtain ⟨P, hcl, h⟩ := h
      refine s_callV (As := [vI (48 + (x1 % 10))]) (rest := []) (k := 156) dX8_addNumber_48 lkX8_19 kn156 ⟨by rw [kk156]; rfl, by rw [kk156]; decide⟩ lmX8_add rfl rfl (Nat.le_of_ble_eq_true rfl) (by decide) (Nat.le_refl 0) (Nat.le_refl 0) (hC := hcl) (fun r n2 S2 m6 hP => ?_)
      obtain ⟨⟨rfl, rfl⟩, rfl, hq⟩ := hP
      have h := h m6 hq
      exact s_return dX8_addNumber_51 rfl ⟨⟨rfl, rfl⟩, rfl, h⟩
  · have h := h.2 cc
    refine s_aload_n dX8_addNumber_6 rfl rfl ?_
    refine s_bipush dX8_addNumber_7 (by decide) ?_
    refine s_iload_n dX8_addNumber_9 rfl rfl ?_
    refine s_bipush dX8_addNumber_10 (by decide) ?_
    obtain ⟨c, h⟩ := h
    refine s_idivp dX8_addNumber_12 c (by decide) rfl ?_
    refine s_bipush dX8_addNumber_13 (by decide) ?_
    obtain ⟨c, h⟩ := h
    refine s_iremp dX8_addNumber_15 c (by decide) rfl ?_
    obtain ⟨c, h⟩ := h
    refine s_iadd dX8_addNumber_16 (am_w_id c) ?_
    obtain ⟨P, hcl, h⟩ := h
    refine s_callV (As := [vI (48 + ((x1 / 100) % 10))]) (rest := []) (k := 156) dX8_addNumber_17 lkX8_19 kn156 ⟨by rw [kk156]; rfl, by rw [kk156]; decide⟩ lmX8_add rfl rfl (Nat.le_of_ble_eq_true rfl) (by decide) (Nat.le_refl 0) (Nat.le_refl 0) (hC := hcl) (fun r n2 S2 m8 hP => ?_)
    obtain ⟨⟨rfl, rfl⟩, rfl, hq⟩ := hP
    have h := h m8 hq
    refine s_iload_n dX8_addNumber_20 rfl rfl ?_
    refine s_bipush dX8_addNumber_21 (by decide) ?_
    refine s_icmp_lt dX8_addNumber_23 (tgt := 40) (by decide) (fun cc => ?_) (fun cc => ?_)
    · have h := h.1 cc
      refine s_aload_n dX8_addNumber_40 rfl rfl ?_
      refine s_bipush dX8_addNumber_41 (by decide) ?_
      refine s_iload_n dX8_addNumber_43 rfl rfl ?_
      refine s_bipush dX8_addNumber_44 (by decide) ?_
      obtain ⟨c, h⟩ := h
      refine s_iremp dX8_addNumber_46 c (by decide) rfl ?_
      obtain ⟨c, h⟩ := h
      refine s_iadd dX8_addNumber_47 (am_w_id c) ?_
      obtain ⟨P, hcl, h⟩ := h
      refine s_callV (As := [vI (48 + (x1 % 10))]) (rest := []) (k := 156) dX8_addNumber_48 lkX8_19 kn156 ⟨by rw [kk156]; rfl, by rw [kk156]; decide⟩ lmX8_add rfl rfl (Nat.le_of_ble_eq_true rfl) (by decide) (Nat.le_refl 0) (Nat.le_refl 0) (hC := hcl) (fun r n2 S2 m10 hP => ?_)
      obtain ⟨⟨rfl, rfl⟩, rfl, hq⟩ := hP
      have h := h m10 hq
      exact s_return dX8_addNumber_51 rfl ⟨⟨rfl, rfl⟩, rfl, h⟩
    · have h := h.2 cc
      refine s_aload_n dX8_addNumber_26 rfl rfl ?_
      refine s_bipush dX8_addNumber_27 (by decide) ?_
      refine s_iload_n dX8_addNumber_29 rfl rfl ?_
      refine s_bipush dX8_addNumber_30 (by decide) ?_
      obtain ⟨c, h⟩ := h
      refine s_idivp dX8_addNumber_32 c (by decide) rfl ?_
      refine s_bipush dX8_addNumber_33 (by decide) ?_
      obtain ⟨c, h⟩ := h
      refine s_iremp dX8_addNumber_35 c (by decide) rfl ?_
      obtain ⟨c, h⟩ := h
      refine s_iadd dX8_addNumber_36 (am_w_id c) ?_
      obtain ⟨P, hcl, h⟩ := h
      refine s_callV (As := [vI (48 + ((x1 / 10) % 10))]) (rest := []) (k := 156) dX8_addNumber_37 lkX8_19 kn156 ⟨by rw [kk156]; rfl, by rw [kk156]; decide⟩ lmX8_add rfl rfl (Nat.le_of_ble_eq_true rfl) (by decide) (Nat.le_refl 0) (Nat.le_refl 0) (hC := hcl) (fun r n2 S2 m12 hP => ?_)
      obtain ⟨⟨rfl, rfl⟩, rfl, hq⟩ := hP
      have h := h m12 hq
      refine s_aload_n dX8_addNumber_40 rfl rfl ?_
      refine s_bipush dX8_addNumber_41 (by decide) ?_
      refine s_iload_n dX8_addNumber_43 rfl rfl ?_
      refine s_bipush dX8_addNumber_44 (by decide) ?_
      obtain ⟨c, h⟩ := h
      refine s_iremp dX8_addNumber_46 c (by decide) rfl ?_
      obtain ⟨c, h⟩ := h
      refine s_iadd dX8_addNumber_47 (am_w_id c) ?_
      obtain ⟨P, hcl, h⟩ := h
      refine s_callV (As := [vI (48 + (x1 % 10))]) (rest := []) (k := 156) dX8_addNumber_48 lkX8_19 kn156 ⟨by rw [kk156]; rfl, by rw [kk156]; decide⟩ lmX8_add rfl rfl (Nat.le_of_ble_eq_true rfl) (by decide) (Nat.le_refl 0) (Nat.le_refl 0) (hC := hcl) (fun r n2 S2 m14 hP => ?_)
      obtain ⟨⟨rfl, rfl⟩, rfl, hq⟩ := hP
      have h := h m14 hq
      exact s_return dX8_addNumber_51 rfl ⟨⟨rfl, rfl⟩, rfl, h⟩
theorem ve_X8_addNumber {x1 : Int} {μ : am_M} {Q : am_M → Prop} (h : at_V kC 2 mX8_addNumber 0 [vR 156, vI x1] [] μ Q) : cl_V kC 2 mX8_addNumber [vR 156, vI x1] μ Q := am_intro pmX8_addNumber (Nat.le_of_ble_eq_true rfl) rfl h
theorem dig_l {n : Int} (h : n < 1000) : (dig_ n).length = if 100 ≤ n then 3 else if 10 ≤ n then 2 else 1 := by
  unfold dig_
  split
  · rw [if_pos (by omega)]; rfl
  · split <;> rfl
theorem sp_X8_addNumber {μ : am_M} {n : Int} (W : List Int) (h : wr_ μ W) (hn : in_ 0 1000 n) (hl : W.length + (dig_ n).length ≤ 96) : cl_V kC 2 mX8_addNumber [vR 156, vI n] μ (fun m => fr_ [156, 157] μ m ∧ wr_ m (W ++ dig_ n)) := by
  unfold in_ at hn
  have hd := dig_l hn.2
  refine ve_X8_addNumber (vc_X8_addNumber_0 ⟨fun a => ⟨fun b => ⟨hn.1, (by (try unfold am_in); (try unfold in_ at *); omega), _, sp_X8_add W h ?_, fun m k => ?_⟩, fun b => ⟨hn.1, by omega, (by (try unfold am_in); (try unfold in_ at *); omega), _, sp_X8_add W h ?_, fun m k => ⟨hn.1, (by (try unfold am_in); (try unfold in_ at *); omega), _, sp_X8_add _ k.2 ?_, fun m2 k2 => ?_⟩⟩⟩, fun a => ⟨hn.1, by omega, (by (try unfold am_in); (try unfold in_ at *); omega), _, sp_X8_add W h ?_, fun m k => ⟨fun b => by omega, fun b => ⟨hn.1, by omega, (by (try unfold am_in); (try unfold in_ at *); omega), _, sp_X8_add _ k.2 ?_, fun m2 k2 => ⟨hn.1, (by (try unfold am_in); (try unfold in_ at *); omega), _, sp_X8_add _ k2.2 ?_, fun m3 k3 => ?_⟩⟩⟩⟩⟩)
  · rw [if_neg (by omega), if_neg (by omega)] at hd; omega
  · refine ⟨k.1, ?_⟩
    unfold dig_
    rw [if_neg (by omega), if_neg (by omega)]
    exact k.2
  · rw [if_neg (by omega), if_pos (by omega)] at hd; omega
  · rw [if_neg (by omega), if_pos (by omega)] at hd; simp; omega
  · refine ⟨fr_tr k.1 k2.1, ?_⟩
    unfold dig_
    rw [if_neg (by omega), if_pos (by omega)]
    simpa using k2.2
  · rw [if_pos (by omega)] at hd; omega
  · rw [if_pos (by omega)] at hd; simp; omega
  · rw [if_pos (by omega)] at hd; simp; omega
  · refine ⟨fr_tr (fr_tr k.1 k2.1) k3.1, ?_⟩
    unfold dig_
    rw [if_pos (by omega), if_pos (by omega)]
    simpa using k3.2
def wch_ (p : Int × Int) : List Int := 99 :: (dig_ p.1 ++ 61 :: dig_ p.2)
/-- the chapters as a text -/
def wrt_ (H : Hl) : List Int := H.foldl (fun W p => (if W.isEmpty then [] else W ++ [59]) ++ wch_ p) []
theorem wrt_s {A : Hl} {p : Int × Int} : wrt_ (A ++ [p]) = (if A.isEmpty then [] else wrt_ A ++ [59]) ++ wch_ p := by
  unfold wrt_
  rw [List.foldl_append]
  show (if _ then _ else _) ++ wch_ p = _
  have : ∀ A : Hl, A ≠ [] → ∀ W, (A.foldl (fun W p => (if W.isEmpty then [] else W ++ [59]) ++ wch_ p) W).isEmpty = false := by
    intro A
    induction A with
    | nil => intro h; exact absurd rfl h
    | cons q B ih =>
      intro _ W
      rw [List.foldl_cons]
      by_cases hB : B = []
      · subst hB
        simp [wch_]
      · exact ih hB _
  cases A with
  | nil => rfl
  | cons q B => rw [this (q :: B) (by simp)]; rfl
theorem wrt_l {A : Hl} (h : ∀ p ∈ A, in_ 0 600 p.1 ∧ in_ 0 100 p.2) : (wrt_ A).length ≤ 8 * A.length := by
  have : ∀ (A : Hl) (W : List Int), (∀ p ∈ A, in_ 0 600 p.1 ∧ in_ 0 100 p.2) → (A.foldl (fun W p => (if W.isEmpty then [] else W ++ [59]) ++ wch_ p) W).length ≤ W.length + 8 * A.length := by
    intro A
    induction A with
    | nil => intro W h; simp
    | cons q B ih =>
      intro W h
      have hq := h q List.mem_cons_self
      unfold in_ at hq
      rw [List.foldl_cons]
      have h1 := ih ((if W.isEmpty then [] else W ++ [59]) ++ wch_ q) (fun p hp => h p (List.mem_cons_of_mem _ hp))
      have d1 := dig_l (n := q.1) (by omega)
      have d2 := dig_l (n := q.2) (by omega)
      rw [if_neg (by omega)] at d2
      have : ((if W.isEmpty then [] else W ++ [59]) ++ wch_ q).length ≤ W.length + 8 := by
        unfold wch_
        rw [List.length_append, List.length_cons, List.length_append, List.length_cons]
        have : (if W.isEmpty then [] else W ++ [59]).length ≤ W.length + 1 := by split <;> simp
        split at d1 <;> split at d2 <;> (try split at d1) <;> omega
      rw [List.length_cons]
      omega
  have := this A [] h
  rw [List.length_nil, Nat.zero_add] at this
  exact this
theorem vc_X9_write_0 {μ : am_M} {Q : Int → am_M → Prop} (h : ∀ m1 : am_M, m1 = am_st μ 156 (am_up (μ 156) 1 0) → at_I kC 3 mX9_write 10 [vR 0, vI 0] [] m1 Q) : at_I kC 3 mX9_write 0 [vR 0, vU] [] μ Q := by
  refine s_aload_n dX9_write_0 rfl rfl ?_
  refine s_getR dX9_write_1 flX9_64 kn0 kk0 rfl kr0_8 ?_
  refine s_iconst dX9_write_4 (by decide) ?_
  obtain ⟨m1, hm1⟩ : ∃ x : am_M, x = am_st μ 156 (am_up (μ 156) 1 0) := ⟨_, rfl⟩
  have h := h m1 hm1
  refine s_putI dX9_write_5 flX9_348 kn156 kk156 rfl rfl (Or.inl rfl) hm1.symm ?_
  refine s_iconst dX9_write_8 (by decide) ?_
  refine s_istore_n dX9_write_9 rfl (by decide) (L' := [vR 0, vI 0]) rfl ?_
  exact h
theorem vc_X9_write_10 {x1 : Int} {μ : am_M} {Q : Int → am_M → Prop} (h : (μ 7 2 ≤ x1 → Q (μ 156 1) μ) ∧ (x1 < μ 7 2 → (x1 ≤ 0 → ∃ P : am_M → Prop, cl_V kC 1 mX8_add [vR 156, vI 99] μ P ∧ (∀ m2 : am_M, P m2 → (0 ≤ x1) ∧ (x1 < 12) ∧ (∃ P : am_M → Prop, cl_V kC 2 mX8_addNumber [vR 156, vI (m2 8 ((x1).toNat))] m2 P ∧ (∀ m4 : am_M, P m4 → ∃ P : am_M → Prop, cl_V kC 1 mX8_add [vR 156, vI 61] m4 P ∧ (∀ m6 : am_M, P m6 → (0 ≤ x1) ∧ (x1 < 12) ∧ (∃ P : am_M → Prop, cl_V kC 2 mX8_addNumber [vR 156, vI (m6 9 ((x1).toNat))] m6 P ∧ (∀ m8 : am_M, P m8 → (am_in (x1 + 1)) ∧ (at_I kC 3 mX9_write 10 [vR 0, vI (x1 + 1)] [] m8 Q)))))))) ∧ (0 < x1 → ∃ P : am_M → Prop, cl_V kC 1 mX8_add [vR 156, vI 59] μ P ∧ (∀ m10 : am_M, P m10 → ∃ P : am_M → Prop, cl_V kC 1 mX8_add [vR 156, vI 99] m10 P ∧ (∀ m12 : am_M, P m12 → (0 ≤ x1) ∧ (x1 < 12) ∧ (∃ P : am_M → Prop, cl_V kC 2 mX8_addNumber [vR 156, vI (m12 8 ((x1).toNat))] m12 P ∧ (∀ m14 : am_M, P m14 → ∃ P : am_M → Prop, cl_V kC 1 mX8_add [vR 156, vI 61] m14 P ∧ (∀ m16 : am_M, P m16 → (0 ≤ x1) ∧ (x1 < 12) ∧ (∃ P : am_M → Prop, cl_V kC 2 mX8_addNumber [vR 156, vI (m16 9 ((x1).toNat))] m16 P ∧ (∀ m18 : am_M, P m18 → (am_in (x1 + 1)) ∧ (at_I kC 3 mX9_write 10 [vR 0, vI (x1 + 1)] [] m18 Q))))))))))) : at_I kC 3 mX9_write 10 [vR 0, vI x1] [] μ Q := by
  refine s_iload_n dX9_write_10 rfl rfl ?_
  refine s_aload_n dX9_write_11 rfl rfl ?_
  refine s_getR dX9_write_12 flX9_12 kn0 kk0 rfl kr0_0 ?_
  refine s_getR dX9_write_15 flX9_199 kn1 kk1 rfl kr1_4 ?_
  refine s_getI (x := (μ 7 2)) dX9_write_18 flX9_349 kn7 kk7 rfl rfl ?_
  refine s_icmp_ge dX9_write_21 (tgt := 99) (by decide) (fun cc => ?_) (fun cc => ?_)
  · have h := h.1 cc
    refine s_aload_n dX9_write_99 rfl rfl ?_
    refine s_getR dX9_write_100 flX9_64 kn0 kk0 rfl kr0_8 ?_
    refine s_getI (x := (μ 156 1)) dX9_write_103 flX9_348 kn156 kk156 rfl rfl ?_
    exact s_ireturn dX9_write_106 (Or.inl rfl) ⟨⟨rfl, rfl⟩, _, rfl, h⟩
  · have h := h.2 cc
    refine s_iload_n dX9_write_24 rfl rfl ?_
    refine s_if_le dX9_write_25 (tgt := 37) (by decide) (fun cc => ?_) (fun cc => ?_)
    · have h := h.1 cc
      refine s_aload_n dX9_write_37 rfl rfl ?_
      refine s_getR dX9_write_38 flX9_64 kn0 kk0 rfl kr0_8 ?_
      refine s_bipush dX9_write_41 (by decide) ?_
      obtain ⟨P, hcl, h⟩ := h
      refine s_callV (As := [vI 99]) (rest := []) (k := 156) dX9_write_43 lkX9_352 kn156 ⟨by rw [kk156]; rfl, by rw [kk156]; decide⟩ lmX8_add rfl rfl (Nat.le_of_ble_eq_true rfl) (by decide) (Nat.le_refl 0) (Nat.le_refl 0) (hC := hcl) (fun r n2 S2 m2 hP => ?_)
      obtain ⟨⟨rfl, rfl⟩, rfl, hq⟩ := hP
      have h := h m2 hq
      refine s_aload_n dX9_write_46 rfl rfl ?_
      refine s_getR dX9_write_47 flX9_64 kn0 kk0 rfl kr0_8 ?_
      refine s_aload_n dX9_write_50 rfl rfl ?_
      refine s_getR dX9_write_51 flX9_12 kn0 kk0 rfl kr0_0 ?_
      refine s_getR dX9_write_54 flX9_199 kn1 kk1 rfl kr1_4 ?_
      refine s_getR dX9_write_57 flX9_210 kn7 kk7 rfl kr7_0 ?_
      refine s_iload_n dX9_write_60 rfl rfl ?_
      obtain ⟨c, c2, h⟩ := h
      refine s_iald (x := (m2 8 ((x1).toNat))) dX9_write_61 kn8 kk8 kl8 c c2 rfl ?_
      obtain ⟨P, hcl, h⟩ := h
      refine s_callV (As := [vI (m2 8 ((x1).toNat))]) (rest := []) (k := 156) dX9_write_62 lkX9_355 kn156 ⟨by rw [kk156]; rfl, by rw [kk156]; decide⟩ lmX8_addNumber rfl rfl (Nat.le_of_ble_eq_true rfl) (by decide) (Nat.le_refl 0) (Nat.le_refl 0) (hC := hcl) (fun r n2 S2 m4 hP => ?_)
      obtain ⟨⟨rfl, rfl⟩, rfl, hq⟩ := hP
      have h := h m4 hq
      refine s_aload_n dX9_write_65 rfl rfl ?_
      refine s_getR dX9_write_66 flX9_64 kn0 kk0 rfl kr0_8 ?_
      refine s_bipush dX9_write_69 (by decide) ?_
      obtain ⟨P, hcl, h⟩ := h
      refine s_callV (As := [vI 61]) (rest := []) (k := 156) dX9_write_71 lkX9_352 kn156 ⟨by rw [kk156]; rfl, by rw [kk156]; decide⟩ lmX8_add rfl rfl (Nat.le_of_ble_eq_true rfl) (by decide) (Nat.le_refl 0) (Nat.le_refl 0) (hC := hcl) (fun r n2 S2 m6 hP => ?_)
      obtain ⟨⟨rfl, rfl⟩, rfl, hq⟩ := hP
      have h := h m6 hq
      refine s_aload_n dX9_write_74 rfl rfl ?_
      refine s_getR dX9_write_75 flX9_64 kn0 kk0 rfl kr0_8 ?_
      refine s_aload_n dX9_write_78 rfl rfl ?_
      refine s_getR dX9_write_79 flX9_12 kn0 kk0 rfl kr0_0 ?_
      refine s_getR dX9_write_82 flX9_199 kn1 kk1 rfl kr1_4 ?_
      refine s_getR dX9_write_85 flX9_213 kn7 kk7 rfl kr7_1 ?_
      refine s_iload_n dX9_write_88 rfl rfl ?_
      obtain ⟨c, c2, h⟩ := h
      refine s_iald (x := (m6 9 ((x1).toNat))) dX9_write_89 kn9 kk9 kl9 c c2 rfl ?_
      obtain ⟨P, hcl, h⟩ := h
      refine s_callV (As := [vI (m6 9 ((x1).toNat))]) (rest := []) (k := 156) dX9_write_90 lkX9_355 kn156 ⟨by rw [kk156]; rfl, by rw [kk156]; decide⟩ lmX8_addNumber rfl rfl (Nat.le_of_ble_eq_true rfl) (by decide) (Nat.le_refl 0) (Nat.le_refl 0) (hC := hcl) (fun r n2 S2 m8 hP => ?_)
      obtain ⟨⟨rfl, rfl⟩, rfl, hq⟩ := hP
      have h := h m8 hq
      obtain ⟨c, h⟩ := h
      refine s_iinc dX9_write_93 rfl (am_w_id c) (by decide) (L' := [vR 0, vI (x1 + 1)]) rfl ?_
      refine s_goto dX9_write_96 (tgt := 10) (by decide) ?_
      exact h
    · have h := h.2 cc
      refine s_aload_n dX9_write_28 rfl rfl ?_
      refine s_getR dX9_write_29 flX9_64 kn0 kk0 rfl kr0_8 ?_
      refine s_bipush dX9_write_32 (by decide) ?_
      obtain ⟨P, hcl, h⟩ := h
      refine s_callV (As := [vI 59]) (rest := []) (k := 156) dX9_write_34 lkX9_352 kn156 ⟨by rw [kk156]; rfl, by rw [kk156]; decide⟩ lmX8_add rfl rfl (Nat.le_of_ble_eq_true rfl) (by decide) (Nat.le_refl 0) (Nat.le_refl 0) (hC := hcl) (fun r n2 S2 m10 hP => ?_)
      obtain ⟨⟨rfl, rfl⟩, rfl, hq⟩ := hP
      have h := h m10 hq
      refine s_aload_n dX9_write_37 rfl rfl ?_
      refine s_getR dX9_write_38 flX9_64 kn0 kk0 rfl kr0_8 ?_
      refine s_bipush dX9_write_41 (by decide) ?_
      obtain ⟨P, hcl, h⟩ := h
      refine s_callV (As := [vI 99]) (rest := []) (k := 156) dX9_write_43 lkX9_352 kn156 ⟨by rw [kk156]; rfl, by rw [kk156]; decide⟩ lmX8_add rfl rfl (Nat.le_of_ble_eq_true rfl) (by decide) (Nat.le_refl 0) (Nat.le_refl 0) (hC := hcl) (fun r n2 S2 m12 hP => ?_)
      obtain ⟨⟨rfl, rfl⟩, rfl, hq⟩ := hP
      have h := h m12 hq
      refine s_aload_n dX9_write_46 rfl rfl ?_
      refine s_getR dX9_write_47 flX9_64 kn0 kk0 rfl kr0_8 ?_
      refine s_aload_n dX9_write_50 rfl rfl ?_
      refine s_getR dX9_write_51 flX9_12 kn0 kk0 rfl kr0_0 ?_
      refine s_getR dX9_write_54 flX9_199 kn1 kk1 rfl kr1_4 ?_
      refine s_getR dX9_write_57 flX9_210 kn7 kk7 rfl kr7_0 ?_
      refine s_iload_n dX9_write_60 rfl rfl ?_
      obtain ⟨c, c2, h⟩ := h
      refine s_iald (x := (m12 8 ((x1).toNat))) dX9_write_61 kn8 kk8 kl8 c c2 rfl ?_
      obtain ⟨P, hcl, h⟩ := h
      refine s_callV (As := [vI (m12 8 ((x1).toNat))]) (rest := []) (k := 156) dX9_write_62 lkX9_355 kn156 ⟨by rw [kk156]; rfl, by rw [kk156]; decide⟩ lmX8_addNumber rfl rfl (Nat.le_of_ble_eq_true rfl) (by decide) (Nat.le_refl 0) (Nat.le_refl 0) (hC := hcl) (fun r n2 S2 m14 hP => ?_)
      obtain ⟨⟨rfl, rfl⟩, rfl, hq⟩ := hP
      have h := h m14 hq
      refine s_aload_n dX9_write_65 rfl rfl ?_
      refine s_getR dX9_write_66 flX9_64 kn0 kk0 rfl kr0_8 ?_
      refine s_bipush dX9_write_69 (by decide) ?_
      obtain ⟨P, hcl, h⟩ := h
      refine s_callV (As := [vI 61]) (rest := []) (k := 156) dX9_write_71 lkX9_352 kn156 ⟨by rw [kk156]; rfl, by rw [kk156]; decide⟩ lmX8_add rfl rfl (Nat.le_of_ble_eq_true rfl) (by decide) (Nat.le_refl 0) (Nat.le_refl 0) (hC := hcl) (fun r n2 S2 m16 hP => ?_)
      obtain ⟨⟨rfl, rfl⟩, rfl, hq⟩ := hP
      have h := h m16 hq
      refine s_aload_n dX9_write_74 rfl rfl ?_
      refine s_getR dX9_write_75 flX9_64 kn0 kk0 rfl kr0_8 ?_
      refine s_aload_n dX9_write_78 rfl rfl ?_
      refine s_getR dX9_write_79 flX9_12 kn0 kk0 rfl kr0_0 ?_
      refine s_getR dX9_write_82 flX9_199 kn1 kk1 rfl kr1_4 ?_
      refine s_getR dX9_write_85 flX9_213 kn7 kk7 rfl kr7_1 ?_
      refine s_iload_n dX9_write_88 rfl rfl ?_
      obtain ⟨c, c2, h⟩ := h
      refine s_iald (x := (m16 9 ((x1).toNat))) dX9_write_89 kn9 kk9 kl9 c c2 rfl ?_
      obtain ⟨P, hcl, h⟩ := h
      refine s_callV (As := [vI (m16 9 ((x1).toNat))]) (rest := []) (k := 156) dX9_write_90 lkX9_355 kn156 ⟨by rw [kk156]; rfl, by rw [kk156]; decide⟩ lmX8_addNumber rfl rfl (Nat.le_of_ble_eq_true rfl) (by decide) (Nat.le_refl 0) (Nat.le_refl 0) (hC := hcl) (fun r n2 S2 m18 hP => ?_)
      obtain ⟨⟨rfl, rfl⟩, rfl, hq⟩ := hP
      have h := h m18 hq
      obtain ⟨c, h⟩ := h
      refine s_iinc dX9_write_93 rfl (am_w_id c) (by decide) (L' := [vR 0, vI (x1 + 1)]) rfl ?_
      refine s_goto dX9_write_96 (tgt := 10) (by decide) ?_
      exact h
theorem ve_X9_write {μ : am_M} {Q : Int → am_M → Prop} (h : at_I kC 3 mX9_write 0 [vR 0, vU] [] μ Q) : cl_I kC 3 mX9_write [vR 0] μ Q := am_intro pmX9_write (Nat.le_of_ble_eq_true rfl) rfl h
theorem lp_X9_write {μ0 : am_M} {H : Hl} (hl : H.length ≤ 12) (ho : ∀ p ∈ H, in_ 0 600 p.1 ∧ in_ 0 100 p.2) (hh : hl_ (μ0 7 2) (μ0 8) (μ0 9) H) {Q : Int → am_M → Prop} (hQ : ∀ m, fr_ [156, 157] μ0 m → wr_ m (wrt_ H) → Q (wrt_ H).length m) : ∀ (B A : Hl) (x : Int) (μ : am_M), H = A ++ B → x = A.length → fr_ [156, 157] μ0 μ → wr_ μ (wrt_ A) → at_I kC 3 mX9_write 10 [vR 0, vI x] [] μ Q := by
  intro B
  induction B with
  | nil =>
    intro A x μ hH hx hf hw
    simp at hH
    subst hH
    refine vc_X9_write_10 ⟨fun _ => by rw [hw.1]; exact hQ μ hf hw, fun q => ?_⟩
    rw [hf 7 (by decide), hh.1] at q
    omega
  | cons p B ih =>
    intro A x μ hH hx hf hw
    have hn : H.length = A.length + 1 + B.length := by rw [hH]; simp; omega
    have hp := ho p (by rw [hH]; simp)
    have hh2 := hh
    rw [hH] at hh2
    have v := hl_at hh2 hx
    have hwl := wrt_l (A := A) (fun q hq => ho q (by rw [hH]; simp [hq]))
    have d1 := dig_l (n := p.1) (by unfold in_ at hp; omega)
    have d2 := dig_l (n := p.2) (by unfold in_ at hp; omega)
    rw [if_neg (by unfold in_ at hp; omega)] at d2
    have d1' : (dig_ p.1).length ≤ 3 := by split at d1 <;> (try split at d1) <;> omega
    have d2' : (dig_ p.2).length ≤ 2 := by split at d2 <;> omega
    have go : ∀ (m0 : am_M) (W : List Int), fr_ [156, 157] μ0 m0 → wr_ m0 W → W.length ≤ 89 → wrt_ (A ++ [p]) = W ++ wch_ p → ∃ P : am_M → Prop, cl_V kC 1 mX8_add [vR 156, vI 99] m0 P ∧ (∀ m2 : am_M, P m2 → (0 ≤ x) ∧ (x < 12) ∧ (∃ P : am_M → Prop, cl_V kC 2 mX8_addNumber [vR 156, vI (m2 8 ((x).toNat))] m2 P ∧ (∀ m4 : am_M, P m4 → ∃ P : am_M → Prop, cl_V kC 1 mX8_add [vR 156, vI 61] m4 P ∧ (∀ m6 : am_M, P m6 → (0 ≤ x) ∧ (x < 12) ∧ (∃ P : am_M → Prop, cl_V kC 2 mX8_addNumber [vR 156, vI (m6 9 ((x).toNat))] m6 P ∧ (∀ m8 : am_M, P m8 → (am_in (x + 1)) ∧ (at_I kC 3 mX9_write 10 [vR 0, vI (x + 1)] [] m8 Q))))))) := fun m0 W f0 w0 l0 e0 => by
      refine ⟨_, sp_X8_add W w0 (by omega), fun m2 k2 => ⟨by omega, by omega, ?_⟩⟩
      have f2 := fr_tr f0 k2.1
      rw [f2 8 (by decide), v.1]
      refine ⟨_, sp_X8_addNumber _ k2.2 (by (try unfold am_in); (try unfold in_ at *); omega) (by simp; omega), fun m4 k4 => ?_⟩
      have f4 := fr_tr f2 k4.1
      refine ⟨_, sp_X8_add _ k4.2 (by simp; omega), fun m6 k6 => ⟨by omega, by omega, ?_⟩⟩
      have f6 := fr_tr f4 k6.1
      rw [f6 9 (by decide), v.2]
      refine ⟨_, sp_X8_addNumber _ k6.2 (by (try unfold am_in); (try unfold in_ at *); omega) (by simp; omega), fun m8 k8 => ⟨(by (try unfold am_in); (try unfold in_ at *); omega), ?_⟩⟩
      refine ih (A ++ [p]) (x + 1) m8 (by rw [hH]; simp) (by simp; omega) (fr_tr f6 k8.1) ?_
      rw [e0]
      have := k8.2
      unfold wch_
      simpa using this
    refine vc_X9_write_10 ⟨fun q => by rw [hf 7 (by decide), hh.1] at q; omega, fun q => ⟨fun c => ?_, fun c => ?_⟩⟩
    · have : A = [] := List.eq_nil_of_length_eq_zero (by omega)
      subst this
      exact go μ (wrt_ []) hf hw (by omega) (by rw [wrt_s]; rfl)
    · refine ⟨_, sp_X8_add _ hw (by omega), fun m k => go m _ (fr_tr hf k.1) k.2 (by simp; omega) ?_⟩
      rw [wrt_s]
      cases A with
      | nil => simp at hx; omega
      | cons q A => rfl
theorem sp_X9_write {μ : am_M} (H : Hl) (hl : H.length ≤ 12) (ho : ∀ p ∈ H, in_ 0 600 p.1 ∧ in_ 0 100 p.2) (hh : hl_ (μ 7 2) (μ 8) (μ 9) H) : cl_I kC 3 mX9_write [vR 0] μ (fun z m => z = (wrt_ H).length ∧ fr_ [156, 157] μ m ∧ wr_ m (wrt_ H)) := by
  refine ve_X9_write (vc_X9_write_0 (fun m1 e1 => ?_))
  refine lp_X9_write (μ0 := μ) hl ho hh (fun m a b => ⟨rfl, a, b⟩) H [] 0 m1 (by simp) rfl (by rw [e1]; exact fr_st (by simp)) ⟨by rw [e1, st_s, up_s]; rfl, fun i c hi => by simp [wrt_] at hi⟩
theorem vc_X9_written_0 {x1 : Int} {μ : am_M} {Q : Int → am_M → Prop} (h : ((0 ≤ x1 → (x1 < μ 156 1 → (0 ≤ x1) ∧ (x1 < 96)))) ∧ (∀ v1 : Int, v1 = (if x1 < 0 then (-1) else (if x1 < μ 156 1 then μ 157 ((x1).toNat) else (-1))) → Q v1 μ)) : at_I kC 1 mX9_written 0 [vR 0, vI x1] [] μ Q := by
  refine s_iload_n dX9_written_0 rfl rfl ?_
  obtain ⟨hsd, h⟩ := h
  have kj2 : ∀ (v1 : Int), (Q v1 μ) → at_I kC 1 mX9_written 28 [vU, vU] [vI v1] μ Q := by
    intro v1 h
    exact s_ireturn dX9_written_28 (Or.inl rfl) ⟨⟨rfl, rfl⟩, _, rfl, h⟩
  refine s_if_lt dX9_written_1 (tgt := 15) (by decide) (fun cc => ?_) (fun cc => ?_)
  · have hp0 := cc
    refine s_iconst dX9_written_15 (by decide) ?_
    refine s_goto dX9_written_16 (tgt := 28) (by decide) ?_
    exact am_lesS (kj2 (-1) (h (-1) (by rw [if_pos hp0]))) ⟨Or.inl rfl, Or.inl rfl, trivial⟩
  · have hp0 := cc
    have hsd := hsd hp0
    refine s_iload_n dX9_written_4 rfl rfl ?_
    refine s_aload_n dX9_written_5 rfl rfl ?_
    refine s_getR dX9_written_6 flX9_64 kn0 kk0 rfl kr0_8 ?_
    refine s_getI (x := (μ 156 1)) dX9_written_9 flX9_348 kn156 kk156 rfl rfl ?_
    refine s_icmp_lt dX9_written_12 (tgt := 19) (by decide) (fun cc => ?_) (fun cc => ?_)
    · have hp1 := cc
      have hsd := hsd hp1
      refine s_aload_n dX9_written_19 rfl rfl ?_
      refine s_getR dX9_written_20 flX9_64 kn0 kk0 rfl kr0_8 ?_
      refine s_getR dX9_written_23 flX9_358 kn156 kk156 rfl kr156_0 ?_
      refine s_iload_n dX9_written_26 rfl rfl ?_
      obtain ⟨c, c2⟩ := hsd
      refine s_iald (x := (μ 157 ((x1).toNat))) dX9_written_27 kn157 kk157 kl157 c c2 rfl ?_
      exact am_lesS (kj2 (μ 157 ((x1).toNat)) (h (μ 157 ((x1).toNat)) (by rw [if_neg (Int.not_lt.mpr hp0), if_pos hp1]))) ⟨Or.inl rfl, Or.inl rfl, trivial⟩
    · have hp1 := cc
      refine s_iconst dX9_written_15 (by decide) ?_
      refine s_goto dX9_written_16 (tgt := 28) (by decide) ?_
      exact am_lesS (kj2 (-1) (h (-1) (by rw [if_neg (Int.not_lt.mpr hp0), if_neg (Int.not_lt.mpr hp1)]))) ⟨Or.inl rfl, Or.inl rfl, trivial⟩
theorem ve_X9_written {x1 : Int} {μ : am_M} {Q : Int → am_M → Prop} (h : at_I kC 1 mX9_written 0 [vR 0, vI x1] [] μ Q) : cl_I kC 1 mX9_written [vR 0, vI x1] μ Q := am_intro pmX9_written (Nat.le_of_ble_eq_true rfl) rfl h
theorem sp_X9_written {μ : am_M} {i : Int} {Q : Int → am_M → Prop} (W : List Int) (hw : wr_ μ W) (hl : W.length ≤ 96) (hQ : Q (if 0 ≤ i then W.getD i.toNat (-1) else -1) μ) : cl_I kC 1 mX9_written [vR 0, vI i] μ Q := by
  have h1 := hw.1
  refine ve_X9_written (vc_X9_written_0 ⟨fun a b => ⟨a, by omega⟩, fun v e => ?_⟩)
  have : v = if 0 ≤ i then W.getD i.toNat (-1) else -1 := by
    rw [e]
    by_cases a : 0 ≤ i
    · rw [if_neg (by omega), if_pos a, List.getD_eq_getElem?_getD]
      by_cases b : i < μ 156 1
      · have hl : i.toNat < W.length := by omega
        rw [if_pos b, List.getElem?_eq_getElem hl]
        exact hw.2 _ _ (List.getElem?_eq_getElem hl)
      · rw [if_neg b, List.getElem?_eq_none (by omega)]
        rfl
    · rw [if_pos (by omega), if_neg a]
  rw [this]
  exact hQ

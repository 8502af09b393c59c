/-! the reference's clips divided -/
/-- row c is being written: so far its first x numbers -/
def wr_c (ν m : am_M) (c : Int) (R : Rw) (x : Int) : Prop := fr_ [1] ν m ∧ (∀ i : Nat, ((i : Int) < 26 + 8 * c ∨ 26 + 8 * c + x ≤ i) → m 1 i = ν 1 i) ∧ ∀ k : Int, 0 ≤ k → k < x → m 1 ((26 + 8 * c) + k).toNat = R k
theorem wr_0 {ν : am_M} {c : Int} {R : Rw} : wr_c ν ν c R 0 := ⟨fr_rf, fun _ _ => rfl, fun k k0 k1 => by omega⟩
theorem wr_s {ν m m2 : am_M} {c x : Int} {R : Rw} (h : wr_c ν m c R x) (c0 : 0 ≤ c) (x0 : 0 ≤ x) (hR : em_ ν R) (x8 : x < 8) (e : m2 = am_st m 1 (am_up (m 1) ((26 + 8 * c) + x).toNat (m 14 x.toNat))) : wr_c ν m2 c R (x + 1) := by
  obtain ⟨f, h1, h2⟩ := h
  have e14 : m 14 x.toNat = R x := by rw [f 14 (by decide)]; exact hR x x0 x8
  refine ⟨by rw [e]; exact fr_tr f (fr_st (by simp)), fun i hi => ?_, fun k k0 k1 => ?_⟩
  · rw [e, st_s, up_n (by omega)]
    exact h1 i (by omega)
  · rw [e, st_s]
    by_cases q : k = x
    · rw [q, up_s, e14]
    · rw [up_n (by omega)]
      exact h2 k k0 (by omega)
theorem wr_e {ν m : am_M} {c : Int} {R r : Rw} {A B : List Rw} (h : wr_c ν m c R 8) (ht : tr_ ν (A ++ r :: B)) (hc : c = A.length) (hl : (A ++ r :: B).length ≤ 48) : fr_ [1] ν m ∧ fv_ ν m ∧ tr_ m (A ++ R :: B) := by
  obtain ⟨f, h1, h2⟩ := h
  have hll : (A ++ r :: B).length = A.length + 1 + B.length := by simp; omega
  rw [hll] at hl
  refine ⟨f, fun i i25 hi => h1 i (by omega), by rw [h1 25 (by omega), ht.1]; simp, fun i s hi k k0 k1 => ?_⟩
  show m 1 ((26 + 8 * (i : Int)) + k).toNat = s k
  by_cases q : i = A.length
  · subst q
    simp at hi
    subst hi
    rw [← hc]
    exact h2 k k0 k1
  · rw [h1 _ (by omega)]
    refine ht.2 i s ?_ k k0 k1
    by_cases q2 : i < A.length
    · rw [List.getElem?_append_left q2] at hi ⊢
      exact hi
    · rw [List.getElem?_append_right (by omega), show i - A.length = (i - A.length - 1) + 1 by omega, List.getElem?_cons_succ] at hi ⊢
      exact hi
theorem tr_len {ν : am_M} {A B : List Rw} {r : Rw} (h : tr_ ν (A ++ r :: B)) : ν 1 25 = A.length + 1 + B.length := by
  rw [h.1]; simp; omega
theorem tr_at {ν : am_M} {A B : List Rw} {r : Rw} {c k : Int} (h : tr_ ν (A ++ r :: B)) (hc : c = A.length) (k0 : 0 ≤ k) (k1 : k < 8) : rg ν c k = r k := tl_at h hc k0 k1
/-- a number of a clip changes -/
theorem tr_up {ν m : am_M} {A B : List Rw} {r s : Rw} {c j x : Int} (h : tr_ ν (A ++ r :: B)) (hc : c = A.length) (hl : (A ++ r :: B).length ≤ 48) (j0 : 0 ≤ j) (j8 : j < 8) (e : m = am_st ν 1 (am_up (ν 1) ((26 + 8 * c) + j).toNat x)) (hs : ∀ k, 0 ≤ k → k < 8 → s k = if k = j then x else r k) : fr_ [1] ν m ∧ fv_ ν m ∧ tr_ m (A ++ s :: B) := by
  have hll : (A ++ r :: B).length = A.length + 1 + B.length := by simp; omega
  rw [hll] at hl
  have f : fr_ [1] ν m := by rw [e]; exact fr_st (by simp)
  refine ⟨f, fun i i25 hi => by rw [e, st_s, up_n (by omega)], ?_⟩
  have t := tl_up h hc hs
  have t2 : tl_ (ν 1 25) (rg m) (A ++ s :: B) := ⟨t.1, fun i r hi k k0 k1 => by
    have := t.2 i r hi k k0 k1
    rw [← this]
    unfold up_T rg
    rw [e, st_s]
    by_cases q : (i : Int) = c ∧ k = j
    · rw [if_pos q, q.1, q.2, up_s]
    · rw [if_neg q, up_n (by omega)]⟩
  unfold tr_
  rw [show m 1 25 = ν 1 25 by rw [e, st_s, up_n (by omega)]]
  exact t2
theorem vc_X10_divides_0 {x1 x2 : Int} {μ : am_M} {Q : Int → am_M → Prop} (h : ∃ P : am_M → Prop, cl_V kR 2 mX10_takes [vR 0, vI x1] μ P ∧ (∀ m2 : am_M, P m2 → ∀ m3 : am_M, m3 = am_st m2 14 (am_up (m2 14) 4 x2) → ∀ m4 : am_M, m4 = am_st m3 14 (am_up (m3 14) 7 0) → ∃ P : am_M → Prop, cl_V kR 1 mX10_shortens [vR 0] m4 P ∧ (∀ m6 : am_M, P m6 → at_I kR 3 mX10_divides 43 [vR 0, vI x1, vI x2, vI (m2 14 4), vI (m2 14 7), vI 0] [] m6 Q))) : at_I kR 3 mX10_divides 0 [vR 0, vI x1, vI x2, vU, vU, vU] [] μ Q := by
  refine s_aload_n dX10_divides_0 rfl rfl ?_
  refine s_iload_n dX10_divides_1 rfl rfl ?_
  obtain ⟨P, hcl, h⟩ := h
  refine s_callV (As := [vI x1]) (rest := []) (k := 0) dX10_divides_2 lkX10_168 rn0 ⟨by rw [rk0]; rfl, by rw [rk0]; decide⟩ lmX10_takes rfl rfl (Nat.le_of_ble_eq_true rfl) (by decide) (Nat.le_refl 0) (Nat.le_refl 0) (hC := hcl) (fun r n2 S2 m2 hP => ?_)
  obtain ⟨⟨rfl, rfl⟩, rfl, hq⟩ := hP
  have h := h m2 hq
  refine s_aload_n dX10_divides_5 rfl rfl ?_
  refine s_getR dX10_divides_6 flX10_50 rn0 rk0 rfl rr0_18 ?_
  refine s_iconst dX10_divides_9 (by decide) ?_
  refine s_iald (x := (m2 14 4)) dX10_divides_10 rn14 rk14 rl14 (by decide) (by decide) rfl ?_
  refine s_istore_n dX10_divides_11 rfl (by decide) (L' := [vR 0, vI x1, vI x2, vI (m2 14 4), vU, vU]) rfl ?_
  refine s_aload_n dX10_divides_12 rfl rfl ?_
  refine s_getR dX10_divides_13 flX10_50 rn0 rk0 rfl rr0_18 ?_
  refine s_bipush dX10_divides_16 (by decide) ?_
  refine s_iald (x := (m2 14 7)) dX10_divides_18 rn14 rk14 rl14 (by decide) (by decide) rfl ?_
  refine s_istore dX10_divides_19 (by decide) (L' := [vR 0, vI x1, vI x2, vI (m2 14 4), vI (m2 14 7), vU]) rfl ?_
  refine s_aload_n dX10_divides_21 rfl rfl ?_
  refine s_getR dX10_divides_22 flX10_50 rn0 rk0 rfl rr0_18 ?_
  refine s_iconst dX10_divides_25 (by decide) ?_
  refine s_iload_n dX10_divides_26 rfl rfl ?_
  obtain ⟨m3, hm3⟩ : ∃ x : am_M, x = am_st m2 14 (am_up (m2 14) 4 x2) := ⟨_, rfl⟩
  have h := h m3 hm3
  refine s_iast dX10_divides_27 rn14 rk14 rl14 (by decide) (by decide) hm3.symm ?_
  refine s_aload_n dX10_divides_28 rfl rfl ?_
  refine s_getR dX10_divides_29 flX10_50 rn0 rk0 rfl rr0_18 ?_
  refine s_bipush dX10_divides_32 (by decide) ?_
  refine s_iconst dX10_divides_34 (by decide) ?_
  obtain ⟨m4, hm4⟩ : ∃ x : am_M, x = am_st m3 14 (am_up (m3 14) 7 0) := ⟨_, rfl⟩
  have h := h m4 hm4
  refine s_iast dX10_divides_35 rn14 rk14 rl14 (by decide) (by decide) hm4.symm ?_
  refine s_aload_n dX10_divides_36 rfl rfl ?_
  obtain ⟨P, hcl, h⟩ := h
  refine s_callV (As := []) (rest := []) (k := 0) dX10_divides_37 lkX10_181 rn0 ⟨by rw [rk0]; rfl, by rw [rk0]; decide⟩ lmX10_shortens rfl rfl (Nat.le_of_ble_eq_true rfl) (by decide) (Nat.le_refl 0) (Nat.le_refl 0) (hC := hcl) (fun r n2 S2 m6 hP => ?_)
  obtain ⟨⟨rfl, rfl⟩, rfl, hq⟩ := hP
  have h := h m6 hq
  refine s_iconst dX10_divides_40 (by decide) ?_
  refine s_istore dX10_divides_41 (by decide) (L' := [vR 0, vI x1, vI x2, vI (m2 14 4), vI (m2 14 7), vI 0]) rfl ?_
  exact h
theorem vc_X10_divides_43 {x1 x2 x3 x4 x5 : Int} {μ : am_M} {Q : Int → am_M → Prop} (h : (8 ≤ x5 → (am_in (μ 14 1 + x2)) ∧ (∀ m1 : am_M, m1 = am_st μ 14 (am_up (μ 14) 1 (μ 14 1 + x2)) → (am_in (μ 14 3 + x2)) ∧ (∀ m2 : am_M, m2 = am_st m1 14 (am_up (m1 14) 3 (μ 14 3 + x2)) → (am_in (x3 - x2)) ∧ (∀ m3 : am_M, m3 = am_st m2 14 (am_up (m2 14) 4 (x3 - x2)) → ∀ m4 : am_M, m4 = am_st m3 14 (am_up (m3 14) 6 0) → ∀ m5 : am_M, m5 = am_st m4 14 (am_up (m4 14) 7 x4) → ∃ P : am_M → Prop, cl_V kR 1 mX10_shortens [vR 0] m5 P ∧ (∀ m7 : am_M, P m7 → ∃ P : Int → am_M → Prop, cl_I kR 2 mX10_lays [vR 0] m7 P ∧ (∀ (z8 : Int) (m9 : am_M), P z8 m9 → Q z8 m9)))))) ∧ (x5 < 8 → (am_in (8 * x1)) ∧ ((am_in (26 + (8 * x1))) ∧ ((am_in ((26 + (8 * x1)) + x5)) ∧ ((0 ≤ x5) ∧ (x5 < 8) ∧ ((0 ≤ (26 + (8 * x1)) + x5) ∧ ((26 + (8 * x1)) + x5 < 470) ∧ (∀ m10 : am_M, m10 = am_st μ 1 (am_up (μ 1) ((26 + (8 * x1)) + x5).toNat (μ 14 ((x5).toNat))) → (am_in (x5 + 1)) ∧ (at_I kR 3 mX10_divides 43 [vR 0, vI x1, vI x2, vI x3, vI x4, vI (x5 + 1)] [] m10 Q)))))))) : at_I kR 3 mX10_divides 43 [vR 0, vI x1, vI x2, vI x3, vI x4, vI x5] [] μ Q := by
  refine s_iload dX10_divides_43 rfl ?_
  refine s_bipush dX10_divides_45 (by decide) ?_
  refine s_icmp_ge dX10_divides_47 (tgt := 78) (by decide) (fun cc => ?_) (fun cc => ?_)
  · have h := h.1 cc
    refine s_aload_n dX10_divides_78 rfl rfl ?_
    refine s_getR dX10_divides_79 flX10_50 rn0 rk0 rfl rr0_18 ?_
    refine s_iconst dX10_divides_82 (by decide) ?_
    refine s_dup2 dX10_divides_83 ?_
    refine s_iald (x := (μ 14 1)) dX10_divides_84 rn14 rk14 rl14 (by decide) (by decide) rfl ?_
    refine s_iload_n dX10_divides_85 rfl rfl ?_
    obtain ⟨c, h⟩ := h
    refine s_iadd dX10_divides_86 (am_w_id c) ?_
    obtain ⟨m1, hm1⟩ : ∃ x : am_M, x = am_st μ 14 (am_up (μ 14) 1 (μ 14 1 + x2)) := ⟨_, rfl⟩
    have h := h m1 hm1
    refine s_iast dX10_divides_87 rn14 rk14 rl14 (by decide) (by decide) hm1.symm ?_
    refine s_aload_n dX10_divides_88 rfl rfl ?_
    refine s_getR dX10_divides_89 flX10_50 rn0 rk0 rfl rr0_18 ?_
    refine s_iconst dX10_divides_92 (by decide) ?_
    refine s_dup2 dX10_divides_93 ?_
    refine s_iald (x := (μ 14 3)) dX10_divides_94 rn14 rk14 rl14 (by decide) (by decide) (by subst hm1; rfl) ?_
    refine s_iload_n dX10_divides_95 rfl rfl ?_
    obtain ⟨c, h⟩ := h
    refine s_iadd dX10_divides_96 (am_w_id c) ?_
    obtain ⟨m2, hm2⟩ : ∃ x : am_M, x = am_st m1 14 (am_up (m1 14) 3 (μ 14 3 + x2)) := ⟨_, rfl⟩
    have h := h m2 hm2
    refine s_iast dX10_divides_97 rn14 rk14 rl14 (by decide) (by decide) hm2.symm ?_
    refine s_aload_n dX10_divides_98 rfl rfl ?_
    refine s_getR dX10_divides_99 flX10_50 rn0 rk0 rfl rr0_18 ?_
    refine s_iconst dX10_divides_102 (by decide) ?_
    refine s_iload_n dX10_divides_103 rfl rfl ?_
    refine s_iload_n dX10_divides_104 rfl rfl ?_
    obtain ⟨c, h⟩ := h
    refine s_isub dX10_divides_105 (am_w_id c) ?_
    obtain ⟨m3, hm3⟩ : ∃ x : am_M, x = am_st m2 14 (am_up (m2 14) 4 (x3 - x2)) := ⟨_, rfl⟩
    have h := h m3 hm3
    refine s_iast dX10_divides_106 rn14 rk14 rl14 (by decide) (by decide) hm3.symm ?_
    refine s_aload_n dX10_divides_107 rfl rfl ?_
    refine s_getR dX10_divides_108 flX10_50 rn0 rk0 rfl rr0_18 ?_
    refine s_bipush dX10_divides_111 (by decide) ?_
    refine s_iconst dX10_divides_113 (by decide) ?_
    obtain ⟨m4, hm4⟩ : ∃ x : am_M, x = am_st m3 14 (am_up (m3 14) 6 0) := ⟨_, rfl⟩
    have h := h m4 hm4
    refine s_iast dX10_divides_114 rn14 rk14 rl14 (by decide) (by decide) hm4.symm ?_
    refine s_aload_n dX10_divides_115 rfl rfl ?_
    refine s_getR dX10_divides_116 flX10_50 rn0 rk0 rfl rr0_18 ?_
    refine s_bipush dX10_divides_119 (by decide) ?_
    refine s_iload dX10_divides_121 rfl ?_
    obtain ⟨m5, hm5⟩ : ∃ x : am_M, x = am_st m4 14 (am_up (m4 14) 7 x4) := ⟨_, rfl⟩
    have h := h m5 hm5
    refine s_iast dX10_divides_123 rn14 rk14 rl14 (by decide) (by decide) hm5.symm ?_
    refine s_aload_n dX10_divides_124 rfl rfl ?_
    obtain ⟨P, hcl, h⟩ := h
    refine s_callV (As := []) (rest := []) (k := 0) dX10_divides_125 lkX10_181 rn0 ⟨by rw [rk0]; rfl, by rw [rk0]; decide⟩ lmX10_shortens rfl rfl (Nat.le_of_ble_eq_true rfl) (by decide) (Nat.le_refl 0) (Nat.le_refl 0) (hC := hcl) (fun r n2 S2 m7 hP => ?_)
    obtain ⟨⟨rfl, rfl⟩, rfl, hq⟩ := hP
    have h := h m7 hq
    refine s_aload_n dX10_divides_128 rfl rfl ?_
    obtain ⟨P, hcl, h⟩ := h
    refine s_callV (As := []) (rest := []) (k := 0) dX10_divides_129 lkX10_162 rn0 ⟨by rw [rk0]; rfl, by rw [rk0]; decide⟩ lmX10_lays rfl rfl (Nat.le_of_ble_eq_true rfl) (by decide) (Nat.le_refl 0) (Nat.le_refl 0) (hC := hcl) (fun r n2 S2 m9 hP => ?_)
    obtain ⟨⟨rfl, rfl⟩, z8, rfl, hq⟩ := hP
    have h := h z8 m9 hq
    exact s_ireturn dX10_divides_132 (Or.inl rfl) ⟨⟨rfl, rfl⟩, _, rfl, h⟩
  · have h := h.2 cc
    refine s_aload_n dX10_divides_50 rfl rfl ?_
    refine s_getR dX10_divides_51 flX10_9 rn0 rk0 rfl rr0_0 ?_
    refine s_bipush dX10_divides_54 (by decide) ?_
    refine s_bipush dX10_divides_56 (by decide) ?_
    refine s_iload_n dX10_divides_58 rfl rfl ?_
    obtain ⟨c, h⟩ := h
    refine s_imul dX10_divides_59 (am_w_id c) ?_
    obtain ⟨c, h⟩ := h
    refine s_iadd dX10_divides_60 (am_w_id c) ?_
    refine s_iload dX10_divides_61 rfl ?_
    obtain ⟨c, h⟩ := h
    refine s_iadd dX10_divides_63 (am_w_id c) ?_
    refine s_aload_n dX10_divides_64 rfl rfl ?_
    refine s_getR dX10_divides_65 flX10_50 rn0 rk0 rfl rr0_18 ?_
    refine s_iload dX10_divides_68 rfl ?_
    obtain ⟨c, c2, h⟩ := h
    refine s_iald (x := (μ 14 ((x5).toNat))) dX10_divides_70 rn14 rk14 rl14 c c2 rfl ?_
    obtain ⟨c, c2, h⟩ := h
    obtain ⟨m10, hm10⟩ : ∃ x : am_M, x = am_st μ 1 (am_up (μ 1) ((26 + (8 * x1)) + x5).toNat (μ 14 ((x5).toNat))) := ⟨_, rfl⟩
    have h := h m10 hm10
    refine s_iast dX10_divides_71 rn1 rk1 rl1 c c2 hm10.symm ?_
    obtain ⟨c, h⟩ := h
    refine s_iinc dX10_divides_72 rfl (am_w_id c) (by decide) (L' := [vR 0, vI x1, vI x2, vI x3, vI x4, vI (x5 + 1)]) rfl ?_
    refine s_goto dX10_divides_75 (tgt := 43) (by decide) ?_
    exact h
theorem ve_X10_divides {x1 x2 : Int} {μ : am_M} {Q : Int → am_M → Prop} (h : at_I kR 3 mX10_divides 0 [vR 0, vI x1, vI x2, vU, vU, vU] [] μ Q) : cl_I kR 3 mX10_divides [vR 0, vI x1, vI x2] μ Q := am_intro pmX10_divides (Nat.le_of_ble_eq_true rfl) rfl h
theorem sp_X10_divides {μ : am_M} {A B : List Rw} {r : Rw} {c f : Int} (ht : tr_ μ (A ++ r :: B)) (hc : c = A.length) (hl : (A ++ r :: B).length ≤ 40) (hr : okC r) (ha : ∀ a ∈ A, bfr_ a r ∧ 1 ≤ a 4) (hb : ∀ b ∈ B, bfr_ r b) (hf : 0 < f ∧ f < r 4) : cl_I kR 3 mX10_divides [vR 0, vI c, vI f] μ (fun z m => z = c + 1 ∧ fr_ [1, 14] μ m ∧ fv_ μ m ∧ tr_ m (A ++ spl1 r f :: spl2 r f :: B)) := by
  have hll : (A ++ r :: B).length = A.length + 1 + B.length := by simp; omega
  have k8 : ∀ k : Int, 0 ≤ k → k < 8 → k = 0 ∨ k = 1 ∨ k = 2 ∨ k = 3 ∨ k = 4 ∨ k = 5 ∨ k = 6 ∨ k = 7 := fun k _ _ => by omega
  have hr2 := hr
  unfold okC in_ at hr2
  refine ve_X10_divides (vc_X10_divides_0 ⟨_, sp_X10_takes (by (try unfold am_in); (try unfold in_ at *); omega), fun m2 ⟨f2, e2⟩ m3 e3 m4 e4 => ?_⟩)
  have v := fun k k0 k1 => tr_at (k := k) ht hc k0 k1
  have em2 : em_ m2 r := fun k k0 k1 => (e2 k k0 k1).trans (v k k0 k1)
  obtain ⟨-, -, -, -, x4, -, -, x7⟩ := em_0 em2
  have em3 : em_ m3 (fun k => if k = 4 then f else r k) := em_up (j := 4) em2 (by rw [e3, st_s]) (fun k k0 k1 => by rcases k8 k k0 k1 with rfl | rfl | rfl | rfl | rfl | rfl | rfl | rfl <;> simp)
  have em4 : em_ m4 (fun k => if k = 7 then 0 else if k = 4 then f else r k) := em_up (j := 7) em3 (by rw [e4, st_s]) (fun k k0 k1 => by rcases k8 k k0 k1 with rfl | rfl | rfl | rfl | rfl | rfl | rfl | rfl <;> simp)
  have f4 : fr_ [14] μ m4 := by rw [e4, e3]; exact fr_tr f2 (fr_tr (fr_st (by simp)) (fr_st (by simp)))
  refine ⟨_, sp_X10_shortens em4 (by simp; ((try unfold am_in); (try unfold in_ at *); omega)) (by simp; ((try unfold am_in); (try unfold in_ at *); omega)) (by simp; ((try unfold am_in); (try unfold in_ at *); omega)), fun m6 ⟨f6, e6⟩ => ?_⟩
  have em6 : em_ m6 (spl1 r f) := fun k k0 k1 => by
    rw [e6 k k0 k1]
    rcases k8 k k0 k1 with rfl | rfl | rfl | rfl | rfl | rfl | rfl | rfl <;> simp [shR, spl1] <;> (repeat' split) <;> omega
  have f6' := fr_tr f4 f6
  have ht6 : tr_ m6 (A ++ r :: B) := tr_r1 (f6' 1 (by decide)) ht
  rw [x4, x7]
  have : ∀ (j : Nat) (x : Int) (m : am_M), x + j = 8 → 0 ≤ x → wr_c m6 m c (spl1 r f) x → at_I kR 3 mX10_divides 43 [vR 0, vI c, vI f, vI (r 4), vI (r 7), vI x] [] m (fun z m => z = c + 1 ∧ fr_ [1, 14] μ m ∧ fv_ μ m ∧ tr_ m (A ++ spl1 r f :: spl2 r f :: B)) := by
    intro j
    induction j with
    | zero =>
      intro x m hx x0 hw
      have ex : x = 8 := by omega
      subst ex
      obtain ⟨g1, g2, g3⟩ := wr_e hw ht6 hc (by omega)
      have em : em_ m (spl1 r f) := em_fr g1 (by decide) em6
      obtain ⟨-, y1, -, y3, -⟩ := em_0 em
      have z1 : spl1 r f 1 = r 1 := by simp [spl1]
      have z3 : spl1 r f 3 = r 3 := by simp [spl1]
      rw [z1] at y1
      rw [z3] at y3
      refine vc_X10_divides_43 ⟨fun _ => ⟨by rw [y1]; ((try unfold am_in); (try unfold in_ at *); omega), fun m1 e1 => ⟨by rw [y3]; ((try unfold am_in); (try unfold in_ at *); omega), fun m2 e2 => ⟨(by (try unfold am_in); (try unfold in_ at *); omega), fun m3 e3 m4 e4 m5 e5 => ?_⟩⟩⟩, fun q => by omega⟩
      rw [y1] at e1
      rw [y3] at e2
      have em1 : em_ m1 (fun k => if k = 1 then r 1 + f else spl1 r f k) := em_up (j := 1) em (by rw [e1, st_s]) (fun k k0 k1 => by rcases k8 k k0 k1 with rfl | rfl | rfl | rfl | rfl | rfl | rfl | rfl <;> simp)
      have em2 : em_ m2 (fun k => if k = 3 then r 3 + f else if k = 1 then r 1 + f else spl1 r f k) := em_up (j := 3) em1 (by rw [e2, st_s]) (fun k k0 k1 => by rcases k8 k k0 k1 with rfl | rfl | rfl | rfl | rfl | rfl | rfl | rfl <;> simp)
      have em3 : em_ m3 (fun k => if k = 4 then r 4 - f else if k = 3 then r 3 + f else if k = 1 then r 1 + f else spl1 r f k) := em_up (j := 4) em2 (by rw [e3, st_s]) (fun k k0 k1 => by rcases k8 k k0 k1 with rfl | rfl | rfl | rfl | rfl | rfl | rfl | rfl <;> simp)
      have em4 : em_ m4 (fun k => if k = 6 then 0 else if k = 4 then r 4 - f else if k = 3 then r 3 + f else if k = 1 then r 1 + f else spl1 r f k) := em_up (j := 6) em3 (by rw [e4, st_s]) (fun k k0 k1 => by rcases k8 k k0 k1 with rfl | rfl | rfl | rfl | rfl | rfl | rfl | rfl <;> simp)
      have em5 : em_ m5 (fun k => if k = 7 then r 7 else if k = 6 then 0 else if k = 4 then r 4 - f else if k = 3 then r 3 + f else if k = 1 then r 1 + f else spl1 r f k) := em_up (j := 7) em4 (by rw [e5, st_s]) (fun k k0 k1 => by rcases k8 k k0 k1 with rfl | rfl | rfl | rfl | rfl | rfl | rfl | rfl <;> simp)
      have f5 : fr_ [14] m m5 := by rw [e5, e4, e3, e2, e1]; exact fr_tr (fr_st (by simp)) (fr_tr (fr_st (by simp)) (fr_tr (fr_st (by simp)) (fr_tr (fr_st (by simp)) (fr_st (by simp)))))
      refine ⟨_, sp_X10_shortens em5 (by simp; ((try unfold am_in); (try unfold in_ at *); omega)) (by simp; ((try unfold am_in); (try unfold in_ at *); omega)) (by simp; ((try unfold am_in); (try unfold in_ at *); omega)), fun m7 ⟨f7, e7⟩ => ?_⟩
      have em7 : em_ m7 (spl2 r f) := fun k k0 k1 => by
        rw [e7 k k0 k1]
        rcases k8 k k0 k1 with rfl | rfl | rfl | rfl | rfl | rfl | rfl | rfl <;> simp [shR, spl1, spl2] <;> (repeat' split) <;> omega
      have f7' := fr_tr f5 f7
      have g3' : tr_ m7 ((A ++ [spl1 r f]) ++ B) := tr_r1 (f7' 1 (by decide)) (by simpa using g3)
      have l7 : ((A ++ [spl1 r f]) ++ B).length ≤ 47 := by simp; omega
      refine ⟨_, sp_X10_lays g3' em7 l7, fun z8 m9 ⟨hz, f9, v9, t9⟩ => ?_⟩
      have ia := ins_at (r := spl2 r f) (A := A ++ [spl1 r f]) (B := B) (fun a qa => by
        unfold lsR
        simp only [decide_eq_true_eq]
        have w0 : spl2 r f 0 = r 0 := by simp [spl2]
        have w1 : spl2 r f 1 = r 1 + f := by simp [spl2]
        rw [w0, w1]
        rcases List.mem_append.mp qa with qa | qa
        · have := ha a qa
          unfold bfr_ at this
          omega
        · simp at qa
          rw [qa]
          right
          simp [spl1]
          omega) (fun b qb => by
        unfold lsR
        simp only [decide_eq_false_iff_not]
        have w0 : spl2 r f 0 = r 0 := by simp [spl2]
        have w1 : spl2 r f 1 = r 1 + f := by simp [spl2]
        rw [w0, w1]
        have := hb b qb
        unfold bfr_ at this
        omega)
      rw [ia.1] at t9
      rw [ia.2] at hz
      refine ⟨by rw [hz, hc]; simp, ?_, ?_, by simpa using t9⟩
      · exact fr_tr (fr_tr (fr_tr (fr_up f6' (by simp)) (fr_up g1 (by simp))) (fr_up f7' (by simp))) (fr_up f9 (by simp))
      · exact fv_tr (fv_tr (fv_tr (fv_e (f6' 1 (by decide))) g2) (fv_e (f7' 1 (by decide)))) v9
    | succ j ih =>
      intro x m hx x0 hw
      refine vc_X10_divides_43 ⟨fun q => by omega, fun q => ⟨(by (try unfold am_in); (try unfold in_ at *); omega), (by (try unfold am_in); (try unfold in_ at *); omega), (by (try unfold am_in); (try unfold in_ at *); omega), x0, q, by omega, by omega, fun m2 e2 => ⟨(by (try unfold am_in); (try unfold in_ at *); omega), ih (x + 1) m2 (by omega) (by omega) (wr_s hw (by omega) x0 em6 q e2)⟩⟩⟩
  exact this 8 0 m6 (by omega) (by omega) wr_0
theorem vc_X10_crossing_0 {x1 : Int} {μ : am_M} {Q : Int → am_M → Prop} (h : at_I kR 2 mX10_crossing 4 [vR 0, vI x1, vI 0, vI 0] [] μ Q) : at_I kR 2 mX10_crossing 0 [vR 0, vI x1, vU, vU] [] μ Q := by
  refine s_iconst dX10_crossing_0 (by decide) ?_
  refine s_istore_n dX10_crossing_1 rfl (by decide) (L' := [vR 0, vI x1, vI 0, vU]) rfl ?_
  refine s_iconst dX10_crossing_2 (by decide) ?_
  refine s_istore_n dX10_crossing_3 rfl (by decide) (L' := [vR 0, vI x1, vI 0, vI 0]) rfl ?_
  exact h
theorem vc_X10_crossing_4 {x1 x2 x3 : Int} {μ : am_M} {Q : Int → am_M → Prop} (h : (μ 1 25 ≤ x3 → Q x2 μ) ∧ (x3 < μ 1 25 → (in_ 0 48 x3) ∧ (in_ 0 8 1) ∧ (((rg μ x3 1 < x1 → (in_ 0 48 x3) ∧ (in_ 0 8 1) ∧ ((in_ 0 48 x3) ∧ (in_ 0 8 4) ∧ ((am_in (rg μ x3 1 + (rg μ x3 4))))))) ∧ (∀ v1 : Int, v1 = (if rg μ x3 1 < x1 then (if x1 < rg μ x3 1 + (rg μ x3 4) then 1 else 0) else 0) → (am_in (x2 + v1)) ∧ ((am_in (x3 + 1)) ∧ (at_I kR 2 mX10_crossing 4 [vR 0, vI x1, vI (x2 + v1), vI (x3 + 1)] [] μ Q)))))) : at_I kR 2 mX10_crossing 4 [vR 0, vI x1, vI x2, vI x3] [] μ Q := by
  refine s_iload_n dX10_crossing_4 rfl rfl ?_
  refine s_aload_n dX10_crossing_5 rfl rfl ?_
  refine s_getR dX10_crossing_6 flX10_9 rn0 rk0 rfl rr0_0 ?_
  refine s_bipush dX10_crossing_9 (by decide) ?_
  refine s_iald (x := (μ 1 25)) dX10_crossing_11 rn1 rk1 rl1 (by decide) (by decide) rfl ?_
  refine s_icmp_ge dX10_crossing_12 (tgt := 56) (by decide) (fun cc => ?_) (fun cc => ?_)
  · have h := h.1 cc
    refine s_iload_n dX10_crossing_56 rfl rfl ?_
    exact s_ireturn dX10_crossing_57 (Or.inl rfl) ⟨⟨rfl, rfl⟩, _, rfl, h⟩
  · have h := h.2 cc
    refine s_iload_n dX10_crossing_15 rfl rfl ?_
    refine s_aload_n dX10_crossing_16 rfl rfl ?_
    refine s_iload_n dX10_crossing_17 rfl rfl ?_
    refine s_iconst dX10_crossing_18 (by decide) ?_
    obtain ⟨p0, p1, h⟩ := h
    refine s_callV (As := [vI x3, vI 1]) (rest := [vI x2]) (k := 0) dX10_crossing_19 lkX10_126 rn0 ⟨by rw [rk0]; rfl, by rw [rk0]; decide⟩ lmX10_of rfl rfl (Nat.le_of_ble_eq_true rfl) (by decide) (Nat.le_refl 0) (Nat.le_refl 0) (hC := sp_X10_of (Q := fun z m => rg μ x3 1 = z ∧ μ = m) p0 p1 ⟨rfl, rfl⟩) (fun r n2 S2 m2 hP => ?_)
    obtain ⟨⟨rfl, rfl⟩, z, rfl, rfl, rfl⟩ := hP
    refine s_iload_n dX10_crossing_22 rfl rfl ?_
    obtain ⟨hsd, h⟩ := h
    have kj2 : ∀ (v1 : Int), ((am_in (x2 + v1)) ∧ ((am_in (x3 + 1)) ∧ (at_I kR 2 mX10_crossing 4 [vR 0, vI x1, vI (x2 + v1), vI (x3 + 1)] [] μ Q))) → at_I kR 2 mX10_crossing 48 [vR 0, vI x1, vU, vI x3] [vI v1, vI x2] μ Q := by
      intro v1 h
      obtain ⟨c, h⟩ := h
      refine s_iadd dX10_crossing_48 (am_w_id c) ?_
      refine s_istore_n dX10_crossing_49 rfl (by decide) (L' := [vR 0, vI x1, vI (x2 + v1), vI x3]) rfl ?_
      obtain ⟨c, h⟩ := h
      refine s_iinc dX10_crossing_50 rfl (am_w_id c) (by decide) (L' := [vR 0, vI x1, vI (x2 + v1), vI (x3 + 1)]) rfl ?_
      refine s_goto dX10_crossing_53 (tgt := 4) (by decide) ?_
      exact h
    refine s_icmp_ge dX10_crossing_23 (tgt := 47) (by decide) (fun cc => ?_) (fun cc => ?_)
    · have hp0 := cc
      refine s_iconst dX10_crossing_47 (by decide) ?_
      exact am_lesS (kj2 0 (h 0 (by rw [if_neg (Int.not_lt.mpr hp0)]))) ⟨Or.inr rfl, Or.inr rfl, Or.inl rfl, Or.inr rfl, trivial⟩
    · have hp0 := cc
      have hsd := hsd hp0
      refine s_aload_n dX10_crossing_26 rfl rfl ?_
      refine s_iload_n dX10_crossing_27 rfl rfl ?_
      refine s_iconst dX10_crossing_28 (by decide) ?_
      obtain ⟨p0, p1, hsd⟩ := hsd
      refine s_callV (As := [vI x3, vI 1]) (rest := [vI x2]) (k := 0) dX10_crossing_29 lkX10_126 rn0 ⟨by rw [rk0]; rfl, by rw [rk0]; decide⟩ lmX10_of rfl rfl (Nat.le_of_ble_eq_true rfl) (by decide) (Nat.le_refl 0) (Nat.le_refl 0) (hC := sp_X10_of (Q := fun z m => rg μ x3 1 = z ∧ μ = m) p0 p1 ⟨rfl, rfl⟩) (fun r n2 S2 m2 hP => ?_)
      obtain ⟨⟨rfl, rfl⟩, z, rfl, rfl, rfl⟩ := hP
      refine s_aload_n dX10_crossing_32 rfl rfl ?_
      refine s_iload_n dX10_crossing_33 rfl rfl ?_
      refine s_iconst dX10_crossing_34 (by decide) ?_
      obtain ⟨p0, p1, hsd⟩ := hsd
      refine s_callV (As := [vI x3, vI 4]) (rest := [vI (rg μ x3 1), vI x2]) (k := 0) dX10_crossing_35 lkX10_126 rn0 ⟨by rw [rk0]; rfl, by rw [rk0]; decide⟩ lmX10_of rfl rfl (Nat.le_of_ble_eq_true rfl) (by decide) (Nat.le_refl 0) (Nat.le_refl 0) (hC := sp_X10_of (Q := fun z m => rg μ x3 4 = z ∧ μ = m) p0 p1 ⟨rfl, rfl⟩) (fun r n2 S2 m2 hP => ?_)
      obtain ⟨⟨rfl, rfl⟩, z, rfl, rfl, rfl⟩ := hP
      have c := hsd
      refine s_iadd dX10_crossing_38 (am_w_id c) ?_
      refine s_iload_n dX10_crossing_39 rfl rfl ?_
      refine s_icmp_le dX10_crossing_40 (tgt := 47) (by decide) (fun cc => ?_) (fun cc => ?_)
      · have hp1 := cc
        refine s_iconst dX10_crossing_47 (by decide) ?_
        exact am_lesS (kj2 0 (h 0 (by rw [if_pos hp0, if_neg (Int.not_lt.mpr hp1)]))) ⟨Or.inr rfl, Or.inr rfl, Or.inl rfl, Or.inr rfl, trivial⟩
      · have hp1 := cc
        refine s_iconst dX10_crossing_43 (by decide) ?_
        refine s_goto dX10_crossing_44 (tgt := 48) (by decide) ?_
        exact am_lesS (kj2 1 (h 1 (by rw [if_pos hp0, if_pos hp1]))) ⟨Or.inr rfl, Or.inr rfl, Or.inl rfl, Or.inr rfl, trivial⟩
theorem ve_X10_crossing {x1 : Int} {μ : am_M} {Q : Int → am_M → Prop} (h : at_I kR 2 mX10_crossing 0 [vR 0, vI x1, vU, vU] [] μ Q) : cl_I kR 2 mX10_crossing [vR 0, vI x1] μ Q := am_intro pmX10_crossing (Nat.le_of_ble_eq_true rfl) rfl h
theorem sp_X10_crossing {f : Int} {μ : am_M} (L : List Rw) {Q : Int → am_M → Prop} (ht : tr_ μ L) (hok : ∀ r ∈ L, okC r) (hl : L.length ≤ 40) (hQ : Q ((L.flatMap (spF f)).length - L.length) μ) : cl_I kR 2 mX10_crossing [vR 0, vI f] μ Q := by
  refine ve_X10_crossing (vc_X10_crossing_0 ?_)
  have : ∀ (B A : List Rw) (s x : Int), L = A ++ B → x = A.length → s = (A.flatMap (spF f)).length - A.length → 0 ≤ s → s ≤ x → at_I kR 2 mX10_crossing 4 [vR 0, vI f, vI s, vI x] [] μ Q := by
    intro B
    induction B with
    | nil =>
      intro A s x hA hx hs s0 s1
      rw [List.append_nil] at hA
      subst hA
      exact vc_X10_crossing_4 ⟨fun _ => by rw [hs]; exact hQ, fun q => by rw [ht.1] at q; omega⟩
    | cons r B ih =>
      intro A s x hA hx hs s0 s1
      have ht2 := ht
      rw [hA] at ht2
      have hn := tr_len ht2
      have hll : L.length = A.length + 1 + B.length := by rw [hA]; simp; omega
      have v := fun k k0 k1 => tr_at (k := k) ht2 hx k0 k1
      have o := hok r (by rw [hA]; simp)
      unfold okC in_ at o
      have l2 := spF_l2 f r
      refine vc_X10_crossing_4 ⟨fun q => by omega, fun q => ⟨(by (try unfold am_in); (try unfold in_ at *); omega), (by (try unfold am_in); (try unfold in_ at *); omega), ?_⟩⟩
      rw [v 1 (by omega) (by omega), v 4 (by omega) (by omega)]
      refine ⟨fun c => ⟨(by (try unfold am_in); (try unfold in_ at *); omega), (by (try unfold am_in); (try unfold in_ at *); omega), (by (try unfold am_in); (try unfold in_ at *); omega), (by (try unfold am_in); (try unfold in_ at *); omega), (by (try unfold am_in); (try unfold in_ at *); omega)⟩, fun v1 h1 => ?_⟩
      have hv1 : v1 = ((spF f r).length : Int) - 1 := by
        rw [l2, h1]
        by_cases c : r 1 < f ∧ f < r 1 + r 4
        · rw [cif_t c, if_pos c.1, if_pos c.2]; omega
        · rw [cif_f c]
          (repeat' split) <;> omega
      have b1 : 0 ≤ v1 ∧ v1 ≤ 1 := by rw [h1]; (repeat' split) <;> omega
      refine ⟨(by (try unfold am_in); (try unfold in_ at *); omega), (by (try unfold am_in); (try unfold in_ at *); omega), ih (A ++ [r]) _ _ (by rw [hA]; simp) (by simp; omega) ?_ (by omega) (by omega)⟩
      rw [List.flatMap_append, List.length_append, hs, hv1]
      simp
      omega
  exact this L [] 0 0 (by simp) rfl (by simp) (by omega) (by omega)
theorem srt_pt {A B : List Rw} {r : Rw} (h : srt_ (A ++ r :: B)) : (∀ a ∈ A, bfr_ a r) ∧ (∀ b ∈ B, bfr_ r b) ∧ srt_ (A ++ B) ∧ srt_ A ∧ srt_ B ∧ ∀ a ∈ A, ∀ b ∈ B, bfr_ a b := by
  have h1 := List.pairwise_append.mp h
  have h2 := List.pairwise_cons.mp h1.2.1
  exact ⟨fun a ha => h1.2.2 a ha r (by simp), h2.1, List.pairwise_append.mpr ⟨h1.1, h2.2, fun a ha b hb => h1.2.2 a ha b (by simp [hb])⟩, h1.1, h2.2, fun a ha b hb => h1.2.2 a ha b (by simp [hb])⟩
/-- parts in the place of a row keep the order -/
theorem srt_sub {A B C : List Rw} {r : Rw} (h : srt_ (A ++ r :: B)) (hC : srt_ C) (hin : ∀ x ∈ C, x 0 = r 0 ∧ r 1 ≤ x 1 ∧ x 1 + x 4 ≤ r 1 + r 4) : srt_ (A ++ (C ++ B)) := by
  obtain ⟨h1, h2, -, h3, h4, h5⟩ := srt_pt h
  refine List.pairwise_append.mpr ⟨h3, List.pairwise_append.mpr ⟨hC, h4, fun x hx b hb => ?_⟩, fun a ha y hy => ?_⟩
  · have := hin x hx
    have := h2 b hb
    unfold bfr_ at *
    omega
  · rcases List.mem_append.mp hy with q | q
    · have := hin y q
      have := h1 a ha
      unfold bfr_ at *
      omega
    · exact h5 a ha y q
theorem vc_X10_dividesAll_0 {x1 : Int} {μ : am_M} {Q : am_M → Prop} (h : at_V kR 4 mX10_dividesAll 4 [vR 0, vI x1, vU, vI 0] [] μ Q) : at_V kR 4 mX10_dividesAll 0 [vR 0, vI x1, vU, vU] [] μ Q := by
  refine s_iconst dX10_dividesAll_0 (by decide) ?_
  refine s_istore_n dX10_dividesAll_1 rfl (by decide) (L' := [vR 0, vI x1, vI 0, vU]) rfl ?_
  refine s_iconst dX10_dividesAll_2 (by decide) ?_
  refine s_istore_n dX10_dividesAll_3 rfl (by decide) (L' := [vR 0, vI x1, vI 0, vI 0]) rfl ?_
  exact am_lesS h ⟨Or.inr rfl, Or.inr rfl, Or.inl rfl, Or.inr rfl, trivial⟩
theorem vc_X10_dividesAll_4 {x1 x3 : Int} {μ : am_M} {Q : am_M → Prop} (h : (μ 1 25 ≤ x3 → Q μ) ∧ (x3 < μ 1 25 → (in_ 0 48 x3) ∧ (in_ 0 8 1) ∧ ((x1 ≤ rg μ x3 1 → (am_in (x3 + 1)) ∧ (at_V kR 4 mX10_dividesAll 4 [vR 0, vI x1, vU, vI (x3 + 1)] [] μ Q)) ∧ (rg μ x3 1 < x1 → (in_ 0 48 x3) ∧ (in_ 0 8 1) ∧ ((in_ 0 48 x3) ∧ (in_ 0 8 4) ∧ ((am_in (rg μ x3 1 + (rg μ x3 4))) ∧ ((rg μ x3 1 + (rg μ x3 4) ≤ x1 → (am_in (x3 + 1)) ∧ (at_V kR 4 mX10_dividesAll 4 [vR 0, vI x1, vU, vI (x3 + 1)] [] μ Q)) ∧ (x1 < rg μ x3 1 + (rg μ x3 4) → (in_ 0 48 x3) ∧ (in_ 0 8 1) ∧ ((am_in (x1 - (rg μ x3 1))) ∧ (∃ P : Int → am_M → Prop, cl_I kR 3 mX10_divides [vR 0, vI x3, vI (x1 - (rg μ x3 1))] μ P ∧ (∀ (z1 : Int) (m2 : am_M), P z1 m2 → (am_in (x3 + 1)) ∧ (at_V kR 4 mX10_dividesAll 4 [vR 0, vI x1, vU, vI (x3 + 1)] [] m2 Q)))))))))))) : at_V kR 4 mX10_dividesAll 4 [vR 0, vI x1, vU, vI x3] [] μ Q := by
  refine s_iload_n dX10_dividesAll_4 rfl rfl ?_
  refine s_aload_n dX10_dividesAll_5 rfl rfl ?_
  refine s_getR dX10_dividesAll_6 flX10_9 rn0 rk0 rfl rr0_0 ?_
  refine s_bipush dX10_dividesAll_9 (by decide) ?_
  refine s_iald (x := (μ 1 25)) dX10_dividesAll_11 rn1 rk1 rl1 (by decide) (by decide) rfl ?_
  refine s_icmp_ge dX10_dividesAll_12 (tgt := 62) (by decide) (fun cc => ?_) (fun cc => ?_)
  · have h := h.1 cc
    exact s_return dX10_dividesAll_62 rfl ⟨⟨rfl, rfl⟩, rfl, h⟩
  · have h := h.2 cc
    refine s_aload_n dX10_dividesAll_15 rfl rfl ?_
    refine s_iload_n dX10_dividesAll_16 rfl rfl ?_
    refine s_iconst dX10_dividesAll_17 (by decide) ?_
    obtain ⟨p0, p1, h⟩ := h
    refine s_callV (As := [vI x3, vI 1]) (rest := []) (k := 0) dX10_dividesAll_18 lkX10_126 rn0 ⟨by rw [rk0]; rfl, by rw [rk0]; decide⟩ lmX10_of rfl rfl (Nat.le_of_ble_eq_true rfl) (by decide) (Nat.le_refl 0) (Nat.le_refl 0) (hC := sp_X10_of (Q := fun z m => rg μ x3 1 = z ∧ μ = m) p0 p1 ⟨rfl, rfl⟩) (fun r n2 S2 m2 hP => ?_)
    obtain ⟨⟨rfl, rfl⟩, z, rfl, rfl, rfl⟩ := hP
    refine s_iload_n dX10_dividesAll_21 rfl rfl ?_
    refine s_icmp_ge dX10_dividesAll_22 (tgt := 56) (by decide) (fun cc => ?_) (fun cc => ?_)
    · have h := h.1 cc
      obtain ⟨c, h⟩ := h
      refine s_iinc dX10_dividesAll_56 rfl (am_w_id c) (by decide) (L' := [vR 0, vI x1, vU, vI (x3 + 1)]) rfl ?_
      refine s_goto dX10_dividesAll_59 (tgt := 4) (by decide) ?_
      exact h
    · have h := h.2 cc
      refine s_aload_n dX10_dividesAll_25 rfl rfl ?_
      refine s_iload_n dX10_dividesAll_26 rfl rfl ?_
      refine s_iconst dX10_dividesAll_27 (by decide) ?_
      obtain ⟨p0, p1, h⟩ := h
      refine s_callV (As := [vI x3, vI 1]) (rest := []) (k := 0) dX10_dividesAll_28 lkX10_126 rn0 ⟨by rw [rk0]; rfl, by rw [rk0]; decide⟩ lmX10_of rfl rfl (Nat.le_of_ble_eq_true rfl) (by decide) (Nat.le_refl 0) (Nat.le_refl 0) (hC := sp_X10_of (Q := fun z m => rg μ x3 1 = z ∧ μ = m) p0 p1 ⟨rfl, rfl⟩) (fun r n2 S2 m2 hP => ?_)
      obtain ⟨⟨rfl, rfl⟩, z, rfl, rfl, rfl⟩ := hP
      refine s_aload_n dX10_dividesAll_31 rfl rfl ?_
      refine s_iload_n dX10_dividesAll_32 rfl rfl ?_
      refine s_iconst dX10_dividesAll_33 (by decide) ?_
      obtain ⟨p0, p1, h⟩ := h
      refine s_callV (As := [vI x3, vI 4]) (rest := [vI (rg μ x3 1)]) (k := 0) dX10_dividesAll_34 lkX10_126 rn0 ⟨by rw [rk0]; rfl, by rw [rk0]; decide⟩ lmX10_of rfl rfl (Nat.le_of_ble_eq_true rfl) (by decide) (Nat.le_refl 0) (Nat.le_refl 0) (hC := sp_X10_of (Q := fun z m => rg μ x3 4 = z ∧ μ = m) p0 p1 ⟨rfl, rfl⟩) (fun r n2 S2 m2 hP => ?_)
      obtain ⟨⟨rfl, rfl⟩, z, rfl, rfl, rfl⟩ := hP
      obtain ⟨c, h⟩ := h
      refine s_iadd dX10_dividesAll_37 (am_w_id c) ?_
      refine s_iload_n dX10_dividesAll_38 rfl rfl ?_
      refine s_icmp_le dX10_dividesAll_39 (tgt := 56) (by decide) (fun cc => ?_) (fun cc => ?_)
      · have h := h.1 cc
        obtain ⟨c, h⟩ := h
        refine s_iinc dX10_dividesAll_56 rfl (am_w_id c) (by decide) (L' := [vR 0, vI x1, vU, vI (x3 + 1)]) rfl ?_
        refine s_goto dX10_dividesAll_59 (tgt := 4) (by decide) ?_
        exact h
      · have h := h.2 cc
        refine s_aload_n dX10_dividesAll_42 rfl rfl ?_
        refine s_iload_n dX10_dividesAll_43 rfl rfl ?_
        refine s_iload_n dX10_dividesAll_44 rfl rfl ?_
        refine s_aload_n dX10_dividesAll_45 rfl rfl ?_
        refine s_iload_n dX10_dividesAll_46 rfl rfl ?_
        refine s_iconst dX10_dividesAll_47 (by decide) ?_
        obtain ⟨p0, p1, h⟩ := h
        refine s_callV (As := [vI x3, vI 1]) (rest := [vI x1, vI x3, vR 0]) (k := 0) dX10_dividesAll_48 lkX10_126 rn0 ⟨by rw [rk0]; rfl, by rw [rk0]; decide⟩ lmX10_of rfl rfl (Nat.le_of_ble_eq_true rfl) (by decide) (Nat.le_refl 0) (Nat.le_refl 0) (hC := sp_X10_of (Q := fun z m => rg μ x3 1 = z ∧ μ = m) p0 p1 ⟨rfl, rfl⟩) (fun r n2 S2 m2 hP => ?_)
        obtain ⟨⟨rfl, rfl⟩, z, rfl, rfl, rfl⟩ := hP
        obtain ⟨c, h⟩ := h
        refine s_isub dX10_dividesAll_51 (am_w_id c) ?_
        obtain ⟨P, hcl, h⟩ := h
        refine s_callV (As := [vI x3, vI (x1 - (rg μ x3 1))]) (rest := []) (k := 0) dX10_dividesAll_52 lkX10_184 rn0 ⟨by rw [rk0]; rfl, by rw [rk0]; decide⟩ lmX10_divides rfl rfl (Nat.le_of_ble_eq_true rfl) (by decide) (Nat.le_refl 0) (Nat.le_refl 0) (hC := hcl) (fun r n2 S2 m2 hP => ?_)
        obtain ⟨⟨rfl, rfl⟩, z1, rfl, hq⟩ := hP
        have h := h z1 m2 hq
        refine s_istore_n dX10_dividesAll_55 rfl (by decide) (L' := [vR 0, vI x1, vI z1, vI x3]) rfl ?_
        obtain ⟨c, h⟩ := h
        refine s_iinc dX10_dividesAll_56 rfl (am_w_id c) (by decide) (L' := [vR 0, vI x1, vI z1, vI (x3 + 1)]) rfl ?_
        refine s_goto dX10_dividesAll_59 (tgt := 4) (by decide) ?_
        exact am_lesS h ⟨Or.inr rfl, Or.inr rfl, Or.inl rfl, Or.inr rfl, trivial⟩
theorem ve_X10_dividesAll {x1 : Int} {μ : am_M} {Q : am_M → Prop} (h : at_V kR 4 mX10_dividesAll 0 [vR 0, vI x1, vU, vU] [] μ Q) : cl_V kR 4 mX10_dividesAll [vR 0, vI x1] μ Q := am_intro pmX10_dividesAll (Nat.le_of_ble_eq_true rfl) rfl h
theorem sp_X10_dividesAll {f : Int} {μ : am_M} (L : List Rw) (ht : tr_ μ L) (hok : ∀ r ∈ L, okC r) (hs : srt_ L) (hf : in_ 0 601 f) (hl : (L.flatMap (spF f)).length ≤ 40) : cl_V kR 4 mX10_dividesAll [vR 0, vI f] μ (fun m => fr_ [1, 14] μ m ∧ fv_ μ m ∧ tr_ m (L.flatMap (spF f))) := by
  refine ve_X10_dividesAll (vc_X10_dividesAll_0 ?_)
  have : ∀ (n : Nat) (B A : List Rw) (x : Int) (m : am_M), (B.flatMap (spF f)).length = n → L.flatMap (spF f) = A ++ B.flatMap (spF f) → x = A.length → fr_ [1, 14] μ m → fv_ μ m → tr_ m (A ++ B) → srt_ (A ++ B) → (∀ r ∈ A ++ B, okC r) → at_V kR 4 mX10_dividesAll 4 [vR 0, vI f, vU, vI x] [] m (fun m => fr_ [1, 14] μ m ∧ fv_ μ m ∧ tr_ m (L.flatMap (spF f))) := by
    intro n
    induction n with
    | zero =>
      intro B A x m hn hL hx g1 g2 g3 g4 g5
      have : B = [] := by
        cases B with
        | nil => rfl
        | cons b B =>
          rw [List.flatMap_cons, List.length_append] at hn
          have := spF_len f b
          omega
      subst this
      simp at hL g3
      refine vc_X10_dividesAll_4 ⟨fun _ => ⟨g1, g2, by rw [hL]; exact g3⟩, fun q => by rw [g3.1] at q; omega⟩
    | succ n ih =>
      intro B A x m hn hL hx g1 g2 g3 g4 g5
      cases B with
      | nil => simp at hn
      | cons b B =>
        have hlen : A.length + (spF f b).length + (B.flatMap (spF f)).length ≤ 40 := by
          rw [hL] at hl
          simp at hl
          simp
          omega
        have hB := flat_len (spF_len f) B
        have hb1 := spF_len f b
        rw [List.flatMap_cons, List.length_append] at hn
        have hln := tr_len g3
        have hll : (A ++ b :: B).length = A.length + 1 + B.length := by simp; omega
        have v := fun k k0 k1 => tr_at (k := k) g3 hx k0 k1
        have o := g5 b (by simp)
        have o2 := o
        unfold okC in_ at o2
        have keep : spF f b = [b] → at_V kR 4 mX10_dividesAll 4 [vR 0, vI f, vU, vI (x + 1)] [] m (fun m => fr_ [1, 14] μ m ∧ fv_ μ m ∧ tr_ m (L.flatMap (spF f))) := fun e => by
          have l1 : (spF f b).length = 1 := by rw [e]; rfl
          refine ih B (A ++ [b]) (x + 1) m (by omega) (by rw [hL, List.flatMap_cons, e]; simp) (by simp; omega) g1 g2 (by simpa using g3) (by simpa using g4) (by simpa using g5)
        refine vc_X10_dividesAll_4 ⟨fun q => by omega, fun q => ⟨(by (try unfold am_in); (try unfold in_ at *); omega), (by (try unfold am_in); (try unfold in_ at *); omega), ?_⟩⟩
        rw [v 1 (by omega) (by omega), v 4 (by omega) (by omega)]
        refine ⟨fun c => ⟨(by (try unfold am_in); (try unfold in_ at *); omega), keep (by unfold spF; rw [if_neg (by omega)])⟩, fun c => ⟨(by (try unfold am_in); (try unfold in_ at *); omega), (by (try unfold am_in); (try unfold in_ at *); omega), (by (try unfold am_in); (try unfold in_ at *); omega), (by (try unfold am_in); (try unfold in_ at *); omega), (by (try unfold am_in); (try unfold in_ at *); omega), fun c2 => ⟨(by (try unfold am_in); (try unfold in_ at *); omega), keep (by unfold spF; rw [if_neg (by omega)])⟩, fun c2 => ⟨(by (try unfold am_in); (try unfold in_ at *); omega), (by (try unfold am_in); (try unfold in_ at *); omega), (by (try unfold am_in); (try unfold in_ at *); omega), ?_⟩⟩⟩
        have e : spF f b = [spl1 b (f - b 1), spl2 b (f - b 1)] := by unfold spF; rw [if_pos ⟨c, c2⟩]
        have e' : spF f (spl2 b (f - b 1)) = [spl2 b (f - b 1)] := by unfold spF; rw [if_neg (by simp [spl2]; omega)]
        obtain ⟨p1, p2, -, -, -, -⟩ := srt_pt g4
        have l2 : (spF f b).length = 2 := by rw [e]; rfl
        refine ⟨_, sp_X10_divides g3 hx (by omega) o (fun a ha => ⟨p1 a ha, by
          have := g5 a (by simp [ha])
          unfold okC in_ at this
          omega⟩) p2 ⟨by omega, by omega⟩, fun z m2 ⟨_, f2, v2, t2⟩ => ⟨(by (try unfold am_in); (try unfold in_ at *); omega), ?_⟩⟩
        have sp := spF_sr (f := f) o
        have si := fun x hx => spF_in (f := f) (r := b) (x := x) hx
        have so := o.sp f
        rw [e] at sp si so
        have s2 := srt_sub g4 sp si
        refine ih (spl2 b (f - b 1) :: B) (A ++ [spl1 b (f - b 1)]) (x + 1) m2 (by rw [List.flatMap_cons, e', List.length_append]; show 1 + _ = _; omega) (by rw [hL, List.flatMap_cons, e, List.flatMap_cons, e']; simp) (by simp; omega) (fr_tr g1 f2) (fv_tr g2 v2) (by simpa using t2) (by simpa using s2) (fun y hy => ?_)
        simp only [List.append_assoc, List.singleton_append, List.mem_append, List.mem_cons] at hy
        rcases hy with hy | hy | hy | hy
        · exact g5 y (by simp [hy])
        · exact so y (by simp [hy])
        · exact so y (by simp [hy])
        · exact g5 y (by simp [hy])
  exact this _ L [] 0 μ rfl (by simp) rfl fr_rf fv_rf (by simpa using ht) (by simpa using hs) (by simpa using hok)

/-! a copy of a project -/
def pjL : List Nat := [1, 10, 19, 30, 39, 48, 57, 66, 75, 84, 93, 102, 111, 120]
theorem pj_k0A : ∀ a ∈ pjL, (kC.2 a).1 = 4 := by decide +kernel
theorem pj_k0 {a : Nat} (h : a ∈ pjL) : (kC.2 a).1 = 4 := pj_k0A a h
theorem pj_n0A : ∀ a ∈ pjL, a < kC.1 := by decide +kernel
theorem pj_n0 {a : Nat} (h : a ∈ pjL) : a < kC.1 := pj_n0A a h
theorem pj_r0_0A : ∀ a ∈ pjL, (kC.2 a).2.2 0 = (a + 1) + 1 := by decide +kernel
theorem pj_r0_0 {a : Nat} (h : a ∈ pjL) : (kC.2 a).2.2 0 = (a + 1) + 1 := pj_r0_0A a h
theorem pj_r0_1A : ∀ a ∈ pjL, (kC.2 a).2.2 1 = (a + 2) + 1 := by decide +kernel
theorem pj_r0_1 {a : Nat} (h : a ∈ pjL) : (kC.2 a).2.2 1 = (a + 2) + 1 := pj_r0_1A a h
theorem pj_r0_2A : ∀ a ∈ pjL, (kC.2 a).2.2 2 = (a + 3) + 1 := by decide +kernel
theorem pj_r0_2 {a : Nat} (h : a ∈ pjL) : (kC.2 a).2.2 2 = (a + 3) + 1 := pj_r0_2A a h
theorem pj_r0_3A : ∀ a ∈ pjL, (kC.2 a).2.2 3 = (a + 4) + 1 := by decide +kernel
theorem pj_r0_3 {a : Nat} (h : a ∈ pjL) : (kC.2 a).2.2 3 = (a + 4) + 1 := pj_r0_3A a h
theorem pj_r0_4A : ∀ a ∈ pjL, (kC.2 a).2.2 4 = (a + 6) + 1 := by decide +kernel
theorem pj_r0_4 {a : Nat} (h : a ∈ pjL) : (kC.2 a).2.2 4 = (a + 6) + 1 := pj_r0_4A a h
theorem pj_k1A : ∀ a ∈ pjL, (kC.2 (a + 1)).1 = 11 := by decide +kernel
theorem pj_k1 {a : Nat} (h : a ∈ pjL) : (kC.2 (a + 1)).1 = 11 := pj_k1A a h
theorem pj_n1A : ∀ a ∈ pjL, (a + 1) < kC.1 := by decide +kernel
theorem pj_n1 {a : Nat} (h : a ∈ pjL) : (a + 1) < kC.1 := pj_n1A a h
theorem pj_l1A : ∀ a ∈ pjL, (kC.2 (a + 1)).2.1 = 5 := by decide +kernel
theorem pj_l1 {a : Nat} (h : a ∈ pjL) : (kC.2 (a + 1)).2.1 = 5 := pj_l1A a h
theorem pj_k2A : ∀ a ∈ pjL, (kC.2 (a + 2)).1 = 11 := by decide +kernel
theorem pj_k2 {a : Nat} (h : a ∈ pjL) : (kC.2 (a + 2)).1 = 11 := pj_k2A a h
theorem pj_n2A : ∀ a ∈ pjL, (a + 2) < kC.1 := by decide +kernel
theorem pj_n2 {a : Nat} (h : a ∈ pjL) : (a + 2) < kC.1 := pj_n2A a h
theorem pj_l2A : ∀ a ∈ pjL, (kC.2 (a + 2)).2.1 = 28 := by decide +kernel
theorem pj_l2 {a : Nat} (h : a ∈ pjL) : (kC.2 (a + 2)).2.1 = 28 := pj_l2A a h
theorem pj_k3A : ∀ a ∈ pjL, (kC.2 (a + 3)).1 = 11 := by decide +kernel
theorem pj_k3 {a : Nat} (h : a ∈ pjL) : (kC.2 (a + 3)).1 = 11 := pj_k3A a h
theorem pj_n3A : ∀ a ∈ pjL, (a + 3) < kC.1 := by decide +kernel
theorem pj_n3 {a : Nat} (h : a ∈ pjL) : (a + 3) < kC.1 := pj_n3A a h
theorem pj_l3A : ∀ a ∈ pjL, (kC.2 (a + 3)).2.1 = 24 := by decide +kernel
theorem pj_l3 {a : Nat} (h : a ∈ pjL) : (kC.2 (a + 3)).2.1 = 24 := pj_l3A a h
theorem pj_k4A : ∀ a ∈ pjL, (kC.2 (a + 4)).1 = 1 := by decide +kernel
theorem pj_k4 {a : Nat} (h : a ∈ pjL) : (kC.2 (a + 4)).1 = 1 := pj_k4A a h
theorem pj_n4A : ∀ a ∈ pjL, (a + 4) < kC.1 := by decide +kernel
theorem pj_n4 {a : Nat} (h : a ∈ pjL) : (a + 4) < kC.1 := pj_n4A a h
theorem pj_r4_0A : ∀ a ∈ pjL, (kC.2 (a + 4)).2.2 0 = (a + 5) + 1 := by decide +kernel
theorem pj_r4_0 {a : Nat} (h : a ∈ pjL) : (kC.2 (a + 4)).2.2 0 = (a + 5) + 1 := pj_r4_0A a h
theorem pj_k5A : ∀ a ∈ pjL, (kC.2 (a + 5)).1 = 11 := by decide +kernel
theorem pj_k5 {a : Nat} (h : a ∈ pjL) : (kC.2 (a + 5)).1 = 11 := pj_k5A a h
theorem pj_n5A : ∀ a ∈ pjL, (a + 5) < kC.1 := by decide +kernel
theorem pj_n5 {a : Nat} (h : a ∈ pjL) : (a + 5) < kC.1 := pj_n5A a h
theorem pj_l5A : ∀ a ∈ pjL, (kC.2 (a + 5)).2.1 = 256 := by decide +kernel
theorem pj_l5 {a : Nat} (h : a ∈ pjL) : (kC.2 (a + 5)).2.1 = 256 := pj_l5A a h
theorem pj_k6A : ∀ a ∈ pjL, (kC.2 (a + 6)).1 = 0 := by decide +kernel
theorem pj_k6 {a : Nat} (h : a ∈ pjL) : (kC.2 (a + 6)).1 = 0 := pj_k6A a h
theorem pj_n6A : ∀ a ∈ pjL, (a + 6) < kC.1 := by decide +kernel
theorem pj_n6 {a : Nat} (h : a ∈ pjL) : (a + 6) < kC.1 := pj_n6A a h
theorem pj_r6_0A : ∀ a ∈ pjL, (kC.2 (a + 6)).2.2 0 = (a + 7) + 1 := by decide +kernel
theorem pj_r6_0 {a : Nat} (h : a ∈ pjL) : (kC.2 (a + 6)).2.2 0 = (a + 7) + 1 := pj_r6_0A a h
theorem pj_r6_1A : ∀ a ∈ pjL, (kC.2 (a + 6)).2.2 1 = (a + 8) + 1 := by decide +kernel
theorem pj_r6_1 {a : Nat} (h : a ∈ pjL) : (kC.2 (a + 6)).2.2 1 = (a + 8) + 1 := pj_r6_1A a h
theorem pj_k7A : ∀ a ∈ pjL, (kC.2 (a + 7)).1 = 11 := by decide +kernel
theorem pj_k7 {a : Nat} (h : a ∈ pjL) : (kC.2 (a + 7)).1 = 11 := pj_k7A a h
theorem pj_n7A : ∀ a ∈ pjL, (a + 7) < kC.1 := by decide +kernel
theorem pj_n7 {a : Nat} (h : a ∈ pjL) : (a + 7) < kC.1 := pj_n7A a h
theorem pj_l7A : ∀ a ∈ pjL, (kC.2 (a + 7)).2.1 = 12 := by decide +kernel
theorem pj_l7 {a : Nat} (h : a ∈ pjL) : (kC.2 (a + 7)).2.1 = 12 := pj_l7A a h
theorem pj_k8A : ∀ a ∈ pjL, (kC.2 (a + 8)).1 = 11 := by decide +kernel
theorem pj_k8 {a : Nat} (h : a ∈ pjL) : (kC.2 (a + 8)).1 = 11 := pj_k8A a h
theorem pj_n8A : ∀ a ∈ pjL, (a + 8) < kC.1 := by decide +kernel
theorem pj_n8 {a : Nat} (h : a ∈ pjL) : (a + 8) < kC.1 := pj_n8A a h
theorem pj_l8A : ∀ a ∈ pjL, (kC.2 (a + 8)).2.1 = 12 := by decide +kernel
theorem pj_l8 {a : Nat} (h : a ∈ pjL) : (kC.2 (a + 8)).2.1 = 12 := pj_l8A a h
theorem vc_X4_copy_0 {a b : Nat} (ha : a ∈ pjL) (hb : b ∈ pjL) {μ : am_M} {Q : am_M → Prop} (h : ∀ m1 : am_M, m1 = am_st μ (b + 1) (am_cp (μ (a + 1)) (μ (b + 1)) 0 0 5) → ∀ m2 : am_M, m2 = am_st m1 (b + 2) (am_cp (m1 (a + 2)) (m1 (b + 2)) 0 0 28) → ∀ m3 : am_M, m3 = am_st m2 (b + 3) (am_cp (m2 (a + 3)) (m2 (b + 3)) 0 0 24) → ∀ m4 : am_M, m4 = am_st m3 (b + 5) (am_cp (m3 (a + 5)) (m3 (b + 5)) 0 0 192) → ∀ m5 : am_M, m5 = am_st m4 (b + 7) (am_cp (m4 (a + 7)) (m4 (b + 7)) 0 0 12) → ∀ m6 : am_M, m6 = am_st m5 (b + 8) (am_cp (m5 (a + 8)) (m5 (b + 8)) 0 0 12) → ∀ m7 : am_M, m7 = am_st m6 b (am_up (m6 b) 5 (m6 a 5)) → ∀ m8 : am_M, m8 = am_st m7 (b + 4) (am_up (m7 (b + 4)) 1 (m7 (a + 4) 1)) → ∀ m9 : am_M, m9 = am_st m8 (b + 6) (am_up (m8 (b + 6)) 2 (m8 (a + 6) 2)) → Q m9) : at_V kC 1 mX4_copy 0 [vR a, vR b] [] μ Q := by
  refine s_aload_n dX4_copy_0 rfl rfl ?_
  refine s_ifnull dX4_copy_1 ?_
  refine s_aload_n dX4_copy_4 rfl rfl ?_
  refine s_ifnonnull dX4_copy_5 (tgt := 9) (by decide) ?_
  refine s_aload_n dX4_copy_9 rfl rfl ?_
  refine s_getR dX4_copy_10 flX4_9 (pj_n0 ha) (pj_k0 ha) rfl (pj_r0_0 ha) ?_
  refine s_iconst dX4_copy_13 (by decide) ?_
  refine s_aload_n dX4_copy_14 rfl rfl ?_
  refine s_getR dX4_copy_15 flX4_9 (pj_n0 hb) (pj_k0 hb) rfl (pj_r0_0 hb) ?_
  refine s_iconst dX4_copy_18 (by decide) ?_
  refine s_iconst dX4_copy_19 (by decide) ?_
  obtain ⟨m1, hm1⟩ : ∃ x : am_M, x = am_st μ (b + 1) (am_cp (μ (a + 1)) (μ (b + 1)) 0 0 5) := ⟨_, rfl⟩
  have h := h m1 hm1
  refine s_acopy dX4_copy_20 waX4_38 (pj_n1 ha) (pj_k1 ha) (pj_l1 ha) (pj_n1 hb) (pj_k1 hb) (pj_l1 hb) (Nat.le_of_ble_eq_true rfl) (by decide) (by decide) (by decide) (by decide) (by decide) (by decide) hm1.symm ?_
  refine s_aload_n dX4_copy_23 rfl rfl ?_
  refine s_getR dX4_copy_24 flX4_15 (pj_n0 ha) (pj_k0 ha) rfl (pj_r0_1 ha) ?_
  refine s_iconst dX4_copy_27 (by decide) ?_
  refine s_aload_n dX4_copy_28 rfl rfl ?_
  refine s_getR dX4_copy_29 flX4_15 (pj_n0 hb) (pj_k0 hb) rfl (pj_r0_1 hb) ?_
  refine s_iconst dX4_copy_32 (by decide) ?_
  refine s_bipush dX4_copy_33 (by decide) ?_
  obtain ⟨m2, hm2⟩ : ∃ x : am_M, x = am_st m1 (b + 2) (am_cp (m1 (a + 2)) (m1 (b + 2)) 0 0 28) := ⟨_, rfl⟩
  have h := h m2 hm2
  refine s_acopy dX4_copy_35 waX4_38 (pj_n2 ha) (pj_k2 ha) (pj_l2 ha) (pj_n2 hb) (pj_k2 hb) (pj_l2 hb) (Nat.le_of_ble_eq_true rfl) (by decide) (by decide) (by decide) (by decide) (by decide) (by decide) hm2.symm ?_
  refine s_aload_n dX4_copy_38 rfl rfl ?_
  refine s_getR dX4_copy_39 flX4_18 (pj_n0 ha) (pj_k0 ha) rfl (pj_r0_2 ha) ?_
  refine s_iconst dX4_copy_42 (by decide) ?_
  refine s_aload_n dX4_copy_43 rfl rfl ?_
  refine s_getR dX4_copy_44 flX4_18 (pj_n0 hb) (pj_k0 hb) rfl (pj_r0_2 hb) ?_
  refine s_iconst dX4_copy_47 (by decide) ?_
  refine s_bipush dX4_copy_48 (by decide) ?_
  obtain ⟨m3, hm3⟩ : ∃ x : am_M, x = am_st m2 (b + 3) (am_cp (m2 (a + 3)) (m2 (b + 3)) 0 0 24) := ⟨_, rfl⟩
  have h := h m3 hm3
  refine s_acopy dX4_copy_50 waX4_38 (pj_n3 ha) (pj_k3 ha) (pj_l3 ha) (pj_n3 hb) (pj_k3 hb) (pj_l3 hb) (Nat.le_of_ble_eq_true rfl) (by decide) (by decide) (by decide) (by decide) (by decide) (by decide) hm3.symm ?_
  refine s_aload_n dX4_copy_53 rfl rfl ?_
  refine s_getR dX4_copy_54 flX4_24 (pj_n0 ha) (pj_k0 ha) rfl (pj_r0_3 ha) ?_
  refine s_getR dX4_copy_57 flX4_47 (pj_n4 ha) (pj_k4 ha) rfl (pj_r4_0 ha) ?_
  refine s_iconst dX4_copy_60 (by decide) ?_
  refine s_aload_n dX4_copy_61 rfl rfl ?_
  refine s_getR dX4_copy_62 flX4_24 (pj_n0 hb) (pj_k0 hb) rfl (pj_r0_3 hb) ?_
  refine s_getR dX4_copy_65 flX4_47 (pj_n4 hb) (pj_k4 hb) rfl (pj_r4_0 hb) ?_
  refine s_iconst dX4_copy_68 (by decide) ?_
  refine s_sipush dX4_copy_69 (by decide) ?_
  obtain ⟨m4, hm4⟩ : ∃ x : am_M, x = am_st m3 (b + 5) (am_cp (m3 (a + 5)) (m3 (b + 5)) 0 0 192) := ⟨_, rfl⟩
  have h := h m4 hm4
  refine s_acopy dX4_copy_72 waX4_38 (pj_n5 ha) (pj_k5 ha) (pj_l5 ha) (pj_n5 hb) (pj_k5 hb) (pj_l5 hb) (Nat.le_of_ble_eq_true rfl) (by decide) (by decide) (by decide) (by decide) (by decide) (by decide) hm4.symm ?_
  refine s_aload_n dX4_copy_75 rfl rfl ?_
  refine s_getR dX4_copy_76 flX4_31 (pj_n0 ha) (pj_k0 ha) rfl (pj_r0_4 ha) ?_
  refine s_getR dX4_copy_79 flX4_50 (pj_n6 ha) (pj_k6 ha) rfl (pj_r6_0 ha) ?_
  refine s_iconst dX4_copy_82 (by decide) ?_
  refine s_aload_n dX4_copy_83 rfl rfl ?_
  refine s_getR dX4_copy_84 flX4_31 (pj_n0 hb) (pj_k0 hb) rfl (pj_r0_4 hb) ?_
  refine s_getR dX4_copy_87 flX4_50 (pj_n6 hb) (pj_k6 hb) rfl (pj_r6_0 hb) ?_
  refine s_iconst dX4_copy_90 (by decide) ?_
  refine s_bipush dX4_copy_91 (by decide) ?_
  obtain ⟨m5, hm5⟩ : ∃ x : am_M, x = am_st m4 (b + 7) (am_cp (m4 (a + 7)) (m4 (b + 7)) 0 0 12) := ⟨_, rfl⟩
  have h := h m5 hm5
  refine s_acopy dX4_copy_93 waX4_38 (pj_n7 ha) (pj_k7 ha) (pj_l7 ha) (pj_n7 hb) (pj_k7 hb) (pj_l7 hb) (Nat.le_of_ble_eq_true rfl) (by decide) (by decide) (by decide) (by decide) (by decide) (by decide) hm5.symm ?_
  refine s_aload_n dX4_copy_96 rfl rfl ?_
  refine s_getR dX4_copy_97 flX4_31 (pj_n0 ha) (pj_k0 ha) rfl (pj_r0_4 ha) ?_
  refine s_getR dX4_copy_100 flX4_53 (pj_n6 ha) (pj_k6 ha) rfl (pj_r6_1 ha) ?_
  refine s_iconst dX4_copy_103 (by decide) ?_
  refine s_aload_n dX4_copy_104 rfl rfl ?_
  refine s_getR dX4_copy_105 flX4_31 (pj_n0 hb) (pj_k0 hb) rfl (pj_r0_4 hb) ?_
  refine s_getR dX4_copy_108 flX4_53 (pj_n6 hb) (pj_k6 hb) rfl (pj_r6_1 hb) ?_
  refine s_iconst dX4_copy_111 (by decide) ?_
  refine s_bipush dX4_copy_112 (by decide) ?_
  obtain ⟨m6, hm6⟩ : ∃ x : am_M, x = am_st m5 (b + 8) (am_cp (m5 (a + 8)) (m5 (b + 8)) 0 0 12) := ⟨_, rfl⟩
  have h := h m6 hm6
  refine s_acopy dX4_copy_114 waX4_38 (pj_n8 ha) (pj_k8 ha) (pj_l8 ha) (pj_n8 hb) (pj_k8 hb) (pj_l8 hb) (Nat.le_of_ble_eq_true rfl) (by decide) (by decide) (by decide) (by decide) (by decide) (by decide) hm6.symm ?_
  refine s_aload_n dX4_copy_117 rfl rfl ?_
  refine s_aload_n dX4_copy_118 rfl rfl ?_
  refine s_getI (x := (m6 a 5)) dX4_copy_119 flX4_56 (pj_n0 ha) (pj_k0 ha) rfl rfl ?_
  obtain ⟨m7, hm7⟩ : ∃ x : am_M, x = am_st m6 b (am_up (m6 b) 5 (m6 a 5)) := ⟨_, rfl⟩
  have h := h m7 hm7
  refine s_putI dX4_copy_122 flX4_56 (pj_n0 hb) (pj_k0 hb) rfl rfl (Or.inl rfl) hm7.symm ?_
  refine s_aload_n dX4_copy_125 rfl rfl ?_
  refine s_getR dX4_copy_126 flX4_24 (pj_n0 hb) (pj_k0 hb) rfl (pj_r0_3 hb) ?_
  refine s_aload_n dX4_copy_129 rfl rfl ?_
  refine s_getR dX4_copy_130 flX4_24 (pj_n0 ha) (pj_k0 ha) rfl (pj_r0_3 ha) ?_
  refine s_getI (x := (m7 (a + 4) 1)) dX4_copy_133 flX4_60 (pj_n4 ha) (pj_k4 ha) rfl rfl ?_
  obtain ⟨m8, hm8⟩ : ∃ x : am_M, x = am_st m7 (b + 4) (am_up (m7 (b + 4)) 1 (m7 (a + 4) 1)) := ⟨_, rfl⟩
  have h := h m8 hm8
  refine s_putI dX4_copy_136 flX4_60 (pj_n4 hb) (pj_k4 hb) rfl rfl (Or.inl rfl) hm8.symm ?_
  refine s_aload_n dX4_copy_139 rfl rfl ?_
  refine s_getR dX4_copy_140 flX4_31 (pj_n0 hb) (pj_k0 hb) rfl (pj_r0_4 hb) ?_
  refine s_aload_n dX4_copy_143 rfl rfl ?_
  refine s_getR dX4_copy_144 flX4_31 (pj_n0 ha) (pj_k0 ha) rfl (pj_r0_4 ha) ?_
  refine s_getI (x := (m8 (a + 6) 2)) dX4_copy_147 flX4_63 (pj_n6 ha) (pj_k6 ha) rfl rfl ?_
  obtain ⟨m9, hm9⟩ : ∃ x : am_M, x = am_st m8 (b + 6) (am_up (m8 (b + 6)) 2 (m8 (a + 6) 2)) := ⟨_, rfl⟩
  have h := h m9 hm9
  refine s_putI dX4_copy_150 flX4_63 (pj_n6 hb) (pj_k6 hb) rfl rfl (Or.inl rfl) hm9.symm ?_
  exact s_return dX4_copy_153 rfl ⟨⟨rfl, rfl⟩, rfl, h⟩
theorem ve_X4_copy {a b : Nat} (ha : a ∈ pjL) (hb : b ∈ pjL) {μ : am_M} {Q : am_M → Prop} (h : at_V kC 1 mX4_copy 0 [vR a, vR b] [] μ Q) : cl_V kC 1 mX4_copy [vR a, vR b] μ Q := am_intro pmX4_copy (Nat.le_of_ble_eq_true rfl) rfl h
theorem pj_far : ∀ a ∈ pjL, ∀ b ∈ pjL, a = b ∨ a + 8 < b ∨ b + 8 < a := by decide
def pjC (b : Nat) : List Nat := [b, b + 1, b + 2, b + 3, b + 4, b + 5, b + 6, b + 7, b + 8]
theorem pjC_n {b k : Nat} (h : k ∉ pjC b) : k < b ∨ b + 8 < k := by
  unfold pjC at h
  simp at h
  omega
/-- project b in m is project a in μ -/
def pq_ (μ : am_M) (a : Nat) (m : am_M) (b : Nat) : Prop := m b 5 = μ a 5 ∧ m (b + 4) 1 = μ (a + 4) 1 ∧ m (b + 6) 2 = μ (a + 6) 2 ∧ (∀ i : Nat, i < 5 → m (b + 1) i = μ (a + 1) i) ∧ (∀ i : Nat, i < 28 → m (b + 2) i = μ (a + 2) i) ∧ (∀ i : Nat, i < 24 → m (b + 3) i = μ (a + 3) i) ∧ (∀ i : Nat, i < 192 → m (b + 5) i = μ (a + 5) i) ∧ (∀ i : Nat, i < 12 → m (b + 7) i = μ (a + 7) i) ∧ (∀ i : Nat, i < 12 → m (b + 8) i = μ (a + 8) i)
theorem pq_rf {μ : am_M} {a : Nat} : pq_ μ a μ a := ⟨rfl, rfl, rfl, fun _ _ => rfl, fun _ _ => rfl, fun _ _ => rfl, fun _ _ => rfl, fun _ _ => rfl, fun _ _ => rfl⟩
theorem pq_tr {μ m n : am_M} {a b c : Nat} (h : pq_ μ a m b) (g : pq_ m b n c) : pq_ μ a n c := by
  obtain ⟨h1, h2, h3, h4, h5, h6, h7, h8, h9⟩ := h
  obtain ⟨g1, g2, g3, g4, g5, g6, g7, g8, g9⟩ := g
  exact ⟨g1.trans h1, g2.trans h2, g3.trans h3, fun i q => (g4 i q).trans (h4 i q), fun i q => (g5 i q).trans (h5 i q), fun i q => (g6 i q).trans (h6 i q), fun i q => (g7 i q).trans (h7 i q), fun i q => (g8 i q).trans (h8 i q), fun i q => (g9 i q).trans (h9 i q)⟩
theorem pq_sy {μ m : am_M} {a b : Nat} (h : pq_ μ a m b) : pq_ m b μ a := by
  obtain ⟨h1, h2, h3, h4, h5, h6, h7, h8, h9⟩ := h
  exact ⟨h1.symm, h2.symm, h3.symm, fun i q => (h4 i q).symm, fun i q => (h5 i q).symm, fun i q => (h6 i q).symm, fun i q => (h7 i q).symm, fun i q => (h8 i q).symm, fun i q => (h9 i q).symm⟩
theorem pq_fr {ks : List Nat} {μ m : am_M} {a : Nat} (h : fr_ ks μ m) (hk : ∀ k ∈ ks, k < a ∨ a + 8 < k) : pq_ μ a m a := by
  have e : ∀ j, j ≤ 8 → m (a + j) = μ (a + j) := fun j hj => h (a + j) (fun q => by have := hk _ q; omega)
  have e0 := e 0 (by omega)
  rw [Nat.add_zero] at e0
  exact ⟨by rw [e0], by rw [e 4 (by omega)], by rw [e 6 (by omega)], fun i _ => by rw [e 1 (by omega)], fun i _ => by rw [e 2 (by omega)], fun i _ => by rw [e 3 (by omega)], fun i _ => by rw [e 5 (by omega)], fun i _ => by rw [e 7 (by omega)], fun i _ => by rw [e 8 (by omega)]⟩
theorem cp0 {g h : Nat → Int} {n : Int} {i : Nat} (hi : (i : Int) < n) : am_cp g h 0 0 n i = g i := by
  unfold am_cp
  rw [if_pos (by omega)]
  congr 1
  omega
theorem sp_X4_copy {μ : am_M} {a b : Nat} (ha : a ∈ pjL) (hb : b ∈ pjL) (hab : a ≠ b) : cl_V kC 1 mX4_copy [vR a, vR b] μ (fun m => fr_ (pjC b) μ m ∧ pq_ μ a m b) := by
  have far := pj_far a ha b hb
  refine ve_X4_copy ha hb (vc_X4_copy_0 ha hb (fun m1 e1 m2 e2 m3 e3 m4 e4 m5 e5 m6 e6 m7 e7 m8 e8 m9 e9 => ⟨fun k hk => ?_, ?_⟩))
  · have := pjC_n hk
    rw [e9, st_n (by omega), e8, st_n (by omega), e7, st_n (by omega), e6, st_n (by omega), e5, st_n (by omega), e4, st_n (by omega), e3, st_n (by omega), e2, st_n (by omega), e1, st_n (by omega)]
  · have k1 : m1 (b + 1) = am_cp (μ (a + 1)) (μ (b + 1)) 0 0 5 := by rw [e1, st_s]
    have k2 : m2 (b + 2) = am_cp (μ (a + 2)) (μ (b + 2)) 0 0 28 := by rw [e2, st_s, e1, st_n (by omega), st_n (by omega)]
    have k3 : m3 (b + 3) = am_cp (μ (a + 3)) (μ (b + 3)) 0 0 24 := by rw [e3, st_s, e2, st_n (by omega), st_n (by omega), e1, st_n (by omega), st_n (by omega)]
    have k4 : m4 (b + 5) = am_cp (μ (a + 5)) (μ (b + 5)) 0 0 192 := by rw [e4, st_s, e3, st_n (by omega), st_n (by omega), e2, st_n (by omega), st_n (by omega), e1, st_n (by omega), st_n (by omega)]
    have k5 : m5 (b + 7) = am_cp (μ (a + 7)) (μ (b + 7)) 0 0 12 := by rw [e5, st_s, e4, st_n (by omega), st_n (by omega), e3, st_n (by omega), st_n (by omega), e2, st_n (by omega), st_n (by omega), e1, st_n (by omega), st_n (by omega)]
    have k6 : m6 (b + 8) = am_cp (μ (a + 8)) (μ (b + 8)) 0 0 12 := by rw [e6, st_s, e5, st_n (by omega), st_n (by omega), e4, st_n (by omega), st_n (by omega), e3, st_n (by omega), st_n (by omega), e2, st_n (by omega), st_n (by omega), e1, st_n (by omega), st_n (by omega)]
    have a6 : ∀ k, k < b ∨ b + 8 < k ∨ k = b ∨ k = b + 4 ∨ k = b + 6 → m6 k = μ k := fun k hk => by
      rw [e6, st_n (by omega), e5, st_n (by omega), e4, st_n (by omega), e3, st_n (by omega), e2, st_n (by omega), e1, st_n (by omega)]
    have z7 : m7 b = am_up (m6 b) 5 (μ a 5) := by rw [e7, st_s, a6 a (by omega)]
    have z8 : m8 (b + 4) = am_up (m7 (b + 4)) 1 (μ (a + 4) 1) := by rw [e8, st_s, e7, st_n (show a + 4 ≠ b by omega), a6 (a + 4) (by omega)]
    have z9 : m9 (b + 6) = am_up (m8 (b + 6)) 2 (μ (a + 6) 2) := by rw [e9, st_s, e8, st_n (show a + 6 ≠ b + 4 by omega), e7, st_n (show a + 6 ≠ b by omega), a6 (a + 6) (by omega)]
    have t9 : ∀ k, k ≠ b + 6 → k ≠ b + 4 → k ≠ b → m9 k = m6 k := fun k q1 q2 q3 => by rw [e9, st_n q1, e8, st_n q2, e7, st_n q3]
    refine ⟨?_, ?_, ?_, fun i hi => ?_, fun i hi => ?_, fun i hi => ?_, fun i hi => ?_, fun i hi => ?_, fun i hi => ?_⟩
    · rw [e9, st_n (by omega), e8, st_n (by omega), z7, up_s]
    · rw [e9, st_n (by omega), z8, up_s]
    · rw [z9, up_s]
    · rw [t9 _ (by omega) (by omega) (by omega), e6, st_n (by omega), e5, st_n (by omega), e4, st_n (by omega), e3, st_n (by omega), e2, st_n (by omega), k1, cp0 (by omega)]
    · rw [t9 _ (by omega) (by omega) (by omega), e6, st_n (by omega), e5, st_n (by omega), e4, st_n (by omega), e3, st_n (by omega), k2, cp0 (by omega)]
    · rw [t9 _ (by omega) (by omega) (by omega), e6, st_n (by omega), e5, st_n (by omega), e4, st_n (by omega), k3, cp0 (by omega)]
    · rw [t9 _ (by omega) (by omega) (by omega), e6, st_n (by omega), e5, st_n (by omega), k4, cp0 (by omega)]
    · rw [t9 _ (by omega) (by omega) (by omega), e6, st_n (by omega), k5, cp0 (by omega)]
    · rw [t9 _ (by omega) (by omega) (by omega), k6, cp0 (by omega)]

/-! the reference carries a command out -/
/-- what a command of a text leaves -/
def dnR_ (ν m : am_M) (z : Int) (R : Int × Pj) : Prop := (z < 0 → R.1 = z) ∧ (0 ≤ z → 0 ≤ R.1 ∧ pe_ R.2 (pR m) ∧ 0 ≤ m 1 438) ∧ fr_ [1, 14] ν m
theorem dn_no {ν m : am_M} {z : Int} {R : Int × Pj} (f : fr_ [1, 14] ν m) (z0 : z < 0) (h : z = R.1) : dnR_ ν m z R := ⟨fun _ => h.symm, fun q => by omega, f⟩
theorem dn_ok {ν m : am_M} {z : Int} {R : Int × Pj} (f : fr_ [1, 14] ν m) (z0 : 0 ≤ z) (h : 0 ≤ R.1) (hp : pe_ R.2 (pR m)) (h4 : 0 ≤ m 1 438) : dnR_ ν m z R := ⟨fun q => by omega, fun _ => ⟨h, hp, h4⟩, f⟩
theorem dn_any {ν m : am_M} {z : Int} {R : Int × Pj} (f : fr_ [1, 14] ν m) (h : z = R.1) (hp : pe_ R.2 (pR m)) (h4 : 0 ≤ m 1 438) : dnR_ ν m z R := ⟨fun _ => h.symm, fun q => ⟨by omega, hp, h4⟩, f⟩
/-- a letter of a command -/
def ltr_ (c : Int) : Prop := c = 99 ∨ c = 100 ∨ c = 105 ∨ c = 109 ∨ c = 115 ∨ c = 120
theorem vc_X10_done_0 {x1 : Int} {μ : am_M} {Q : Int → am_M → Prop} (h : (0 ≤ x1) ∧ (x1 < 60) ∧ ((0 ≤ x1) ∧ (x1 < 60) ∧ ((0 ≤ x1) ∧ (x1 < 60) ∧ ((μ 18 ((x1).toNat) = 99 → ∃ P : Int → am_M → Prop, cl_I kR 2 mX10_laysChapter [vR 0, vI (μ 19 ((x1).toNat)), vI (μ 20 ((x1).toNat))] μ P ∧ (∀ (z1 : Int) (m2 : am_M), P z1 m2 → Q z1 m2)) ∧ (μ 18 ((x1).toNat) = 100 → (in_ 0 49 (μ 1 25)) ∧ ((0 ≤ (μ 19 ((x1).toNat)) ∧ (μ 19 ((x1).toNat)) < μ 1 25 → ∃ P : am_M → Prop, cl_V kR 1 mX10_drops [vR 0, vI (μ 19 ((x1).toNat))] μ P ∧ (∀ m4 : am_M, P m4 → Q 0 m4)) ∧ (¬ (0 ≤ (μ 19 ((x1).toNat)) ∧ (μ 19 ((x1).toNat)) < μ 1 25) → Q (-1) μ))) ∧ (μ 18 ((x1).toNat) = 105 → ∃ P : Int → am_M → Prop, cl_I kR 5 mX10_inserts [vR 0, vI (μ 19 ((x1).toNat)), vI (μ 20 ((x1).toNat))] μ P ∧ (∀ (z5 : Int) (m6 : am_M), P z5 m6 → Q z5 m6)) ∧ (μ 18 ((x1).toNat) = 115 → (in_ 0 49 (μ 1 25)) ∧ ((0 ≤ (μ 19 ((x1).toNat)) ∧ (μ 19 ((x1).toNat)) < μ 1 25 → (in_ 0 48 (μ 19 ((x1).toNat))) ∧ (in_ 0 8 4) ∧ ((am_in ((rg μ (μ 19 ((x1).toNat)) 4) - 1)) ∧ ((1 ≤ (μ 20 ((x1).toNat)) ∧ (μ 20 ((x1).toNat)) ≤ ((rg μ (μ 19 ((x1).toNat)) 4) - 1) → (μ 1 25 ≠ 24 → ∃ P : Int → am_M → Prop, cl_I kR 3 mX10_divides [vR 0, vI (μ 19 ((x1).toNat)), vI (μ 20 ((x1).toNat))] μ P ∧ (∀ (z7 : Int) (m8 : am_M), P z7 m8 → Q z7 m8)) ∧ (μ 1 25 = 24 → Q (-3) μ)) ∧ (¬ (1 ≤ (μ 20 ((x1).toNat)) ∧ (μ 20 ((x1).toNat)) ≤ ((rg μ (μ 19 ((x1).toNat)) 4) - 1)) → Q (-2) μ)))) ∧ (¬ (0 ≤ (μ 19 ((x1).toNat)) ∧ (μ 19 ((x1).toNat)) < μ 1 25) → Q (-1) μ))) ∧ (μ 18 ((x1).toNat) = 120 → ∃ P : Int → am_M → Prop, cl_I kR 5 mX10_cuts [vR 0, vI (μ 19 ((x1).toNat)), vI (μ 20 ((x1).toNat))] μ P ∧ (∀ (z9 : Int) (m10 : am_M), P z9 m10 → Q z9 m10)) ∧ (μ 18 ((x1).toNat) ≠ 99 → μ 18 ((x1).toNat) ≠ 100 → μ 18 ((x1).toNat) ≠ 105 → μ 18 ((x1).toNat) ≠ 115 → μ 18 ((x1).toNat) ≠ 120 → (in_ 0 49 (μ 1 25)) ∧ ((0 ≤ (μ 19 ((x1).toNat)) ∧ (μ 19 ((x1).toNat)) < μ 1 25 → (in_ 0 48 (μ 19 ((x1).toNat))) ∧ (in_ 0 8 4) ∧ ((am_in (600 - (rg μ (μ 19 ((x1).toNat)) 4))) ∧ ((0 ≤ (μ 20 ((x1).toNat)) ∧ (μ 20 ((x1).toNat)) ≤ (600 - (rg μ (μ 19 ((x1).toNat)) 4)) → ∃ P : am_M → Prop, cl_V kR 2 mX10_takes [vR 0, vI (μ 19 ((x1).toNat))] μ P ∧ (∀ m12 : am_M, P m12 → ∀ m13 : am_M, m13 = am_st m12 14 (am_up (m12 14) 1 (μ 20 ((x1).toNat))) → (ok_T (rg m13) (m13 1 25)) ∧ (am_in (m13 14 1 + m13 14 4)) ∧ ((¬ (¬ fre_ (rg m13) (m13 1 25) (m13 14 0) (m13 14 1) (m13 14 4) (μ 19 ((x1).toNat))) → ∃ P : am_M → Prop, cl_V kR 1 mX10_drops [vR 0, vI (μ 19 ((x1).toNat))] m13 P ∧ (∀ m15 : am_M, P m15 → ∃ P : Int → am_M → Prop, cl_I kR 2 mX10_lays [vR 0] m15 P ∧ (∀ (z16 : Int) (m17 : am_M), P z16 m17 → Q z16 m17))) ∧ (¬ fre_ (rg m13) (m13 1 25) (m13 14 0) (m13 14 1) (m13 14 4) (μ 19 ((x1).toNat)) → Q (-4) m13)))) ∧ (¬ (0 ≤ (μ 20 ((x1).toNat)) ∧ (μ 20 ((x1).toNat)) ≤ (600 - (rg μ (μ 19 ((x1).toNat)) 4))) → Q (-2) μ)))) ∧ (¬ (0 ≤ (μ 19 ((x1).toNat)) ∧ (μ 19 ((x1).toNat)) < μ 1 25) → Q (-1) μ))))))) : at_I kR 8 mX10_done 0 [vR 0, vI x1, vU, vU] [] μ Q := by
  refine s_aload_n dX10_done_0 rfl rfl ?_
  refine s_getR dX10_done_1 flX10_69 rn0 rk0 rfl rr0_29 ?_
  refine s_iload_n dX10_done_4 rfl rfl ?_
  obtain ⟨c, c2, h⟩ := h
  refine s_iald (x := (μ 19 ((x1).toNat))) dX10_done_5 rn19 rk19 rl19 c c2 rfl ?_
  refine s_istore_n dX10_done_6 rfl (by decide) (L' := [vR 0, vI x1, vI (μ 19 ((x1).toNat)), vU]) rfl ?_
  refine s_aload_n dX10_done_7 rfl rfl ?_
  refine s_getR dX10_done_8 flX10_72 rn0 rk0 rfl rr0_30 ?_
  refine s_iload_n dX10_done_11 rfl rfl ?_
  obtain ⟨c, c2, h⟩ := h
  refine s_iald (x := (μ 20 ((x1).toNat))) dX10_done_12 rn20 rk20 rl20 c c2 rfl ?_
  refine s_istore_n dX10_done_13 rfl (by decide) (L' := [vR 0, vI x1, vI (μ 19 ((x1).toNat)), vI (μ 20 ((x1).toNat))]) rfl ?_
  refine s_aload_n dX10_done_14 rfl rfl ?_
  refine s_getR dX10_done_15 flX10_66 rn0 rk0 rfl rr0_28 ?_
  refine s_iload_n dX10_done_18 rfl rfl ?_
  obtain ⟨c, c2, h⟩ := h
  refine s_iald (x := (μ 18 ((x1).toNat))) dX10_done_19 rn18 rk18 rl18 c c2 rfl ?_
  by_cases cc : μ 18 ((x1).toNat) = 99
  · have h := h.1 cc
    refine s_lookup dX10_done_20 (by decide) (by rw [cc] <;> rfl) (tgt := 86) (by decide) ?_
    refine s_aload_n dX10_done_86 rfl rfl ?_
    refine s_iload_n dX10_done_87 rfl rfl ?_
    refine s_iload_n dX10_done_88 rfl rfl ?_
    obtain ⟨P, hcl, h⟩ := h
    refine s_callV (As := [vI (μ 19 ((x1).toNat)), vI (μ 20 ((x1).toNat))]) (rest := []) (k := 0) dX10_done_89 lkX10_218 rn0 ⟨by rw [rk0]; rfl, by rw [rk0]; decide⟩ lmX10_laysChapter rfl rfl (Nat.le_of_ble_eq_true rfl) (by decide) (Nat.le_refl 0) (Nat.le_refl 0) (hC := hcl) (fun r n2 S2 m2 hP => ?_)
    obtain ⟨⟨rfl, rfl⟩, z1, rfl, hq⟩ := hP
    have h := h z1 m2 hq
    exact s_ireturn dX10_done_92 (Or.inl rfl) ⟨⟨rfl, rfl⟩, _, rfl, h⟩
  have n0 := cc
  have h := h.2
  by_cases cc : μ 18 ((x1).toNat) = 100
  · have h := h.1 cc
    refine s_lookup dX10_done_20 (by decide) (by rw [cc] <;> rfl) (tgt := 93) (by decide) ?_
    refine s_aload_n dX10_done_93 rfl rfl ?_
    refine s_iload_n dX10_done_94 rfl rfl ?_
    obtain ⟨p0, h⟩ := h
    refine s_callV (As := [vI (μ 19 ((x1).toNat))]) (rest := []) (k := 0) dX10_done_95 lkX10_165 rn0 ⟨by rw [rk0]; rfl, by rw [rk0]; decide⟩ lmX10_isClip rfl rfl (Nat.le_of_ble_eq_true rfl) (by decide) (Nat.le_refl 0) (Nat.le_refl 0) (hC := sp_X10_isClip (Q := fun z m => bI (0 ≤ (μ 19 ((x1).toNat)) ∧ (μ 19 ((x1).toNat)) < μ 1 25) = z ∧ μ = m) p0 ⟨rfl, rfl⟩) (fun r n2 S2 m2 hP => ?_)
    obtain ⟨⟨rfl, rfl⟩, z, rfl, rfl, rfl⟩ := hP
    refine s_if_ne dX10_done_98 (tgt := 103) (by decide) (fun cc => ?_) (fun cc => ?_)
    · have h := h.1 (bI_ne cc)
      refine s_aload_n dX10_done_103 rfl rfl ?_
      refine s_iload_n dX10_done_104 rfl rfl ?_
      obtain ⟨P, hcl, h⟩ := h
      refine s_callV (As := [vI (μ 19 ((x1).toNat))]) (rest := []) (k := 0) dX10_done_105 lkX10_172 rn0 ⟨by rw [rk0]; rfl, by rw [rk0]; decide⟩ lmX10_drops rfl rfl (Nat.le_of_ble_eq_true rfl) (by decide) (Nat.le_refl 0) (Nat.le_refl 0) (hC := hcl) (fun r n2 S2 m4 hP => ?_)
      obtain ⟨⟨rfl, rfl⟩, rfl, hq⟩ := hP
      have h := h m4 hq
      refine s_iconst dX10_done_108 (by decide) ?_
      exact s_ireturn dX10_done_109 (Or.inl rfl) ⟨⟨rfl, rfl⟩, _, rfl, h⟩
    · have h := h.2 (bI_eq cc)
      refine s_iconst dX10_done_101 (by decide) ?_
      exact s_ireturn dX10_done_102 (Or.inl rfl) ⟨⟨rfl, rfl⟩, _, rfl, h⟩
  have n1 := cc
  have h := h.2
  by_cases cc : μ 18 ((x1).toNat) = 105
  · have h := h.1 cc
    refine s_lookup dX10_done_20 (by decide) (by rw [cc] <;> rfl) (tgt := 79) (by decide) ?_
    refine s_aload_n dX10_done_79 rfl rfl ?_
    refine s_iload_n dX10_done_80 rfl rfl ?_
    refine s_iload_n dX10_done_81 rfl rfl ?_
    obtain ⟨P, hcl, h⟩ := h
    refine s_callV (As := [vI (μ 19 ((x1).toNat)), vI (μ 20 ((x1).toNat))]) (rest := []) (k := 0) dX10_done_82 lkX10_215 rn0 ⟨by rw [rk0]; rfl, by rw [rk0]; decide⟩ lmX10_inserts rfl rfl (Nat.le_of_ble_eq_true rfl) (by decide) (Nat.le_refl 0) (Nat.le_refl 0) (hC := hcl) (fun r n2 S2 m6 hP => ?_)
    obtain ⟨⟨rfl, rfl⟩, z5, rfl, hq⟩ := hP
    have h := h z5 m6 hq
    exact s_ireturn dX10_done_85 (Or.inl rfl) ⟨⟨rfl, rfl⟩, _, rfl, h⟩
  have n2 := cc
  have h := h.2
  by_cases cc : μ 18 ((x1).toNat) = 115
  · have h := h.1 cc
    refine s_lookup dX10_done_20 (by decide) (by rw [cc] <;> rfl) (tgt := 110) (by decide) ?_
    refine s_aload_n dX10_done_110 rfl rfl ?_
    refine s_iload_n dX10_done_111 rfl rfl ?_
    obtain ⟨p0, h⟩ := h
    refine s_callV (As := [vI (μ 19 ((x1).toNat))]) (rest := []) (k := 0) dX10_done_112 lkX10_165 rn0 ⟨by rw [rk0]; rfl, by rw [rk0]; decide⟩ lmX10_isClip rfl rfl (Nat.le_of_ble_eq_true rfl) (by decide) (Nat.le_refl 0) (Nat.le_refl 0) (hC := sp_X10_isClip (Q := fun z m => bI (0 ≤ (μ 19 ((x1).toNat)) ∧ (μ 19 ((x1).toNat)) < μ 1 25) = z ∧ μ = m) p0 ⟨rfl, rfl⟩) (fun r n2 S2 m2 hP => ?_)
    obtain ⟨⟨rfl, rfl⟩, z, rfl, rfl, rfl⟩ := hP
    refine s_if_ne dX10_done_115 (tgt := 120) (by decide) (fun cc => ?_) (fun cc => ?_)
    · have h := h.1 (bI_ne cc)
      refine s_iload_n dX10_done_120 rfl rfl ?_
      refine s_iconst dX10_done_121 (by decide) ?_
      refine s_aload_n dX10_done_122 rfl rfl ?_
      refine s_iload_n dX10_done_123 rfl rfl ?_
      refine s_iconst dX10_done_124 (by decide) ?_
      obtain ⟨p0, p1, h⟩ := h
      refine s_callV (As := [vI (μ 19 ((x1).toNat)), vI 4]) (rest := [vI 1, vI (μ 20 ((x1).toNat))]) (k := 0) dX10_done_125 lkX10_126 rn0 ⟨by rw [rk0]; rfl, by rw [rk0]; decide⟩ lmX10_of rfl rfl (Nat.le_of_ble_eq_true rfl) (by decide) (Nat.le_refl 0) (Nat.le_refl 0) (hC := sp_X10_of (Q := fun z m => rg μ (μ 19 ((x1).toNat)) 4 = z ∧ μ = m) p0 p1 ⟨rfl, rfl⟩) (fun r n2 S2 m2 hP => ?_)
      obtain ⟨⟨rfl, rfl⟩, z, rfl, rfl, rfl⟩ := hP
      refine s_iconst dX10_done_128 (by decide) ?_
      obtain ⟨c, h⟩ := h
      refine s_isub dX10_done_129 (am_w_id c) ?_
      refine s_callS (As := [vI (μ 20 ((x1).toNat)), vI 1, vI ((rg μ (μ 19 ((x1).toNat)) 4) - 1)]) (rest := []) dX10_done_130 lkX10_103 lmX10_isIn rfl rfl (Nat.le_of_ble_eq_true rfl) (by decide) (Nat.le_refl 0) (Nat.le_refl 0) (hC := sp_X10_isIn (Q := fun z m => bI (1 ≤ (μ 20 ((x1).toNat)) ∧ (μ 20 ((x1).toNat)) ≤ ((rg μ (μ 19 ((x1).toNat)) 4) - 1)) = z ∧ μ = m)  ⟨rfl, rfl⟩) (fun r n2 S2 m2 hP => ?_)
      obtain ⟨⟨rfl, rfl⟩, z, rfl, rfl, rfl⟩ := hP
      refine s_if_ne dX10_done_133 (tgt := 139) (by decide) (fun cc => ?_) (fun cc => ?_)
      · have h := h.1 (bI_ne cc)
        refine s_aload_n dX10_done_139 rfl rfl ?_
        refine s_getR dX10_done_140 flX10_9 rn0 rk0 rfl rr0_0 ?_
        refine s_bipush dX10_done_143 (by decide) ?_
        refine s_iald (x := (μ 1 25)) dX10_done_145 rn1 rk1 rl1 (by decide) (by decide) rfl ?_
        refine s_bipush dX10_done_146 (by decide) ?_
        refine s_icmp_ne dX10_done_148 (tgt := 156) (by decide) (fun cc => ?_) (fun cc => ?_)
        · have h := h.1 cc
          refine s_aload_n dX10_done_156 rfl rfl ?_
          refine s_iload_n dX10_done_157 rfl rfl ?_
          refine s_iload_n dX10_done_158 rfl rfl ?_
          obtain ⟨P, hcl, h⟩ := h
          refine s_callV (As := [vI (μ 19 ((x1).toNat)), vI (μ 20 ((x1).toNat))]) (rest := []) (k := 0) dX10_done_159 lkX10_184 rn0 ⟨by rw [rk0]; rfl, by rw [rk0]; decide⟩ lmX10_divides rfl rfl (Nat.le_of_ble_eq_true rfl) (by decide) (Nat.le_refl 0) (Nat.le_refl 0) (hC := hcl) (fun r n2 S2 m8 hP => ?_)
          obtain ⟨⟨rfl, rfl⟩, z7, rfl, hq⟩ := hP
          have h := h z7 m8 hq
          exact s_ireturn dX10_done_162 (Or.inl rfl) ⟨⟨rfl, rfl⟩, _, rfl, h⟩
        · have h := h.2 cc
          refine s_bipush dX10_done_151 (by decide) ?_
          refine s_goto dX10_done_153 (tgt := 162) (by decide) ?_
          exact s_ireturn dX10_done_162 (Or.inl rfl) ⟨⟨rfl, rfl⟩, _, rfl, h⟩
      · have h := h.2 (bI_eq cc)
        refine s_bipush dX10_done_136 (by decide) ?_
        exact s_ireturn dX10_done_138 (Or.inl rfl) ⟨⟨rfl, rfl⟩, _, rfl, h⟩
    · have h := h.2 (bI_eq cc)
      refine s_iconst dX10_done_118 (by decide) ?_
      exact s_ireturn dX10_done_119 (Or.inl rfl) ⟨⟨rfl, rfl⟩, _, rfl, h⟩
  have n3 := cc
  have h := h.2
  by_cases cc : μ 18 ((x1).toNat) = 120
  · have h := h.1 cc
    refine s_lookup dX10_done_20 (by decide) (by rw [cc] <;> rfl) (tgt := 72) (by decide) ?_
    refine s_aload_n dX10_done_72 rfl rfl ?_
    refine s_iload_n dX10_done_73 rfl rfl ?_
    refine s_iload_n dX10_done_74 rfl rfl ?_
    obtain ⟨P, hcl, h⟩ := h
    refine s_callV (As := [vI (μ 19 ((x1).toNat)), vI (μ 20 ((x1).toNat))]) (rest := []) (k := 0) dX10_done_75 lkX10_190 rn0 ⟨by rw [rk0]; rfl, by rw [rk0]; decide⟩ lmX10_cuts rfl rfl (Nat.le_of_ble_eq_true rfl) (by decide) (Nat.le_refl 0) (Nat.le_refl 0) (hC := hcl) (fun r n2 S2 m10 hP => ?_)
    obtain ⟨⟨rfl, rfl⟩, z9, rfl, hq⟩ := hP
    have h := h z9 m10 hq
    exact s_ireturn dX10_done_78 (Or.inl rfl) ⟨⟨rfl, rfl⟩, _, rfl, h⟩
  have n4 := cc
  have h := h.2
  have h := h n0 n1 n2 n3 n4
  refine s_lookup dX10_done_20 (by decide) (by simp [Op.lookupswitch.offset, n0, Ne.symm n0, n1, Ne.symm n1, n2, Ne.symm n2, n3, Ne.symm n3, n4, Ne.symm n4]; rfl) (tgt := 163) (by decide) ?_
  refine s_aload_n dX10_done_163 rfl rfl ?_
  refine s_iload_n dX10_done_164 rfl rfl ?_
  obtain ⟨p0, h⟩ := h
  refine s_callV (As := [vI (μ 19 ((x1).toNat))]) (rest := []) (k := 0) dX10_done_165 lkX10_165 rn0 ⟨by rw [rk0]; rfl, by rw [rk0]; decide⟩ lmX10_isClip rfl rfl (Nat.le_of_ble_eq_true rfl) (by decide) (Nat.le_refl 0) (Nat.le_refl 0) (hC := sp_X10_isClip (Q := fun z m => bI (0 ≤ (μ 19 ((x1).toNat)) ∧ (μ 19 ((x1).toNat)) < μ 1 25) = z ∧ μ = m) p0 ⟨rfl, rfl⟩) (fun r n2 S2 m2 hP => ?_)
  obtain ⟨⟨rfl, rfl⟩, z, rfl, rfl, rfl⟩ := hP
  refine s_if_ne dX10_done_168 (tgt := 173) (by decide) (fun cc => ?_) (fun cc => ?_)
  · have h := h.1 (bI_ne cc)
    refine s_iload_n dX10_done_173 rfl rfl ?_
    refine s_iconst dX10_done_174 (by decide) ?_
    refine s_sipush dX10_done_175 (by decide) ?_
    refine s_aload_n dX10_done_178 rfl rfl ?_
    refine s_iload_n dX10_done_179 rfl rfl ?_
    refine s_iconst dX10_done_180 (by decide) ?_
    obtain ⟨p0, p1, h⟩ := h
    refine s_callV (As := [vI (μ 19 ((x1).toNat)), vI 4]) (rest := [vI 600, vI 0, vI (μ 20 ((x1).toNat))]) (k := 0) dX10_done_181 lkX10_126 rn0 ⟨by rw [rk0]; rfl, by rw [rk0]; decide⟩ lmX10_of rfl rfl (Nat.le_of_ble_eq_true rfl) (by decide) (Nat.le_refl 0) (Nat.le_refl 0) (hC := sp_X10_of (Q := fun z m => rg μ (μ 19 ((x1).toNat)) 4 = z ∧ μ = m) p0 p1 ⟨rfl, rfl⟩) (fun r n2 S2 m2 hP => ?_)
    obtain ⟨⟨rfl, rfl⟩, z, rfl, rfl, rfl⟩ := hP
    obtain ⟨c, h⟩ := h
    refine s_isub dX10_done_184 (am_w_id c) ?_
    refine s_callS (As := [vI (μ 20 ((x1).toNat)), vI 0, vI (600 - (rg μ (μ 19 ((x1).toNat)) 4))]) (rest := []) dX10_done_185 lkX10_103 lmX10_isIn rfl rfl (Nat.le_of_ble_eq_true rfl) (by decide) (Nat.le_refl 0) (Nat.le_refl 0) (hC := sp_X10_isIn (Q := fun z m => bI (0 ≤ (μ 20 ((x1).toNat)) ∧ (μ 20 ((x1).toNat)) ≤ (600 - (rg μ (μ 19 ((x1).toNat)) 4))) = z ∧ μ = m)  ⟨rfl, rfl⟩) (fun r n2 S2 m2 hP => ?_)
    obtain ⟨⟨rfl, rfl⟩, z, rfl, rfl, rfl⟩ := hP
    refine s_if_ne dX10_done_188 (tgt := 194) (by decide) (fun cc => ?_) (fun cc => ?_)
    · have h := h.1 (bI_ne cc)
      refine s_aload_n dX10_done_194 rfl rfl ?_
      refine s_iload_n dX10_done_195 rfl rfl ?_
      obtain ⟨P, hcl, h⟩ := h
      refine s_callV (As := [vI (μ 19 ((x1).toNat))]) (rest := []) (k := 0) dX10_done_196 lkX10_168 rn0 ⟨by rw [rk0]; rfl, by rw [rk0]; decide⟩ lmX10_takes rfl rfl (Nat.le_of_ble_eq_true rfl) (by decide) (Nat.le_refl 0) (Nat.le_refl 0) (hC := hcl) (fun r n2 S2 m12 hP => ?_)
      obtain ⟨⟨rfl, rfl⟩, rfl, hq⟩ := hP
      have h := h m12 hq
      refine s_aload_n dX10_done_199 rfl rfl ?_
      refine s_getR dX10_done_200 flX10_50 rn0 rk0 rfl rr0_18 ?_
      refine s_iconst dX10_done_203 (by decide) ?_
      refine s_iload_n dX10_done_204 rfl rfl ?_
      obtain ⟨m13, hm13⟩ : ∃ x : am_M, x = am_st m12 14 (am_up (m12 14) 1 (μ 20 ((x1).toNat))) := ⟨_, rfl⟩
      have h := h m13 hm13
      refine s_iast dX10_done_205 rn14 rk14 rl14 (by decide) (by decide) hm13.symm ?_
      refine s_aload_n dX10_done_206 rfl rfl ?_
      refine s_iload_n dX10_done_207 rfl rfl ?_
      obtain ⟨p0, p1, h⟩ := h
      refine s_callV (As := [vI (μ 19 ((x1).toNat))]) (rest := []) (k := 0) dX10_done_208 lkX10_159 rn0 ⟨by rw [rk0]; rfl, by rw [rk0]; decide⟩ lmX10_isShared rfl rfl (Nat.le_of_ble_eq_true rfl) (by decide) (Nat.le_refl 0) (Nat.le_refl 0) (hC := sp_X10_isShared (Q := fun z m => bI (¬ fre_ (rg m13) (m13 1 25) (m13 14 0) (m13 14 1) (m13 14 4) (μ 19 ((x1).toNat))) = z ∧ m13 = m) p0 p1 ⟨rfl, rfl⟩) (fun r n2 S2 m2 hP => ?_)
      obtain ⟨⟨rfl, rfl⟩, z, rfl, rfl, rfl⟩ := hP
      refine s_if_eq dX10_done_211 (tgt := 217) (by decide) (fun cc => ?_) (fun cc => ?_)
      · have h := h.1 (bI_eq cc)
        refine s_aload_n dX10_done_217 rfl rfl ?_
        refine s_iload_n dX10_done_218 rfl rfl ?_
        obtain ⟨P, hcl, h⟩ := h
        refine s_callV (As := [vI (μ 19 ((x1).toNat))]) (rest := []) (k := 0) dX10_done_219 lkX10_172 rn0 ⟨by rw [rk0]; rfl, by rw [rk0]; decide⟩ lmX10_drops rfl rfl (Nat.le_of_ble_eq_true rfl) (by decide) (Nat.le_refl 0) (Nat.le_refl 0) (hC := hcl) (fun r n2 S2 m15 hP => ?_)
        obtain ⟨⟨rfl, rfl⟩, rfl, hq⟩ := hP
        have h := h m15 hq
        refine s_aload_n dX10_done_222 rfl rfl ?_
        obtain ⟨P, hcl, h⟩ := h
        refine s_callV (As := []) (rest := []) (k := 0) dX10_done_223 lkX10_162 rn0 ⟨by rw [rk0]; rfl, by rw [rk0]; decide⟩ lmX10_lays rfl rfl (Nat.le_of_ble_eq_true rfl) (by decide) (Nat.le_refl 0) (Nat.le_refl 0) (hC := hcl) (fun r n2 S2 m17 hP => ?_)
        obtain ⟨⟨rfl, rfl⟩, z16, rfl, hq⟩ := hP
        have h := h z16 m17 hq
        exact s_ireturn dX10_done_226 (Or.inl rfl) ⟨⟨rfl, rfl⟩, _, rfl, h⟩
      · have h := h.2 (bI_ne cc)
        refine s_bipush dX10_done_214 (by decide) ?_
        exact s_ireturn dX10_done_216 (Or.inl rfl) ⟨⟨rfl, rfl⟩, _, rfl, h⟩
    · have h := h.2 (bI_eq cc)
      refine s_bipush dX10_done_191 (by decide) ?_
      exact s_ireturn dX10_done_193 (Or.inl rfl) ⟨⟨rfl, rfl⟩, _, rfl, h⟩
  · have h := h.2 (bI_eq cc)
    refine s_iconst dX10_done_171 (by decide) ?_
    exact s_ireturn dX10_done_172 (Or.inl rfl) ⟨⟨rfl, rfl⟩, _, rfl, h⟩
theorem ve_X10_done {x1 : Int} {μ : am_M} {Q : Int → am_M → Prop} (h : at_I kR 8 mX10_done 0 [vR 0, vI x1, vU, vU] [] μ Q) : cl_I kR 8 mX10_done [vR 0, vI x1] μ Q := am_intro pmX10_done (Nat.le_of_ble_eq_true rfl) rfl h
theorem sp_X10_done {μ : am_M} {k : Int} {c : Cm} (hV : vR_ μ) (hk : in_ 0 60 k) (hc : ltr_ c.1) (h18 : μ 18 k.toNat = c.1) (h19 : μ 19 k.toNat = c.2.1) (h20 : c.1 = 100 ∨ μ 20 k.toNat = c.2.2) : cl_I kR 8 mX10_done [vR 0, vI k] μ (fun z m => dnR_ μ m z (o_cmd (pR μ) c)) := by
  obtain ⟨l, a, b⟩ := c
  simp only at hc h18 h19 h20
  have hv := pL_v hV.1
  have ht := trL hV
  have hz := hzL hV
  have hn := ht.1
  have h25 := vR_n hV
  have hH := vP_H hV.1
  unfold in_ at hk
  refine ve_X10_done (vc_X10_done_0 ?_)
  rw [h18, h19]
  refine ⟨hk.1, hk.2, hk.1, hk.2, hk.1, hk.2, fun e => ?_, fun e => ?_, fun e => ?_, fun e => ?_, fun e => ?_, fun e1 e2 e3 e4 e5 => ?_⟩
  · subst e
    rw [h20.resolve_left (by decide)]
    have e0 : o_cmd (pR μ) (99, a, b) = o_ent (pR μ) a b := by simp [o_cmd]
    rw [e0]
    refine ⟨_, sp_X10_laysChapter _ hz hV.1.hl, fun z m4 ⟨hz4, f4, fh4, h4⟩ => ?_⟩
    exact dn_any (fr_up f4 (by simp)) hz4 (peH hV h4 fh4) (hz_0 h4)
  · subst e
    have e0 : o_cmd (pR μ) (100, a, b) = o_rem (pR μ) a := by simp [o_cmd]
    rw [e0]
    unfold o_rem l_rem
    refine ⟨(by (try unfold am_in); (try unfold in_ at *); omega), fun q => ?_, fun q => dn_no fr_rf (by omega) (by rw [cif_t (by omega)]; rfl)⟩
    obtain ⟨A, r, B, e, hc, -, -, -, hll, -, h24⟩ := cl_at hV q.1 q.2
    rw [cif_f (by omega)]
    have ht2 : tr_ μ (A ++ r :: B) := by rw [← e]; exact ht
    refine ⟨_, sp_X10_drops ht2 hc (by rw [← e]; omega), fun m4 ⟨f4, v4, t4⟩ => ?_⟩
    refine dn_ok (fr_up f4 (by simp)) (by omega) (by show 0 ≤ ((pL (pR μ)).length : Int) - 1; omega) ?_ (hz_0 (hz_fv v4 hV.1.hl hz))
    show pe_ (wL (pR μ) ((pL (pR μ)).eraseIdx a.toNat)) (pR m4)
    rw [show (pL (pR μ)).eraseIdx a.toNat = A ++ B by rw [e]; exact er_at hc]
    exact peL hV t4 v4
  · subst e
    rw [h20.resolve_left (by decide)]
    have e0 : o_cmd (pR μ) (105, a, b) = o_ins (pR μ) a b := by simp [o_cmd]
    rw [e0]
    refine ⟨_, sp_X10_inserts _ _ ht hz hv.ok hv.2.1 hv.2.2 hH, fun z m4 ⟨hz4, f4, fe4, t4, h4⟩ => ?_⟩
    exact dn_any f4 hz4 (peLH hV t4 h4 fe4) (hz_0 h4)
  · subst e
    rw [h20.resolve_left (by decide)]
    have e0 : o_cmd (pR μ) (115, a, b) = o_div (pR μ) a b := by simp [o_cmd]
    rw [e0]
    unfold o_div l_div
    refine ⟨(by (try unfold am_in); (try unfold in_ at *); omega), fun q => ?_, fun q => dn_no fr_rf (by omega) (by rw [cif_t (by omega)]; rfl)⟩
    obtain ⟨A, r, B, e, hc, hg, o, v, hll, -, h24⟩ := cl_at hV q.1 q.2
    rw [cif_f (by omega), hg, v 4 (by omega) (by omega)]
    have o2 := o
    unfold okC in_ at o2
    refine ⟨(by (try unfold am_in); (try unfold in_ at *); omega), (by (try unfold am_in); (try unfold in_ at *); omega), (by (try unfold am_in); (try unfold in_ at *); omega), fun q2 => ⟨fun q3 => ?_, fun q3 => dn_no fr_rf (by omega) (by rw [cif_f (by omega), cif_t (by omega)]; rfl)⟩, fun q2 => dn_no fr_rf (by omega) (by rw [cif_t (by omega)]; rfl)⟩
    have ht2 : tr_ μ (A ++ r :: B) := by rw [← e]; exact ht
    have hs := hv.2.1
    have hl4 := hv.l4
    rw [e] at hs hl4
    obtain ⟨p1, p2, -, -, -, -⟩ := srt_pt hs
    refine ⟨_, sp_X10_divides ht2 hc (by rw [← e]; omega) o (fun a ha => ⟨p1 a ha, hl4 a (by simp [ha])⟩) p2 (by omega), fun z m4 ⟨hz4, f4, v4, t4⟩ => ?_⟩
    rw [cif_f (by omega), cif_f (by omega)]
    refine dn_any f4 hz4 ?_ (hz_0 (hz_fv v4 hV.1.hl hz))
    show pe_ (wL (pR μ) ((pL (pR μ)).take a.toNat ++ spl1 r b :: spl2 r b :: (pL (pR μ)).drop (a.toNat + 1))) (pR m4)
    rw [e, (td_at hc).1, (td_at hc).2]
    exact peL hV t4 v4
  · subst e
    rw [h20.resolve_left (by decide)]
    have e0 : o_cmd (pR μ) (120, a, b) = o_cut (pR μ) a b := by simp [o_cmd]
    rw [e0]
    refine ⟨_, sp_X10_cuts _ _ ht hz hv.ok hv.2.1 hv.2.2 hH, fun z m4 h4 => ?_⟩
    obtain ⟨hz4, f4, pe4, h438⟩ := cuR hV h4
    exact dn_any f4 hz4 pe4 h438
  · have el : l = 109 := by unfold ltr_ at hc; omega
    subst el
    rw [h20.resolve_left (by decide)]
    have e0 : o_cmd (pR μ) (109, a, b) = o_mvc (pR μ) a b := by simp [o_cmd]
    rw [e0]
    have eN : pN (pR μ) = μ 1 25 := rfl
    unfold o_mvc
    rw [eN]
    refine ⟨(by (try unfold am_in); (try unfold in_ at *); omega), fun q => ?_, fun q => dn_no fr_rf (by omega) (by rw [cif_f q])⟩
    rw [cif_t q]
    obtain ⟨A, r, B, e, hc, hg, o, vv, hll, -, h24⟩ := cl_at hV q.1 q.2
    have o2 := o
    unfold okC in_ at o2
    have g0 : pG (pR μ) a 0 = r 0 := vv 0 (by omega) (by omega)
    unfold o_mov l_mov
    rw [g0, cif_f (by omega), hg, vv 4 (by omega) (by omega)]
    have ht' := ht
    rw [e] at ht'
    have eE : (pL (pR μ)).eraseIdx a.toNat = A ++ B := by rw [e]; exact er_at hc
    rw [eE]
    refine ⟨(by (try unfold am_in); (try unfold in_ at *); omega), (by (try unfold am_in); (try unfold in_ at *); omega), (by (try unfold am_in); (try unfold in_ at *); omega), fun q3 => ?_, fun q3 => dn_no fr_rf (by omega) (by rw [cif_t (by omega)]; rfl)⟩
    rw [cif_f (p := b < 0 ∨ 600 - r 4 < b) (by omega)]
    refine ⟨_, sp_X10_takes (by (try unfold am_in); (try unfold in_ at *); omega), fun m2 ⟨f2, e2⟩ m4 e4 => ?_⟩
    have k8 : ∀ k : Int, 0 ≤ k → k < 8 → k = 0 ∨ k = 1 ∨ k = 2 ∨ k = 3 ∨ k = 4 ∨ k = 5 ∨ k = 6 ∨ k = 7 := fun k _ _ => by omega
    have em2 : em_ m2 r := fun k k0 k1 => (e2 k k0 k1).trans (vv k k0 k1)
    have em4 : em_ m4 (mvR r (r 0) b) := em_up (j := 1) em2 (by rw [e4, st_s]) (fun k k0 k1 => by rcases k8 k k0 k1 with rfl | rfl | rfl | rfl | rfl | rfl | rfl | rfl <;> simp [mvR])
    have f4 : fr_ [14] μ m4 := fr_tr f2 (by rw [e4]; exact fr_st (by simp))
    have p4 := f4 1 (by decide)
    obtain ⟨y0, y1, -, -, y4, -⟩ := em_0 em4
    have hf := fre_Lx (r := mvR r (r 0) b) ht' hc
    rw [rg_1 p4, p4, y0, y1, y4]
    have z4 : mvR r (r 0) b 4 = r 4 := by simp [mvR]
    have z1 : mvR r (r 0) b 1 = b := by simp [mvR]
    refine ⟨vR_ok hV, by rw [z1, z4]; ((try unfold am_in); (try unfold in_ at *); omega), fun g => ?_, fun g => dn_no (fr_up f4 (by simp)) (by omega) ?_⟩
    · have g' : freR (A ++ B) (mvR r (r 0) b) := hf.mp (Classical.byContradiction g)
      rw [cif_f (fun w => w g')]
      refine ⟨_, sp_X10_drops (tr_r1 p4 ht') hc (by rw [← e]; omega), fun m8 ⟨f8, v8, t8⟩ => ?_⟩
      refine ⟨_, sp_X10_lays t8 (em_fr f8 (by decide) em4) (by simp; omega), fun z9 m10 ⟨hz9, f10, v10, t10⟩ => ?_⟩
      have w : fv_ μ m10 := fv_tr (fv_tr (fv_e p4) v8) v10
      exact dn_any (fr_tr (fr_tr (fr_up f4 (by simp)) (fr_up f8 (by simp))) (fr_up f10 (by simp))) hz9 (peL hV t10 w) (hz_0 (hz_fv w hV.1.hl hz))
    · rw [cif_t (fun w => g (hf.mpr w))]; rfl

/-! the reference's commands: tracks, sources, silences, what if -/
/-- rows alike hold the same project -/
theorem pA_c {a b : Nat → Int} (hV : vP (pA a)) (h0 : 0 ≤ a 438) (h : ∀ i : Nat, i < 470 → b i = a i) : pe_ (pA a) (pA b) ∧ 0 ≤ b 438 := by
  have hM : in_ 0 7 (a 0) := hV.hS.1
  have hN : in_ 0 25 (a 25) := hV.hn
  have hl : (hA a).length ≤ 12 := hV.hl
  have hr := hr_hA h0
  unfold in_ at hM hN
  refine ⟨⟨fun i i5 => (h _ (by omega)).symm, fun t k t0 t1 k0 k1 => (h _ (by omega)).symm, (h _ (by omega)).symm, fun s k s0 s1 k0 k1 => ?_, (h _ (by omega)).symm, fun s k s0 s1 k0 k1 => ?_, ?_⟩, by rw [h _ (by omega)]; exact h0⟩
  · have s1' : s < a 0 := s1
    exact (h _ (by omega)).symm
  · have s1' : s < a 25 := s1
    exact (h _ (by omega)).symm
  · refine (hr_un (a := b) (H := hA a) ⟨by rw [h _ (by omega)]; exact hr.1, fun i p hi => ?_⟩).symm
    have il := (List.getElem?_eq_some_iff.mp hi).1
    rw [h _ (by omega), h _ (by omega)]
    exact hr.2 i p hi
theorem cuR {m m' : am_M} {z a b : Int} (hV : vR_ m) (h : lz_ m m' z (r_cut (pL (pR m)) (pH (pR m)) a b)) : z = (o_cut (pR m) a b).1 ∧ fr_ [1, 14] m m' ∧ pe_ (o_cut (pR m) a b).2 (pR m') ∧ 0 ≤ m' 1 438 := by
  obtain ⟨hz, f4, fe4, t4, h4⟩ := h
  exact ⟨hz, f4, peLH hV t4 h4 fe4, hz_0 h4⟩
theorem vc_X10_ifCut_0 {x1 x2 x3 : Int} {μ : am_M} {Q : Int → am_M → Prop} (h : (0 ≤ x3 ∧ x3 ≤ 3 → ∃ P : am_M → Prop, cl_V kR 1 mX10_copies [vR 1, vR 7] μ P ∧ (∀ m2 : am_M, P m2 → ∃ P : Int → am_M → Prop, cl_I kR 5 mX10_cuts [vR 0, vI x1, vI x2] m2 P ∧ (∀ (z3 : Int) (m4 : am_M), P z3 m4 → (z3 < 0 → ∃ P : am_M → Prop, cl_V kR 1 mX10_copies [vR 7, vR 1] m4 P ∧ (∀ m6 : am_M, P m6 → Q z3 m6)) ∧ (0 ≤ z3 → ∃ P : am_M → Prop, cl_V kR 3 mX10_works [vR 0] m4 P ∧ (∀ m8 : am_M, P m8 → (x3 ≠ 0 → (x3 ≠ 1 → ∀ v9 : Int, v9 = (if x3 = 2 then m8 1 25 else m8 1 438) → ∃ P : am_M → Prop, cl_V kR 1 mX10_copies [vR 7, vR 1] m8 P ∧ (∀ m11 : am_M, P m11 → Q v9 m11)) ∧ (x3 = 1 → ∃ P : Int → am_M → Prop, cl_I kR 4 mX10_loudnessOf [vR 0, vI 4, vI (m8 1 465)] m8 P ∧ (∀ (z13 : Int) (m14 : am_M), P z13 m14 → ∃ P : am_M → Prop, cl_V kR 1 mX10_copies [vR 7, vR 1] m14 P ∧ (∀ m16 : am_M, P m16 → Q z13 m16)))) ∧ (x3 = 0 → (ok_T (rg m8) (m8 1 25)) ∧ (∃ P : am_M → Prop, cl_V kR 1 mX10_copies [vR 7, vR 1] m8 P ∧ (∀ m18 : am_M, P m18 → Q (la_ (rg m8) (m8 1 25)) m18)))))))) ∧ (¬ (0 ≤ x3 ∧ x3 ≤ 3) → Q (-2) μ)) : at_I kR 6 mX10_ifCut 0 [vR 0, vI x1, vI x2, vI x3, vU] [] μ Q := by
  refine s_iload_n dX10_ifCut_0 rfl rfl ?_
  refine s_iconst dX10_ifCut_1 (by decide) ?_
  refine s_iconst dX10_ifCut_2 (by decide) ?_
  refine s_callS (As := [vI x3, vI 0, vI 3]) (rest := []) dX10_ifCut_3 lkX10_103 lmX10_isIn rfl rfl (Nat.le_of_ble_eq_true rfl) (by decide) (Nat.le_refl 0) (Nat.le_refl 0) (hC := sp_X10_isIn (Q := fun z m => bI (0 ≤ x3 ∧ x3 ≤ 3) = z ∧ μ = m)  ⟨rfl, rfl⟩) (fun r n2 S2 m2 hP => ?_)
  obtain ⟨⟨rfl, rfl⟩, z, rfl, rfl, rfl⟩ := hP
  refine s_if_ne dX10_ifCut_6 (tgt := 12) (by decide) (fun cc => ?_) (fun cc => ?_)
  · have h := h.1 (bI_ne cc)
    refine s_aload_n dX10_ifCut_12 rfl rfl ?_
    refine s_getR dX10_ifCut_13 flX10_9 rn0 rk0 rfl rr0_0 ?_
    refine s_aload_n dX10_ifCut_16 rfl rfl ?_
    refine s_getR dX10_ifCut_17 flX10_28 rn0 rk0 rfl rr0_6 ?_
    obtain ⟨P, hcl, h⟩ := h
    refine s_callS (As := [vR 1, vR 7]) (rest := []) dX10_ifCut_20 lkX10_78 lmX10_copies rfl rfl (Nat.le_of_ble_eq_true rfl) (by decide) (Nat.le_refl 0) (Nat.le_refl 0) (hC := hcl) (fun r n2 S2 m2 hP => ?_)
    obtain ⟨⟨rfl, rfl⟩, rfl, hq⟩ := hP
    have h := h m2 hq
    refine s_aload_n dX10_ifCut_23 rfl rfl ?_
    refine s_iload_n dX10_ifCut_24 rfl rfl ?_
    refine s_iload_n dX10_ifCut_25 rfl rfl ?_
    obtain ⟨P, hcl, h⟩ := h
    refine s_callV (As := [vI x1, vI x2]) (rest := []) (k := 0) dX10_ifCut_26 lkX10_190 rn0 ⟨by rw [rk0]; rfl, by rw [rk0]; decide⟩ lmX10_cuts rfl rfl (Nat.le_of_ble_eq_true rfl) (by decide) (Nat.le_refl 0) (Nat.le_refl 0) (hC := hcl) (fun r n2 S2 m4 hP => ?_)
    obtain ⟨⟨rfl, rfl⟩, z3, rfl, hq⟩ := hP
    have h := h z3 m4 hq
    refine s_istore dX10_ifCut_29 (by decide) (L' := [vR 0, vI x1, vI x2, vI x3, vI z3]) rfl ?_
    refine s_iload dX10_ifCut_31 rfl ?_
    refine s_if_lt dX10_ifCut_33 (tgt := 97) (by decide) (fun cc => ?_) (fun cc => ?_)
    · have h := h.1 cc
      refine s_aload_n dX10_ifCut_97 rfl rfl ?_
      refine s_getR dX10_ifCut_98 flX10_28 rn0 rk0 rfl rr0_6 ?_
      refine s_aload_n dX10_ifCut_101 rfl rfl ?_
      refine s_getR dX10_ifCut_102 flX10_9 rn0 rk0 rfl rr0_0 ?_
      obtain ⟨P, hcl, h⟩ := h
      refine s_callS (As := [vR 7, vR 1]) (rest := []) dX10_ifCut_105 lkX10_78 lmX10_copies rfl rfl (Nat.le_of_ble_eq_true rfl) (by decide) (Nat.le_refl 0) (Nat.le_refl 0) (hC := hcl) (fun r n2 S2 m6 hP => ?_)
      obtain ⟨⟨rfl, rfl⟩, rfl, hq⟩ := hP
      have h := h m6 hq
      refine s_iload dX10_ifCut_108 rfl ?_
      exact s_ireturn dX10_ifCut_110 (Or.inl rfl) ⟨⟨rfl, rfl⟩, _, rfl, h⟩
    · have h := h.2 cc
      refine s_aload_n dX10_ifCut_36 rfl rfl ?_
      obtain ⟨P, hcl, h⟩ := h
      refine s_callV (As := []) (rest := []) (k := 0) dX10_ifCut_37 lkX10_152 rn0 ⟨by rw [rk0]; rfl, by rw [rk0]; decide⟩ lmX10_works rfl rfl (Nat.le_of_ble_eq_true rfl) (by decide) (Nat.le_refl 0) (Nat.le_refl 0) (hC := hcl) (fun r n2 S2 m8 hP => ?_)
      obtain ⟨⟨rfl, rfl⟩, rfl, hq⟩ := hP
      have h := h m8 hq
      refine s_iload_n dX10_ifCut_40 rfl rfl ?_
      refine s_if_ne dX10_ifCut_41 (tgt := 51) (by decide) (fun cc => ?_) (fun cc => ?_)
      · have h := h.1 cc
        refine s_iload_n dX10_ifCut_51 rfl rfl ?_
        refine s_iconst dX10_ifCut_52 (by decide) ?_
        refine s_icmp_ne dX10_ifCut_53 (tgt := 72) (by decide) (fun cc => ?_) (fun cc => ?_)
        · have h := h.1 cc
          refine s_iload_n dX10_ifCut_72 rfl rfl ?_
          refine s_iconst dX10_ifCut_73 (by decide) ?_
          have kj12 : ∀ (v9 : Int), (∃ P : am_M → Prop, cl_V kR 1 mX10_copies [vR 7, vR 1] m8 P ∧ (∀ m11 : am_M, P m11 → Q v9 m11)) → at_I kR 6 mX10_ifCut 95 [vR 0, vU, vU, vU, vU] [vI v9] m8 Q := by
            intro v9 h
            refine s_istore dX10_ifCut_95 (by decide) (L' := [vR 0, vU, vU, vU, vI v9]) rfl ?_
            refine s_aload_n dX10_ifCut_97 rfl rfl ?_
            refine s_getR dX10_ifCut_98 flX10_28 rn0 rk0 rfl rr0_6 ?_
            refine s_aload_n dX10_ifCut_101 rfl rfl ?_
            refine s_getR dX10_ifCut_102 flX10_9 rn0 rk0 rfl rr0_0 ?_
            obtain ⟨P, hcl, h⟩ := h
            refine s_callS (As := [vR 7, vR 1]) (rest := []) dX10_ifCut_105 lkX10_78 lmX10_copies rfl rfl (Nat.le_of_ble_eq_true rfl) (by decide) (Nat.le_refl 0) (Nat.le_refl 0) (hC := hcl) (fun r n2 S2 m11 hP => ?_)
            obtain ⟨⟨rfl, rfl⟩, rfl, hq⟩ := hP
            have h := h m11 hq
            refine s_iload dX10_ifCut_108 rfl ?_
            exact s_ireturn dX10_ifCut_110 (Or.inl rfl) ⟨⟨rfl, rfl⟩, _, rfl, h⟩
          refine s_icmp_ne dX10_ifCut_74 (tgt := 87) (by decide) (fun cc => ?_) (fun cc => ?_)
          · have hp0 := cc
            refine s_aload_n dX10_ifCut_87 rfl rfl ?_
            refine s_getR dX10_ifCut_88 flX10_9 rn0 rk0 rfl rr0_0 ?_
            refine s_sipush dX10_ifCut_91 (by decide) ?_
            refine s_iald (x := (m8 1 438)) dX10_ifCut_94 rn1 rk1 rl1 (by decide) (by decide) rfl ?_
            exact am_lesS (kj12 (m8 1 438) (h (m8 1 438) (by rw [if_neg hp0]))) ⟨Or.inr rfl, Or.inl rfl, Or.inl rfl, Or.inl rfl, Or.inl rfl, trivial⟩
          · have hp0 := cc
            refine s_aload_n dX10_ifCut_77 rfl rfl ?_
            refine s_getR dX10_ifCut_78 flX10_9 rn0 rk0 rfl rr0_0 ?_
            refine s_bipush dX10_ifCut_81 (by decide) ?_
            refine s_iald (x := (m8 1 25)) dX10_ifCut_83 rn1 rk1 rl1 (by decide) (by decide) rfl ?_
            refine s_goto dX10_ifCut_84 (tgt := 95) (by decide) ?_
            exact am_lesS (kj12 (m8 1 25) (h (m8 1 25) (by rw [if_pos hp0]))) ⟨Or.inr rfl, Or.inl rfl, Or.inl rfl, Or.inl rfl, Or.inl rfl, trivial⟩
        · have h := h.2 cc
          refine s_aload_n dX10_ifCut_56 rfl rfl ?_
          refine s_iconst dX10_ifCut_57 (by decide) ?_
          refine s_aload_n dX10_ifCut_58 rfl rfl ?_
          refine s_getR dX10_ifCut_59 flX10_9 rn0 rk0 rfl rr0_0 ?_
          refine s_sipush dX10_ifCut_62 (by decide) ?_
          refine s_iald (x := (m8 1 465)) dX10_ifCut_65 rn1 rk1 rl1 (by decide) (by decide) rfl ?_
          obtain ⟨P, hcl, h⟩ := h
          refine s_callV (As := [vI 4, vI (m8 1 465)]) (rest := []) (k := 0) dX10_ifCut_66 lkX10_206 rn0 ⟨by rw [rk0]; rfl, by rw [rk0]; decide⟩ lmX10_loudnessOf rfl rfl (Nat.le_of_ble_eq_true rfl) (by decide) (Nat.le_refl 0) (Nat.le_refl 0) (hC := hcl) (fun r n2 S2 m14 hP => ?_)
          obtain ⟨⟨rfl, rfl⟩, z13, rfl, hq⟩ := hP
          have h := h z13 m14 hq
          refine s_goto dX10_ifCut_69 (tgt := 95) (by decide) ?_
          refine s_istore dX10_ifCut_95 (by decide) (L' := [vR 0, vI x1, vI x2, vI x3, vI z13]) rfl ?_
          refine s_aload_n dX10_ifCut_97 rfl rfl ?_
          refine s_getR dX10_ifCut_98 flX10_28 rn0 rk0 rfl rr0_6 ?_
          refine s_aload_n dX10_ifCut_101 rfl rfl ?_
          refine s_getR dX10_ifCut_102 flX10_9 rn0 rk0 rfl rr0_0 ?_
          obtain ⟨P, hcl, h⟩ := h
          refine s_callS (As := [vR 7, vR 1]) (rest := []) dX10_ifCut_105 lkX10_78 lmX10_copies rfl rfl (Nat.le_of_ble_eq_true rfl) (by decide) (Nat.le_refl 0) (Nat.le_refl 0) (hC := hcl) (fun r n2 S2 m16 hP => ?_)
          obtain ⟨⟨rfl, rfl⟩, rfl, hq⟩ := hP
          have h := h m16 hq
          refine s_iload dX10_ifCut_108 rfl ?_
          exact s_ireturn dX10_ifCut_110 (Or.inl rfl) ⟨⟨rfl, rfl⟩, _, rfl, h⟩
      · have h := h.2 cc
        refine s_aload_n dX10_ifCut_44 rfl rfl ?_
        obtain ⟨p0, h⟩ := h
        refine s_callV (As := []) (rest := []) (k := 0) dX10_ifCut_45 lkX10_155 rn0 ⟨by rw [rk0]; rfl, by rw [rk0]; decide⟩ lmX10_last rfl rfl (Nat.le_of_ble_eq_true rfl) (by decide) (Nat.le_refl 0) (Nat.le_refl 0) (hC := sp_X10_last (Q := fun z m => la_ (rg m8) (m8 1 25) = z ∧ m8 = m) p0 ⟨rfl, rfl⟩) (fun r n2 S2 m2 hP => ?_)
        obtain ⟨⟨rfl, rfl⟩, z, rfl, rfl, rfl⟩ := hP
        refine s_goto dX10_ifCut_48 (tgt := 95) (by decide) ?_
        refine s_istore dX10_ifCut_95 (by decide) (L' := [vR 0, vI x1, vI x2, vI x3, vI (la_ (rg m8) (m8 1 25))]) rfl ?_
        refine s_aload_n dX10_ifCut_97 rfl rfl ?_
        refine s_getR dX10_ifCut_98 flX10_28 rn0 rk0 rfl rr0_6 ?_
        refine s_aload_n dX10_ifCut_101 rfl rfl ?_
        refine s_getR dX10_ifCut_102 flX10_9 rn0 rk0 rfl rr0_0 ?_
        obtain ⟨P, hcl, h⟩ := h
        refine s_callS (As := [vR 7, vR 1]) (rest := []) dX10_ifCut_105 lkX10_78 lmX10_copies rfl rfl (Nat.le_of_ble_eq_true rfl) (by decide) (Nat.le_refl 0) (Nat.le_refl 0) (hC := hcl) (fun r n2 S2 m18 hP => ?_)
        obtain ⟨⟨rfl, rfl⟩, rfl, hq⟩ := hP
        have h := h m18 hq
        refine s_iload dX10_ifCut_108 rfl ?_
        exact s_ireturn dX10_ifCut_110 (Or.inl rfl) ⟨⟨rfl, rfl⟩, _, rfl, h⟩
  · have h := h.2 (bI_eq cc)
    refine s_bipush dX10_ifCut_9 (by decide) ?_
    exact s_ireturn dX10_ifCut_11 (Or.inl rfl) ⟨⟨rfl, rfl⟩, _, rfl, h⟩
theorem ve_X10_ifCut {x1 x2 x3 : Int} {μ : am_M} {Q : Int → am_M → Prop} (h : at_I kR 6 mX10_ifCut 0 [vR 0, vI x1, vI x2, vI x3, vU] [] μ Q) : cl_I kR 6 mX10_ifCut [vR 0, vI x1, vI x2, vI x3] μ Q := am_intro pmX10_ifCut (Nat.le_of_ble_eq_true rfl) rfl h
theorem sp_X10_ifCut {K : Int} {μ : am_M} {a b w : Int} (hI : RI K μ) : cl_I kR 6 mX10_ifCut [vR 0, vI a, vI b, vI w] μ (fun z m => z = q_ifCut (pR μ) a b w ∧ ru_ [] μ m) := by
  have hV := hI.1
  have un : ru_ [] μ μ := ⟨rm_rf, pe_rf, hV.2⟩
  refine ve_X10_ifCut (vc_X10_ifCut_0 ⟨fun q => ⟨_, sp_X10_copies (rrow (by simp)) (rrow (by simp)) (by decide), fun m2 ⟨f2, e2⟩ => ?_⟩, fun q => ⟨(cif_t (by omega)).symm, un⟩⟩)
  have e0 : q_ifCut (pR μ) a b w = _ := cif_f (by omega)
  have p2 := f2 1 (by decide)
  have pR2 : pR m2 = pR μ := pR_fr f2 (by decide)
  have V2 : vR_ m2 := by
    refine ⟨?_, by rw [p2]; exact hV.2⟩
    show vP (pR m2)
    rw [pR2]
    exact hV.1
  have hv := pL_v V2.1
  refine ⟨_, sp_X10_cuts _ _ (trL V2) (hzL V2) hv.ok hv.2.1 hv.2.2 (vP_H V2.1), fun z m4 h4 => ?_⟩
  obtain ⟨hz, f4, pe4, h438⟩ := cuR V2 h4
  rw [pR2] at hz pe4
  have ho := ov_cut (P := pR μ) hV.1 a b
  have V4 : vP (pR m4) := pe_v ho.2 pe4
  have r4 : rm_ [] μ m4 := rm_tr (rm_fr f2 (by decide)) (rm_fr f4 (by decide))
  have t4 : ∀ i : Nat, i < 470 → m4 7 i = μ 1 i := fun i hi => by rw [f4 7 (by decide)]; exact e2 i hi
  -- what was comes back
  have back : ∀ (m8 : am_M), rm_ [] m4 m8 → m8 7 = m4 7 → ∀ m : am_M, fr_ [1] m8 m → (∀ i : Nat, i < 470 → m 1 i = m8 7 i) → ru_ [] μ m := fun m8 g1 g2 m g3 g4 => by
    have := pA_c (a := μ 1) (b := m 1) hV.1 hV.2 (fun i hi => by rw [g4 i hi, g2]; exact t4 i hi)
    exact ⟨rm_tr r4 (rm_tr g1 (rm_fr g3 (by decide))), this.1, this.2⟩
  refine ⟨fun z0 => ⟨_, sp_X10_copies (rrow (by simp)) (rrow (by simp)) (by decide), fun m6 ⟨f6, e6⟩ => ⟨?_, back m4 rm_rf rfl m6 f6 e6⟩⟩, fun z0 => ⟨_, sp_X10_works V4, fun m8 ⟨f8, s8⟩ => ?_⟩⟩
  · rw [e0, if_pos (by omega)]
    exact hz
  · rw [if_neg (by omega)] at e0
    have p8 := f8 1 (by decide)
    have P8 : pR m8 = pR m4 := pR_fr f8 (by decide)
    have V8 : vP (pR m8) := by rw [P8]; exact V4
    have r8 : rm_ [] m4 m8 := rm_fr f8 (by decide)
    have aft : ∀ x : Int, x = q_aft (pR m8) w → x = q_ifCut (pR μ) a b w := fun x hx => by
      rw [hx, e0, P8]
      exact aft_pe ho.2 pe4 w
    have hE := V8.hE
    unfold ok_E in_ at hE
    refine ⟨fun n0 => ⟨fun n1 v9 h9 => ⟨_, sp_X10_copies (rrow (by simp)) (rrow (by simp)) (by decide), fun m11 ⟨f11, e11⟩ => ⟨aft _ ?_, back m8 r8 (f8 7 (by decide)) m11 f11 e11⟩⟩, fun n1 => ⟨_, sp_X10_loudnessOf V8 s8 ?_, fun z13 m14 ⟨k1, k2⟩ => ⟨_, sp_X10_copies (rrow (by simp)) (rrow (by simp)) (by decide), fun m16 ⟨f16, e16⟩ => ⟨aft _ ?_, back m14 (rm_tr r8 (rm_fr k2 (by decide))) (by rw [k2 7 (by decide), f8 7 (by decide)]) m16 f16 e16⟩⟩⟩⟩, fun n0 => ⟨V8.okT, _, sp_X10_copies (rrow (by simp)) (rrow (by simp)) (by decide), fun m18 ⟨f18, e18⟩ => ⟨aft _ ?_, back m8 r8 (f8 7 (by decide)) m18 f18 e18⟩⟩⟩
    · rw [h9]
      unfold q_aft
      rw [if_neg n0, if_neg n1]
      have hh : m8 1 438 = (pH (pR m8)).length := by
        have := (hr_hA (a := m8 1) (by rw [p8]; exact h438)).1
        exact this
      rw [hh]
      rfl
    · show in_ 0 401 (pE (pR m8) 0)
      ((try unfold am_in); (try unfold in_ at *); omega)
    · rw [k1]
      unfold q_aft q_lo
      rw [if_neg n0, if_pos n1]
      rfl
    · unfold q_aft
      rw [if_pos n0]
      rfl
/-- setTrack, as the reference does it -/
def cmr_ (ν m : am_M) (z t w v : Int) : Prop := z = (o_trk (pR ν) t w v).1 ∧ (¬ b_trk t w v → ru_ [] ν m) ∧ (b_trk t w v → rch_ [] ν m (o_trk (pR ν) t w v).2)
theorem vc_X10_setTrack_0 {x1 x2 x3 : Int} {μ : am_M} {Q : Int → am_M → Prop} (h : (0 ≤ x1 ∧ x1 < 4 → (¬ (0 ≤ x2 ∧ x2 ≤ 6) → Q (-2) μ) ∧ (0 ≤ x2 ∧ x2 ≤ 6 → (in_ 0 7 x2) ∧ ((okTr x1 x2 x3 → ∃ P : am_M → Prop, cl_V kR 2 mX10_begins [vR 0] μ P ∧ (∀ m2 : am_M, P m2 → (in_ 0 4 x1) ∧ (in_ 0 7 x2) ∧ ((am_in (7 * x1)) ∧ ((am_in (410 + (7 * x1))) ∧ ((am_in ((410 + (7 * x1)) + x2)) ∧ ((0 ≤ (410 + (7 * x1)) + x2) ∧ ((410 + (7 * x1)) + x2 < 470) ∧ (∀ m3 : am_M, m3 = am_st m2 1 (am_up (m2 1) ((410 + (7 * x1)) + x2).toNat x3) → ∀ v4 : Int, v4 = (if x2 = 3 then (if rT m2 x1 x2 = (-1) then (-6) else rT m2 x1 x2) else rT m2 x1 x2) → ∃ P : Int → am_M → Prop, cl_I kR 3 mX10_ends [vR 0, vI v4] m3 P ∧ (∀ (z5 : Int) (m6 : am_M), P z5 m6 → Q z5 m6)))))))) ∧ (¬ (okTr x1 x2 x3) → Q (-2) μ)))) ∧ (¬ (0 ≤ x1 ∧ x1 < 4) → Q (-1) μ)) : at_I kR 5 mX10_setTrack 0 [vR 0, vI x1, vI x2, vI x3, vU] [] μ Q := by
  refine s_iload_n dX10_setTrack_0 rfl rfl ?_
  refine s_callS (As := [vI x1]) (rest := []) dX10_setTrack_1 lkX10_133 lmX10_isTrack rfl rfl (Nat.le_of_ble_eq_true rfl) (by decide) (Nat.le_refl 0) (Nat.le_refl 0) (hC := sp_X10_isTrack (Q := fun z m => bI (0 ≤ x1 ∧ x1 < 4) = z ∧ μ = m)  ⟨rfl, rfl⟩) (fun r n2 S2 m2 hP => ?_)
  obtain ⟨⟨rfl, rfl⟩, z, rfl, rfl, rfl⟩ := hP
  refine s_if_ne dX10_setTrack_4 (tgt := 9) (by decide) (fun cc => ?_) (fun cc => ?_)
  · have h := h.1 (bI_ne cc)
    refine s_iload_n dX10_setTrack_9 rfl rfl ?_
    refine s_iconst dX10_setTrack_10 (by decide) ?_
    refine s_bipush dX10_setTrack_11 (by decide) ?_
    refine s_callS (As := [vI x2, vI 0, vI 6]) (rest := []) dX10_setTrack_13 lkX10_103 lmX10_isIn rfl rfl (Nat.le_of_ble_eq_true rfl) (by decide) (Nat.le_refl 0) (Nat.le_refl 0) (hC := sp_X10_isIn (Q := fun z m => bI (0 ≤ x2 ∧ x2 ≤ 6) = z ∧ μ = m)  ⟨rfl, rfl⟩) (fun r n2 S2 m2 hP => ?_)
    obtain ⟨⟨rfl, rfl⟩, z, rfl, rfl, rfl⟩ := hP
    refine s_if_eq dX10_setTrack_16 (tgt := 28) (by decide) (fun cc => ?_) (fun cc => ?_)
    · have h := h.1 (bI_eq cc)
      refine s_bipush dX10_setTrack_28 (by decide) ?_
      exact s_ireturn dX10_setTrack_30 (Or.inl rfl) ⟨⟨rfl, rfl⟩, _, rfl, h⟩
    · have h := h.2 (bI_ne cc)
      refine s_iload_n dX10_setTrack_19 rfl rfl ?_
      refine s_iload_n dX10_setTrack_20 rfl rfl ?_
      refine s_iload_n dX10_setTrack_21 rfl rfl ?_
      obtain ⟨p0, h⟩ := h
      refine s_callS (As := [vI x1, vI x2, vI x3]) (rest := []) dX10_setTrack_22 lkX10_136 lmX10_isTrackNumber rfl rfl (Nat.le_of_ble_eq_true rfl) (by decide) (Nat.le_refl 0) (Nat.le_refl 0) (hC := sp_X10_isTrackNumber (Q := fun z m => bI (okTr x1 x2 x3) = z ∧ μ = m) p0 ⟨rfl, rfl⟩) (fun r n2 S2 m2 hP => ?_)
      obtain ⟨⟨rfl, rfl⟩, z, rfl, rfl, rfl⟩ := hP
      refine s_if_ne dX10_setTrack_25 (tgt := 31) (by decide) (fun cc => ?_) (fun cc => ?_)
      · have h := h.1 (bI_ne cc)
        refine s_aload_n dX10_setTrack_31 rfl rfl ?_
        obtain ⟨P, hcl, h⟩ := h
        refine s_callV (As := []) (rest := []) (k := 0) dX10_setTrack_32 lkX10_107 rn0 ⟨by rw [rk0]; rfl, by rw [rk0]; decide⟩ lmX10_begins rfl rfl (Nat.le_of_ble_eq_true rfl) (by decide) (Nat.le_refl 0) (Nat.le_refl 0) (hC := hcl) (fun r n2 S2 m2 hP => ?_)
        obtain ⟨⟨rfl, rfl⟩, rfl, hq⟩ := hP
        have h := h m2 hq
        refine s_aload_n dX10_setTrack_35 rfl rfl ?_
        refine s_iload_n dX10_setTrack_36 rfl rfl ?_
        refine s_iload_n dX10_setTrack_37 rfl rfl ?_
        obtain ⟨p0, p1, h⟩ := h
        refine s_callV (As := [vI x1, vI x2]) (rest := []) (k := 0) dX10_setTrack_38 lkX10_139 rn0 ⟨by rw [rk0]; rfl, by rw [rk0]; decide⟩ lmX10_trackOf rfl rfl (Nat.le_of_ble_eq_true rfl) (by decide) (Nat.le_refl 0) (Nat.le_refl 0) (hC := sp_X10_trackOf (Q := fun z m => rT m2 x1 x2 = z ∧ m2 = m) p0 p1 ⟨rfl, rfl⟩) (fun r n2 S2 m2 hP => ?_)
        obtain ⟨⟨rfl, rfl⟩, z, rfl, rfl, rfl⟩ := hP
        refine s_istore dX10_setTrack_41 (by decide) (L' := [vR 0, vI x1, vI x2, vI x3, vI (rT m2 x1 x2)]) rfl ?_
        refine s_aload_n dX10_setTrack_43 rfl rfl ?_
        refine s_getR dX10_setTrack_44 flX10_9 rn0 rk0 rfl rr0_0 ?_
        refine s_sipush dX10_setTrack_47 (by decide) ?_
        refine s_bipush dX10_setTrack_50 (by decide) ?_
        refine s_iload_n dX10_setTrack_52 rfl rfl ?_
        obtain ⟨c, h⟩ := h
        refine s_imul dX10_setTrack_53 (am_w_id c) ?_
        obtain ⟨c, h⟩ := h
        refine s_iadd dX10_setTrack_54 (am_w_id c) ?_
        refine s_iload_n dX10_setTrack_55 rfl rfl ?_
        obtain ⟨c, h⟩ := h
        refine s_iadd dX10_setTrack_56 (am_w_id c) ?_
        refine s_iload_n dX10_setTrack_57 rfl rfl ?_
        obtain ⟨c, c2, h⟩ := h
        obtain ⟨m3, hm3⟩ : ∃ x : am_M, x = am_st m2 1 (am_up (m2 1) ((410 + (7 * x1)) + x2).toNat x3) := ⟨_, rfl⟩
        have h := h m3 hm3
        refine s_iast dX10_setTrack_58 rn1 rk1 rl1 c c2 hm3.symm ?_
        refine s_aload_n dX10_setTrack_59 rfl rfl ?_
        refine s_iload_n dX10_setTrack_60 rfl rfl ?_
        refine s_iconst dX10_setTrack_61 (by decide) ?_
        have kj7 : ∀ (v4 : Int), (∃ P : Int → am_M → Prop, cl_I kR 3 mX10_ends [vR 0, vI v4] m3 P ∧ (∀ (z5 : Int) (m6 : am_M), P z5 m6 → Q z5 m6)) → at_I kR 5 mX10_setTrack 78 [vU, vU, vU, vU, vU] [vI v4, vR 0] m3 Q := by
          intro v4 h
          obtain ⟨P, hcl, h⟩ := h
          refine s_callV (As := [vI v4]) (rest := []) (k := 0) dX10_setTrack_78 lkX10_110 rn0 ⟨by rw [rk0]; rfl, by rw [rk0]; decide⟩ lmX10_ends rfl rfl (Nat.le_of_ble_eq_true rfl) (by decide) (Nat.le_refl 0) (Nat.le_refl 0) (hC := hcl) (fun r n2 S2 m6 hP => ?_)
          obtain ⟨⟨rfl, rfl⟩, z5, rfl, hq⟩ := hP
          have h := h z5 m6 hq
          exact s_ireturn dX10_setTrack_81 (Or.inl rfl) ⟨⟨rfl, rfl⟩, _, rfl, h⟩
        refine s_icmp_ne dX10_setTrack_62 (tgt := 76) (by decide) (fun cc => ?_) (fun cc => ?_)
        · have hp0 := cc
          refine s_iload dX10_setTrack_76 rfl ?_
          exact am_lesS (kj7 (rT m2 x1 x2) (h (rT m2 x1 x2) (by rw [if_neg hp0]))) ⟨Or.inl rfl, Or.inl rfl, Or.inl rfl, Or.inl rfl, Or.inl rfl, trivial⟩
        · have hp0 := cc
          refine s_iload dX10_setTrack_65 rfl ?_
          refine s_iconst dX10_setTrack_67 (by decide) ?_
          refine s_icmp_ne dX10_setTrack_68 (tgt := 76) (by decide) (fun cc => ?_) (fun cc => ?_)
          · have hp1 := cc
            refine s_iload dX10_setTrack_76 rfl ?_
            exact am_lesS (kj7 (rT m2 x1 x2) (h (rT m2 x1 x2) (by rw [if_pos hp0, if_neg hp1]))) ⟨Or.inl rfl, Or.inl rfl, Or.inl rfl, Or.inl rfl, Or.inl rfl, trivial⟩
          · have hp1 := cc
            refine s_bipush dX10_setTrack_71 (by decide) ?_
            refine s_goto dX10_setTrack_73 (tgt := 78) (by decide) ?_
            exact am_lesS (kj7 (-6) (h (-6) (by rw [if_pos hp0, if_pos hp1]))) ⟨Or.inl rfl, Or.inl rfl, Or.inl rfl, Or.inl rfl, Or.inl rfl, trivial⟩
      · have h := h.2 (bI_eq cc)
        refine s_bipush dX10_setTrack_28 (by decide) ?_
        exact s_ireturn dX10_setTrack_30 (Or.inl rfl) ⟨⟨rfl, rfl⟩, _, rfl, h⟩
  · have h := h.2 (bI_eq cc)
    refine s_iconst dX10_setTrack_7 (by decide) ?_
    exact s_ireturn dX10_setTrack_8 (Or.inl rfl) ⟨⟨rfl, rfl⟩, _, rfl, h⟩
theorem ve_X10_setTrack {x1 x2 x3 : Int} {μ : am_M} {Q : Int → am_M → Prop} (h : at_I kR 5 mX10_setTrack 0 [vR 0, vI x1, vI x2, vI x3, vU] [] μ Q) : cl_I kR 5 mX10_setTrack [vR 0, vI x1, vI x2, vI x3] μ Q := am_intro pmX10_setTrack (Nat.le_of_ble_eq_true rfl) rfl h
theorem sp_X10_setTrack {K : Int} {μ : am_M} {t w v : Int} (hI : RI K μ) (hK : K < 99999) : cl_I kR 5 mX10_setTrack [vR 0, vI t, vI w, vI v] μ (fun z m => cmr_ μ m z t w v) := by
  have hV := hI.1
  have hM : in_ 0 7 (μ 1 0) := hV.1.hS.1
  have hN : in_ 0 25 (μ 1 25) := hV.1.hn
  have hl : (pH (pR μ)).length ≤ 12 := hV.1.hl
  unfold in_ at hM hN
  have un : ru_ [] μ μ := ⟨rm_rf, pe_rf, hV.2⟩
  have no : (0 ≤ t ∧ t < 4) → ¬ okTr t w v → cmr_ μ μ (-2) t w v := fun h1 h2 => ⟨by rw [trk_2 h1 h2], fun _ => un, fun b => absurd b.2 h2⟩
  refine ve_X10_setTrack (vc_X10_setTrack_0 ⟨fun q => ⟨fun q2 => no q (fun z => by unfold okTr at z; omega), fun q2 => ⟨(by (try unfold am_in); (try unfold in_ at *); omega), fun b => ?_, fun b => no q b⟩⟩, fun q => ⟨by rw [trk_1 q], fun _ => un, fun b => absurd b.1 q⟩⟩)
  have bt : b_trk t w v := ⟨q, b⟩
  refine ⟨_, sp_X10_begins, fun m2 ⟨f2, e2⟩ => ?_⟩
  have p2 := f2 1 (by decide)
  have b2 : bg_ [] μ m2 := bg_of rm_rf rfl f2 e2
  refine ⟨(by (try unfold am_in); (try unfold in_ at *); omega), (by (try unfold am_in); (try unfold in_ at *); omega), (by (try unfold am_in); (try unfold in_ at *); omega), (by (try unfold am_in); (try unfold in_ at *); omega), (by (try unfold am_in); (try unfold in_ at *); omega), by omega, by omega, fun m3 e3 v4 h4 => ?_⟩
  have f3 : fr_ [1] m2 m3 := by rw [e3]; exact fr_st (by simp)
  have b3 := bg_fr b2 f3 (by decide) (by decide)
  have a1 : m3 1 = am_up (μ 1) ((410 + (7 * t)) + w).toNat v := by rw [e3, st_s, p2]
  have n : ∀ i : Nat, (i : Int) ≠ 410 + 7 * t + w → m3 1 i = μ 1 i := fun i hi => by rw [a1, up_n (by omega)]
  have pe : pe_ (pE (pR μ), up_T (pT (pR μ)) t w v, (pR μ).2.2) (pR m3) := by
    refine ⟨fun i i5 => (n _ (by omega)).symm, fun t' k t0 t1 k0 k1 => ?_, (n _ (by omega)).symm, fun s k s0 s1 k0 k1 => ?_, (n _ (by omega)).symm, fun s k s0 s1 k0 k1 => ?_, ?_⟩
    · show up_T (pT (pR μ)) t w v t' k = m3 1 ((410 + 7 * t') + k).toNat
      unfold up_T
      by_cases c : t' = t ∧ k = w
      · rw [if_pos c, c.1, c.2, a1, up_s]
      · rw [if_neg c, n _ (by omega)]
        rfl
    · have s1' : s < μ 1 0 := s1
      exact (n _ (by omega)).symm
    · have s1' : s < μ 1 25 := s1
      exact (n _ (by omega)).symm
    · have hz := hzL hV
      refine (hr_un (a := m3 1) (H := pH (pR μ)) ⟨by rw [n _ (by omega)]; exact hz.1, fun i p hi => ?_⟩).symm
      have il := (List.getElem?_eq_some_iff.mp hi).1
      rw [n _ (by omega), n _ (by omega)]
      exact hz.2 i p hi
  obtain ⟨n7, n9, -⟩ := ends_n hI hK (by simp) b3.1
  refine ⟨_, sp_X10_ends n7 n9, fun w' m h => ?_⟩
  obtain ⟨hw, he⟩ := h
  unfold cmr_
  rw [trk_3 bt]
  refine ⟨?_, fun z => absurd bt z, fun _ => ends_C hI hK (by simp) b3.1 b3.2 pe (by rw [n _ (by omega)]; exact hV.2) he⟩
  rw [hw, h4]
  have er : rT m2 = rT μ := by unfold rT; rw [p2]
  rw [er]
  show _ = q_tn (pR μ) t w
  unfold q_tn
  by_cases c : w = 3
  · subst c
    rw [if_pos rfl, if_pos rfl]
    rfl
  · rw [if_neg c, if_neg c]
    rfl
theorem vc_X10_addSource_0 {x1 x2 x3 x4 : Int} {μ : am_M} {Q : Int → am_M → Prop} (h : ∀ v1 : Int, v1 = (cif (0 ≤ x1 ∧ x1 ≤ 3) (cif (1 ≤ x2 ∧ x2 ≤ 200) (cif (0 ≤ x3 ∧ x3 ≤ 999) 1 0) 0) 0) → (v1 = 0 → Q (-2) μ) ∧ (v1 ≠ 0 → (x1 ≠ 0 → (x1 ≠ 2 → (0 ≤ x4 ∧ x4 ≤ 999 → (μ 1 0 ≠ 6 → ∃ P : am_M → Prop, cl_V kR 2 mX10_begins [vR 0] μ P ∧ (∀ m3 : am_M, P m3 → (am_in (m3 1 0 + 1)) ∧ (∀ m4 : am_M, m4 = am_st m3 1 (am_up (m3 1) 0 (m3 1 0 + 1)) → (am_in (4 * (m3 1 0))) ∧ ((am_in (1 + (4 * (m3 1 0)))) ∧ ((0 ≤ 1 + (4 * (m3 1 0))) ∧ (1 + (4 * (m3 1 0)) < 470) ∧ (∀ m5 : am_M, m5 = am_st m4 1 (am_up (m4 1) (1 + (4 * (m3 1 0))).toNat x1) → (am_in (4 * (m3 1 0))) ∧ ((am_in (1 + (4 * (m3 1 0)))) ∧ ((am_in ((1 + (4 * (m3 1 0))) + 1)) ∧ ((0 ≤ (1 + (4 * (m3 1 0))) + 1) ∧ ((1 + (4 * (m3 1 0))) + 1 < 470) ∧ (∀ m6 : am_M, m6 = am_st m5 1 (am_up (m5 1) ((1 + (4 * (m3 1 0))) + 1).toNat x2) → (am_in (4 * (m3 1 0))) ∧ ((am_in (1 + (4 * (m3 1 0)))) ∧ ((am_in ((1 + (4 * (m3 1 0))) + 2)) ∧ ((0 ≤ (1 + (4 * (m3 1 0))) + 2) ∧ ((1 + (4 * (m3 1 0))) + 2 < 470) ∧ (∀ m7 : am_M, m7 = am_st m6 1 (am_up (m6 1) ((1 + (4 * (m3 1 0))) + 2).toNat x3) → (am_in (4 * (m3 1 0))) ∧ ((am_in (1 + (4 * (m3 1 0)))) ∧ ((am_in ((1 + (4 * (m3 1 0))) + 3)) ∧ ((0 ≤ (1 + (4 * (m3 1 0))) + 3) ∧ ((1 + (4 * (m3 1 0))) + 3 < 470) ∧ (∀ m8 : am_M, m8 = am_st m7 1 (am_up (m7 1) ((1 + (4 * (m3 1 0))) + 3).toNat x4) → ∃ P : Int → am_M → Prop, cl_I kR 3 mX10_ends [vR 0, vI (m3 1 0)] m8 P ∧ (∀ (z9 : Int) (m10 : am_M), P z9 m10 → Q z9 m10))))))))))))))))))) ∧ (μ 1 0 = 6 → Q (-3) μ)) ∧ (¬ (0 ≤ x4 ∧ x4 ≤ 999) → Q (-2) μ)) ∧ (x1 = 2 → (¬ (1 ≤ x4 ∧ x4 ≤ 99) → Q (-2) μ) ∧ (1 ≤ x4 ∧ x4 ≤ 99 → (μ 1 0 ≠ 6 → ∃ P : am_M → Prop, cl_V kR 2 mX10_begins [vR 0] μ P ∧ (∀ m12 : am_M, P m12 → (am_in (m12 1 0 + 1)) ∧ (∀ m13 : am_M, m13 = am_st m12 1 (am_up (m12 1) 0 (m12 1 0 + 1)) → (am_in (4 * (m12 1 0))) ∧ ((am_in (1 + (4 * (m12 1 0)))) ∧ ((0 ≤ 1 + (4 * (m12 1 0))) ∧ (1 + (4 * (m12 1 0)) < 470) ∧ (∀ m14 : am_M, m14 = am_st m13 1 (am_up (m13 1) (1 + (4 * (m12 1 0))).toNat x1) → (am_in (4 * (m12 1 0))) ∧ ((am_in (1 + (4 * (m12 1 0)))) ∧ ((am_in ((1 + (4 * (m12 1 0))) + 1)) ∧ ((0 ≤ (1 + (4 * (m12 1 0))) + 1) ∧ ((1 + (4 * (m12 1 0))) + 1 < 470) ∧ (∀ m15 : am_M, m15 = am_st m14 1 (am_up (m14 1) ((1 + (4 * (m12 1 0))) + 1).toNat x2) → (am_in (4 * (m12 1 0))) ∧ ((am_in (1 + (4 * (m12 1 0)))) ∧ ((am_in ((1 + (4 * (m12 1 0))) + 2)) ∧ ((0 ≤ (1 + (4 * (m12 1 0))) + 2) ∧ ((1 + (4 * (m12 1 0))) + 2 < 470) ∧ (∀ m16 : am_M, m16 = am_st m15 1 (am_up (m15 1) ((1 + (4 * (m12 1 0))) + 2).toNat x3) → (am_in (4 * (m12 1 0))) ∧ ((am_in (1 + (4 * (m12 1 0)))) ∧ ((am_in ((1 + (4 * (m12 1 0))) + 3)) ∧ ((0 ≤ (1 + (4 * (m12 1 0))) + 3) ∧ ((1 + (4 * (m12 1 0))) + 3 < 470) ∧ (∀ m17 : am_M, m17 = am_st m16 1 (am_up (m16 1) ((1 + (4 * (m12 1 0))) + 3).toNat x4) → ∃ P : Int → am_M → Prop, cl_I kR 3 mX10_ends [vR 0, vI (m12 1 0)] m17 P ∧ (∀ (z18 : Int) (m19 : am_M), P z18 m19 → Q z18 m19))))))))))))))))))) ∧ (μ 1 0 = 6 → Q (-3) μ)))) ∧ (x1 = 0 → (x4 ≠ 0 → Q (-2) μ) ∧ (x4 = 0 → (μ 1 0 ≠ 6 → ∃ P : am_M → Prop, cl_V kR 2 mX10_begins [vR 0] μ P ∧ (∀ m21 : am_M, P m21 → (am_in (m21 1 0 + 1)) ∧ (∀ m22 : am_M, m22 = am_st m21 1 (am_up (m21 1) 0 (m21 1 0 + 1)) → (am_in (4 * (m21 1 0))) ∧ ((am_in (1 + (4 * (m21 1 0)))) ∧ ((0 ≤ 1 + (4 * (m21 1 0))) ∧ (1 + (4 * (m21 1 0)) < 470) ∧ (∀ m23 : am_M, m23 = am_st m22 1 (am_up (m22 1) (1 + (4 * (m21 1 0))).toNat x1) → (am_in (4 * (m21 1 0))) ∧ ((am_in (1 + (4 * (m21 1 0)))) ∧ ((am_in ((1 + (4 * (m21 1 0))) + 1)) ∧ ((0 ≤ (1 + (4 * (m21 1 0))) + 1) ∧ ((1 + (4 * (m21 1 0))) + 1 < 470) ∧ (∀ m24 : am_M, m24 = am_st m23 1 (am_up (m23 1) ((1 + (4 * (m21 1 0))) + 1).toNat x2) → (am_in (4 * (m21 1 0))) ∧ ((am_in (1 + (4 * (m21 1 0)))) ∧ ((am_in ((1 + (4 * (m21 1 0))) + 2)) ∧ ((0 ≤ (1 + (4 * (m21 1 0))) + 2) ∧ ((1 + (4 * (m21 1 0))) + 2 < 470) ∧ (∀ m25 : am_M, m25 = am_st m24 1 (am_up (m24 1) ((1 + (4 * (m21 1 0))) + 2).toNat x3) → (am_in (4 * (m21 1 0))) ∧ ((am_in (1 + (4 * (m21 1 0)))) ∧ ((am_in ((1 + (4 * (m21 1 0))) + 3)) ∧ ((0 ≤ (1 + (4 * (m21 1 0))) + 3) ∧ ((1 + (4 * (m21 1 0))) + 3 < 470) ∧ (∀ m26 : am_M, m26 = am_st m25 1 (am_up (m25 1) ((1 + (4 * (m21 1 0))) + 3).toNat x4) → ∃ P : Int → am_M → Prop, cl_I kR 3 mX10_ends [vR 0, vI (m21 1 0)] m26 P ∧ (∀ (z27 : Int) (m28 : am_M), P z27 m28 → Q z27 m28))))))))))))))))))) ∧ (μ 1 0 = 6 → Q (-3) μ))))) : at_I kR 5 mX10_addSource 0 [vR 0, vI x1, vI x2, vI x3, vI x4, vU, vU] [] μ Q := by
  refine s_iload_n dX10_addSource_0 rfl rfl ?_
  refine s_iconst dX10_addSource_1 (by decide) ?_
  refine s_iconst dX10_addSource_2 (by decide) ?_
  refine s_callS (As := [vI x1, vI 0, vI 3]) (rest := []) dX10_addSource_3 lkX10_103 lmX10_isIn rfl rfl (Nat.le_of_ble_eq_true rfl) (by decide) (Nat.le_refl 0) (Nat.le_refl 0) (hC := sp_X10_isIn (Q := fun z m => bI (0 ≤ x1 ∧ x1 ≤ 3) = z ∧ μ = m)  ⟨rfl, rfl⟩) (fun r n2 S2 m2 hP => ?_)
  obtain ⟨⟨rfl, rfl⟩, z, rfl, rfl, rfl⟩ := hP
  have kj29 : ∀ (v1 : Int), ((v1 = 0 → Q (-2) μ) ∧ (v1 ≠ 0 → (x1 ≠ 0 → (x1 ≠ 2 → (0 ≤ x4 ∧ x4 ≤ 999 → (μ 1 0 ≠ 6 → ∃ P : am_M → Prop, cl_V kR 2 mX10_begins [vR 0] μ P ∧ (∀ m3 : am_M, P m3 → (am_in (m3 1 0 + 1)) ∧ (∀ m4 : am_M, m4 = am_st m3 1 (am_up (m3 1) 0 (m3 1 0 + 1)) → (am_in (4 * (m3 1 0))) ∧ ((am_in (1 + (4 * (m3 1 0)))) ∧ ((0 ≤ 1 + (4 * (m3 1 0))) ∧ (1 + (4 * (m3 1 0)) < 470) ∧ (∀ m5 : am_M, m5 = am_st m4 1 (am_up (m4 1) (1 + (4 * (m3 1 0))).toNat x1) → (am_in (4 * (m3 1 0))) ∧ ((am_in (1 + (4 * (m3 1 0)))) ∧ ((am_in ((1 + (4 * (m3 1 0))) + 1)) ∧ ((0 ≤ (1 + (4 * (m3 1 0))) + 1) ∧ ((1 + (4 * (m3 1 0))) + 1 < 470) ∧ (∀ m6 : am_M, m6 = am_st m5 1 (am_up (m5 1) ((1 + (4 * (m3 1 0))) + 1).toNat x2) → (am_in (4 * (m3 1 0))) ∧ ((am_in (1 + (4 * (m3 1 0)))) ∧ ((am_in ((1 + (4 * (m3 1 0))) + 2)) ∧ ((0 ≤ (1 + (4 * (m3 1 0))) + 2) ∧ ((1 + (4 * (m3 1 0))) + 2 < 470) ∧ (∀ m7 : am_M, m7 = am_st m6 1 (am_up (m6 1) ((1 + (4 * (m3 1 0))) + 2).toNat x3) → (am_in (4 * (m3 1 0))) ∧ ((am_in (1 + (4 * (m3 1 0)))) ∧ ((am_in ((1 + (4 * (m3 1 0))) + 3)) ∧ ((0 ≤ (1 + (4 * (m3 1 0))) + 3) ∧ ((1 + (4 * (m3 1 0))) + 3 < 470) ∧ (∀ m8 : am_M, m8 = am_st m7 1 (am_up (m7 1) ((1 + (4 * (m3 1 0))) + 3).toNat x4) → ∃ P : Int → am_M → Prop, cl_I kR 3 mX10_ends [vR 0, vI (m3 1 0)] m8 P ∧ (∀ (z9 : Int) (m10 : am_M), P z9 m10 → Q z9 m10))))))))))))))))))) ∧ (μ 1 0 = 6 → Q (-3) μ)) ∧ (¬ (0 ≤ x4 ∧ x4 ≤ 999) → Q (-2) μ)) ∧ (x1 = 2 → (¬ (1 ≤ x4 ∧ x4 ≤ 99) → Q (-2) μ) ∧ (1 ≤ x4 ∧ x4 ≤ 99 → (μ 1 0 ≠ 6 → ∃ P : am_M → Prop, cl_V kR 2 mX10_begins [vR 0] μ P ∧ (∀ m12 : am_M, P m12 → (am_in (m12 1 0 + 1)) ∧ (∀ m13 : am_M, m13 = am_st m12 1 (am_up (m12 1) 0 (m12 1 0 + 1)) → (am_in (4 * (m12 1 0))) ∧ ((am_in (1 + (4 * (m12 1 0)))) ∧ ((0 ≤ 1 + (4 * (m12 1 0))) ∧ (1 + (4 * (m12 1 0)) < 470) ∧ (∀ m14 : am_M, m14 = am_st m13 1 (am_up (m13 1) (1 + (4 * (m12 1 0))).toNat x1) → (am_in (4 * (m12 1 0))) ∧ ((am_in (1 + (4 * (m12 1 0)))) ∧ ((am_in ((1 + (4 * (m12 1 0))) + 1)) ∧ ((0 ≤ (1 + (4 * (m12 1 0))) + 1) ∧ ((1 + (4 * (m12 1 0))) + 1 < 470) ∧ (∀ m15 : am_M, m15 = am_st m14 1 (am_up (m14 1) ((1 + (4 * (m12 1 0))) + 1).toNat x2) → (am_in (4 * (m12 1 0))) ∧ ((am_in (1 + (4 * (m12 1 0)))) ∧ ((am_in ((1 + (4 * (m12 1 0))) + 2)) ∧ ((0 ≤ (1 + (4 * (m12 1 0))) + 2) ∧ ((1 + (4 * (m12 1 0))) + 2 < 470) ∧ (∀ m16 : am_M, m16 = am_st m15 1 (am_up (m15 1) ((1 + (4 * (m12 1 0))) + 2).toNat x3) → (am_in (4 * (m12 1 0))) ∧ ((am_in (1 + (4 * (m12 1 0)))) ∧ ((am_in ((1 + (4 * (m12 1 0))) + 3)) ∧ ((0 ≤ (1 + (4 * (m12 1 0))) + 3) ∧ ((1 + (4 * (m12 1 0))) + 3 < 470) ∧ (∀ m17 : am_M, m17 = am_st m16 1 (am_up (m16 1) ((1 + (4 * (m12 1 0))) + 3).toNat x4) → ∃ P : Int → am_M → Prop, cl_I kR 3 mX10_ends [vR 0, vI (m12 1 0)] m17 P ∧ (∀ (z18 : Int) (m19 : am_M), P z18 m19 → Q z18 m19))))))))))))))))))) ∧ (μ 1 0 = 6 → Q (-3) μ)))) ∧ (x1 = 0 → (x4 ≠ 0 → Q (-2) μ) ∧ (x4 = 0 → (μ 1 0 ≠ 6 → ∃ P : am_M → Prop, cl_V kR 2 mX10_begins [vR 0] μ P ∧ (∀ m21 : am_M, P m21 → (am_in (m21 1 0 + 1)) ∧ (∀ m22 : am_M, m22 = am_st m21 1 (am_up (m21 1) 0 (m21 1 0 + 1)) → (am_in (4 * (m21 1 0))) ∧ ((am_in (1 + (4 * (m21 1 0)))) ∧ ((0 ≤ 1 + (4 * (m21 1 0))) ∧ (1 + (4 * (m21 1 0)) < 470) ∧ (∀ m23 : am_M, m23 = am_st m22 1 (am_up (m22 1) (1 + (4 * (m21 1 0))).toNat x1) → (am_in (4 * (m21 1 0))) ∧ ((am_in (1 + (4 * (m21 1 0)))) ∧ ((am_in ((1 + (4 * (m21 1 0))) + 1)) ∧ ((0 ≤ (1 + (4 * (m21 1 0))) + 1) ∧ ((1 + (4 * (m21 1 0))) + 1 < 470) ∧ (∀ m24 : am_M, m24 = am_st m23 1 (am_up (m23 1) ((1 + (4 * (m21 1 0))) + 1).toNat x2) → (am_in (4 * (m21 1 0))) ∧ ((am_in (1 + (4 * (m21 1 0)))) ∧ ((am_in ((1 + (4 * (m21 1 0))) + 2)) ∧ ((0 ≤ (1 + (4 * (m21 1 0))) + 2) ∧ ((1 + (4 * (m21 1 0))) + 2 < 470) ∧ (∀ m25 : am_M, m25 = am_st m24 1 (am_up (m24 1) ((1 + (4 * (m21 1 0))) + 2).toNat x3) → (am_in (4 * (m21 1 0))) ∧ ((am_in (1 + (4 * (m21 1 0)))) ∧ ((am_in ((1 + (4 * (m21 1 0))) + 3)) ∧ ((0 ≤ (1 + (4 * (m21 1 0))) + 3) ∧ ((1 + (4 * (m21 1 0))) + 3 < 470) ∧ (∀ m26 : am_M, m26 = am_st m25 1 (am_up (m25 1) ((1 + (4 * (m21 1 0))) + 3).toNat x4) → ∃ P : Int → am_M → Prop, cl_I kR 3 mX10_ends [vR 0, vI (m21 1 0)] m26 P ∧ (∀ (z27 : Int) (m28 : am_M), P z27 m28 → Q z27 m28))))))))))))))))))) ∧ (μ 1 0 = 6 → Q (-3) μ))))) → at_I kR 5 mX10_addSource 36 [vR 0, vI x1, vI x2, vI x3, vI x4, vU, vU] [vI v1] μ Q := by
    intro v1 h
    refine s_istore dX10_addSource_36 (by decide) (L' := [vR 0, vI x1, vI x2, vI x3, vI x4, vI v1, vU]) rfl ?_
    refine s_iload dX10_addSource_38 rfl ?_
    refine s_if_eq dX10_addSource_40 (tgt := 86) (by decide) (fun cc => ?_) (fun cc => ?_)
    · have h := h.1 cc
      refine s_bipush dX10_addSource_86 (by decide) ?_
      exact s_ireturn dX10_addSource_88 (Or.inl rfl) ⟨⟨rfl, rfl⟩, _, rfl, h⟩
    · have h := h.2 cc
      refine s_iload_n dX10_addSource_43 rfl rfl ?_
      refine s_if_ne dX10_addSource_44 (tgt := 55) (by decide) (fun cc => ?_) (fun cc => ?_)
      · have h := h.1 cc
        refine s_iload_n dX10_addSource_55 rfl rfl ?_
        refine s_iconst dX10_addSource_56 (by decide) ?_
        refine s_icmp_ne dX10_addSource_57 (tgt := 74) (by decide) (fun cc => ?_) (fun cc => ?_)
        · have h := h.1 cc
          refine s_iload dX10_addSource_74 rfl ?_
          refine s_iconst dX10_addSource_76 (by decide) ?_
          refine s_sipush dX10_addSource_77 (by decide) ?_
          refine s_callS (As := [vI x4, vI 0, vI 999]) (rest := []) dX10_addSource_80 lkX10_103 lmX10_isIn rfl rfl (Nat.le_of_ble_eq_true rfl) (by decide) (Nat.le_refl 0) (Nat.le_refl 0) (hC := sp_X10_isIn (Q := fun z m => bI (0 ≤ x4 ∧ x4 ≤ 999) = z ∧ μ = m)  ⟨rfl, rfl⟩) (fun r n2 S2 m2 hP => ?_)
          obtain ⟨⟨rfl, rfl⟩, z, rfl, rfl, rfl⟩ := hP
          refine s_if_ne dX10_addSource_83 (tgt := 89) (by decide) (fun cc => ?_) (fun cc => ?_)
          · have h := h.1 (bI_ne cc)
            refine s_aload_n dX10_addSource_89 rfl rfl ?_
            refine s_getR dX10_addSource_90 flX10_9 rn0 rk0 rfl rr0_0 ?_
            refine s_iconst dX10_addSource_93 (by decide) ?_
            refine s_iald (x := (μ 1 0)) dX10_addSource_94 rn1 rk1 rl1 (by decide) (by decide) rfl ?_
            refine s_bipush dX10_addSource_95 (by decide) ?_
            refine s_icmp_ne dX10_addSource_97 (tgt := 103) (by decide) (fun cc => ?_) (fun cc => ?_)
            · have h := h.1 cc
              refine s_aload_n dX10_addSource_103 rfl rfl ?_
              obtain ⟨P, hcl, h⟩ := h
              refine s_callV (As := []) (rest := []) (k := 0) dX10_addSource_104 lkX10_107 rn0 ⟨by rw [rk0]; rfl, by rw [rk0]; decide⟩ lmX10_begins rfl rfl (Nat.le_of_ble_eq_true rfl) (by decide) (Nat.le_refl 0) (Nat.le_refl 0) (hC := hcl) (fun r n2 S2 m3 hP => ?_)
              obtain ⟨⟨rfl, rfl⟩, rfl, hq⟩ := hP
              have h := h m3 hq
              refine s_aload_n dX10_addSource_107 rfl rfl ?_
              refine s_getR dX10_addSource_108 flX10_9 rn0 rk0 rfl rr0_0 ?_
              refine s_iconst dX10_addSource_111 (by decide) ?_
              refine s_iald (x := (m3 1 0)) dX10_addSource_112 rn1 rk1 rl1 (by decide) (by decide) rfl ?_
              refine s_istore dX10_addSource_113 (by decide) (L' := [vR 0, vI x1, vI x2, vI x3, vI x4, vI v1, vI (m3 1 0)]) rfl ?_
              refine s_aload_n dX10_addSource_115 rfl rfl ?_
              refine s_getR dX10_addSource_116 flX10_9 rn0 rk0 rfl rr0_0 ?_
              refine s_iconst dX10_addSource_119 (by decide) ?_
              refine s_dup2 dX10_addSource_120 ?_
              refine s_iald (x := (m3 1 0)) dX10_addSource_121 rn1 rk1 rl1 (by decide) (by decide) rfl ?_
              refine s_iconst dX10_addSource_122 (by decide) ?_
              obtain ⟨c, h⟩ := h
              refine s_iadd dX10_addSource_123 (am_w_id c) ?_
              obtain ⟨m4, hm4⟩ : ∃ x : am_M, x = am_st m3 1 (am_up (m3 1) 0 (m3 1 0 + 1)) := ⟨_, rfl⟩
              have h := h m4 hm4
              refine s_iast dX10_addSource_124 rn1 rk1 rl1 (by decide) (by decide) hm4.symm ?_
              refine s_aload_n dX10_addSource_125 rfl rfl ?_
              refine s_getR dX10_addSource_126 flX10_9 rn0 rk0 rfl rr0_0 ?_
              refine s_iconst dX10_addSource_129 (by decide) ?_
              refine s_iconst dX10_addSource_130 (by decide) ?_
              refine s_iload dX10_addSource_131 rfl ?_
              obtain ⟨c, h⟩ := h
              refine s_imul dX10_addSource_133 (am_w_id c) ?_
              obtain ⟨c, h⟩ := h
              refine s_iadd dX10_addSource_134 (am_w_id c) ?_
              refine s_iload_n dX10_addSource_135 rfl rfl ?_
              obtain ⟨c, c2, h⟩ := h
              obtain ⟨m5, hm5⟩ : ∃ x : am_M, x = am_st m4 1 (am_up (m4 1) (1 + (4 * (m3 1 0))).toNat x1) := ⟨_, rfl⟩
              have h := h m5 hm5
              refine s_iast dX10_addSource_136 rn1 rk1 rl1 c c2 hm5.symm ?_
              refine s_aload_n dX10_addSource_137 rfl rfl ?_
              refine s_getR dX10_addSource_138 flX10_9 rn0 rk0 rfl rr0_0 ?_
              refine s_iconst dX10_addSource_141 (by decide) ?_
              refine s_iconst dX10_addSource_142 (by decide) ?_
              refine s_iload dX10_addSource_143 rfl ?_
              obtain ⟨c, h⟩ := h
              refine s_imul dX10_addSource_145 (am_w_id c) ?_
              obtain ⟨c, h⟩ := h
              refine s_iadd dX10_addSource_146 (am_w_id c) ?_
              refine s_iconst dX10_addSource_147 (by decide) ?_
              obtain ⟨c, h⟩ := h
              refine s_iadd dX10_addSource_148 (am_w_id c) ?_
              refine s_iload_n dX10_addSource_149 rfl rfl ?_
              obtain ⟨c, c2, h⟩ := h
              obtain ⟨m6, hm6⟩ : ∃ x : am_M, x = am_st m5 1 (am_up (m5 1) ((1 + (4 * (m3 1 0))) + 1).toNat x2) := ⟨_, rfl⟩
              have h := h m6 hm6
              refine s_iast dX10_addSource_150 rn1 rk1 rl1 c c2 hm6.symm ?_
              refine s_aload_n dX10_addSource_151 rfl rfl ?_
              refine s_getR dX10_addSource_152 flX10_9 rn0 rk0 rfl rr0_0 ?_
              refine s_iconst dX10_addSource_155 (by decide) ?_
              refine s_iconst dX10_addSource_156 (by decide) ?_
              refine s_iload dX10_addSource_157 rfl ?_
              obtain ⟨c, h⟩ := h
              refine s_imul dX10_addSource_159 (am_w_id c) ?_
              obtain ⟨c, h⟩ := h
              refine s_iadd dX10_addSource_160 (am_w_id c) ?_
              refine s_iconst dX10_addSource_161 (by decide) ?_
              obtain ⟨c, h⟩ := h
              refine s_iadd dX10_addSource_162 (am_w_id c) ?_
              refine s_iload_n dX10_addSource_163 rfl rfl ?_
              obtain ⟨c, c2, h⟩ := h
              obtain ⟨m7, hm7⟩ : ∃ x : am_M, x = am_st m6 1 (am_up (m6 1) ((1 + (4 * (m3 1 0))) + 2).toNat x3) := ⟨_, rfl⟩
              have h := h m7 hm7
              refine s_iast dX10_addSource_164 rn1 rk1 rl1 c c2 hm7.symm ?_
              refine s_aload_n dX10_addSource_165 rfl rfl ?_
              refine s_getR dX10_addSource_166 flX10_9 rn0 rk0 rfl rr0_0 ?_
              refine s_iconst dX10_addSource_169 (by decide) ?_
              refine s_iconst dX10_addSource_170 (by decide) ?_
              refine s_iload dX10_addSource_171 rfl ?_
              obtain ⟨c, h⟩ := h
              refine s_imul dX10_addSource_173 (am_w_id c) ?_
              obtain ⟨c, h⟩ := h
              refine s_iadd dX10_addSource_174 (am_w_id c) ?_
              refine s_iconst dX10_addSource_175 (by decide) ?_
              obtain ⟨c, h⟩ := h
              refine s_iadd dX10_addSource_176 (am_w_id c) ?_
              refine s_iload dX10_addSource_177 rfl ?_
              obtain ⟨c, c2, h⟩ := h
              obtain ⟨m8, hm8⟩ : ∃ x : am_M, x = am_st m7 1 (am_up (m7 1) ((1 + (4 * (m3 1 0))) + 3).toNat x4) := ⟨_, rfl⟩
              have h := h m8 hm8
              refine s_iast dX10_addSource_179 rn1 rk1 rl1 c c2 hm8.symm ?_
              refine s_aload_n dX10_addSource_180 rfl rfl ?_
              refine s_iload dX10_addSource_181 rfl ?_
              obtain ⟨P, hcl, h⟩ := h
              refine s_callV (As := [vI (m3 1 0)]) (rest := []) (k := 0) dX10_addSource_183 lkX10_110 rn0 ⟨by rw [rk0]; rfl, by rw [rk0]; decide⟩ lmX10_ends rfl rfl (Nat.le_of_ble_eq_true rfl) (by decide) (Nat.le_refl 0) (Nat.le_refl 0) (hC := hcl) (fun r n2 S2 m10 hP => ?_)
              obtain ⟨⟨rfl, rfl⟩, z9, rfl, hq⟩ := hP
              have h := h z9 m10 hq
              exact s_ireturn dX10_addSource_186 (Or.inl rfl) ⟨⟨rfl, rfl⟩, _, rfl, h⟩
            · have h := h.2 cc
              refine s_bipush dX10_addSource_100 (by decide) ?_
              exact s_ireturn dX10_addSource_102 (Or.inl rfl) ⟨⟨rfl, rfl⟩, _, rfl, h⟩
          · have h := h.2 (bI_eq cc)
            refine s_bipush dX10_addSource_86 (by decide) ?_
            exact s_ireturn dX10_addSource_88 (Or.inl rfl) ⟨⟨rfl, rfl⟩, _, rfl, h⟩
        · have h := h.2 cc
          refine s_iload dX10_addSource_60 rfl ?_
          refine s_iconst dX10_addSource_62 (by decide) ?_
          refine s_bipush dX10_addSource_63 (by decide) ?_
          refine s_callS (As := [vI x4, vI 1, vI 99]) (rest := []) dX10_addSource_65 lkX10_103 lmX10_isIn rfl rfl (Nat.le_of_ble_eq_true rfl) (by decide) (Nat.le_refl 0) (Nat.le_refl 0) (hC := sp_X10_isIn (Q := fun z m => bI (1 ≤ x4 ∧ x4 ≤ 99) = z ∧ μ = m)  ⟨rfl, rfl⟩) (fun r n2 S2 m2 hP => ?_)
          obtain ⟨⟨rfl, rfl⟩, z, rfl, rfl, rfl⟩ := hP
          refine s_if_eq dX10_addSource_68 (tgt := 86) (by decide) (fun cc => ?_) (fun cc => ?_)
          · have h := h.1 (bI_eq cc)
            refine s_bipush dX10_addSource_86 (by decide) ?_
            exact s_ireturn dX10_addSource_88 (Or.inl rfl) ⟨⟨rfl, rfl⟩, _, rfl, h⟩
          · have h := h.2 (bI_ne cc)
            refine s_goto dX10_addSource_71 (tgt := 89) (by decide) ?_
            refine s_aload_n dX10_addSource_89 rfl rfl ?_
            refine s_getR dX10_addSource_90 flX10_9 rn0 rk0 rfl rr0_0 ?_
            refine s_iconst dX10_addSource_93 (by decide) ?_
            refine s_iald (x := (μ 1 0)) dX10_addSource_94 rn1 rk1 rl1 (by decide) (by decide) rfl ?_
            refine s_bipush dX10_addSource_95 (by decide) ?_
            refine s_icmp_ne dX10_addSource_97 (tgt := 103) (by decide) (fun cc => ?_) (fun cc => ?_)
            · have h := h.1 cc
              refine s_aload_n dX10_addSource_103 rfl rfl ?_
              obtain ⟨P, hcl, h⟩ := h
              refine s_callV (As := []) (rest := []) (k := 0) dX10_addSource_104 lkX10_107 rn0 ⟨by rw [rk0]; rfl, by rw [rk0]; decide⟩ lmX10_begins rfl rfl (Nat.le_of_ble_eq_true rfl) (by decide) (Nat.le_refl 0) (Nat.le_refl 0) (hC := hcl) (fun r n2 S2 m12 hP => ?_)
              obtain ⟨⟨rfl, rfl⟩, rfl, hq⟩ := hP
              have h := h m12 hq
              refine s_aload_n dX10_addSource_107 rfl rfl ?_
              refine s_getR dX10_addSource_108 flX10_9 rn0 rk0 rfl rr0_0 ?_
              refine s_iconst dX10_addSource_111 (by decide) ?_
              refine s_iald (x := (m12 1 0)) dX10_addSource_112 rn1 rk1 rl1 (by decide) (by decide) rfl ?_
              refine s_istore dX10_addSource_113 (by decide) (L' := [vR 0, vI x1, vI x2, vI x3, vI x4, vI v1, vI (m12 1 0)]) rfl ?_
              refine s_aload_n dX10_addSource_115 rfl rfl ?_
              refine s_getR dX10_addSource_116 flX10_9 rn0 rk0 rfl rr0_0 ?_
              refine s_iconst dX10_addSource_119 (by decide) ?_
              refine s_dup2 dX10_addSource_120 ?_
              refine s_iald (x := (m12 1 0)) dX10_addSource_121 rn1 rk1 rl1 (by decide) (by decide) rfl ?_
              refine s_iconst dX10_addSource_122 (by decide) ?_
              obtain ⟨c, h⟩ := h
              refine s_iadd dX10_addSource_123 (am_w_id c) ?_
              obtain ⟨m13, hm13⟩ : ∃ x : am_M, x = am_st m12 1 (am_up (m12 1) 0 (m12 1 0 + 1)) := ⟨_, rfl⟩
              have h := h m13 hm13
              refine s_iast dX10_addSource_124 rn1 rk1 rl1 (by decide) (by decide) hm13.symm ?_
              refine s_aload_n dX10_addSource_125 rfl rfl ?_
              refine s_getR dX10_addSource_126 flX10_9 rn0 rk0 rfl rr0_0 ?_
              refine s_iconst dX10_addSource_129 (by decide) ?_
              refine s_iconst dX10_addSource_130 (by decide) ?_
              refine s_iload dX10_addSource_131 rfl ?_
              obtain ⟨c, h⟩ := h
              refine s_imul dX10_addSource_133 (am_w_id c) ?_
              obtain ⟨c, h⟩ := h
              refine s_iadd dX10_addSource_134 (am_w_id c) ?_
              refine s_iload_n dX10_addSource_135 rfl rfl ?_
              obtain ⟨c, c2, h⟩ := h
              obtain ⟨m14, hm14⟩ : ∃ x : am_M, x = am_st m13 1 (am_up (m13 1) (1 + (4 * (m12 1 0))).toNat x1) := ⟨_, rfl⟩
              have h := h m14 hm14
              refine s_iast dX10_addSource_136 rn1 rk1 rl1 c c2 hm14.symm ?_
              refine s_aload_n dX10_addSource_137 rfl rfl ?_
              refine s_getR dX10_addSource_138 flX10_9 rn0 rk0 rfl rr0_0 ?_
              refine s_iconst dX10_addSource_141 (by decide) ?_
              refine s_iconst dX10_addSource_142 (by decide) ?_
              refine s_iload dX10_addSource_143 rfl ?_
              obtain ⟨c, h⟩ := h
              refine s_imul dX10_addSource_145 (am_w_id c) ?_
              obtain ⟨c, h⟩ := h
              refine s_iadd dX10_addSource_146 (am_w_id c) ?_
              refine s_iconst dX10_addSource_147 (by decide) ?_
              obtain ⟨c, h⟩ := h
              refine s_iadd dX10_addSource_148 (am_w_id c) ?_
              refine s_iload_n dX10_addSource_149 rfl rfl ?_
              obtain ⟨c, c2, h⟩ := h
              obtain ⟨m15, hm15⟩ : ∃ x : am_M, x = am_st m14 1 (am_up (m14 1) ((1 + (4 * (m12 1 0))) + 1).toNat x2) := ⟨_, rfl⟩
              have h := h m15 hm15
              refine s_iast dX10_addSource_150 rn1 rk1 rl1 c c2 hm15.symm ?_
              refine s_aload_n dX10_addSource_151 rfl rfl ?_
              refine s_getR dX10_addSource_152 flX10_9 rn0 rk0 rfl rr0_0 ?_
              refine s_iconst dX10_addSource_155 (by decide) ?_
              refine s_iconst dX10_addSource_156 (by decide) ?_
              refine s_iload dX10_addSource_157 rfl ?_
              obtain ⟨c, h⟩ := h
              refine s_imul dX10_addSource_159 (am_w_id c) ?_
              obtain ⟨c, h⟩ := h
              refine s_iadd dX10_addSource_160 (am_w_id c) ?_
              refine s_iconst dX10_addSource_161 (by decide) ?_
              obtain ⟨c, h⟩ := h
              refine s_iadd dX10_addSource_162 (am_w_id c) ?_
              refine s_iload_n dX10_addSource_163 rfl rfl ?_
              obtain ⟨c, c2, h⟩ := h
              obtain ⟨m16, hm16⟩ : ∃ x : am_M, x = am_st m15 1 (am_up (m15 1) ((1 + (4 * (m12 1 0))) + 2).toNat x3) := ⟨_, rfl⟩
              have h := h m16 hm16
              refine s_iast dX10_addSource_164 rn1 rk1 rl1 c c2 hm16.symm ?_
              refine s_aload_n dX10_addSource_165 rfl rfl ?_
              refine s_getR dX10_addSource_166 flX10_9 rn0 rk0 rfl rr0_0 ?_
              refine s_iconst dX10_addSource_169 (by decide) ?_
              refine s_iconst dX10_addSource_170 (by decide) ?_
              refine s_iload dX10_addSource_171 rfl ?_
              obtain ⟨c, h⟩ := h
              refine s_imul dX10_addSource_173 (am_w_id c) ?_
              obtain ⟨c, h⟩ := h
              refine s_iadd dX10_addSource_174 (am_w_id c) ?_
              refine s_iconst dX10_addSource_175 (by decide) ?_
              obtain ⟨c, h⟩ := h
              refine s_iadd dX10_addSource_176 (am_w_id c) ?_
              refine s_iload dX10_addSource_177 rfl ?_
              obtain ⟨c, c2, h⟩ := h
              obtain ⟨m17, hm17⟩ : ∃ x : am_M, x = am_st m16 1 (am_up (m16 1) ((1 + (4 * (m12 1 0))) + 3).toNat x4) := ⟨_, rfl⟩
              have h := h m17 hm17
              refine s_iast dX10_addSource_179 rn1 rk1 rl1 c c2 hm17.symm ?_
              refine s_aload_n dX10_addSource_180 rfl rfl ?_
              refine s_iload dX10_addSource_181 rfl ?_
              obtain ⟨P, hcl, h⟩ := h
              refine s_callV (As := [vI (m12 1 0)]) (rest := []) (k := 0) dX10_addSource_183 lkX10_110 rn0 ⟨by rw [rk0]; rfl, by rw [rk0]; decide⟩ lmX10_ends rfl rfl (Nat.le_of_ble_eq_true rfl) (by decide) (Nat.le_refl 0) (Nat.le_refl 0) (hC := hcl) (fun r n2 S2 m19 hP => ?_)
              obtain ⟨⟨rfl, rfl⟩, z18, rfl, hq⟩ := hP
              have h := h z18 m19 hq
              exact s_ireturn dX10_addSource_186 (Or.inl rfl) ⟨⟨rfl, rfl⟩, _, rfl, h⟩
            · have h := h.2 cc
              refine s_bipush dX10_addSource_100 (by decide) ?_
              exact s_ireturn dX10_addSource_102 (Or.inl rfl) ⟨⟨rfl, rfl⟩, _, rfl, h⟩
      · have h := h.2 cc
        refine s_iload dX10_addSource_47 rfl ?_
        refine s_if_ne dX10_addSource_49 (tgt := 86) (by decide) (fun cc => ?_) (fun cc => ?_)
        · have h := h.1 cc
          refine s_bipush dX10_addSource_86 (by decide) ?_
          exact s_ireturn dX10_addSource_88 (Or.inl rfl) ⟨⟨rfl, rfl⟩, _, rfl, h⟩
        · have h := h.2 cc
          refine s_goto dX10_addSource_52 (tgt := 89) (by decide) ?_
          refine s_aload_n dX10_addSource_89 rfl rfl ?_
          refine s_getR dX10_addSource_90 flX10_9 rn0 rk0 rfl rr0_0 ?_
          refine s_iconst dX10_addSource_93 (by decide) ?_
          refine s_iald (x := (μ 1 0)) dX10_addSource_94 rn1 rk1 rl1 (by decide) (by decide) rfl ?_
          refine s_bipush dX10_addSource_95 (by decide) ?_
          refine s_icmp_ne dX10_addSource_97 (tgt := 103) (by decide) (fun cc => ?_) (fun cc => ?_)
          · have h := h.1 cc
            refine s_aload_n dX10_addSource_103 rfl rfl ?_
            obtain ⟨P, hcl, h⟩ := h
            refine s_callV (As := []) (rest := []) (k := 0) dX10_addSource_104 lkX10_107 rn0 ⟨by rw [rk0]; rfl, by rw [rk0]; decide⟩ lmX10_begins rfl rfl (Nat.le_of_ble_eq_true rfl) (by decide) (Nat.le_refl 0) (Nat.le_refl 0) (hC := hcl) (fun r n2 S2 m21 hP => ?_)
            obtain ⟨⟨rfl, rfl⟩, rfl, hq⟩ := hP
            have h := h m21 hq
            refine s_aload_n dX10_addSource_107 rfl rfl ?_
            refine s_getR dX10_addSource_108 flX10_9 rn0 rk0 rfl rr0_0 ?_
            refine s_iconst dX10_addSource_111 (by decide) ?_
            refine s_iald (x := (m21 1 0)) dX10_addSource_112 rn1 rk1 rl1 (by decide) (by decide) rfl ?_
            refine s_istore dX10_addSource_113 (by decide) (L' := [vR 0, vI x1, vI x2, vI x3, vI x4, vI v1, vI (m21 1 0)]) rfl ?_
            refine s_aload_n dX10_addSource_115 rfl rfl ?_
            refine s_getR dX10_addSource_116 flX10_9 rn0 rk0 rfl rr0_0 ?_
            refine s_iconst dX10_addSource_119 (by decide) ?_
            refine s_dup2 dX10_addSource_120 ?_
            refine s_iald (x := (m21 1 0)) dX10_addSource_121 rn1 rk1 rl1 (by decide) (by decide) rfl ?_
            refine s_iconst dX10_addSource_122 (by decide) ?_
            obtain ⟨c, h⟩ := h
            refine s_iadd dX10_addSource_123 (am_w_id c) ?_
            obtain ⟨m22, hm22⟩ : ∃ x : am_M, x = am_st m21 1 (am_up (m21 1) 0 (m21 1 0 + 1)) := ⟨_, rfl⟩
            have h := h m22 hm22
            refine s_iast dX10_addSource_124 rn1 rk1 rl1 (by decide) (by decide) hm22.symm ?_
            refine s_aload_n dX10_addSource_125 rfl rfl ?_
            refine s_getR dX10_addSource_126 flX10_9 rn0 rk0 rfl rr0_0 ?_
            refine s_iconst dX10_addSource_129 (by decide) ?_
            refine s_iconst dX10_addSource_130 (by decide) ?_
            refine s_iload dX10_addSource_131 rfl ?_
            obtain ⟨c, h⟩ := h
            refine s_imul dX10_addSource_133 (am_w_id c) ?_
            obtain ⟨c, h⟩ := h
            refine s_iadd dX10_addSource_134 (am_w_id c) ?_
            refine s_iload_n dX10_addSource_135 rfl rfl ?_
            obtain ⟨c, c2, h⟩ := h
            obtain ⟨m23, hm23⟩ : ∃ x : am_M, x = am_st m22 1 (am_up (m22 1) (1 + (4 * (m21 1 0))).toNat x1) := ⟨_, rfl⟩
            have h := h m23 hm23
            refine s_iast dX10_addSource_136 rn1 rk1 rl1 c c2 hm23.symm ?_
            refine s_aload_n dX10_addSource_137 rfl rfl ?_
            refine s_getR dX10_addSource_138 flX10_9 rn0 rk0 rfl rr0_0 ?_
            refine s_iconst dX10_addSource_141 (by decide) ?_
            refine s_iconst dX10_addSource_142 (by decide) ?_
            refine s_iload dX10_addSource_143 rfl ?_
            obtain ⟨c, h⟩ := h
            refine s_imul dX10_addSource_145 (am_w_id c) ?_
            obtain ⟨c, h⟩ := h
            refine s_iadd dX10_addSource_146 (am_w_id c) ?_
            refine s_iconst dX10_addSource_147 (by decide) ?_
            obtain ⟨c, h⟩ := h
            refine s_iadd dX10_addSource_148 (am_w_id c) ?_
            refine s_iload_n dX10_addSource_149 rfl rfl ?_
            obtain ⟨c, c2, h⟩ := h
            obtain ⟨m24, hm24⟩ : ∃ x : am_M, x = am_st m23 1 (am_up (m23 1) ((1 + (4 * (m21 1 0))) + 1).toNat x2) := ⟨_, rfl⟩
            have h := h m24 hm24
            refine s_iast dX10_addSource_150 rn1 rk1 rl1 c c2 hm24.symm ?_
            refine s_aload_n dX10_addSource_151 rfl rfl ?_
            refine s_getR dX10_addSource_152 flX10_9 rn0 rk0 rfl rr0_0 ?_
            refine s_iconst dX10_addSource_155 (by decide) ?_
            refine s_iconst dX10_addSource_156 (by decide) ?_
            refine s_iload dX10_addSource_157 rfl ?_
            obtain ⟨c, h⟩ := h
            refine s_imul dX10_addSource_159 (am_w_id c) ?_
            obtain ⟨c, h⟩ := h
            refine s_iadd dX10_addSource_160 (am_w_id c) ?_
            refine s_iconst dX10_addSource_161 (by decide) ?_
            obtain ⟨c, h⟩ := h
            refine s_iadd dX10_addSource_162 (am_w_id c) ?_
            refine s_iload_n dX10_addSource_163 rfl rfl ?_
            obtain ⟨c, c2, h⟩ := h
            obtain ⟨m25, hm25⟩ : ∃ x : am_M, x = am_st m24 1 (am_up (m24 1) ((1 + (4 * (m21 1 0))) + 2).toNat x3) := ⟨_, rfl⟩
            have h := h m25 hm25
            refine s_iast dX10_addSource_164 rn1 rk1 rl1 c c2 hm25.symm ?_
            refine s_aload_n dX10_addSource_165 rfl rfl ?_
            refine s_getR dX10_addSource_166 flX10_9 rn0 rk0 rfl rr0_0 ?_
            refine s_iconst dX10_addSource_169 (by decide) ?_
            refine s_iconst dX10_addSource_170 (by decide) ?_
            refine s_iload dX10_addSource_171 rfl ?_
            obtain ⟨c, h⟩ := h
            refine s_imul dX10_addSource_173 (am_w_id c) ?_
            obtain ⟨c, h⟩ := h
            refine s_iadd dX10_addSource_174 (am_w_id c) ?_
            refine s_iconst dX10_addSource_175 (by decide) ?_
            obtain ⟨c, h⟩ := h
            refine s_iadd dX10_addSource_176 (am_w_id c) ?_
            refine s_iload dX10_addSource_177 rfl ?_
            obtain ⟨c, c2, h⟩ := h
            obtain ⟨m26, hm26⟩ : ∃ x : am_M, x = am_st m25 1 (am_up (m25 1) ((1 + (4 * (m21 1 0))) + 3).toNat x4) := ⟨_, rfl⟩
            have h := h m26 hm26
            refine s_iast dX10_addSource_179 rn1 rk1 rl1 c c2 hm26.symm ?_
            refine s_aload_n dX10_addSource_180 rfl rfl ?_
            refine s_iload dX10_addSource_181 rfl ?_
            obtain ⟨P, hcl, h⟩ := h
            refine s_callV (As := [vI (m21 1 0)]) (rest := []) (k := 0) dX10_addSource_183 lkX10_110 rn0 ⟨by rw [rk0]; rfl, by rw [rk0]; decide⟩ lmX10_ends rfl rfl (Nat.le_of_ble_eq_true rfl) (by decide) (Nat.le_refl 0) (Nat.le_refl 0) (hC := hcl) (fun r n2 S2 m28 hP => ?_)
            obtain ⟨⟨rfl, rfl⟩, z27, rfl, hq⟩ := hP
            have h := h z27 m28 hq
            exact s_ireturn dX10_addSource_186 (Or.inl rfl) ⟨⟨rfl, rfl⟩, _, rfl, h⟩
          · have h := h.2 cc
            refine s_bipush dX10_addSource_100 (by decide) ?_
            exact s_ireturn dX10_addSource_102 (Or.inl rfl) ⟨⟨rfl, rfl⟩, _, rfl, h⟩
  refine s_if_eq dX10_addSource_6 (tgt := 35) (by decide) (fun cc => ?_) (fun cc => ?_)
  · have hp0 := (bI_eq cc)
    refine s_iconst dX10_addSource_35 (by decide) ?_
    exact kj29 0 (h 0 (by rw [cif_f hp0]))
  · have hp0 := (bI_ne cc)
    refine s_iload_n dX10_addSource_9 rfl rfl ?_
    refine s_iconst dX10_addSource_10 (by decide) ?_
    refine s_sipush dX10_addSource_11 (by decide) ?_
    refine s_callS (As := [vI x2, vI 1, vI 200]) (rest := []) dX10_addSource_14 lkX10_103 lmX10_isIn rfl rfl (Nat.le_of_ble_eq_true rfl) (by decide) (Nat.le_refl 0) (Nat.le_refl 0) (hC := sp_X10_isIn (Q := fun z m => bI (1 ≤ x2 ∧ x2 ≤ 200) = z ∧ μ = m)  ⟨rfl, rfl⟩) (fun r n2 S2 m2 hP => ?_)
    obtain ⟨⟨rfl, rfl⟩, z, rfl, rfl, rfl⟩ := hP
    refine s_if_eq dX10_addSource_17 (tgt := 35) (by decide) (fun cc => ?_) (fun cc => ?_)
    · have hp1 := (bI_eq cc)
      refine s_iconst dX10_addSource_35 (by decide) ?_
      exact kj29 0 (h 0 (by rw [cif_t hp0, cif_f hp1]))
    · have hp1 := (bI_ne cc)
      refine s_iload_n dX10_addSource_20 rfl rfl ?_
      refine s_iconst dX10_addSource_21 (by decide) ?_
      refine s_sipush dX10_addSource_22 (by decide) ?_
      refine s_callS (As := [vI x3, vI 0, vI 999]) (rest := []) dX10_addSource_25 lkX10_103 lmX10_isIn rfl rfl (Nat.le_of_ble_eq_true rfl) (by decide) (Nat.le_refl 0) (Nat.le_refl 0) (hC := sp_X10_isIn (Q := fun z m => bI (0 ≤ x3 ∧ x3 ≤ 999) = z ∧ μ = m)  ⟨rfl, rfl⟩) (fun r n2 S2 m2 hP => ?_)
      obtain ⟨⟨rfl, rfl⟩, z, rfl, rfl, rfl⟩ := hP
      refine s_if_eq dX10_addSource_28 (tgt := 35) (by decide) (fun cc => ?_) (fun cc => ?_)
      · have hp2 := (bI_eq cc)
        refine s_iconst dX10_addSource_35 (by decide) ?_
        exact kj29 0 (h 0 (by rw [cif_t hp0, cif_t hp1, cif_f hp2]))
      · have hp2 := (bI_ne cc)
        refine s_iconst dX10_addSource_31 (by decide) ?_
        refine s_goto dX10_addSource_32 (tgt := 36) (by decide) ?_
        exact kj29 1 (h 1 (by rw [cif_t hp0, cif_t hp1, cif_t hp2]))
theorem ve_X10_addSource {x1 x2 x3 x4 : Int} {μ : am_M} {Q : Int → am_M → Prop} (h : at_I kR 5 mX10_addSource 0 [vR 0, vI x1, vI x2, vI x3, vI x4, vU, vU] [] μ Q) : cl_I kR 5 mX10_addSource [vR 0, vI x1, vI x2, vI x3, vI x4] μ Q := am_intro pmX10_addSource (Nat.le_of_ble_eq_true rfl) rfl h
theorem sp_X10_addSource {K : Int} {μ : am_M} {k n a b : Int} (hI : RI K μ) (hK : K < 99999) : cl_I kR 5 mX10_addSource [vR 0, vI k, vI n, vI a, vI b] μ (fun z m => rn_ [] μ m z (o_src (pR μ) k n a b)) := by
  have hV := hI.1
  have hM : in_ 0 7 (μ 1 0) := hV.1.hS.1
  have hN : in_ 0 25 (μ 1 25) := hV.1.hn
  have hl : (pH (pR μ)).length ≤ 12 := hV.1.hl
  unfold in_ at hM hN
  have bad : badS k n a b → rn_ [] μ μ (-2) (o_src (pR μ) k n a b) := fun h => rn_no hV rm_rf rfl (by omega) (by
    show _ = (r_src (pM (pR μ)) (pS (pR μ)) k n a b).1
    unfold r_src
    rw [cif_t h])
  have full : ¬ badS k n a b → μ 1 0 = 6 → rn_ [] μ μ (-3) (o_src (pR μ) k n a b) := fun h h6 => rn_no hV rm_rf rfl (by omega) (by
    show _ = (r_src (pM (pR μ)) (pS (pR μ)) k n a b).1
    unfold r_src
    rw [cif_f h, cif_t (by show 6 ≤ μ 1 0; omega)])
  have fin : ∀ m3 m4 m5 m6 m7 m8 : am_M, ¬ badS k n a b → μ 1 0 ≠ 6 → fr_ [2] μ m3 → (∀ i : Nat, i < 470 → m3 2 i = μ 1 i) → m4 = am_st m3 1 (am_up (m3 1) 0 (m3 1 0 + 1)) → m5 = am_st m4 1 (am_up (m4 1) (1 + (4 * (m3 1 0))).toNat k) → m6 = am_st m5 1 (am_up (m5 1) ((1 + (4 * (m3 1 0))) + 1).toNat n) → m7 = am_st m6 1 (am_up (m6 1) ((1 + (4 * (m3 1 0))) + 2).toNat a) → m8 = am_st m7 1 (am_up (m7 1) ((1 + (4 * (m3 1 0))) + 3).toNat b) → ∃ P : Int → am_M → Prop, cl_I kR 3 mX10_ends [vR 0, vI (m3 1 0)] m8 P ∧ (∀ (z9 : Int) (m10 : am_M), P z9 m10 → rn_ [] μ m10 z9 (o_src (pR μ) k n a b)) := by
    intro m3 m4 m5 m6 m7 m8 hb h6 f3 e3 e4 e5 e6 e7 e8
    have p3 := f3 1 (by decide)
    rw [p3] at e4 e5 e6 e7 e8 ⊢
    have b3 : bg_ [] μ m3 := bg_of rm_rf rfl f3 e3
    have f8 : fr_ [1] m3 m8 := by
      rw [e8, e7, e6, e5, e4]
      exact fr_tr (fr_st (by simp)) (fr_tr (fr_st (by simp)) (fr_tr (fr_st (by simp)) (fr_tr (fr_st (by simp)) (fr_st (by simp)))))
    have a8 : m8 1 = am_up (am_up (am_up (am_up (am_up (μ 1) 0 (μ 1 0 + 1)) (1 + (4 * (μ 1 0))).toNat k) ((1 + (4 * (μ 1 0))) + 1).toNat n) ((1 + (4 * (μ 1 0))) + 2).toNat a) ((1 + (4 * (μ 1 0))) + 3).toNat b := by
      rw [e8, st_s, e7, st_s, e6, st_s, e5, st_s, e4, st_s]
    have nn : ∀ i : Nat, i ≠ 0 → ((i : Int) < 1 + 4 * μ 1 0 ∨ 1 + 4 * μ 1 0 + 4 ≤ i) → m8 1 i = μ 1 i := fun i i0 hi => by
      rw [a8, up_n (by omega), up_n (by omega), up_n (by omega), up_n (by omega), up_n i0]
    have eR : o_src (pR μ) k n a b = (μ 1 0, (pE (pR μ), pT (pR μ), μ 1 0 + 1, ins_T (pS (pR μ)) (μ 1 0) (row4 k n a b), pN (pR μ), pG (pR μ), pH (pR μ))) := by
      unfold o_src r_src
      rw [cif_f hb, cif_f (by show ¬ 6 ≤ μ 1 0; omega)]
      rfl
    rw [eR]
    refine rn_ok hI hK (by simp) (bg_fr b3 f8 (by decide) (by decide)) ?_ (by rw [nn _ (by omega) (by omega)]; exact hV.2) hM.1 rfl
    refine ⟨fun i i5 => (nn _ (by omega) (by omega)).symm, fun t' k t0 t1 k0 k1 => (nn _ (by omega) (by omega)).symm, ?_, fun s j s0 s1 j0 j1 => ?_, (nn _ (by omega) (by omega)).symm, fun s k s0 s1 k0 k1 => ?_, ?_⟩
    · show μ 1 0 + 1 = m8 1 0
      rw [a8, up_n (by omega), up_n (by omega), up_n (by omega), up_n (by omega), up_s]
    · have s1' : s < μ 1 0 + 1 := s1
      show ins_T (pS (pR μ)) (μ 1 0) (row4 k n a b) s j = m8 1 ((1 + 4 * s) + j).toNat
      unfold ins_T
      by_cases c : s < μ 1 0
      · rw [if_pos c, nn _ (by omega) (by omega)]
        rfl
      · have es : s = μ 1 0 := by omega
        rw [if_neg c, if_pos es, es, a8]
        have : j = 0 ∨ j = 1 ∨ j = 2 ∨ j = 3 := by omega
        rcases this with rfl | rfl | rfl | rfl
        · rw [up_n (by omega), up_n (by omega), up_n (by omega), show ((1 + 4 * μ 1 0) + 0).toNat = (1 + 4 * μ 1 0).toNat by omega, up_s]
          simp [row4]
        · rw [up_n (by omega), up_n (by omega), up_s]
          simp [row4]
        · rw [up_n (by omega), up_s]
          simp [row4]
        · rw [up_s]
          simp [row4]
    · have s1' : s < μ 1 25 := s1
      exact (nn _ (by omega) (by omega)).symm
    · have hz := hzL hV
      refine (hr_un (a := m8 1) (H := pH (pR μ)) ⟨by rw [nn _ (by omega) (by omega)]; exact hz.1, fun i p hi => ?_⟩).symm
      have il := (List.getElem?_eq_some_iff.mp hi).1
      rw [nn _ (by omega) (by omega), nn _ (by omega) (by omega)]
      exact hz.2 i p hi
  have good : ¬ badS k n a b → μ 1 0 ≠ 6 → ∃ P : am_M → Prop, cl_V kR 2 mX10_begins [vR 0] μ P ∧ (∀ m3 : am_M, P m3 → (am_in (m3 1 0 + 1)) ∧ (∀ m4 : am_M, m4 = am_st m3 1 (am_up (m3 1) 0 (m3 1 0 + 1)) → (am_in (4 * (m3 1 0))) ∧ ((am_in (1 + (4 * (m3 1 0)))) ∧ ((0 ≤ 1 + (4 * (m3 1 0))) ∧ (1 + (4 * (m3 1 0)) < 470) ∧ (∀ m5 : am_M, m5 = am_st m4 1 (am_up (m4 1) (1 + (4 * (m3 1 0))).toNat k) → (am_in (4 * (m3 1 0))) ∧ ((am_in (1 + (4 * (m3 1 0)))) ∧ ((am_in ((1 + (4 * (m3 1 0))) + 1)) ∧ ((0 ≤ (1 + (4 * (m3 1 0))) + 1) ∧ ((1 + (4 * (m3 1 0))) + 1 < 470) ∧ (∀ m6 : am_M, m6 = am_st m5 1 (am_up (m5 1) ((1 + (4 * (m3 1 0))) + 1).toNat n) → (am_in (4 * (m3 1 0))) ∧ ((am_in (1 + (4 * (m3 1 0)))) ∧ ((am_in ((1 + (4 * (m3 1 0))) + 2)) ∧ ((0 ≤ (1 + (4 * (m3 1 0))) + 2) ∧ ((1 + (4 * (m3 1 0))) + 2 < 470) ∧ (∀ m7 : am_M, m7 = am_st m6 1 (am_up (m6 1) ((1 + (4 * (m3 1 0))) + 2).toNat a) → (am_in (4 * (m3 1 0))) ∧ ((am_in (1 + (4 * (m3 1 0)))) ∧ ((am_in ((1 + (4 * (m3 1 0))) + 3)) ∧ ((0 ≤ (1 + (4 * (m3 1 0))) + 3) ∧ ((1 + (4 * (m3 1 0))) + 3 < 470) ∧ (∀ m8 : am_M, m8 = am_st m7 1 (am_up (m7 1) ((1 + (4 * (m3 1 0))) + 3).toNat b) → ∃ P : Int → am_M → Prop, cl_I kR 3 mX10_ends [vR 0, vI (m3 1 0)] m8 P ∧ (∀ (z9 : Int) (m10 : am_M), P z9 m10 → rn_ [] μ m10 z9 (o_src (pR μ) k n a b))))))))))))))))))) := by
    intro hb h6
    refine ⟨_, sp_X10_begins, fun m3 ⟨f3, e3⟩ => ?_⟩
    have p3 : m3 1 0 = μ 1 0 := by rw [f3 1 (by decide)]
    refine ⟨(by (try unfold am_in); (try unfold in_ at *); omega), fun m4 e4 => ⟨(by (try unfold am_in); (try unfold in_ at *); omega), (by (try unfold am_in); (try unfold in_ at *); omega), by omega, by omega, fun m5 e5 => ⟨(by (try unfold am_in); (try unfold in_ at *); omega), (by (try unfold am_in); (try unfold in_ at *); omega), (by (try unfold am_in); (try unfold in_ at *); omega), by omega, by omega, fun m6 e6 => ⟨(by (try unfold am_in); (try unfold in_ at *); omega), (by (try unfold am_in); (try unfold in_ at *); omega), (by (try unfold am_in); (try unfold in_ at *); omega), by omega, by omega, fun m7 e7 => ⟨(by (try unfold am_in); (try unfold in_ at *); omega), (by (try unfold am_in); (try unfold in_ at *); omega), (by (try unfold am_in); (try unfold in_ at *); omega), by omega, by omega, fun m8 e8 => fin m3 m4 m5 m6 m7 m8 hb h6 f3 e3 e4 e5 e6 e7 e8⟩⟩⟩⟩⟩
  have bb : badS k n a b ↔ (¬ ((0 ≤ k ∧ k ≤ 3) ∧ (1 ≤ n ∧ n ≤ 200) ∧ 0 ≤ a ∧ a ≤ 999)) ∨ (k = 0 ∧ b ≠ 0) ∨ (k = 2 ∧ ¬ (1 ≤ b ∧ b ≤ 99)) ∨ ((k = 1 ∨ k = 3) ∧ ¬ (0 ≤ b ∧ b ≤ 999)) := by
    unfold badS
    by_cases hk : 0 ≤ k ∧ k ≤ 3
    · have : k = 0 ∨ k = 1 ∨ k = 2 ∨ k = 3 := by omega
      rcases this with rfl | rfl | rfl | rfl <;> simp [am_sv] <;> omega
    · constructor
      · intro _; left; omega
      · intro _; omega
  refine ve_X10_addSource (vc_X10_addSource_0 fun v1 h1 => ?_)
  have h1' : v1 = bI ((0 ≤ k ∧ k ≤ 3) ∧ (1 ≤ n ∧ n ≤ 200) ∧ 0 ≤ a ∧ a ≤ 999) := by
    rw [h1]
    by_cases a1 : 0 ≤ k ∧ k ≤ 3
    · rw [cif_t a1]
      by_cases a2 : 1 ≤ n ∧ n ≤ 200
      · rw [cif_t a2]
        by_cases a3 : 0 ≤ a ∧ a ≤ 999
        · rw [cif_t a3, bI_t (by omega)]
        · rw [cif_f a3, bI_f (by omega)]
      · rw [cif_f a2, bI_f (by omega)]
    · rw [cif_f a1, bI_f (by omega)]
  rw [h1']
  refine ⟨fun w => bad (bb.mpr (Or.inl (fun z => bI_eq w z))), fun w => ?_⟩
  have w2 := bI_ne w
  refine ⟨fun k0 => ⟨fun k2 => ⟨fun c => ⟨fun h6 => good (fun z => ?_) h6, fun h6 => full (fun z => ?_) h6⟩, fun c => bad (bb.mpr ?_)⟩, fun k2 => ⟨fun c => bad (bb.mpr ?_), fun c => ⟨fun h6 => good (fun z => ?_) h6, fun h6 => full (fun z => ?_) h6⟩⟩⟩, fun k0 => ⟨fun c => bad (bb.mpr ?_), fun c => ⟨fun h6 => good (fun z => ?_) h6, fun h6 => full (fun z => ?_) h6⟩⟩⟩
  · have := bb.mp z; omega
  · have := bb.mp z; omega
  · omega
  · omega
  · have := bb.mp z; omega
  · have := bb.mp z; omega
  · omega
  · have := bb.mp z; omega
  · have := bb.mp z; omega

/-! the reference tightens -/
theorem laP_b {P : Pj} (hV : vP P) : in_ 0 601 (laP P) := by
  have := la_b6 hV
  exact this
theorem vc_X10_tighten_0 {x1 x2 : Int} {μ : am_M} {Q : Int → am_M → Prop} (h : ((1 ≤ x1 ∧ x1 ≤ 999) ∧ 1 ≤ x2 ∧ x2 ≤ 600 → ∃ P : am_M → Prop, cl_V kR 2 mX10_begins [vR 0] μ P ∧ (∀ m2 : am_M, P m2 → ∃ P : am_M → Prop, cl_V kR 4 mX10_findsHushes [vR 0, vI x1, vI x2] m2 P ∧ (∀ m4 : am_M, P m4 → ∃ P : am_M → Prop, cl_V kR 1 mX10_copies [vR 1, vR 7] m4 P ∧ (∀ m6 : am_M, P m6 → (am_in (m6 0 20 - 1)) ∧ (at_I kR 6 mX10_tighten 42 [vR 0, vU, vI x2, vI 0, vI (m6 0 20 - 1)] [] m6 Q))))) ∧ (¬ ((1 ≤ x1 ∧ x1 ≤ 999) ∧ 1 ≤ x2 ∧ x2 ≤ 600) → Q (-2) μ)) : at_I kR 6 mX10_tighten 0 [vR 0, vI x1, vI x2, vU, vU] [] μ Q := by
  refine s_iload_n dX10_tighten_0 rfl rfl ?_
  refine s_iload_n dX10_tighten_1 rfl rfl ?_
  refine s_callS (As := [vI x1, vI x2]) (rest := []) dX10_tighten_2 lkX10_199 lmX10_isHush rfl rfl (Nat.le_of_ble_eq_true rfl) (by decide) (Nat.le_refl 0) (Nat.le_refl 0) (hC := sp_X10_isHush (Q := fun z m => bI ((1 ≤ x1 ∧ x1 ≤ 999) ∧ 1 ≤ x2 ∧ x2 ≤ 600) = z ∧ μ = m)  ⟨rfl, rfl⟩) (fun r n2 S2 m2 hP => ?_)
  obtain ⟨⟨rfl, rfl⟩, z, rfl, rfl, rfl⟩ := hP
  refine s_if_ne dX10_tighten_5 (tgt := 11) (by decide) (fun cc => ?_) (fun cc => ?_)
  · have h := h.1 (bI_ne cc)
    refine s_aload_n dX10_tighten_11 rfl rfl ?_
    obtain ⟨P, hcl, h⟩ := h
    refine s_callV (As := []) (rest := []) (k := 0) dX10_tighten_12 lkX10_107 rn0 ⟨by rw [rk0]; rfl, by rw [rk0]; decide⟩ lmX10_begins rfl rfl (Nat.le_of_ble_eq_true rfl) (by decide) (Nat.le_refl 0) (Nat.le_refl 0) (hC := hcl) (fun r n2 S2 m2 hP => ?_)
    obtain ⟨⟨rfl, rfl⟩, rfl, hq⟩ := hP
    have h := h m2 hq
    refine s_aload_n dX10_tighten_15 rfl rfl ?_
    refine s_iload_n dX10_tighten_16 rfl rfl ?_
    refine s_iload_n dX10_tighten_17 rfl rfl ?_
    obtain ⟨P, hcl, h⟩ := h
    refine s_callV (As := [vI x1, vI x2]) (rest := []) (k := 0) dX10_tighten_18 lkX10_202 rn0 ⟨by rw [rk0]; rfl, by rw [rk0]; decide⟩ lmX10_findsHushes rfl rfl (Nat.le_of_ble_eq_true rfl) (by decide) (Nat.le_refl 0) (Nat.le_refl 0) (hC := hcl) (fun r n2 S2 m4 hP => ?_)
    obtain ⟨⟨rfl, rfl⟩, rfl, hq⟩ := hP
    have h := h m4 hq
    refine s_aload_n dX10_tighten_21 rfl rfl ?_
    refine s_getR dX10_tighten_22 flX10_9 rn0 rk0 rfl rr0_0 ?_
    refine s_aload_n dX10_tighten_25 rfl rfl ?_
    refine s_getR dX10_tighten_26 flX10_28 rn0 rk0 rfl rr0_6 ?_
    obtain ⟨P, hcl, h⟩ := h
    refine s_callS (As := [vR 1, vR 7]) (rest := []) dX10_tighten_29 lkX10_78 lmX10_copies rfl rfl (Nat.le_of_ble_eq_true rfl) (by decide) (Nat.le_refl 0) (Nat.le_refl 0) (hC := hcl) (fun r n2 S2 m6 hP => ?_)
    obtain ⟨⟨rfl, rfl⟩, rfl, hq⟩ := hP
    have h := h m6 hq
    refine s_iconst dX10_tighten_32 (by decide) ?_
    refine s_istore_n dX10_tighten_33 rfl (by decide) (L' := [vR 0, vI x1, vI x2, vI 0, vU]) rfl ?_
    refine s_aload_n dX10_tighten_34 rfl rfl ?_
    refine s_getI (x := (m6 0 20)) dX10_tighten_35 flX10_193 rn0 rk0 rfl rfl ?_
    refine s_iconst dX10_tighten_38 (by decide) ?_
    obtain ⟨c, h⟩ := h
    refine s_isub dX10_tighten_39 (am_w_id c) ?_
    refine s_istore dX10_tighten_40 (by decide) (L' := [vR 0, vI x1, vI x2, vI 0, vI (m6 0 20 - 1)]) rfl ?_
    exact am_lesS h ⟨Or.inr rfl, Or.inl rfl, Or.inr rfl, Or.inr rfl, Or.inr rfl, trivial⟩
  · have h := h.2 (bI_eq cc)
    refine s_bipush dX10_tighten_8 (by decide) ?_
    exact s_ireturn dX10_tighten_10 (Or.inl rfl) ⟨⟨rfl, rfl⟩, _, rfl, h⟩
theorem vc_X10_tighten_42 {x2 x3 x4 : Int} {μ : am_M} {Q : Int → am_M → Prop} (h : (x4 < 0 → ∃ P : Int → am_M → Prop, cl_I kR 3 mX10_ends [vR 0, vI x3] μ P ∧ (∀ (z1 : Int) (m2 : am_M), P z1 m2 → Q z1 m2)) ∧ (0 ≤ x4 → (am_in (2 * x4)) ∧ ((am_in ((2 * x4) + 1)) ∧ ((0 ≤ (2 * x4) + 1) ∧ ((2 * x4) + 1 < 1200) ∧ ((μ 15 (((2 * x4) + 1).toNat) ≠ x2 → (am_in (2 * x4)) ∧ ((am_in ((2 * x4) + 1)) ∧ ((0 ≤ (2 * x4) + 1) ∧ ((2 * x4) + 1 < 1200) ∧ ((am_in ((μ 15 (((2 * x4) + 1).toNat)) - x2)) ∧ ((am_in (x3 + ((μ 15 (((2 * x4) + 1).toNat)) - x2))) ∧ ((am_in (2 * x4)) ∧ ((0 ≤ 2 * x4) ∧ (2 * x4 < 1200) ∧ ((am_in ((μ 15 ((2 * x4).toNat)) + x2)) ∧ ((am_in (2 * x4)) ∧ ((0 ≤ 2 * x4) ∧ (2 * x4 < 1200) ∧ ((am_in (2 * x4)) ∧ ((am_in ((2 * x4) + 1)) ∧ ((0 ≤ (2 * x4) + 1) ∧ ((2 * x4) + 1 < 1200) ∧ ((am_in ((μ 15 ((2 * x4).toNat)) + (μ 15 (((2 * x4) + 1).toNat)))) ∧ (∃ P : Int → am_M → Prop, cl_I kR 5 mX10_cuts [vR 0, vI ((μ 15 ((2 * x4).toNat)) + x2), vI ((μ 15 ((2 * x4).toNat)) + (μ 15 (((2 * x4) + 1).toNat)))] μ P ∧ (∀ (z3 : Int) (m4 : am_M), P z3 m4 → (z3 < 0 → ∃ P : am_M → Prop, cl_V kR 1 mX10_copies [vR 7, vR 1] m4 P ∧ (∀ m6 : am_M, P m6 → Q (-3) m6)) ∧ (0 ≤ z3 → (am_in (x4 - 1)) ∧ (at_I kR 6 mX10_tighten 42 [vR 0, vU, vI x2, vI (x3 + ((μ 15 (((2 * x4) + 1).toNat)) - x2)), vI (x4 - 1)] [] m4 Q)))))))))))))))))) ∧ (μ 15 (((2 * x4) + 1).toNat) = x2 → (am_in (x4 - 1)) ∧ (at_I kR 6 mX10_tighten 42 [vR 0, vU, vI x2, vI x3, vI (x4 - 1)] [] μ Q))))))) : at_I kR 6 mX10_tighten 42 [vR 0, vU, vI x2, vI x3, vI x4] [] μ Q := by
  refine s_iload dX10_tighten_42 rfl ?_
  refine s_if_lt dX10_tighten_44 (tgt := 143) (by decide) (fun cc => ?_) (fun cc => ?_)
  · have h := h.1 cc
    refine s_aload_n dX10_tighten_143 rfl rfl ?_
    refine s_iload_n dX10_tighten_144 rfl rfl ?_
    obtain ⟨P, hcl, h⟩ := h
    refine s_callV (As := [vI x3]) (rest := []) (k := 0) dX10_tighten_145 lkX10_110 rn0 ⟨by rw [rk0]; rfl, by rw [rk0]; decide⟩ lmX10_ends rfl rfl (Nat.le_of_ble_eq_true rfl) (by decide) (Nat.le_refl 0) (Nat.le_refl 0) (hC := hcl) (fun r n2 S2 m2 hP => ?_)
    obtain ⟨⟨rfl, rfl⟩, z1, rfl, hq⟩ := hP
    have h := h z1 m2 hq
    exact s_ireturn dX10_tighten_148 (Or.inl rfl) ⟨⟨rfl, rfl⟩, _, rfl, h⟩
  · have h := h.2 cc
    refine s_aload_n dX10_tighten_47 rfl rfl ?_
    refine s_getR dX10_tighten_48 flX10_53 rn0 rk0 rfl rr0_19 ?_
    refine s_iconst dX10_tighten_51 (by decide) ?_
    refine s_iload dX10_tighten_52 rfl ?_
    obtain ⟨c, h⟩ := h
    refine s_imul dX10_tighten_54 (am_w_id c) ?_
    refine s_iconst dX10_tighten_55 (by decide) ?_
    obtain ⟨c, h⟩ := h
    refine s_iadd dX10_tighten_56 (am_w_id c) ?_
    obtain ⟨c, c2, h⟩ := h
    refine s_iald (x := (μ 15 (((2 * x4) + 1).toNat))) dX10_tighten_57 rn15 rk15 rl15 c c2 rfl ?_
    refine s_iload_n dX10_tighten_58 rfl rfl ?_
    refine s_icmp_ne dX10_tighten_59 (tgt := 65) (by decide) (fun cc => ?_) (fun cc => ?_)
    · have h := h.1 cc
      refine s_iload_n dX10_tighten_65 rfl rfl ?_
      refine s_aload_n dX10_tighten_66 rfl rfl ?_
      refine s_getR dX10_tighten_67 flX10_53 rn0 rk0 rfl rr0_19 ?_
      refine s_iconst dX10_tighten_70 (by decide) ?_
      refine s_iload dX10_tighten_71 rfl ?_
      obtain ⟨c, h⟩ := h
      refine s_imul dX10_tighten_73 (am_w_id c) ?_
      refine s_iconst dX10_tighten_74 (by decide) ?_
      obtain ⟨c, h⟩ := h
      refine s_iadd dX10_tighten_75 (am_w_id c) ?_
      obtain ⟨c, c2, h⟩ := h
      refine s_iald (x := (μ 15 (((2 * x4) + 1).toNat))) dX10_tighten_76 rn15 rk15 rl15 c c2 rfl ?_
      refine s_iload_n dX10_tighten_77 rfl rfl ?_
      obtain ⟨c, h⟩ := h
      refine s_isub dX10_tighten_78 (am_w_id c) ?_
      obtain ⟨c, h⟩ := h
      refine s_iadd dX10_tighten_79 (am_w_id c) ?_
      refine s_istore_n dX10_tighten_80 rfl (by decide) (L' := [vR 0, vU, vI x2, vI (x3 + ((μ 15 (((2 * x4) + 1).toNat)) - x2)), vI x4]) rfl ?_
      refine s_aload_n dX10_tighten_81 rfl rfl ?_
      refine s_aload_n dX10_tighten_82 rfl rfl ?_
      refine s_getR dX10_tighten_83 flX10_53 rn0 rk0 rfl rr0_19 ?_
      refine s_iconst dX10_tighten_86 (by decide) ?_
      refine s_iload dX10_tighten_87 rfl ?_
      obtain ⟨c, h⟩ := h
      refine s_imul dX10_tighten_89 (am_w_id c) ?_
      obtain ⟨c, c2, h⟩ := h
      refine s_iald (x := (μ 15 ((2 * x4).toNat))) dX10_tighten_90 rn15 rk15 rl15 c c2 rfl ?_
      refine s_iload_n dX10_tighten_91 rfl rfl ?_
      obtain ⟨c, h⟩ := h
      refine s_iadd dX10_tighten_92 (am_w_id c) ?_
      refine s_aload_n dX10_tighten_93 rfl rfl ?_
      refine s_getR dX10_tighten_94 flX10_53 rn0 rk0 rfl rr0_19 ?_
      refine s_iconst dX10_tighten_97 (by decide) ?_
      refine s_iload dX10_tighten_98 rfl ?_
      obtain ⟨c, h⟩ := h
      refine s_imul dX10_tighten_100 (am_w_id c) ?_
      obtain ⟨c, c2, h⟩ := h
      refine s_iald (x := (μ 15 ((2 * x4).toNat))) dX10_tighten_101 rn15 rk15 rl15 c c2 rfl ?_
      refine s_aload_n dX10_tighten_102 rfl rfl ?_
      refine s_getR dX10_tighten_103 flX10_53 rn0 rk0 rfl rr0_19 ?_
      refine s_iconst dX10_tighten_106 (by decide) ?_
      refine s_iload dX10_tighten_107 rfl ?_
      obtain ⟨c, h⟩ := h
      refine s_imul dX10_tighten_109 (am_w_id c) ?_
      refine s_iconst dX10_tighten_110 (by decide) ?_
      obtain ⟨c, h⟩ := h
      refine s_iadd dX10_tighten_111 (am_w_id c) ?_
      obtain ⟨c, c2, h⟩ := h
      refine s_iald (x := (μ 15 (((2 * x4) + 1).toNat))) dX10_tighten_112 rn15 rk15 rl15 c c2 rfl ?_
      obtain ⟨c, h⟩ := h
      refine s_iadd dX10_tighten_113 (am_w_id c) ?_
      obtain ⟨P, hcl, h⟩ := h
      refine s_callV (As := [vI ((μ 15 ((2 * x4).toNat)) + x2), vI ((μ 15 ((2 * x4).toNat)) + (μ 15 (((2 * x4) + 1).toNat)))]) (rest := []) (k := 0) dX10_tighten_114 lkX10_190 rn0 ⟨by rw [rk0]; rfl, by rw [rk0]; decide⟩ lmX10_cuts rfl rfl (Nat.le_of_ble_eq_true rfl) (by decide) (Nat.le_refl 0) (Nat.le_refl 0) (hC := hcl) (fun r n2 S2 m4 hP => ?_)
      obtain ⟨⟨rfl, rfl⟩, z3, rfl, hq⟩ := hP
      have h := h z3 m4 hq
      refine s_if_lt dX10_tighten_117 (tgt := 123) (by decide) (fun cc => ?_) (fun cc => ?_)
      · have h := h.1 cc
        refine s_aload_n dX10_tighten_123 rfl rfl ?_
        refine s_getR dX10_tighten_124 flX10_28 rn0 rk0 rfl rr0_6 ?_
        refine s_aload_n dX10_tighten_127 rfl rfl ?_
        refine s_getR dX10_tighten_128 flX10_9 rn0 rk0 rfl rr0_0 ?_
        obtain ⟨P, hcl, h⟩ := h
        refine s_callS (As := [vR 7, vR 1]) (rest := []) dX10_tighten_131 lkX10_78 lmX10_copies rfl rfl (Nat.le_of_ble_eq_true rfl) (by decide) (Nat.le_refl 0) (Nat.le_refl 0) (hC := hcl) (fun r n2 S2 m6 hP => ?_)
        obtain ⟨⟨rfl, rfl⟩, rfl, hq⟩ := hP
        have h := h m6 hq
        refine s_bipush dX10_tighten_134 (by decide) ?_
        exact s_ireturn dX10_tighten_136 (Or.inl rfl) ⟨⟨rfl, rfl⟩, _, rfl, h⟩
      · have h := h.2 cc
        refine s_goto dX10_tighten_120 (tgt := 137) (by decide) ?_
        obtain ⟨c, h⟩ := h
        refine s_iinc dX10_tighten_137 rfl (am_w_id c) (by decide) (L' := [vR 0, vU, vI x2, vI (x3 + ((μ 15 (((2 * x4) + 1).toNat)) - x2)), vI (x4 - 1)]) rfl ?_
        refine s_goto dX10_tighten_140 (tgt := 42) (by decide) ?_
        exact h
    · have h := h.2 cc
      refine s_goto dX10_tighten_62 (tgt := 137) (by decide) ?_
      obtain ⟨c, h⟩ := h
      refine s_iinc dX10_tighten_137 rfl (am_w_id c) (by decide) (L' := [vR 0, vU, vI x2, vI x3, vI (x4 - 1)]) rfl ?_
      refine s_goto dX10_tighten_140 (tgt := 42) (by decide) ?_
      exact h
theorem ve_X10_tighten {x1 x2 : Int} {μ : am_M} {Q : Int → am_M → Prop} (h : at_I kR 6 mX10_tighten 0 [vR 0, vI x1, vI x2, vU, vU] [] μ Q) : cl_I kR 6 mX10_tighten [vR 0, vI x1, vI x2] μ Q := am_intro pmX10_tighten (Nat.le_of_ble_eq_true rfl) rfl h
theorem sp_X10_tighten {K : Int} {μ : am_M} {v n : Int} (hI : RI K μ) (hK : K < 99999) : cl_I kR 6 mX10_tighten [vR 0, vI v, vI n] μ (fun z m => rn_ [] μ m z (o_tig (pR μ) v n)) := by
  have hV := hI.1
  refine ve_X10_tighten (vc_X10_tighten_0 ⟨fun c => ⟨_, sp_X10_begins, fun m2 ⟨f2, e2⟩ => ?_⟩, fun c => rn_no hV rm_rf rfl (by omega) (by unfold o_tig; rw [cif_t c])⟩)
  have p2 := f2 1 (by decide)
  have P2 : pR m2 = pR μ := pR_fr f2 (by decide)
  have b2 : bg_ [] μ m2 := bg_of rm_rf rfl f2 e2
  refine ⟨_, sp_X10_findsHushes (by rw [P2]; exact hV.1) ⟨c.2.1, by omega⟩, fun m4 ⟨⟨q4, d4⟩, k4⟩ => ?_⟩
  rw [P2] at k4
  have p4 : m4 1 = μ 1 := (rq_1 q4).trans p2
  have P4 : pR m4 = pR μ := (rq_P q4).trans P2
  have lb : in_ 0 601 (laP (pR μ)) := laP_b hV.1
  have l300 : (silP (pR μ) v n).length ≤ 300 := sil_l c.2.1 lb
  have sb : ∀ p ∈ silP (pR μ) v n, 0 ≤ p.1 ∧ n ≤ p.2 ∧ p.1 + p.2 ≤ laP (pR μ) := sil_b c.2.1 lb.1
  have ho := ov_tig (P := pR μ) hV.1 v n
  rw [show o_tig (pR μ) v n = _ from cif_f (fun h => h c)] at ho ⊢
  unfold in_ at lb
  refine ⟨_, sp_X10_copies (rrow (by simp)) (rrow (by simp)) (by decide), fun m6 ⟨f6, e6⟩ => ?_⟩
  have p6 : m6 1 = μ 1 := (f6 1 (by decide)).trans p4
  have b4 : rm_ [] μ m6 := rm_tr b2.1 (rm_tr (rm_rq q4) (rm_fr f6 (by decide)))
  have k6 : fo15_ m6 (silP (pR μ) v n) := by
    unfold fo15_
    rw [f6 0 (by decide), f6 15 (by decide)]
    exact k4
  have t6 : ∀ i : Nat, i < 470 → m6 7 i = μ 1 i := fun i hi => by rw [e6 i hi, p4]
  have b6 : bg_ [] μ m6 := ⟨b4, fun i hi => by rw [f6 2 (by decide), d4]; exact b2.2 i hi⟩
  have l6 := k6.1
  refine ⟨by rw [l6]; ((try unfold am_in); (try unfold in_ at *); omega), ?_⟩
  rw [l6]
  generalize silP (pR μ) v n = S at *
  have key : ∀ (k : Nat) (x : Int) (P : Pj) (m : am_M), k ≤ S.length → 0 ≤ x → x ≤ 600 * (S.length - k) → tig_ S n S.length 0 (pR μ) = tig_ S n k x P → vP P → pe_ P (pR m) → 0 ≤ m 1 438 → fr_ [1, 14] m6 m → at_I kR 6 mX10_tighten 42 [vR 0, vU, vI n, vI x, vI (k - 1)] [] m (fun z m => rn_ [] μ m z (if (tig_ S n S.length 0 (pR μ)).1 < 0 then (-3, pR μ) else tig_ S n S.length 0 (pR μ))) := by
    intro k
    induction k with
    | zero =>
      intro x P m hk x0 xb ht hv hp h7 hf
      rw [ht]
      change at_I _ _ _ _ _ _ _ (fun z m => rn_ [] μ m z (if x < 0 then (-3, pR μ) else (x, P)))
      rw [if_neg (by omega)]
      exact vc_X10_tighten_42 ⟨fun _ => rn_ok hI hK (by simp) (bg_fr b6 hf (by decide) (by decide)) hp h7 x0 rfl, fun q => by omega⟩
    | succ k ih =>
      intro x P m hk x0 xb ht hv hp h7 hf
      have k15 : fo15_ m S := by
        unfold fo15_
        rw [hf 0 (by decide), hf 15 (by decide)]
        exact k6
      have e15 := k15.2 k (S.getD k (0, 0)) (by rw [List.getD_eq_getElem?_getD, List.getElem?_eq_getElem (by omega)]; rfl)
      have b := sb _ (getD_mem (S := S) (k := k) (by omega))
      rw [tig_s] at ht
      have ek : ((k + 1 : Nat) : Int) - 1 = (k : Int) := by omega
      rw [ek]
      refine vc_X10_tighten_42 ⟨fun q => by omega, fun q => ?_⟩
      rw [show (2 * (k : Int) + 1).toNat = 2 * k + 1 by omega, show (2 * (k : Int)).toNat = 2 * k by omega, e15.1, e15.2]
      generalize S.getD k (0, 0) = p at *
      have ex : p.1 + p.2 - (p.1 + n) = p.2 - n := by omega
      have Vm : vR_ m := ⟨pe_v hv hp, h7⟩
      have hvm := pL_v Vm.1
      refine ⟨(by (try unfold am_in); (try unfold in_ at *); omega), (by (try unfold am_in); (try unfold in_ at *); omega), by omega, by omega, fun c1 => ?_, fun c1 => ⟨(by (try unfold am_in); (try unfold in_ at *); omega), ?_⟩⟩
      · rw [if_neg (by omega)] at ht
        refine ⟨(by (try unfold am_in); (try unfold in_ at *); omega), (by (try unfold am_in); (try unfold in_ at *); omega), by omega, by omega, (by (try unfold am_in); (try unfold in_ at *); omega), (by (try unfold am_in); (try unfold in_ at *); omega), (by (try unfold am_in); (try unfold in_ at *); omega), by omega, by omega, (by (try unfold am_in); (try unfold in_ at *); omega), (by (try unfold am_in); (try unfold in_ at *); omega), by omega, by omega, (by (try unfold am_in); (try unfold in_ at *); omega), (by (try unfold am_in); (try unfold in_ at *); omega), by omega, by omega, (by (try unfold am_in); (try unfold in_ at *); omega), _, sp_X10_cuts _ _ (trL Vm) (hzL Vm) hvm.ok hvm.2.1 hvm.2.2 (vP_H Vm.1), fun z m4' h4 => ?_⟩
        obtain ⟨hz, f4, pe4, h438⟩ := cuR Vm h4
        have ce := cut_pe hp (p.1 + n) (p.1 + p.2)
        have ez : z = (o_cut P (p.1 + n) (p.1 + p.2)).1 := by rw [ce.1]; exact hz
        refine ⟨fun z0 => ?_, fun z0 => ⟨(by (try unfold am_in); (try unfold in_ at *); omega), ?_⟩⟩
        · rw [if_pos (by omega)] at ht
          rw [ht]
          have e3 : (if ((-3 : Int), P).1 < 0 then ((-3 : Int), pR μ) else (-3, P)) = (-3, pR μ) := if_pos (by show (-3 : Int) < 0; omega)
          rw [e3]
          refine ⟨_, sp_X10_copies (rrow (by simp)) (rrow (by simp)) (by decide), fun m9 ⟨j1, j2⟩ => ?_⟩
          have f8 : fr_ [1, 14] m6 m4' := fr_tr hf f4
          have := pA_c (a := μ 1) (b := m9 1) hV.1 hV.2 (fun i hi => by rw [j2 i hi, f8 7 (by decide)]; exact t6 i hi)
          exact ⟨rfl, fun _ => ⟨rm_tr b4 (rm_tr (rm_fr f8 (by decide)) (rm_fr j1 (by decide))), this.1, this.2⟩, fun q => by omega⟩
        · rw [if_neg (by omega)] at ht
          exact ih _ _ m4' (by omega) (by omega) (by omega) ht (ov_cut hv _ _).2 (pe_tr ce.2 pe4) h438 (fr_tr hf f4)
      · rw [if_pos (by omega), show x + (p.2 - n) = x by omega] at ht
        exact ih _ P m (by omega) (by omega) (by omega) ht hv hp h7 hf
  exact key S.length 0 (pR μ) m6 (by omega) (by omega) (by omega) rfl hV.1 (by show pe_ (pA (μ 1)) (pA (m6 1)); rw [p6]; exact pe_rf) (by rw [p6]; exact hV.2) fr_rf

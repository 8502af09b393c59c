/-! the second way: the loudness -/
theorem mn_1 {L : Int → Int} {n gt : Int} (hn : 0 ≤ n) {A B : Hl} (e : hi_ L n = A ++ B) (ha : ∀ q ∈ A, q.1 < gt) (hb : ∀ q ∈ B, gt ≤ q.1) : mn_ B = lm_ L n gt := by
  have h := hw_aft (p := fun x => decide (gt ≤ x)) (A := A) (B := B) (fun q hq => by have := ha q hq; simp; omega) (fun q hq => by have := hb q hq; simp; omega)
  have w := hi_w (L := L) (p := fun x => decide (gt ≤ x)) n.toNat
  rw [show ((n.toNat : Nat) : Int) = n by omega] at w
  rw [← e] at h
  have c := cnt_not (p := fun k => decide (L k < gt)) (q := fun k => decide (gt ≤ L k)) hn (fun i => by
    by_cases q : L i < gt
    · simp [q]
    · simp [q]; omega)
  have e1 : hw_ tt_ B = n - lq_ L n gt := by
    rw [← h.1, w.1]
    unfold lq_
    omega
  have e2 : hv_ tt_ B = l1_ L n gt := by rw [← h.2, w.2]; rfl
  unfold mn_ lm_
  rw [e1, e2]
  by_cases q : lq_ L n gt < n
  · rw [if_pos (by omega), if_pos q]
  · rw [if_neg (by omega), if_neg q]
theorem cnt_3 {L : Int → Int} {gt bar : Int} (n : Nat) : cnt_ (fun k => decide (L k < gt)) (fun _ => 1) n + cnt_ (fun k => decide (gt ≤ L k ∧ 100 * L k < bar)) (fun _ => 1) n + cnt_ (fun k => decide (gt ≤ L k ∧ bar ≤ 100 * L k)) (fun _ => 1) n = n := by
  induction n with
  | zero => rfl
  | succ n ih =>
    rw [show ((n + 1 : Nat) : Int) = (n : Int) + 1 by omega, cnt_s (by omega), cnt_s (by omega), cnt_s (by omega)]
    simp only [decide_eq_true_eq]
    (repeat' split) <;> omega
theorem mn_2 {L : Int → Int} {n gt sh bar : Int} (hn : 0 ≤ n) (hbar : bar = lm_ L n gt * sh) {A B : Hl} (e : hi_ L n = A ++ B) (ha : ∀ q ∈ A, ¬ (gt ≤ q.1 ∧ bar ≤ 100 * q.1)) (hb : ∀ q ∈ B, gt ≤ q.1 ∧ bar ≤ 100 * q.1) : mn_ B = lo_ L n gt sh := by
  have h := hw_aft (p := fun x => decide (gt ≤ x ∧ bar ≤ 100 * x)) (A := A) (B := B) (fun q hq => by have := ha q hq; simp only [decide_eq_false_iff_not]; exact this) (fun q hq => by have := hb q hq; simp only [decide_eq_true_eq]; exact this)
  have w := hi_w (L := L) (p := fun x => decide (gt ≤ x ∧ bar ≤ 100 * x)) n.toNat
  have c := cnt_3 (L := L) (gt := gt) (bar := bar) n.toNat
  rw [show ((n.toNat : Nat) : Int) = n by omega] at w c
  rw [← e] at h
  have e1 : hw_ tt_ B = n - lq_ L n gt - ll_ L n gt sh := by
    rw [← h.1, w.1]
    unfold lq_ ll_
    rw [← hbar]
    omega
  have e2 : hv_ tt_ B = l2_ L n gt sh := by
    rw [← h.2, w.2]
    unfold l2_
    rw [← hbar]
  unfold mn_ lo_
  rw [e1, e2]
theorem vc_X3_secondWay_0 {μ : am_M} {Q : Int → am_M → Prop} (h : at_I kC 5 mX3_secondWay 2 [vR 144, vI 0, vU, vU, vU] [] μ Q) : at_I kC 5 mX3_secondWay 0 [vR 144, vU, vU, vU, vU] [] μ Q := by
  refine s_iconst dX3_secondWay_0 (by decide) ?_
  refine s_istore_n dX3_secondWay_1 rfl (by decide) (L' := [vR 144, vI 0, vU, vU, vU]) rfl ?_
  exact h
theorem vc_X3_secondWay_2 {x1 : Int} {μ : am_M} {Q : Int → am_M → Prop} (h : (600 ≤ x1 → ∃ P : Int → am_M → Prop, cl_I kC 4 mX3_sortLevels [vR 144] μ P ∧ (∀ (z1 : Int) (m2 : am_M), P z1 m2 → (am_in ((m2 2 2) * (m2 2 2))) ∧ (at_I kC 5 mX3_secondWay 69 [vR 144, vI z1, vI ((m2 2 2) * (m2 2 2)), vI 0, vU] [] m2 Q))) ∧ (x1 < 600 → (vC μ) ∧ (sk_ μ (fun f => suC μ f 4)) ∧ (in_ 0 600 x1) ∧ ((am_in (x1 + 1)) ∧ ((0 ≤ x1) ∧ (x1 < 601) ∧ ((am_in ((mixC μ x1) * (mixC μ x1))) ∧ ((am_in ((μ 147 ((x1).toNat)) + ((mixC μ x1) * (mixC μ x1)))) ∧ ((0 ≤ x1 + 1) ∧ (x1 + 1 < 601) ∧ (∀ m3 : am_M, m3 = am_st μ 147 (am_up (μ 147) (x1 + 1).toNat ((μ 147 ((x1).toNat)) + ((mixC μ x1) * (mixC μ x1)))) → (am_in (x1 + 1)) ∧ (at_I kC 5 mX3_secondWay 2 [vR 144, vI (x1 + 1), vU, vU, vU] [] m3 Q))))))))) : at_I kC 5 mX3_secondWay 2 [vR 144, vI x1, vU, vU, vU] [] μ Q := by
  refine s_iload_n dX3_secondWay_2 rfl rfl ?_
  refine s_sipush dX3_secondWay_3 (by decide) ?_
  refine s_icmp_ge dX3_secondWay_6 (tgt := 42) (by decide) (fun cc => ?_) (fun cc => ?_)
  · have h := h.1 cc
    refine s_aload_n dX3_secondWay_42 rfl rfl ?_
    obtain ⟨P, hcl, h⟩ := h
    refine s_callV (As := []) (rest := []) (k := 144) dX3_secondWay_43 lkX3_85 kn144 ⟨by rw [kk144]; rfl, by rw [kk144]; decide⟩ lmX3_sortLevels rfl rfl (Nat.le_of_ble_eq_true rfl) (by decide) (Nat.le_refl 0) (Nat.le_refl 0) (hC := hcl) (fun r n2 S2 m2 hP => ?_)
    obtain ⟨⟨rfl, rfl⟩, z1, rfl, hq⟩ := hP
    have h := h z1 m2 hq
    refine s_istore_n dX3_secondWay_46 rfl (by decide) (L' := [vR 144, vI z1, vU, vU, vU]) rfl ?_
    refine s_aload_n dX3_secondWay_47 rfl rfl ?_
    refine s_getR dX3_secondWay_48 flX3_21 kn144 kk144 rfl kr144_0 ?_
    refine s_getR dX3_secondWay_51 flX3_29 kn1 kk1 rfl kr1_0 ?_
    refine s_iconst dX3_secondWay_54 (by decide) ?_
    refine s_iald (x := (m2 2 2)) dX3_secondWay_55 kn2 kk2 kl2 (by decide) (by decide) rfl ?_
    refine s_aload_n dX3_secondWay_56 rfl rfl ?_
    refine s_getR dX3_secondWay_57 flX3_21 kn144 kk144 rfl kr144_0 ?_
    refine s_getR dX3_secondWay_60 flX3_29 kn1 kk1 rfl kr1_0 ?_
    refine s_iconst dX3_secondWay_63 (by decide) ?_
    refine s_iald (x := (m2 2 2)) dX3_secondWay_64 kn2 kk2 kl2 (by decide) (by decide) rfl ?_
    obtain ⟨c, h⟩ := h
    refine s_imul dX3_secondWay_65 (am_w_id c) ?_
    refine s_istore_n dX3_secondWay_66 rfl (by decide) (L' := [vR 144, vI z1, vI ((m2 2 2) * (m2 2 2)), vU, vU]) rfl ?_
    refine s_iconst dX3_secondWay_67 (by decide) ?_
    refine s_istore_n dX3_secondWay_68 rfl (by decide) (L' := [vR 144, vI z1, vI ((m2 2 2) * (m2 2 2)), vI 0, vU]) rfl ?_
    exact h
  · have h := h.2 cc
    refine s_aload_n dX3_secondWay_9 rfl rfl ?_
    refine s_getR dX3_secondWay_10 flX3_25 kn144 kk144 rfl kr144_1 ?_
    refine s_iload_n dX3_secondWay_13 rfl rfl ?_
    obtain ⟨p0, p1, p2, h⟩ := h
    refine s_callV (As := [vI x1]) (rest := []) (k := 129) dX3_secondWay_14 lkX3_81 kn129 ⟨by rw [kk129]; rfl, by rw [kk129]; decide⟩ lmX7_mixAt rfl rfl (Nat.le_of_ble_eq_true rfl) (by decide) (Nat.le_refl 0) (Nat.le_refl 0) (hC := sp_X7_mixAt (Q := fun z m => mixC μ x1 = z ∧ μ = m) p0 p1 p2 ⟨rfl, rfl⟩) (fun r n2 S2 m2 hP => ?_)
    obtain ⟨⟨rfl, rfl⟩, z, rfl, rfl, rfl⟩ := hP
    refine s_istore_n dX3_secondWay_17 rfl (by decide) (L' := [vR 144, vI x1, vI (mixC μ x1), vU, vU]) rfl ?_
    refine s_aload_n dX3_secondWay_18 rfl rfl ?_
    refine s_getR dX3_secondWay_19 flX3_18 kn144 kk144 rfl kr144_4 ?_
    refine s_iload_n dX3_secondWay_22 rfl rfl ?_
    refine s_iconst dX3_secondWay_23 (by decide) ?_
    obtain ⟨c, h⟩ := h
    refine s_iadd dX3_secondWay_24 (am_w_id c) ?_
    refine s_aload_n dX3_secondWay_25 rfl rfl ?_
    refine s_getR dX3_secondWay_26 flX3_18 kn144 kk144 rfl kr144_4 ?_
    refine s_iload_n dX3_secondWay_29 rfl rfl ?_
    obtain ⟨c, c2, h⟩ := h
    refine s_iald (x := (μ 147 ((x1).toNat))) dX3_secondWay_30 kn147 kk147 kl147 c c2 rfl ?_
    refine s_iload_n dX3_secondWay_31 rfl rfl ?_
    refine s_iload_n dX3_secondWay_32 rfl rfl ?_
    obtain ⟨c, h⟩ := h
    refine s_imul dX3_secondWay_33 (am_w_id c) ?_
    obtain ⟨c, h⟩ := h
    refine s_iadd dX3_secondWay_34 (am_w_id c) ?_
    obtain ⟨c, c2, h⟩ := h
    obtain ⟨m3, hm3⟩ : ∃ x : am_M, x = am_st μ 147 (am_up (μ 147) (x1 + 1).toNat ((μ 147 ((x1).toNat)) + ((mixC μ x1) * (mixC μ x1)))) := ⟨_, rfl⟩
    have h := h m3 hm3
    refine s_iast dX3_secondWay_35 kn147 kk147 kl147 c c2 hm3.symm ?_
    obtain ⟨c, h⟩ := h
    refine s_iinc dX3_secondWay_36 rfl (am_w_id c) (by decide) (L' := [vR 144, vI (x1 + 1), vI (mixC μ x1), vU, vU]) rfl ?_
    refine s_goto dX3_secondWay_39 (tgt := 2) (by decide) ?_
    exact am_lesS h ⟨Or.inr rfl, Or.inr rfl, Or.inl rfl, Or.inl rfl, Or.inl rfl, trivial⟩
theorem vc_X3_secondWay_69 {x1 x2 x3 : Int} {μ : am_M} {Q : Int → am_M → Prop} (h : (x1 ≤ x3 → ∃ P : Int → am_M → Prop, cl_I kC 1 mX3_meanFrom [vR 144, vI x3, vI x1] μ P ∧ (∀ (z1 : Int) (m2 : am_M), P z1 m2 → (am_in (z1 * (m2 2 3))) ∧ (at_I kC 5 mX3_secondWay 108 [vR 144, vI x1, vU, vI x3, vI (z1 * (m2 2 3))] [] m2 Q))) ∧ (x3 < x1 → (0 ≤ x3) ∧ (x3 < 150) ∧ ((x2 ≤ μ 145 ((x3).toNat) → ∃ P : Int → am_M → Prop, cl_I kC 1 mX3_meanFrom [vR 144, vI x3, vI x1] μ P ∧ (∀ (z3 : Int) (m4 : am_M), P z3 m4 → (am_in (z3 * (m4 2 3))) ∧ (at_I kC 5 mX3_secondWay 108 [vR 144, vI x1, vU, vI x3, vI (z3 * (m4 2 3))] [] m4 Q))) ∧ (μ 145 ((x3).toNat) < x2 → (am_in (x3 + 1)) ∧ (at_I kC 5 mX3_secondWay 69 [vR 144, vI x1, vI x2, vI (x3 + 1), vU] [] μ Q))))) : at_I kC 5 mX3_secondWay 69 [vR 144, vI x1, vI x2, vI x3, vU] [] μ Q := by
  refine s_iload_n dX3_secondWay_69 rfl rfl ?_
  refine s_iload_n dX3_secondWay_70 rfl rfl ?_
  refine s_icmp_ge dX3_secondWay_71 (tgt := 90) (by decide) (fun cc => ?_) (fun cc => ?_)
  · have h := h.1 cc
    refine s_aload_n dX3_secondWay_90 rfl rfl ?_
    refine s_iload_n dX3_secondWay_91 rfl rfl ?_
    refine s_iload_n dX3_secondWay_92 rfl rfl ?_
    obtain ⟨P, hcl, h⟩ := h
    refine s_callV (As := [vI x3, vI x1]) (rest := []) (k := 144) dX3_secondWay_93 lkX3_88 kn144 ⟨by rw [kk144]; rfl, by rw [kk144]; decide⟩ lmX3_meanFrom rfl rfl (Nat.le_of_ble_eq_true rfl) (by decide) (Nat.le_refl 0) (Nat.le_refl 0) (hC := hcl) (fun r n2 S2 m2 hP => ?_)
    obtain ⟨⟨rfl, rfl⟩, z1, rfl, hq⟩ := hP
    have h := h z1 m2 hq
    refine s_aload_n dX3_secondWay_96 rfl rfl ?_
    refine s_getR dX3_secondWay_97 flX3_21 kn144 kk144 rfl kr144_0 ?_
    refine s_getR dX3_secondWay_100 flX3_29 kn1 kk1 rfl kr1_0 ?_
    refine s_iconst dX3_secondWay_103 (by decide) ?_
    refine s_iald (x := (m2 2 3)) dX3_secondWay_104 kn2 kk2 kl2 (by decide) (by decide) rfl ?_
    obtain ⟨c, h⟩ := h
    refine s_imul dX3_secondWay_105 (am_w_id c) ?_
    refine s_istore dX3_secondWay_106 (by decide) (L' := [vR 144, vI x1, vI x2, vI x3, vI (z1 * (m2 2 3))]) rfl ?_
    exact am_lesS h ⟨Or.inr rfl, Or.inr rfl, Or.inl rfl, Or.inr rfl, Or.inr rfl, trivial⟩
  · have h := h.2 cc
    refine s_aload_n dX3_secondWay_74 rfl rfl ?_
    refine s_getR dX3_secondWay_75 flX3_9 kn144 kk144 rfl kr144_2 ?_
    refine s_iload_n dX3_secondWay_78 rfl rfl ?_
    obtain ⟨c, c2, h⟩ := h
    refine s_iald (x := (μ 145 ((x3).toNat))) dX3_secondWay_79 kn145 kk145 kl145 c c2 rfl ?_
    refine s_iload_n dX3_secondWay_80 rfl rfl ?_
    refine s_icmp_ge dX3_secondWay_81 (tgt := 90) (by decide) (fun cc => ?_) (fun cc => ?_)
    · have h := h.1 cc
      refine s_aload_n dX3_secondWay_90 rfl rfl ?_
      refine s_iload_n dX3_secondWay_91 rfl rfl ?_
      refine s_iload_n dX3_secondWay_92 rfl rfl ?_
      obtain ⟨P, hcl, h⟩ := h
      refine s_callV (As := [vI x3, vI x1]) (rest := []) (k := 144) dX3_secondWay_93 lkX3_88 kn144 ⟨by rw [kk144]; rfl, by rw [kk144]; decide⟩ lmX3_meanFrom rfl rfl (Nat.le_of_ble_eq_true rfl) (by decide) (Nat.le_refl 0) (Nat.le_refl 0) (hC := hcl) (fun r n2 S2 m4 hP => ?_)
      obtain ⟨⟨rfl, rfl⟩, z3, rfl, hq⟩ := hP
      have h := h z3 m4 hq
      refine s_aload_n dX3_secondWay_96 rfl rfl ?_
      refine s_getR dX3_secondWay_97 flX3_21 kn144 kk144 rfl kr144_0 ?_
      refine s_getR dX3_secondWay_100 flX3_29 kn1 kk1 rfl kr1_0 ?_
      refine s_iconst dX3_secondWay_103 (by decide) ?_
      refine s_iald (x := (m4 2 3)) dX3_secondWay_104 kn2 kk2 kl2 (by decide) (by decide) rfl ?_
      obtain ⟨c, h⟩ := h
      refine s_imul dX3_secondWay_105 (am_w_id c) ?_
      refine s_istore dX3_secondWay_106 (by decide) (L' := [vR 144, vI x1, vI x2, vI x3, vI (z3 * (m4 2 3))]) rfl ?_
      exact am_lesS h ⟨Or.inr rfl, Or.inr rfl, Or.inl rfl, Or.inr rfl, Or.inr rfl, trivial⟩
    · have h := h.2 cc
      obtain ⟨c, h⟩ := h
      refine s_iinc dX3_secondWay_84 rfl (am_w_id c) (by decide) (L' := [vR 144, vI x1, vI x2, vI (x3 + 1), vU]) rfl ?_
      refine s_goto dX3_secondWay_87 (tgt := 69) (by decide) ?_
      exact h
theorem vc_X3_secondWay_108 {x1 x3 x4 : Int} {μ : am_M} {Q : Int → am_M → Prop} (h : (x1 ≤ x3 → ∃ P : Int → am_M → Prop, cl_I kC 1 mX3_meanFrom [vR 144, vI x3, vI x1] μ P ∧ (∀ (z1 : Int) (m2 : am_M), P z1 m2 → Q z1 m2)) ∧ (x3 < x1 → (0 ≤ x3) ∧ (x3 < 150) ∧ ((am_in (100 * (μ 145 ((x3).toNat)))) ∧ ((x4 ≤ 100 * (μ 145 ((x3).toNat)) → ∃ P : Int → am_M → Prop, cl_I kC 1 mX3_meanFrom [vR 144, vI x3, vI x1] μ P ∧ (∀ (z3 : Int) (m4 : am_M), P z3 m4 → Q z3 m4)) ∧ (100 * (μ 145 ((x3).toNat)) < x4 → (am_in (x3 + 1)) ∧ (at_I kC 5 mX3_secondWay 108 [vR 144, vI x1, vU, vI (x3 + 1), vI x4] [] μ Q)))))) : at_I kC 5 mX3_secondWay 108 [vR 144, vI x1, vU, vI x3, vI x4] [] μ Q := by
  refine s_iload_n dX3_secondWay_108 rfl rfl ?_
  refine s_iload_n dX3_secondWay_109 rfl rfl ?_
  refine s_icmp_ge dX3_secondWay_110 (tgt := 133) (by decide) (fun cc => ?_) (fun cc => ?_)
  · have h := h.1 cc
    refine s_aload_n dX3_secondWay_133 rfl rfl ?_
    refine s_iload_n dX3_secondWay_134 rfl rfl ?_
    refine s_iload_n dX3_secondWay_135 rfl rfl ?_
    obtain ⟨P, hcl, h⟩ := h
    refine s_callV (As := [vI x3, vI x1]) (rest := []) (k := 144) dX3_secondWay_136 lkX3_88 kn144 ⟨by rw [kk144]; rfl, by rw [kk144]; decide⟩ lmX3_meanFrom rfl rfl (Nat.le_of_ble_eq_true rfl) (by decide) (Nat.le_refl 0) (Nat.le_refl 0) (hC := hcl) (fun r n2 S2 m2 hP => ?_)
    obtain ⟨⟨rfl, rfl⟩, z1, rfl, hq⟩ := hP
    have h := h z1 m2 hq
    exact s_ireturn dX3_secondWay_139 (Or.inl rfl) ⟨⟨rfl, rfl⟩, _, rfl, h⟩
  · have h := h.2 cc
    refine s_bipush dX3_secondWay_113 (by decide) ?_
    refine s_aload_n dX3_secondWay_115 rfl rfl ?_
    refine s_getR dX3_secondWay_116 flX3_9 kn144 kk144 rfl kr144_2 ?_
    refine s_iload_n dX3_secondWay_119 rfl rfl ?_
    obtain ⟨c, c2, h⟩ := h
    refine s_iald (x := (μ 145 ((x3).toNat))) dX3_secondWay_120 kn145 kk145 kl145 c c2 rfl ?_
    obtain ⟨c, h⟩ := h
    refine s_imul dX3_secondWay_121 (am_w_id c) ?_
    refine s_iload dX3_secondWay_122 rfl ?_
    refine s_icmp_ge dX3_secondWay_124 (tgt := 133) (by decide) (fun cc => ?_) (fun cc => ?_)
    · have h := h.1 cc
      refine s_aload_n dX3_secondWay_133 rfl rfl ?_
      refine s_iload_n dX3_secondWay_134 rfl rfl ?_
      refine s_iload_n dX3_secondWay_135 rfl rfl ?_
      obtain ⟨P, hcl, h⟩ := h
      refine s_callV (As := [vI x3, vI x1]) (rest := []) (k := 144) dX3_secondWay_136 lkX3_88 kn144 ⟨by rw [kk144]; rfl, by rw [kk144]; decide⟩ lmX3_meanFrom rfl rfl (Nat.le_of_ble_eq_true rfl) (by decide) (Nat.le_refl 0) (Nat.le_refl 0) (hC := hcl) (fun r n2 S2 m4 hP => ?_)
      obtain ⟨⟨rfl, rfl⟩, z3, rfl, hq⟩ := hP
      have h := h z3 m4 hq
      exact s_ireturn dX3_secondWay_139 (Or.inl rfl) ⟨⟨rfl, rfl⟩, _, rfl, h⟩
    · have h := h.2 cc
      obtain ⟨c, h⟩ := h
      refine s_iinc dX3_secondWay_127 rfl (am_w_id c) (by decide) (L' := [vR 144, vI x1, vU, vI (x3 + 1), vI x4]) rfl ?_
      refine s_goto dX3_secondWay_130 (tgt := 108) (by decide) ?_
      exact h
theorem ve_X3_secondWay {μ : am_M} {Q : Int → am_M → Prop} (h : at_I kC 5 mX3_secondWay 0 [vR 144, vU, vU, vU, vU] [] μ Q) : cl_I kC 5 mX3_secondWay [vR 144] μ Q := am_intro pmX3_secondWay (Nat.le_of_ble_eq_true rfl) rfl h
theorem lp_X3_second {μ0 : am_M} (hV : vC μ0) {m : am_M} {z : Int} (hm : fr_ [145, 146, 147] μ0 m) (hh : hl_ z (m 145) (m 146) (hiC μ0 (winC μ0))) {Q : Int → am_M → Prop} (hQ : Q (lo_ (lvC μ0 (μ0 2 0)) (winC μ0) (gtC μ0) (μ0 2 3)) m) : at_I kC 5 mX3_secondWay 69 [vR 144, vI z, vI (gtC μ0), vI 0, vU] [] m Q := by
  have hw := hV.hE.2.1
  have h3 := hV.hE.2.2.2.1
  have lb := la_b6 hV
  have wb := win_b lb hw
  have w1 : in_ 0 151 (winC μ0) := wb.1
  have Lb : ∀ k, 0 ≤ k → k < winC μ0 → 0 ≤ lvC μ0 (μ0 2 0) k ∧ lvC μ0 (μ0 2 0) k ≤ 998001 := fun k h0 h1 => lvl_b (fun f => su4_b hV f) hV.hE.1 hw lb ⟨h0, h1⟩
  have mb := lm_b (L := lvC μ0 (μ0 2 0)) (gt := gtC μ0) w1.1 Lb
  have mm := mulb (x := lm_ (lvC μ0 (μ0 2 0)) (winC μ0) (gtC μ0)) (y := μ0 2 3) (A := 998001) (B := 100) mb.1 mb.2 h3.1 (by ((try unfold am_in); (try unfold in_ at *); omega))
  have hup : up_H (hiC μ0 (winC μ0)) ∧ ((hiC μ0 (winC μ0)).length : Int) ≤ winC μ0 := hi_up w1.1
  have hok : okH (hiC μ0 (winC μ0)) := hi_ok w1.1 Lb
  have htt : hw_ tt_ (hiC μ0 (winC μ0)) = winC μ0 := hi_tt w1.1
  have m1 : ∀ A B, hiC μ0 (winC μ0) = A ++ B → (∀ q ∈ A, q.1 < gtC μ0) → (∀ q ∈ B, gtC μ0 ≤ q.1) → mn_ B = lm_ (lvC μ0 (μ0 2 0)) (winC μ0) (gtC μ0) := fun A B => mn_1 w1.1
  have m2 : ∀ A B, hiC μ0 (winC μ0) = A ++ B → (∀ q ∈ A, ¬ (gtC μ0 ≤ q.1 ∧ lm_ (lvC μ0 (μ0 2 0)) (winC μ0) (gtC μ0) * μ0 2 3 ≤ 100 * q.1)) → (∀ q ∈ B, gtC μ0 ≤ q.1 ∧ lm_ (lvC μ0 (μ0 2 0)) (winC μ0) (gtC μ0) * μ0 2 3 ≤ 100 * q.1) → mn_ B = lo_ (lvC μ0 (μ0 2 0)) (winC μ0) (gtC μ0) (μ0 2 3) := fun A B => mn_2 w1.1 rfl
  generalize hiC μ0 (winC μ0) = H at *
  generalize lm_ (lvC μ0 (μ0 2 0)) (winC μ0) (gtC μ0) = mean at *
  generalize lo_ (lvC μ0 (μ0 2 0)) (winC μ0) (gtC μ0) (μ0 2 3) = loud at *
  have hn := hh.1
  have e2 : m 2 = μ0 2 := hm 2 (by decide)
  unfold in_ at w1
  -- the second search
  have p108 : ∀ (C A : Hl) (y : Int), H = A ++ C → y = A.length → (∀ q ∈ A, ¬ (gtC μ0 ≤ q.1 ∧ mean * μ0 2 3 ≤ 100 * q.1)) → (∀ q ∈ C, gtC μ0 ≤ q.1) → at_I kC 5 mX3_secondWay 108 [vR 144, vI z, vU, vI y, vI (mean * μ0 2 3)] [] m Q := by
    intro C
    induction C with
    | nil =>
      intro A y hA hy ha hc
      have e := m2 A [] hA ha (fun q hq => by simp at hq)
      simp at hA
      subst hA
      refine vc_X3_secondWay_108 ⟨fun _ => ⟨_, sp_X3_meanFrom (Q := fun z m2 => z = mn_ [] ∧ m2 = m) H [] (by simpa using hh) hy (by simpa using hok) (by simp; omega) ⟨rfl, rfl⟩, ?_⟩, fun q => by omega⟩
      rintro z2 m3 ⟨h1, rfl⟩
      rw [h1, e]
      exact hQ
    | cons p C ih =>
      intro A y hA hy ha hc
      have hlen : H.length = A.length + 1 + C.length := by rw [hA]; simp; omega
      have hh2 := hh
      rw [hA] at hh2
      have v := hl_at hh2 hy
      have po := hok p (by rw [hA]; simp)
      have pg := hc p List.mem_cons_self
      refine vc_X3_secondWay_108 ⟨fun q => by omega, fun _ => ⟨by omega, by omega, by rw [v.1]; ((try unfold am_in); (try unfold in_ at *); omega), fun c => ?_, fun c => ⟨(by (try unfold am_in); (try unfold in_ at *); omega), ?_⟩⟩⟩
      · rw [v.1] at c
        have hup2 := hup.1
        rw [hA] at hup2
        unfold up_H at hup2
        have hs := (List.pairwise_cons.mp (List.pairwise_append.mp hup2).2.1).1
        have e := m2 A (p :: C) hA ha (fun q hq => by
          rcases List.mem_cons.mp hq with h | h
          · rw [h]; exact ⟨pg, c⟩
          · have := hs q h
            exact ⟨by omega, by omega⟩)
        refine ⟨_, sp_X3_meanFrom (Q := fun z m2 => z = mn_ (p :: C) ∧ m2 = m) A (p :: C) hh2 hy (by rw [← hA]; exact hok) (by rw [← hA]; omega) ⟨rfl, rfl⟩, ?_⟩
        rintro z2 m3 ⟨h1, rfl⟩
        rw [h1, e]
        exact hQ
      · rw [v.1] at c
        exact ih (A ++ [p]) (y + 1) (by rw [hA]; simp) (by simp; omega) (fun q hq => by
          rcases List.mem_append.mp hq with h | h
          · exact ha q h
          · simp at h
            rw [h]
            omega) (fun q hq => hc q (List.mem_cons_of_mem _ hq))
  have p69 : ∀ (B A : Hl) (y : Int), H = A ++ B → y = A.length → (∀ q ∈ A, q.1 < gtC μ0) → at_I kC 5 mX3_secondWay 69 [vR 144, vI z, vI (gtC μ0), vI y, vU] [] m Q := by
    intro B
    induction B with
    | nil =>
      intro A y hA hy ha
      have e := m1 A [] hA ha (fun q hq => by simp at hq)
      have hA2 := hA
      simp at hA
      subst hA
      refine vc_X3_secondWay_69 ⟨fun _ => ⟨_, sp_X3_meanFrom (Q := fun z m2 => z = mn_ [] ∧ m2 = m) H [] (by simpa using hh) hy (by simpa using hok) (by simp; omega) ⟨rfl, rfl⟩, ?_⟩, fun q => by omega⟩
      rintro z2 m3 ⟨h1, rfl⟩
      rw [h1, e, e2]
      exact ⟨(by (try unfold am_in); (try unfold in_ at *); omega), p108 [] H y hA2 hy (fun q hq => by have := ha q hq; omega) (fun q hq => by simp at hq)⟩
    | cons p B ih =>
      intro A y hA hy ha
      have hlen : H.length = A.length + 1 + B.length := by rw [hA]; simp; omega
      have hh2 := hh
      rw [hA] at hh2
      have v := hl_at hh2 hy
      refine vc_X3_secondWay_69 ⟨fun q => by omega, fun _ => ⟨by omega, by omega, fun c => ?_, fun c => ⟨(by (try unfold am_in); (try unfold in_ at *); omega), ?_⟩⟩⟩
      · rw [v.1] at c
        have hup2 := hup.1
        rw [hA] at hup2
        unfold up_H at hup2
        have hs := (List.pairwise_cons.mp (List.pairwise_append.mp hup2).2.1).1
        have hall : ∀ q ∈ p :: B, gtC μ0 ≤ q.1 := fun q hq => by
          rcases List.mem_cons.mp hq with h | h
          · rw [h]; exact c
          · have := hs q h
            omega
        have e := m1 A (p :: B) hA ha hall
        refine ⟨_, sp_X3_meanFrom (Q := fun z m2 => z = mn_ (p :: B) ∧ m2 = m) A (p :: B) hh2 hy (by rw [← hA]; exact hok) (by rw [← hA]; omega) ⟨rfl, rfl⟩, ?_⟩
        rintro z2 m3 ⟨h1, rfl⟩
        rw [h1, e, e2]
        exact ⟨(by (try unfold am_in); (try unfold in_ at *); omega), p108 (p :: B) A y hA hy (fun q hq => by have := ha q hq; omega) hall⟩
      · rw [v.1] at c
        exact ih (A ++ [p]) (y + 1) (by rw [hA]; simp) (by simp; omega) (fun q hq => by
          rcases List.mem_append.mp hq with h | h
          · exact ha q h
          · simp at h
            rw [h]
            omega)
  exact p69 H [] 0 (by simp) rfl (fun q hq => by simp at hq)
theorem vC_k {ks : List Nat} {μ m : am_M} (h : fr_ ks μ m) (hk : ∀ k ∈ ks, 9 < k) (hj : 143 ∉ ks) (hs : sk_ μ (fun f => suC μ f 4)) : sk_ m (fun f => suC m f 4) := fun f hf => by
  rw [h 143 hj, (pC_fr h hk).2.2.2]
  exact hs f hf
theorem sp_X3_secondWay {μ : am_M} (hV : vC μ) (hs : sk_ μ (fun f => suC μ f 4)) (h0 : μ 147 0 = 0) : cl_I kC 5 mX3_secondWay [vR 144] μ (fun z m => z = lo_ (lvC μ (μ 2 0)) (winC μ) (gtC μ) (μ 2 3) ∧ fr_ [145, 146, 147] μ m ∧ m 147 0 = 0) := by
  refine ve_X3_secondWay (vc_X3_secondWay_0 ?_)
  have h2 := hV.hE.2.2.1
  have g2 := mulb (x := μ 2 2) (y := μ 2 2) (A := 999) (B := 999) h2.1 (by ((try unfold am_in); (try unfold in_ at *); omega)) h2.1 (by ((try unfold am_in); (try unfold in_ at *); omega))
  have : ∀ (j : Nat) (x : Int) (m : am_M), x + j = 600 → 0 ≤ x → fr_ [147] μ m → (∀ f, 0 ≤ f → f ≤ x → m 147 f.toNat = sm_ (sqC μ) f) → at_I kC 5 mX3_secondWay 2 [vR 144, vI x, vU, vU, vU] [] m (fun z m => z = lo_ (lvC μ (μ 2 0)) (winC μ) (gtC μ) (μ 2 3) ∧ fr_ [145, 146, 147] μ m ∧ m 147 0 = 0) := by
    intro j
    induction j with
    | zero =>
      intro x m hx hx0 hf hp
      have hVm := vC_fr hf (by decide) hV
      have pc := pC_fr hf (by decide)
      have e2 : m 2 = μ 2 := hf 2 (by decide)
      have eq_sq : sqC m = sqC μ := by unfold sqC; rw [pc.2.2.2, e2]
      have eq_hi : hiC m (winC m) = hiC μ (winC μ) := by
        unfold hiC winC lvC
        rw [pc.2.2.2, e2, hf 5 (by decide), cg_c (hf 6 (by decide))]
      refine vc_X3_secondWay_2 ⟨fun _ => ⟨_, sp_X3_sortLevels hVm (fun f h => by rw [eq_sq]; exact hp f h.1 (by ((try unfold am_in); (try unfold in_ at *); omega))), fun z m2 ⟨f2, h2'⟩ => ?_⟩, fun q => by omega⟩
      have ft : fr_ [145, 146, 147] μ m2 := fr_tr (fr_up hf (by simp)) (fr_up f2 (by simp))
      rw [ft 2 (by decide)]
      rw [eq_hi] at h2'
      refine ⟨(by (try unfold am_in); (try unfold in_ at *); omega), lp_X3_second hV ft h2' ⟨rfl, ft, ?_⟩⟩
      rw [f2 147 (by decide)]
      have := hp 0 (by omega) (by omega)
      simpa [sm_, fI_0] using this
    | succ j ih =>
      intro x m hx hx0 hf hp
      have hVm := vC_fr hf (by decide) hV
      have pc := pC_fr hf (by decide)
      have e2 : m 2 = μ 2 := hf 2 (by decide)
      have hs2 := vC_k hf (by decide) (by decide) hs
      have em : mixC m x = mixC μ x := by unfold mixC; rw [pc.2.2.2, e2]
      have b := mix_b hV x
      have q2 := sq_b2 hV hx0
      unfold in_ at b
      have mb := mulb (x := mixC μ x) (y := mixC μ x) (A := 999) (B := 999) b.1 (by omega) b.1 (by omega)
      refine vc_X3_secondWay_2 ⟨fun q => by omega, fun q => ⟨hVm, hs2, ⟨hx0, q⟩, (by (try unfold am_in); (try unfold in_ at *); omega), hx0, by omega, by rw [em]; ((try unfold am_in); (try unfold in_ at *); omega), by rw [em, hp x hx0 (by omega)]; ((try unfold am_in); (try unfold in_ at *); omega), by omega, by omega, fun m3 e3 => ⟨(by (try unfold am_in); (try unfold in_ at *); omega), ih (x + 1) m3 (by omega) (by omega) (by rw [e3]; exact fr_tr hf (fr_st (by simp))) (fun f f0 f1 => ?_)⟩⟩⟩
      rw [e3, st_s]
      by_cases c : f = x + 1
      · rw [c, up_s, hp x hx0 (by omega), em]
        unfold sm_
        rw [fI_s _ _ hx0]
        rfl
      · rw [up_n (by omega)]
        exact hp f f0 (by omega)
  refine this 600 0 μ (by omega) (by omega) fr_rf (fun f f0 f1 => ?_)
  rw [show f = 0 by omega]
  simpa [sm_, fI_0] using h0

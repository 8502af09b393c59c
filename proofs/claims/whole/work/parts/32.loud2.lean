/-! the class's loudness: what is measured -/
theorem cnt_m {p : Int → Bool} {v : Int → Int} {n B : Int} (hn : 0 ≤ n) (hB : 0 ≤ B) (h : ∀ i, 0 ≤ i → i < n → 0 ≤ v i ∧ v i ≤ B) : 0 ≤ cnt_ p v n ∧ cnt_ p v n ≤ cnt_ p (fun _ => 1) n * B := by
  have key : ∀ j : Nat, (j : Int) ≤ n → 0 ≤ cnt_ p v j ∧ cnt_ p v j ≤ cnt_ p (fun _ => 1) j * B := by
    intro j
    induction j with
    | zero =>
      intro _
      show (0 : Int) ≤ 0 ∧ (0 : Int) ≤ 0 * B
      omega
    | succ j ih =>
      intro hj
      have q := ih (by omega)
      have hv := h j (by omega) (by omega)
      rw [show ((j + 1 : Nat) : Int) = (j : Int) + 1 by omega, cnt_s (by omega), cnt_s (by omega), Int.add_mul]
      split <;> omega
  have := key n.toNat (by omega)
  rw [show ((n.toNat : Nat) : Int) = n by omega] at this
  exact this
theorem cnt_not {p q : Int → Bool} {n : Int} (hn : 0 ≤ n) (h : ∀ i, q i = !p i) : cnt_ p (fun _ => 1) n + cnt_ q (fun _ => 1) n = n := by
  have key : ∀ j : Nat, cnt_ p (fun _ => 1) j + cnt_ q (fun _ => 1) j = j := by
    intro j
    induction j with
    | zero => rfl
    | succ j ih =>
      rw [show ((j + 1 : Nat) : Int) = (j : Int) + 1 by omega, cnt_s (by omega), cnt_s (by omega), h j]
      cases p j <;> simp <;> omega
  have := key n.toNat
  rw [show ((n.toNat : Nat) : Int) = n by omega] at this
  exact this
def lq_ (L : Int → Int) (n gt : Int) : Int := cnt_ (fun k => decide (L k < gt)) (fun _ => 1) n
def l1_ (L : Int → Int) (n gt : Int) : Int := cnt_ (fun k => decide (gt ≤ L k)) L n
def lm_ (L : Int → Int) (n gt : Int) : Int := if lq_ L n gt < n then l1_ L n gt / (n - lq_ L n gt) else 0
def ll_ (L : Int → Int) (n gt sh : Int) : Int := cnt_ (fun k => decide (gt ≤ L k ∧ 100 * L k < lm_ L n gt * sh)) (fun _ => 1) n
def l2_ (L : Int → Int) (n gt sh : Int) : Int := cnt_ (fun k => decide (gt ≤ L k ∧ lm_ L n gt * sh ≤ 100 * L k)) L n
/-- the loudness -/
def lo_ (L : Int → Int) (n gt sh : Int) : Int := if 0 < n - lq_ L n gt - ll_ L n gt sh then l2_ L n gt sh / (n - lq_ L n gt - ll_ L n gt sh) else 0
theorem lm_b {L : Int → Int} {n gt : Int} (hn : 0 ≤ n) (h : ∀ k, 0 ≤ k → k < n → 0 ≤ L k ∧ L k ≤ 998001) : 0 ≤ lm_ L n gt ∧ lm_ L n gt ≤ 998001 := by
  have a := cnt_m (p := fun k => decide (gt ≤ L k)) hn (by omega) h
  have b := cnt_not (p := fun k => decide (L k < gt)) (q := fun k => decide (gt ≤ L k)) hn (fun i => by
    by_cases c : L i < gt
    · simp [c, Int.not_le.mpr c]
    · simp [c, Int.not_lt.mp c])
  unfold lm_
  split
  · rename_i q
    unfold lq_ l1_ at *
    have e : n - cnt_ (fun k => decide (L k < gt)) (fun _ => 1) n = cnt_ (fun k => decide (gt ≤ L k)) (fun _ => 1) n := by omega
    rw [e]
    refine ⟨Int.ediv_nonneg a.1 (by omega), ?_⟩
    refine Int.le_trans (Int.ediv_le_ediv (by omega) a.2) ?_
    rw [Int.mul_ediv_cancel_left _ (by omega)]
    omega
  · omega
theorem lvl_b {F : Int → Int} {ms w k la : Int} (hF : ∀ f, in_ 0 8000 (F f)) (hm : in_ 0 401 ms) (hw : in_ 4 51 w) (hla : in_ 0 601 la) (hk : 0 ≤ k ∧ k < win_ la w) : 0 ≤ lvl_ F ms w k ∧ lvl_ F ms w k ≤ 998001 := by
  have kb := (win_b hla hw).2 k hk.1 hk.2
  unfold in_ at hw hla
  have hb : k * w ≤ (if (k + 1) * w < 600 then (k + 1) * w else 600) ∧ (if (k + 1) * w < 600 then (k + 1) * w else 600) ≤ k * w + w := by rw [kb.2.2]; split <;> omega
  have s := sm_b (f := fun i => sq_ F ms (k * w + i)) (n := (if (k + 1) * w < 600 then (k + 1) * w else 600) - k * w) (B := 998001) (by omega) (by omega) (fun i _ _ => sq_b (hF _) hm)
  unfold lvl_
  refine ⟨Int.ediv_nonneg s.1 (by omega), ?_⟩
  refine Int.le_trans (Int.ediv_le_ediv (b := w * 998001) (by omega) (by omega)) ?_
  rw [Int.mul_ediv_cancel_left _ (by omega)]
  omega
noncomputable abbrev lvC (μ : am_M) (ms : Int) : Int → Int := lvl_ (fun f => suC μ f 4) ms (μ 2 1)
abbrev gtC (μ : am_M) : Int := μ 2 2 * μ 2 2
/-- what is measured stands -/
def me_ (μ m : am_M) (ms : Int) : Prop := m 144 5 = winC μ ∧ m 144 6 = lq_ (lvC μ ms) (winC μ) (gtC μ) ∧ m 144 7 = ll_ (lvC μ ms) (winC μ) (gtC μ) (μ 2 3) ∧ m 144 8 = lm_ (lvC μ ms) (winC μ) (gtC μ) ∧ m 144 9 = lo_ (lvC μ ms) (winC μ) (gtC μ) (μ 2 3) ∧ ∀ k, 0 ≤ k → k < winC μ → m 145 k.toNat = lvC μ ms k
theorem dec_t {p : Prop} {_ : Decidable p} (h : p) : decide p = true := decide_eq_true h
theorem dec_f {p : Prop} {_ : Decidable p} (h : ¬ p) : (if decide p = true then (1 : Int) else 0) = 0 := by simp [h]
theorem vc_X3_measure_0 {x1 : Int} {μ : am_M} {Q : am_M → Prop} (h : ∃ P : am_M → Prop, cl_V kC 4 mX3_fillLevels [vR 144, vI x1] μ P ∧ (∀ m2 : am_M, P m2 → (am_in ((m2 2 2) * (m2 2 2))) ∧ (∀ m3 : am_M, m3 = am_st m2 144 (am_up (m2 144) 6 0) → at_V kC 5 mX3_measure 35 [vR 144, vU, vI ((m2 2 2) * (m2 2 2)), vI 0, vI 0, vU] [] m3 Q))) : at_V kC 5 mX3_measure 0 [vR 144, vI x1, vU, vU, vU, vU] [] μ Q := by
  refine s_aload_n dX3_measure_0 rfl rfl ?_
  refine s_iload_n dX3_measure_1 rfl rfl ?_
  obtain ⟨P, hcl, h⟩ := h
  refine s_callV (As := [vI x1]) (rest := []) (k := 144) dX3_measure_2 lkX3_40 kn144 ⟨by rw [kk144]; rfl, by rw [kk144]; decide⟩ lmX3_fillLevels rfl rfl (Nat.le_of_ble_eq_true rfl) (by decide) (Nat.le_refl 0) (Nat.le_refl 0) (hC := hcl) (fun r n2 S2 m2 hP => ?_)
  obtain ⟨⟨rfl, rfl⟩, rfl, hq⟩ := hP
  have h := h m2 hq
  refine s_aload_n dX3_measure_5 rfl rfl ?_
  refine s_getR dX3_measure_6 flX3_21 kn144 kk144 rfl kr144_0 ?_
  refine s_getR dX3_measure_9 flX3_29 kn1 kk1 rfl kr1_0 ?_
  refine s_iconst dX3_measure_12 (by decide) ?_
  refine s_iald (x := (m2 2 2)) dX3_measure_13 kn2 kk2 kl2 (by decide) (by decide) rfl ?_
  refine s_aload_n dX3_measure_14 rfl rfl ?_
  refine s_getR dX3_measure_15 flX3_21 kn144 kk144 rfl kr144_0 ?_
  refine s_getR dX3_measure_18 flX3_29 kn1 kk1 rfl kr1_0 ?_
  refine s_iconst dX3_measure_21 (by decide) ?_
  refine s_iald (x := (m2 2 2)) dX3_measure_22 kn2 kk2 kl2 (by decide) (by decide) rfl ?_
  obtain ⟨c, h⟩ := h
  refine s_imul dX3_measure_23 (am_w_id c) ?_
  refine s_istore_n dX3_measure_24 rfl (by decide) (L' := [vR 144, vI x1, vI ((m2 2 2) * (m2 2 2)), vU, vU, vU]) rfl ?_
  refine s_iconst dX3_measure_25 (by decide) ?_
  refine s_istore_n dX3_measure_26 rfl (by decide) (L' := [vR 144, vI x1, vI ((m2 2 2) * (m2 2 2)), vI 0, vU, vU]) rfl ?_
  refine s_aload_n dX3_measure_27 rfl rfl ?_
  refine s_iconst dX3_measure_28 (by decide) ?_
  obtain ⟨m3, hm3⟩ : ∃ x : am_M, x = am_st m2 144 (am_up (m2 144) 6 0) := ⟨_, rfl⟩
  have h := h m3 hm3
  refine s_putI dX3_measure_29 flX3_44 kn144 kk144 rfl rfl (Or.inl rfl) hm3.symm ?_
  refine s_iconst dX3_measure_32 (by decide) ?_
  refine s_istore dX3_measure_33 (by decide) (L' := [vR 144, vI x1, vI ((m2 2 2) * (m2 2 2)), vI 0, vI 0, vU]) rfl ?_
  exact am_lesS h ⟨Or.inr rfl, Or.inl rfl, Or.inr rfl, Or.inr rfl, Or.inr rfl, Or.inl rfl, trivial⟩
theorem vc_X3_measure_35 {x2 x3 x4 : Int} {μ : am_M} {Q : am_M → Prop} (h : (μ 144 5 ≤ x4 → ((μ 144 6 < μ 144 5 → (am_in (μ 144 5 - (μ 144 6))) ∧ ((0 ≤ x3) ∧ (0 < μ 144 5 - (μ 144 6))))) ∧ (∀ v1 : Int, v1 = (if μ 144 6 < μ 144 5 then x3 / (μ 144 5 - (μ 144 6)) else 0) → ∀ m2 : am_M, m2 = am_st μ 144 (am_up (μ 144) 8 v1) → (am_in (v1 * (μ 2 3))) ∧ (∀ m3 : am_M, m3 = am_st m2 144 (am_up (m2 144) 7 0) → at_V kC 5 mX3_measure 140 [vR 144, vU, vI x2, vI 0, vI (v1 * (μ 2 3)), vI 0] [] m3 Q))) ∧ (x4 < μ 144 5 → (0 ≤ x4) ∧ (x4 < 150) ∧ ((x2 ≤ μ 145 ((x4).toNat) → (0 ≤ x4) ∧ (x4 < 150) ∧ ((am_in (x3 + (μ 145 ((x4).toNat)))) ∧ ((am_in (x4 + 1)) ∧ (at_V kC 5 mX3_measure 35 [vR 144, vU, vI x2, vI (x3 + (μ 145 ((x4).toNat))), vI (x4 + 1), vU] [] μ Q)))) ∧ (μ 145 ((x4).toNat) < x2 → (am_in (μ 144 6 + 1)) ∧ (∀ m5 : am_M, m5 = am_st μ 144 (am_up (μ 144) 6 (μ 144 6 + 1)) → (am_in (x4 + 1)) ∧ (at_V kC 5 mX3_measure 35 [vR 144, vU, vI x2, vI x3, vI (x4 + 1), vU] [] m5 Q)))))) : at_V kC 5 mX3_measure 35 [vR 144, vU, vI x2, vI x3, vI x4, vU] [] μ Q := by
  refine s_iload dX3_measure_35 rfl ?_
  refine s_aload_n dX3_measure_37 rfl rfl ?_
  refine s_getI (x := (μ 144 5)) dX3_measure_38 flX3_48 kn144 kk144 rfl rfl ?_
  refine s_icmp_ge dX3_measure_41 (tgt := 84) (by decide) (fun cc => ?_) (fun cc => ?_)
  · have h := h.1 cc
    refine s_aload_n dX3_measure_84 rfl rfl ?_
    refine s_aload_n dX3_measure_85 rfl rfl ?_
    refine s_getI (x := (μ 144 5)) dX3_measure_86 flX3_48 kn144 kk144 rfl rfl ?_
    refine s_aload_n dX3_measure_89 rfl rfl ?_
    refine s_getI (x := (μ 144 6)) dX3_measure_90 flX3_44 kn144 kk144 rfl rfl ?_
    obtain ⟨hsd, h⟩ := h
    have kj4 : ∀ (v1 : Int), (∀ m2 : am_M, m2 = am_st μ 144 (am_up (μ 144) 8 v1) → (am_in (v1 * (μ 2 3))) ∧ (∀ m3 : am_M, m3 = am_st m2 144 (am_up (m2 144) 7 0) → at_V kC 5 mX3_measure 140 [vR 144, vU, vI x2, vI 0, vI (v1 * (μ 2 3)), vI 0] [] m3 Q)) → at_V kC 5 mX3_measure 111 [vR 144, vU, vI x2, vU, vU, vU] [vI v1, vR 144] μ Q := by
      intro v1 h
      obtain ⟨m2, hm2⟩ : ∃ x : am_M, x = am_st μ 144 (am_up (μ 144) 8 v1) := ⟨_, rfl⟩
      have h := h m2 hm2
      refine s_putI dX3_measure_111 flX3_51 kn144 kk144 rfl rfl (Or.inl rfl) hm2.symm ?_
      refine s_aload_n dX3_measure_114 rfl rfl ?_
      refine s_getI (x := v1) dX3_measure_115 flX3_51 kn144 kk144 rfl (by subst hm2; rfl) ?_
      refine s_aload_n dX3_measure_118 rfl rfl ?_
      refine s_getR dX3_measure_119 flX3_21 kn144 kk144 rfl kr144_0 ?_
      refine s_getR dX3_measure_122 flX3_29 kn1 kk1 rfl kr1_0 ?_
      refine s_iconst dX3_measure_125 (by decide) ?_
      refine s_iald (x := (μ 2 3)) dX3_measure_126 kn2 kk2 kl2 (by decide) (by decide) (by subst hm2; rfl) ?_
      obtain ⟨c, h⟩ := h
      refine s_imul dX3_measure_127 (am_w_id c) ?_
      refine s_istore dX3_measure_128 (by decide) (L' := [vR 144, vU, vI x2, vU, vI (v1 * (μ 2 3)), vU]) rfl ?_
      refine s_iconst dX3_measure_130 (by decide) ?_
      refine s_istore_n dX3_measure_131 rfl (by decide) (L' := [vR 144, vU, vI x2, vI 0, vI (v1 * (μ 2 3)), vU]) rfl ?_
      refine s_aload_n dX3_measure_132 rfl rfl ?_
      refine s_iconst dX3_measure_133 (by decide) ?_
      obtain ⟨m3, hm3⟩ : ∃ x : am_M, x = am_st m2 144 (am_up (m2 144) 7 0) := ⟨_, rfl⟩
      have h := h m3 hm3
      refine s_putI dX3_measure_134 flX3_54 kn144 kk144 rfl rfl (Or.inl rfl) hm3.symm ?_
      refine s_iconst dX3_measure_137 (by decide) ?_
      refine s_istore dX3_measure_138 (by decide) (L' := [vR 144, vU, vI x2, vI 0, vI (v1 * (μ 2 3)), vI 0]) rfl ?_
      exact h
    refine s_icmp_le dX3_measure_93 (tgt := 110) (by decide) (fun cc => ?_) (fun cc => ?_)
    · have hp0 := cc
      refine s_iconst dX3_measure_110 (by decide) ?_
      exact am_lesS (kj4 0 (h 0 (by rw [if_neg (Int.not_lt.mpr hp0)]))) ⟨Or.inr rfl, Or.inl rfl, Or.inr rfl, Or.inl rfl, Or.inl rfl, Or.inl rfl, trivial⟩
    · have hp0 := cc
      have hsd := hsd hp0
      refine s_iload_n dX3_measure_96 rfl rfl ?_
      refine s_aload_n dX3_measure_97 rfl rfl ?_
      refine s_getI (x := (μ 144 5)) dX3_measure_98 flX3_48 kn144 kk144 rfl rfl ?_
      refine s_aload_n dX3_measure_101 rfl rfl ?_
      refine s_getI (x := (μ 144 6)) dX3_measure_102 flX3_44 kn144 kk144 rfl rfl ?_
      obtain ⟨c, hsd⟩ := hsd
      refine s_isub dX3_measure_105 (am_w_id c) ?_
      obtain ⟨c, c2⟩ := hsd
      refine s_idivp dX3_measure_106 c c2 rfl ?_
      refine s_goto dX3_measure_107 (tgt := 111) (by decide) ?_
      exact am_lesS (kj4 (x3 / (μ 144 5 - (μ 144 6))) (h (x3 / (μ 144 5 - (μ 144 6))) (by rw [if_pos hp0]))) ⟨Or.inr rfl, Or.inl rfl, Or.inr rfl, Or.inl rfl, Or.inl rfl, Or.inl rfl, trivial⟩
  · have h := h.2 cc
    refine s_aload_n dX3_measure_44 rfl rfl ?_
    refine s_getR dX3_measure_45 flX3_9 kn144 kk144 rfl kr144_2 ?_
    refine s_iload dX3_measure_48 rfl ?_
    obtain ⟨c, c2, h⟩ := h
    refine s_iald (x := (μ 145 ((x4).toNat))) dX3_measure_50 kn145 kk145 kl145 c c2 rfl ?_
    refine s_iload_n dX3_measure_51 rfl rfl ?_
    refine s_icmp_ge dX3_measure_52 (tgt := 68) (by decide) (fun cc => ?_) (fun cc => ?_)
    · have h := h.1 cc
      refine s_iload_n dX3_measure_68 rfl rfl ?_
      refine s_aload_n dX3_measure_69 rfl rfl ?_
      refine s_getR dX3_measure_70 flX3_9 kn144 kk144 rfl kr144_2 ?_
      refine s_iload dX3_measure_73 rfl ?_
      obtain ⟨c, c2, h⟩ := h
      refine s_iald (x := (μ 145 ((x4).toNat))) dX3_measure_75 kn145 kk145 kl145 c c2 rfl ?_
      obtain ⟨c, h⟩ := h
      refine s_iadd dX3_measure_76 (am_w_id c) ?_
      refine s_istore_n dX3_measure_77 rfl (by decide) (L' := [vR 144, vU, vI x2, vI (x3 + (μ 145 ((x4).toNat))), vI x4, vU]) rfl ?_
      obtain ⟨c, h⟩ := h
      refine s_iinc dX3_measure_78 rfl (am_w_id c) (by decide) (L' := [vR 144, vU, vI x2, vI (x3 + (μ 145 ((x4).toNat))), vI (x4 + 1), vU]) rfl ?_
      refine s_goto dX3_measure_81 (tgt := 35) (by decide) ?_
      exact h
    · have h := h.2 cc
      refine s_aload_n dX3_measure_55 rfl rfl ?_
      refine s_dup dX3_measure_56 ?_
      refine s_getI (x := (μ 144 6)) dX3_measure_57 flX3_44 kn144 kk144 rfl rfl ?_
      refine s_iconst dX3_measure_60 (by decide) ?_
      obtain ⟨c, h⟩ := h
      refine s_iadd dX3_measure_61 (am_w_id c) ?_
      obtain ⟨m5, hm5⟩ : ∃ x : am_M, x = am_st μ 144 (am_up (μ 144) 6 (μ 144 6 + 1)) := ⟨_, rfl⟩
      have h := h m5 hm5
      refine s_putI dX3_measure_62 flX3_44 kn144 kk144 rfl rfl (Or.inl rfl) hm5.symm ?_
      refine s_goto dX3_measure_65 (tgt := 78) (by decide) ?_
      obtain ⟨c, h⟩ := h
      refine s_iinc dX3_measure_78 rfl (am_w_id c) (by decide) (L' := [vR 144, vU, vI x2, vI x3, vI (x4 + 1), vU]) rfl ?_
      refine s_goto dX3_measure_81 (tgt := 35) (by decide) ?_
      exact h
theorem vc_X3_measure_140 {x2 x3 x4 x5 : Int} {μ : am_M} {Q : am_M → Prop} (h : (μ 144 5 ≤ x5 → (am_in (μ 144 5 - (μ 144 6))) ∧ ((am_in ((μ 144 5 - (μ 144 6)) - (μ 144 7))) ∧ (((0 < (μ 144 5 - (μ 144 6)) - (μ 144 7) → (0 ≤ x3) ∧ (0 < (μ 144 5 - (μ 144 6)) - (μ 144 7)))) ∧ (∀ v1 : Int, v1 = (if 0 < (μ 144 5 - (μ 144 6)) - (μ 144 7) then x3 / ((μ 144 5 - (μ 144 6)) - (μ 144 7)) else 0) → ∀ m2 : am_M, m2 = am_st μ 144 (am_up (μ 144) 9 v1) → Q m2)))) ∧ (x5 < μ 144 5 → (0 ≤ x5) ∧ (x5 < 150) ∧ ((μ 145 ((x5).toNat) < x2 → (0 ≤ x5) ∧ (x5 < 150) ∧ (((x2 ≤ μ 145 ((x5).toNat) → (0 ≤ x5) ∧ (x5 < 150) ∧ ((am_in (x3 + (μ 145 ((x5).toNat))))))) ∧ (∀ v4 : Int, v4 = (if μ 145 ((x5).toNat) < x2 then x3 else x3 + (μ 145 ((x5).toNat))) → (am_in (x5 + 1)) ∧ (at_V kC 5 mX3_measure 140 [vR 144, vU, vI x2, vI v4, vI x4, vI (x5 + 1)] [] μ Q)))) ∧ (x2 ≤ μ 145 ((x5).toNat) → (0 ≤ x5) ∧ (x5 < 150) ∧ ((am_in (100 * (μ 145 ((x5).toNat)))) ∧ ((x4 ≤ 100 * (μ 145 ((x5).toNat)) → (0 ≤ x5) ∧ (x5 < 150) ∧ (((x2 ≤ μ 145 ((x5).toNat) → (0 ≤ x5) ∧ (x5 < 150) ∧ ((am_in (x3 + (μ 145 ((x5).toNat))))))) ∧ (∀ v6 : Int, v6 = (if μ 145 ((x5).toNat) < x2 then x3 else x3 + (μ 145 ((x5).toNat))) → (am_in (x5 + 1)) ∧ (at_V kC 5 mX3_measure 140 [vR 144, vU, vI x2, vI v6, vI x4, vI (x5 + 1)] [] μ Q)))) ∧ (100 * (μ 145 ((x5).toNat)) < x4 → (am_in (μ 144 7 + 1)) ∧ (∀ m8 : am_M, m8 = am_st μ 144 (am_up (μ 144) 7 (μ 144 7 + 1)) → (am_in (x5 + 1)) ∧ (at_V kC 5 mX3_measure 140 [vR 144, vU, vI x2, vI x3, vI x4, vI (x5 + 1)] [] m8 Q))))))))) : at_V kC 5 mX3_measure 140 [vR 144, vU, vI x2, vI x3, vI x4, vI x5] [] μ Q := by
  refine s_iload dX3_measure_140 rfl ?_
  refine s_aload_n dX3_measure_142 rfl rfl ?_
  refine s_getI (x := (μ 144 5)) dX3_measure_143 flX3_48 kn144 kk144 rfl rfl ?_
  refine s_icmp_ge dX3_measure_146 (tgt := 215) (by decide) (fun cc => ?_) (fun cc => ?_)
  · have h := h.1 cc
    refine s_aload_n dX3_measure_215 rfl rfl ?_
    refine s_getI (x := (μ 144 5)) dX3_measure_216 flX3_48 kn144 kk144 rfl rfl ?_
    refine s_aload_n dX3_measure_219 rfl rfl ?_
    refine s_getI (x := (μ 144 6)) dX3_measure_220 flX3_44 kn144 kk144 rfl rfl ?_
    obtain ⟨c, h⟩ := h
    refine s_isub dX3_measure_223 (am_w_id c) ?_
    refine s_aload_n dX3_measure_224 rfl rfl ?_
    refine s_getI (x := (μ 144 7)) dX3_measure_225 flX3_54 kn144 kk144 rfl rfl ?_
    obtain ⟨c, h⟩ := h
    refine s_isub dX3_measure_228 (am_w_id c) ?_
    refine s_istore dX3_measure_229 (by decide) (L' := [vR 144, vU, vI x2, vI x3, vI x4, vI ((μ 144 5 - (μ 144 6)) - (μ 144 7))]) rfl ?_
    refine s_aload_n dX3_measure_231 rfl rfl ?_
    refine s_iload dX3_measure_232 rfl ?_
    obtain ⟨hsd, h⟩ := h
    have kj3 : ∀ (v1 : Int), (∀ m2 : am_M, m2 = am_st μ 144 (am_up (μ 144) 9 v1) → Q m2) → at_V kC 5 mX3_measure 245 [vU, vU, vU, vU, vU, vU] [vI v1, vR 144] μ Q := by
      intro v1 h
      obtain ⟨m2, hm2⟩ : ∃ x : am_M, x = am_st μ 144 (am_up (μ 144) 9 v1) := ⟨_, rfl⟩
      have h := h m2 hm2
      refine s_putI dX3_measure_245 flX3_57 kn144 kk144 rfl rfl (Or.inl rfl) hm2.symm ?_
      exact s_return dX3_measure_248 rfl ⟨⟨rfl, rfl⟩, rfl, h⟩
    refine s_if_le dX3_measure_234 (tgt := 244) (by decide) (fun cc => ?_) (fun cc => ?_)
    · have hp0 := cc
      refine s_iconst dX3_measure_244 (by decide) ?_
      exact am_lesS (kj3 0 (h 0 (by rw [if_neg (Int.not_lt.mpr hp0)]))) ⟨Or.inl rfl, Or.inl rfl, Or.inl rfl, Or.inl rfl, Or.inl rfl, Or.inl rfl, trivial⟩
    · have hp0 := cc
      have hsd := hsd hp0
      refine s_iload_n dX3_measure_237 rfl rfl ?_
      refine s_iload dX3_measure_238 rfl ?_
      obtain ⟨c, c2⟩ := hsd
      refine s_idivp dX3_measure_240 c c2 rfl ?_
      refine s_goto dX3_measure_241 (tgt := 245) (by decide) ?_
      exact am_lesS (kj3 (x3 / ((μ 144 5 - (μ 144 6)) - (μ 144 7))) (h (x3 / ((μ 144 5 - (μ 144 6)) - (μ 144 7))) (by rw [if_pos hp0]))) ⟨Or.inl rfl, Or.inl rfl, Or.inl rfl, Or.inl rfl, Or.inl rfl, Or.inl rfl, trivial⟩
  · have h := h.2 cc
    refine s_aload_n dX3_measure_149 rfl rfl ?_
    refine s_getR dX3_measure_150 flX3_9 kn144 kk144 rfl kr144_2 ?_
    refine s_iload dX3_measure_153 rfl ?_
    obtain ⟨c, c2, h⟩ := h
    refine s_iald (x := (μ 145 ((x5).toNat))) dX3_measure_155 kn145 kk145 kl145 c c2 rfl ?_
    refine s_iload_n dX3_measure_156 rfl rfl ?_
    refine s_icmp_lt dX3_measure_157 (tgt := 188) (by decide) (fun cc => ?_) (fun cc => ?_)
    · have h := h.1 cc
      refine s_aload_n dX3_measure_188 rfl rfl ?_
      refine s_getR dX3_measure_189 flX3_9 kn144 kk144 rfl kr144_2 ?_
      refine s_iload dX3_measure_192 rfl ?_
      obtain ⟨c, c2, h⟩ := h
      refine s_iald (x := (μ 145 ((x5).toNat))) dX3_measure_194 kn145 kk145 kl145 c c2 rfl ?_
      refine s_iload_n dX3_measure_195 rfl rfl ?_
      obtain ⟨hsd, h⟩ := h
      have kj5 : ∀ (v4 : Int), ((am_in (x5 + 1)) ∧ (at_V kC 5 mX3_measure 140 [vR 144, vU, vI x2, vI v4, vI x4, vI (x5 + 1)] [] μ Q)) → at_V kC 5 mX3_measure 209 [vR 144, vU, vI x2, vI v4, vI x4, vI x5] [] μ Q := by
        intro v4 h
        obtain ⟨c, h⟩ := h
        refine s_iinc dX3_measure_209 rfl (am_w_id c) (by decide) (L' := [vR 144, vU, vI x2, vI v4, vI x4, vI (x5 + 1)]) rfl ?_
        refine s_goto dX3_measure_212 (tgt := 140) (by decide) ?_
        exact h
      refine s_icmp_lt dX3_measure_196 (tgt := 209) (by decide) (fun cc => ?_) (fun cc => ?_)
      · have hp0 := cc
        exact kj5 x3 (h x3 (by rw [if_pos hp0]))
      · have hp0 := cc
        have hsd := hsd hp0
        refine s_iload_n dX3_measure_199 rfl rfl ?_
        refine s_aload_n dX3_measure_200 rfl rfl ?_
        refine s_getR dX3_measure_201 flX3_9 kn144 kk144 rfl kr144_2 ?_
        refine s_iload dX3_measure_204 rfl ?_
        obtain ⟨c, c2, hsd⟩ := hsd
        refine s_iald (x := (μ 145 ((x5).toNat))) dX3_measure_206 kn145 kk145 kl145 c c2 rfl ?_
        have c := hsd
        refine s_iadd dX3_measure_207 (am_w_id c) ?_
        refine s_istore_n dX3_measure_208 rfl (by decide) (L' := [vR 144, vU, vI x2, vI (x3 + (μ 145 ((x5).toNat))), vI x4, vI x5]) rfl ?_
        exact kj5 (x3 + (μ 145 ((x5).toNat))) (h (x3 + (μ 145 ((x5).toNat))) (by rw [if_neg (Int.not_lt.mpr hp0)]))
    · have h := h.2 cc
      refine s_bipush dX3_measure_160 (by decide) ?_
      refine s_aload_n dX3_measure_162 rfl rfl ?_
      refine s_getR dX3_measure_163 flX3_9 kn144 kk144 rfl kr144_2 ?_
      refine s_iload dX3_measure_166 rfl ?_
      obtain ⟨c, c2, h⟩ := h
      refine s_iald (x := (μ 145 ((x5).toNat))) dX3_measure_168 kn145 kk145 kl145 c c2 rfl ?_
      obtain ⟨c, h⟩ := h
      refine s_imul dX3_measure_169 (am_w_id c) ?_
      refine s_iload dX3_measure_170 rfl ?_
      refine s_icmp_ge dX3_measure_172 (tgt := 188) (by decide) (fun cc => ?_) (fun cc => ?_)
      · have h := h.1 cc
        refine s_aload_n dX3_measure_188 rfl rfl ?_
        refine s_getR dX3_measure_189 flX3_9 kn144 kk144 rfl kr144_2 ?_
        refine s_iload dX3_measure_192 rfl ?_
        obtain ⟨c, c2, h⟩ := h
        refine s_iald (x := (μ 145 ((x5).toNat))) dX3_measure_194 kn145 kk145 kl145 c c2 rfl ?_
        refine s_iload_n dX3_measure_195 rfl rfl ?_
        obtain ⟨hsd, h⟩ := h
        have kj7 : ∀ (v6 : Int), ((am_in (x5 + 1)) ∧ (at_V kC 5 mX3_measure 140 [vR 144, vU, vI x2, vI v6, vI x4, vI (x5 + 1)] [] μ Q)) → at_V kC 5 mX3_measure 209 [vR 144, vU, vI x2, vI v6, vI x4, vI x5] [] μ Q := by
          intro v6 h
          obtain ⟨c, h⟩ := h
          refine s_iinc dX3_measure_209 rfl (am_w_id c) (by decide) (L' := [vR 144, vU, vI x2, vI v6, vI x4, vI (x5 + 1)]) rfl ?_
          refine s_goto dX3_measure_212 (tgt := 140) (by decide) ?_
          exact h
        refine s_icmp_lt dX3_measure_196 (tgt := 209) (by decide) (fun cc => ?_) (fun cc => ?_)
        · have hp0 := cc
          exact kj7 x3 (h x3 (by rw [if_pos hp0]))
        · have hp0 := cc
          have hsd := hsd hp0
          refine s_iload_n dX3_measure_199 rfl rfl ?_
          refine s_aload_n dX3_measure_200 rfl rfl ?_
          refine s_getR dX3_measure_201 flX3_9 kn144 kk144 rfl kr144_2 ?_
          refine s_iload dX3_measure_204 rfl ?_
          obtain ⟨c, c2, hsd⟩ := hsd
          refine s_iald (x := (μ 145 ((x5).toNat))) dX3_measure_206 kn145 kk145 kl145 c c2 rfl ?_
          have c := hsd
          refine s_iadd dX3_measure_207 (am_w_id c) ?_
          refine s_istore_n dX3_measure_208 rfl (by decide) (L' := [vR 144, vU, vI x2, vI (x3 + (μ 145 ((x5).toNat))), vI x4, vI x5]) rfl ?_
          exact kj7 (x3 + (μ 145 ((x5).toNat))) (h (x3 + (μ 145 ((x5).toNat))) (by rw [if_neg (Int.not_lt.mpr hp0)]))
      · have h := h.2 cc
        refine s_aload_n dX3_measure_175 rfl rfl ?_
        refine s_dup dX3_measure_176 ?_
        refine s_getI (x := (μ 144 7)) dX3_measure_177 flX3_54 kn144 kk144 rfl rfl ?_
        refine s_iconst dX3_measure_180 (by decide) ?_
        obtain ⟨c, h⟩ := h
        refine s_iadd dX3_measure_181 (am_w_id c) ?_
        obtain ⟨m8, hm8⟩ : ∃ x : am_M, x = am_st μ 144 (am_up (μ 144) 7 (μ 144 7 + 1)) := ⟨_, rfl⟩
        have h := h m8 hm8
        refine s_putI dX3_measure_182 flX3_54 kn144 kk144 rfl rfl (Or.inl rfl) hm8.symm ?_
        refine s_goto dX3_measure_185 (tgt := 209) (by decide) ?_
        obtain ⟨c, h⟩ := h
        refine s_iinc dX3_measure_209 rfl (am_w_id c) (by decide) (L' := [vR 144, vU, vI x2, vI x3, vI x4, vI (x5 + 1)]) rfl ?_
        refine s_goto dX3_measure_212 (tgt := 140) (by decide) ?_
        exact h
theorem ve_X3_measure {x1 : Int} {μ : am_M} {Q : am_M → Prop} (h : at_V kC 5 mX3_measure 0 [vR 144, vI x1, vU, vU, vU, vU] [] μ Q) : cl_V kC 5 mX3_measure [vR 144, vI x1] μ Q := am_intro pmX3_measure (Nat.le_of_ble_eq_true rfl) rfl h
theorem lp2_X3_measure {μ : am_M} {ms : Int} (hV : vC μ) (hm : in_ 0 401 ms) : ∀ (j : Nat) (s k : Int) (m : am_M), k + j = winC μ → 0 ≤ k → fr_ [144, 145] μ m → m 144 5 = winC μ → m 144 6 = lq_ (lvC μ ms) (winC μ) (gtC μ) → m 144 8 = lm_ (lvC μ ms) (winC μ) (gtC μ) → (∀ k, 0 ≤ k → k < winC μ → m 145 k.toNat = lvC μ ms k) → m 144 7 = cnt_ (fun k => decide (gtC μ ≤ lvC μ ms k ∧ 100 * lvC μ ms k < lm_ (lvC μ ms) (winC μ) (gtC μ) * μ 2 3)) (fun _ => 1) k → s = cnt_ (fun k => decide (gtC μ ≤ lvC μ ms k ∧ lm_ (lvC μ ms) (winC μ) (gtC μ) * μ 2 3 ≤ 100 * lvC μ ms k)) (lvC μ ms) k → at_V kC 5 mX3_measure 140 [vR 144, vU, vI (gtC μ), vI s, vI (lm_ (lvC μ ms) (winC μ) (gtC μ) * μ 2 3), vI k] [] m (fun m => fr_ [144, 145] μ m ∧ me_ μ m ms) := by
  have hw := hV.hE.2.1
  have lb := la_b6 hV
  have w1 : in_ 0 151 (winC μ) := (win_b lb hw).1
  have Lb : ∀ k, 0 ≤ k → k < winC μ → 0 ≤ lvC μ ms k ∧ lvC μ ms k ≤ 998001 := fun k h0 h1 => lvl_b (fun f => su4_b hV f) hm hw lb ⟨h0, h1⟩
  have qn := cnt_le (p := fun k => decide (lvC μ ms k < gtC μ)) (n := winC μ) w1.1
  intro j
  induction j with
  | zero =>
    intro s k m hk h0 hf h5 h6 h8 hl h7 hs
    have ek : k = winC μ := by omega
    subst ek
    have sb := cnt_m (p := fun k => decide (gtC μ ≤ lvC μ ms k ∧ lm_ (lvC μ ms) (winC μ) (gtC μ) * μ 2 3 ≤ 100 * lvC μ ms k)) h0 (by omega) Lb
    have lq7 := cnt_le (p := fun k => decide (gtC μ ≤ lvC μ ms k ∧ 100 * lvC μ ms k < lm_ (lvC μ ms) (winC μ) (gtC μ) * μ 2 3)) (n := winC μ) h0
    rw [← hs] at sb
    rw [← h7] at lq7
    have e6 : m 144 6 = cnt_ (fun k => decide (lvC μ ms k < gtC μ)) (fun _ => 1) (winC μ) := h6
    refine vc_X3_measure_140 ⟨fun _ => ⟨by rw [h5, e6]; ((try unfold am_in); (try unfold in_ at *); omega), by rw [h5, e6]; ((try unfold am_in); (try unfold in_ at *); omega), fun q => ⟨sb.1, q⟩, fun v ev m2 e2 => ⟨by rw [e2]; exact fr_tr hf (fr_st (by simp)), ?_⟩⟩, fun q => by omega⟩
    have u : ∀ i, i ≠ 9 → m2 144 i = m 144 i := fun i hi => by rw [e2, st_s, up_n hi]
    refine ⟨by rw [u 5 (by decide), h5], by rw [u 6 (by decide), h6], by rw [u 7 (by decide), h7]; rfl, by rw [u 8 (by decide), h8], ?_, fun k k0 k1 => by rw [e2, st_n (by decide)]; exact hl k k0 k1⟩
    rw [e2, st_s, up_s, ev, h5, h6, h7, hs]
    rfl
  | succ j ih =>
    intro s k m hk h0 hf h5 h6 h8 hl h7 hs
    have lk := Lb k h0 (by omega)
    have el := hl k h0 (by omega)
    have sb := cnt_m (p := fun k => decide (gtC μ ≤ lvC μ ms k ∧ lm_ (lvC μ ms) (winC μ) (gtC μ) * μ 2 3 ≤ 100 * lvC μ ms k)) (v := lvC μ ms) (n := k) (B := 998001) h0 (by omega) (fun i i0 i1 => Lb i i0 (by omega))
    have sc := cnt_le (p := fun k => decide (gtC μ ≤ lvC μ ms k ∧ lm_ (lvC μ ms) (winC μ) (gtC μ) * μ 2 3 ≤ 100 * lvC μ ms k)) (n := k) h0
    have lq7 := cnt_le (p := fun k => decide (gtC μ ≤ lvC μ ms k ∧ 100 * lvC μ ms k < lm_ (lvC μ ms) (winC μ) (gtC μ) * μ 2 3)) (n := k) h0
    rw [← hs] at sb
    rw [← h7] at lq7
    have c7 := cnt_s (p := fun k => decide (gtC μ ≤ lvC μ ms k ∧ 100 * lvC μ ms k < lm_ (lvC μ ms) (winC μ) (gtC μ) * μ 2 3)) (v := fun _ => 1) h0
    have cs := cnt_s (p := fun k => decide (gtC μ ≤ lvC μ ms k ∧ lm_ (lvC μ ms) (winC μ) (gtC μ) * μ 2 3 ≤ 100 * lvC μ ms k)) (v := lvC μ ms) h0
    rw [← h7] at c7
    rw [← hs] at cs
    refine vc_X3_measure_140 ⟨fun q => by omega, fun q => ⟨h0, by ((try unfold am_in); (try unfold in_ at *); omega), fun c => ⟨h0, by ((try unfold am_in); (try unfold in_ at *); omega), fun c2 => by omega, fun v ev => ⟨(by (try unfold am_in); (try unfold in_ at *); omega), ih v (k + 1) m (by omega) (by omega) hf h5 h6 h8 hl ?_ ?_⟩⟩, fun c => ⟨h0, by ((try unfold am_in); (try unfold in_ at *); omega), by rw [el]; ((try unfold am_in); (try unfold in_ at *); omega), fun c2 => ⟨h0, by ((try unfold am_in); (try unfold in_ at *); omega), fun _ => ⟨h0, by ((try unfold am_in); (try unfold in_ at *); omega), by rw [el]; ((try unfold am_in); (try unfold in_ at *); omega)⟩, fun v ev => ⟨(by (try unfold am_in); (try unfold in_ at *); omega), ih v (k + 1) m (by omega) (by omega) hf h5 h6 h8 hl ?_ ?_⟩⟩, fun c2 => ⟨(by (try unfold am_in); (try unfold in_ at *); omega), fun m8 e8 => ⟨(by (try unfold am_in); (try unfold in_ at *); omega), ih s (k + 1) m8 (by omega) (by omega) ?_ ?_ ?_ ?_ ?_ ?_ ?_⟩⟩⟩⟩⟩
    · rw [el] at c
      rw [c7, if_neg (by simp; omega)]; omega
    · rw [el] at c
      rw [cs, if_neg (by simp; omega), ev, if_pos (by rw [el]; exact c)]; omega
    · rw [el] at c c2
      rw [c7, if_neg (by simp; omega)]; omega
    · rw [el] at c c2
      rw [cs, if_pos (by simp; omega), ev, if_neg (by rw [el]; omega), el]
    · rw [e8]; exact fr_tr hf (fr_st (by simp))
    · rw [e8, st_s, up_n (by decide), h5]
    · rw [e8, st_s, up_n (by decide), h6]
    · rw [e8, st_s, up_n (by decide), h8]
    · intro i i0 i1
      rw [e8, st_n (by decide)]
      exact hl i i0 i1
    · rw [el] at c c2
      rw [e8, st_s, up_s, c7, if_pos (by simp; omega)]
    · rw [el] at c c2
      rw [cs, if_neg (by simp; omega)]; omega
theorem lp1_X3_measure {μ : am_M} {ms : Int} (hV : vC μ) (hm : in_ 0 401 ms) : ∀ (j : Nat) (s k : Int) (m : am_M), k + j = winC μ → 0 ≤ k → fr_ [144, 145] μ m → m 144 5 = winC μ → m 144 6 = cnt_ (fun k => decide (lvC μ ms k < gtC μ)) (fun _ => 1) k → (∀ k, 0 ≤ k → k < winC μ → m 145 k.toNat = lvC μ ms k) → s = cnt_ (fun k => decide (gtC μ ≤ lvC μ ms k)) (lvC μ ms) k → at_V kC 5 mX3_measure 35 [vR 144, vU, vI (gtC μ), vI s, vI k, vU] [] m (fun m => fr_ [144, 145] μ m ∧ me_ μ m ms) := by
  have hw := hV.hE.2.1
  have h3 := hV.hE.2.2.2.1
  have lb := la_b6 hV
  have w1 : in_ 0 151 (winC μ) := (win_b lb hw).1
  have Lb : ∀ k, 0 ≤ k → k < winC μ → 0 ≤ lvC μ ms k ∧ lvC μ ms k ≤ 998001 := fun k h0 h1 => lvl_b (fun f => su4_b hV f) hm hw lb ⟨h0, h1⟩
  have mb := lm_b (L := lvC μ ms) (gt := gtC μ) w1.1 Lb
  have mm := mulb (x := lm_ (lvC μ ms) (winC μ) (gtC μ)) (y := μ 2 3) (A := 998001) (B := 100) mb.1 mb.2 h3.1 (by ((try unfold am_in); (try unfold in_ at *); omega))
  intro j
  induction j with
  | zero =>
    intro s k m hk h0 hf h5 h6 hl hs
    have ek : k = winC μ := by omega
    subst ek
    have sb := cnt_m (p := fun k => decide (gtC μ ≤ lvC μ ms k)) h0 (by omega) Lb
    rw [← hs] at sb
    have q6 := cnt_le (p := fun k => decide (lvC μ ms k < gtC μ)) (n := winC μ) h0
    rw [← h6] at q6
    refine vc_X3_measure_35 ⟨fun _ => ⟨fun q => ⟨by rw [h5]; ((try unfold am_in); (try unfold in_ at *); omega), sb.1, by omega⟩, fun v ev m2 e2 => ?_⟩, fun q => by omega⟩
    have ev2 : v = lm_ (lvC μ ms) (winC μ) (gtC μ) := by
      rw [ev, h5, h6, hs]
      rfl
    rw [ev2] at e2 ⊢
    rw [show m 2 3 = μ 2 3 by rw [hf 2 (by decide)]]
    refine ⟨(by (try unfold am_in); (try unfold in_ at *); omega), fun m3 e3 => ?_⟩
    have u : ∀ i, i ≠ 7 → i ≠ 8 → m3 144 i = m 144 i := fun i a b => by rw [e3, st_s, up_n a, e2, st_s, up_n b]
    refine lp2_X3_measure hV hm (winC μ).toNat 0 0 m3 (by omega) (by omega) (by rw [e3, e2]; exact fr_tr hf (fr_tr (fr_st (by simp)) (fr_st (by simp)))) (by rw [u 5 (by decide) (by decide), h5]) (by rw [u 6 (by decide) (by decide), h6]; rfl) (by rw [e3, st_s, up_n (by decide), e2, st_s, up_s]) (fun k k0 k1 => by rw [e3, st_n (by decide), e2, st_n (by decide)]; exact hl k k0 k1) (by rw [e3, st_s, up_s]; rfl) rfl
  | succ j ih =>
    intro s k m hk h0 hf h5 h6 hl hs
    have lk := Lb k h0 (by omega)
    have el := hl k h0 (by omega)
    have sb := cnt_m (p := fun k => decide (gtC μ ≤ lvC μ ms k)) (v := lvC μ ms) (n := k) (B := 998001) h0 (by omega) (fun i i0 i1 => Lb i i0 (by omega))
    have sc := cnt_le (p := fun k => decide (gtC μ ≤ lvC μ ms k)) (n := k) h0
    have q6 := cnt_le (p := fun k => decide (lvC μ ms k < gtC μ)) (n := k) h0
    rw [← hs] at sb
    rw [← h6] at q6
    have c6 := cnt_s (p := fun k => decide (lvC μ ms k < gtC μ)) (v := fun _ => 1) h0
    have cs := cnt_s (p := fun k => decide (gtC μ ≤ lvC μ ms k)) (v := lvC μ ms) h0
    rw [← h6] at c6
    rw [← hs] at cs
    refine vc_X3_measure_35 ⟨fun q => by omega, fun q => ⟨h0, by ((try unfold am_in); (try unfold in_ at *); omega), fun c => ⟨h0, by ((try unfold am_in); (try unfold in_ at *); omega), by rw [el]; ((try unfold am_in); (try unfold in_ at *); omega), (by (try unfold am_in); (try unfold in_ at *); omega), ih _ (k + 1) m (by omega) (by omega) hf h5 ?_ hl ?_⟩, fun c => ⟨(by (try unfold am_in); (try unfold in_ at *); omega), fun m5 e5 => ⟨(by (try unfold am_in); (try unfold in_ at *); omega), ih s (k + 1) m5 (by omega) (by omega) ?_ ?_ ?_ ?_ ?_⟩⟩⟩⟩
    · rw [el] at c
      rw [c6, if_neg (by simp; omega)]; omega
    · rw [el] at c ⊢
      rw [cs, if_pos (by simp; omega)]
    · rw [e5]; exact fr_tr hf (fr_st (by simp))
    · rw [e5, st_s, up_n (by decide), h5]
    · rw [el] at c
      rw [e5, st_s, up_s, c6, if_pos (by simp; omega)]
    · intro i i0 i1
      rw [e5, st_n (by decide)]
      exact hl i i0 i1
    · rw [el] at c
      rw [cs, if_neg (by simp; omega)]; omega
theorem sp_X3_measure {μ : am_M} {ms : Int} (hV : vC μ) (hs : sk_ μ (fun f => suC μ f 4)) (hm : in_ 0 401 ms) : cl_V kC 5 mX3_measure [vR 144, vI ms] μ (fun m => fr_ [144, 145] μ m ∧ me_ μ m ms) := by
  have w1 : in_ 0 151 (winC μ) := (win_b (la_b6 hV) hV.hE.2.1).1
  have h2 := hV.hE.2.2.1
  have g2 := mulb (x := μ 2 2) (y := μ 2 2) (A := 999) (B := 999) h2.1 (by ((try unfold am_in); (try unfold in_ at *); omega)) h2.1 (by ((try unfold am_in); (try unfold in_ at *); omega))
  refine ve_X3_measure (vc_X3_measure_0 ⟨_, sp_X3_fillLevels hV hs hm, fun m2 ⟨k1, k2, k3⟩ => ?_⟩)
  rw [show m2 2 2 = μ 2 2 by rw [k1 2 (by decide)]]
  refine ⟨(by (try unfold am_in); (try unfold in_ at *); omega), fun m3 e3 => ?_⟩
  refine lp1_X3_measure hV hm (winC μ).toNat 0 0 m3 (by have := w1.1; omega) (by omega) (by rw [e3]; exact fr_tr k1 (fr_st (by simp))) (by rw [e3, st_s, up_n (by decide), k2, up_s]) (by rw [e3, st_s, up_s]; rfl) (fun k k0 k1 => by rw [e3, st_n (by decide)]; exact k3 k k0 k1) rfl

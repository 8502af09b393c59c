/-! the class's loudness: windows and their levels -/
theorem vc_X3_window_0 {μ : am_M} {Q : Int → am_M → Prop} (h : Q (if 4 < μ 2 1 then μ 2 1 else 4) μ) : at_I kC 1 mX3_window 0 [vR 144] [] μ Q := by
  refine s_iconst dX3_window_0 (by decide) ?_
  refine s_aload_n dX3_window_1 rfl rfl ?_
  refine s_getR dX3_window_2 flX3_21 kn144 kk144 rfl kr144_0 ?_
  refine s_getR dX3_window_5 flX3_29 kn1 kk1 rfl kr1_0 ?_
  refine s_iconst dX3_window_8 (by decide) ?_
  refine s_iald (x := (μ 2 1)) dX3_window_9 kn2 kk2 kl2 (by decide) (by decide) rfl ?_
  refine s_max dX3_window_10 wmX3_34 (Nat.le_of_ble_eq_true rfl) (by decide) rfl ?_
  exact s_ireturn dX3_window_13 (Or.inl rfl) ⟨⟨rfl, rfl⟩, _, rfl, h⟩
theorem ve_X3_window {μ : am_M} {Q : Int → am_M → Prop} (h : at_I kC 1 mX3_window 0 [vR 144] [] μ Q) : cl_I kC 1 mX3_window [vR 144] μ Q := am_intro pmX3_window (Nat.le_of_ble_eq_true rfl) rfl h
theorem sp_X3_window {μ : am_M} {Q : Int → am_M → Prop} (hE : ok_E (μ 2)) (hQ : Q (μ 2 1) μ) : cl_I kC 1 mX3_window [vR 144] μ Q := by
  have h := hE.2.1
  refine ve_X3_window (vc_X3_window_0 ?_)
  rw [show (if 4 < μ 2 1 then μ 2 1 else 4) = μ 2 1 by unfold in_ at h; split <;> omega]
  exact hQ
def win_ (la w : Int) : Int := (la + w - 1) / w
theorem win_b {la w : Int} (h0 : in_ 0 601 la) (h1 : in_ 4 51 w) : in_ 0 151 (win_ la w) ∧ ∀ k, 0 ≤ k → k < win_ la w → 0 ≤ k * w ∧ k * w < la ∧ (k + 1) * w = k * w + w := by
  unfold in_ win_ at *
  refine ⟨⟨Int.ediv_nonneg (by omega) (by omega), Int.ediv_lt_of_lt_mul (by omega) (by omega)⟩, fun k k0 k1 => ⟨Int.mul_nonneg k0 (by omega), ?_, by rw [Int.add_mul]; omega⟩⟩
  have h2 : (la + w - 1) / w * w ≤ la + w - 1 := Int.ediv_mul_le _ (by omega)
  have h3 : (k + 1) * w ≤ (la + w - 1) / w * w := Int.mul_le_mul_of_nonneg_right (by omega) (by omega)
  rw [Int.add_mul] at h3
  omega
def sq_ (F : Int → Int) (ms f : Int) : Int := mi_ (F f) ms * mi_ (F f) ms
/-- the level of a window -/
def lvl_ (F : Int → Int) (ms w k : Int) : Int := sm_ (fun i => sq_ F ms (k * w + i)) ((if (k + 1) * w < 600 then (k + 1) * w else 600) - k * w) / w
theorem vc_X3_fillLevels_0 {x1 : Int} {μ : am_M} {Q : am_M → Prop} (h : (ok_E (μ 2)) ∧ ((ok_T (cg μ) (μ 5 1)) ∧ ((am_in ((la_ (cg μ) (μ 5 1)) + (μ 2 1))) ∧ ((am_in (((la_ (cg μ) (μ 5 1)) + (μ 2 1)) - 1)) ∧ ((0 ≤ ((la_ (cg μ) (μ 5 1)) + (μ 2 1)) - 1) ∧ (0 < μ 2 1) ∧ (∀ m1 : am_M, m1 = am_st μ 144 (am_up (μ 144) 5 ((((la_ (cg μ) (μ 5 1)) + (μ 2 1)) - 1) / (μ 2 1))) → at_V kC 4 mX3_fillLevels 27 [vR 144, vI x1, vI (μ 2 1), vI 0, vU, vU, vU, vU] [] m1 Q)))))) : at_V kC 4 mX3_fillLevels 0 [vR 144, vI x1, vU, vU, vU, vU, vU, vU] [] μ Q := by
  refine s_aload_n dX3_fillLevels_0 rfl rfl ?_
  obtain ⟨p0, h⟩ := h
  refine s_callV (As := []) (rest := []) (k := 144) dX3_fillLevels_1 lkX3_60 kn144 ⟨by rw [kk144]; rfl, by rw [kk144]; decide⟩ lmX3_window rfl rfl (Nat.le_of_ble_eq_true rfl) (by decide) (Nat.le_refl 0) (Nat.le_refl 0) (hC := sp_X3_window (Q := fun z m => μ 2 1 = z ∧ μ = m) p0 ⟨rfl, rfl⟩) (fun r n2 S2 m2 hP => ?_)
  obtain ⟨⟨rfl, rfl⟩, z, rfl, rfl, rfl⟩ := hP
  refine s_istore_n dX3_fillLevels_4 rfl (by decide) (L' := [vR 144, vI x1, vI (μ 2 1), vU, vU, vU, vU, vU]) rfl ?_
  refine s_aload_n dX3_fillLevels_5 rfl rfl ?_
  refine s_aload_n dX3_fillLevels_6 rfl rfl ?_
  refine s_getR dX3_fillLevels_7 flX3_21 kn144 kk144 rfl kr144_0 ?_
  refine s_getR dX3_fillLevels_10 flX3_64 kn1 kk1 rfl kr1_3 ?_
  obtain ⟨p0, h⟩ := h
  refine s_callV (As := []) (rest := [vR 144]) (k := 5) dX3_fillLevels_13 lkX3_68 kn5 ⟨by rw [kk5]; rfl, by rw [kk5]; decide⟩ lmX1_lastEnd rfl rfl (Nat.le_of_ble_eq_true rfl) (by decide) (Nat.le_refl 0) (Nat.le_refl 0) (hC := sp_X1_lastEnd (Q := fun z m => la_ (cg μ) (μ 5 1) = z ∧ μ = m) p0 ⟨rfl, rfl⟩) (fun r n2 S2 m2 hP => ?_)
  obtain ⟨⟨rfl, rfl⟩, z, rfl, rfl, rfl⟩ := hP
  refine s_iload_n dX3_fillLevels_16 rfl rfl ?_
  obtain ⟨c, h⟩ := h
  refine s_iadd dX3_fillLevels_17 (am_w_id c) ?_
  refine s_iconst dX3_fillLevels_18 (by decide) ?_
  obtain ⟨c, h⟩ := h
  refine s_isub dX3_fillLevels_19 (am_w_id c) ?_
  refine s_iload_n dX3_fillLevels_20 rfl rfl ?_
  obtain ⟨c, c2, h⟩ := h
  refine s_idivp dX3_fillLevels_21 c c2 rfl ?_
  obtain ⟨m1, hm1⟩ : ∃ x : am_M, x = am_st μ 144 (am_up (μ 144) 5 ((((la_ (cg μ) (μ 5 1)) + (μ 2 1)) - 1) / (μ 2 1))) := ⟨_, rfl⟩
  have h := h m1 hm1
  refine s_putI dX3_fillLevels_22 flX3_48 kn144 kk144 rfl rfl (Or.inl rfl) hm1.symm ?_
  refine s_iconst dX3_fillLevels_25 (by decide) ?_
  refine s_istore_n dX3_fillLevels_26 rfl (by decide) (L' := [vR 144, vI x1, vI (μ 2 1), vI 0, vU, vU, vU, vU]) rfl ?_
  exact h
theorem vc_X3_fillLevels_27 {x1 x2 x3 : Int} {μ : am_M} {Q : am_M → Prop} (h : (μ 144 5 ≤ x3 → Q μ) ∧ (x3 < μ 144 5 → (am_in (x3 + 1)) ∧ ((am_in ((x3 + 1) * x2)) ∧ ((am_in (x3 * x2)) ∧ (at_V kC 4 mX3_fillLevels 56 [vR 144, vI x1, vI x2, vI x3, vI (if (x3 + 1) * x2 < 600 then (x3 + 1) * x2 else 600), vI 0, vI (x3 * x2), vU] [] μ Q))))) : at_V kC 4 mX3_fillLevels 27 [vR 144, vI x1, vI x2, vI x3, vU, vU, vU, vU] [] μ Q := by
  refine s_iload_n dX3_fillLevels_27 rfl rfl ?_
  refine s_aload_n dX3_fillLevels_28 rfl rfl ?_
  refine s_getI (x := (μ 144 5)) dX3_fillLevels_29 flX3_48 kn144 kk144 rfl rfl ?_
  refine s_icmp_ge dX3_fillLevels_32 (tgt := 118) (by decide) (fun cc => ?_) (fun cc => ?_)
  · have h := h.1 cc
    exact s_return dX3_fillLevels_118 rfl ⟨⟨rfl, rfl⟩, rfl, h⟩
  · have h := h.2 cc
    refine s_sipush dX3_fillLevels_35 (by decide) ?_
    refine s_iload_n dX3_fillLevels_38 rfl rfl ?_
    refine s_iconst dX3_fillLevels_39 (by decide) ?_
    obtain ⟨c, h⟩ := h
    refine s_iadd dX3_fillLevels_40 (am_w_id c) ?_
    refine s_iload_n dX3_fillLevels_41 rfl rfl ?_
    obtain ⟨c, h⟩ := h
    refine s_imul dX3_fillLevels_42 (am_w_id c) ?_
    refine s_min dX3_fillLevels_43 wmX3_73 (Nat.le_of_ble_eq_true rfl) (by decide) rfl ?_
    refine s_istore dX3_fillLevels_46 (by decide) (L' := [vR 144, vI x1, vI x2, vI x3, vI (if (x3 + 1) * x2 < 600 then (x3 + 1) * x2 else 600), vU, vU, vU]) rfl ?_
    refine s_iconst dX3_fillLevels_48 (by decide) ?_
    refine s_istore dX3_fillLevels_49 (by decide) (L' := [vR 144, vI x1, vI x2, vI x3, vI (if (x3 + 1) * x2 < 600 then (x3 + 1) * x2 else 600), vI 0, vU, vU]) rfl ?_
    refine s_iload_n dX3_fillLevels_51 rfl rfl ?_
    refine s_iload_n dX3_fillLevels_52 rfl rfl ?_
    obtain ⟨c, h⟩ := h
    refine s_imul dX3_fillLevels_53 (am_w_id c) ?_
    refine s_istore dX3_fillLevels_54 (by decide) (L' := [vR 144, vI x1, vI x2, vI x3, vI (if (x3 + 1) * x2 < 600 then (x3 + 1) * x2 else 600), vI 0, vI (x3 * x2), vU]) rfl ?_
    exact h
theorem vc_X3_fillLevels_56 {x1 x2 x3 x4 x5 x6 : Int} {μ : am_M} {Q : am_M → Prop} (h : (x4 ≤ x6 → (0 ≤ x5) ∧ (0 < x2) ∧ ((0 ≤ x3) ∧ (x3 < 150) ∧ (∀ m1 : am_M, m1 = am_st μ 145 (am_up (μ 145) (x3).toNat (x5 / x2)) → (am_in (x3 + 1)) ∧ (at_V kC 4 mX3_fillLevels 27 [vR 144, vI x1, vI x2, vI (x3 + 1), vU, vU, vU, vU] [] m1 Q)))) ∧ (x6 < x4 → (0 ≤ x6) ∧ (x6 < 600) ∧ ((am_in ((μ 143 ((x6).toNat)) * x1)) ∧ ((0 ≤ (μ 143 ((x6).toNat)) * x1) ∧ ((am_in ((if ((μ 143 ((x6).toNat)) * x1) / 100 < 999 then ((μ 143 ((x6).toNat)) * x1) / 100 else 999) * (if ((μ 143 ((x6).toNat)) * x1) / 100 < 999 then ((μ 143 ((x6).toNat)) * x1) / 100 else 999))) ∧ ((am_in (x5 + ((if ((μ 143 ((x6).toNat)) * x1) / 100 < 999 then ((μ 143 ((x6).toNat)) * x1) / 100 else 999) * (if ((μ 143 ((x6).toNat)) * x1) / 100 < 999 then ((μ 143 ((x6).toNat)) * x1) / 100 else 999)))) ∧ ((am_in (x6 + 1)) ∧ (at_V kC 4 mX3_fillLevels 56 [vR 144, vI x1, vI x2, vI x3, vI x4, vI (x5 + ((if ((μ 143 ((x6).toNat)) * x1) / 100 < 999 then ((μ 143 ((x6).toNat)) * x1) / 100 else 999) * (if ((μ 143 ((x6).toNat)) * x1) / 100 < 999 then ((μ 143 ((x6).toNat)) * x1) / 100 else 999))), vI (x6 + 1), vU] [] μ Q)))))))) : at_V kC 4 mX3_fillLevels 56 [vR 144, vI x1, vI x2, vI x3, vI x4, vI x5, vI x6, vU] [] μ Q := by
  refine s_iload dX3_fillLevels_56 rfl ?_
  refine s_iload dX3_fillLevels_58 rfl ?_
  refine s_icmp_ge dX3_fillLevels_60 (tgt := 102) (by decide) (fun cc => ?_) (fun cc => ?_)
  · have h := h.1 cc
    refine s_aload_n dX3_fillLevels_102 rfl rfl ?_
    refine s_getR dX3_fillLevels_103 flX3_9 kn144 kk144 rfl kr144_2 ?_
    refine s_iload_n dX3_fillLevels_106 rfl rfl ?_
    refine s_iload dX3_fillLevels_107 rfl ?_
    refine s_iload_n dX3_fillLevels_109 rfl rfl ?_
    obtain ⟨c, c2, h⟩ := h
    refine s_idivp dX3_fillLevels_110 c c2 rfl ?_
    obtain ⟨c, c2, h⟩ := h
    obtain ⟨m1, hm1⟩ : ∃ x : am_M, x = am_st μ 145 (am_up (μ 145) (x3).toNat (x5 / x2)) := ⟨_, rfl⟩
    have h := h m1 hm1
    refine s_iast dX3_fillLevels_111 kn145 kk145 kl145 c c2 hm1.symm ?_
    obtain ⟨c, h⟩ := h
    refine s_iinc dX3_fillLevels_112 rfl (am_w_id c) (by decide) (L' := [vR 144, vI x1, vI x2, vI (x3 + 1), vI x4, vI x5, vI x6, vU]) rfl ?_
    refine s_goto dX3_fillLevels_115 (tgt := 27) (by decide) ?_
    exact am_lesS h ⟨Or.inr rfl, Or.inr rfl, Or.inr rfl, Or.inr rfl, Or.inl rfl, Or.inl rfl, Or.inl rfl, Or.inl rfl, trivial⟩
  · have h := h.2 cc
    refine s_sipush dX3_fillLevels_63 (by decide) ?_
    refine s_aload_n dX3_fillLevels_66 rfl rfl ?_
    refine s_getR dX3_fillLevels_67 flX3_25 kn144 kk144 rfl kr144_1 ?_
    refine s_getR dX3_fillLevels_70 flX3_76 kn129 kk129 rfl kr129_4 ?_
    refine s_iload dX3_fillLevels_73 rfl ?_
    obtain ⟨c, c2, h⟩ := h
    refine s_iald (x := (μ 143 ((x6).toNat))) dX3_fillLevels_75 kn143 kk143 kl143 c c2 rfl ?_
    refine s_iload_n dX3_fillLevels_76 rfl rfl ?_
    obtain ⟨c, h⟩ := h
    refine s_imul dX3_fillLevels_77 (am_w_id c) ?_
    refine s_bipush dX3_fillLevels_78 (by decide) ?_
    obtain ⟨c, h⟩ := h
    refine s_idivp dX3_fillLevels_80 c (by decide) rfl ?_
    refine s_min dX3_fillLevels_81 wmX3_73 (Nat.le_of_ble_eq_true rfl) (by decide) rfl ?_
    refine s_istore dX3_fillLevels_84 (by decide) (L' := [vR 144, vI x1, vI x2, vI x3, vI x4, vI x5, vI x6, vI (if ((μ 143 ((x6).toNat)) * x1) / 100 < 999 then ((μ 143 ((x6).toNat)) * x1) / 100 else 999)]) rfl ?_
    refine s_iload dX3_fillLevels_86 rfl ?_
    refine s_iload dX3_fillLevels_88 rfl ?_
    refine s_iload dX3_fillLevels_90 rfl ?_
    obtain ⟨c, h⟩ := h
    refine s_imul dX3_fillLevels_92 (am_w_id c) ?_
    obtain ⟨c, h⟩ := h
    refine s_iadd dX3_fillLevels_93 (am_w_id c) ?_
    refine s_istore dX3_fillLevels_94 (by decide) (L' := [vR 144, vI x1, vI x2, vI x3, vI x4, vI (x5 + ((if ((μ 143 ((x6).toNat)) * x1) / 100 < 999 then ((μ 143 ((x6).toNat)) * x1) / 100 else 999) * (if ((μ 143 ((x6).toNat)) * x1) / 100 < 999 then ((μ 143 ((x6).toNat)) * x1) / 100 else 999))), vI x6, vI (if ((μ 143 ((x6).toNat)) * x1) / 100 < 999 then ((μ 143 ((x6).toNat)) * x1) / 100 else 999)]) rfl ?_
    obtain ⟨c, h⟩ := h
    refine s_iinc dX3_fillLevels_96 rfl (am_w_id c) (by decide) (L' := [vR 144, vI x1, vI x2, vI x3, vI x4, vI (x5 + ((if ((μ 143 ((x6).toNat)) * x1) / 100 < 999 then ((μ 143 ((x6).toNat)) * x1) / 100 else 999) * (if ((μ 143 ((x6).toNat)) * x1) / 100 < 999 then ((μ 143 ((x6).toNat)) * x1) / 100 else 999))), vI (x6 + 1), vI (if ((μ 143 ((x6).toNat)) * x1) / 100 < 999 then ((μ 143 ((x6).toNat)) * x1) / 100 else 999)]) rfl ?_
    refine s_goto dX3_fillLevels_99 (tgt := 56) (by decide) ?_
    exact am_lesS h ⟨Or.inr rfl, Or.inr rfl, Or.inr rfl, Or.inr rfl, Or.inr rfl, Or.inr rfl, Or.inr rfl, Or.inl rfl, trivial⟩
theorem ve_X3_fillLevels {x1 : Int} {μ : am_M} {Q : am_M → Prop} (h : at_V kC 4 mX3_fillLevels 0 [vR 144, vI x1, vU, vU, vU, vU, vU, vU] [] μ Q) : cl_V kC 4 mX3_fillLevels [vR 144, vI x1] μ Q := am_intro pmX3_fillLevels (Nat.le_of_ble_eq_true rfl) rfl h
theorem sq_b {F : Int → Int} {ms f : Int} (h0 : in_ 0 8000 (F f)) (h1 : in_ 0 401 ms) : 0 ≤ sq_ F ms f ∧ sq_ F ms f ≤ 998001 := by
  have b := (mi_b h0 h1).2
  unfold in_ at b
  exact mulb (A := 999) (B := 999) (by omega) (by omega) (by omega) (by omega)
theorem lp2_X3_fillLevels {μ0 : am_M} {ms k : Int} (hV : vC μ0) (hs : sk_ μ0 (fun f => suC μ0 f 4)) (hm : in_ 0 401 ms) (hk0 : 0 ≤ k) (hk : k < win_ (la_ (cg μ0) (μ0 5 1)) (μ0 2 1)) {μ : am_M} (hf : fr_ [144, 145] μ0 μ) {Q : am_M → Prop} (hQ : at_V kC 4 mX3_fillLevels 27 [vR 144, vI ms, vI (μ0 2 1), vI (k + 1), vU, vU, vU, vU] [] (am_st μ 145 (am_up (μ 145) k.toNat (lvl_ (fun f => suC μ0 f 4) ms (μ0 2 1) k))) Q) : ∀ (j : Nat) (s x b : Int), b = (if (k + 1) * (μ0 2 1) < 600 then (k + 1) * (μ0 2 1) else 600) → x + j = b → k * (μ0 2 1) ≤ x → s = sm_ (fun i => sq_ (fun f => suC μ0 f 4) ms (k * (μ0 2 1) + i)) (x - k * (μ0 2 1)) → at_V kC 4 mX3_fillLevels 56 [vR 144, vI ms, vI (μ0 2 1), vI k, vI b, vI s, vI x, vU] [] μ Q := by
  have hw := hV.hE.2.1
  have wb := win_b (la_b6 hV) hw
  have kb := wb.2 k hk0 hk
  have w1 := wb.1
  have e143 : ∀ f, in_ 0 600 f → μ 143 f.toNat = suC μ0 f 4 := fun f h => by rw [hf 143 (by decide)]; exact hs f h
  have sqb := fun f => sq_b (F := fun f => suC μ0 f 4) (f := f) (su4_b hV f) hm
  intro j
  induction j with
  | zero =>
    intro s x b hb hx hx0 hss
    have nn : 0 ≤ s := by
      rw [hss]
      exact (sm_b (B := 998001) (by omega) (by omega) (fun i _ _ => sqb _)).1
    refine vc_X3_fillLevels_56 ⟨fun _ => ⟨nn, by ((try unfold am_in); (try unfold in_ at *); omega), hk0, by ((try unfold am_in); (try unfold in_ at *); omega), fun m1 e1 => ⟨(by (try unfold am_in); (try unfold in_ at *); omega), ?_⟩⟩, fun q => by omega⟩
    rw [e1, hss]
    unfold lvl_ at hQ
    rw [← hb] at hQ
    rw [show x = b by omega]
    exact hQ
  | succ j ih =>
    intro s x b hb hx hx0 hss
    have hb6 : b ≤ 600 ∧ b ≤ k * μ0 2 1 + μ0 2 1 := by rw [hb]; rw [kb.2.2]; split <;> omega
    have x6 : in_ 0 600 x := by ((try unfold am_in); (try unfold in_ at *); omega)
    have m := mi_b (su4_b hV x) hm
    have q1 := sqb x
    have sb := sm_b (f := fun i => sq_ (fun f => suC μ0 f 4) ms (k * (μ0 2 1) + i)) (n := x - k * μ0 2 1) (B := 998001) (by omega) (by omega) (fun i _ _ => sqb _)
    rw [← hss] at sb
    have e2 : (if ((μ 143 ((x).toNat)) * ms) / 100 < 999 then ((μ 143 ((x).toNat)) * ms) / 100 else 999) = mi_ (suC μ0 x 4) ms := by rw [e143 x x6]; rfl
    have e3 : mi_ (suC μ0 x 4) ms * mi_ (suC μ0 x 4) ms = sq_ (fun f => suC μ0 f 4) ms x := rfl
    refine vc_X3_fillLevels_56 ⟨fun q => by omega, fun q => ⟨by omega, by omega, by rw [e143 x x6]; ((try unfold am_in); (try unfold in_ at *); omega), by rw [e143 x x6]; exact m.1.1, ?_⟩⟩
    rw [e2, e3]
    refine ⟨(by (try unfold am_in); (try unfold in_ at *); omega), (by (try unfold am_in); (try unfold in_ at *); omega), (by (try unfold am_in); (try unfold in_ at *); omega), ih _ (x + 1) b hb (by omega) (by omega) ?_⟩
    unfold sm_ at hss ⊢
    rw [show x + 1 - k * μ0 2 1 = (x - k * μ0 2 1) + 1 by omega, fI_s _ _ (by omega), ← hss]
    simp only [show k * μ0 2 1 + (x - k * μ0 2 1) = x by omega]
/-- the levels of all windows stand -/
def lk3_ (m : am_M) (F : Int → Int) (ms w n : Int) : Prop := ∀ k, 0 ≤ k → k < n → m 145 k.toNat = lvl_ F ms w k
noncomputable abbrev winC (μ : am_M) : Int := win_ (la_ (cg μ) (μ 5 1)) (μ 2 1)
theorem sp_X3_fillLevels {μ : am_M} {ms : Int} (hV : vC μ) (hs : sk_ μ (fun f => suC μ f 4)) (hm : in_ 0 401 ms) : cl_V kC 4 mX3_fillLevels [vR 144, vI ms] μ (fun m => fr_ [144, 145] μ m ∧ m 144 = am_up (μ 144) 5 (winC μ) ∧ lk3_ m (fun f => suC μ f 4) ms (μ 2 1) (winC μ)) := by
  have hw := hV.hE.2.1
  have lb := la_b6 hV
  have wb := win_b lb hw
  have w1 : in_ 0 151 (winC μ) := wb.1
  refine ve_X3_fillLevels (vc_X3_fillLevels_0 ⟨hV.hE, hV.okT, (by (try unfold am_in); (try unfold in_ at *); omega), (by (try unfold am_in); (try unfold in_ at *); omega), (by (try unfold am_in); (try unfold in_ at *); omega), (by (try unfold am_in); (try unfold in_ at *); omega), fun m1 e1 => ?_⟩)
  have : ∀ (j : Nat) (k : Int) (m : am_M), k + j = winC μ → 0 ≤ k → fr_ [144, 145] μ m → m 144 = am_up (μ 144) 5 (winC μ) → lk3_ m (fun f => suC μ f 4) ms (μ 2 1) k → at_V kC 4 mX3_fillLevels 27 [vR 144, vI ms, vI (μ 2 1), vI k, vU, vU, vU, vU] [] m (fun m => fr_ [144, 145] μ m ∧ m 144 = am_up (μ 144) 5 (winC μ) ∧ lk3_ m (fun f => suC μ f 4) ms (μ 2 1) (winC μ)) := by
    intro j
    induction j with
    | zero =>
      intro k m hx h0 hf h4 hl
      refine vc_X3_fillLevels_27 ⟨fun _ => ⟨hf, h4, by rw [show winC μ = k by omega]; exact hl⟩, fun q => by rw [h4, up_s] at q; omega⟩
    | succ j ih =>
      intro k m hx h0 hf h4 hl
      have kb := wb.2 k h0 (by show k < winC μ; omega)
      have hb : (if (k + 1) * μ 2 1 < 600 then (k + 1) * μ 2 1 else 600) ≤ 600 ∧ k * μ 2 1 ≤ (if (k + 1) * μ 2 1 < 600 then (k + 1) * μ 2 1 else 600) := by rw [kb.2.2]; unfold in_ at *; split <;> omega
      refine vc_X3_fillLevels_27 ⟨fun q => by rw [h4, up_s] at q; omega, fun q => ⟨(by (try unfold am_in); (try unfold in_ at *); omega), by rw [kb.2.2]; ((try unfold am_in); (try unfold in_ at *); omega), (by (try unfold am_in); (try unfold in_ at *); omega), ?_⟩⟩
      refine lp2_X3_fillLevels hV hs hm h0 (by show k < winC μ; omega) hf ?_ ((if (k + 1) * μ 2 1 < 600 then (k + 1) * μ 2 1 else 600) - k * μ 2 1).toNat 0 (k * μ 2 1) _ rfl (by omega) (by omega) (by rw [show k * μ 2 1 - k * μ 2 1 = 0 by omega]; rfl)
      refine ih (k + 1) _ (by omega) (by omega) (fr_tr hf (fr_st (by simp))) (by rw [st_n (by decide)]; exact h4) (fun i i0 i1 => ?_)
      rw [st_s]
      by_cases e : i = k
      · rw [e, up_s]
      · rw [up_n (by omega)]
        exact hl i i0 (by omega)
  exact this (winC μ).toNat 0 m1 (by show 0 + _ = winC μ; have : 0 ≤ winC μ := w1.1; omega) (by omega) (by rw [e1]; exact fr_st (by simp)) (by rw [e1, st_s]; rfl) (fun i i0 i1 => by omega)

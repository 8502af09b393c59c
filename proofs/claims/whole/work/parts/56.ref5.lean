/-! the reference's mix and loudness -/
theorem mi_alt {s ms v : Int} (h : v = if 999 < s * ms / 100 then 999 else s * ms / 100) : v = mi_ s ms := by
  rw [h]
  unfold mi_
  (repeat' split) <;> omega
theorem suR_b {μ : am_M} (hV : vP (pR μ)) (f : Int) : in_ 0 8000 (suP (pR μ) f) := by
  have : 0 ≤ suP (pR μ) f ∧ suP (pR μ) f ≤ 4 * 1998 := su_b hV _ (by omega) (by omega)
  ((try unfold am_in); (try unfold in_ at *); omega)
theorem vc_X10_mixOf_0 {x1 x2 : Int} {μ : am_M} {Q : Int → am_M → Prop} (h : (0 ≤ x1) ∧ (x1 < 600) ∧ ((am_in ((μ 12 ((x1).toNat)) * x2)) ∧ ((0 ≤ (μ 12 ((x1).toNat)) * x2) ∧ (∀ v1 : Int, v1 = (if 999 < ((μ 12 ((x1).toNat)) * x2) / 100 then 999 else ((μ 12 ((x1).toNat)) * x2) / 100) → Q v1 μ)))) : at_I kR 1 mX10_mixOf 0 [vR 0, vI x1, vI x2, vU] [] μ Q := by
  refine s_aload_n dX10_mixOf_0 rfl rfl ?_
  refine s_getR dX10_mixOf_1 flX10_43 rn0 rk0 rfl rr0_16 ?_
  refine s_iload_n dX10_mixOf_4 rfl rfl ?_
  obtain ⟨c, c2, h⟩ := h
  refine s_iald (x := (μ 12 ((x1).toNat))) dX10_mixOf_5 rn12 rk12 rl12 c c2 rfl ?_
  refine s_iload_n dX10_mixOf_6 rfl rfl ?_
  obtain ⟨c, h⟩ := h
  refine s_imul dX10_mixOf_7 (am_w_id c) ?_
  refine s_bipush dX10_mixOf_8 (by decide) ?_
  obtain ⟨c, h⟩ := h
  refine s_idivp dX10_mixOf_10 c (by decide) rfl ?_
  refine s_istore_n dX10_mixOf_11 rfl (by decide) (L' := [vR 0, vI x1, vI x2, vI (((μ 12 ((x1).toNat)) * x2) / 100)]) rfl ?_
  refine s_iload_n dX10_mixOf_12 rfl rfl ?_
  refine s_sipush dX10_mixOf_13 (by decide) ?_
  have kj2 : ∀ (v1 : Int), (Q v1 μ) → at_I kR 1 mX10_mixOf 26 [vU, vU, vU, vU] [vI v1] μ Q := by
    intro v1 h
    exact s_ireturn dX10_mixOf_26 (Or.inl rfl) ⟨⟨rfl, rfl⟩, _, rfl, h⟩
  refine s_icmp_le dX10_mixOf_16 (tgt := 25) (by decide) (fun cc => ?_) (fun cc => ?_)
  · have hp0 := cc
    refine s_iload_n dX10_mixOf_25 rfl rfl ?_
    exact am_lesS (kj2 (((μ 12 ((x1).toNat)) * x2) / 100) (h (((μ 12 ((x1).toNat)) * x2) / 100) (by rw [if_neg (Int.not_lt.mpr hp0)]))) ⟨Or.inl rfl, Or.inl rfl, Or.inl rfl, Or.inl rfl, trivial⟩
  · have hp0 := cc
    refine s_sipush dX10_mixOf_19 (by decide) ?_
    refine s_goto dX10_mixOf_22 (tgt := 26) (by decide) ?_
    exact am_lesS (kj2 999 (h 999 (by rw [if_pos hp0]))) ⟨Or.inl rfl, Or.inl rfl, Or.inl rfl, Or.inl rfl, trivial⟩
theorem ve_X10_mixOf {x1 x2 : Int} {μ : am_M} {Q : Int → am_M → Prop} (h : at_I kR 1 mX10_mixOf 0 [vR 0, vI x1, vI x2, vU] [] μ Q) : cl_I kR 1 mX10_mixOf [vR 0, vI x1, vI x2] μ Q := am_intro pmX10_mixOf (Nat.le_of_ble_eq_true rfl) rfl h
theorem sp_X10_mixOf {μ : am_M} {f ms : Int} {Q : Int → am_M → Prop} (hs : rsnd_ μ) (hV : vP (pR μ)) (hf : in_ 0 600 f) (hm : in_ 0 401 ms) (hQ : Q (mi_ (suP (pR μ) f) ms) μ) : cl_I kR 1 mX10_mixOf [vR 0, vI f, vI ms] μ Q := by
  have e : μ 12 f.toNat = suP (pR μ) f := hs.2.2.2.2.2 f hf
  have b := (mi_b (suR_b hV f) hm).1
  refine ve_X10_mixOf (vc_X10_mixOf_0 ⟨hf.1, hf.2, ?_⟩)
  rw [e]
  refine ⟨(by (try unfold am_in); (try unfold in_ at *); omega), b.1, fun v ev => ?_⟩
  rw [mi_alt ev]
  exact hQ
theorem vc_X10_windows_0 {μ : am_M} {Q : Int → am_M → Prop} (h : (ok_T (rg μ) (μ 1 25)) ∧ ((am_in ((la_ (rg μ) (μ 1 25)) + (μ 1 466))) ∧ ((am_in (((la_ (rg μ) (μ 1 25)) + (μ 1 466)) - 1)) ∧ ((0 ≤ ((la_ (rg μ) (μ 1 25)) + (μ 1 466)) - 1) ∧ (0 < μ 1 466) ∧ (Q ((((la_ (rg μ) (μ 1 25)) + (μ 1 466)) - 1) / (μ 1 466)) μ))))) : at_I kR 3 mX10_windows 0 [vR 0] [] μ Q := by
  refine s_aload_n dX10_windows_0 rfl rfl ?_
  obtain ⟨p0, h⟩ := h
  refine s_callV (As := []) (rest := []) (k := 0) dX10_windows_1 lkX10_155 rn0 ⟨by rw [rk0]; rfl, by rw [rk0]; decide⟩ lmX10_last rfl rfl (Nat.le_of_ble_eq_true rfl) (by decide) (Nat.le_refl 0) (Nat.le_refl 0) (hC := sp_X10_last (Q := fun z m => la_ (rg μ) (μ 1 25) = z ∧ μ = m) p0 ⟨rfl, rfl⟩) (fun r n2 S2 m2 hP => ?_)
  obtain ⟨⟨rfl, rfl⟩, z, rfl, rfl, rfl⟩ := hP
  refine s_aload_n dX10_windows_4 rfl rfl ?_
  refine s_getR dX10_windows_5 flX10_9 rn0 rk0 rfl rr0_0 ?_
  refine s_sipush dX10_windows_8 (by decide) ?_
  refine s_iald (x := (μ 1 466)) dX10_windows_11 rn1 rk1 rl1 (by decide) (by decide) rfl ?_
  obtain ⟨c, h⟩ := h
  refine s_iadd dX10_windows_12 (am_w_id c) ?_
  refine s_iconst dX10_windows_13 (by decide) ?_
  obtain ⟨c, h⟩ := h
  refine s_isub dX10_windows_14 (am_w_id c) ?_
  refine s_aload_n dX10_windows_15 rfl rfl ?_
  refine s_getR dX10_windows_16 flX10_9 rn0 rk0 rfl rr0_0 ?_
  refine s_sipush dX10_windows_19 (by decide) ?_
  refine s_iald (x := (μ 1 466)) dX10_windows_22 rn1 rk1 rl1 (by decide) (by decide) rfl ?_
  obtain ⟨c, c2, h⟩ := h
  refine s_idivp dX10_windows_23 c c2 rfl ?_
  exact s_ireturn dX10_windows_24 (Or.inl rfl) ⟨⟨rfl, rfl⟩, _, rfl, h⟩
theorem ve_X10_windows {μ : am_M} {Q : Int → am_M → Prop} (h : at_I kR 3 mX10_windows 0 [vR 0] [] μ Q) : cl_I kR 3 mX10_windows [vR 0] μ Q := am_intro pmX10_windows (Nat.le_of_ble_eq_true rfl) rfl h
theorem sp_X10_windows {μ : am_M} {Q : Int → am_M → Prop} (hV : vP (pR μ)) (hQ : Q (winP (pR μ)) μ) : cl_I kR 3 mX10_windows [vR 0] μ Q := by
  have lb : in_ 0 601 (la_ (rg μ) (μ 1 25)) := la_b6 hV
  have w : in_ 4 51 (μ 1 466) := hV.hE.2.1
  exact ve_X10_windows (vc_X10_windows_0 ⟨hV.okT, (by (try unfold am_in); (try unfold in_ at *); omega), (by (try unfold am_in); (try unfold in_ at *); omega), (by (try unfold am_in); (try unfold in_ at *); omega), (by (try unfold am_in); (try unfold in_ at *); omega), hQ⟩)
theorem vc_X10_levelOf_0 {x1 x2 : Int} {μ : am_M} {Q : Int → am_M → Prop} (h : (am_in ((μ 1 466) * x1)) ∧ (at_I kR 2 mX10_levelOf 17 [vR 0, vI x1, vI x2, vI (μ 1 466), vI 0, vI ((μ 1 466) * x1)] [] μ Q)) : at_I kR 2 mX10_levelOf 0 [vR 0, vI x1, vI x2, vU, vU, vU] [] μ Q := by
  refine s_aload_n dX10_levelOf_0 rfl rfl ?_
  refine s_getR dX10_levelOf_1 flX10_9 rn0 rk0 rfl rr0_0 ?_
  refine s_sipush dX10_levelOf_4 (by decide) ?_
  refine s_iald (x := (μ 1 466)) dX10_levelOf_7 rn1 rk1 rl1 (by decide) (by decide) rfl ?_
  refine s_istore_n dX10_levelOf_8 rfl (by decide) (L' := [vR 0, vI x1, vI x2, vI (μ 1 466), vU, vU]) rfl ?_
  refine s_iconst dX10_levelOf_9 (by decide) ?_
  refine s_istore dX10_levelOf_10 (by decide) (L' := [vR 0, vI x1, vI x2, vI (μ 1 466), vI 0, vU]) rfl ?_
  refine s_iload_n dX10_levelOf_12 rfl rfl ?_
  refine s_iload_n dX10_levelOf_13 rfl rfl ?_
  obtain ⟨c, h⟩ := h
  refine s_imul dX10_levelOf_14 (am_w_id c) ?_
  refine s_istore dX10_levelOf_15 (by decide) (L' := [vR 0, vI x1, vI x2, vI (μ 1 466), vI 0, vI ((μ 1 466) * x1)]) rfl ?_
  exact h
theorem vc_X10_levelOf_17 {x1 x2 x3 x4 x5 : Int} {μ : am_M} {Q : Int → am_M → Prop} (h : (am_in (x3 * x1)) ∧ ((am_in ((x3 * x1) + x3)) ∧ (((x3 * x1) + x3 ≤ x5 → (0 ≤ x4) ∧ (0 < x3) ∧ (Q (x4 / x3) μ)) ∧ (x5 < (x3 * x1) + x3 → (600 ≤ x5 → (0 ≤ x4) ∧ (0 < x3) ∧ (Q (x4 / x3) μ)) ∧ (x5 < 600 → (rsnd_ μ) ∧ (vP (pR μ)) ∧ (in_ 0 600 x5) ∧ (in_ 0 401 x2) ∧ ((rsnd_ μ) ∧ (vP (pR μ)) ∧ (in_ 0 600 x5) ∧ (in_ 0 401 x2) ∧ ((am_in ((mi_ (suP (pR μ) x5) x2) * (mi_ (suP (pR μ) x5) x2))) ∧ ((am_in (x4 + ((mi_ (suP (pR μ) x5) x2) * (mi_ (suP (pR μ) x5) x2)))) ∧ ((am_in (x5 + 1)) ∧ (at_I kR 2 mX10_levelOf 17 [vR 0, vI x1, vI x2, vI x3, vI (x4 + ((mi_ (suP (pR μ) x5) x2) * (mi_ (suP (pR μ) x5) x2))), vI (x5 + 1)] [] μ Q)))))))))) : at_I kR 2 mX10_levelOf 17 [vR 0, vI x1, vI x2, vI x3, vI x4, vI x5] [] μ Q := by
  refine s_iload dX10_levelOf_17 rfl ?_
  refine s_iload_n dX10_levelOf_19 rfl rfl ?_
  refine s_iload_n dX10_levelOf_20 rfl rfl ?_
  obtain ⟨c, h⟩ := h
  refine s_imul dX10_levelOf_21 (am_w_id c) ?_
  refine s_iload_n dX10_levelOf_22 rfl rfl ?_
  obtain ⟨c, h⟩ := h
  refine s_iadd dX10_levelOf_23 (am_w_id c) ?_
  refine s_icmp_ge dX10_levelOf_24 (tgt := 61) (by decide) (fun cc => ?_) (fun cc => ?_)
  · have h := h.1 cc
    refine s_iload dX10_levelOf_61 rfl ?_
    refine s_iload_n dX10_levelOf_63 rfl rfl ?_
    obtain ⟨c, c2, h⟩ := h
    refine s_idivp dX10_levelOf_64 c c2 rfl ?_
    exact s_ireturn dX10_levelOf_65 (Or.inl rfl) ⟨⟨rfl, rfl⟩, _, rfl, h⟩
  · have h := h.2 cc
    refine s_iload dX10_levelOf_27 rfl ?_
    refine s_sipush dX10_levelOf_29 (by decide) ?_
    refine s_icmp_ge dX10_levelOf_32 (tgt := 61) (by decide) (fun cc => ?_) (fun cc => ?_)
    · have h := h.1 cc
      refine s_iload dX10_levelOf_61 rfl ?_
      refine s_iload_n dX10_levelOf_63 rfl rfl ?_
      obtain ⟨c, c2, h⟩ := h
      refine s_idivp dX10_levelOf_64 c c2 rfl ?_
      exact s_ireturn dX10_levelOf_65 (Or.inl rfl) ⟨⟨rfl, rfl⟩, _, rfl, h⟩
    · have h := h.2 cc
      refine s_iload dX10_levelOf_35 rfl ?_
      refine s_aload_n dX10_levelOf_37 rfl rfl ?_
      refine s_iload dX10_levelOf_38 rfl ?_
      refine s_iload_n dX10_levelOf_40 rfl rfl ?_
      obtain ⟨p0, p1, p2, p3, h⟩ := h
      refine s_callV (As := [vI x5, vI x2]) (rest := [vI x4]) (k := 0) dX10_levelOf_41 lkX10_196 rn0 ⟨by rw [rk0]; rfl, by rw [rk0]; decide⟩ lmX10_mixOf rfl rfl (Nat.le_of_ble_eq_true rfl) (by decide) (Nat.le_refl 0) (Nat.le_refl 0) (hC := sp_X10_mixOf (Q := fun z m => mi_ (suP (pR μ) x5) x2 = z ∧ μ = m) p0 p1 p2 p3 ⟨rfl, rfl⟩) (fun r n2 S2 m2 hP => ?_)
      obtain ⟨⟨rfl, rfl⟩, z, rfl, rfl, rfl⟩ := hP
      refine s_aload_n dX10_levelOf_44 rfl rfl ?_
      refine s_iload dX10_levelOf_45 rfl ?_
      refine s_iload_n dX10_levelOf_47 rfl rfl ?_
      obtain ⟨p0, p1, p2, p3, h⟩ := h
      refine s_callV (As := [vI x5, vI x2]) (rest := [vI (mi_ (suP (pR μ) x5) x2), vI x4]) (k := 0) dX10_levelOf_48 lkX10_196 rn0 ⟨by rw [rk0]; rfl, by rw [rk0]; decide⟩ lmX10_mixOf rfl rfl (Nat.le_of_ble_eq_true rfl) (by decide) (Nat.le_refl 0) (Nat.le_refl 0) (hC := sp_X10_mixOf (Q := fun z m => mi_ (suP (pR μ) x5) x2 = z ∧ μ = m) p0 p1 p2 p3 ⟨rfl, rfl⟩) (fun r n2 S2 m2 hP => ?_)
      obtain ⟨⟨rfl, rfl⟩, z, rfl, rfl, rfl⟩ := hP
      obtain ⟨c, h⟩ := h
      refine s_imul dX10_levelOf_51 (am_w_id c) ?_
      obtain ⟨c, h⟩ := h
      refine s_iadd dX10_levelOf_52 (am_w_id c) ?_
      refine s_istore dX10_levelOf_53 (by decide) (L' := [vR 0, vI x1, vI x2, vI x3, vI (x4 + ((mi_ (suP (pR μ) x5) x2) * (mi_ (suP (pR μ) x5) x2))), vI x5]) rfl ?_
      obtain ⟨c, h⟩ := h
      refine s_iinc dX10_levelOf_55 rfl (am_w_id c) (by decide) (L' := [vR 0, vI x1, vI x2, vI x3, vI (x4 + ((mi_ (suP (pR μ) x5) x2) * (mi_ (suP (pR μ) x5) x2))), vI (x5 + 1)]) rfl ?_
      refine s_goto dX10_levelOf_58 (tgt := 17) (by decide) ?_
      exact h
theorem ve_X10_levelOf {x1 x2 : Int} {μ : am_M} {Q : Int → am_M → Prop} (h : at_I kR 2 mX10_levelOf 0 [vR 0, vI x1, vI x2, vU, vU, vU] [] μ Q) : cl_I kR 2 mX10_levelOf [vR 0, vI x1, vI x2] μ Q := am_intro pmX10_levelOf (Nat.le_of_ble_eq_true rfl) rfl h
theorem sp_X10_levelOf {μ : am_M} {k ms : Int} {Q : Int → am_M → Prop} (hs : rsnd_ μ) (hV : vP (pR μ)) (hk : 0 ≤ k ∧ k < winP (pR μ)) (hm : in_ 0 401 ms) (hQ : Q (lvP (pR μ) ms k) μ) : cl_I kR 2 mX10_levelOf [vR 0, vI k, vI ms] μ Q := by
  have lb := la_b6 hV
  have hw : in_ 4 51 (μ 1 466) := hV.hE.2.1
  have wb := win_b lb hw
  have kb := wb.2 k hk.1 hk.2
  have w1 := wb.1
  change in_ 0 151 (winP (pR μ)) at w1
  change 0 ≤ k * μ 1 466 ∧ k * μ 1 466 < laP (pR μ) ∧ (k + 1) * μ 1 466 = k * μ 1 466 + μ 1 466 at kb
  change in_ 0 601 (laP (pR μ)) at lb
  have sqb := fun f => sq_b (F := suP (pR μ)) (f := f) (suR_b hV f) hm
  have ew : μ 1 466 * k = k * μ 1 466 := Int.mul_comm _ _
  have eQ : lvP (pR μ) ms k = sm_ (fun i => sq_ (suP (pR μ)) ms (k * μ 1 466 + i)) ((if (k + 1) * μ 1 466 < 600 then (k + 1) * μ 1 466 else 600) - k * μ 1 466) / μ 1 466 := rfl
  rw [eQ, kb.2.2] at hQ
  obtain ⟨b, hb⟩ : ∃ b, b = (if k * μ 1 466 + μ 1 466 < 600 then k * μ 1 466 + μ 1 466 else 600) := ⟨_, rfl⟩
  rw [← hb] at hQ
  have bb : b ≤ 600 ∧ b ≤ k * μ 1 466 + μ 1 466 ∧ (b = 600 ∨ b = k * μ 1 466 + μ 1 466) ∧ k * μ 1 466 ≤ b := by
    unfold in_ at *
    rw [hb]; split <;> omega
  unfold in_ at hw lb w1
  refine ve_X10_levelOf (vc_X10_levelOf_0 ⟨by rw [ew]; ((try unfold am_in); (try unfold in_ at *); omega), ?_⟩)
  rw [ew]
  have : ∀ (j : Nat) (s x : Int), x + j = b → k * μ 1 466 ≤ x → s = sm_ (fun i => sq_ (suP (pR μ)) ms (k * μ 1 466 + i)) (x - k * μ 1 466) → at_I kR 2 mX10_levelOf 17 [vR 0, vI k, vI ms, vI (μ 1 466), vI s, vI x] [] μ Q := by
    intro j
    induction j with
    | zero =>
      intro s x hx h0 e
      have sb := sm_b (f := fun i => sq_ (suP (pR μ)) ms (k * μ 1 466 + i)) (n := x - k * μ 1 466) (B := 998001) (by omega) (by omega) (fun i _ _ => sqb _)
      rw [← e] at sb
      rw [show b = x by omega, ← e] at hQ
      refine vc_X10_levelOf_17 ?_
      rw [ew]
      refine ⟨(by (try unfold am_in); (try unfold in_ at *); omega), (by (try unfold am_in); (try unfold in_ at *); omega), fun _ => ⟨sb.1, by omega, hQ⟩, fun q => ⟨fun _ => ⟨sb.1, by omega, hQ⟩, fun q2 => by omega⟩⟩
    | succ j ih =>
      intro s x hx h0 e
      have sb := sm_b (f := fun i => sq_ (suP (pR μ)) ms (k * μ 1 466 + i)) (n := x - k * μ 1 466) (B := 998001) (by omega) (by omega) (fun i _ _ => sqb _)
      rw [← e] at sb
      have s1 : 0 ≤ mi_ (suP (pR μ) x) ms * mi_ (suP (pR μ) x) ms ∧ mi_ (suP (pR μ) x) ms * mi_ (suP (pR μ) x) ms ≤ 998001 := sqb x
      refine vc_X10_levelOf_17 ?_
      rw [ew]
      refine ⟨(by (try unfold am_in); (try unfold in_ at *); omega), (by (try unfold am_in); (try unfold in_ at *); omega), fun q => by omega, fun q => ⟨fun q2 => by omega, fun q2 => ⟨hs, hV, ⟨by omega, q2⟩, hm, hs, hV, ⟨by omega, q2⟩, hm, (by (try unfold am_in); (try unfold in_ at *); omega), (by (try unfold am_in); (try unfold in_ at *); omega), (by (try unfold am_in); (try unfold in_ at *); omega), ih _ (x + 1) (by omega) (by omega) ?_⟩⟩⟩
      rw [show x + 1 - k * μ 1 466 = (x - k * μ 1 466) + 1 by omega]
      unfold sm_ at e ⊢
      rw [fI_s _ _ (by omega), ← e]
      show _ = s + sq_ (suP (pR μ)) ms (k * μ 1 466 + (x - k * μ 1 466))
      rw [show k * μ 1 466 + (x - k * μ 1 466) = x by omega]
      rfl
  exact this (b - k * μ 1 466).toNat 0 (k * μ 1 466) (by omega) (by omega) (by rw [Int.sub_self]; rfl)

/-! the editor's commands -/
theorem done_c {K : Int} {μ m2 : am_M} {z : Int} {R : Int × Pj} (hI : CI K μ) (hK : K < 100000) (hf : fr_ (pjC 1) μ m2) (hz : z = R.1) (hp : pe_ R.2 (pC m2 1)) (ho : ov_ (pC μ 1) R) (h7 : 0 ≤ m2 7 2) : cl_I kC 6 mX9_done [vR 0, vI z] m2 (fun w m => cm_ [] μ m w R) := by
  subst hz
  refine sp_X9_done (ks := []) hI hK (fun k hk => by simp at hk) (fun q => un_of hI (fun k hk => by simp at hk) (fr_up hf (fun k hk => by simp [hk])) (pe_tr (pe_sy (ho.1 q)) hp) h7) (fun _ => fr_up hf (fun k hk => by unfold bsL; simp [hk])) (fun _ => hp) (fun _ => ho.2) (fun _ => ?_) (fun _ => h7)
  rw [hf 147 (by decide)]
  exact hI.z
theorem ck_w {μ m : am_M} {n : Int} {g : Tb} {L : List Rw} (h : ck_ μ m n g) (t : tl_ n g L) : fr_ (pjC 1) μ m ∧ pe_ (wL (pC μ 1) L) (pC m 1) ∧ m 7 2 = μ 7 2 := by
  obtain ⟨h1, h2, h3⟩ := h
  have e : ∀ k, k ≠ 5 → k ≠ 6 → m k = μ k := fun k a b => h1 k (by simp [a, b])
  have tt := tl_of (tl_eq h3 t)
  refine ⟨fr_up h1 (by decide), ⟨fun i _ => ?_, fun i k _ _ _ _ => ?_, ?_, fun i k _ _ _ _ => ?_, ?_, fun i k i0 i1 k0 k1 => ?_, ?_⟩, by rw [e 7 (by decide) (by decide)]⟩
  · show μ 2 i = m 2 i
    rw [e 2 (by decide) (by decide)]
  · show tg (μ 3) 7 i k = tg (m 3) 7 i k
    rw [e 3 (by decide) (by decide)]
  · show μ 1 5 = m 1 5
    rw [e 1 (by decide) (by decide)]
  · show tg (μ 4) 4 i k = tg (m 4) 4 i k
    rw [e 4 (by decide) (by decide)]
  · show (L.length : Int) = m 5 1
    rw [h2, t.1]
  · exact (tt i k i0 (by rw [t.1]; exact i1) k0 k1).symm
  · show hC μ = hC m
    unfold hC
    rw [e 7 (by decide) (by decide), e 8 (by decide) (by decide), e 9 (by decide) (by decide)]
theorem lk_w {μ m : am_M} {z : Int} {R : Int × List Rw × Hl} (h : lk_ μ m z R) : z = R.1 ∧ fr_ (pjC 1) μ m ∧ pe_ (wLH (pC μ 1) R.2.1 R.2.2) (pC m 1) ∧ 0 ≤ m 7 2 := by
  obtain ⟨h0, h1, h2, h3⟩ := h
  have e : ∀ k, k < 5 → m k = μ k := fun k a => h1 k (by simp; omega)
  have tt := tl_of h2
  refine ⟨h0, fr_up h1 (by decide), ⟨fun i _ => ?_, fun i k _ _ _ _ => ?_, ?_, fun i k _ _ _ _ => ?_, ?_, fun i k i0 i1 k0 k1 => ?_, ?_⟩, by rw [h3.1]; omega⟩
  · show μ 2 i = m 2 i
    rw [e 2 (by decide)]
  · show tg (μ 3) 7 i k = tg (m 3) 7 i k
    rw [e 3 (by decide)]
  · show μ 1 5 = m 1 5
    rw [e 1 (by decide)]
  · show tg (μ 4) 4 i k = tg (m 4) 4 i k
    rw [e 4 (by decide)]
  · show (R.2.1.length : Int) = m 5 1
    rw [h2.1]
  · exact (tt i k i0 (by rw [h2.1]; exact i1) k0 k1).symm
  · exact (hl_un h3).symm
theorem hk_w {μ m : am_M} {H : Hl} (h : hk_ μ m H) : fr_ (pjC 1) μ m ∧ pe_ (wH (pC μ 1) H) (pC m 1) ∧ 0 ≤ m 7 2 := by
  obtain ⟨h1, h3⟩ := h
  have e : ∀ k, k < 7 → m k = μ k := fun k a => h1 k (by simp; omega)
  refine ⟨fr_up h1 (by decide), ⟨fun i _ => ?_, fun i k _ _ _ _ => ?_, ?_, fun i k _ _ _ _ => ?_, ?_, fun i k i0 i1 k0 k1 => ?_, ?_⟩, by rw [h3.1]; omega⟩
  · show μ 2 i = m 2 i
    rw [e 2 (by decide)]
  · show tg (μ 3) 7 i k = tg (m 3) 7 i k
    rw [e 3 (by decide)]
  · show μ 1 5 = m 1 5
    rw [e 1 (by decide)]
  · show tg (μ 4) 4 i k = tg (m 4) 4 i k
    rw [e 4 (by decide)]
  · show μ 5 1 = m 5 1
    rw [e 5 (by decide)]
  · show cg μ i k = cg m i k
    rw [cg_c (e 6 (by decide))]
  · exact (hl_un h3).symm
/-- a command on clips, as the class does it, then noted -/
theorem done_k {K : Int} {μ m2 : am_M} {z : Int} {R : Rt} {L : Rl} (hI : CI K μ) (hK : K < 100000) (h : rk_ μ m2 z R) (hr : rl_ R L) (ho : ov_ (pC μ 1) (o_L (pC μ 1) L)) : cl_I kC 6 mX9_done [vR 0, vI z] m2 (fun w m => cm_ [] μ m w (o_L (pC μ 1) L)) := by
  have w := ck_w h.2 hr.2
  exact done_c hI hK w.1 (by rw [h.1, hr.1]; rfl) w.2.1 ho (by rw [w.2.2]; exact hI.h7)
theorem tlC {μ : am_M} (hV : vC μ) : tl_ (μ 5 1) (cg μ) (pL (pC μ 1)) := pL_tl (P := pC μ 1) hV
theorem vLC {μ : am_M} (hV : vC μ) : vL (μ 1 5) (tg (μ 4) 4) (pL (pC μ 1)) := pL_v (P := pC μ 1) hV
theorem vc_X9_setClip_0 {x1 x2 x3 : Int} {μ : am_M} {Q : Int → am_M → Prop} (h : (ok_T (cg μ) (μ 5 1)) ∧ (∀ (z1 : Int) (m2 : am_M), rk_ μ m2 z1 (r_set (μ 5 1) (cg μ) x1 x2 x3) → ∃ P : Int → am_M → Prop, cl_I kC 6 mX9_done [vR 0, vI z1] m2 P ∧ (∀ (z3 : Int) (m4 : am_M), P z3 m4 → Q z3 m4))) : at_I kC 7 mX9_setClip 0 [vR 0, vI x1, vI x2, vI x3] [] μ Q := by
  refine s_aload_n dX9_setClip_0 rfl rfl ?_
  refine s_aload_n dX9_setClip_1 rfl rfl ?_
  refine s_getR dX9_setClip_2 flX9_12 kn0 kk0 rfl kr0_0 ?_
  refine s_getR dX9_setClip_5 flX9_80 kn1 kk1 rfl kr1_3 ?_
  refine s_iload_n dX9_setClip_8 rfl rfl ?_
  refine s_iload_n dX9_setClip_9 rfl rfl ?_
  refine s_iload_n dX9_setClip_10 rfl rfl ?_
  obtain ⟨p0, h⟩ := h
  refine s_callV (As := [vI x1, vI x2, vI x3]) (rest := [vR 0]) (k := 5) dX9_setClip_11 lkX9_157 kn5 ⟨by rw [kk5]; rfl, by rw [kk5]; decide⟩ lmX1_change rfl rfl (Nat.le_of_ble_eq_true rfl) (by decide) (Nat.le_refl 0) (Nat.le_refl 0) (hC := sp_X1_change  p0) (fun r n2 S2 m2 hP => ?_)
  obtain ⟨⟨rfl, rfl⟩, z1, rfl, hq⟩ := hP
  have h := h z1 m2 hq
  obtain ⟨P, hcl, h⟩ := h
  refine s_callV (As := [vI z1]) (rest := []) (k := 0) dX9_setClip_14 lkX9_72 kn0 ⟨by rw [kk0]; rfl, by rw [kk0]; decide⟩ lmX9_done rfl rfl (Nat.le_of_ble_eq_true rfl) (by decide) (Nat.le_refl 0) (Nat.le_refl 0) (hC := hcl) (fun r n2 S2 m4 hP => ?_)
  obtain ⟨⟨rfl, rfl⟩, z3, rfl, hq⟩ := hP
  have h := h z3 m4 hq
  exact s_ireturn dX9_setClip_17 (Or.inl rfl) ⟨⟨rfl, rfl⟩, _, rfl, h⟩
theorem ve_X9_setClip {x1 x2 x3 : Int} {μ : am_M} {Q : Int → am_M → Prop} (h : at_I kC 7 mX9_setClip 0 [vR 0, vI x1, vI x2, vI x3] [] μ Q) : cl_I kC 7 mX9_setClip [vR 0, vI x1, vI x2, vI x3] μ Q := am_intro pmX9_setClip (Nat.le_of_ble_eq_true rfl) rfl h
theorem sp_X9_setClip {K : Int} {μ : am_M} {c w v : Int} (hI : CI K μ) (hK : K < 100000) : cl_I kC 7 mX9_setClip [vR 0, vI c, vI w, vI v] μ (fun z m => cm_ [] μ m z (o_cset (pC μ 1) c w v)) :=
  ve_X9_setClip (vc_X9_setClip_0 ⟨hI.v.okT, fun z m h => ⟨_, done_k hI hK h (l_set_is (tlC hI.v) c w v) (ov_cset hI.v c w v), fun z2 m2 h2 => h2⟩⟩)
theorem vc_X9_moveClip_0 {x1 x2 x3 : Int} {μ : am_M} {Q : Int → am_M → Prop} (h : (ok_T (cg μ) (μ 5 1)) ∧ (μ 5 1 < 32) ∧ (∀ (z1 : Int) (m2 : am_M), rk_ μ m2 z1 (r_mov (μ 5 1) (cg μ) x1 x2 x3) → ∃ P : Int → am_M → Prop, cl_I kC 6 mX9_done [vR 0, vI z1] m2 P ∧ (∀ (z3 : Int) (m4 : am_M), P z3 m4 → Q z3 m4))) : at_I kC 7 mX9_moveClip 0 [vR 0, vI x1, vI x2, vI x3] [] μ Q := by
  refine s_aload_n dX9_moveClip_0 rfl rfl ?_
  refine s_aload_n dX9_moveClip_1 rfl rfl ?_
  refine s_getR dX9_moveClip_2 flX9_12 kn0 kk0 rfl kr0_0 ?_
  refine s_getR dX9_moveClip_5 flX9_80 kn1 kk1 rfl kr1_3 ?_
  refine s_iload_n dX9_moveClip_8 rfl rfl ?_
  refine s_iload_n dX9_moveClip_9 rfl rfl ?_
  refine s_iload_n dX9_moveClip_10 rfl rfl ?_
  obtain ⟨p0, p1, h⟩ := h
  refine s_callV (As := [vI x1, vI x2, vI x3]) (rest := [vR 0]) (k := 5) dX9_moveClip_11 lkX9_161 kn5 ⟨by rw [kk5]; rfl, by rw [kk5]; decide⟩ lmX1_shift rfl rfl (Nat.le_of_ble_eq_true rfl) (by decide) (Nat.le_refl 0) (Nat.le_refl 0) (hC := sp_X1_shift  p0 p1) (fun r n2 S2 m2 hP => ?_)
  obtain ⟨⟨rfl, rfl⟩, z1, rfl, hq⟩ := hP
  have h := h z1 m2 hq
  obtain ⟨P, hcl, h⟩ := h
  refine s_callV (As := [vI z1]) (rest := []) (k := 0) dX9_moveClip_14 lkX9_72 kn0 ⟨by rw [kk0]; rfl, by rw [kk0]; decide⟩ lmX9_done rfl rfl (Nat.le_of_ble_eq_true rfl) (by decide) (Nat.le_refl 0) (Nat.le_refl 0) (hC := hcl) (fun r n2 S2 m4 hP => ?_)
  obtain ⟨⟨rfl, rfl⟩, z3, rfl, hq⟩ := hP
  have h := h z3 m4 hq
  exact s_ireturn dX9_moveClip_17 (Or.inl rfl) ⟨⟨rfl, rfl⟩, _, rfl, h⟩
theorem ve_X9_moveClip {x1 x2 x3 : Int} {μ : am_M} {Q : Int → am_M → Prop} (h : at_I kC 7 mX9_moveClip 0 [vR 0, vI x1, vI x2, vI x3] [] μ Q) : cl_I kC 7 mX9_moveClip [vR 0, vI x1, vI x2, vI x3] μ Q := am_intro pmX9_moveClip (Nat.le_of_ble_eq_true rfl) rfl h
theorem sp_X9_moveClip {K : Int} {μ : am_M} {c t s : Int} (hI : CI K μ) (hK : K < 100000) : cl_I kC 7 mX9_moveClip [vR 0, vI c, vI t, vI s] μ (fun z m => cm_ [] μ m z (o_mov (pC μ 1) c t s)) :=
  ve_X9_moveClip (vc_X9_moveClip_0 ⟨hI.v.okT, by have := hI.v.hn; ((try unfold am_in); (try unfold in_ at *); omega), fun z m h => ⟨_, done_k hI hK h (l_mov_is (tlC hI.v) (vLC hI.v).2.1 (vLC hI.v).l4 c t s) (ov_mov hI.v c t s), fun z2 m2 h2 => h2⟩⟩)
theorem vc_X9_copyClip_0 {x1 x2 x3 : Int} {μ : am_M} {Q : Int → am_M → Prop} (h : (ok_T (cg μ) (μ 5 1)) ∧ (∀ (z1 : Int) (m2 : am_M), rk_ μ m2 z1 (r_dup (μ 5 1) (cg μ) x1 x2 x3) → ∃ P : Int → am_M → Prop, cl_I kC 6 mX9_done [vR 0, vI z1] m2 P ∧ (∀ (z3 : Int) (m4 : am_M), P z3 m4 → Q z3 m4))) : at_I kC 7 mX9_copyClip 0 [vR 0, vI x1, vI x2, vI x3] [] μ Q := by
  refine s_aload_n dX9_copyClip_0 rfl rfl ?_
  refine s_aload_n dX9_copyClip_1 rfl rfl ?_
  refine s_getR dX9_copyClip_2 flX9_12 kn0 kk0 rfl kr0_0 ?_
  refine s_getR dX9_copyClip_5 flX9_80 kn1 kk1 rfl kr1_3 ?_
  refine s_iload_n dX9_copyClip_8 rfl rfl ?_
  refine s_iload_n dX9_copyClip_9 rfl rfl ?_
  refine s_iload_n dX9_copyClip_10 rfl rfl ?_
  obtain ⟨p0, h⟩ := h
  refine s_callV (As := [vI x1, vI x2, vI x3]) (rest := [vR 0]) (k := 5) dX9_copyClip_11 lkX9_180 kn5 ⟨by rw [kk5]; rfl, by rw [kk5]; decide⟩ lmX1_duplicate rfl rfl (Nat.le_of_ble_eq_true rfl) (by decide) (Nat.le_refl 0) (Nat.le_refl 0) (hC := sp_X1_duplicate  p0) (fun r n2 S2 m2 hP => ?_)
  obtain ⟨⟨rfl, rfl⟩, z1, rfl, hq⟩ := hP
  have h := h z1 m2 hq
  obtain ⟨P, hcl, h⟩ := h
  refine s_callV (As := [vI z1]) (rest := []) (k := 0) dX9_copyClip_14 lkX9_72 kn0 ⟨by rw [kk0]; rfl, by rw [kk0]; decide⟩ lmX9_done rfl rfl (Nat.le_of_ble_eq_true rfl) (by decide) (Nat.le_refl 0) (Nat.le_refl 0) (hC := hcl) (fun r n2 S2 m4 hP => ?_)
  obtain ⟨⟨rfl, rfl⟩, z3, rfl, hq⟩ := hP
  have h := h z3 m4 hq
  exact s_ireturn dX9_copyClip_17 (Or.inl rfl) ⟨⟨rfl, rfl⟩, _, rfl, h⟩
theorem ve_X9_copyClip {x1 x2 x3 : Int} {μ : am_M} {Q : Int → am_M → Prop} (h : at_I kC 7 mX9_copyClip 0 [vR 0, vI x1, vI x2, vI x3] [] μ Q) : cl_I kC 7 mX9_copyClip [vR 0, vI x1, vI x2, vI x3] μ Q := am_intro pmX9_copyClip (Nat.le_of_ble_eq_true rfl) rfl h
theorem sp_X9_copyClip {K : Int} {μ : am_M} {c t s : Int} (hI : CI K μ) (hK : K < 100000) : cl_I kC 7 mX9_copyClip [vR 0, vI c, vI t, vI s] μ (fun z m => cm_ [] μ m z (o_dup (pC μ 1) c t s)) :=
  ve_X9_copyClip (vc_X9_copyClip_0 ⟨hI.v.okT, fun z m h => ⟨_, done_k hI hK h (l_dup_is (tlC hI.v) (vLC hI.v).2.1 (vLC hI.v).l4 c t s) (ov_dup hI.v c t s), fun z2 m2 h2 => h2⟩⟩)
theorem vc_X9_divide_0 {x1 x2 : Int} {μ : am_M} {Q : Int → am_M → Prop} (h : (ok_T (cg μ) (μ 5 1)) ∧ (∀ (z1 : Int) (m2 : am_M), rk_ μ m2 z1 (r_div (μ 5 1) (cg μ) x1 x2) → ∃ P : Int → am_M → Prop, cl_I kC 6 mX9_done [vR 0, vI z1] m2 P ∧ (∀ (z3 : Int) (m4 : am_M), P z3 m4 → Q z3 m4))) : at_I kC 7 mX9_divide 0 [vR 0, vI x1, vI x2] [] μ Q := by
  refine s_aload_n dX9_divide_0 rfl rfl ?_
  refine s_aload_n dX9_divide_1 rfl rfl ?_
  refine s_getR dX9_divide_2 flX9_12 kn0 kk0 rfl kr0_0 ?_
  refine s_getR dX9_divide_5 flX9_80 kn1 kk1 rfl kr1_3 ?_
  refine s_iload_n dX9_divide_8 rfl rfl ?_
  refine s_iload_n dX9_divide_9 rfl rfl ?_
  obtain ⟨p0, h⟩ := h
  refine s_callV (As := [vI x1, vI x2]) (rest := [vR 0]) (k := 5) dX9_divide_10 lkX9_167 kn5 ⟨by rw [kk5]; rfl, by rw [kk5]; decide⟩ lmX1_divideOne rfl rfl (Nat.le_of_ble_eq_true rfl) (by decide) (Nat.le_refl 0) (Nat.le_refl 0) (hC := sp_X1_divideOne  p0) (fun r n2 S2 m2 hP => ?_)
  obtain ⟨⟨rfl, rfl⟩, z1, rfl, hq⟩ := hP
  have h := h z1 m2 hq
  obtain ⟨P, hcl, h⟩ := h
  refine s_callV (As := [vI z1]) (rest := []) (k := 0) dX9_divide_13 lkX9_72 kn0 ⟨by rw [kk0]; rfl, by rw [kk0]; decide⟩ lmX9_done rfl rfl (Nat.le_of_ble_eq_true rfl) (by decide) (Nat.le_refl 0) (Nat.le_refl 0) (hC := hcl) (fun r n2 S2 m4 hP => ?_)
  obtain ⟨⟨rfl, rfl⟩, z3, rfl, hq⟩ := hP
  have h := h z3 m4 hq
  exact s_ireturn dX9_divide_16 (Or.inl rfl) ⟨⟨rfl, rfl⟩, _, rfl, h⟩
theorem ve_X9_divide {x1 x2 : Int} {μ : am_M} {Q : Int → am_M → Prop} (h : at_I kC 7 mX9_divide 0 [vR 0, vI x1, vI x2] [] μ Q) : cl_I kC 7 mX9_divide [vR 0, vI x1, vI x2] μ Q := am_intro pmX9_divide (Nat.le_of_ble_eq_true rfl) rfl h
theorem sp_X9_divide {K : Int} {μ : am_M} {c a : Int} (hI : CI K μ) (hK : K < 100000) : cl_I kC 7 mX9_divide [vR 0, vI c, vI a] μ (fun z m => cm_ [] μ m z (o_div (pC μ 1) c a)) :=
  ve_X9_divide (vc_X9_divide_0 ⟨hI.v.okT, fun z m h => ⟨_, done_k hI hK h (l_div_is (tlC hI.v) c a) (ov_div hI.v c a), fun z2 m2 h2 => h2⟩⟩)
theorem vc_X9_remove_0 {x1 : Int} {μ : am_M} {Q : Int → am_M → Prop} (h : (in_ 0 33 (μ 5 1)) ∧ (∀ (z1 : Int) (m2 : am_M), rk_ μ m2 z1 (r_rem (μ 5 1) (cg μ) x1) → ∃ P : Int → am_M → Prop, cl_I kC 6 mX9_done [vR 0, vI z1] m2 P ∧ (∀ (z3 : Int) (m4 : am_M), P z3 m4 → Q z3 m4))) : at_I kC 7 mX9_remove 0 [vR 0, vI x1] [] μ Q := by
  refine s_aload_n dX9_remove_0 rfl rfl ?_
  refine s_aload_n dX9_remove_1 rfl rfl ?_
  refine s_getR dX9_remove_2 flX9_12 kn0 kk0 rfl kr0_0 ?_
  refine s_getR dX9_remove_5 flX9_80 kn1 kk1 rfl kr1_3 ?_
  refine s_iload_n dX9_remove_8 rfl rfl ?_
  obtain ⟨p0, h⟩ := h
  refine s_callV (As := [vI x1]) (rest := [vR 0]) (k := 5) dX9_remove_9 lkX9_170 kn5 ⟨by rw [kk5]; rfl, by rw [kk5]; decide⟩ lmX1_takeOut rfl rfl (Nat.le_of_ble_eq_true rfl) (by decide) (Nat.le_refl 0) (Nat.le_refl 0) (hC := sp_X1_takeOut  p0) (fun r n2 S2 m2 hP => ?_)
  obtain ⟨⟨rfl, rfl⟩, z1, rfl, hq⟩ := hP
  have h := h z1 m2 hq
  obtain ⟨P, hcl, h⟩ := h
  refine s_callV (As := [vI z1]) (rest := []) (k := 0) dX9_remove_12 lkX9_72 kn0 ⟨by rw [kk0]; rfl, by rw [kk0]; decide⟩ lmX9_done rfl rfl (Nat.le_of_ble_eq_true rfl) (by decide) (Nat.le_refl 0) (Nat.le_refl 0) (hC := hcl) (fun r n2 S2 m4 hP => ?_)
  obtain ⟨⟨rfl, rfl⟩, z3, rfl, hq⟩ := hP
  have h := h z3 m4 hq
  exact s_ireturn dX9_remove_15 (Or.inl rfl) ⟨⟨rfl, rfl⟩, _, rfl, h⟩
theorem ve_X9_remove {x1 : Int} {μ : am_M} {Q : Int → am_M → Prop} (h : at_I kC 7 mX9_remove 0 [vR 0, vI x1] [] μ Q) : cl_I kC 7 mX9_remove [vR 0, vI x1] μ Q := am_intro pmX9_remove (Nat.le_of_ble_eq_true rfl) rfl h
theorem sp_X9_remove {K : Int} {μ : am_M} {c : Int} (hI : CI K μ) (hK : K < 100000) : cl_I kC 7 mX9_remove [vR 0, vI c] μ (fun z m => cm_ [] μ m z (o_rem (pC μ 1) c)) :=
  ve_X9_remove (vc_X9_remove_0 ⟨hI.v.okT.1, fun z m h => ⟨_, done_k hI hK h (l_rem_is (tlC hI.v) c) (ov_rem hI.v c), fun z2 m2 h2 => h2⟩⟩)
theorem vc_X9_addClip_0 {x1 x2 x3 x4 x5 : Int} {μ : am_M} {Q : Int → am_M → Prop} (h : ∃ P : Int → am_M → Prop, cl_I kC 5 mX4_placeClip [vR 1, vI x1, vI x2, vI x3, vI x4, vI x5] μ P ∧ (∀ (z1 : Int) (m2 : am_M), P z1 m2 → ∃ P : Int → am_M → Prop, cl_I kC 6 mX9_done [vR 0, vI z1] m2 P ∧ (∀ (z3 : Int) (m4 : am_M), P z3 m4 → Q z3 m4))) : at_I kC 7 mX9_addClip 0 [vR 0, vI x1, vI x2, vI x3, vI x4, vI x5] [] μ Q := by
  refine s_aload_n dX9_addClip_0 rfl rfl ?_
  refine s_aload_n dX9_addClip_1 rfl rfl ?_
  refine s_getR dX9_addClip_2 flX9_12 kn0 kk0 rfl kr0_0 ?_
  refine s_iload_n dX9_addClip_5 rfl rfl ?_
  refine s_iload_n dX9_addClip_6 rfl rfl ?_
  refine s_iload_n dX9_addClip_7 rfl rfl ?_
  refine s_iload dX9_addClip_8 rfl ?_
  refine s_iload dX9_addClip_10 rfl ?_
  obtain ⟨P, hcl, h⟩ := h
  refine s_callV (As := [vI x1, vI x2, vI x3, vI x4, vI x5]) (rest := [vR 0]) (k := 1) dX9_addClip_12 lkX9_141 kn1 ⟨by rw [kk1]; rfl, by rw [kk1]; decide⟩ lmX4_placeClip rfl rfl (Nat.le_of_ble_eq_true rfl) (by decide) (Nat.le_refl 0) (Nat.le_refl 0) (hC := hcl) (fun r n2 S2 m2 hP => ?_)
  obtain ⟨⟨rfl, rfl⟩, z1, rfl, hq⟩ := hP
  have h := h z1 m2 hq
  obtain ⟨P, hcl, h⟩ := h
  refine s_callV (As := [vI z1]) (rest := []) (k := 0) dX9_addClip_15 lkX9_72 kn0 ⟨by rw [kk0]; rfl, by rw [kk0]; decide⟩ lmX9_done rfl rfl (Nat.le_of_ble_eq_true rfl) (by decide) (Nat.le_refl 0) (Nat.le_refl 0) (hC := hcl) (fun r n2 S2 m4 hP => ?_)
  obtain ⟨⟨rfl, rfl⟩, z3, rfl, hq⟩ := hP
  have h := h z3 m4 hq
  exact s_ireturn dX9_addClip_18 (Or.inl rfl) ⟨⟨rfl, rfl⟩, _, rfl, h⟩
theorem ve_X9_addClip {x1 x2 x3 x4 x5 : Int} {μ : am_M} {Q : Int → am_M → Prop} (h : at_I kC 7 mX9_addClip 0 [vR 0, vI x1, vI x2, vI x3, vI x4, vI x5] [] μ Q) : cl_I kC 7 mX9_addClip [vR 0, vI x1, vI x2, vI x3, vI x4, vI x5] μ Q := am_intro pmX9_addClip (Nat.le_of_ble_eq_true rfl) rfl h
theorem sp_X9_addClip {K : Int} {μ : am_M} {t s so of ln : Int} (hI : CI K μ) (hK : K < 100000) : cl_I kC 7 mX9_addClip [vR 0, vI t, vI s, vI so, vI of, vI ln] μ (fun z m => cm_ [] μ m z (o_add (pC μ 1) t s so of ln)) :=
  ve_X9_addClip (vc_X9_addClip_0 ⟨_, sp_X4_placeClip hI.v.okT hI.v.hS, fun z m h => ⟨_, done_k hI hK h (l_add_is (tlC hI.v) (vLC hI.v).2.1 (vLC hI.v).l4 t s so of ln) (ov_add hI.v t s so of ln), fun z2 m2 h2 => h2⟩⟩)
theorem vc_X9_trim_0 {x1 x2 x3 : Int} {μ : am_M} {Q : Int → am_M → Prop} (h : ∃ P : Int → am_M → Prop, cl_I kC 5 mX4_trimClip [vR 1, vI x1, vI x2, vI x3] μ P ∧ (∀ (z1 : Int) (m2 : am_M), P z1 m2 → ∃ P : Int → am_M → Prop, cl_I kC 6 mX9_done [vR 0, vI z1] m2 P ∧ (∀ (z3 : Int) (m4 : am_M), P z3 m4 → Q z3 m4))) : at_I kC 7 mX9_trim 0 [vR 0, vI x1, vI x2, vI x3] [] μ Q := by
  refine s_aload_n dX9_trim_0 rfl rfl ?_
  refine s_aload_n dX9_trim_1 rfl rfl ?_
  refine s_getR dX9_trim_2 flX9_12 kn0 kk0 rfl kr0_0 ?_
  refine s_iload_n dX9_trim_5 rfl rfl ?_
  refine s_iload_n dX9_trim_6 rfl rfl ?_
  refine s_iload_n dX9_trim_7 rfl rfl ?_
  obtain ⟨P, hcl, h⟩ := h
  refine s_callV (As := [vI x1, vI x2, vI x3]) (rest := [vR 0]) (k := 1) dX9_trim_8 lkX9_164 kn1 ⟨by rw [kk1]; rfl, by rw [kk1]; decide⟩ lmX4_trimClip rfl rfl (Nat.le_of_ble_eq_true rfl) (by decide) (Nat.le_refl 0) (Nat.le_refl 0) (hC := hcl) (fun r n2 S2 m2 hP => ?_)
  obtain ⟨⟨rfl, rfl⟩, z1, rfl, hq⟩ := hP
  have h := h z1 m2 hq
  obtain ⟨P, hcl, h⟩ := h
  refine s_callV (As := [vI z1]) (rest := []) (k := 0) dX9_trim_11 lkX9_72 kn0 ⟨by rw [kk0]; rfl, by rw [kk0]; decide⟩ lmX9_done rfl rfl (Nat.le_of_ble_eq_true rfl) (by decide) (Nat.le_refl 0) (Nat.le_refl 0) (hC := hcl) (fun r n2 S2 m4 hP => ?_)
  obtain ⟨⟨rfl, rfl⟩, z3, rfl, hq⟩ := hP
  have h := h z3 m4 hq
  exact s_ireturn dX9_trim_14 (Or.inl rfl) ⟨⟨rfl, rfl⟩, _, rfl, h⟩
theorem ve_X9_trim {x1 x2 x3 : Int} {μ : am_M} {Q : Int → am_M → Prop} (h : at_I kC 7 mX9_trim 0 [vR 0, vI x1, vI x2, vI x3] [] μ Q) : cl_I kC 7 mX9_trim [vR 0, vI x1, vI x2, vI x3] μ Q := am_intro pmX9_trim (Nat.le_of_ble_eq_true rfl) rfl h
theorem sp_X9_trim {K : Int} {μ : am_M} {c sd fr : Int} (hI : CI K μ) (hK : K < 100000) : cl_I kC 7 mX9_trim [vR 0, vI c, vI sd, vI fr] μ (fun z m => cm_ [] μ m z (o_trm (pC μ 1) c sd fr)) :=
  ve_X9_trim (vc_X9_trim_0 ⟨_, sp_X4_trimClip hI.v.okT hI.v.hS (fun i i0 i1 => (hI.v.hc i i0 i1).2.1), fun z m h => ⟨_, done_k hI hK h (l_trm_is (tlC hI.v) c sd fr) (ov_trm hI.v c sd fr), fun z2 m2 h2 => h2⟩⟩)
theorem vc_X9_cut_0 {x1 x2 : Int} {μ : am_M} {Q : Int → am_M → Prop} (h : ∃ P : Int → am_M → Prop, cl_I kC 6 mX4_cutFrames [vR 1, vI x1, vI x2] μ P ∧ (∀ (z1 : Int) (m2 : am_M), P z1 m2 → ∃ P : Int → am_M → Prop, cl_I kC 6 mX9_done [vR 0, vI z1] m2 P ∧ (∀ (z3 : Int) (m4 : am_M), P z3 m4 → Q z3 m4))) : at_I kC 8 mX9_cut 0 [vR 0, vI x1, vI x2] [] μ Q := by
  refine s_aload_n dX9_cut_0 rfl rfl ?_
  refine s_aload_n dX9_cut_1 rfl rfl ?_
  refine s_getR dX9_cut_2 flX9_12 kn0 kk0 rfl kr0_0 ?_
  refine s_iload_n dX9_cut_5 rfl rfl ?_
  refine s_iload_n dX9_cut_6 rfl rfl ?_
  obtain ⟨P, hcl, h⟩ := h
  refine s_callV (As := [vI x1, vI x2]) (rest := [vR 0]) (k := 1) dX9_cut_7 lkX9_193 kn1 ⟨by rw [kk1]; rfl, by rw [kk1]; decide⟩ lmX4_cutFrames rfl rfl (Nat.le_of_ble_eq_true rfl) (by decide) (Nat.le_refl 0) (Nat.le_refl 0) (hC := hcl) (fun r n2 S2 m2 hP => ?_)
  obtain ⟨⟨rfl, rfl⟩, z1, rfl, hq⟩ := hP
  have h := h z1 m2 hq
  obtain ⟨P, hcl, h⟩ := h
  refine s_callV (As := [vI z1]) (rest := []) (k := 0) dX9_cut_10 lkX9_72 kn0 ⟨by rw [kk0]; rfl, by rw [kk0]; decide⟩ lmX9_done rfl rfl (Nat.le_of_ble_eq_true rfl) (by decide) (Nat.le_refl 0) (Nat.le_refl 0) (hC := hcl) (fun r n2 S2 m4 hP => ?_)
  obtain ⟨⟨rfl, rfl⟩, z3, rfl, hq⟩ := hP
  have h := h z3 m4 hq
  exact s_ireturn dX9_cut_13 (Or.inl rfl) ⟨⟨rfl, rfl⟩, _, rfl, h⟩
theorem ve_X9_cut {x1 x2 : Int} {μ : am_M} {Q : Int → am_M → Prop} (h : at_I kC 8 mX9_cut 0 [vR 0, vI x1, vI x2] [] μ Q) : cl_I kC 8 mX9_cut [vR 0, vI x1, vI x2] μ Q := am_intro pmX9_cut (Nat.le_of_ble_eq_true rfl) rfl h
theorem cut_C {μ : am_M} (hV : vC μ) (h7 : 0 ≤ μ 7 2) (a b : Int) : cl_I kC 6 mX4_cutFrames [vR 1, vI a, vI b] μ (fun z m => lk_ μ m z (r_cut (pL (pC μ 1)) (hC μ) a b)) :=
  sp_X4_cutFrames _ _ (tlC hV) (hl_hC h7) (vLC hV).ok (vLC hV).2.1 (vLC hV).2.2 hV.hl (fun p hp => (hV.hh p hp).1)
theorem ins_C {μ : am_M} (hV : vC μ) (h7 : 0 ≤ μ 7 2) (a l : Int) : cl_I kC 6 mX4_insertFrames [vR 1, vI a, vI l] μ (fun z m => lk_ μ m z (r_ins (pL (pC μ 1)) (hC μ) a l)) :=
  sp_X4_insertFrames _ _ (tlC hV) (hl_hC h7) (vLC hV).ok (vLC hV).2.1 (vLC hV).2.2 hV.hl (fun p hp => (hV.hh p hp).1)
theorem sp_X9_cut {K : Int} {μ : am_M} {a b : Int} (hI : CI K μ) (hK : K < 100000) : cl_I kC 8 mX9_cut [vR 0, vI a, vI b] μ (fun z m => cm_ [] μ m z (o_cut (pC μ 1) a b)) :=
  ve_X9_cut (vc_X9_cut_0 ⟨_, cut_C hI.v hI.h7 a b, fun z m h => ⟨_, done_c hI hK (lk_w h).2.1 (lk_w h).1 (lk_w h).2.2.1 (ov_cut hI.v a b) (lk_w h).2.2.2, fun z2 m2 h2 => h2⟩⟩)
theorem vc_X9_insert_0 {x1 x2 : Int} {μ : am_M} {Q : Int → am_M → Prop} (h : ∃ P : Int → am_M → Prop, cl_I kC 6 mX4_insertFrames [vR 1, vI x1, vI x2] μ P ∧ (∀ (z1 : Int) (m2 : am_M), P z1 m2 → ∃ P : Int → am_M → Prop, cl_I kC 6 mX9_done [vR 0, vI z1] m2 P ∧ (∀ (z3 : Int) (m4 : am_M), P z3 m4 → Q z3 m4))) : at_I kC 8 mX9_insert 0 [vR 0, vI x1, vI x2] [] μ Q := by
  refine s_aload_n dX9_insert_0 rfl rfl ?_
  refine s_aload_n dX9_insert_1 rfl rfl ?_
  refine s_getR dX9_insert_2 flX9_12 kn0 kk0 rfl kr0_0 ?_
  refine s_iload_n dX9_insert_5 rfl rfl ?_
  refine s_iload_n dX9_insert_6 rfl rfl ?_
  obtain ⟨P, hcl, h⟩ := h
  refine s_callV (As := [vI x1, vI x2]) (rest := [vR 0]) (k := 1) dX9_insert_7 lkX9_196 kn1 ⟨by rw [kk1]; rfl, by rw [kk1]; decide⟩ lmX4_insertFrames rfl rfl (Nat.le_of_ble_eq_true rfl) (by decide) (Nat.le_refl 0) (Nat.le_refl 0) (hC := hcl) (fun r n2 S2 m2 hP => ?_)
  obtain ⟨⟨rfl, rfl⟩, z1, rfl, hq⟩ := hP
  have h := h z1 m2 hq
  obtain ⟨P, hcl, h⟩ := h
  refine s_callV (As := [vI z1]) (rest := []) (k := 0) dX9_insert_10 lkX9_72 kn0 ⟨by rw [kk0]; rfl, by rw [kk0]; decide⟩ lmX9_done rfl rfl (Nat.le_of_ble_eq_true rfl) (by decide) (Nat.le_refl 0) (Nat.le_refl 0) (hC := hcl) (fun r n2 S2 m4 hP => ?_)
  obtain ⟨⟨rfl, rfl⟩, z3, rfl, hq⟩ := hP
  have h := h z3 m4 hq
  exact s_ireturn dX9_insert_13 (Or.inl rfl) ⟨⟨rfl, rfl⟩, _, rfl, h⟩
theorem ve_X9_insert {x1 x2 : Int} {μ : am_M} {Q : Int → am_M → Prop} (h : at_I kC 8 mX9_insert 0 [vR 0, vI x1, vI x2] [] μ Q) : cl_I kC 8 mX9_insert [vR 0, vI x1, vI x2] μ Q := am_intro pmX9_insert (Nat.le_of_ble_eq_true rfl) rfl h
theorem sp_X9_insert {K : Int} {μ : am_M} {a l : Int} (hI : CI K μ) (hK : K < 100000) : cl_I kC 8 mX9_insert [vR 0, vI a, vI l] μ (fun z m => cm_ [] μ m z (o_ins (pC μ 1) a l)) :=
  ve_X9_insert (vc_X9_insert_0 ⟨_, ins_C hI.v hI.h7 a l, fun z m h => ⟨_, done_c hI hK (lk_w h).2.1 (lk_w h).1 (lk_w h).2.2.1 (ov_ins hI.v a l) (lk_w h).2.2.2, fun z2 m2 h2 => h2⟩⟩)
theorem vc_X9_chapter_0 {x1 x2 : Int} {μ : am_M} {Q : Int → am_M → Prop} (h : ∃ P : Int → am_M → Prop, cl_I kC 2 mX0_enter [vR 7, vI x1, vI x2] μ P ∧ (∀ (z1 : Int) (m2 : am_M), P z1 m2 → ∃ P : Int → am_M → Prop, cl_I kC 6 mX9_done [vR 0, vI z1] m2 P ∧ (∀ (z3 : Int) (m4 : am_M), P z3 m4 → Q z3 m4))) : at_I kC 7 mX9_chapter 0 [vR 0, vI x1, vI x2] [] μ Q := by
  refine s_aload_n dX9_chapter_0 rfl rfl ?_
  refine s_aload_n dX9_chapter_1 rfl rfl ?_
  refine s_getR dX9_chapter_2 flX9_12 kn0 kk0 rfl kr0_0 ?_
  refine s_getR dX9_chapter_5 flX9_199 kn1 kk1 rfl kr1_4 ?_
  refine s_iload_n dX9_chapter_8 rfl rfl ?_
  refine s_iload_n dX9_chapter_9 rfl rfl ?_
  obtain ⟨P, hcl, h⟩ := h
  refine s_callV (As := [vI x1, vI x2]) (rest := [vR 0]) (k := 7) dX9_chapter_10 lkX9_203 kn7 ⟨by rw [kk7]; rfl, by rw [kk7]; decide⟩ lmX0_enter rfl rfl (Nat.le_of_ble_eq_true rfl) (by decide) (Nat.le_refl 0) (Nat.le_refl 0) (hC := hcl) (fun r n2 S2 m2 hP => ?_)
  obtain ⟨⟨rfl, rfl⟩, z1, rfl, hq⟩ := hP
  have h := h z1 m2 hq
  obtain ⟨P, hcl, h⟩ := h
  refine s_callV (As := [vI z1]) (rest := []) (k := 0) dX9_chapter_13 lkX9_72 kn0 ⟨by rw [kk0]; rfl, by rw [kk0]; decide⟩ lmX9_done rfl rfl (Nat.le_of_ble_eq_true rfl) (by decide) (Nat.le_refl 0) (Nat.le_refl 0) (hC := hcl) (fun r n2 S2 m4 hP => ?_)
  obtain ⟨⟨rfl, rfl⟩, z3, rfl, hq⟩ := hP
  have h := h z3 m4 hq
  exact s_ireturn dX9_chapter_16 (Or.inl rfl) ⟨⟨rfl, rfl⟩, _, rfl, h⟩
theorem ve_X9_chapter {x1 x2 : Int} {μ : am_M} {Q : Int → am_M → Prop} (h : at_I kC 7 mX9_chapter 0 [vR 0, vI x1, vI x2] [] μ Q) : cl_I kC 7 mX9_chapter [vR 0, vI x1, vI x2] μ Q := am_intro pmX9_chapter (Nat.le_of_ble_eq_true rfl) rfl h
theorem sp_X9_chapter {K : Int} {μ : am_M} {f t : Int} (hI : CI K μ) (hK : K < 100000) : cl_I kC 7 mX9_chapter [vR 0, vI f, vI t] μ (fun z m => cm_ [] μ m z (o_ent (pC μ 1) f t)) :=
  ve_X9_chapter (vc_X9_chapter_0 ⟨_, sp_X0_enter (hC μ) (hl_hC hI.h7) hI.v.hl, fun z m h => ⟨_, done_c hI hK (hk_w h.2).1 h.1 (hk_w h.2).2.1 (ov_ent hI.v f t) (hk_w h.2).2.2, fun z2 m2 h2 => h2⟩⟩)
theorem vc_X9_dropChapter_0 {x1 : Int} {μ : am_M} {Q : Int → am_M → Prop} (h : ∃ P : Int → am_M → Prop, cl_I kC 2 mX0_takeOut [vR 7, vI x1] μ P ∧ (∀ (z1 : Int) (m2 : am_M), P z1 m2 → ∃ P : Int → am_M → Prop, cl_I kC 6 mX9_done [vR 0, vI z1] m2 P ∧ (∀ (z3 : Int) (m4 : am_M), P z3 m4 → Q z3 m4))) : at_I kC 7 mX9_dropChapter 0 [vR 0, vI x1] [] μ Q := by
  refine s_aload_n dX9_dropChapter_0 rfl rfl ?_
  refine s_aload_n dX9_dropChapter_1 rfl rfl ?_
  refine s_getR dX9_dropChapter_2 flX9_12 kn0 kk0 rfl kr0_0 ?_
  refine s_getR dX9_dropChapter_5 flX9_199 kn1 kk1 rfl kr1_4 ?_
  refine s_iload_n dX9_dropChapter_8 rfl rfl ?_
  obtain ⟨P, hcl, h⟩ := h
  refine s_callV (As := [vI x1]) (rest := [vR 0]) (k := 7) dX9_dropChapter_9 lkX9_208 kn7 ⟨by rw [kk7]; rfl, by rw [kk7]; decide⟩ lmX0_takeOut rfl rfl (Nat.le_of_ble_eq_true rfl) (by decide) (Nat.le_refl 0) (Nat.le_refl 0) (hC := hcl) (fun r n2 S2 m2 hP => ?_)
  obtain ⟨⟨rfl, rfl⟩, z1, rfl, hq⟩ := hP
  have h := h z1 m2 hq
  obtain ⟨P, hcl, h⟩ := h
  refine s_callV (As := [vI z1]) (rest := []) (k := 0) dX9_dropChapter_12 lkX9_72 kn0 ⟨by rw [kk0]; rfl, by rw [kk0]; decide⟩ lmX9_done rfl rfl (Nat.le_of_ble_eq_true rfl) (by decide) (Nat.le_refl 0) (Nat.le_refl 0) (hC := hcl) (fun r n2 S2 m4 hP => ?_)
  obtain ⟨⟨rfl, rfl⟩, z3, rfl, hq⟩ := hP
  have h := h z3 m4 hq
  exact s_ireturn dX9_dropChapter_15 (Or.inl rfl) ⟨⟨rfl, rfl⟩, _, rfl, h⟩
theorem ve_X9_dropChapter {x1 : Int} {μ : am_M} {Q : Int → am_M → Prop} (h : at_I kC 7 mX9_dropChapter 0 [vR 0, vI x1] [] μ Q) : cl_I kC 7 mX9_dropChapter [vR 0, vI x1] μ Q := am_intro pmX9_dropChapter (Nat.le_of_ble_eq_true rfl) rfl h
theorem sp_X9_dropChapter {K : Int} {μ : am_M} {c : Int} (hI : CI K μ) (hK : K < 100000) : cl_I kC 7 mX9_dropChapter [vR 0, vI c] μ (fun z m => cm_ [] μ m z (o_out (pC μ 1) c)) :=
  ve_X9_dropChapter (vc_X9_dropChapter_0 ⟨_, sp_X0_takeOut (hC μ) (hl_hC hI.h7) hI.v.hl, fun z m h => ⟨_, done_c hI hK (hk_w h.2).1 h.1 (hk_w h.2).2.1 (ov_out hI.v c) (hk_w h.2).2.2, fun z2 m2 h2 => h2⟩⟩)
theorem vc_X9_set_0 {x1 x2 : Int} {μ : am_M} {Q : Int → am_M → Prop} (h : (∀ (z1 : Int) (m2 : am_M), (badE x1 x2 ∧ z1 = -2 ∧ m2 = μ) ∨ (¬ badE x1 x2 ∧ z1 = μ 2 (x1).toNat ∧ m2 = am_st μ 2 (am_up (μ 2) (x1).toNat x2)) → ∃ P : Int → am_M → Prop, cl_I kC 6 mX9_done [vR 0, vI z1] m2 P ∧ (∀ (z3 : Int) (m4 : am_M), P z3 m4 → Q z3 m4))) : at_I kC 7 mX9_set 0 [vR 0, vI x1, vI x2] [] μ Q := by
  refine s_aload_n dX9_set_0 rfl rfl ?_
  refine s_aload_n dX9_set_1 rfl rfl ?_
  refine s_getR dX9_set_2 flX9_12 kn0 kk0 rfl kr0_0 ?_
  refine s_iload_n dX9_set_5 rfl rfl ?_
  refine s_iload_n dX9_set_6 rfl rfl ?_
  refine s_callV (As := [vI x1, vI x2]) (rest := [vR 0]) (k := 1) dX9_set_7 lkX9_103 kn1 ⟨by rw [kk1]; rfl, by rw [kk1]; decide⟩ lmX4_changeSetting rfl rfl (Nat.le_of_ble_eq_true rfl) (by decide) (Nat.le_refl 0) (Nat.le_refl 0) (hC := sp_X4_changeSetting  ) (fun r n2 S2 m2 hP => ?_)
  obtain ⟨⟨rfl, rfl⟩, z1, rfl, hq⟩ := hP
  have h := h z1 m2 hq
  obtain ⟨P, hcl, h⟩ := h
  refine s_callV (As := [vI z1]) (rest := []) (k := 0) dX9_set_10 lkX9_72 kn0 ⟨by rw [kk0]; rfl, by rw [kk0]; decide⟩ lmX9_done rfl rfl (Nat.le_of_ble_eq_true rfl) (by decide) (Nat.le_refl 0) (Nat.le_refl 0) (hC := hcl) (fun r n2 S2 m4 hP => ?_)
  obtain ⟨⟨rfl, rfl⟩, z3, rfl, hq⟩ := hP
  have h := h z3 m4 hq
  exact s_ireturn dX9_set_13 (Or.inl rfl) ⟨⟨rfl, rfl⟩, _, rfl, h⟩
theorem ve_X9_set {x1 x2 : Int} {μ : am_M} {Q : Int → am_M → Prop} (h : at_I kC 7 mX9_set 0 [vR 0, vI x1, vI x2] [] μ Q) : cl_I kC 7 mX9_set [vR 0, vI x1, vI x2] μ Q := am_intro pmX9_set (Nat.le_of_ble_eq_true rfl) rfl h
theorem sp_X9_set {K : Int} {μ : am_M} {w v : Int} (hI : CI K μ) (hK : K < 100000) : cl_I kC 7 mX9_set [vR 0, vI w, vI v] μ (fun z m => cm_ [] μ m z (o_set (pC μ 1) w v)) := by
  refine ve_X9_set (vc_X9_set_0 (fun z m h => ⟨_, done_c hI hK (R := o_set (pC μ 1) w v) ?_ ?_ ?_ (ov_set hI.v w v) ?_, fun z2 m2 h2 => h2⟩))
  · rcases h with ⟨-, -, e⟩ | ⟨-, -, e⟩
    · rw [e]; exact fr_rf
    · rw [e]; exact fr_st (by decide)
  · rcases h with ⟨c, e, -⟩ | ⟨c, e, -⟩
    · rw [e, show o_set (pC μ 1) w v = _ from cif_t c]
    · rw [e, show o_set (pC μ 1) w v = _ from cif_f c]; rfl
  · rcases h with ⟨c, -, e⟩ | ⟨c, -, e⟩
    · rw [e, show o_set (pC μ 1) w v = _ from cif_t c]; exact pe_rf
    · rw [e, show o_set (pC μ 1) w v = _ from cif_f c]
      have n : ∀ k, k ≠ 2 → am_st μ 2 (am_up (μ 2) w.toNat v) k = μ k := fun k hk => st_n hk
      refine ⟨fun i _ => ?_, fun i k _ _ _ _ => ?_, ?_, fun i k _ _ _ _ => ?_, ?_, fun i k _ _ _ _ => ?_, ?_⟩
      · show am_up (μ 2) w.toNat v i = am_st μ 2 (am_up (μ 2) w.toNat v) 2 i
        rw [st_s]
      · show tg (μ 3) 7 i k = tg (am_st μ 2 (am_up (μ 2) w.toNat v) 3) 7 i k
        rw [n 3 (by decide)]
      · show μ 1 5 = am_st μ 2 (am_up (μ 2) w.toNat v) 1 5
        rw [n 1 (by decide)]
      · show tg (μ 4) 4 i k = tg (am_st μ 2 (am_up (μ 2) w.toNat v) 4) 4 i k
        rw [n 4 (by decide)]
      · show μ 5 1 = am_st μ 2 (am_up (μ 2) w.toNat v) 5 1
        rw [n 5 (by decide)]
      · show tg (μ 6) 8 i k = tg (am_st μ 2 (am_up (μ 2) w.toNat v) 6) 8 i k
        rw [n 6 (by decide)]
      · show hC μ = hC (am_st μ 2 (am_up (μ 2) w.toNat v))
        unfold hC
        rw [n 7 (by decide), n 8 (by decide), n 9 (by decide)]
  · rcases h with ⟨-, -, e⟩ | ⟨-, -, e⟩
    · rw [e]; exact hI.h7
    · rw [e, st_n (by decide)]; exact hI.h7
theorem vc_X9_addSource_0 {x1 x2 x3 x4 : Int} {μ : am_M} {Q : Int → am_M → Prop} (h : (in_ 0 7 (μ 1 5)) ∧ (∀ (z1 : Int) (m2 : am_M), z1 = (r_src (μ 1 5) (tg (μ 4) 4) x1 x2 x3 x4).1 ∧ fr_ [1, 4] μ m2 ∧ m2 1 5 = (r_src (μ 1 5) (tg (μ 4) 4) x1 x2 x3 x4).2.1 ∧ eq_T (m2 1 5) 4 (tg (m2 4) 4) (r_src (μ 1 5) (tg (μ 4) 4) x1 x2 x3 x4).2.2 → ∃ P : Int → am_M → Prop, cl_I kC 6 mX9_done [vR 0, vI z1] m2 P ∧ (∀ (z3 : Int) (m4 : am_M), P z3 m4 → Q z3 m4))) : at_I kC 7 mX9_addSource 0 [vR 0, vI x1, vI x2, vI x3, vI x4] [] μ Q := by
  refine s_aload_n dX9_addSource_0 rfl rfl ?_
  refine s_aload_n dX9_addSource_1 rfl rfl ?_
  refine s_getR dX9_addSource_2 flX9_12 kn0 kk0 rfl kr0_0 ?_
  refine s_iload_n dX9_addSource_5 rfl rfl ?_
  refine s_iload_n dX9_addSource_6 rfl rfl ?_
  refine s_iload_n dX9_addSource_7 rfl rfl ?_
  refine s_iload dX9_addSource_8 rfl ?_
  obtain ⟨p0, h⟩ := h
  refine s_callV (As := [vI x1, vI x2, vI x3, vI x4]) (rest := [vR 0]) (k := 1) dX9_addSource_10 lkX9_68 kn1 ⟨by rw [kk1]; rfl, by rw [kk1]; decide⟩ lmX4_putSource rfl rfl (Nat.le_of_ble_eq_true rfl) (by decide) (Nat.le_refl 0) (Nat.le_refl 0) (hC := sp_X4_putSource  p0) (fun r n2 S2 m2 hP => ?_)
  obtain ⟨⟨rfl, rfl⟩, z1, rfl, hq⟩ := hP
  have h := h z1 m2 hq
  obtain ⟨P, hcl, h⟩ := h
  refine s_callV (As := [vI z1]) (rest := []) (k := 0) dX9_addSource_13 lkX9_72 kn0 ⟨by rw [kk0]; rfl, by rw [kk0]; decide⟩ lmX9_done rfl rfl (Nat.le_of_ble_eq_true rfl) (by decide) (Nat.le_refl 0) (Nat.le_refl 0) (hC := hcl) (fun r n2 S2 m4 hP => ?_)
  obtain ⟨⟨rfl, rfl⟩, z3, rfl, hq⟩ := hP
  have h := h z3 m4 hq
  exact s_ireturn dX9_addSource_16 (Or.inl rfl) ⟨⟨rfl, rfl⟩, _, rfl, h⟩
theorem ve_X9_addSource {x1 x2 x3 x4 : Int} {μ : am_M} {Q : Int → am_M → Prop} (h : at_I kC 7 mX9_addSource 0 [vR 0, vI x1, vI x2, vI x3, vI x4] [] μ Q) : cl_I kC 7 mX9_addSource [vR 0, vI x1, vI x2, vI x3, vI x4] μ Q := am_intro pmX9_addSource (Nat.le_of_ble_eq_true rfl) rfl h
theorem sp_X9_addSource {K : Int} {μ : am_M} {k n a b : Int} (hI : CI K μ) (hK : K < 100000) : cl_I kC 7 mX9_addSource [vR 0, vI k, vI n, vI a, vI b] μ (fun z m => cm_ [] μ m z (o_src (pC μ 1) k n a b)) := by
  refine ve_X9_addSource (vc_X9_addSource_0 ⟨hI.v.hS.1, fun z m ⟨h1, h2, h3, h4⟩ => ⟨_, done_c hI hK (R := o_src (pC μ 1) k n a b) (fr_up h2 (by decide)) h1 ?_ (ov_src hI.v k n a b) ?_, fun z2 m2 h2 => h2⟩⟩)
  · have e : ∀ k, k ≠ 1 → k ≠ 4 → m k = μ k := fun k a b => h2 k (by simp [a, b])
    refine ⟨fun i _ => ?_, fun i k _ _ _ _ => ?_, ?_, fun i j i0 i1 j0 j1 => ?_, ?_, fun i k _ _ _ _ => ?_, ?_⟩
    · show μ 2 i = m 2 i
      rw [e 2 (by decide) (by decide)]
    · show tg (μ 3) 7 i k = tg (m 3) 7 i k
      rw [e 3 (by decide) (by decide)]
    · exact h3.symm
    · exact (h4 i j i0 (by rw [h3]; exact i1) j0 j1).symm
    · show μ 5 1 = m 5 1
      rw [e 5 (by decide) (by decide)]
    · show tg (μ 6) 8 i k = tg (m 6) 8 i k
      rw [e 6 (by decide) (by decide)]
    · show hC μ = hC m
      unfold hC
      rw [e 7 (by decide) (by decide), e 8 (by decide) (by decide), e 9 (by decide) (by decide)]
  · rw [h2 7 (by decide)]; exact hI.h7
theorem vc_X9_setTrack_0 {x1 x2 x3 : Int} {μ : am_M} {Q : Int → am_M → Prop} (h : (0 ≤ x1 ∧ x1 < 4 → (okTr x1 x2 x3 → ∃ P : Int → am_M → Prop, cl_I kC 2 mX9_trackAnswer [vR 0, vI x1, vI x2] μ P ∧ (∀ (z1 : Int) (m2 : am_M), P z1 m2 → (am_in (x1 * 7)) ∧ ((am_in ((x1 * 7) + x2)) ∧ ((0 ≤ (x1 * 7) + x2) ∧ ((x1 * 7) + x2 < 28) ∧ (∀ m3 : am_M, m3 = am_st m2 3 (am_up (m2 3) ((x1 * 7) + x2).toNat x3) → ∃ P : am_M → Prop, cl_V kC 5 mX9_noteChange [vR 0] m3 P ∧ (∀ m5 : am_M, P m5 → Q z1 m5)))))) ∧ (¬ (okTr x1 x2 x3) → Q (-2) μ)) ∧ (¬ (0 ≤ x1 ∧ x1 < 4) → Q (-1) μ)) : at_I kC 7 mX9_setTrack 0 [vR 0, vI x1, vI x2, vI x3, vU] [] μ Q := by
  refine s_iload_n dX9_setTrack_0 rfl rfl ?_
  refine s_callS (As := [vI x1]) (rest := []) dX9_setTrack_1 lkX9_106 lmX9_isTrack rfl rfl (Nat.le_of_ble_eq_true rfl) (by decide) (Nat.le_refl 0) (Nat.le_refl 0) (hC := sp_X9_isTrack (Q := fun z m => bI (0 ≤ x1 ∧ x1 < 4) = z ∧ μ = m)  ⟨rfl, rfl⟩) (fun r n2 S2 m2 hP => ?_)
  obtain ⟨⟨rfl, rfl⟩, z, rfl, rfl, rfl⟩ := hP
  refine s_if_ne dX9_setTrack_4 (tgt := 9) (by decide) (fun cc => ?_) (fun cc => ?_)
  · have h := h.1 (bI_ne cc)
    refine s_aload_n dX9_setTrack_9 rfl rfl ?_
    refine s_getR dX9_setTrack_10 flX9_12 kn0 kk0 rfl kr0_0 ?_
    refine s_iload_n dX9_setTrack_13 rfl rfl ?_
    refine s_iload_n dX9_setTrack_14 rfl rfl ?_
    refine s_iload_n dX9_setTrack_15 rfl rfl ?_
    refine s_callV (As := [vI x1, vI x2, vI x3]) (rest := []) (k := 1) dX9_setTrack_16 lkX9_109 kn1 ⟨by rw [kk1]; rfl, by rw [kk1]; decide⟩ lmX4_fitsTrack rfl rfl (Nat.le_of_ble_eq_true rfl) (by decide) (Nat.le_refl 0) (Nat.le_refl 0) (hC := sp_X4_fitsTrack (Q := fun z m => bI (okTr x1 x2 x3) = z ∧ μ = m)  ⟨rfl, rfl⟩) (fun r n2 S2 m2 hP => ?_)
    obtain ⟨⟨rfl, rfl⟩, z, rfl, rfl, rfl⟩ := hP
    refine s_if_ne dX9_setTrack_19 (tgt := 25) (by decide) (fun cc => ?_) (fun cc => ?_)
    · have h := h.1 (bI_ne cc)
      refine s_aload_n dX9_setTrack_25 rfl rfl ?_
      refine s_iload_n dX9_setTrack_26 rfl rfl ?_
      refine s_iload_n dX9_setTrack_27 rfl rfl ?_
      obtain ⟨P, hcl, h⟩ := h
      refine s_callV (As := [vI x1, vI x2]) (rest := []) (k := 0) dX9_setTrack_28 lkX9_113 kn0 ⟨by rw [kk0]; rfl, by rw [kk0]; decide⟩ lmX9_trackAnswer rfl rfl (Nat.le_of_ble_eq_true rfl) (by decide) (Nat.le_refl 0) (Nat.le_refl 0) (hC := hcl) (fun r n2 S2 m2 hP => ?_)
      obtain ⟨⟨rfl, rfl⟩, z1, rfl, hq⟩ := hP
      have h := h z1 m2 hq
      refine s_istore dX9_setTrack_31 (by decide) (L' := [vR 0, vI x1, vI x2, vI x3, vI z1]) rfl ?_
      refine s_aload_n dX9_setTrack_33 rfl rfl ?_
      refine s_getR dX9_setTrack_34 flX9_12 kn0 kk0 rfl kr0_0 ?_
      refine s_getR dX9_setTrack_37 flX9_116 kn1 kk1 rfl kr1_1 ?_
      refine s_iload_n dX9_setTrack_40 rfl rfl ?_
      refine s_bipush dX9_setTrack_41 (by decide) ?_
      obtain ⟨c, h⟩ := h
      refine s_imul dX9_setTrack_43 (am_w_id c) ?_
      refine s_iload_n dX9_setTrack_44 rfl rfl ?_
      obtain ⟨c, h⟩ := h
      refine s_iadd dX9_setTrack_45 (am_w_id c) ?_
      refine s_iload_n dX9_setTrack_46 rfl rfl ?_
      obtain ⟨c, c2, h⟩ := h
      obtain ⟨m3, hm3⟩ : ∃ x : am_M, x = am_st m2 3 (am_up (m2 3) ((x1 * 7) + x2).toNat x3) := ⟨_, rfl⟩
      have h := h m3 hm3
      refine s_iast dX9_setTrack_47 kn3 kk3 kl3 c c2 hm3.symm ?_
      refine s_aload_n dX9_setTrack_48 rfl rfl ?_
      obtain ⟨P, hcl, h⟩ := h
      refine s_callV (As := []) (rest := []) (k := 0) dX9_setTrack_49 lkX9_120 kn0 ⟨by rw [kk0]; rfl, by rw [kk0]; decide⟩ lmX9_noteChange rfl rfl (Nat.le_of_ble_eq_true rfl) (by decide) (Nat.le_refl 0) (Nat.le_refl 0) (hC := hcl) (fun r n2 S2 m5 hP => ?_)
      obtain ⟨⟨rfl, rfl⟩, rfl, hq⟩ := hP
      have h := h m5 hq
      refine s_iload dX9_setTrack_52 rfl ?_
      exact s_ireturn dX9_setTrack_54 (Or.inl rfl) ⟨⟨rfl, rfl⟩, _, rfl, h⟩
    · have h := h.2 (bI_eq cc)
      refine s_bipush dX9_setTrack_22 (by decide) ?_
      exact s_ireturn dX9_setTrack_24 (Or.inl rfl) ⟨⟨rfl, rfl⟩, _, rfl, h⟩
  · have h := h.2 (bI_eq cc)
    refine s_iconst dX9_setTrack_7 (by decide) ?_
    exact s_ireturn dX9_setTrack_8 (Or.inl rfl) ⟨⟨rfl, rfl⟩, _, rfl, h⟩
theorem ve_X9_setTrack {x1 x2 x3 : Int} {μ : am_M} {Q : Int → am_M → Prop} (h : at_I kC 7 mX9_setTrack 0 [vR 0, vI x1, vI x2, vI x3, vU] [] μ Q) : cl_I kC 7 mX9_setTrack [vR 0, vI x1, vI x2, vI x3] μ Q := am_intro pmX9_setTrack (Nat.le_of_ble_eq_true rfl) rfl h
/-- a track's number set: its answer may be below 0 -/
def cmt_ (μ m : am_M) (z t w v : Int) : Prop := z = (o_trk (pC μ 1) t w v).1 ∧ (¬ b_trk t w v → un_ [] μ m) ∧ (b_trk t w v → ch_ [] μ m (o_trk (pC μ 1) t w v).2)
theorem sp_X9_setTrack {K : Int} {μ : am_M} {t w v : Int} (hI : CI K μ) (hK : K < 100000) : cl_I kC 7 mX9_setTrack [vR 0, vI t, vI w, vI v] μ (fun z m => cmt_ μ m z t w v) := by
  have un := cq_un hI (cq_rf hI)
  refine ve_X9_setTrack (vc_X9_setTrack_0 ⟨fun c => ⟨fun c2 => ?_, fun c2 => ⟨by rw [trk_2 c c2], fun _ => un, fun b => absurd b.2 c2⟩⟩, fun c => ⟨by rw [trk_1 c], fun _ => un, fun b => absurd b.1 c⟩⟩)
  have b : b_trk t w v := ⟨c, c2⟩
  have c3 := c2
  unfold okTr at c3
  refine ⟨_, sp_X9_trackAnswer (Q := fun z m => z = q_tn (pC μ 1) t w ∧ m = μ) c ⟨c3.1, c3.2.1⟩ ⟨rfl, rfl⟩, ?_⟩
  rintro z m ⟨hz, rfl⟩
  refine ⟨(by (try unfold am_in); (try unfold in_ at *); omega), (by (try unfold am_in); (try unfold in_ at *); omega), by omega, by omega, fun m3 e3 => ?_⟩
  have n : ∀ k, k ≠ 3 → m3 k = m k := fun k hk => by rw [e3, st_n hk]
  have hT := hI.v.hT
  refine ⟨_, sp_X9_noteChange (ks := []) (P := (o_trk (pC m 1) t w v).2) hI hK (fun k hk => by simp at hk) (by rw [e3]; exact fr_st (by decide)) ?_ (by rw [trk_3 b]; exact trk_v hI.v b) (by rw [n 147 (by decide)]; exact hI.z) (by rw [n 7 (by decide)]; exact hI.h7), fun m5 h5 => ⟨by rw [trk_3 b, hz], fun nb => absurd b nb, fun _ => h5.1⟩⟩
  rw [trk_3 b]
  refine ⟨fun i _ => ?_, fun i k i0 i1 k0 k1 => ?_, ?_, fun i k _ _ _ _ => ?_, ?_, fun i k _ _ _ _ => ?_, ?_⟩
  · show m 2 i = m3 2 i
    rw [n 2 (by decide)]
  · show up_T (tg (m 3) 7) t w v i k = tg (m3 3) 7 i k
    rw [e3, st_s]
    exact (tg_put (n := 4) (by omega) c.1 ⟨c3.1, c3.2.1⟩ i k i0 i1 k0 k1).symm
  · show m 1 5 = m3 1 5
    rw [n 1 (by decide)]
  · show tg (m 4) 4 i k = tg (m3 4) 4 i k
    rw [n 4 (by decide)]
  · show m 5 1 = m3 5 1
    rw [n 5 (by decide)]
  · show tg (m 6) 8 i k = tg (m3 6) 8 i k
    rw [n 6 (by decide)]
  · show hC m = hC m3
    unfold hC
    rw [n 7 (by decide), n 8 (by decide), n 9 (by decide)]
theorem vc_X9_normalize_0 {x1 : Int} {μ : am_M} {Q : Int → am_M → Prop} (h : ∃ P : Int → am_M → Prop, cl_I kC 6 mX9_greatestMaster [vR 0, vI x1] μ P ∧ (∀ (z1 : Int) (m2 : am_M), P z1 m2 → (z1 ≤ 0 → ∃ P : Int → am_M → Prop, cl_I kC 6 mX9_done [vR 0, vI z1] m2 P ∧ (∀ (z3 : Int) (m4 : am_M), P z3 m4 → Q z3 m4)) ∧ (0 < z1 → ∀ m5 : am_M, m5 = am_st m2 2 (am_up (m2 2) 0 z1) → ∃ P : Int → am_M → Prop, cl_I kC 6 mX9_done [vR 0, vI z1] m5 P ∧ (∀ (z6 : Int) (m7 : am_M), P z6 m7 → Q z6 m7)))) : at_I kC 7 mX9_normalize 0 [vR 0, vI x1, vU] [] μ Q := by
  refine s_aload_n dX9_normalize_0 rfl rfl ?_
  refine s_iload_n dX9_normalize_1 rfl rfl ?_
  obtain ⟨P, hcl, h⟩ := h
  refine s_callV (As := [vI x1]) (rest := []) (k := 0) dX9_normalize_2 lkX9_272 kn0 ⟨by rw [kk0]; rfl, by rw [kk0]; decide⟩ lmX9_greatestMaster rfl rfl (Nat.le_of_ble_eq_true rfl) (by decide) (Nat.le_refl 0) (Nat.le_refl 0) (hC := hcl) (fun r n2 S2 m2 hP => ?_)
  obtain ⟨⟨rfl, rfl⟩, z1, rfl, hq⟩ := hP
  have h := h z1 m2 hq
  refine s_istore_n dX9_normalize_5 rfl (by decide) (L' := [vR 0, vI x1, vI z1]) rfl ?_
  refine s_iload_n dX9_normalize_6 rfl rfl ?_
  refine s_if_le dX9_normalize_7 (tgt := 20) (by decide) (fun cc => ?_) (fun cc => ?_)
  · have h := h.1 cc
    refine s_aload_n dX9_normalize_20 rfl rfl ?_
    refine s_iload_n dX9_normalize_21 rfl rfl ?_
    obtain ⟨P, hcl, h⟩ := h
    refine s_callV (As := [vI z1]) (rest := []) (k := 0) dX9_normalize_22 lkX9_72 kn0 ⟨by rw [kk0]; rfl, by rw [kk0]; decide⟩ lmX9_done rfl rfl (Nat.le_of_ble_eq_true rfl) (by decide) (Nat.le_refl 0) (Nat.le_refl 0) (hC := hcl) (fun r n2 S2 m4 hP => ?_)
    obtain ⟨⟨rfl, rfl⟩, z3, rfl, hq⟩ := hP
    have h := h z3 m4 hq
    exact s_ireturn dX9_normalize_25 (Or.inl rfl) ⟨⟨rfl, rfl⟩, _, rfl, h⟩
  · have h := h.2 cc
    refine s_aload_n dX9_normalize_10 rfl rfl ?_
    refine s_getR dX9_normalize_11 flX9_12 kn0 kk0 rfl kr0_0 ?_
    refine s_getR dX9_normalize_14 flX9_275 kn1 kk1 rfl kr1_0 ?_
    refine s_iconst dX9_normalize_17 (by decide) ?_
    refine s_iload_n dX9_normalize_18 rfl rfl ?_
    obtain ⟨m5, hm5⟩ : ∃ x : am_M, x = am_st m2 2 (am_up (m2 2) 0 z1) := ⟨_, rfl⟩
    have h := h m5 hm5
    refine s_iast dX9_normalize_19 kn2 kk2 kl2 (by decide) (by decide) hm5.symm ?_
    refine s_aload_n dX9_normalize_20 rfl rfl ?_
    refine s_iload_n dX9_normalize_21 rfl rfl ?_
    obtain ⟨P, hcl, h⟩ := h
    refine s_callV (As := [vI z1]) (rest := []) (k := 0) dX9_normalize_22 lkX9_72 kn0 ⟨by rw [kk0]; rfl, by rw [kk0]; decide⟩ lmX9_done rfl rfl (Nat.le_of_ble_eq_true rfl) (by decide) (Nat.le_refl 0) (Nat.le_refl 0) (hC := hcl) (fun r n2 S2 m7 hP => ?_)
    obtain ⟨⟨rfl, rfl⟩, z6, rfl, hq⟩ := hP
    have h := h z6 m7 hq
    exact s_ireturn dX9_normalize_25 (Or.inl rfl) ⟨⟨rfl, rfl⟩, _, rfl, h⟩
theorem ve_X9_normalize {x1 : Int} {μ : am_M} {Q : Int → am_M → Prop} (h : at_I kC 7 mX9_normalize 0 [vR 0, vI x1, vU] [] μ Q) : cl_I kC 7 mX9_normalize [vR 0, vI x1] μ Q := am_intro pmX9_normalize (Nat.le_of_ble_eq_true rfl) rfl h
theorem sp_X9_normalize {K : Int} {μ : am_M} {t : Int} (hI : CI K μ) (hK : K < 100000) : cl_I kC 7 mX9_normalize [vR 0, vI t] μ (fun z m => cm_ [] μ m z (o_nor (pC μ 1) t)) := by
  have ho := ov_nor (P := pC μ 1) hI.v t
  refine ve_X9_normalize (vc_X9_normalize_0 ⟨_, sp_X9_greatestMaster hI, fun z m ⟨hz, hq⟩ => ?_⟩)
  have hz2 : z = q_master (pC μ 1) t := hz
  have f0 : fr_ ([] ++ bsL) μ m := (cq_un hI hq).1
  have p0 : pC m 1 = pC μ 1 := pe_of hq.1 (by decide)
  have h70 : m 7 2 = μ 7 2 := by rw [hq.1 7 (by decide)]
  refine ⟨fun q => ⟨_, sp_X9_done (ks := []) (P := (o_nor (pC μ 1) t).2) hI hK (fun k hk => by simp at hk) (fun _ => cq_un hI hq) (fun _ => f0) (fun _ => ?_) (fun _ => ho.2) (fun _ => hq.2.2) (fun _ => by rw [h70]; exact hI.h7), fun z2 m2 h2 => ?_⟩, fun q m5 e5 => ⟨_, sp_X9_done (ks := []) (P := (o_nor (pC μ 1) t).2) hI hK (fun k hk => by simp at hk) (fun q2 => by omega) (fun _ => by rw [e5]; exact fr_tr f0 (fr_st (by decide))) (fun _ => ?_) (fun _ => ho.2) (fun _ => by rw [e5, st_n (by decide)]; exact hq.2.2) (fun _ => by rw [e5, st_n (by decide), h70]; exact hI.h7), fun z2 m2 h2 => ?_⟩⟩
  · rw [p0]
    show pe_ (if 0 < q_master (pC μ 1) t then _ else _) _
    rw [if_neg (by omega)]
    exact pe_rf
  · rw [hz2] at h2
    exact h2
  · show pe_ (if 0 < q_master (pC μ 1) t then _ else _) _
    rw [if_pos (by omega)]
    have n : ∀ k, k ≠ 2 → k ≤ 9 → m5 k = μ k := fun k hk h9 => by
      rw [e5, st_n hk]
      exact hq.1 k (fun q => by have : ∀ k ∈ chL, 9 < k := by decide
                                have := this k q; omega)
    refine ⟨fun i _ => ?_, fun i k i0 i1 k0 k1 => ?_, ?_, fun i k _ _ _ _ => ?_, ?_, fun i k _ _ _ _ => ?_, ?_⟩
    · show am_up (μ 2) 0 (q_master (pC μ 1) t) i = m5 2 i
      rw [e5, st_s, hz2, hq.1 2 (by decide)]
    · show tg (μ 3) 7 i k = tg (m5 3) 7 i k
      rw [n 3 (by decide) (by decide)]
    · show μ 1 5 = m5 1 5
      rw [n 1 (by decide) (by decide)]
    · show tg (μ 4) 4 i k = tg (m5 4) 4 i k
      rw [n 4 (by decide) (by decide)]
    · show μ 5 1 = m5 5 1
      rw [n 5 (by decide) (by decide)]
    · show tg (μ 6) 8 i k = tg (m5 6) 8 i k
      rw [n 6 (by decide) (by decide)]
    · show hC μ = hC m5
      unfold hC
      rw [n 7 (by decide) (by decide), n 8 (by decide) (by decide), n 9 (by decide) (by decide)]
  · rw [hz2] at h2
    exact h2

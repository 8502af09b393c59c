/-! the reference's commands -/
theorem hzL {ν : am_M} (h : vR_ ν) : hz_ ν (pH (pR ν)) := (vR_h h).1
theorem trL {ν : am_M} (h : vR_ ν) : tr_ ν (pL (pR ν)) := pL_tl h.1
theorem hz_0 {ν : am_M} {H : Hl} (h : hz_ ν H) : 0 ≤ ν 1 438 := by rw [h.1]; omega
theorem peLH {ν m : am_M} {L : List Rw} {H : Hl} (hV : vR_ ν) (hT : tr_ m L) (hH : hz_ m H) (hf : fe_ ν m) : pe_ (wLH (pR ν) L H) (pR m) := by
  have hM : in_ 0 7 (ν 1 0) := hV.1.hS.1
  unfold in_ at hM
  refine ⟨fun i i5 => (hf _ (by omega) (by omega) (by omega)).symm, fun t k t0 t1 k0 k1 => (hf _ (by omega) (by omega) (by omega)).symm, (hf _ (by omega) (by omega) (by omega)).symm, fun s k s0 s1 k0 k1 => ?_, hT.1.symm, fun i k i0 i1 k0 k1 => (tl_of hT i k i0 (by rw [hT.1]; exact i1) k0 k1).symm, (hr_un hH).symm⟩
  have s1' : s < ν 1 0 := s1
  exact (hf _ (by omega) (by omega) (by omega)).symm
theorem peL {ν m : am_M} {L : List Rw} (hV : vR_ ν) (hT : tr_ m L) (hf : fv_ ν m) : pe_ (wL (pR ν) L) (pR m) := peLH hV hT (hz_fv hf hV.1.hl (hzL hV)) (fv_fe hf)
theorem peH {ν m : am_M} {H : Hl} (hV : vR_ ν) (hH : hz_ m H) (hf : fh_ ν m) : pe_ (wH (pR ν) H) (pR m) := by
  have hM : in_ 0 7 (ν 1 0) := hV.1.hS.1
  have hN : in_ 0 25 (ν 1 25) := hV.1.hn
  unfold in_ at hM hN
  refine ⟨fun i i5 => (hf _ (by omega) (by omega)).symm, fun t k t0 t1 k0 k1 => (hf _ (by omega) (by omega)).symm, (hf _ (by omega) (by omega)).symm, fun s k s0 s1 k0 k1 => ?_, (hf _ (by omega) (by omega)).symm, fun s k s0 s1 k0 k1 => ?_, (hr_un hH).symm⟩
  · have s1' : s < ν 1 0 := s1
    exact (hf _ (by omega) (by omega)).symm
  · have s1' : s < ν 1 25 := s1
    exact (hf _ (by omega) (by omega)).symm
/-- a command has begun: row 2 holds what was -/
def bg_ (fs : List Nat) (ν m : am_M) : Prop := rm_ fs ν m ∧ ∀ i : Nat, i < 470 → m 2 i = ν 1 i
theorem bg_of {fs : List Nat} {ν m m2 : am_M} (h : rm_ fs ν m) (h1 : m 1 = ν 1) (f : fr_ [2] m m2) (e : ∀ i : Nat, i < 470 → m2 2 i = m 1 i) : bg_ fs ν m2 := ⟨rm_tr h (rm_fr f (by decide)), fun i hi => by rw [e i hi, h1]⟩
theorem bg_fr {fs ks : List Nat} {ν m m2 : am_M} (h : bg_ fs ν m) (f : fr_ ks m m2) (hk : ∀ k ∈ ks, k ∈ 1 :: scR) (h2 : 2 ∉ ks) : bg_ fs ν m2 := ⟨rm_tr h.1 (rm_fr f hk), fun i hi => by rw [f 2 h2]; exact h.2 i hi⟩
/-- a command ends well -/
theorem rn_ok {K : Int} {fs : List Nat} {ν μ : am_M} {z : Int} {R : Int × Pj} (hI : RI K ν) (hK : K < 99999) (hfs : ∀ j ∈ fs, 11 < j) (hm : bg_ fs ν μ) (hp : pe_ R.2 (pR μ)) (h4 : 0 ≤ μ 1 438) (z0 : 0 ≤ z) (hz : z = R.1) : ∃ P : Int → am_M → Prop, cl_I kR 3 mX10_ends [vR 0, vI z] μ P ∧ (∀ (z5 : Int) (m6 : am_M), P z5 m6 → rn_ fs ν m6 z5 R) := by
  obtain ⟨n7, n9, -⟩ := ends_n hI hK hfs hm.1
  refine ⟨_, sp_X10_ends n7 n9, fun w m h => ?_⟩
  obtain ⟨hw, he⟩ := h
  exact ⟨hw.trans hz, fun q => by omega, fun _ => ends_C hI hK hfs hm.1 hm.2 hp h4 he⟩
/-- a command refuses -/
theorem rn_no {fs : List Nat} {ν m : am_M} {z : Int} {R : Int × Pj} (hV : vR_ ν) (hm : rm_ fs ν m) (h1 : m 1 = ν 1) (z0 : z < 0) (hz : z = R.1) : rn_ fs ν m z R := by
  refine ⟨hz, fun _ => ⟨hm, ?_, by rw [h1]; exact hV.2⟩, fun q => by omega⟩
  show pe_ (pA (ν 1)) (pA (m 1))
  rw [h1]
  exact pe_rf
theorem rn_nv {fs : List Nat} {ν m : am_M} {z : Int} {R : Int × Pj} (hm : rm_ fs ν m) (hp : pe_ R.2 (pR m)) (h4 : 0 ≤ m 1 438) (ho : ov_ (pR ν) R) (z0 : z < 0) (hz : z = R.1) : rn_ fs ν m z R := ⟨hz, fun _ => ⟨hm, pe_tr (pe_sy (ho.1 (by omega))) hp, h4⟩, fun q => by omega⟩
theorem em_mv {ν m : am_M} {r : Rw} {t s : Int} {m3 : am_M} (h : em_ ν r) (e3 : m3 = am_st ν 14 (am_up (ν 14) 0 t)) (e4 : m = am_st m3 14 (am_up (m3 14) 1 s)) : em_ m (mvR r t s) ∧ fr_ [14] ν m := by
  have k8 : ∀ k : Int, 0 ≤ k → k < 8 → k = 0 ∨ k = 1 ∨ k = 2 ∨ k = 3 ∨ k = 4 ∨ k = 5 ∨ k = 6 ∨ k = 7 := fun k _ _ => by omega
  have em3 : em_ m3 (fun k => if k = 0 then t else r k) := em_up (j := 0) h (by rw [e3, st_s]) (fun k k0 k1 => by rcases k8 k k0 k1 with rfl | rfl | rfl | rfl | rfl | rfl | rfl | rfl <;> simp)
  refine ⟨em_up (j := 1) em3 (by rw [e4, st_s]) (fun k k0 k1 => by rcases k8 k k0 k1 with rfl | rfl | rfl | rfl | rfl | rfl | rfl | rfl <;> simp [mvR]), ?_⟩
  rw [e4, e3]
  exact fr_tr (fr_st (by simp)) (fr_st (by simp))
/-- a row of the clips in their list -/
theorem cl_at {ν : am_M} (hV : vR_ ν) {c : Int} (h0 : 0 ≤ c) (h1 : c < ν 1 25) : ∃ A r B, pL (pR ν) = A ++ r :: B ∧ c = A.length ∧ gt_ (pL (pR ν)) c = r ∧ okC r ∧ (∀ k, 0 ≤ k → k < 8 → rg ν c k = r k) ∧ (pL (pR ν)).length = A.length + 1 + B.length ∧ ν 1 25 = A.length + 1 + B.length ∧ (pL (pR ν)).length ≤ 24 := by
  have ht := trL hV
  have hv := pL_v hV.1
  obtain ⟨A, r, B, e, hc⟩ := split_last (L := pL (pR ν)) h0 (by rw [← ht.1]; exact h1)
  have hl := hv.2.2
  have ok := hv.ok
  rw [e] at ht hl ok ⊢
  exact ⟨A, r, B, rfl, hc, gt_at hc, ok r (by simp), fun k k0 k1 => tr_at ht hc k0 k1, by simp; omega, tr_len ht, hl⟩
theorem rg_1 {ν m : am_M} (h : m 1 = ν 1) : rg m = rg ν := (r1_e h).2.1
theorem vc_X10_remove_0 {x1 : Int} {μ : am_M} {Q : Int → am_M → Prop} (h : (in_ 0 49 (μ 1 25)) ∧ ((0 ≤ x1 ∧ x1 < μ 1 25 → ∃ P : am_M → Prop, cl_V kR 2 mX10_begins [vR 0] μ P ∧ (∀ m2 : am_M, P m2 → ∃ P : am_M → Prop, cl_V kR 1 mX10_drops [vR 0, vI x1] m2 P ∧ (∀ m4 : am_M, P m4 → ∃ P : Int → am_M → Prop, cl_I kR 3 mX10_ends [vR 0, vI (m4 1 25)] m4 P ∧ (∀ (z5 : Int) (m6 : am_M), P z5 m6 → Q z5 m6)))) ∧ (¬ (0 ≤ x1 ∧ x1 < μ 1 25) → Q (-1) μ))) : at_I kR 5 mX10_remove 0 [vR 0, vI x1] [] μ Q := by
  refine s_aload_n dX10_remove_0 rfl rfl ?_
  refine s_iload_n dX10_remove_1 rfl rfl ?_
  obtain ⟨p0, h⟩ := h
  refine s_callV (As := [vI x1]) (rest := []) (k := 0) dX10_remove_2 lkX10_165 rn0 ⟨by rw [rk0]; rfl, by rw [rk0]; decide⟩ lmX10_isClip rfl rfl (Nat.le_of_ble_eq_true rfl) (by decide) (Nat.le_refl 0) (Nat.le_refl 0) (hC := sp_X10_isClip (Q := fun z m => bI (0 ≤ x1 ∧ x1 < μ 1 25) = z ∧ μ = m) p0 ⟨rfl, rfl⟩) (fun r n2 S2 m2 hP => ?_)
  obtain ⟨⟨rfl, rfl⟩, z, rfl, rfl, rfl⟩ := hP
  refine s_if_ne dX10_remove_5 (tgt := 10) (by decide) (fun cc => ?_) (fun cc => ?_)
  · have h := h.1 (bI_ne cc)
    refine s_aload_n dX10_remove_10 rfl rfl ?_
    obtain ⟨P, hcl, h⟩ := h
    refine s_callV (As := []) (rest := []) (k := 0) dX10_remove_11 lkX10_107 rn0 ⟨by rw [rk0]; rfl, by rw [rk0]; decide⟩ lmX10_begins rfl rfl (Nat.le_of_ble_eq_true rfl) (by decide) (Nat.le_refl 0) (Nat.le_refl 0) (hC := hcl) (fun r n2 S2 m2 hP => ?_)
    obtain ⟨⟨rfl, rfl⟩, rfl, hq⟩ := hP
    have h := h m2 hq
    refine s_aload_n dX10_remove_14 rfl rfl ?_
    refine s_iload_n dX10_remove_15 rfl rfl ?_
    obtain ⟨P, hcl, h⟩ := h
    refine s_callV (As := [vI x1]) (rest := []) (k := 0) dX10_remove_16 lkX10_172 rn0 ⟨by rw [rk0]; rfl, by rw [rk0]; decide⟩ lmX10_drops rfl rfl (Nat.le_of_ble_eq_true rfl) (by decide) (Nat.le_refl 0) (Nat.le_refl 0) (hC := hcl) (fun r n2 S2 m4 hP => ?_)
    obtain ⟨⟨rfl, rfl⟩, rfl, hq⟩ := hP
    have h := h m4 hq
    refine s_aload_n dX10_remove_19 rfl rfl ?_
    refine s_aload_n dX10_remove_20 rfl rfl ?_
    refine s_getR dX10_remove_21 flX10_9 rn0 rk0 rfl rr0_0 ?_
    refine s_bipush dX10_remove_24 (by decide) ?_
    refine s_iald (x := (m4 1 25)) dX10_remove_26 rn1 rk1 rl1 (by decide) (by decide) rfl ?_
    obtain ⟨P, hcl, h⟩ := h
    refine s_callV (As := [vI (m4 1 25)]) (rest := []) (k := 0) dX10_remove_27 lkX10_110 rn0 ⟨by rw [rk0]; rfl, by rw [rk0]; decide⟩ lmX10_ends rfl rfl (Nat.le_of_ble_eq_true rfl) (by decide) (Nat.le_refl 0) (Nat.le_refl 0) (hC := hcl) (fun r n2 S2 m6 hP => ?_)
    obtain ⟨⟨rfl, rfl⟩, z5, rfl, hq⟩ := hP
    have h := h z5 m6 hq
    exact s_ireturn dX10_remove_30 (Or.inl rfl) ⟨⟨rfl, rfl⟩, _, rfl, h⟩
  · have h := h.2 (bI_eq cc)
    refine s_iconst dX10_remove_8 (by decide) ?_
    exact s_ireturn dX10_remove_9 (Or.inl rfl) ⟨⟨rfl, rfl⟩, _, rfl, h⟩
theorem ve_X10_remove {x1 : Int} {μ : am_M} {Q : Int → am_M → Prop} (h : at_I kR 5 mX10_remove 0 [vR 0, vI x1] [] μ Q) : cl_I kR 5 mX10_remove [vR 0, vI x1] μ Q := am_intro pmX10_remove (Nat.le_of_ble_eq_true rfl) rfl h
theorem sp_X10_remove {K : Int} {μ : am_M} {c : Int} (hI : RI K μ) (hK : K < 99999) : cl_I kR 5 mX10_remove [vR 0, vI c] μ (fun z m => rn_ [] μ m z (o_rem (pR μ) c)) := by
  have hV := hI.1
  have ht := trL hV
  have hn := ht.1
  have h25 := vR_n hV
  refine ve_X10_remove (vc_X10_remove_0 ⟨(by (try unfold am_in); (try unfold in_ at *); omega), fun q => ?_, fun q => rn_no hV rm_rf rfl (by omega) ?_⟩)
  · obtain ⟨A, r, B, e, hc, -, -, -, hll, -, h24⟩ := cl_at hV q.1 q.2
    refine ⟨_, sp_X10_begins, fun m2 ⟨f2, e2⟩ => ?_⟩
    have b2 : bg_ [] μ m2 := bg_of rm_rf rfl f2 e2
    have ht2 : tr_ m2 (A ++ r :: B) := by rw [← e]; exact tr_r1 (f2 1 (by decide)) ht
    refine ⟨_, sp_X10_drops ht2 hc (by rw [← e]; omega), fun m4 ⟨f4, v4, t4⟩ => ?_⟩
    have eR : o_rem (pR μ) c = (((pL (pR μ)).length : Int) - 1, wL (pR μ) (A ++ B)) := by
      unfold o_rem l_rem
      rw [cif_f (by omega)]
      show (_, _) = _
      rw [show (pL (pR μ)).eraseIdx c.toNat = A ++ B by rw [e]; exact er_at hc]
    have vv : fv_ μ m4 := fv_tr (fv_e (f2 1 (by decide))) v4
    have n4 := t4.1
    rw [List.length_append] at n4
    rw [eR]
    exact rn_ok hI hK (by simp) (bg_fr b2 f4 (by decide) (by decide)) (peL hV t4 vv) (hz_0 (hz_fv vv hV.1.hl (hzL hV))) (by omega) (by show m4 1 25 = _; omega)
  · unfold o_rem l_rem
    rw [cif_t (by omega)]
    rfl
theorem vc_X10_divide_0 {x1 x2 : Int} {μ : am_M} {Q : Int → am_M → Prop} (h : (in_ 0 49 (μ 1 25)) ∧ ((0 ≤ x1 ∧ x1 < μ 1 25 → (in_ 0 48 x1) ∧ (in_ 0 8 4) ∧ ((am_in (rg μ x1 4 - 1)) ∧ ((1 ≤ x2 ∧ x2 ≤ (rg μ x1 4 - 1) → (μ 1 25 ≠ 24 → ∃ P : am_M → Prop, cl_V kR 2 mX10_begins [vR 0] μ P ∧ (∀ m2 : am_M, P m2 → ∃ P : Int → am_M → Prop, cl_I kR 3 mX10_divides [vR 0, vI x1, vI x2] m2 P ∧ (∀ (z3 : Int) (m4 : am_M), P z3 m4 → ∃ P : Int → am_M → Prop, cl_I kR 3 mX10_ends [vR 0, vI z3] m4 P ∧ (∀ (z5 : Int) (m6 : am_M), P z5 m6 → Q z5 m6)))) ∧ (μ 1 25 = 24 → Q (-3) μ)) ∧ (¬ (1 ≤ x2 ∧ x2 ≤ (rg μ x1 4 - 1)) → Q (-2) μ)))) ∧ (¬ (0 ≤ x1 ∧ x1 < μ 1 25) → Q (-1) μ))) : at_I kR 5 mX10_divide 0 [vR 0, vI x1, vI x2] [] μ Q := by
  refine s_aload_n dX10_divide_0 rfl rfl ?_
  refine s_iload_n dX10_divide_1 rfl rfl ?_
  obtain ⟨p0, h⟩ := h
  refine s_callV (As := [vI x1]) (rest := []) (k := 0) dX10_divide_2 lkX10_165 rn0 ⟨by rw [rk0]; rfl, by rw [rk0]; decide⟩ lmX10_isClip rfl rfl (Nat.le_of_ble_eq_true rfl) (by decide) (Nat.le_refl 0) (Nat.le_refl 0) (hC := sp_X10_isClip (Q := fun z m => bI (0 ≤ x1 ∧ x1 < μ 1 25) = z ∧ μ = m) p0 ⟨rfl, rfl⟩) (fun r n2 S2 m2 hP => ?_)
  obtain ⟨⟨rfl, rfl⟩, z, rfl, rfl, rfl⟩ := hP
  refine s_if_ne dX10_divide_5 (tgt := 10) (by decide) (fun cc => ?_) (fun cc => ?_)
  · have h := h.1 (bI_ne cc)
    refine s_iload_n dX10_divide_10 rfl rfl ?_
    refine s_iconst dX10_divide_11 (by decide) ?_
    refine s_aload_n dX10_divide_12 rfl rfl ?_
    refine s_iload_n dX10_divide_13 rfl rfl ?_
    refine s_iconst dX10_divide_14 (by decide) ?_
    obtain ⟨p0, p1, h⟩ := h
    refine s_callV (As := [vI x1, vI 4]) (rest := [vI 1, vI x2]) (k := 0) dX10_divide_15 lkX10_126 rn0 ⟨by rw [rk0]; rfl, by rw [rk0]; decide⟩ lmX10_of rfl rfl (Nat.le_of_ble_eq_true rfl) (by decide) (Nat.le_refl 0) (Nat.le_refl 0) (hC := sp_X10_of (Q := fun z m => rg μ x1 4 = z ∧ μ = m) p0 p1 ⟨rfl, rfl⟩) (fun r n2 S2 m2 hP => ?_)
    obtain ⟨⟨rfl, rfl⟩, z, rfl, rfl, rfl⟩ := hP
    refine s_iconst dX10_divide_18 (by decide) ?_
    obtain ⟨c, h⟩ := h
    refine s_isub dX10_divide_19 (am_w_id c) ?_
    refine s_callS (As := [vI x2, vI 1, vI (rg μ x1 4 - 1)]) (rest := []) dX10_divide_20 lkX10_103 lmX10_isIn rfl rfl (Nat.le_of_ble_eq_true rfl) (by decide) (Nat.le_refl 0) (Nat.le_refl 0) (hC := sp_X10_isIn (Q := fun z m => bI (1 ≤ x2 ∧ x2 ≤ (rg μ x1 4 - 1)) = z ∧ μ = m)  ⟨rfl, rfl⟩) (fun r n2 S2 m2 hP => ?_)
    obtain ⟨⟨rfl, rfl⟩, z, rfl, rfl, rfl⟩ := hP
    refine s_if_ne dX10_divide_23 (tgt := 29) (by decide) (fun cc => ?_) (fun cc => ?_)
    · have h := h.1 (bI_ne cc)
      refine s_aload_n dX10_divide_29 rfl rfl ?_
      refine s_getR dX10_divide_30 flX10_9 rn0 rk0 rfl rr0_0 ?_
      refine s_bipush dX10_divide_33 (by decide) ?_
      refine s_iald (x := (μ 1 25)) dX10_divide_35 rn1 rk1 rl1 (by decide) (by decide) rfl ?_
      refine s_bipush dX10_divide_36 (by decide) ?_
      refine s_icmp_ne dX10_divide_38 (tgt := 44) (by decide) (fun cc => ?_) (fun cc => ?_)
      · have h := h.1 cc
        refine s_aload_n dX10_divide_44 rfl rfl ?_
        obtain ⟨P, hcl, h⟩ := h
        refine s_callV (As := []) (rest := []) (k := 0) dX10_divide_45 lkX10_107 rn0 ⟨by rw [rk0]; rfl, by rw [rk0]; decide⟩ lmX10_begins rfl rfl (Nat.le_of_ble_eq_true rfl) (by decide) (Nat.le_refl 0) (Nat.le_refl 0) (hC := hcl) (fun r n2 S2 m2 hP => ?_)
        obtain ⟨⟨rfl, rfl⟩, rfl, hq⟩ := hP
        have h := h m2 hq
        refine s_aload_n dX10_divide_48 rfl rfl ?_
        refine s_aload_n dX10_divide_49 rfl rfl ?_
        refine s_iload_n dX10_divide_50 rfl rfl ?_
        refine s_iload_n dX10_divide_51 rfl rfl ?_
        obtain ⟨P, hcl, h⟩ := h
        refine s_callV (As := [vI x1, vI x2]) (rest := [vR 0]) (k := 0) dX10_divide_52 lkX10_184 rn0 ⟨by rw [rk0]; rfl, by rw [rk0]; decide⟩ lmX10_divides rfl rfl (Nat.le_of_ble_eq_true rfl) (by decide) (Nat.le_refl 0) (Nat.le_refl 0) (hC := hcl) (fun r n2 S2 m4 hP => ?_)
        obtain ⟨⟨rfl, rfl⟩, z3, rfl, hq⟩ := hP
        have h := h z3 m4 hq
        obtain ⟨P, hcl, h⟩ := h
        refine s_callV (As := [vI z3]) (rest := []) (k := 0) dX10_divide_55 lkX10_110 rn0 ⟨by rw [rk0]; rfl, by rw [rk0]; decide⟩ lmX10_ends rfl rfl (Nat.le_of_ble_eq_true rfl) (by decide) (Nat.le_refl 0) (Nat.le_refl 0) (hC := hcl) (fun r n2 S2 m6 hP => ?_)
        obtain ⟨⟨rfl, rfl⟩, z5, rfl, hq⟩ := hP
        have h := h z5 m6 hq
        exact s_ireturn dX10_divide_58 (Or.inl rfl) ⟨⟨rfl, rfl⟩, _, rfl, h⟩
      · have h := h.2 cc
        refine s_bipush dX10_divide_41 (by decide) ?_
        exact s_ireturn dX10_divide_43 (Or.inl rfl) ⟨⟨rfl, rfl⟩, _, rfl, h⟩
    · have h := h.2 (bI_eq cc)
      refine s_bipush dX10_divide_26 (by decide) ?_
      exact s_ireturn dX10_divide_28 (Or.inl rfl) ⟨⟨rfl, rfl⟩, _, rfl, h⟩
  · have h := h.2 (bI_eq cc)
    refine s_iconst dX10_divide_8 (by decide) ?_
    exact s_ireturn dX10_divide_9 (Or.inl rfl) ⟨⟨rfl, rfl⟩, _, rfl, h⟩
theorem ve_X10_divide {x1 x2 : Int} {μ : am_M} {Q : Int → am_M → Prop} (h : at_I kR 5 mX10_divide 0 [vR 0, vI x1, vI x2] [] μ Q) : cl_I kR 5 mX10_divide [vR 0, vI x1, vI x2] μ Q := am_intro pmX10_divide (Nat.le_of_ble_eq_true rfl) rfl h
theorem sp_X10_divide {K : Int} {μ : am_M} {c f : Int} (hI : RI K μ) (hK : K < 99999) : cl_I kR 5 mX10_divide [vR 0, vI c, vI f] μ (fun z m => rn_ [] μ m z (o_div (pR μ) c f)) := by
  have hV := hI.1
  have ht := trL hV
  have hn := ht.1
  have h25 := vR_n hV
  unfold o_div l_div
  refine ve_X10_divide (vc_X10_divide_0 ⟨(by (try unfold am_in); (try unfold in_ at *); omega), fun q => ?_, fun q => rn_no hV rm_rf rfl (by omega) ?_⟩)
  · obtain ⟨A, r, B, e, hc, hg, o, v, hll, -, h24⟩ := cl_at hV q.1 q.2
    rw [cif_f (by omega), hg, v 4 (by omega) (by omega)]
    have o2 := o
    unfold okC in_ at o2
    refine ⟨(by (try unfold am_in); (try unfold in_ at *); omega), (by (try unfold am_in); (try unfold in_ at *); omega), (by (try unfold am_in); (try unfold in_ at *); omega), fun q2 => ⟨fun q3 => ?_, fun q3 => rn_no hV rm_rf rfl (by omega) ?_⟩, fun q2 => rn_no hV rm_rf rfl (by omega) ?_⟩
    · refine ⟨_, sp_X10_begins, fun m2 ⟨f2, e2⟩ => ?_⟩
      have b2 : bg_ [] μ m2 := bg_of rm_rf rfl f2 e2
      have ht2 : tr_ m2 (A ++ r :: B) := by rw [← e]; exact tr_r1 (f2 1 (by decide)) ht
      have hv := pL_v hV.1
      have hs := hv.2.1
      have hl4 := hv.l4
      rw [e] at hs hl4
      obtain ⟨p1, p2, -, -, -, -⟩ := srt_pt hs
      refine ⟨_, sp_X10_divides ht2 hc (by rw [← e]; omega) o (fun a ha => ⟨p1 a ha, hl4 a (by simp [ha])⟩) p2 (by omega), fun z m4 ⟨hz, f4, v4, t4⟩ => ?_⟩
      have vv : fv_ μ m4 := fv_tr (fv_e (f2 1 (by decide))) v4
      rw [cif_f (by omega), cif_f (by omega)]
      refine rn_ok hI hK (by simp) (bg_fr b2 f4 (by decide) (by decide)) ?_ (hz_0 (hz_fv vv hV.1.hl (hzL hV))) (by omega) hz
      show pe_ (wL (pR μ) ((pL (pR μ)).take c.toNat ++ spl1 r f :: spl2 r f :: (pL (pR μ)).drop (c.toNat + 1))) (pR m4)
      rw [e, (td_at hc).1, (td_at hc).2]
      exact peL hV t4 vv
    · rw [cif_f (by omega), cif_t (by omega)]
      rfl
    · rw [cif_t (by omega)]
      rfl
  · rw [cif_t (by omega)]
    rfl

/-! what a cut would lead to; texts carried out -/
theorem la_pe {P Q : Pj} (h : pe_ P Q) : laP Q = laP P := by
  unfold laP
  rw [pe_N h]
  have e := h.2.2.2.2.2.1
  exact (la_c e).symm
theorem suP_pe {P Q : Pj} (hV : vP P) (h : pe_ P Q) : suP Q = suP P := by
  funext f
  exact su_pe hV h
theorem loP_pe {P Q : Pj} (hV : vP P) (h : pe_ P Q) (ms : Int) : loP Q ms = loP P ms := by
  unfold loP lvP winP gtP
  rw [suP_pe hV h, la_pe h, pe_E h (by omega), pe_E h (by omega), pe_E h (by omega)]
theorem vc_X9_afterCut_0 {x1 : Int} {μ : am_M} {Q : Int → am_M → Prop} (h : (x1 = 0 → (ok_T (cg μ) (μ 5 1)) ∧ (Q (la_ (cg μ) (μ 5 1)) μ)) ∧ (x1 = 1 → ∃ P : am_M → Prop, cl_V kC 6 mX9_measureNow [vR 0] μ P ∧ (∀ m2 : am_M, P m2 → Q (m2 144 9) m2)) ∧ (x1 = 2 → Q (μ 5 1) μ) ∧ (x1 ≠ 0 → x1 ≠ 1 → x1 ≠ 2 → Q (μ 7 2) μ)) : at_I kC 7 mX9_afterCut 0 [vR 0, vI x1] [] μ Q := by
  refine s_iload_n dX9_afterCut_0 rfl rfl ?_
  by_cases cc : x1 = 0
  · have h := h.1 cc
    refine s_table_in dX9_afterCut_1 (by omega) (by omega) (by rw [cc] <;> rfl) (tgt := 28) (by decide) ?_
    refine s_aload_n dX9_afterCut_28 rfl rfl ?_
    refine s_getR dX9_afterCut_29 flX9_12 kn0 kk0 rfl kr0_0 ?_
    refine s_getR dX9_afterCut_32 flX9_80 kn1 kk1 rfl kr1_3 ?_
    obtain ⟨p0, h⟩ := h
    refine s_callV (As := []) (rest := []) (k := 5) dX9_afterCut_35 lkX9_237 kn5 ⟨by rw [kk5]; rfl, by rw [kk5]; decide⟩ lmX1_lastEnd rfl rfl (Nat.le_of_ble_eq_true rfl) (by decide) (Nat.le_refl 0) (Nat.le_refl 0) (hC := sp_X1_lastEnd (Q := fun z m => la_ (cg μ) (μ 5 1) = z ∧ μ = m) p0 ⟨rfl, rfl⟩) (fun r n2 S2 m2 hP => ?_)
    obtain ⟨⟨rfl, rfl⟩, z, rfl, rfl, rfl⟩ := hP
    exact s_ireturn dX9_afterCut_38 (Or.inl rfl) ⟨⟨rfl, rfl⟩, _, rfl, h⟩
  have n0 := cc
  have h := h.2
  by_cases cc : x1 = 1
  · have h := h.1 cc
    refine s_table_in dX9_afterCut_1 (by omega) (by omega) (by rw [cc] <;> rfl) (tgt := 39) (by decide) ?_
    refine s_aload_n dX9_afterCut_39 rfl rfl ?_
    obtain ⟨P, hcl, h⟩ := h
    refine s_callV (As := []) (rest := []) (k := 0) dX9_afterCut_40 lkX9_250 kn0 ⟨by rw [kk0]; rfl, by rw [kk0]; decide⟩ lmX9_measureNow rfl rfl (Nat.le_of_ble_eq_true rfl) (by decide) (Nat.le_refl 0) (Nat.le_refl 0) (hC := hcl) (fun r n2 S2 m2 hP => ?_)
    obtain ⟨⟨rfl, rfl⟩, rfl, hq⟩ := hP
    have h := h m2 hq
    refine s_aload_n dX9_afterCut_43 rfl rfl ?_
    refine s_getR dX9_afterCut_44 flX9_43 kn0 kk0 rfl kr0_5 ?_
    refine s_getI (x := (m2 144 9)) dX9_afterCut_47 flX9_269 kn144 kk144 rfl rfl ?_
    exact s_ireturn dX9_afterCut_50 (Or.inl rfl) ⟨⟨rfl, rfl⟩, _, rfl, h⟩
  have n1 := cc
  have h := h.2
  by_cases cc : x1 = 2
  · have h := h.1 cc
    refine s_table_in dX9_afterCut_1 (by omega) (by omega) (by rw [cc] <;> rfl) (tgt := 51) (by decide) ?_
    refine s_aload_n dX9_afterCut_51 rfl rfl ?_
    refine s_getR dX9_afterCut_52 flX9_12 kn0 kk0 rfl kr0_0 ?_
    refine s_getR dX9_afterCut_55 flX9_80 kn1 kk1 rfl kr1_3 ?_
    refine s_getI (x := (μ 5 1)) dX9_afterCut_58 flX9_385 kn5 kk5 rfl rfl ?_
    exact s_ireturn dX9_afterCut_61 (Or.inl rfl) ⟨⟨rfl, rfl⟩, _, rfl, h⟩
  have n2 := cc
  have h := h.2
  have h := h n0 n1 n2
  refine s_table_out dX9_afterCut_1 ((Int.lt_or_le (x1) 0).elim Or.inl (fun q => Or.inr (by have q := q; have q := Int.lt_iff_le_and_ne.mpr ⟨(show 0 ≤ x1 from q), (fun e => n0 e.symm)⟩; have q := Int.lt_iff_le_and_ne.mpr ⟨(show 1 ≤ x1 from q), (fun e => n1 e.symm)⟩; have q := Int.lt_iff_le_and_ne.mpr ⟨(show 2 ≤ x1 from q), (fun e => n2 e.symm)⟩; exact q))) (tgt := 62) (by decide) ?_
  refine s_aload_n dX9_afterCut_62 rfl rfl ?_
  refine s_getR dX9_afterCut_63 flX9_12 kn0 kk0 rfl kr0_0 ?_
  refine s_getR dX9_afterCut_66 flX9_199 kn1 kk1 rfl kr1_4 ?_
  refine s_getI (x := (μ 7 2)) dX9_afterCut_69 flX9_349 kn7 kk7 rfl rfl ?_
  exact s_ireturn dX9_afterCut_72 (Or.inl rfl) ⟨⟨rfl, rfl⟩, _, rfl, h⟩
theorem ve_X9_afterCut {x1 : Int} {μ : am_M} {Q : Int → am_M → Prop} (h : at_I kC 7 mX9_afterCut 0 [vR 0, vI x1] [] μ Q) : cl_I kC 7 mX9_afterCut [vR 0, vI x1] μ Q := am_intro pmX9_afterCut (Nat.le_of_ble_eq_true rfl) rfl h
noncomputable def q_aft (P : Pj) (w : Int) : Int := if w = 0 then laP P else if w = 1 then loP P (pE P 0) else if w = 2 then pN P else (pH P).length
theorem sp_X9_afterCut {μ : am_M} {w : Int} (hV : vC μ) (hs : μ 129 5 = 0 → snd_ μ) (hz : μ 147 0 = 0) (h7 : 0 ≤ μ 7 2) : cl_I kC 7 mX9_afterCut [vR 0, vI w] μ (fun z m => z = q_aft (pC μ 1) w ∧ fr_ chL μ m ∧ m 147 0 = 0) := by
  have e0 : q_aft (pC μ 1) w = if w = 0 then la_ (cg μ) (μ 5 1) else if w = 1 then loC μ (μ 2 0) else if w = 2 then μ 5 1 else ((hC μ).length : Int) := rfl
  refine ve_X9_afterCut (vc_X9_afterCut_0 ⟨fun n => ⟨hV.okT, ?_, fr_rf, hz⟩, fun n => ⟨_, sp_X9_measureNow hV hs hz, fun m2 ⟨k1, k2⟩ => ⟨?_, k1.1, k1.2.2⟩⟩, fun n => ⟨?_, fr_rf, hz⟩, fun n0 n1 n2 => ⟨?_, fr_rf, hz⟩⟩)
  · rw [e0, if_pos n]
  · rw [e0, if_neg (by omega), if_pos n]
    exact k2.2.2.2.2.1
  · rw [e0, if_neg (by omega), if_neg (by omega), if_pos n]
  · rw [e0, if_neg n0, if_neg n1, if_neg n2]
    exact (hl_hC h7).1
noncomputable def q_ifCut (P : Pj) (a b w : Int) : Int := cif (w < 0 ∨ 3 < w) (-2) (if (o_cut P a b).1 < 0 then (o_cut P a b).1 else q_aft (o_cut P a b).2 w)
theorem aft_pe {P Q : Pj} (hV : vP P) (h : pe_ P Q) (w : Int) : q_aft Q w = q_aft P w := by
  unfold q_aft
  rw [la_pe h, loP_pe hV h, pe_N h, pe_H h, pe_E h (by omega)]
theorem vc_X9_ifCut_0 {x1 x2 x3 : Int} {μ : am_M} {Q : Int → am_M → Prop} (h : (x3 < 0 → Q (-2) μ) ∧ (0 ≤ x3 → (x3 ≤ 3 → ∃ P : am_M → Prop, cl_V kC 1 mX4_copy [vR 1, vR 10] μ P ∧ (∀ m2 : am_M, P m2 → ∃ P : Int → am_M → Prop, cl_I kC 6 mX4_cutFrames [vR 1, vI x1, vI x2] m2 P ∧ (∀ (z3 : Int) (m4 : am_M), P z3 m4 → (z3 < 0 → Q z3 m4) ∧ (0 ≤ z3 → ∀ m5 : am_M, m5 = am_st m4 129 (am_up (m4 129) 5 1) → ∃ P : Int → am_M → Prop, cl_I kC 7 mX9_afterCut [vR 0, vI x3] m5 P ∧ (∀ (z6 : Int) (m7 : am_M), P z6 m7 → ∃ P : am_M → Prop, cl_V kC 1 mX4_copy [vR 10, vR 1] m7 P ∧ (∀ m9 : am_M, P m9 → ∀ m10 : am_M, m10 = am_st m9 129 (am_up (m9 129) 5 1) → Q z6 m10)))))) ∧ (3 < x3 → Q (-2) μ))) : at_I kC 8 mX9_ifCut 0 [vR 0, vI x1, vI x2, vI x3, vU] [] μ Q := by
  refine s_iload_n dX9_ifCut_0 rfl rfl ?_
  refine s_if_lt dX9_ifCut_1 (tgt := 9) (by decide) (fun cc => ?_) (fun cc => ?_)
  · have h := h.1 cc
    refine s_bipush dX9_ifCut_9 (by decide) ?_
    exact s_ireturn dX9_ifCut_11 (Or.inl rfl) ⟨⟨rfl, rfl⟩, _, rfl, h⟩
  · have h := h.2 cc
    refine s_iload_n dX9_ifCut_4 rfl rfl ?_
    refine s_iconst dX9_ifCut_5 (by decide) ?_
    refine s_icmp_le dX9_ifCut_6 (tgt := 12) (by decide) (fun cc => ?_) (fun cc => ?_)
    · have h := h.1 cc
      refine s_aload_n dX9_ifCut_12 rfl rfl ?_
      refine s_getR dX9_ifCut_13 flX9_12 kn0 kk0 rfl kr0_0 ?_
      refine s_aload_n dX9_ifCut_16 rfl rfl ?_
      refine s_getR dX9_ifCut_17 flX9_16 kn0 kk0 rfl kr0_1 ?_
      obtain ⟨P, hcl, h⟩ := h
      refine s_callS (As := [vR 1, vR 10]) (rest := []) dX9_ifCut_20 lkX9_300 lmX4_copy rfl rfl (Nat.le_of_ble_eq_true rfl) (by decide) (Nat.le_refl 0) (Nat.le_refl 0) (hC := hcl) (fun r n2 S2 m2 hP => ?_)
      obtain ⟨⟨rfl, rfl⟩, rfl, hq⟩ := hP
      have h := h m2 hq
      refine s_aload_n dX9_ifCut_23 rfl rfl ?_
      refine s_getR dX9_ifCut_24 flX9_12 kn0 kk0 rfl kr0_0 ?_
      refine s_iload_n dX9_ifCut_27 rfl rfl ?_
      refine s_iload_n dX9_ifCut_28 rfl rfl ?_
      obtain ⟨P, hcl, h⟩ := h
      refine s_callV (As := [vI x1, vI x2]) (rest := []) (k := 1) dX9_ifCut_29 lkX9_193 kn1 ⟨by rw [kk1]; rfl, by rw [kk1]; decide⟩ lmX4_cutFrames rfl rfl (Nat.le_of_ble_eq_true rfl) (by decide) (Nat.le_refl 0) (Nat.le_refl 0) (hC := hcl) (fun r n2 S2 m4 hP => ?_)
      obtain ⟨⟨rfl, rfl⟩, z3, rfl, hq⟩ := hP
      have h := h z3 m4 hq
      refine s_istore dX9_ifCut_32 (by decide) (L' := [vR 0, vI x1, vI x2, vI x3, vI z3]) rfl ?_
      refine s_iload dX9_ifCut_34 rfl ?_
      refine s_if_lt dX9_ifCut_36 (tgt := 73) (by decide) (fun cc => ?_) (fun cc => ?_)
      · have h := h.1 cc
        refine s_iload dX9_ifCut_73 rfl ?_
        exact s_ireturn dX9_ifCut_75 (Or.inl rfl) ⟨⟨rfl, rfl⟩, _, rfl, h⟩
      · have h := h.2 cc
        refine s_aload_n dX9_ifCut_39 rfl rfl ?_
        refine s_getR dX9_ifCut_40 flX9_34 kn0 kk0 rfl kr0_4 ?_
        refine s_iconst dX9_ifCut_43 (by decide) ?_
        obtain ⟨m5, hm5⟩ : ∃ x : am_M, x = am_st m4 129 (am_up (m4 129) 5 1) := ⟨_, rfl⟩
        have h := h m5 hm5
        refine s_putI dX9_ifCut_44 flX9_304 kn129 kk129 rfl rfl (Or.inr (by decide)) hm5.symm ?_
        refine s_aload_n dX9_ifCut_47 rfl rfl ?_
        refine s_iload_n dX9_ifCut_48 rfl rfl ?_
        obtain ⟨P, hcl, h⟩ := h
        refine s_callV (As := [vI x3]) (rest := []) (k := 0) dX9_ifCut_49 lkX9_308 kn0 ⟨by rw [kk0]; rfl, by rw [kk0]; decide⟩ lmX9_afterCut rfl rfl (Nat.le_of_ble_eq_true rfl) (by decide) (Nat.le_refl 0) (Nat.le_refl 0) (hC := hcl) (fun r n2 S2 m7 hP => ?_)
        obtain ⟨⟨rfl, rfl⟩, z6, rfl, hq⟩ := hP
        have h := h z6 m7 hq
        refine s_istore dX9_ifCut_52 (by decide) (L' := [vR 0, vI x1, vI x2, vI x3, vI z6]) rfl ?_
        refine s_aload_n dX9_ifCut_54 rfl rfl ?_
        refine s_getR dX9_ifCut_55 flX9_16 kn0 kk0 rfl kr0_1 ?_
        refine s_aload_n dX9_ifCut_58 rfl rfl ?_
        refine s_getR dX9_ifCut_59 flX9_12 kn0 kk0 rfl kr0_0 ?_
        obtain ⟨P, hcl, h⟩ := h
        refine s_callS (As := [vR 10, vR 1]) (rest := []) dX9_ifCut_62 lkX9_300 lmX4_copy rfl rfl (Nat.le_of_ble_eq_true rfl) (by decide) (Nat.le_refl 0) (Nat.le_refl 0) (hC := hcl) (fun r n2 S2 m9 hP => ?_)
        obtain ⟨⟨rfl, rfl⟩, rfl, hq⟩ := hP
        have h := h m9 hq
        refine s_aload_n dX9_ifCut_65 rfl rfl ?_
        refine s_getR dX9_ifCut_66 flX9_34 kn0 kk0 rfl kr0_4 ?_
        refine s_iconst dX9_ifCut_69 (by decide) ?_
        obtain ⟨m10, hm10⟩ : ∃ x : am_M, x = am_st m9 129 (am_up (m9 129) 5 1) := ⟨_, rfl⟩
        have h := h m10 hm10
        refine s_putI dX9_ifCut_70 flX9_304 kn129 kk129 rfl rfl (Or.inr (by decide)) hm10.symm ?_
        refine s_iload dX9_ifCut_73 rfl ?_
        exact s_ireturn dX9_ifCut_75 (Or.inl rfl) ⟨⟨rfl, rfl⟩, _, rfl, h⟩
    · have h := h.2 cc
      refine s_bipush dX9_ifCut_9 (by decide) ?_
      exact s_ireturn dX9_ifCut_11 (Or.inl rfl) ⟨⟨rfl, rfl⟩, _, rfl, h⟩
theorem ve_X9_ifCut {x1 x2 x3 : Int} {μ : am_M} {Q : Int → am_M → Prop} (h : at_I kC 8 mX9_ifCut 0 [vR 0, vI x1, vI x2, vI x3, vU] [] μ Q) : cl_I kC 8 mX9_ifCut [vR 0, vI x1, vI x2, vI x3] μ Q := am_intro pmX9_ifCut (Nat.le_of_ble_eq_true rfl) rfl h
theorem sp_X9_ifCut {K : Int} {μ : am_M} {a b w : Int} (hI : CI K μ) : cl_I kC 8 mX9_ifCut [vR 0, vI a, vI b, vI w] μ (fun z m => z = q_ifCut (pC μ 1) a b w ∧ un_ [] μ m) := by
  have un := cq_un hI (cq_rf hI)
  refine ve_X9_ifCut (vc_X9_ifCut_0 ⟨fun q => ⟨(cif_t (by omega)).symm, un⟩, fun q0 => ⟨fun q1 => ⟨_, sp_X4_copy (by decide) (by decide) (by decide), fun m2 ⟨g1, g2⟩ => ?_⟩, fun q => ⟨(cif_t (by omega)).symm, un⟩⟩⟩)
  have e0 : q_ifCut (pC μ 1) a b w = _ := cif_f (by omega)
  have V2 : vC m2 := by
    have : pC m2 1 = pC μ 1 := pe_of g1 (by decide)
    show vP (pC m2 1)
    rw [this]
    exact hI.v
  have p2 : pC m2 1 = pC μ 1 := pe_of g1 (by decide)
  have h72 : 0 ≤ m2 7 2 := by rw [g1 7 (by decide)]; exact hI.h7
  have c2 := cp_C (a := 1) (b := 10) hI.v hI.h7 g2
  refine ⟨_, cut_C V2 h72 a b, fun z m4 h4 => ?_⟩
  have wk := lk_w h4
  rw [p2] at wk
  have h2C : hC m2 = hC μ := by
    show pH (pC m2 1) = pH (pC μ 1)
    rw [p2]
  rw [h2C] at wk
  have ez : z = (o_cut (pC μ 1) a b).1 := wk.1
  have pe4 : pe_ (o_cut (pC μ 1) a b).2 (pC m4 1) := wk.2.2.1
  have ho := ov_cut (P := pC μ 1) hI.v a b
  refine ⟨fun z0 => ⟨by rw [e0, if_pos (by omega)]; exact ez, ?_⟩, fun z0 m5 e5 => ?_⟩
  · refine un_of (ks := []) hI (fun k hk => by simp at hk) (fr_tr (fr_up g1 (by decide)) (fr_up wk.2.1 (by decide))) (pe_tr (pe_sy (ho.1 (by omega))) pe4) wk.2.2.2
  · have p5 : pC m5 1 = pC m4 1 := pe_of (ks := [129]) (by rw [e5]; exact fr_st (by simp)) (by decide)
    have s5 : m5 129 5 ≠ 0 := by rw [e5, st_s, up_s]; decide
    have V5 : vC m5 := by
      show vP (pC m5 1)
      rw [p5]
      exact pe_v ho.2 pe4
    have f5 : fr_ (pjC 1 ++ pjC 10 ++ [129]) μ m5 := fr_tr (fr_tr (fr_up g1 (by decide)) (fr_up wk.2.1 (by decide))) (by rw [e5]; exact fr_st (by decide))
    refine ⟨_, sp_X9_afterCut V5 (fun q => absurd q s5) (by rw [f5 147 (by decide)]; exact hI.z) (by rw [e5, st_n (by decide)]; exact wk.2.2.2), fun z7 m7 ⟨k1, k2, k3⟩ => ?_⟩
    refine ⟨_, sp_X4_copy (by decide) (by decide) (by decide), fun m9 ⟨j1, j2⟩ m10 e10 => ⟨?_, ?_⟩⟩
    · rw [k1, e0, if_neg (by omega), p5]
      exact aft_pe ho.2 pe4 w
    · have t5 : pC m5 10 = pC m2 10 := (pe_of (ks := [129]) (by rw [e5]; exact fr_st (by simp)) (by decide)).trans (pe_of wk.2.1 (by decide))
      have t7 : pC m7 10 = pC m2 10 := (pe_of k2 (by decide)).trans t5
      have b16 : m7 16 2 = m2 16 2 := by rw [k2 16 (by decide), e5, st_n (by decide), wk.2.1 16 (by decide)]
      have c9 := cp_C (a := 10) (b := 1) (by rw [t7]; exact pe_v hI.v c2.1) (by show 0 ≤ m7 16 2; rw [b16]; exact c2.2) j2
      rw [t7] at c9
      have p10 : pC m10 1 = pC m9 1 := pe_of (ks := [129]) (by rw [e10]; exact fr_st (by simp)) (by decide)
      refine ⟨?_, by rw [p10]; exact pe_tr c2.1 c9.1, fun q => ?_, ?_, ?_⟩
      · refine fr_tr (fr_tr (fr_tr (fr_up f5 (by decide)) (fr_up k2 (by decide))) (fr_up j1 (by decide))) ?_
        rw [e10]
        exact fr_st (by decide)
      · rw [e10, st_s, up_s] at q
        exact absurd q (by decide)
      · rw [e10, st_n (by decide), j1 147 (by decide)]
        exact k3
      · rw [e10, st_n (by decide)]
        exact c9.2
/-! execute -/
theorem prs_l {T : Nat → Int} {n : Int} : ∀ (k : Nat) (p : Int), (prs_ T n k p).2.length ≤ k
  | 0, _ => by simp [prs_]
  | k + 1, p => by
    have := prs_l (T := T) (n := n) k ((cmd_ T n p).2.2.2.2 + 1)
    unfold prs_
    (repeat' split) <;> simp <;> omega
theorem prs_b {T : Nat → Int} {n : Int} : ∀ (k : Nat) (p : Int), p ≤ n → (prs_ T n k p).1 ≤ n ∨ (prs_ T n k p).1 = -1
  | 0, p, h => Or.inl h
  | k + 1, p, h => by
    have cb := (cmd_b (T := T) (n := n) (p := p)).2.2 h
    unfold prs_
    split
    · exact Or.inl cb
    · split
      · exact Or.inr rfl
      · split
        · rename_i q1 q2 q3
          refine prs_b k _ ?_
          unfold hr_ at q3
          split at q3
          · omega
          · omega
        · exact Or.inl cb
def xL : List Nat := [151, 153, 154, 155]
theorem exe_s {c : Cm} {cs : List Cm} {i : Int} {P : Pj} : exe_ (c :: cs) i P = if (o_cmd P c).1 < 0 then ((o_cmd P c).1, i, P) else exe_ cs (i + 1) (o_cmd P c).2 := rfl
/-- a text carried out -/
def ex_ (μ m : am_M) (z : Int) : Prop := m 151 4 = 0 ∧ ((0 ≤ (prs_ (μ 152) (μ 151 4) 20 0).1 ∧ z = -1000 - (prs_ (μ 152) (μ 151 4) 20 0).1 ∧ un_ xL μ m) ∨
  ((prs_ (μ 152) (μ 151 4) 20 0).1 < 0 ∧ (exe_ (prs_ (μ 152) (μ 151 4) 20 0).2 0 (pC μ 1)).1 < 0 ∧ z = -5 ∧ un_ (0 :: xL) μ m ∧ m 0 10 = (exe_ (prs_ (μ 152) (μ 151 4) 20 0).2 0 (pC μ 1)).1 ∧ m 0 11 = (exe_ (prs_ (μ 152) (μ 151 4) 20 0).2 0 (pC μ 1)).2.1 ∧ ∀ j, j ≠ 10 → j ≠ 11 → m 0 j = μ 0 j) ∨
  ((prs_ (μ 152) (μ 151 4) 20 0).1 < 0 ∧ ¬ (exe_ (prs_ (μ 152) (μ 151 4) 20 0).2 0 (pC μ 1)).1 < 0 ∧ z = (prs_ (μ 152) (μ 151 4) 20 0).2.length ∧ ch_ xL μ m (exe_ (prs_ (μ 152) (μ 151 4) 20 0).2 0 (pC μ 1)).2.2))
theorem vc_X9_execute_0 {μ : am_M} {Q : Int → am_M → Prop} (h : ∃ P : Int → am_M → Prop, cl_I kC 4 mX5_read [vR 151] μ P ∧ (∀ (z1 : Int) (m2 : am_M), P z1 m2 → ∀ m3 : am_M, m3 = am_st m2 151 (am_up (m2 151) 4 0) → (z1 < 0 → ∃ P : am_M → Prop, cl_V kC 1 mX4_copy [vR 1, vR 10] m3 P ∧ (∀ m5 : am_M, P m5 → at_I kC 9 mX9_execute 39 [vR 0, vU, vI 0, vU] [] m5 Q)) ∧ (0 ≤ z1 → (am_in ((-1000) - z1)) ∧ (Q ((-1000) - z1) m3)))) : at_I kC 9 mX9_execute 0 [vR 0, vU, vU, vU] [] μ Q := by
  refine s_aload_n dX9_execute_0 rfl rfl ?_
  refine s_getR dX9_execute_1 flX9_57 kn0 kk0 rfl kr0_7 ?_
  obtain ⟨P, hcl, h⟩ := h
  refine s_callV (As := []) (rest := []) (k := 151) dX9_execute_4 lkX9_323 kn151 ⟨by rw [kk151]; rfl, by rw [kk151]; decide⟩ lmX5_read rfl rfl (Nat.le_of_ble_eq_true rfl) (by decide) (Nat.le_refl 0) (Nat.le_refl 0) (hC := hcl) (fun r n2 S2 m2 hP => ?_)
  obtain ⟨⟨rfl, rfl⟩, z1, rfl, hq⟩ := hP
  have h := h z1 m2 hq
  refine s_istore_n dX9_execute_7 rfl (by decide) (L' := [vR 0, vI z1, vU, vU]) rfl ?_
  refine s_aload_n dX9_execute_8 rfl rfl ?_
  refine s_getR dX9_execute_9 flX9_57 kn0 kk0 rfl kr0_7 ?_
  refine s_iconst dX9_execute_12 (by decide) ?_
  obtain ⟨m3, hm3⟩ : ∃ x : am_M, x = am_st m2 151 (am_up (m2 151) 4 0) := ⟨_, rfl⟩
  have h := h m3 hm3
  refine s_putI dX9_execute_13 flX9_326 kn151 kk151 rfl rfl (Or.inl rfl) hm3.symm ?_
  refine s_iload_n dX9_execute_16 rfl rfl ?_
  refine s_if_lt dX9_execute_17 (tgt := 26) (by decide) (fun cc => ?_) (fun cc => ?_)
  · have h := h.1 cc
    refine s_aload_n dX9_execute_26 rfl rfl ?_
    refine s_getR dX9_execute_27 flX9_12 kn0 kk0 rfl kr0_0 ?_
    refine s_aload_n dX9_execute_30 rfl rfl ?_
    refine s_getR dX9_execute_31 flX9_16 kn0 kk0 rfl kr0_1 ?_
    obtain ⟨P, hcl, h⟩ := h
    refine s_callS (As := [vR 1, vR 10]) (rest := []) dX9_execute_34 lkX9_300 lmX4_copy rfl rfl (Nat.le_of_ble_eq_true rfl) (by decide) (Nat.le_refl 0) (Nat.le_refl 0) (hC := hcl) (fun r n2 S2 m5 hP => ?_)
    obtain ⟨⟨rfl, rfl⟩, rfl, hq⟩ := hP
    have h := h m5 hq
    refine s_iconst dX9_execute_37 (by decide) ?_
    refine s_istore_n dX9_execute_38 rfl (by decide) (L' := [vR 0, vI z1, vI 0, vU]) rfl ?_
    exact am_lesS h ⟨Or.inr rfl, Or.inl rfl, Or.inr rfl, Or.inl rfl, trivial⟩
  · have h := h.2 cc
    refine s_sipush dX9_execute_20 (by decide) ?_
    refine s_iload_n dX9_execute_23 rfl rfl ?_
    obtain ⟨c, h⟩ := h
    refine s_isub dX9_execute_24 (am_w_id c) ?_
    exact s_ireturn dX9_execute_25 (Or.inl rfl) ⟨⟨rfl, rfl⟩, _, rfl, h⟩
theorem vc_X9_execute_39 {x2 : Int} {μ : am_M} {Q : Int → am_M → Prop} (h : (μ 151 5 ≤ x2 → ∃ P : Int → am_M → Prop, cl_I kC 6 mX9_done [vR 0, vI (μ 151 5)] μ P ∧ (∀ (z1 : Int) (m2 : am_M), P z1 m2 → Q z1 m2)) ∧ (x2 < μ 151 5 → (0 ≤ x2) ∧ (x2 < 20) ∧ ((0 ≤ x2) ∧ (x2 < 20) ∧ ((0 ≤ x2) ∧ (x2 < 20) ∧ (∃ P : Int → am_M → Prop, cl_I kC 8 mX9_carryOut [vR 0, vI (μ 153 ((x2).toNat)), vI (μ 154 ((x2).toNat)), vI (μ 155 ((x2).toNat))] μ P ∧ (∀ (z3 : Int) (m4 : am_M), P z3 m4 → (0 ≤ z3 → (am_in (x2 + 1)) ∧ (at_I kC 9 mX9_execute 39 [vR 0, vU, vI (x2 + 1), vU] [] m4 Q)) ∧ (z3 < 0 → ∃ P : am_M → Prop, cl_V kC 1 mX4_copy [vR 10, vR 1] m4 P ∧ (∀ m6 : am_M, P m6 → ∀ m7 : am_M, m7 = am_st m6 0 (am_up (m6 0) 10 z3) → ∀ m8 : am_M, m8 = am_st m7 0 (am_up (m7 0) 11 x2) → Q (-5) m8)))))))) : at_I kC 9 mX9_execute 39 [vR 0, vU, vI x2, vU] [] μ Q := by
  refine s_iload_n dX9_execute_39 rfl rfl ?_
  refine s_aload_n dX9_execute_40 rfl rfl ?_
  refine s_getR dX9_execute_41 flX9_57 kn0 kk0 rfl kr0_7 ?_
  refine s_getI (x := (μ 151 5)) dX9_execute_44 flX9_329 kn151 kk151 rfl rfl ?_
  refine s_icmp_ge dX9_execute_47 (tgt := 116) (by decide) (fun cc => ?_) (fun cc => ?_)
  · have h := h.1 cc
    refine s_aload_n dX9_execute_116 rfl rfl ?_
    refine s_aload_n dX9_execute_117 rfl rfl ?_
    refine s_getR dX9_execute_118 flX9_57 kn0 kk0 rfl kr0_7 ?_
    refine s_getI (x := (μ 151 5)) dX9_execute_121 flX9_329 kn151 kk151 rfl rfl ?_
    obtain ⟨P, hcl, h⟩ := h
    refine s_callV (As := [vI (μ 151 5)]) (rest := []) (k := 0) dX9_execute_124 lkX9_72 kn0 ⟨by rw [kk0]; rfl, by rw [kk0]; decide⟩ lmX9_done rfl rfl (Nat.le_of_ble_eq_true rfl) (by decide) (Nat.le_refl 0) (Nat.le_refl 0) (hC := hcl) (fun r n2 S2 m2 hP => ?_)
    obtain ⟨⟨rfl, rfl⟩, z1, rfl, hq⟩ := hP
    have h := h z1 m2 hq
    exact s_ireturn dX9_execute_127 (Or.inl rfl) ⟨⟨rfl, rfl⟩, _, rfl, h⟩
  · have h := h.2 cc
    refine s_aload_n dX9_execute_50 rfl rfl ?_
    refine s_aload_n dX9_execute_51 rfl rfl ?_
    refine s_getR dX9_execute_52 flX9_57 kn0 kk0 rfl kr0_7 ?_
    refine s_getR dX9_execute_55 flX9_332 kn151 kk151 rfl kr151_1 ?_
    refine s_iload_n dX9_execute_58 rfl rfl ?_
    obtain ⟨c, c2, h⟩ := h
    refine s_iald (x := (μ 153 ((x2).toNat))) dX9_execute_59 kn153 kk153 kl153 c c2 rfl ?_
    refine s_aload_n dX9_execute_60 rfl rfl ?_
    refine s_getR dX9_execute_61 flX9_57 kn0 kk0 rfl kr0_7 ?_
    refine s_getR dX9_execute_64 flX9_335 kn151 kk151 rfl kr151_2 ?_
    refine s_iload_n dX9_execute_67 rfl rfl ?_
    obtain ⟨c, c2, h⟩ := h
    refine s_iald (x := (μ 154 ((x2).toNat))) dX9_execute_68 kn154 kk154 kl154 c c2 rfl ?_
    refine s_aload_n dX9_execute_69 rfl rfl ?_
    refine s_getR dX9_execute_70 flX9_57 kn0 kk0 rfl kr0_7 ?_
    refine s_getR dX9_execute_73 flX9_336 kn151 kk151 rfl kr151_3 ?_
    refine s_iload_n dX9_execute_76 rfl rfl ?_
    obtain ⟨c, c2, h⟩ := h
    refine s_iald (x := (μ 155 ((x2).toNat))) dX9_execute_77 kn155 kk155 kl155 c c2 rfl ?_
    obtain ⟨P, hcl, h⟩ := h
    refine s_callV (As := [vI (μ 153 ((x2).toNat)), vI (μ 154 ((x2).toNat)), vI (μ 155 ((x2).toNat))]) (rest := []) (k := 0) dX9_execute_78 lkX9_339 kn0 ⟨by rw [kk0]; rfl, by rw [kk0]; decide⟩ lmX9_carryOut rfl rfl (Nat.le_of_ble_eq_true rfl) (by decide) (Nat.le_refl 0) (Nat.le_refl 0) (hC := hcl) (fun r n2 S2 m4 hP => ?_)
    obtain ⟨⟨rfl, rfl⟩, z3, rfl, hq⟩ := hP
    have h := h z3 m4 hq
    refine s_istore_n dX9_execute_81 rfl (by decide) (L' := [vR 0, vU, vI x2, vI z3]) rfl ?_
    refine s_iload_n dX9_execute_82 rfl rfl ?_
    refine s_if_ge dX9_execute_83 (tgt := 110) (by decide) (fun cc => ?_) (fun cc => ?_)
    · have h := h.1 cc
      obtain ⟨c, h⟩ := h
      refine s_iinc dX9_execute_110 rfl (am_w_id c) (by decide) (L' := [vR 0, vU, vI (x2 + 1), vI z3]) rfl ?_
      refine s_goto dX9_execute_113 (tgt := 39) (by decide) ?_
      exact am_lesS h ⟨Or.inr rfl, Or.inl rfl, Or.inr rfl, Or.inl rfl, trivial⟩
    · have h := h.2 cc
      refine s_aload_n dX9_execute_86 rfl rfl ?_
      refine s_getR dX9_execute_87 flX9_16 kn0 kk0 rfl kr0_1 ?_
      refine s_aload_n dX9_execute_90 rfl rfl ?_
      refine s_getR dX9_execute_91 flX9_12 kn0 kk0 rfl kr0_0 ?_
      obtain ⟨P, hcl, h⟩ := h
      refine s_callS (As := [vR 10, vR 1]) (rest := []) dX9_execute_94 lkX9_300 lmX4_copy rfl rfl (Nat.le_of_ble_eq_true rfl) (by decide) (Nat.le_refl 0) (Nat.le_refl 0) (hC := hcl) (fun r n2 S2 m6 hP => ?_)
      obtain ⟨⟨rfl, rfl⟩, rfl, hq⟩ := hP
      have h := h m6 hq
      refine s_aload_n dX9_execute_97 rfl rfl ?_
      refine s_iload_n dX9_execute_98 rfl rfl ?_
      obtain ⟨m7, hm7⟩ : ∃ x : am_M, x = am_st m6 0 (am_up (m6 0) 10 z3) := ⟨_, rfl⟩
      have h := h m7 hm7
      refine s_putI dX9_execute_99 flX9_342 kn0 kk0 rfl rfl (Or.inl rfl) hm7.symm ?_
      refine s_aload_n dX9_execute_102 rfl rfl ?_
      refine s_iload_n dX9_execute_103 rfl rfl ?_
      obtain ⟨m8, hm8⟩ : ∃ x : am_M, x = am_st m7 0 (am_up (m7 0) 11 x2) := ⟨_, rfl⟩
      have h := h m8 hm8
      refine s_putI dX9_execute_104 flX9_345 kn0 kk0 rfl rfl (Or.inl rfl) hm8.symm ?_
      refine s_bipush dX9_execute_107 (by decide) ?_
      exact s_ireturn dX9_execute_109 (Or.inl rfl) ⟨⟨rfl, rfl⟩, _, rfl, h⟩
theorem ve_X9_execute {μ : am_M} {Q : Int → am_M → Prop} (h : at_I kC 9 mX9_execute 0 [vR 0, vU, vU, vU] [] μ Q) : cl_I kC 9 mX9_execute [vR 0] μ Q := am_intro pmX9_execute (Nat.le_of_ble_eq_true rfl) rfl h
theorem sp_X9_execute {K : Int} {μ : am_M} (hI : CI K μ) (hK : K < 100000) : cl_I kC 9 mX9_execute [vR 0] μ (fun z m => ex_ μ m z) := by
  have h61 : in_ 0 61 (μ 151 4) := hI.2.2.2.2.2.2.2.2.1
  have hl := prs_l (T := μ 152) (n := μ 151 4) 20 0
  refine ve_X9_execute (vc_X9_execute_0 ⟨_, sp_X5_read h61, fun z1 m2 ⟨a1, a2, a3, a4⟩ m3 e3 => ?_⟩)
  unfold ex_
  rw [← a3]
  have f3 : fr_ xL μ m3 := fr_tr a1 (by rw [e3]; exact fr_st (by decide))
  have z3 : m3 151 4 = 0 := by rw [e3, st_s, up_s]
  have p3 : pC m3 1 = pC μ 1 := pe_of f3 (by decide)
  refine ⟨fun neg => ?_, fun pos => ⟨?_, z3, Or.inl ⟨pos, rfl, ?_⟩⟩⟩
  · have b : z1 = -1 ∧ m2 151 5 = (prs_ (μ 152) (μ 151 4) 20 0).2.length ∧ cmR_ m2 (prs_ (μ 152) (μ 151 4) 20 0).2 := by
      rcases a4 with b | b
      · exact b
      · omega
    obtain ⟨b1, b2, b3⟩ := b
    refine ⟨_, sp_X4_copy (by decide) (by decide) (by decide), fun m5 ⟨g1, g2⟩ => ?_⟩
    generalize (prs_ (μ 152) (μ 151 4) 20 0).2 = C at *
    have c5 := cp_C (a := 1) (b := 10) (by rw [p3]; exact hI.v) (by show 0 ≤ m3 7 2; rw [f3 7 (by decide)]; exact hI.h7) g2
    rw [p3] at c5
    have p5 : pC m5 1 = pC μ 1 := (pe_of g1 (by decide)).trans p3
    have l5 : m5 151 5 = C.length := by rw [g1 151 (by decide), e3, st_s, up_n (by decide), b2]
    have r5 : cmR_ m5 C := fun i c hi => by
      rw [g1 153 (by decide), g1 154 (by decide), g1 155 (by decide), e3, st_n (by decide), st_n (by decide), st_n (by decide)]
      exact b3 i c hi
    have z5 : m5 151 4 = 0 := by rw [g1 151 (by decide), z3]
    have f5 : fr_ (xL ++ pjC 10) μ m5 := fr_tr (fr_up f3 (by decide)) (fr_up g1 (by decide))
    have : ∀ (B A : List Cm) (i : Int) (P : Pj) (m : am_M), C = A ++ B → i = A.length → exe_ C 0 (pC μ 1) = exe_ B i P → vP P → pe_ P (pC m 1) → 0 ≤ m 7 2 → fr_ (pjC 1) m5 m → at_I kC 9 mX9_execute 39 [vR 0, vU, vI i, vU] [] m (fun z m => m 151 4 = 0 ∧ ((0 ≤ z1 ∧ z = -1000 - z1 ∧ un_ xL μ m) ∨ (z1 < 0 ∧ (exe_ C 0 (pC μ 1)).1 < 0 ∧ z = -5 ∧ un_ (0 :: xL) μ m ∧ m 0 10 = (exe_ C 0 (pC μ 1)).1 ∧ m 0 11 = (exe_ C 0 (pC μ 1)).2.1 ∧ ∀ j, j ≠ 10 → j ≠ 11 → m 0 j = μ 0 j) ∨ (z1 < 0 ∧ ¬ (exe_ C 0 (pC μ 1)).1 < 0 ∧ z = C.length ∧ ch_ xL μ m (exe_ C 0 (pC μ 1)).2.2))) := by
      intro B
      induction B with
      | nil =>
        intro A i P m hC hi hx hv hp h7 hf
        rw [hx]
        have e1 : m 151 5 = C.length := by rw [hf 151 (by decide), l5]
        have hA : (A.length : Int) = C.length := by rw [hC]; simp
        refine vc_X9_execute_39 ⟨fun _ => ⟨_, sp_X9_doneX (ks := xL) (P := P) hI hK (by decide) (fun q => by omega) (fun _ => fr_tr (fr_up f5 (by decide)) (fr_up hf (by decide))) (fun _ => hp) (fun _ => hv) (fun _ => ?_) (fun _ => h7), fun z2 m2 h2 => ?_⟩, fun q => by omega⟩
        · rw [hf 147 (by decide), f5 147 (by decide)]
          exact hI.z
        · have h3 := h2.1.2.2 (by rw [h2.1.1]; show 0 ≤ m 151 5; omega)
          have f15 : m2 151 = m 151 := h2.2 151 (by omega)
          refine ⟨by rw [f15, hf 151 (by decide), z5], Or.inr (Or.inr ⟨neg, by show ¬ (0 : Int) < 0; omega, by rw [h2.1.1]; exact e1, h3⟩)⟩
      | cons c B ih =>
        intro A i P m hC hi hx hv hp h7 hf
        rw [exe_s] at hx
        have e1 : m 151 5 = C.length := by rw [hf 151 (by decide), l5]
        have hA : (C.length : Int) = A.length + 1 + B.length := by rw [hC]; simp; omega
        have rc := r5 A.length c (by rw [hC]; simp)
        have ei : i.toNat = A.length := by omega
        have Vm : vC m := pe_v hv hp
        refine vc_X9_execute_39 ⟨fun q => by omega, fun q => ⟨by omega, by omega, by omega, by omega, by omega, by omega, ?_⟩⟩
        rw [ei, hf 153 (by decide), hf 154 (by decide), hf 155 (by decide), rc.1, rc.2.1, rc.2.2]
        refine ⟨_, sp_X9_carryOut Vm h7, fun z4 m6 h6 => ?_⟩
        have ce := cmd_pe hp c
        have ez : z4 = (o_cmd P c).1 := by rw [ce.1]; exact h6.1
        have hp6 : pe_ (o_cmd P c).2 (pC m6 1) := pe_tr ce.2 h6.2.2.1
        have f6 : fr_ (pjC 1) m5 m6 := fr_tr hf h6.2.1
        refine ⟨fun z0 => ⟨(by (try unfold am_in); (try unfold in_ at *); omega), ?_⟩, fun z0 => ?_⟩
        · rw [if_neg (by omega)] at hx
          exact ih (A ++ [c]) (i + 1) _ m6 (by rw [hC]; simp) (by simp; omega) hx (ov_cmd hv c).2 hp6 h6.2.2.2 f6
        · rw [if_pos (by omega)] at hx
          rw [hx]
          have p10 : pC m6 10 = pC m5 10 := pe_of f6 (by decide)
          refine ⟨_, sp_X4_copy (by decide) (by decide) (by decide), fun m8 ⟨j1, j2⟩ m9 e9 m10 e10 => ?_⟩
          have c9 := cp_C (a := 10) (b := 1) (by rw [p10]; exact pe_v hI.v c5.1) (by rw [f6 16 (by decide)]; exact c5.2) j2
          rw [p10] at c9
          have f10 : fr_ [0] m8 m10 := by rw [e10, e9]; exact fr_tr (fr_st (by simp)) (fr_st (by simp))
          have p1 : pC m10 1 = pC m8 1 := pe_of f10 (by decide)
          have fa : fr_ ((0 :: xL) ++ pjC 1 ++ pjC 10) μ m10 := fr_tr (fr_tr (fr_up f5 (by decide)) (fr_up f6 (by decide))) (fr_tr (fr_up j1 (by decide)) (fr_up f10 (by decide)))
          have m80 : m8 0 = μ 0 := by rw [j1 0 (by decide), f6 0 (by decide), f5 0 (by decide)]
          refine ⟨?_, Or.inr (Or.inl ⟨neg, by show (o_cmd P c).1 < 0; omega, rfl, un_of hI (by decide) fa (by rw [p1]; exact pe_tr c5.1 c9.1) ?_, ?_, ?_, fun j j10 j11 => ?_⟩)⟩
          · rw [f10 151 (by decide), j1 151 (by decide), f6 151 (by decide), z5]
          · rw [f10 7 (by decide)]
            exact c9.2
          · rw [e10, st_s, up_n (by decide), e9, st_s, up_s]
            exact ez
          · rw [e10, st_s, up_s]
          · rw [e10, st_s, up_n j11, e9, st_s, up_n j10, m80]
    exact this C [] 0 (pC μ 1) m5 (by simp) rfl rfl hI.v (by rw [p5]; exact pe_rf) (by rw [g1 7 (by decide), f3 7 (by decide)]; exact hI.h7) fr_rf
  · have pb := prs_b (T := μ 152) (n := μ 151 4) 20 0 h61.1
    rw [← a3] at pb
    ((try unfold am_in); (try unfold in_ at *); omega)
  · refine un_of hI (by decide) (fr_up f3 (by decide)) (by rw [p3]; exact pe_rf) ?_
    rw [f3 7 (by decide)]
    exact hI.h7

/-! the editor's questions: loudness, silences -/
theorem vc_X9_level_0 {x1 : Int} {μ : am_M} {Q : Int → am_M → Prop} (h : ∃ P : am_M → Prop, cl_V kC 6 mX9_measureNow [vR 0] μ P ∧ (∀ m2 : am_M, P m2 → ((0 ≤ x1 → (x1 < m2 144 5 → (0 ≤ x1) ∧ (x1 < 150)))) ∧ (∀ v3 : Int, v3 = (if x1 < 0 then (-1) else (if x1 < m2 144 5 then m2 145 ((x1).toNat) else (-1))) → Q v3 m2))) : at_I kC 7 mX9_level 0 [vR 0, vI x1] [] μ Q := by
  refine s_aload_n dX9_level_0 rfl rfl ?_
  obtain ⟨P, hcl, h⟩ := h
  refine s_callV (As := []) (rest := []) (k := 0) dX9_level_1 lkX9_250 kn0 ⟨by rw [kk0]; rfl, by rw [kk0]; decide⟩ lmX9_measureNow rfl rfl (Nat.le_of_ble_eq_true rfl) (by decide) (Nat.le_refl 0) (Nat.le_refl 0) (hC := hcl) (fun r n2 S2 m2 hP => ?_)
  obtain ⟨⟨rfl, rfl⟩, rfl, hq⟩ := hP
  have h := h m2 hq
  refine s_iload_n dX9_level_4 rfl rfl ?_
  obtain ⟨hsd, h⟩ := h
  have kj4 : ∀ (v3 : Int), (Q v3 m2) → at_I kC 7 mX9_level 32 [vU, vU] [vI v3] m2 Q := by
    intro v3 h
    exact s_ireturn dX9_level_32 (Or.inl rfl) ⟨⟨rfl, rfl⟩, _, rfl, h⟩
  refine s_if_lt dX9_level_5 (tgt := 19) (by decide) (fun cc => ?_) (fun cc => ?_)
  · have hp0 := cc
    refine s_iconst dX9_level_19 (by decide) ?_
    refine s_goto dX9_level_20 (tgt := 32) (by decide) ?_
    exact am_lesS (kj4 (-1) (h (-1) (by rw [if_pos hp0]))) ⟨Or.inl rfl, Or.inl rfl, trivial⟩
  · have hp0 := cc
    have hsd := hsd hp0
    refine s_iload_n dX9_level_8 rfl rfl ?_
    refine s_aload_n dX9_level_9 rfl rfl ?_
    refine s_getR dX9_level_10 flX9_43 kn0 kk0 rfl kr0_5 ?_
    refine s_getI (x := (m2 144 5)) dX9_level_13 flX9_253 kn144 kk144 rfl rfl ?_
    refine s_icmp_lt dX9_level_16 (tgt := 23) (by decide) (fun cc => ?_) (fun cc => ?_)
    · have hp1 := cc
      have hsd := hsd hp1
      refine s_aload_n dX9_level_23 rfl rfl ?_
      refine s_getR dX9_level_24 flX9_43 kn0 kk0 rfl kr0_5 ?_
      refine s_getR dX9_level_27 flX9_257 kn144 kk144 rfl kr144_2 ?_
      refine s_iload_n dX9_level_30 rfl rfl ?_
      obtain ⟨c, c2⟩ := hsd
      refine s_iald (x := (m2 145 ((x1).toNat))) dX9_level_31 kn145 kk145 kl145 c c2 rfl ?_
      exact am_lesS (kj4 (m2 145 ((x1).toNat)) (h (m2 145 ((x1).toNat)) (by rw [if_neg (Int.not_lt.mpr hp0), if_pos hp1]))) ⟨Or.inl rfl, Or.inl rfl, trivial⟩
    · have hp1 := cc
      refine s_iconst dX9_level_19 (by decide) ?_
      refine s_goto dX9_level_20 (tgt := 32) (by decide) ?_
      exact am_lesS (kj4 (-1) (h (-1) (by rw [if_neg (Int.not_lt.mpr hp0), if_neg (Int.not_lt.mpr hp1)]))) ⟨Or.inl rfl, Or.inl rfl, trivial⟩
theorem ve_X9_level {x1 : Int} {μ : am_M} {Q : Int → am_M → Prop} (h : at_I kC 7 mX9_level 0 [vR 0, vI x1] [] μ Q) : cl_I kC 7 mX9_level [vR 0, vI x1] μ Q := am_intro pmX9_level (Nat.le_of_ble_eq_true rfl) rfl h
theorem sp_X9_level {K : Int} {μ : am_M} {k : Int} (hI : CI K μ) : cl_I kC 7 mX9_level [vR 0, vI k] μ (fun z m => z = q_level (pC μ 1) k ∧ cq_ μ m) := by
  have w1 : in_ 0 151 (winC μ) := (win_b (la_b6 hI.v) hI.v.hE.2.1).1
  refine ve_X9_level (vc_X9_level_0 ⟨_, sp_X9_measureNow hI.v hI.sn hI.z, fun m2 ⟨k1, k2⟩ => ?_⟩)
  rw [k2.1]
  refine ⟨fun a b => ⟨a, by ((try unfold am_in); (try unfold in_ at *); omega)⟩, fun v e => ⟨?_, k1⟩⟩
  by_cases c : 0 ≤ k ∧ k < winC μ
  · rw [show q_level (pC μ 1) k = _ from cif_t c, e, if_neg (by omega), if_pos c.2]
    exact k2.2.2.2.2.2 k c.1 c.2
  · rw [show q_level (pC μ 1) k = _ from cif_f c, e]
    split
    · rfl
    · rw [if_neg (by omega)]
theorem vc_X9_loudness_0 {x1 : Int} {μ : am_M} {Q : Int → am_M → Prop} (h : (x1 < 0 → Q (-2) μ) ∧ (0 ≤ x1 → (x1 ≤ 4 → ∃ P : am_M → Prop, cl_V kC 6 mX9_measureNow [vR 0] μ P ∧ (∀ m2 : am_M, P m2 → (x1 = 0 → Q (m2 144 5) m2) ∧ (x1 = 1 → Q (m2 144 6) m2) ∧ (x1 = 2 → Q (m2 144 7) m2) ∧ (x1 = 3 → Q (m2 144 8) m2) ∧ (x1 ≠ 0 → x1 ≠ 1 → x1 ≠ 2 → x1 ≠ 3 → Q (m2 144 9) m2))) ∧ (4 < x1 → Q (-2) μ))) : at_I kC 7 mX9_loudness 0 [vR 0, vI x1] [] μ Q := by
  refine s_iload_n dX9_loudness_0 rfl rfl ?_
  refine s_if_lt dX9_loudness_1 (tgt := 9) (by decide) (fun cc => ?_) (fun cc => ?_)
  · have h := h.1 cc
    refine s_bipush dX9_loudness_9 (by decide) ?_
    exact s_ireturn dX9_loudness_11 (Or.inl rfl) ⟨⟨rfl, rfl⟩, _, rfl, h⟩
  · have h := h.2 cc
    refine s_iload_n dX9_loudness_4 rfl rfl ?_
    refine s_iconst dX9_loudness_5 (by decide) ?_
    refine s_icmp_le dX9_loudness_6 (tgt := 12) (by decide) (fun cc => ?_) (fun cc => ?_)
    · have h := h.1 cc
      refine s_aload_n dX9_loudness_12 rfl rfl ?_
      obtain ⟨P, hcl, h⟩ := h
      refine s_callV (As := []) (rest := []) (k := 0) dX9_loudness_13 lkX9_250 kn0 ⟨by rw [kk0]; rfl, by rw [kk0]; decide⟩ lmX9_measureNow rfl rfl (Nat.le_of_ble_eq_true rfl) (by decide) (Nat.le_refl 0) (Nat.le_refl 0) (hC := hcl) (fun r n2 S2 m2 hP => ?_)
      obtain ⟨⟨rfl, rfl⟩, rfl, hq⟩ := hP
      have h := h m2 hq
      refine s_iload_n dX9_loudness_16 rfl rfl ?_
      by_cases cc : x1 = 0
      · have h := h.1 cc
        refine s_table_in dX9_loudness_17 (by omega) (by omega) (by rw [cc] <;> rfl) (tgt := 48) (by decide) ?_
        refine s_aload_n dX9_loudness_48 rfl rfl ?_
        refine s_getR dX9_loudness_49 flX9_43 kn0 kk0 rfl kr0_5 ?_
        refine s_getI (x := (m2 144 5)) dX9_loudness_52 flX9_253 kn144 kk144 rfl rfl ?_
        exact s_ireturn dX9_loudness_55 (Or.inl rfl) ⟨⟨rfl, rfl⟩, _, rfl, h⟩
      have n0 := cc
      have h := h.2
      by_cases cc : x1 = 1
      · have h := h.1 cc
        refine s_table_in dX9_loudness_17 (by omega) (by omega) (by rw [cc] <;> rfl) (tgt := 56) (by decide) ?_
        refine s_aload_n dX9_loudness_56 rfl rfl ?_
        refine s_getR dX9_loudness_57 flX9_43 kn0 kk0 rfl kr0_5 ?_
        refine s_getI (x := (m2 144 6)) dX9_loudness_60 flX9_260 kn144 kk144 rfl rfl ?_
        exact s_ireturn dX9_loudness_63 (Or.inl rfl) ⟨⟨rfl, rfl⟩, _, rfl, h⟩
      have n1 := cc
      have h := h.2
      by_cases cc : x1 = 2
      · have h := h.1 cc
        refine s_table_in dX9_loudness_17 (by omega) (by omega) (by rw [cc] <;> rfl) (tgt := 64) (by decide) ?_
        refine s_aload_n dX9_loudness_64 rfl rfl ?_
        refine s_getR dX9_loudness_65 flX9_43 kn0 kk0 rfl kr0_5 ?_
        refine s_getI (x := (m2 144 7)) dX9_loudness_68 flX9_263 kn144 kk144 rfl rfl ?_
        exact s_ireturn dX9_loudness_71 (Or.inl rfl) ⟨⟨rfl, rfl⟩, _, rfl, h⟩
      have n2 := cc
      have h := h.2
      by_cases cc : x1 = 3
      · have h := h.1 cc
        refine s_table_in dX9_loudness_17 (by omega) (by omega) (by rw [cc] <;> rfl) (tgt := 72) (by decide) ?_
        refine s_aload_n dX9_loudness_72 rfl rfl ?_
        refine s_getR dX9_loudness_73 flX9_43 kn0 kk0 rfl kr0_5 ?_
        refine s_getI (x := (m2 144 8)) dX9_loudness_76 flX9_266 kn144 kk144 rfl rfl ?_
        exact s_ireturn dX9_loudness_79 (Or.inl rfl) ⟨⟨rfl, rfl⟩, _, rfl, h⟩
      have n3 := cc
      have h := h.2
      have h := h n0 n1 n2 n3
      refine s_table_out dX9_loudness_17 ((Int.lt_or_le (x1) 0).elim Or.inl (fun q => Or.inr (by have q := q; have q := Int.lt_iff_le_and_ne.mpr ⟨(show 0 ≤ x1 from q), (fun e => n0 e.symm)⟩; have q := Int.lt_iff_le_and_ne.mpr ⟨(show 1 ≤ x1 from q), (fun e => n1 e.symm)⟩; have q := Int.lt_iff_le_and_ne.mpr ⟨(show 2 ≤ x1 from q), (fun e => n2 e.symm)⟩; have q := Int.lt_iff_le_and_ne.mpr ⟨(show 3 ≤ x1 from q), (fun e => n3 e.symm)⟩; exact q))) (tgt := 80) (by decide) ?_
      refine s_aload_n dX9_loudness_80 rfl rfl ?_
      refine s_getR dX9_loudness_81 flX9_43 kn0 kk0 rfl kr0_5 ?_
      refine s_getI (x := (m2 144 9)) dX9_loudness_84 flX9_269 kn144 kk144 rfl rfl ?_
      exact s_ireturn dX9_loudness_87 (Or.inl rfl) ⟨⟨rfl, rfl⟩, _, rfl, h⟩
    · have h := h.2 cc
      refine s_bipush dX9_loudness_9 (by decide) ?_
      exact s_ireturn dX9_loudness_11 (Or.inl rfl) ⟨⟨rfl, rfl⟩, _, rfl, h⟩
theorem ve_X9_loudness {x1 : Int} {μ : am_M} {Q : Int → am_M → Prop} (h : at_I kC 7 mX9_loudness 0 [vR 0, vI x1] [] μ Q) : cl_I kC 7 mX9_loudness [vR 0, vI x1] μ Q := am_intro pmX9_loudness (Nat.le_of_ble_eq_true rfl) rfl h
theorem sp_X9_loudness {K : Int} {μ : am_M} {w : Int} (hI : CI K μ) : cl_I kC 7 mX9_loudness [vR 0, vI w] μ (fun z m => z = q_loudness (pC μ 1) w ∧ cq_ μ m) := by
  have hr := cq_rf hI
  have e0 : q_loudness (pC μ 1) w = if w = 0 then winC μ else if w = 1 then lq_ (lvC μ (μ 2 0)) (winC μ) (gtC μ) else if w = 2 then ll_ (lvC μ (μ 2 0)) (winC μ) (gtC μ) (μ 2 3) else if w = 3 then lm_ (lvC μ (μ 2 0)) (winC μ) (gtC μ) else if w = 4 then loC μ (μ 2 0) else -2 := rfl
  have bad : (w < 0 ∨ 4 < w) → (-2 : Int) = q_loudness (pC μ 1) w ∧ cq_ μ μ := fun h => ⟨by rw [e0, if_neg (by omega), if_neg (by omega), if_neg (by omega), if_neg (by omega), if_neg (by omega)], hr⟩
  refine ve_X9_loudness (vc_X9_loudness_0 ⟨fun q => bad (by omega), fun q0 => ⟨fun q1 => ⟨_, sp_X9_measureNow hI.v hI.sn hI.z, fun m2 ⟨k1, k2⟩ => ?_⟩, fun q => bad (by omega)⟩⟩)
  obtain ⟨h1, h2, h3, h4, h5, h6⟩ := k2
  refine ⟨fun n => ⟨?_, k1⟩, fun n => ⟨?_, k1⟩, fun n => ⟨?_, k1⟩, fun n => ⟨?_, k1⟩, fun n0 n1 n2 n3 => ⟨?_, k1⟩⟩
  · rw [e0, if_pos n, h1]
  · rw [e0, if_neg (by omega), if_pos n, h2]
  · rw [e0, if_neg (by omega), if_neg (by omega), if_pos n, h3]
  · rw [e0, if_neg (by omega), if_neg (by omega), if_neg (by omega), if_pos n, h4]
  · rw [e0, if_neg (by omega), if_neg (by omega), if_neg (by omega), if_neg (by omega), if_pos (by omega), h5]
theorem vc_X9_masterFor_0 {x1 : Int} {μ : am_M} {Q : Int → am_M → Prop} (h : ∃ P : Int → am_M → Prop, cl_I kC 6 mX9_greatestMaster [vR 0, vI x1] μ P ∧ (∀ (z1 : Int) (m2 : am_M), P z1 m2 → Q z1 m2)) : at_I kC 7 mX9_masterFor 0 [vR 0, vI x1] [] μ Q := by
  refine s_aload_n dX9_masterFor_0 rfl rfl ?_
  refine s_iload_n dX9_masterFor_1 rfl rfl ?_
  obtain ⟨P, hcl, h⟩ := h
  refine s_callV (As := [vI x1]) (rest := []) (k := 0) dX9_masterFor_2 lkX9_272 kn0 ⟨by rw [kk0]; rfl, by rw [kk0]; decide⟩ lmX9_greatestMaster rfl rfl (Nat.le_of_ble_eq_true rfl) (by decide) (Nat.le_refl 0) (Nat.le_refl 0) (hC := hcl) (fun r n2 S2 m2 hP => ?_)
  obtain ⟨⟨rfl, rfl⟩, z1, rfl, hq⟩ := hP
  have h := h z1 m2 hq
  exact s_ireturn dX9_masterFor_5 (Or.inl rfl) ⟨⟨rfl, rfl⟩, _, rfl, h⟩
theorem ve_X9_masterFor {x1 : Int} {μ : am_M} {Q : Int → am_M → Prop} (h : at_I kC 7 mX9_masterFor 0 [vR 0, vI x1] [] μ Q) : cl_I kC 7 mX9_masterFor [vR 0, vI x1] μ Q := am_intro pmX9_masterFor (Nat.le_of_ble_eq_true rfl) rfl h
theorem sp_X9_masterFor {K : Int} {μ : am_M} {t : Int} (hI : CI K μ) : cl_I kC 7 mX9_masterFor [vR 0, vI t] μ (fun z m => z = q_master (pC μ 1) t ∧ cq_ μ m) :=
  ve_X9_masterFor (vc_X9_masterFor_0 ⟨_, sp_X9_greatestMaster hI, fun z m h => h⟩)
theorem vc_X9_covered_0 {x1 : Int} {μ : am_M} {Q : Int → am_M → Prop} (h : (0 ≤ x1 ∧ x1 < 4 → at_I kC 4 mX9_covered 13 [vR 0, vI x1, vI 0, vI 0] [] μ Q) ∧ (¬ (0 ≤ x1 ∧ x1 < 4) → Q (-1) μ)) : at_I kC 4 mX9_covered 0 [vR 0, vI x1, vU, vU] [] μ Q := by
  refine s_iload_n dX9_covered_0 rfl rfl ?_
  refine s_callS (As := [vI x1]) (rest := []) dX9_covered_1 lkX9_106 lmX9_isTrack rfl rfl (Nat.le_of_ble_eq_true rfl) (by decide) (Nat.le_refl 0) (Nat.le_refl 0) (hC := sp_X9_isTrack (Q := fun z m => bI (0 ≤ x1 ∧ x1 < 4) = z ∧ μ = m)  ⟨rfl, rfl⟩) (fun r n2 S2 m2 hP => ?_)
  obtain ⟨⟨rfl, rfl⟩, z, rfl, rfl, rfl⟩ := hP
  refine s_if_ne dX9_covered_4 (tgt := 9) (by decide) (fun cc => ?_) (fun cc => ?_)
  · have h := h.1 (bI_ne cc)
    refine s_iconst dX9_covered_9 (by decide) ?_
    refine s_istore_n dX9_covered_10 rfl (by decide) (L' := [vR 0, vI x1, vI 0, vU]) rfl ?_
    refine s_iconst dX9_covered_11 (by decide) ?_
    refine s_istore_n dX9_covered_12 rfl (by decide) (L' := [vR 0, vI x1, vI 0, vI 0]) rfl ?_
    exact h
  · have h := h.2 (bI_eq cc)
    refine s_iconst dX9_covered_7 (by decide) ?_
    exact s_ireturn dX9_covered_8 (Or.inl rfl) ⟨⟨rfl, rfl⟩, _, rfl, h⟩
theorem vc_X9_covered_13 {x1 x2 x3 : Int} {μ : am_M} {Q : Int → am_M → Prop} (h : (600 ≤ x3 → Q x2 μ) ∧ (x3 < 600 → (ok_T (cg μ) (μ 5 1)) ∧ (∀ v1 : Int, v1 = fst_ (on_p (cg μ) x1 x3) (μ 5 1) (-1) → ((0 ≤ v1 → (am_in (x2 + 1)))) ∧ (∀ v2 : Int, v2 = (if v1 < 0 then x2 else x2 + 1) → (am_in (x3 + 1)) ∧ (at_I kC 4 mX9_covered 13 [vR 0, vI x1, vI v2, vI (x3 + 1)] [] μ Q))))) : at_I kC 4 mX9_covered 13 [vR 0, vI x1, vI x2, vI x3] [] μ Q := by
  refine s_iload_n dX9_covered_13 rfl rfl ?_
  refine s_sipush dX9_covered_14 (by decide) ?_
  refine s_icmp_ge dX9_covered_17 (tgt := 44) (by decide) (fun cc => ?_) (fun cc => ?_)
  · have h := h.1 cc
    refine s_iload_n dX9_covered_44 rfl rfl ?_
    exact s_ireturn dX9_covered_45 (Or.inl rfl) ⟨⟨rfl, rfl⟩, _, rfl, h⟩
  · have h := h.2 cc
    refine s_aload_n dX9_covered_20 rfl rfl ?_
    refine s_getR dX9_covered_21 flX9_12 kn0 kk0 rfl kr0_0 ?_
    refine s_getR dX9_covered_24 flX9_80 kn1 kk1 rfl kr1_3 ?_
    refine s_iload_n dX9_covered_27 rfl rfl ?_
    refine s_iload_n dX9_covered_28 rfl rfl ?_
    obtain ⟨p0, h⟩ := h
    refine s_callV (As := [vI x1, vI x3]) (rest := []) (k := 5) dX9_covered_29 lkX9_183 kn5 ⟨by rw [kk5]; rfl, by rw [kk5]; decide⟩ lmX1_on rfl rfl (Nat.le_of_ble_eq_true rfl) (by decide) (Nat.le_refl 0) (Nat.le_refl 0) (hC := sp_X1_on (Q := fun z m => z = fst_ (on_p (cg μ) x1 x3) (μ 5 1) (-1) ∧ μ = m) p0 ⟨rfl, rfl⟩) (fun r n2 S2 m2 hP => ?_)
    obtain ⟨⟨rfl, rfl⟩, v1, rfl, hz, rfl⟩ := hP
    have h := h v1 hz
    obtain ⟨hsd, h⟩ := h
    have kj3 : ∀ (v2 : Int), ((am_in (x3 + 1)) ∧ (at_I kC 4 mX9_covered 13 [vR 0, vI x1, vI v2, vI (x3 + 1)] [] μ Q)) → at_I kC 4 mX9_covered 38 [vR 0, vI x1, vI v2, vI x3] [] μ Q := by
      intro v2 h
      obtain ⟨c, h⟩ := h
      refine s_iinc dX9_covered_38 rfl (am_w_id c) (by decide) (L' := [vR 0, vI x1, vI v2, vI (x3 + 1)]) rfl ?_
      refine s_goto dX9_covered_41 (tgt := 13) (by decide) ?_
      exact h
    refine s_if_lt dX9_covered_32 (tgt := 38) (by decide) (fun cc => ?_) (fun cc => ?_)
    · have hp0 := cc
      exact kj3 x2 (h x2 (by rw [if_pos hp0]))
    · have hp0 := cc
      have hsd := hsd hp0
      have c := hsd
      refine s_iinc dX9_covered_35 rfl (am_w_id c) (by decide) (L' := [vR 0, vI x1, vI (x2 + 1), vI x3]) rfl ?_
      exact kj3 (x2 + 1) (h (x2 + 1) (by rw [if_neg (Int.not_lt.mpr hp0)]))
theorem ve_X9_covered {x1 : Int} {μ : am_M} {Q : Int → am_M → Prop} (h : at_I kC 4 mX9_covered 0 [vR 0, vI x1, vU, vU] [] μ Q) : cl_I kC 4 mX9_covered [vR 0, vI x1] μ Q := am_intro pmX9_covered (Nat.le_of_ble_eq_true rfl) rfl h
theorem sp_X9_covered {K : Int} {μ : am_M} {t : Int} (hI : CI K μ) : cl_I kC 4 mX9_covered [vR 0, vI t] μ (fun z m => z = q_covered (pC μ 1) t ∧ cq_ μ m) := by
  have hr := cq_rf hI
  refine ve_X9_covered (vc_X9_covered_0 ⟨fun c => ?_, fun c => ⟨(cif_f c).symm, hr⟩⟩)
  rw [show q_covered (pC μ 1) t = _ from cif_t c]
  have : ∀ (j : Nat) (y x : Int), x + j = 600 → 0 ≤ x → y = sm_ (fun f => if onP (pC μ 1) t f < 0 then 0 else 1) x → at_I kC 4 mX9_covered 13 [vR 0, vI t, vI y, vI x] [] μ (fun z m => z = sm_ (fun f => if onP (pC μ 1) t f < 0 then 0 else 1) 600 ∧ cq_ μ m) := by
    intro j
    induction j with
    | zero =>
      intro y x h h0 e
      refine vc_X9_covered_13 ⟨fun _ => ⟨?_, hr⟩, fun q => by omega⟩
      rw [e, show x = 600 by omega]
    | succ j ih =>
      intro y x h h0 e
      have sb := sm_b (f := fun f => if onP (pC μ 1) t f < 0 then 0 else 1) (n := x) (B := 1) h0 (by omega) (fun i _ _ => by split <;> omega)
      refine vc_X9_covered_13 ⟨fun q => by omega, fun q => ⟨hI.v.okT, fun v1 e1 => ⟨fun _ => by rw [e]; ((try unfold am_in); (try unfold in_ at *); omega), fun v2 e2 => ⟨(by (try unfold am_in); (try unfold in_ at *); omega), ih v2 (x + 1) (by omega) (by omega) ?_⟩⟩⟩⟩
      have eo : onP (pC μ 1) t x = v1 := e1.symm
      rw [e2, e]
      unfold sm_
      rw [fI_s _ _ h0]
      show _ = _ + (if onP (pC μ 1) t x < 0 then 0 else 1)
      rw [eo]
      split <;> omega
  exact this 600 0 0 (by omega) (by omega) rfl
theorem vc_X9_loudnessAgain_0 {μ : am_M} {Q : Int → am_M → Prop} (h : ∃ P : am_M → Prop, cl_V kC 5 mX7_refresh [vR 129] μ P ∧ (∀ m2 : am_M, P m2 → ∃ P : Int → am_M → Prop, cl_I kC 5 mX3_secondWay [vR 144] m2 P ∧ (∀ (z3 : Int) (m4 : am_M), P z3 m4 → Q z3 m4))) : at_I kC 6 mX9_loudnessAgain 0 [vR 0] [] μ Q := by
  refine s_aload_n dX9_loudnessAgain_0 rfl rfl ?_
  refine s_getR dX9_loudnessAgain_1 flX9_34 kn0 kk0 rfl kr0_4 ?_
  obtain ⟨P, hcl, h⟩ := h
  refine s_callV (As := []) (rest := []) (k := 129) dX9_loudnessAgain_4 lkX9_278 kn129 ⟨by rw [kk129]; rfl, by rw [kk129]; decide⟩ lmX7_refresh rfl rfl (Nat.le_of_ble_eq_true rfl) (by decide) (Nat.le_refl 0) (Nat.le_refl 0) (hC := hcl) (fun r n2 S2 m2 hP => ?_)
  obtain ⟨⟨rfl, rfl⟩, rfl, hq⟩ := hP
  have h := h m2 hq
  refine s_aload_n dX9_loudnessAgain_7 rfl rfl ?_
  refine s_getR dX9_loudnessAgain_8 flX9_43 kn0 kk0 rfl kr0_5 ?_
  obtain ⟨P, hcl, h⟩ := h
  refine s_callV (As := []) (rest := []) (k := 144) dX9_loudnessAgain_11 lkX9_281 kn144 ⟨by rw [kk144]; rfl, by rw [kk144]; decide⟩ lmX3_secondWay rfl rfl (Nat.le_of_ble_eq_true rfl) (by decide) (Nat.le_refl 0) (Nat.le_refl 0) (hC := hcl) (fun r n2 S2 m4 hP => ?_)
  obtain ⟨⟨rfl, rfl⟩, z3, rfl, hq⟩ := hP
  have h := h z3 m4 hq
  exact s_ireturn dX9_loudnessAgain_14 (Or.inl rfl) ⟨⟨rfl, rfl⟩, _, rfl, h⟩
theorem ve_X9_loudnessAgain {μ : am_M} {Q : Int → am_M → Prop} (h : at_I kC 6 mX9_loudnessAgain 0 [vR 0] [] μ Q) : cl_I kC 6 mX9_loudnessAgain [vR 0] μ Q := am_intro pmX9_loudnessAgain (Nat.le_of_ble_eq_true rfl) rfl h
theorem sp_X9_loudnessAgain {K : Int} {μ : am_M} (hI : CI K μ) : cl_I kC 6 mX9_loudnessAgain [vR 0] μ (fun z m => z = loP (pC μ 1) (pE (pC μ 1) 0) ∧ cq_ μ m) := by
  refine ve_X9_loudnessAgain (vc_X9_loudnessAgain_0 ⟨_, sp_X7_refresh hI.v hI.sn, fun m2 ⟨h1, h2, h3⟩ => ?_⟩)
  have hV2 := vC_fr h1 rfL_9 hI.v
  refine ⟨_, sp_X3_secondWay hV2 h3.2.2.2 (by rw [h1 147 (by decide)]; exact hI.z), fun z m ⟨g1, g2, g3⟩ => ⟨?_, ?_, fun _ => snd_fr g2 (by decide) hV2.hS.1 h3, g3⟩⟩
  · rw [g1]
    show loP (pC m2 1) (pE (pC m2 1) 0) = _
    rw [vC_G h1 rfL_9]
  · exact fr_tr (fr_up h1 (fun k hk => by unfold chL; simp [hk])) (fr_up g2 (by decide))
theorem vc_X9_silence_0 {x1 x2 x3 x4 : Int} {μ : am_M} {Q : Int → am_M → Prop} (h : ((1 ≤ x1 ∧ x1 ≤ 999) ∧ 1 ≤ x2 ∧ x2 ≤ 600 → ∃ P : am_M → Prop, cl_V kC 5 mX7_refresh [vR 129] μ P ∧ (∀ m2 : am_M, P m2 → ∃ P : am_M → Prop, cl_V kC 4 mX6_find [vR 148, vI x1, vI x2] m2 P ∧ (∀ m4 : am_M, P m4 → (x3 ≠ (-1) → (x3 < 0 → Q (-1) m4) ∧ (0 ≤ x3 → (x3 < m4 148 4 → (x4 < 0 → Q (-2) m4) ∧ (0 ≤ x4 → (x4 ≤ 1 → ((x4 ≠ 0 → (0 ≤ x3) ∧ (x3 < 300)) ∧ (x4 = 0 → (0 ≤ x3) ∧ (x3 < 300))) ∧ (∀ v5 : Int, v5 = (if x4 = 0 then m4 149 ((x3).toNat) else m4 150 ((x3).toNat)) → Q v5 m4)) ∧ (1 < x4 → Q (-2) m4))) ∧ (m4 148 4 ≤ x3 → Q (-1) m4))) ∧ (x3 = (-1) → Q (m4 148 4) m4)))) ∧ (¬ ((1 ≤ x1 ∧ x1 ≤ 999) ∧ 1 ≤ x2 ∧ x2 ≤ 600) → Q (-2) μ)) : at_I kC 6 mX9_silence 0 [vR 0, vI x1, vI x2, vI x3, vI x4] [] μ Q := by
  refine s_iload_n dX9_silence_0 rfl rfl ?_
  refine s_iload_n dX9_silence_1 rfl rfl ?_
  refine s_callS (As := [vI x1, vI x2]) (rest := []) dX9_silence_2 lkX9_284 lmX9_isSilence rfl rfl (Nat.le_of_ble_eq_true rfl) (by decide) (Nat.le_refl 0) (Nat.le_refl 0) (hC := sp_X9_isSilence (Q := fun z m => bI ((1 ≤ x1 ∧ x1 ≤ 999) ∧ 1 ≤ x2 ∧ x2 ≤ 600) = z ∧ μ = m)  ⟨rfl, rfl⟩) (fun r n2 S2 m2 hP => ?_)
  obtain ⟨⟨rfl, rfl⟩, z, rfl, rfl, rfl⟩ := hP
  refine s_if_ne dX9_silence_5 (tgt := 11) (by decide) (fun cc => ?_) (fun cc => ?_)
  · have h := h.1 (bI_ne cc)
    refine s_aload_n dX9_silence_11 rfl rfl ?_
    refine s_getR dX9_silence_12 flX9_34 kn0 kk0 rfl kr0_4 ?_
    obtain ⟨P, hcl, h⟩ := h
    refine s_callV (As := []) (rest := []) (k := 129) dX9_silence_15 lkX9_278 kn129 ⟨by rw [kk129]; rfl, by rw [kk129]; decide⟩ lmX7_refresh rfl rfl (Nat.le_of_ble_eq_true rfl) (by decide) (Nat.le_refl 0) (Nat.le_refl 0) (hC := hcl) (fun r n2 S2 m2 hP => ?_)
    obtain ⟨⟨rfl, rfl⟩, rfl, hq⟩ := hP
    have h := h m2 hq
    refine s_aload_n dX9_silence_18 rfl rfl ?_
    refine s_getR dX9_silence_19 flX9_50 kn0 kk0 rfl kr0_6 ?_
    refine s_iload_n dX9_silence_22 rfl rfl ?_
    refine s_iload_n dX9_silence_23 rfl rfl ?_
    obtain ⟨P, hcl, h⟩ := h
    refine s_callV (As := [vI x1, vI x2]) (rest := []) (k := 148) dX9_silence_24 lkX9_287 kn148 ⟨by rw [kk148]; rfl, by rw [kk148]; decide⟩ lmX6_find rfl rfl (Nat.le_of_ble_eq_true rfl) (by decide) (Nat.le_refl 0) (Nat.le_refl 0) (hC := hcl) (fun r n2 S2 m4 hP => ?_)
    obtain ⟨⟨rfl, rfl⟩, rfl, hq⟩ := hP
    have h := h m4 hq
    refine s_iload_n dX9_silence_27 rfl rfl ?_
    refine s_iconst dX9_silence_28 (by decide) ?_
    refine s_icmp_ne dX9_silence_29 (tgt := 40) (by decide) (fun cc => ?_) (fun cc => ?_)
    · have h := h.1 cc
      refine s_iload_n dX9_silence_40 rfl rfl ?_
      refine s_if_lt dX9_silence_41 (tgt := 55) (by decide) (fun cc => ?_) (fun cc => ?_)
      · have h := h.1 cc
        refine s_iconst dX9_silence_55 (by decide) ?_
        exact s_ireturn dX9_silence_56 (Or.inl rfl) ⟨⟨rfl, rfl⟩, _, rfl, h⟩
      · have h := h.2 cc
        refine s_iload_n dX9_silence_44 rfl rfl ?_
        refine s_aload_n dX9_silence_45 rfl rfl ?_
        refine s_getR dX9_silence_46 flX9_50 kn0 kk0 rfl kr0_6 ?_
        refine s_getI (x := (m4 148 4)) dX9_silence_49 flX9_291 kn148 kk148 rfl rfl ?_
        refine s_icmp_lt dX9_silence_52 (tgt := 57) (by decide) (fun cc => ?_) (fun cc => ?_)
        · have h := h.1 cc
          refine s_iload dX9_silence_57 rfl ?_
          refine s_if_lt dX9_silence_59 (tgt := 68) (by decide) (fun cc => ?_) (fun cc => ?_)
          · have h := h.1 cc
            refine s_bipush dX9_silence_68 (by decide) ?_
            exact s_ireturn dX9_silence_70 (Or.inl rfl) ⟨⟨rfl, rfl⟩, _, rfl, h⟩
          · have h := h.2 cc
            refine s_iload dX9_silence_62 rfl ?_
            refine s_iconst dX9_silence_64 (by decide) ?_
            refine s_icmp_le dX9_silence_65 (tgt := 71) (by decide) (fun cc => ?_) (fun cc => ?_)
            · have h := h.1 cc
              refine s_iload dX9_silence_71 rfl ?_
              obtain ⟨hsd, h⟩ := h
              have kj6 : ∀ (v5 : Int), (Q v5 m4) → at_I kC 6 mX9_silence 97 [vU, vU, vU, vU, vU] [vI v5] m4 Q := by
                intro v5 h
                exact s_ireturn dX9_silence_97 (Or.inl rfl) ⟨⟨rfl, rfl⟩, _, rfl, h⟩
              refine s_if_ne dX9_silence_73 (tgt := 88) (by decide) (fun cc => ?_) (fun cc => ?_)
              · have hp0 := cc
                have hsd := hsd.1 hp0
                refine s_aload_n dX9_silence_88 rfl rfl ?_
                refine s_getR dX9_silence_89 flX9_50 kn0 kk0 rfl kr0_6 ?_
                refine s_getR dX9_silence_92 flX9_297 kn148 kk148 rfl kr148_3 ?_
                refine s_iload_n dX9_silence_95 rfl rfl ?_
                obtain ⟨c, c2⟩ := hsd
                refine s_iald (x := (m4 150 ((x3).toNat))) dX9_silence_96 kn150 kk150 kl150 c c2 rfl ?_
                exact am_lesS (kj6 (m4 150 ((x3).toNat)) (h (m4 150 ((x3).toNat)) (by rw [if_neg hp0]))) ⟨Or.inl rfl, Or.inl rfl, Or.inl rfl, Or.inl rfl, Or.inl rfl, trivial⟩
              · have hp0 := cc
                have hsd := hsd.2 hp0
                refine s_aload_n dX9_silence_76 rfl rfl ?_
                refine s_getR dX9_silence_77 flX9_50 kn0 kk0 rfl kr0_6 ?_
                refine s_getR dX9_silence_80 flX9_294 kn148 kk148 rfl kr148_2 ?_
                refine s_iload_n dX9_silence_83 rfl rfl ?_
                obtain ⟨c, c2⟩ := hsd
                refine s_iald (x := (m4 149 ((x3).toNat))) dX9_silence_84 kn149 kk149 kl149 c c2 rfl ?_
                refine s_goto dX9_silence_85 (tgt := 97) (by decide) ?_
                exact am_lesS (kj6 (m4 149 ((x3).toNat)) (h (m4 149 ((x3).toNat)) (by rw [if_pos hp0]))) ⟨Or.inl rfl, Or.inl rfl, Or.inl rfl, Or.inl rfl, Or.inl rfl, trivial⟩
            · have h := h.2 cc
              refine s_bipush dX9_silence_68 (by decide) ?_
              exact s_ireturn dX9_silence_70 (Or.inl rfl) ⟨⟨rfl, rfl⟩, _, rfl, h⟩
        · have h := h.2 cc
          refine s_iconst dX9_silence_55 (by decide) ?_
          exact s_ireturn dX9_silence_56 (Or.inl rfl) ⟨⟨rfl, rfl⟩, _, rfl, h⟩
    · have h := h.2 cc
      refine s_aload_n dX9_silence_32 rfl rfl ?_
      refine s_getR dX9_silence_33 flX9_50 kn0 kk0 rfl kr0_6 ?_
      refine s_getI (x := (m4 148 4)) dX9_silence_36 flX9_291 kn148 kk148 rfl rfl ?_
      exact s_ireturn dX9_silence_39 (Or.inl rfl) ⟨⟨rfl, rfl⟩, _, rfl, h⟩
  · have h := h.2 (bI_eq cc)
    refine s_bipush dX9_silence_8 (by decide) ?_
    exact s_ireturn dX9_silence_10 (Or.inl rfl) ⟨⟨rfl, rfl⟩, _, rfl, h⟩
theorem ve_X9_silence {x1 x2 x3 x4 : Int} {μ : am_M} {Q : Int → am_M → Prop} (h : at_I kC 6 mX9_silence 0 [vR 0, vI x1, vI x2, vI x3, vI x4] [] μ Q) : cl_I kC 6 mX9_silence [vR 0, vI x1, vI x2, vI x3, vI x4] μ Q := am_intro pmX9_silence (Nat.le_of_ble_eq_true rfl) rfl h
theorem sl_g {m : am_M} {L : Sl} (h : fo6_ m L) {i : Int} (h0 : 0 ≤ i) (h1 : i < L.length) : m 149 i.toNat = (L.getD i.toNat (0, 0)).1 ∧ m 150 i.toNat = (L.getD i.toNat (0, 0)).2 := by
  have hl : i.toNat < L.length := by omega
  have := h.2 i.toNat _ (List.getElem?_eq_getElem hl)
  rw [List.getD_eq_getElem?_getD, List.getElem?_eq_getElem hl]
  exact this
theorem sil_l {F : Int → Int} {v n e : Int} (hn : 1 ≤ n) (he : in_ 0 601 e) : (sil_ F v n e).length ≤ 300 := by
  have b := sl_b (F := F) (v := v) hn he.1
  unfold sil_ in_ at *
  split
  · rw [List.length_append]; simp; omega
  · omega
theorem sp_X9_silence {K : Int} {μ : am_M} {v n i w : Int} (hI : CI K μ) : cl_I kC 6 mX9_silence [vR 0, vI v, vI n, vI i, vI w] μ (fun z m => z = q_silence (pC μ 1) v n i w ∧ cq_ μ m) := by
  refine ve_X9_silence (vc_X9_silence_0 ⟨fun c => ⟨_, sp_X7_refresh hI.v hI.sn, fun m2 ⟨h1, h2, h3⟩ => ?_⟩, fun c => ⟨(cif_t c).symm, cq_rf hI⟩⟩)
  have hV2 := vC_fr h1 rfL_9 hI.v
  have eS : sil_ (mixC m2) v n (la_ (cg m2) (m2 5 1)) = silP (pC μ 1) v n := by
    show silP (pC m2 1) v n = _
    rw [vC_G h1 rfL_9]
  refine ⟨_, sp_X6_find hV2 h3.2.2.2 ⟨c.2.1, by omega⟩, fun m4 ⟨k1, k2⟩ => ?_⟩
  rw [eS] at k2
  have hq : cq_ μ m4 := ⟨fr_tr (fr_up h1 (fun k hk => by unfold chL; simp [hk])) (fr_up k1 (by decide)), fun _ => snd_fr k1 (by decide) hV2.hS.1 h3, by rw [k1 147 (by decide), h1 147 (by decide)]; exact hI.z⟩
  have e0 : q_silence (pC μ 1) v n i w = _ := cif_f (fun h => h c)
  have hl : (silP (pC μ 1) v n).length ≤ 300 := sil_l c.2.1 (la_b6 hI.v)
  have k3 := k2.1
  refine ⟨fun n1 => ⟨fun q => ⟨?_, hq⟩, fun q0 => ⟨fun q1 => ?_, fun q => ⟨?_, hq⟩⟩⟩, fun n1 => ⟨by rw [e0, if_pos n1, k3], hq⟩⟩
  · rw [e0, if_neg n1, cif_t (by omega)]
  · rw [k3] at q1
    have e1 := e0.trans ((if_neg n1).trans (cif_f (fun h => h ⟨q0, q1⟩)))
    have g := sl_g k2 q0 q1
    refine ⟨fun w0 => ⟨?_, hq⟩, fun w0 => ⟨fun w1 => ⟨⟨fun _ => ⟨q0, by omega⟩, fun _ => ⟨q0, by omega⟩⟩, fun v5 e5 => ⟨?_, hq⟩⟩, fun w1 => ⟨?_, hq⟩⟩⟩
    · rw [e1, if_neg (by omega), if_neg (by omega)]
    · rw [e1, e5, g.1, g.2]
      by_cases c0 : w = 0
      · rw [if_pos c0, if_pos c0]
      · rw [if_neg c0, if_neg c0, if_pos (by omega)]
    · rw [e1, if_neg (by omega), if_neg (by omega)]
  · rw [e0, if_neg n1, cif_t (by omega)]

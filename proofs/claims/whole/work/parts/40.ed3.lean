/-! the editor's questions, on -/
theorem vc_X9_chapterAt_0 {x1 : Int} {μ : am_M} {Q : Int → am_M → Prop} (h : (0 ≤ x1 ∧ x1 < 600 → (am_in (x1 + 1)) ∧ ((in_ 0 13 (μ 7 2)) ∧ (∀ v1 : Int, v1 = ((bef_ (x1 + 1) (hC μ)).length : Int) → ((v1 ≠ 0 → (am_in (v1 - 1)))) ∧ (∀ v2 : Int, v2 = (if v1 = 0 then (-6) else v1 - 1) → Q v2 μ)))) ∧ (¬ (0 ≤ x1 ∧ x1 < 600) → Q (-1) μ)) : at_I kC 4 mX9_chapterAt 0 [vR 0, vI x1, vU] [] μ Q := by
  refine s_iload_n dX9_chapterAt_0 rfl rfl ?_
  refine s_callS (As := [vI x1]) (rest := []) dX9_chapterAt_1 lkX9_173 lmX9_isFrame rfl rfl (Nat.le_of_ble_eq_true rfl) (by decide) (Nat.le_refl 0) (Nat.le_refl 0) (hC := sp_X9_isFrame (Q := fun z m => bI (0 ≤ x1 ∧ x1 < 600) = z ∧ μ = m)  ⟨rfl, rfl⟩) (fun r n2 S2 m2 hP => ?_)
  obtain ⟨⟨rfl, rfl⟩, z, rfl, rfl, rfl⟩ := hP
  refine s_if_ne dX9_chapterAt_4 (tgt := 9) (by decide) (fun cc => ?_) (fun cc => ?_)
  · have h := h.1 (bI_ne cc)
    refine s_aload_n dX9_chapterAt_9 rfl rfl ?_
    refine s_getR dX9_chapterAt_10 flX9_12 kn0 kk0 rfl kr0_0 ?_
    refine s_getR dX9_chapterAt_13 flX9_199 kn1 kk1 rfl kr1_4 ?_
    refine s_iload_n dX9_chapterAt_16 rfl rfl ?_
    refine s_iconst dX9_chapterAt_17 (by decide) ?_
    obtain ⟨c, h⟩ := h
    refine s_iadd dX9_chapterAt_18 (am_w_id c) ?_
    obtain ⟨p0, h⟩ := h
    refine s_callV (As := [vI (x1 + 1)]) (rest := []) (k := 7) dX9_chapterAt_19 lkX9_222 kn7 ⟨by rw [kk7]; rfl, by rw [kk7]; decide⟩ lmX0_firstFrom rfl rfl (Nat.le_of_ble_eq_true rfl) (by decide) (Nat.le_refl 0) (Nat.le_refl 0) (hC := sp_X0_firstFromC (Q := fun z m => z = ((bef_ (x1 + 1) (hC μ)).length : Int) ∧ μ = m) p0 ⟨rfl, rfl⟩) (fun r n2 S2 m2 hP => ?_)
    obtain ⟨⟨rfl, rfl⟩, v1, rfl, hz, rfl⟩ := hP
    have h := h v1 hz
    refine s_istore_n dX9_chapterAt_22 rfl (by decide) (L' := [vR 0, vI x1, vI v1]) rfl ?_
    refine s_iload_n dX9_chapterAt_23 rfl rfl ?_
    obtain ⟨hsd, h⟩ := h
    have kj3 : ∀ (v2 : Int), (Q v2 μ) → at_I kC 4 mX9_chapterAt 35 [vU, vU, vU] [vI v2] μ Q := by
      intro v2 h
      exact s_ireturn dX9_chapterAt_35 (Or.inl rfl) ⟨⟨rfl, rfl⟩, _, rfl, h⟩
    refine s_if_ne dX9_chapterAt_24 (tgt := 32) (by decide) (fun cc => ?_) (fun cc => ?_)
    · have hp0 := cc
      have hsd := hsd hp0
      refine s_iload_n dX9_chapterAt_32 rfl rfl ?_
      refine s_iconst dX9_chapterAt_33 (by decide) ?_
      have c := hsd
      refine s_isub dX9_chapterAt_34 (am_w_id c) ?_
      exact am_lesS (kj3 (v1 - 1) (h (v1 - 1) (by rw [if_neg hp0]))) ⟨Or.inl rfl, Or.inl rfl, Or.inl rfl, trivial⟩
    · have hp0 := cc
      refine s_bipush dX9_chapterAt_27 (by decide) ?_
      refine s_goto dX9_chapterAt_29 (tgt := 35) (by decide) ?_
      exact am_lesS (kj3 (-6) (h (-6) (by rw [if_pos hp0]))) ⟨Or.inl rfl, Or.inl rfl, Or.inl rfl, trivial⟩
  · have h := h.2 (bI_eq cc)
    refine s_iconst dX9_chapterAt_7 (by decide) ?_
    exact s_ireturn dX9_chapterAt_8 (Or.inl rfl) ⟨⟨rfl, rfl⟩, _, rfl, h⟩
theorem ve_X9_chapterAt {x1 : Int} {μ : am_M} {Q : Int → am_M → Prop} (h : at_I kC 4 mX9_chapterAt 0 [vR 0, vI x1, vU] [] μ Q) : cl_I kC 4 mX9_chapterAt [vR 0, vI x1] μ Q := am_intro pmX9_chapterAt (Nat.le_of_ble_eq_true rfl) rfl h
theorem sp_X9_chapterAt {K : Int} {μ : am_M} {f : Int} (hI : CI K μ) : cl_I kC 4 mX9_chapterAt [vR 0, vI f] μ (fun z m => z = q_chapterAt (pC μ 1) f ∧ cq_ μ m) := by
  have hr := cq_rf hI
  have hlen := (hl_hC hI.h7).1
  have hmx := hI.v.hl
  have hb := congrArg List.length (bef_aft (f + 1) (hC μ))
  rw [List.length_append] at hb
  have e0 : q_chapterAt (pC μ 1) f = if 0 ≤ f ∧ f < 600 then (if (bef_ (f + 1) (hC μ)).length = 0 then -6 else ((bef_ (f + 1) (hC μ)).length : Int) - 1) else -1 := rfl
  refine ve_X9_chapterAt (vc_X9_chapterAt_0 ⟨fun c => ⟨(by (try unfold am_in); (try unfold in_ at *); omega), (by (try unfold am_in); (try unfold in_ at *); omega), fun v1 e1 => ⟨fun _ => (by (try unfold am_in); (try unfold in_ at *); omega), fun v2 e2 => ⟨?_, hr⟩⟩⟩, fun c => ⟨by rw [e0, if_neg c], hr⟩⟩)
  rw [e0, if_pos c, e2, e1]
  by_cases q : (bef_ (f + 1) (hC μ)).length = 0
  · rw [if_pos q, if_pos (by omega)]
  · rw [if_neg q, if_neg (by omega)]
theorem vc_X9_value_0 {x1 x2 x3 : Int} {μ : am_M} {Q : Int → am_M → Prop} (h : (¬ (0 ≤ x1 ∧ x1 < 4) → Q (-1) μ) ∧ (0 ≤ x1 ∧ x1 < 4 → (0 ≤ x2 ∧ x2 < 600 → (x3 = 0 → ∃ P : am_M → Prop, cl_R kC 6 mX9_heard [vR 0] μ (fun z m => 129 = z ∧ P m) ∧ (∀ m2 : am_M, P m2 → ∃ P : Int → am_M → Prop, cl_I kC 4 mX7_valueOnTrack [vR 129, vI x1, vI x2] m2 P ∧ (∀ (z3 : Int) (m4 : am_M), P z3 m4 → Q z3 m4))) ∧ (x3 = 1 → ∃ P : am_M → Prop, cl_R kC 6 mX9_heard [vR 0] μ (fun z m => 129 = z ∧ P m) ∧ (∀ m6 : am_M, P m6 → (in_ 0 4 x1) ∧ (in_ 0 600 x2) ∧ (dk_ m6 (drC m6)) ∧ (Q (drC m6 x1 x2) m6))) ∧ (x3 = 2 → ∃ P : am_M → Prop, cl_R kC 6 mX9_heard [vR 0] μ (fun z m => 129 = z ∧ P m) ∧ (∀ m8 : am_M, P m8 → ∃ P : Int → am_M → Prop, cl_I kC 2 mX7_wetAt [vR 129, vI x1, vI x2] m8 P ∧ (∀ (z9 : Int) (m10 : am_M), P z9 m10 → Q z9 m10))) ∧ (x3 = 3 → ∃ P : am_M → Prop, cl_R kC 6 mX9_heard [vR 0] μ (fun z m => 129 = z ∧ P m) ∧ (∀ m12 : am_M, P m12 → (in_ 0 4 x1) ∧ (in_ 0 600 x2) ∧ (bk_ m12 (dukC m12)) ∧ (∀ v13 : Int, v13 = (cif (dukC m12 x1 x2) 1 0) → Q v13 m12))) ∧ (x3 ≠ 0 → x3 ≠ 1 → x3 ≠ 2 → x3 ≠ 3 → Q (-2) μ)) ∧ (¬ (0 ≤ x2 ∧ x2 < 600) → Q (-1) μ))) : at_I kC 7 mX9_value 0 [vR 0, vI x1, vI x2, vI x3] [] μ Q := by
  refine s_iload_n dX9_value_0 rfl rfl ?_
  refine s_callS (As := [vI x1]) (rest := []) dX9_value_1 lkX9_106 lmX9_isTrack rfl rfl (Nat.le_of_ble_eq_true rfl) (by decide) (Nat.le_refl 0) (Nat.le_refl 0) (hC := sp_X9_isTrack (Q := fun z m => bI (0 ≤ x1 ∧ x1 < 4) = z ∧ μ = m)  ⟨rfl, rfl⟩) (fun r n2 S2 m2 hP => ?_)
  obtain ⟨⟨rfl, rfl⟩, z, rfl, rfl, rfl⟩ := hP
  refine s_if_eq dX9_value_4 (tgt := 14) (by decide) (fun cc => ?_) (fun cc => ?_)
  · have h := h.1 (bI_eq cc)
    refine s_iconst dX9_value_14 (by decide) ?_
    exact s_ireturn dX9_value_15 (Or.inl rfl) ⟨⟨rfl, rfl⟩, _, rfl, h⟩
  · have h := h.2 (bI_ne cc)
    refine s_iload_n dX9_value_7 rfl rfl ?_
    refine s_callS (As := [vI x2]) (rest := []) dX9_value_8 lkX9_173 lmX9_isFrame rfl rfl (Nat.le_of_ble_eq_true rfl) (by decide) (Nat.le_refl 0) (Nat.le_refl 0) (hC := sp_X9_isFrame (Q := fun z m => bI (0 ≤ x2 ∧ x2 < 600) = z ∧ μ = m)  ⟨rfl, rfl⟩) (fun r n2 S2 m2 hP => ?_)
    obtain ⟨⟨rfl, rfl⟩, z, rfl, rfl, rfl⟩ := hP
    refine s_if_ne dX9_value_11 (tgt := 16) (by decide) (fun cc => ?_) (fun cc => ?_)
    · have h := h.1 (bI_ne cc)
      refine s_iload_n dX9_value_16 rfl rfl ?_
      by_cases cc : x3 = 0
      · have h := h.1 cc
        refine s_table_in dX9_value_17 (by omega) (by omega) (by rw [cc] <;> rfl) (tgt := 48) (by decide) ?_
        refine s_aload_n dX9_value_48 rfl rfl ?_
        obtain ⟨P, hcl, h⟩ := h
        refine s_callV (As := []) (rest := []) (k := 0) dX9_value_49 lkX9_89 kn0 ⟨by rw [kk0]; rfl, by rw [kk0]; decide⟩ lmX9_heard rfl rfl (Nat.le_of_ble_eq_true rfl) (by decide) (Nat.le_refl 0) (Nat.le_refl 0) (hC := hcl) (fun r n2 S2 m2 hP => ?_)
        obtain ⟨⟨rfl, rfl⟩, z1, rfl, rfl, hq⟩ := hP
        have h := h m2 hq
        refine s_iload_n dX9_value_52 rfl rfl ?_
        refine s_iload_n dX9_value_53 rfl rfl ?_
        obtain ⟨P, hcl, h⟩ := h
        refine s_callV (As := [vI x1, vI x2]) (rest := []) (k := 129) dX9_value_54 lkX9_225 kn129 ⟨by rw [kk129]; rfl, by rw [kk129]; decide⟩ lmX7_valueOnTrack rfl rfl (Nat.le_of_ble_eq_true rfl) (by decide) (Nat.le_refl 0) (Nat.le_refl 0) (hC := hcl) (fun r n2 S2 m4 hP => ?_)
        obtain ⟨⟨rfl, rfl⟩, z3, rfl, hq⟩ := hP
        have h := h z3 m4 hq
        exact s_ireturn dX9_value_57 (Or.inl rfl) ⟨⟨rfl, rfl⟩, _, rfl, h⟩
      have n0 := cc
      have h := h.2
      by_cases cc : x3 = 1
      · have h := h.1 cc
        refine s_table_in dX9_value_17 (by omega) (by omega) (by rw [cc] <;> rfl) (tgt := 58) (by decide) ?_
        refine s_aload_n dX9_value_58 rfl rfl ?_
        obtain ⟨P, hcl, h⟩ := h
        refine s_callV (As := []) (rest := []) (k := 0) dX9_value_59 lkX9_89 kn0 ⟨by rw [kk0]; rfl, by rw [kk0]; decide⟩ lmX9_heard rfl rfl (Nat.le_of_ble_eq_true rfl) (by decide) (Nat.le_refl 0) (Nat.le_refl 0) (hC := hcl) (fun r n2 S2 m6 hP => ?_)
        obtain ⟨⟨rfl, rfl⟩, z5, rfl, rfl, hq⟩ := hP
        have h := h m6 hq
        refine s_iload_n dX9_value_62 rfl rfl ?_
        refine s_iload_n dX9_value_63 rfl rfl ?_
        obtain ⟨p0, p1, p2, h⟩ := h
        refine s_callV (As := [vI x1, vI x2]) (rest := []) (k := 129) dX9_value_64 lkX9_228 kn129 ⟨by rw [kk129]; rfl, by rw [kk129]; decide⟩ lmX7_dryAt rfl rfl (Nat.le_of_ble_eq_true rfl) (by decide) (Nat.le_refl 0) (Nat.le_refl 0) (hC := sp_X7_dryAt (Q := fun z m => drC m6 x1 x2 = z ∧ m6 = m) p0 p1 p2 ⟨rfl, rfl⟩) (fun r n2 S2 m2 hP => ?_)
        obtain ⟨⟨rfl, rfl⟩, z, rfl, rfl, rfl⟩ := hP
        exact s_ireturn dX9_value_67 (Or.inl rfl) ⟨⟨rfl, rfl⟩, _, rfl, h⟩
      have n1 := cc
      have h := h.2
      by_cases cc : x3 = 2
      · have h := h.1 cc
        refine s_table_in dX9_value_17 (by omega) (by omega) (by rw [cc] <;> rfl) (tgt := 68) (by decide) ?_
        refine s_aload_n dX9_value_68 rfl rfl ?_
        obtain ⟨P, hcl, h⟩ := h
        refine s_callV (As := []) (rest := []) (k := 0) dX9_value_69 lkX9_89 kn0 ⟨by rw [kk0]; rfl, by rw [kk0]; decide⟩ lmX9_heard rfl rfl (Nat.le_of_ble_eq_true rfl) (by decide) (Nat.le_refl 0) (Nat.le_refl 0) (hC := hcl) (fun r n2 S2 m8 hP => ?_)
        obtain ⟨⟨rfl, rfl⟩, z7, rfl, rfl, hq⟩ := hP
        have h := h m8 hq
        refine s_iload_n dX9_value_72 rfl rfl ?_
        refine s_iload_n dX9_value_73 rfl rfl ?_
        obtain ⟨P, hcl, h⟩ := h
        refine s_callV (As := [vI x1, vI x2]) (rest := []) (k := 129) dX9_value_74 lkX9_231 kn129 ⟨by rw [kk129]; rfl, by rw [kk129]; decide⟩ lmX7_wetAt rfl rfl (Nat.le_of_ble_eq_true rfl) (by decide) (Nat.le_refl 0) (Nat.le_refl 0) (hC := hcl) (fun r n2 S2 m10 hP => ?_)
        obtain ⟨⟨rfl, rfl⟩, z9, rfl, hq⟩ := hP
        have h := h z9 m10 hq
        exact s_ireturn dX9_value_77 (Or.inl rfl) ⟨⟨rfl, rfl⟩, _, rfl, h⟩
      have n2 := cc
      have h := h.2
      by_cases cc : x3 = 3
      · have h := h.1 cc
        refine s_table_in dX9_value_17 (by omega) (by omega) (by rw [cc] <;> rfl) (tgt := 78) (by decide) ?_
        refine s_aload_n dX9_value_78 rfl rfl ?_
        obtain ⟨P, hcl, h⟩ := h
        refine s_callV (As := []) (rest := []) (k := 0) dX9_value_79 lkX9_89 kn0 ⟨by rw [kk0]; rfl, by rw [kk0]; decide⟩ lmX9_heard rfl rfl (Nat.le_of_ble_eq_true rfl) (by decide) (Nat.le_refl 0) (Nat.le_refl 0) (hC := hcl) (fun r n2 S2 m12 hP => ?_)
        obtain ⟨⟨rfl, rfl⟩, z11, rfl, rfl, hq⟩ := hP
        have h := h m12 hq
        refine s_iload_n dX9_value_82 rfl rfl ?_
        refine s_iload_n dX9_value_83 rfl rfl ?_
        obtain ⟨p0, p1, p2, h⟩ := h
        refine s_callV (As := [vI x1, vI x2]) (rest := []) (k := 129) dX9_value_84 lkX9_186 kn129 ⟨by rw [kk129]; rfl, by rw [kk129]; decide⟩ lmX7_isDucked rfl rfl (Nat.le_of_ble_eq_true rfl) (by decide) (Nat.le_refl 0) (Nat.le_refl 0) (hC := sp_X7_isDucked (Q := fun z m => bI (dukC m12 x1 x2) = z ∧ m12 = m) p0 p1 p2 ⟨rfl, rfl⟩) (fun r n2 S2 m2 hP => ?_)
        obtain ⟨⟨rfl, rfl⟩, z, rfl, rfl, rfl⟩ := hP
        have kj14 : ∀ (v13 : Int), (Q v13 m12) → at_I kC 7 mX9_value 95 [vU, vU, vU, vU] [vI v13] m12 Q := by
          intro v13 h
          exact s_ireturn dX9_value_95 (Or.inl rfl) ⟨⟨rfl, rfl⟩, _, rfl, h⟩
        refine s_if_eq dX9_value_87 (tgt := 94) (by decide) (fun cc => ?_) (fun cc => ?_)
        · have hp0 := (bI_eq cc)
          refine s_iconst dX9_value_94 (by decide) ?_
          exact am_lesS (kj14 0 (h 0 (by rw [cif_f hp0]))) ⟨Or.inl rfl, Or.inl rfl, Or.inl rfl, Or.inl rfl, trivial⟩
        · have hp0 := (bI_ne cc)
          refine s_iconst dX9_value_90 (by decide) ?_
          refine s_goto dX9_value_91 (tgt := 95) (by decide) ?_
          exact am_lesS (kj14 1 (h 1 (by rw [cif_t hp0]))) ⟨Or.inl rfl, Or.inl rfl, Or.inl rfl, Or.inl rfl, trivial⟩
      have n3 := cc
      have h := h.2
      have h := h n0 n1 n2 n3
      refine s_table_out dX9_value_17 ((Int.lt_or_le (x3) 0).elim Or.inl (fun q => Or.inr (by have q := q; have q := Int.lt_iff_le_and_ne.mpr ⟨(show 0 ≤ x3 from q), (fun e => n0 e.symm)⟩; have q := Int.lt_iff_le_and_ne.mpr ⟨(show 1 ≤ x3 from q), (fun e => n1 e.symm)⟩; have q := Int.lt_iff_le_and_ne.mpr ⟨(show 2 ≤ x3 from q), (fun e => n2 e.symm)⟩; have q := Int.lt_iff_le_and_ne.mpr ⟨(show 3 ≤ x3 from q), (fun e => n3 e.symm)⟩; exact q))) (tgt := 96) (by decide) ?_
      refine s_bipush dX9_value_96 (by decide) ?_
      exact s_ireturn dX9_value_98 (Or.inl rfl) ⟨⟨rfl, rfl⟩, _, rfl, h⟩
    · have h := h.2 (bI_eq cc)
      refine s_iconst dX9_value_14 (by decide) ?_
      exact s_ireturn dX9_value_15 (Or.inl rfl) ⟨⟨rfl, rfl⟩, _, rfl, h⟩
theorem ve_X9_value {x1 x2 x3 : Int} {μ : am_M} {Q : Int → am_M → Prop} (h : at_I kC 7 mX9_value 0 [vR 0, vI x1, vI x2, vI x3] [] μ Q) : cl_I kC 7 mX9_value [vR 0, vI x1, vI x2, vI x3] μ Q := am_intro pmX9_value (Nat.le_of_ble_eq_true rfl) rfl h
theorem sp_X9_value {K : Int} {μ : am_M} {t f w : Int} (hI : CI K μ) : cl_I kC 7 mX9_value [vR 0, vI t, vI f, vI w] μ (fun z m => z = q_value (pC μ 1) t f w ∧ cq_ μ m) := by
  have hr := cq_rf hI
  refine ve_X9_value (vc_X9_value_0 ⟨fun c => ⟨(cif_t (by omega)).symm, hr⟩, fun c => ⟨fun c1 => ?_, fun c1 => ⟨(cif_t (by omega)).symm, hr⟩⟩⟩)
  have e0 : q_value (pC μ 1) t f w = _ := cif_f (fun h => h ⟨c, c1⟩)
  refine ⟨fun n => ⟨_, sp_X9_heard hI, fun m2 ⟨k1, k2, k3, k4, k5⟩ => ⟨_, sp_X7_valueOnTrack (Q := fun z m => z = vt_ (m2 2 4) (tg (m2 4) 4) (m2 5 1) (cg m2) t f ∧ m = m2) k4 k3.1 c1 ⟨rfl, rfl⟩, ?_⟩⟩, fun n => ⟨_, sp_X9_heard hI, fun m2 ⟨k1, k2, k3, k4, k5⟩ => ⟨c, c1, k3.2.1, ?_, k1⟩⟩, fun n => ⟨_, sp_X9_heard hI, fun m2 ⟨k1, k2, k3, k4, k5⟩ => ⟨_, sp_X7_wetAt (Q := fun z m => z = weC m2 t f ∧ m = m2) k4 c c1 k3.2.1 k3.2.2.1 ⟨rfl, rfl⟩, ?_⟩⟩, fun n => ⟨_, sp_X9_heard hI, fun m2 ⟨k1, k2, k3, k4, k5⟩ => ⟨c, c1, k3.2.2.1, fun v e => ⟨?_, k1⟩⟩⟩, fun n0 n1 n2 n3 => ⟨?_, hr⟩⟩
  · rintro z m ⟨h1, rfl⟩
    refine ⟨?_, k1⟩
    rw [e0, if_pos n, h1]
    show vt_ (pE (pC m 1) 4) (pS (pC m 1)) (pN (pC m 1)) (pG (pC m 1)) t f = _
    rw [vC_G k5 rfL_9]
  · rw [e0, if_neg (by omega), if_pos n]
    show drP (pC m2 1) t f = _
    rw [vC_G k5 rfL_9]
  · rintro z m ⟨h1, rfl⟩
    refine ⟨?_, k1⟩
    rw [e0, if_neg (by omega), if_neg (by omega), if_pos n, h1]
    show weP (pC m 1) t f = _
    rw [vC_G k5 rfL_9]
  · rw [e0, if_neg (by omega), if_neg (by omega), if_neg (by omega), if_pos n, e]
    show bI (dukP (pC m2 1) t f) = _
    rw [vC_G k5 rfL_9]
  · rw [e0, if_neg n0, if_neg n1, if_neg n2, if_neg n3]
theorem vc_X9_mix_0 {x1 : Int} {μ : am_M} {Q : Int → am_M → Prop} (h : (¬ (0 ≤ x1 ∧ x1 < 600) → Q (-1) μ) ∧ (0 ≤ x1 ∧ x1 < 600 → ∃ P : am_M → Prop, cl_R kC 6 mX9_heard [vR 0] μ (fun z m => 129 = z ∧ P m) ∧ (∀ m2 : am_M, P m2 → (vC m2) ∧ (sk_ m2 (fun f => suC m2 f 4)) ∧ (in_ 0 600 x1) ∧ (Q (mixC m2 x1) m2)))) : at_I kC 7 mX9_mix 0 [vR 0, vI x1] [] μ Q := by
  refine s_iload_n dX9_mix_0 rfl rfl ?_
  refine s_callS (As := [vI x1]) (rest := []) dX9_mix_1 lkX9_173 lmX9_isFrame rfl rfl (Nat.le_of_ble_eq_true rfl) (by decide) (Nat.le_refl 0) (Nat.le_refl 0) (hC := sp_X9_isFrame (Q := fun z m => bI (0 ≤ x1 ∧ x1 < 600) = z ∧ μ = m)  ⟨rfl, rfl⟩) (fun r n2 S2 m2 hP => ?_)
  obtain ⟨⟨rfl, rfl⟩, z, rfl, rfl, rfl⟩ := hP
  refine s_if_eq dX9_mix_4 (tgt := 18) (by decide) (fun cc => ?_) (fun cc => ?_)
  · have h := h.1 (bI_eq cc)
    refine s_iconst dX9_mix_18 (by decide) ?_
    exact s_ireturn dX9_mix_19 (Or.inl rfl) ⟨⟨rfl, rfl⟩, _, rfl, h⟩
  · have h := h.2 (bI_ne cc)
    refine s_aload_n dX9_mix_7 rfl rfl ?_
    obtain ⟨P, hcl, h⟩ := h
    refine s_callV (As := []) (rest := []) (k := 0) dX9_mix_8 lkX9_89 kn0 ⟨by rw [kk0]; rfl, by rw [kk0]; decide⟩ lmX9_heard rfl rfl (Nat.le_of_ble_eq_true rfl) (by decide) (Nat.le_refl 0) (Nat.le_refl 0) (hC := hcl) (fun r n2 S2 m2 hP => ?_)
    obtain ⟨⟨rfl, rfl⟩, z1, rfl, rfl, hq⟩ := hP
    have h := h m2 hq
    refine s_iload_n dX9_mix_11 rfl rfl ?_
    obtain ⟨p0, p1, p2, h⟩ := h
    refine s_callV (As := [vI x1]) (rest := []) (k := 129) dX9_mix_12 lkX9_234 kn129 ⟨by rw [kk129]; rfl, by rw [kk129]; decide⟩ lmX7_mixAt rfl rfl (Nat.le_of_ble_eq_true rfl) (by decide) (Nat.le_refl 0) (Nat.le_refl 0) (hC := sp_X7_mixAt (Q := fun z m => mixC m2 x1 = z ∧ m2 = m) p0 p1 p2 ⟨rfl, rfl⟩) (fun r n2 S2 m2 hP => ?_)
    obtain ⟨⟨rfl, rfl⟩, z, rfl, rfl, rfl⟩ := hP
    refine s_goto dX9_mix_15 (tgt := 19) (by decide) ?_
    exact s_ireturn dX9_mix_19 (Or.inl rfl) ⟨⟨rfl, rfl⟩, _, rfl, h⟩
theorem ve_X9_mix {x1 : Int} {μ : am_M} {Q : Int → am_M → Prop} (h : at_I kC 7 mX9_mix 0 [vR 0, vI x1] [] μ Q) : cl_I kC 7 mX9_mix [vR 0, vI x1] μ Q := am_intro pmX9_mix (Nat.le_of_ble_eq_true rfl) rfl h
theorem sp_X9_mix {K : Int} {μ : am_M} {f : Int} (hI : CI K μ) : cl_I kC 7 mX9_mix [vR 0, vI f] μ (fun z m => z = q_mix (pC μ 1) f ∧ cq_ μ m) := by
  refine ve_X9_mix (vc_X9_mix_0 ⟨fun c => ⟨(cif_f c).symm, cq_rf hI⟩, fun c => ⟨_, sp_X9_heard hI, fun m2 ⟨k1, k2, k3, k4, k5⟩ => ⟨k4, k3.2.2.2, c, ?_, k1⟩⟩⟩)
  rw [show q_mix (pC μ 1) f = _ from cif_t c]
  show mixP (pC m2 1) f = _
  rw [vC_G k5 rfL_9]
theorem vc_X9_peak_0 {x1 : Int} {μ : am_M} {Q : Int → am_M → Prop} (h : (x1 = 0 → (ok_T (cg μ) (μ 5 1)) ∧ (Q (la_ (cg μ) (μ 5 1)) μ)) ∧ (x1 = 1 → ∃ P : am_M → Prop, cl_R kC 6 mX9_heard [vR 0] μ (fun z m => 129 = z ∧ P m) ∧ (∀ m2 : am_M, P m2 → ∃ P : Int → am_M → Prop, cl_I kC 3 mX7_greatestMix [vR 129, vI 0, vI 600] m2 P ∧ (∀ (z3 : Int) (m4 : am_M), P z3 m4 → Q z3 m4))) ∧ (x1 = 2 → ∃ P : am_M → Prop, cl_R kC 6 mX9_heard [vR 0] μ (fun z m => 129 = z ∧ P m) ∧ (∀ m6 : am_M, P m6 → ∃ P : Int → am_M → Prop, cl_I kC 3 mX7_frameOfGreatestMix [vR 129] m6 P ∧ (∀ (z7 : Int) (m8 : am_M), P z7 m8 → Q z7 m8))) ∧ (x1 = 3 → ∃ P : am_M → Prop, cl_R kC 6 mX9_heard [vR 0] μ (fun z m => 129 = z ∧ P m) ∧ (∀ m10 : am_M, P m10 → ∃ P : Int → am_M → Prop, cl_I kC 2 mX7_framesOver [vR 129] m10 P ∧ (∀ (z11 : Int) (m12 : am_M), P z11 m12 → Q z11 m12))) ∧ (x1 = 4 → ∃ P : am_M → Prop, cl_R kC 6 mX9_heard [vR 0] μ (fun z m => 129 = z ∧ P m) ∧ (∀ m14 : am_M, P m14 → ∃ P : Int → am_M → Prop, cl_I kC 3 mX7_sumOfMix [vR 129] m14 P ∧ (∀ (z15 : Int) (m16 : am_M), P z15 m16 → Q z15 m16))) ∧ (x1 ≠ 0 → x1 ≠ 1 → x1 ≠ 2 → x1 ≠ 3 → x1 ≠ 4 → Q (-2) μ)) : at_I kC 7 mX9_peak 0 [vR 0, vI x1] [] μ Q := by
  refine s_iload_n dX9_peak_0 rfl rfl ?_
  by_cases cc : x1 = 0
  · have h := h.1 cc
    refine s_table_in dX9_peak_1 (by omega) (by omega) (by rw [cc] <;> rfl) (tgt := 36) (by decide) ?_
    refine s_aload_n dX9_peak_36 rfl rfl ?_
    refine s_getR dX9_peak_37 flX9_12 kn0 kk0 rfl kr0_0 ?_
    refine s_getR dX9_peak_40 flX9_80 kn1 kk1 rfl kr1_3 ?_
    obtain ⟨p0, h⟩ := h
    refine s_callV (As := []) (rest := []) (k := 5) dX9_peak_43 lkX9_237 kn5 ⟨by rw [kk5]; rfl, by rw [kk5]; decide⟩ lmX1_lastEnd rfl rfl (Nat.le_of_ble_eq_true rfl) (by decide) (Nat.le_refl 0) (Nat.le_refl 0) (hC := sp_X1_lastEnd (Q := fun z m => la_ (cg μ) (μ 5 1) = z ∧ μ = m) p0 ⟨rfl, rfl⟩) (fun r n2 S2 m2 hP => ?_)
    obtain ⟨⟨rfl, rfl⟩, z, rfl, rfl, rfl⟩ := hP
    exact s_ireturn dX9_peak_46 (Or.inl rfl) ⟨⟨rfl, rfl⟩, _, rfl, h⟩
  have n0 := cc
  have h := h.2
  by_cases cc : x1 = 1
  · have h := h.1 cc
    refine s_table_in dX9_peak_1 (by omega) (by omega) (by rw [cc] <;> rfl) (tgt := 47) (by decide) ?_
    refine s_aload_n dX9_peak_47 rfl rfl ?_
    obtain ⟨P, hcl, h⟩ := h
    refine s_callV (As := []) (rest := []) (k := 0) dX9_peak_48 lkX9_89 kn0 ⟨by rw [kk0]; rfl, by rw [kk0]; decide⟩ lmX9_heard rfl rfl (Nat.le_of_ble_eq_true rfl) (by decide) (Nat.le_refl 0) (Nat.le_refl 0) (hC := hcl) (fun r n2 S2 m2 hP => ?_)
    obtain ⟨⟨rfl, rfl⟩, z1, rfl, rfl, hq⟩ := hP
    have h := h m2 hq
    refine s_iconst dX9_peak_51 (by decide) ?_
    refine s_sipush dX9_peak_52 (by decide) ?_
    obtain ⟨P, hcl, h⟩ := h
    refine s_callV (As := [vI 0, vI 600]) (rest := []) (k := 129) dX9_peak_55 lkX9_219 kn129 ⟨by rw [kk129]; rfl, by rw [kk129]; decide⟩ lmX7_greatestMix rfl rfl (Nat.le_of_ble_eq_true rfl) (by decide) (Nat.le_refl 0) (Nat.le_refl 0) (hC := hcl) (fun r n2 S2 m4 hP => ?_)
    obtain ⟨⟨rfl, rfl⟩, z3, rfl, hq⟩ := hP
    have h := h z3 m4 hq
    exact s_ireturn dX9_peak_58 (Or.inl rfl) ⟨⟨rfl, rfl⟩, _, rfl, h⟩
  have n1 := cc
  have h := h.2
  by_cases cc : x1 = 2
  · have h := h.1 cc
    refine s_table_in dX9_peak_1 (by omega) (by omega) (by rw [cc] <;> rfl) (tgt := 59) (by decide) ?_
    refine s_aload_n dX9_peak_59 rfl rfl ?_
    obtain ⟨P, hcl, h⟩ := h
    refine s_callV (As := []) (rest := []) (k := 0) dX9_peak_60 lkX9_89 kn0 ⟨by rw [kk0]; rfl, by rw [kk0]; decide⟩ lmX9_heard rfl rfl (Nat.le_of_ble_eq_true rfl) (by decide) (Nat.le_refl 0) (Nat.le_refl 0) (hC := hcl) (fun r n2 S2 m6 hP => ?_)
    obtain ⟨⟨rfl, rfl⟩, z5, rfl, rfl, hq⟩ := hP
    have h := h m6 hq
    obtain ⟨P, hcl, h⟩ := h
    refine s_callV (As := []) (rest := []) (k := 129) dX9_peak_63 lkX9_241 kn129 ⟨by rw [kk129]; rfl, by rw [kk129]; decide⟩ lmX7_frameOfGreatestMix rfl rfl (Nat.le_of_ble_eq_true rfl) (by decide) (Nat.le_refl 0) (Nat.le_refl 0) (hC := hcl) (fun r n2 S2 m8 hP => ?_)
    obtain ⟨⟨rfl, rfl⟩, z7, rfl, hq⟩ := hP
    have h := h z7 m8 hq
    exact s_ireturn dX9_peak_66 (Or.inl rfl) ⟨⟨rfl, rfl⟩, _, rfl, h⟩
  have n2 := cc
  have h := h.2
  by_cases cc : x1 = 3
  · have h := h.1 cc
    refine s_table_in dX9_peak_1 (by omega) (by omega) (by rw [cc] <;> rfl) (tgt := 67) (by decide) ?_
    refine s_aload_n dX9_peak_67 rfl rfl ?_
    obtain ⟨P, hcl, h⟩ := h
    refine s_callV (As := []) (rest := []) (k := 0) dX9_peak_68 lkX9_89 kn0 ⟨by rw [kk0]; rfl, by rw [kk0]; decide⟩ lmX9_heard rfl rfl (Nat.le_of_ble_eq_true rfl) (by decide) (Nat.le_refl 0) (Nat.le_refl 0) (hC := hcl) (fun r n2 S2 m10 hP => ?_)
    obtain ⟨⟨rfl, rfl⟩, z9, rfl, rfl, hq⟩ := hP
    have h := h m10 hq
    obtain ⟨P, hcl, h⟩ := h
    refine s_callV (As := []) (rest := []) (k := 129) dX9_peak_71 lkX9_244 kn129 ⟨by rw [kk129]; rfl, by rw [kk129]; decide⟩ lmX7_framesOver rfl rfl (Nat.le_of_ble_eq_true rfl) (by decide) (Nat.le_refl 0) (Nat.le_refl 0) (hC := hcl) (fun r n2 S2 m12 hP => ?_)
    obtain ⟨⟨rfl, rfl⟩, z11, rfl, hq⟩ := hP
    have h := h z11 m12 hq
    exact s_ireturn dX9_peak_74 (Or.inl rfl) ⟨⟨rfl, rfl⟩, _, rfl, h⟩
  have n3 := cc
  have h := h.2
  by_cases cc : x1 = 4
  · have h := h.1 cc
    refine s_table_in dX9_peak_1 (by omega) (by omega) (by rw [cc] <;> rfl) (tgt := 75) (by decide) ?_
    refine s_aload_n dX9_peak_75 rfl rfl ?_
    obtain ⟨P, hcl, h⟩ := h
    refine s_callV (As := []) (rest := []) (k := 0) dX9_peak_76 lkX9_89 kn0 ⟨by rw [kk0]; rfl, by rw [kk0]; decide⟩ lmX9_heard rfl rfl (Nat.le_of_ble_eq_true rfl) (by decide) (Nat.le_refl 0) (Nat.le_refl 0) (hC := hcl) (fun r n2 S2 m14 hP => ?_)
    obtain ⟨⟨rfl, rfl⟩, z13, rfl, rfl, hq⟩ := hP
    have h := h m14 hq
    obtain ⟨P, hcl, h⟩ := h
    refine s_callV (As := []) (rest := []) (k := 129) dX9_peak_79 lkX9_247 kn129 ⟨by rw [kk129]; rfl, by rw [kk129]; decide⟩ lmX7_sumOfMix rfl rfl (Nat.le_of_ble_eq_true rfl) (by decide) (Nat.le_refl 0) (Nat.le_refl 0) (hC := hcl) (fun r n2 S2 m16 hP => ?_)
    obtain ⟨⟨rfl, rfl⟩, z15, rfl, hq⟩ := hP
    have h := h z15 m16 hq
    exact s_ireturn dX9_peak_82 (Or.inl rfl) ⟨⟨rfl, rfl⟩, _, rfl, h⟩
  have n4 := cc
  have h := h.2
  have h := h n0 n1 n2 n3 n4
  refine s_table_out dX9_peak_1 ((Int.lt_or_le (x1) 0).elim Or.inl (fun q => Or.inr (by have q := q; have q := Int.lt_iff_le_and_ne.mpr ⟨(show 0 ≤ x1 from q), (fun e => n0 e.symm)⟩; have q := Int.lt_iff_le_and_ne.mpr ⟨(show 1 ≤ x1 from q), (fun e => n1 e.symm)⟩; have q := Int.lt_iff_le_and_ne.mpr ⟨(show 2 ≤ x1 from q), (fun e => n2 e.symm)⟩; have q := Int.lt_iff_le_and_ne.mpr ⟨(show 3 ≤ x1 from q), (fun e => n3 e.symm)⟩; have q := Int.lt_iff_le_and_ne.mpr ⟨(show 4 ≤ x1 from q), (fun e => n4 e.symm)⟩; exact q))) (tgt := 83) (by decide) ?_
  refine s_bipush dX9_peak_83 (by decide) ?_
  exact s_ireturn dX9_peak_85 (Or.inl rfl) ⟨⟨rfl, rfl⟩, _, rfl, h⟩
theorem ve_X9_peak {x1 : Int} {μ : am_M} {Q : Int → am_M → Prop} (h : at_I kC 7 mX9_peak 0 [vR 0, vI x1] [] μ Q) : cl_I kC 7 mX9_peak [vR 0, vI x1] μ Q := am_intro pmX9_peak (Nat.le_of_ble_eq_true rfl) rfl h
theorem sp_X9_peak {K : Int} {μ : am_M} {w : Int} (hI : CI K μ) : cl_I kC 7 mX9_peak [vR 0, vI w] μ (fun z m => z = q_peak (pC μ 1) w ∧ cq_ μ m) := by
  have hr := cq_rf hI
  have e0 : q_peak (pC μ 1) w = if w = 0 then laP (pC μ 1) else if w = 1 then mx_ (mixP (pC μ 1)) 600 else if w = 2 then fg_ (mixP (pC μ 1)) 599 else if w = 3 then sm_ (fun f => if 999 < suP (pC μ 1) f * pE (pC μ 1) 0 / 100 then 1 else 0) 600 else if w = 4 then sm_ (mixP (pC μ 1)) 600 else -2 := rfl
  refine ve_X9_peak (vc_X9_peak_0 ⟨fun n => ⟨hI.v.okT, ?_, hr⟩, fun n => ⟨_, sp_X9_heard hI, fun m2 ⟨k1, k2, k3, k4, k5⟩ => ⟨_, sp_X7_greatestMix (a := 0) (l := 600) (Q := fun z m => z = mx_ (fun i => mixC m2 (0 + i)) ((if (0 : Int) + 600 < 600 then (0 : Int) + 600 else 600) - 0) ∧ m = m2) k4 k3.2.2.2 (by (try unfold am_in); (try unfold in_ at *); omega) (by (try unfold am_in); (try unfold in_ at *); omega) ⟨rfl, rfl⟩, ?_⟩⟩, fun n => ⟨_, sp_X9_heard hI, fun m2 ⟨k1, k2, k3, k4, k5⟩ => ⟨_, sp_X7_frameOfGreatestMix (Q := fun z m => z = fg_ (mixC m2) 599 ∧ m = m2) k4 k3.2.2.2 ⟨rfl, rfl⟩, ?_⟩⟩, fun n => ⟨_, sp_X9_heard hI, fun m2 ⟨k1, k2, k3, k4, k5⟩ => ⟨_, sp_X7_framesOver (Q := fun z m => z = sm_ (fun f => if 999 < suC m2 f 4 * m2 2 0 / 100 then 1 else 0) 600 ∧ m = m2) k4 k3.2.2.2 ⟨rfl, rfl⟩, ?_⟩⟩, fun n => ⟨_, sp_X9_heard hI, fun m2 ⟨k1, k2, k3, k4, k5⟩ => ⟨_, sp_X7_sumOfMix (Q := fun z m => z = sm_ (mixC m2) 600 ∧ m = m2) k4 k3.2.2.2 ⟨rfl, rfl⟩, ?_⟩⟩, fun n0 n1 n2 n3 n4 => ⟨?_, hr⟩⟩)
  · rw [e0, if_pos n]; rfl
  · rintro z m ⟨h1, rfl⟩
    refine ⟨?_, k1⟩
    rw [e0, if_neg (by omega), if_pos n, h1]
    have e : (fun i => mixC m (0 + i)) = mixP (pC μ 1) := by
      funext i
      rw [Int.zero_add]
      show mixP (pC m 1) i = _
      rw [vC_G k5 rfL_9]
    rw [e, if_neg (by omega), Int.sub_zero]
  · rintro z m ⟨h1, rfl⟩
    refine ⟨?_, k1⟩
    rw [e0, if_neg (by omega), if_neg (by omega), if_pos n, h1]
    rw [show mixC m = mixP (pC μ 1) by show mixP (pC m 1) = _; rw [vC_G k5 rfL_9]]
  · rintro z m ⟨h1, rfl⟩
    refine ⟨?_, k1⟩
    rw [e0, if_neg (by omega), if_neg (by omega), if_neg (by omega), if_pos n, h1]
    have e : (fun f => if 999 < suC m f 4 * m 2 0 / 100 then (1 : Int) else 0) = (fun f => if 999 < suP (pC μ 1) f * pE (pC μ 1) 0 / 100 then (1 : Int) else 0) := by
      have e1 : ∀ f, suC m f 4 = suP (pC μ 1) f := fun f => by show suP (pC m 1) f = _; rw [vC_G k5 rfL_9]
      have e2 : m 2 0 = pE (pC μ 1) 0 := by show pE (pC m 1) 0 = _; rw [vC_G k5 rfL_9]
      funext f
      rw [e1, e2]
    rw [e]
  · rintro z m ⟨h1, rfl⟩
    refine ⟨?_, k1⟩
    rw [e0, if_neg (by omega), if_neg (by omega), if_neg (by omega), if_neg (by omega), if_pos n, h1]
    rw [show mixC m = mixP (pC μ 1) by show mixP (pC m 1) = _; rw [vC_G k5 rfL_9]]
  · rw [e0, if_neg n0, if_neg n1, if_neg n2, if_neg n3, if_neg n4]

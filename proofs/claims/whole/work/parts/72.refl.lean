/-! the reference's commands on frames, chapters, settings -/
theorem fe_e {ν m : am_M} (h : m 1 = ν 1) : fe_ ν m := fun i _ _ _ => by rw [h]
theorem rm_rq {fs : List Nat} {ν m : am_M} (h : rq_ ν m) : rm_ fs ν m := ⟨fr_up h.1 (fun k q => by
  rcases List.mem_cons.mp q with e | e
  · rw [e]; simp
  · exact List.mem_cons_of_mem _ (List.mem_cons_of_mem _ e)), fun j hj => h.2 j (fun e => hj (by simp [e])) (fun e => hj (by simp [e])) (fun e => hj (by simp [e]))⟩
theorem vc_X10_cut_0 {x1 x2 : Int} {μ : am_M} {Q : Int → am_M → Prop} (h : ∃ P : am_M → Prop, cl_V kR 2 mX10_begins [vR 0] μ P ∧ (∀ m2 : am_M, P m2 → ∃ P : Int → am_M → Prop, cl_I kR 5 mX10_cuts [vR 0, vI x1, vI x2] m2 P ∧ (∀ (z3 : Int) (m4 : am_M), P z3 m4 → (0 ≤ z3 → ∃ P : Int → am_M → Prop, cl_I kR 3 mX10_ends [vR 0, vI z3] m4 P ∧ (∀ (z5 : Int) (m6 : am_M), P z5 m6 → Q z5 m6)) ∧ (z3 < 0 → Q z3 m4)))) : at_I kR 6 mX10_cut 0 [vR 0, vI x1, vI x2, vU] [] μ Q := by
  refine s_aload_n dX10_cut_0 rfl rfl ?_
  obtain ⟨P, hcl, h⟩ := h
  refine s_callV (As := []) (rest := []) (k := 0) dX10_cut_1 lkX10_107 rn0 ⟨by rw [rk0]; rfl, by rw [rk0]; decide⟩ lmX10_begins rfl rfl (Nat.le_of_ble_eq_true rfl) (by decide) (Nat.le_refl 0) (Nat.le_refl 0) (hC := hcl) (fun r n2 S2 m2 hP => ?_)
  obtain ⟨⟨rfl, rfl⟩, rfl, hq⟩ := hP
  have h := h m2 hq
  refine s_aload_n dX10_cut_4 rfl rfl ?_
  refine s_iload_n dX10_cut_5 rfl rfl ?_
  refine s_iload_n dX10_cut_6 rfl rfl ?_
  obtain ⟨P, hcl, h⟩ := h
  refine s_callV (As := [vI x1, vI x2]) (rest := []) (k := 0) dX10_cut_7 lkX10_190 rn0 ⟨by rw [rk0]; rfl, by rw [rk0]; decide⟩ lmX10_cuts rfl rfl (Nat.le_of_ble_eq_true rfl) (by decide) (Nat.le_refl 0) (Nat.le_refl 0) (hC := hcl) (fun r n2 S2 m4 hP => ?_)
  obtain ⟨⟨rfl, rfl⟩, z3, rfl, hq⟩ := hP
  have h := h z3 m4 hq
  refine s_istore_n dX10_cut_10 rfl (by decide) (L' := [vR 0, vI x1, vI x2, vI z3]) rfl ?_
  refine s_iload_n dX10_cut_11 rfl rfl ?_
  refine s_if_ge dX10_cut_12 (tgt := 19) (by decide) (fun cc => ?_) (fun cc => ?_)
  · have h := h.1 cc
    refine s_aload_n dX10_cut_19 rfl rfl ?_
    refine s_iload_n dX10_cut_20 rfl rfl ?_
    obtain ⟨P, hcl, h⟩ := h
    refine s_callV (As := [vI z3]) (rest := []) (k := 0) dX10_cut_21 lkX10_110 rn0 ⟨by rw [rk0]; rfl, by rw [rk0]; decide⟩ lmX10_ends rfl rfl (Nat.le_of_ble_eq_true rfl) (by decide) (Nat.le_refl 0) (Nat.le_refl 0) (hC := hcl) (fun r n2 S2 m6 hP => ?_)
    obtain ⟨⟨rfl, rfl⟩, z5, rfl, hq⟩ := hP
    have h := h z5 m6 hq
    exact s_ireturn dX10_cut_24 (Or.inl rfl) ⟨⟨rfl, rfl⟩, _, rfl, h⟩
  · have h := h.2 cc
    refine s_iload_n dX10_cut_15 rfl rfl ?_
    refine s_goto dX10_cut_16 (tgt := 24) (by decide) ?_
    exact s_ireturn dX10_cut_24 (Or.inl rfl) ⟨⟨rfl, rfl⟩, _, rfl, h⟩
theorem ve_X10_cut {x1 x2 : Int} {μ : am_M} {Q : Int → am_M → Prop} (h : at_I kR 6 mX10_cut 0 [vR 0, vI x1, vI x2, vU] [] μ Q) : cl_I kR 6 mX10_cut [vR 0, vI x1, vI x2] μ Q := am_intro pmX10_cut (Nat.le_of_ble_eq_true rfl) rfl h
theorem sp_X10_cut {K : Int} {μ : am_M} {a b : Int} (hI : RI K μ) (hK : K < 99999) : cl_I kR 6 mX10_cut [vR 0, vI a, vI b] μ (fun z m => rn_ [] μ m z (o_cut (pR μ) a b)) := by
  have hV := hI.1
  have hv := pL_v hV.1
  refine ve_X10_cut (vc_X10_cut_0 ⟨_, sp_X10_begins, fun m2 ⟨f2, e2⟩ => ?_⟩)
  have p2 := f2 1 (by decide)
  have b2 : bg_ [] μ m2 := bg_of rm_rf rfl f2 e2
  refine ⟨_, sp_X10_cuts _ _ (tr_r1 p2 (trL hV)) (hz_e p2 (hzL hV)) hv.ok hv.2.1 hv.2.2 (vP_H hV.1), fun z m4 ⟨hz, f4, fe4, t4, h4⟩ => ?_⟩
  have b4 := bg_fr b2 f4 (by decide) (by decide)
  have pe := peLH hV t4 h4 (fe_tr (fe_e p2) fe4)
  exact ⟨fun q => rn_ok hI hK (by simp) b4 pe (hz_0 h4) q hz, fun q => rn_nv b4.1 pe (hz_0 h4) (ov_cut hV.1 a b) q hz⟩
theorem vc_X10_insert_0 {x1 x2 : Int} {μ : am_M} {Q : Int → am_M → Prop} (h : ∃ P : am_M → Prop, cl_V kR 2 mX10_begins [vR 0] μ P ∧ (∀ m2 : am_M, P m2 → ∃ P : Int → am_M → Prop, cl_I kR 5 mX10_inserts [vR 0, vI x1, vI x2] m2 P ∧ (∀ (z3 : Int) (m4 : am_M), P z3 m4 → (0 ≤ z3 → ∃ P : Int → am_M → Prop, cl_I kR 3 mX10_ends [vR 0, vI z3] m4 P ∧ (∀ (z5 : Int) (m6 : am_M), P z5 m6 → Q z5 m6)) ∧ (z3 < 0 → Q z3 m4)))) : at_I kR 6 mX10_insert 0 [vR 0, vI x1, vI x2, vU] [] μ Q := by
  refine s_aload_n dX10_insert_0 rfl rfl ?_
  obtain ⟨P, hcl, h⟩ := h
  refine s_callV (As := []) (rest := []) (k := 0) dX10_insert_1 lkX10_107 rn0 ⟨by rw [rk0]; rfl, by rw [rk0]; decide⟩ lmX10_begins rfl rfl (Nat.le_of_ble_eq_true rfl) (by decide) (Nat.le_refl 0) (Nat.le_refl 0) (hC := hcl) (fun r n2 S2 m2 hP => ?_)
  obtain ⟨⟨rfl, rfl⟩, rfl, hq⟩ := hP
  have h := h m2 hq
  refine s_aload_n dX10_insert_4 rfl rfl ?_
  refine s_iload_n dX10_insert_5 rfl rfl ?_
  refine s_iload_n dX10_insert_6 rfl rfl ?_
  obtain ⟨P, hcl, h⟩ := h
  refine s_callV (As := [vI x1, vI x2]) (rest := []) (k := 0) dX10_insert_7 lkX10_215 rn0 ⟨by rw [rk0]; rfl, by rw [rk0]; decide⟩ lmX10_inserts rfl rfl (Nat.le_of_ble_eq_true rfl) (by decide) (Nat.le_refl 0) (Nat.le_refl 0) (hC := hcl) (fun r n2 S2 m4 hP => ?_)
  obtain ⟨⟨rfl, rfl⟩, z3, rfl, hq⟩ := hP
  have h := h z3 m4 hq
  refine s_istore_n dX10_insert_10 rfl (by decide) (L' := [vR 0, vI x1, vI x2, vI z3]) rfl ?_
  refine s_iload_n dX10_insert_11 rfl rfl ?_
  refine s_if_ge dX10_insert_12 (tgt := 19) (by decide) (fun cc => ?_) (fun cc => ?_)
  · have h := h.1 cc
    refine s_aload_n dX10_insert_19 rfl rfl ?_
    refine s_iload_n dX10_insert_20 rfl rfl ?_
    obtain ⟨P, hcl, h⟩ := h
    refine s_callV (As := [vI z3]) (rest := []) (k := 0) dX10_insert_21 lkX10_110 rn0 ⟨by rw [rk0]; rfl, by rw [rk0]; decide⟩ lmX10_ends rfl rfl (Nat.le_of_ble_eq_true rfl) (by decide) (Nat.le_refl 0) (Nat.le_refl 0) (hC := hcl) (fun r n2 S2 m6 hP => ?_)
    obtain ⟨⟨rfl, rfl⟩, z5, rfl, hq⟩ := hP
    have h := h z5 m6 hq
    exact s_ireturn dX10_insert_24 (Or.inl rfl) ⟨⟨rfl, rfl⟩, _, rfl, h⟩
  · have h := h.2 cc
    refine s_iload_n dX10_insert_15 rfl rfl ?_
    refine s_goto dX10_insert_16 (tgt := 24) (by decide) ?_
    exact s_ireturn dX10_insert_24 (Or.inl rfl) ⟨⟨rfl, rfl⟩, _, rfl, h⟩
theorem ve_X10_insert {x1 x2 : Int} {μ : am_M} {Q : Int → am_M → Prop} (h : at_I kR 6 mX10_insert 0 [vR 0, vI x1, vI x2, vU] [] μ Q) : cl_I kR 6 mX10_insert [vR 0, vI x1, vI x2] μ Q := am_intro pmX10_insert (Nat.le_of_ble_eq_true rfl) rfl h
theorem sp_X10_insert {K : Int} {μ : am_M} {a b : Int} (hI : RI K μ) (hK : K < 99999) : cl_I kR 6 mX10_insert [vR 0, vI a, vI b] μ (fun z m => rn_ [] μ m z (o_ins (pR μ) a b)) := by
  have hV := hI.1
  have hv := pL_v hV.1
  refine ve_X10_insert (vc_X10_insert_0 ⟨_, sp_X10_begins, fun m2 ⟨f2, e2⟩ => ?_⟩)
  have p2 := f2 1 (by decide)
  have b2 : bg_ [] μ m2 := bg_of rm_rf rfl f2 e2
  refine ⟨_, sp_X10_inserts _ _ (tr_r1 p2 (trL hV)) (hz_e p2 (hzL hV)) hv.ok hv.2.1 hv.2.2 (vP_H hV.1), fun z m4 ⟨hz, f4, fe4, t4, h4⟩ => ?_⟩
  have b4 := bg_fr b2 f4 (by decide) (by decide)
  have pe := peLH hV t4 h4 (fe_tr (fe_e p2) fe4)
  exact ⟨fun q => rn_ok hI hK (by simp) b4 pe (hz_0 h4) q hz, fun q => rn_nv b4.1 pe (hz_0 h4) (ov_ins hV.1 a b) q hz⟩
theorem vc_X10_chapter_0 {x1 x2 : Int} {μ : am_M} {Q : Int → am_M → Prop} (h : ∃ P : am_M → Prop, cl_V kR 2 mX10_begins [vR 0] μ P ∧ (∀ m2 : am_M, P m2 → ∃ P : Int → am_M → Prop, cl_I kR 2 mX10_laysChapter [vR 0, vI x1, vI x2] m2 P ∧ (∀ (z3 : Int) (m4 : am_M), P z3 m4 → (0 ≤ z3 → ∃ P : Int → am_M → Prop, cl_I kR 3 mX10_ends [vR 0, vI z3] m4 P ∧ (∀ (z5 : Int) (m6 : am_M), P z5 m6 → Q z5 m6)) ∧ (z3 < 0 → Q z3 m4)))) : at_I kR 5 mX10_chapter 0 [vR 0, vI x1, vI x2, vU] [] μ Q := by
  refine s_aload_n dX10_chapter_0 rfl rfl ?_
  obtain ⟨P, hcl, h⟩ := h
  refine s_callV (As := []) (rest := []) (k := 0) dX10_chapter_1 lkX10_107 rn0 ⟨by rw [rk0]; rfl, by rw [rk0]; decide⟩ lmX10_begins rfl rfl (Nat.le_of_ble_eq_true rfl) (by decide) (Nat.le_refl 0) (Nat.le_refl 0) (hC := hcl) (fun r n2 S2 m2 hP => ?_)
  obtain ⟨⟨rfl, rfl⟩, rfl, hq⟩ := hP
  have h := h m2 hq
  refine s_aload_n dX10_chapter_4 rfl rfl ?_
  refine s_iload_n dX10_chapter_5 rfl rfl ?_
  refine s_iload_n dX10_chapter_6 rfl rfl ?_
  obtain ⟨P, hcl, h⟩ := h
  refine s_callV (As := [vI x1, vI x2]) (rest := []) (k := 0) dX10_chapter_7 lkX10_218 rn0 ⟨by rw [rk0]; rfl, by rw [rk0]; decide⟩ lmX10_laysChapter rfl rfl (Nat.le_of_ble_eq_true rfl) (by decide) (Nat.le_refl 0) (Nat.le_refl 0) (hC := hcl) (fun r n2 S2 m4 hP => ?_)
  obtain ⟨⟨rfl, rfl⟩, z3, rfl, hq⟩ := hP
  have h := h z3 m4 hq
  refine s_istore_n dX10_chapter_10 rfl (by decide) (L' := [vR 0, vI x1, vI x2, vI z3]) rfl ?_
  refine s_iload_n dX10_chapter_11 rfl rfl ?_
  refine s_if_ge dX10_chapter_12 (tgt := 19) (by decide) (fun cc => ?_) (fun cc => ?_)
  · have h := h.1 cc
    refine s_aload_n dX10_chapter_19 rfl rfl ?_
    refine s_iload_n dX10_chapter_20 rfl rfl ?_
    obtain ⟨P, hcl, h⟩ := h
    refine s_callV (As := [vI z3]) (rest := []) (k := 0) dX10_chapter_21 lkX10_110 rn0 ⟨by rw [rk0]; rfl, by rw [rk0]; decide⟩ lmX10_ends rfl rfl (Nat.le_of_ble_eq_true rfl) (by decide) (Nat.le_refl 0) (Nat.le_refl 0) (hC := hcl) (fun r n2 S2 m6 hP => ?_)
    obtain ⟨⟨rfl, rfl⟩, z5, rfl, hq⟩ := hP
    have h := h z5 m6 hq
    exact s_ireturn dX10_chapter_24 (Or.inl rfl) ⟨⟨rfl, rfl⟩, _, rfl, h⟩
  · have h := h.2 cc
    refine s_iload_n dX10_chapter_15 rfl rfl ?_
    refine s_goto dX10_chapter_16 (tgt := 24) (by decide) ?_
    exact s_ireturn dX10_chapter_24 (Or.inl rfl) ⟨⟨rfl, rfl⟩, _, rfl, h⟩
theorem ve_X10_chapter {x1 x2 : Int} {μ : am_M} {Q : Int → am_M → Prop} (h : at_I kR 5 mX10_chapter 0 [vR 0, vI x1, vI x2, vU] [] μ Q) : cl_I kR 5 mX10_chapter [vR 0, vI x1, vI x2] μ Q := am_intro pmX10_chapter (Nat.le_of_ble_eq_true rfl) rfl h
theorem sp_X10_chapter {K : Int} {μ : am_M} {f t : Int} (hI : RI K μ) (hK : K < 99999) : cl_I kR 5 mX10_chapter [vR 0, vI f, vI t] μ (fun z m => rn_ [] μ m z (o_ent (pR μ) f t)) := by
  have hV := hI.1
  refine ve_X10_chapter (vc_X10_chapter_0 ⟨_, sp_X10_begins, fun m2 ⟨f2, e2⟩ => ?_⟩)
  have p2 := f2 1 (by decide)
  have b2 : bg_ [] μ m2 := bg_of rm_rf rfl f2 e2
  refine ⟨_, sp_X10_laysChapter _ (hz_e p2 (hzL hV)) hV.1.hl, fun z m4 ⟨hz, f4, fh4, h4⟩ => ?_⟩
  have b4 := bg_fr b2 f4 (by decide) (by decide)
  have pe := peH hV h4 (fh_tr (fh_e p2) fh4)
  exact ⟨fun q => rn_ok hI hK (by simp) b4 pe (hz_0 h4) q hz, fun q => rn_nv b4.1 pe (hz_0 h4) (ov_ent hV.1 f t) q hz⟩
theorem vc_X10_dropChapter_0 {x1 : Int} {μ : am_M} {Q : Int → am_M → Prop} (h : (in_ 0 13 (μ 1 438)) ∧ ((0 ≤ x1 ∧ x1 < μ 1 438 → ∃ P : am_M → Prop, cl_V kR 2 mX10_begins [vR 0] μ P ∧ (∀ m2 : am_M, P m2 → ∃ P : am_M → Prop, cl_V kR 1 mX10_dropsChapter [vR 0, vI x1] m2 P ∧ (∀ m4 : am_M, P m4 → ∃ P : Int → am_M → Prop, cl_I kR 3 mX10_ends [vR 0, vI (m4 1 438)] m4 P ∧ (∀ (z5 : Int) (m6 : am_M), P z5 m6 → Q z5 m6)))) ∧ (¬ (0 ≤ x1 ∧ x1 < μ 1 438) → Q (-1) μ))) : at_I kR 5 mX10_dropChapter 0 [vR 0, vI x1] [] μ Q := by
  refine s_aload_n dX10_dropChapter_0 rfl rfl ?_
  refine s_iload_n dX10_dropChapter_1 rfl rfl ?_
  obtain ⟨p0, h⟩ := h
  refine s_callV (As := [vI x1]) (rest := []) (k := 0) dX10_dropChapter_2 lkX10_221 rn0 ⟨by rw [rk0]; rfl, by rw [rk0]; decide⟩ lmX10_isChapter rfl rfl (Nat.le_of_ble_eq_true rfl) (by decide) (Nat.le_refl 0) (Nat.le_refl 0) (hC := sp_X10_isChapter (Q := fun z m => bI (0 ≤ x1 ∧ x1 < μ 1 438) = z ∧ μ = m) p0 ⟨rfl, rfl⟩) (fun r n2 S2 m2 hP => ?_)
  obtain ⟨⟨rfl, rfl⟩, z, rfl, rfl, rfl⟩ := hP
  refine s_if_ne dX10_dropChapter_5 (tgt := 10) (by decide) (fun cc => ?_) (fun cc => ?_)
  · have h := h.1 (bI_ne cc)
    refine s_aload_n dX10_dropChapter_10 rfl rfl ?_
    obtain ⟨P, hcl, h⟩ := h
    refine s_callV (As := []) (rest := []) (k := 0) dX10_dropChapter_11 lkX10_107 rn0 ⟨by rw [rk0]; rfl, by rw [rk0]; decide⟩ lmX10_begins rfl rfl (Nat.le_of_ble_eq_true rfl) (by decide) (Nat.le_refl 0) (Nat.le_refl 0) (hC := hcl) (fun r n2 S2 m2 hP => ?_)
    obtain ⟨⟨rfl, rfl⟩, rfl, hq⟩ := hP
    have h := h m2 hq
    refine s_aload_n dX10_dropChapter_14 rfl rfl ?_
    refine s_iload_n dX10_dropChapter_15 rfl rfl ?_
    obtain ⟨P, hcl, h⟩ := h
    refine s_callV (As := [vI x1]) (rest := []) (k := 0) dX10_dropChapter_16 lkX10_187 rn0 ⟨by rw [rk0]; rfl, by rw [rk0]; decide⟩ lmX10_dropsChapter rfl rfl (Nat.le_of_ble_eq_true rfl) (by decide) (Nat.le_refl 0) (Nat.le_refl 0) (hC := hcl) (fun r n2 S2 m4 hP => ?_)
    obtain ⟨⟨rfl, rfl⟩, rfl, hq⟩ := hP
    have h := h m4 hq
    refine s_aload_n dX10_dropChapter_19 rfl rfl ?_
    refine s_aload_n dX10_dropChapter_20 rfl rfl ?_
    refine s_getR dX10_dropChapter_21 flX10_9 rn0 rk0 rfl rr0_0 ?_
    refine s_sipush dX10_dropChapter_24 (by decide) ?_
    refine s_iald (x := (m4 1 438)) dX10_dropChapter_27 rn1 rk1 rl1 (by decide) (by decide) rfl ?_
    obtain ⟨P, hcl, h⟩ := h
    refine s_callV (As := [vI (m4 1 438)]) (rest := []) (k := 0) dX10_dropChapter_28 lkX10_110 rn0 ⟨by rw [rk0]; rfl, by rw [rk0]; decide⟩ lmX10_ends rfl rfl (Nat.le_of_ble_eq_true rfl) (by decide) (Nat.le_refl 0) (Nat.le_refl 0) (hC := hcl) (fun r n2 S2 m6 hP => ?_)
    obtain ⟨⟨rfl, rfl⟩, z5, rfl, hq⟩ := hP
    have h := h z5 m6 hq
    exact s_ireturn dX10_dropChapter_31 (Or.inl rfl) ⟨⟨rfl, rfl⟩, _, rfl, h⟩
  · have h := h.2 (bI_eq cc)
    refine s_iconst dX10_dropChapter_8 (by decide) ?_
    exact s_ireturn dX10_dropChapter_9 (Or.inl rfl) ⟨⟨rfl, rfl⟩, _, rfl, h⟩
theorem ve_X10_dropChapter {x1 : Int} {μ : am_M} {Q : Int → am_M → Prop} (h : at_I kR 5 mX10_dropChapter 0 [vR 0, vI x1] [] μ Q) : cl_I kR 5 mX10_dropChapter [vR 0, vI x1] μ Q := am_intro pmX10_dropChapter (Nat.le_of_ble_eq_true rfl) rfl h
theorem h_split {H : Hl} {c : Int} (h0 : 0 ≤ c) (h1 : c < H.length) : ∃ A p B, H = A ++ p :: B ∧ c = A.length ∧ H.eraseIdx c.toNat = A ++ B := by
  have hl : c.toNat < H.length := by omega
  refine ⟨H.take c.toNat, H[c.toNat], H.drop (c.toNat + 1), ?_, by simp; omega, by rw [List.eraseIdx_eq_take_drop_succ]⟩
  rw [← List.drop_eq_getElem_cons hl, List.take_append_drop]
theorem sp_X10_dropChapter {K : Int} {μ : am_M} {c : Int} (hI : RI K μ) (hK : K < 99999) : cl_I kR 5 mX10_dropChapter [vR 0, vI c] μ (fun z m => rn_ [] μ m z (o_out (pR μ) c)) := by
  have hV := hI.1
  have hz := hzL hV
  have hn := hz.1
  have hl : (pH (pR μ)).length ≤ 12 := hV.1.hl
  unfold o_out h_out
  refine ve_X10_dropChapter (vc_X10_dropChapter_0 ⟨(by (try unfold am_in); (try unfold in_ at *); omega), fun q => ?_, fun q => rn_no hV rm_rf rfl (by omega) (by rw [cif_t (by omega)]; rfl)⟩)
  rw [cif_f (by omega)]
  obtain ⟨A, p, B, e, hc, eE⟩ := h_split (H := pH (pR μ)) q.1 (by omega)
  have ll : (pH (pR μ)).length = A.length + 1 + B.length := by rw [e]; simp; omega
  refine ⟨_, sp_X10_begins, fun m2 ⟨f2, e2⟩ => ?_⟩
  have p2 := f2 1 (by decide)
  have b2 : bg_ [] μ m2 := bg_of rm_rf rfl f2 e2
  refine ⟨_, sp_X10_dropsChapter (A := A) (B := B) (p := p) (by rw [← e]; exact hz_e p2 hz) hc (by rw [← e]; exact hl), fun m4 ⟨f4, fh4, h4⟩ => ?_⟩
  have b4 := bg_fr b2 f4 (by decide) (by decide)
  have pe := peH hV h4 (fh_tr (fh_e p2) fh4)
  have n4 := h4.1
  rw [List.length_append] at n4
  rw [eE]
  exact rn_ok hI hK (by simp) b4 pe (hz_0 h4) (by omega) (by show m4 1 438 = ((pH (pR μ)).length : Int) - 1; omega)
/-- one setting is laid -/
theorem pe_setE {ν m : am_M} {w v : Int} (hV : vR_ ν) (hw : 0 ≤ w ∧ w < 5) (h : m 1 = am_up (ν 1) (465 + w).toNat v) : pe_ (am_up (pE (pR ν)) w.toNat v, (pR ν).2) (pR m) ∧ 0 ≤ m 1 438 := by
  have hM : in_ 0 7 (ν 1 0) := hV.1.hS.1
  have hN : in_ 0 25 (ν 1 25) := hV.1.hn
  have hl : (pH (pR ν)).length ≤ 12 := hV.1.hl
  unfold in_ at hM hN
  have n : ∀ i : Nat, (i : Int) ≠ 465 + w → m 1 i = ν 1 i := fun i hi => by rw [h, up_n (by omega)]
  refine ⟨⟨fun i i5 => ?_, fun t k t0 t1 k0 k1 => (n _ (by omega)).symm, (n _ (by omega)).symm, fun s k s0 s1 k0 k1 => ?_, (n _ (by omega)).symm, fun s k s0 s1 k0 k1 => ?_, ?_⟩, by rw [n _ (by omega)]; exact hV.2⟩
  · show am_up (pE (pR ν)) w.toNat v i = m 1 (465 + i)
    by_cases c : i = w.toNat
    · rw [c, up_s, h, show 465 + w.toNat = (465 + w).toNat by omega, up_s]
    · rw [up_n c, n _ (by omega)]
      rfl
  · have s1' : s < ν 1 0 := s1
    exact (n _ (by omega)).symm
  · have s1' : s < ν 1 25 := s1
    exact (n _ (by omega)).symm
  · have hz := hzL hV
    refine (hr_un (a := m 1) (H := pH (pR ν)) ⟨by rw [n _ (by omega)]; exact hz.1, fun i p hi => ?_⟩).symm
    have il := (List.getElem?_eq_some_iff.mp hi).1
    rw [n _ (by omega), n _ (by omega)]
    exact hz.2 i p hi
theorem vc_X10_set_0 {x1 x2 : Int} {μ : am_M} {Q : Int → am_M → Prop} (h : (¬ (0 ≤ x1 ∧ x1 ≤ 4) → Q (-2) μ) ∧ (0 ≤ x1 ∧ x1 ≤ 4 → (in_ 0 5 x1) ∧ ((¬ badE x1 x2 → ∃ P : am_M → Prop, cl_V kR 2 mX10_begins [vR 0] μ P ∧ (∀ m2 : am_M, P m2 → (am_in (465 + x1)) ∧ ((0 ≤ 465 + x1) ∧ (465 + x1 < 470) ∧ ((am_in (465 + x1)) ∧ ((0 ≤ 465 + x1) ∧ (465 + x1 < 470) ∧ (∀ m3 : am_M, m3 = am_st m2 1 (am_up (m2 1) (465 + x1).toNat x2) → ∃ P : Int → am_M → Prop, cl_I kR 3 mX10_ends [vR 0, vI (m2 1 ((465 + x1).toNat))] m3 P ∧ (∀ (z4 : Int) (m5 : am_M), P z4 m5 → Q z4 m5))))))) ∧ (¬ (¬ badE x1 x2) → Q (-2) μ)))) : at_I kR 5 mX10_set 0 [vR 0, vI x1, vI x2, vU] [] μ Q := by
  refine s_iload_n dX10_set_0 rfl rfl ?_
  refine s_iconst dX10_set_1 (by decide) ?_
  refine s_iconst dX10_set_2 (by decide) ?_
  refine s_callS (As := [vI x1, vI 0, vI 4]) (rest := []) dX10_set_3 lkX10_103 lmX10_isIn rfl rfl (Nat.le_of_ble_eq_true rfl) (by decide) (Nat.le_refl 0) (Nat.le_refl 0) (hC := sp_X10_isIn (Q := fun z m => bI (0 ≤ x1 ∧ x1 ≤ 4) = z ∧ μ = m)  ⟨rfl, rfl⟩) (fun r n2 S2 m2 hP => ?_)
  obtain ⟨⟨rfl, rfl⟩, z, rfl, rfl, rfl⟩ := hP
  refine s_if_eq dX10_set_6 (tgt := 17) (by decide) (fun cc => ?_) (fun cc => ?_)
  · have h := h.1 (bI_eq cc)
    refine s_bipush dX10_set_17 (by decide) ?_
    exact s_ireturn dX10_set_19 (Or.inl rfl) ⟨⟨rfl, rfl⟩, _, rfl, h⟩
  · have h := h.2 (bI_ne cc)
    refine s_iload_n dX10_set_9 rfl rfl ?_
    refine s_iload_n dX10_set_10 rfl rfl ?_
    obtain ⟨p0, h⟩ := h
    refine s_callS (As := [vI x1, vI x2]) (rest := []) dX10_set_11 lkX10_129 lmX10_isSetting rfl rfl (Nat.le_of_ble_eq_true rfl) (by decide) (Nat.le_refl 0) (Nat.le_refl 0) (hC := sp_X10_isSetting (Q := fun z m => bI (¬ badE x1 x2) = z ∧ μ = m) p0 ⟨rfl, rfl⟩) (fun r n2 S2 m2 hP => ?_)
    obtain ⟨⟨rfl, rfl⟩, z, rfl, rfl, rfl⟩ := hP
    refine s_if_ne dX10_set_14 (tgt := 20) (by decide) (fun cc => ?_) (fun cc => ?_)
    · have h := h.1 (bI_ne cc)
      refine s_aload_n dX10_set_20 rfl rfl ?_
      obtain ⟨P, hcl, h⟩ := h
      refine s_callV (As := []) (rest := []) (k := 0) dX10_set_21 lkX10_107 rn0 ⟨by rw [rk0]; rfl, by rw [rk0]; decide⟩ lmX10_begins rfl rfl (Nat.le_of_ble_eq_true rfl) (by decide) (Nat.le_refl 0) (Nat.le_refl 0) (hC := hcl) (fun r n2 S2 m2 hP => ?_)
      obtain ⟨⟨rfl, rfl⟩, rfl, hq⟩ := hP
      have h := h m2 hq
      refine s_aload_n dX10_set_24 rfl rfl ?_
      refine s_getR dX10_set_25 flX10_9 rn0 rk0 rfl rr0_0 ?_
      refine s_sipush dX10_set_28 (by decide) ?_
      refine s_iload_n dX10_set_31 rfl rfl ?_
      obtain ⟨c, h⟩ := h
      refine s_iadd dX10_set_32 (am_w_id c) ?_
      obtain ⟨c, c2, h⟩ := h
      refine s_iald (x := (m2 1 ((465 + x1).toNat))) dX10_set_33 rn1 rk1 rl1 c c2 rfl ?_
      refine s_istore_n dX10_set_34 rfl (by decide) (L' := [vR 0, vI x1, vI x2, vI (m2 1 ((465 + x1).toNat))]) rfl ?_
      refine s_aload_n dX10_set_35 rfl rfl ?_
      refine s_getR dX10_set_36 flX10_9 rn0 rk0 rfl rr0_0 ?_
      refine s_sipush dX10_set_39 (by decide) ?_
      refine s_iload_n dX10_set_42 rfl rfl ?_
      obtain ⟨c, h⟩ := h
      refine s_iadd dX10_set_43 (am_w_id c) ?_
      refine s_iload_n dX10_set_44 rfl rfl ?_
      obtain ⟨c, c2, h⟩ := h
      obtain ⟨m3, hm3⟩ : ∃ x : am_M, x = am_st m2 1 (am_up (m2 1) (465 + x1).toNat x2) := ⟨_, rfl⟩
      have h := h m3 hm3
      refine s_iast dX10_set_45 rn1 rk1 rl1 c c2 hm3.symm ?_
      refine s_aload_n dX10_set_46 rfl rfl ?_
      refine s_iload_n dX10_set_47 rfl rfl ?_
      obtain ⟨P, hcl, h⟩ := h
      refine s_callV (As := [vI (m2 1 ((465 + x1).toNat))]) (rest := []) (k := 0) dX10_set_48 lkX10_110 rn0 ⟨by rw [rk0]; rfl, by rw [rk0]; decide⟩ lmX10_ends rfl rfl (Nat.le_of_ble_eq_true rfl) (by decide) (Nat.le_refl 0) (Nat.le_refl 0) (hC := hcl) (fun r n2 S2 m5 hP => ?_)
      obtain ⟨⟨rfl, rfl⟩, z4, rfl, hq⟩ := hP
      have h := h z4 m5 hq
      exact s_ireturn dX10_set_51 (Or.inl rfl) ⟨⟨rfl, rfl⟩, _, rfl, h⟩
    · have h := h.2 (bI_eq cc)
      refine s_bipush dX10_set_17 (by decide) ?_
      exact s_ireturn dX10_set_19 (Or.inl rfl) ⟨⟨rfl, rfl⟩, _, rfl, h⟩
theorem ve_X10_set {x1 x2 : Int} {μ : am_M} {Q : Int → am_M → Prop} (h : at_I kR 5 mX10_set 0 [vR 0, vI x1, vI x2, vU] [] μ Q) : cl_I kR 5 mX10_set [vR 0, vI x1, vI x2] μ Q := am_intro pmX10_set (Nat.le_of_ble_eq_true rfl) rfl h
theorem sp_X10_set {K : Int} {μ : am_M} {w v : Int} (hI : RI K μ) (hK : K < 99999) : cl_I kR 5 mX10_set [vR 0, vI w, vI v] μ (fun z m => rn_ [] μ m z (o_set (pR μ) w v)) := by
  have hV := hI.1
  unfold o_set
  refine ve_X10_set (vc_X10_set_0 ⟨fun q => rn_no hV rm_rf rfl (by omega) (by rw [cif_t (by unfold badE; omega)]), fun q => ⟨(by (try unfold am_in); (try unfold in_ at *); omega), fun b => ?_, fun b => rn_no hV rm_rf rfl (by omega) (by rw [cif_t (Classical.byContradiction b)])⟩⟩)
  rw [cif_f b]
  refine ⟨_, sp_X10_begins, fun m2 ⟨f2, e2⟩ => ?_⟩
  have p2 := f2 1 (by decide)
  have b2 : bg_ [] μ m2 := bg_of rm_rf rfl f2 e2
  refine ⟨(by (try unfold am_in); (try unfold in_ at *); omega), by omega, by omega, (by (try unfold am_in); (try unfold in_ at *); omega), by omega, by omega, fun m3 e3 => ?_⟩
  have f3 : fr_ [1] m2 m3 := by rw [e3]; exact fr_st (by simp)
  obtain ⟨h1, h2⟩ := pe_setE hV (w := w) (v := v) (m := m3) (by omega) (by rw [e3, st_s, p2])
  have hE := hV.1.hE
  unfold ok_E in_ at hE
  have hw : w = 0 ∨ w = 1 ∨ w = 2 ∨ w = 3 ∨ w = 4 := by omega
  refine rn_ok hI hK (by simp) (bg_fr b2 f3 (by decide) (by decide)) h1 h2 ?_ ?_
  · rw [p2, show (465 + w).toNat = 465 + w.toNat by omega]
    show 0 ≤ pE (pR μ) w.toNat
    rcases hw with rfl | rfl | rfl | rfl | rfl
    · show 0 ≤ pE (pR μ) 0; omega
    · show 0 ≤ pE (pR μ) 1; omega
    · show 0 ≤ pE (pR μ) 2; omega
    · show 0 ≤ pE (pR μ) 3; omega
    · show 0 ≤ pE (pR μ) 4; omega
  · show m2 1 ((465 + w).toNat) = μ 1 (465 + w.toNat)
    rw [p2, show (465 + w).toNat = 465 + w.toNat by omega]
theorem vc_X10_normalize_0 {x1 : Int} {μ : am_M} {Q : Int → am_M → Prop} (h : ∃ P : Int → am_M → Prop, cl_I kR 5 mX10_masterFor [vR 0, vI x1] μ P ∧ (∀ (z1 : Int) (m2 : am_M), P z1 m2 → (0 ≤ z1 → ∃ P : am_M → Prop, cl_V kR 2 mX10_begins [vR 0] m2 P ∧ (∀ m4 : am_M, P m4 → ∀ m5 : am_M, m5 = am_st m4 1 (am_up (m4 1) 465 z1) → ∃ P : Int → am_M → Prop, cl_I kR 3 mX10_ends [vR 0, vI z1] m5 P ∧ (∀ (z6 : Int) (m7 : am_M), P z6 m7 → Q z6 m7))) ∧ (z1 < 0 → Q z1 m2))) : at_I kR 6 mX10_normalize 0 [vR 0, vI x1, vU] [] μ Q := by
  refine s_aload_n dX10_normalize_0 rfl rfl ?_
  refine s_iload_n dX10_normalize_1 rfl rfl ?_
  obtain ⟨P, hcl, h⟩ := h
  refine s_callV (As := [vI x1]) (rest := []) (k := 0) dX10_normalize_2 lkX10_233 rn0 ⟨by rw [rk0]; rfl, by rw [rk0]; decide⟩ lmX10_masterFor rfl rfl (Nat.le_of_ble_eq_true rfl) (by decide) (Nat.le_refl 0) (Nat.le_refl 0) (hC := hcl) (fun r n2 S2 m2 hP => ?_)
  obtain ⟨⟨rfl, rfl⟩, z1, rfl, hq⟩ := hP
  have h := h z1 m2 hq
  refine s_istore_n dX10_normalize_5 rfl (by decide) (L' := [vR 0, vI x1, vI z1]) rfl ?_
  refine s_iload_n dX10_normalize_6 rfl rfl ?_
  refine s_if_ge dX10_normalize_7 (tgt := 12) (by decide) (fun cc => ?_) (fun cc => ?_)
  · have h := h.1 cc
    refine s_aload_n dX10_normalize_12 rfl rfl ?_
    obtain ⟨P, hcl, h⟩ := h
    refine s_callV (As := []) (rest := []) (k := 0) dX10_normalize_13 lkX10_107 rn0 ⟨by rw [rk0]; rfl, by rw [rk0]; decide⟩ lmX10_begins rfl rfl (Nat.le_of_ble_eq_true rfl) (by decide) (Nat.le_refl 0) (Nat.le_refl 0) (hC := hcl) (fun r n2 S2 m4 hP => ?_)
    obtain ⟨⟨rfl, rfl⟩, rfl, hq⟩ := hP
    have h := h m4 hq
    refine s_aload_n dX10_normalize_16 rfl rfl ?_
    refine s_getR dX10_normalize_17 flX10_9 rn0 rk0 rfl rr0_0 ?_
    refine s_sipush dX10_normalize_20 (by decide) ?_
    refine s_iload_n dX10_normalize_23 rfl rfl ?_
    obtain ⟨m5, hm5⟩ : ∃ x : am_M, x = am_st m4 1 (am_up (m4 1) 465 z1) := ⟨_, rfl⟩
    have h := h m5 hm5
    refine s_iast dX10_normalize_24 rn1 rk1 rl1 (by decide) (by decide) hm5.symm ?_
    refine s_aload_n dX10_normalize_25 rfl rfl ?_
    refine s_iload_n dX10_normalize_26 rfl rfl ?_
    obtain ⟨P, hcl, h⟩ := h
    refine s_callV (As := [vI z1]) (rest := []) (k := 0) dX10_normalize_27 lkX10_110 rn0 ⟨by rw [rk0]; rfl, by rw [rk0]; decide⟩ lmX10_ends rfl rfl (Nat.le_of_ble_eq_true rfl) (by decide) (Nat.le_refl 0) (Nat.le_refl 0) (hC := hcl) (fun r n2 S2 m7 hP => ?_)
    obtain ⟨⟨rfl, rfl⟩, z6, rfl, hq⟩ := hP
    have h := h z6 m7 hq
    exact s_ireturn dX10_normalize_30 (Or.inl rfl) ⟨⟨rfl, rfl⟩, _, rfl, h⟩
  · have h := h.2 cc
    refine s_iload_n dX10_normalize_10 rfl rfl ?_
    exact s_ireturn dX10_normalize_11 (Or.inl rfl) ⟨⟨rfl, rfl⟩, _, rfl, h⟩
theorem ve_X10_normalize {x1 : Int} {μ : am_M} {Q : Int → am_M → Prop} (h : at_I kR 6 mX10_normalize 0 [vR 0, vI x1, vU] [] μ Q) : cl_I kR 6 mX10_normalize [vR 0, vI x1] μ Q := am_intro pmX10_normalize (Nat.le_of_ble_eq_true rfl) rfl h
theorem sp_X10_normalize {K : Int} {μ : am_M} {t : Int} (hI : RI K μ) (hK : K < 99999) : cl_I kR 6 mX10_normalize [vR 0, vI t] μ (fun z m => rn_ [] μ m z (o_nor (pR μ) t)) := by
  have hV := hI.1
  have b : q_master (pR μ) t < 0 ∨ (1 ≤ q_master (pR μ) t ∧ q_master (pR μ) t ≤ 400) := by
    unfold q_master
    by_cases c : t < 1 ∨ 999 < t
    · rw [cif_t c]; omega
    · rw [cif_f c]
      rcases gm_b (F := loP (pR μ)) (t := t * t) 400 with e | e
      · omega
      · right; exact e
  refine ve_X10_normalize (vc_X10_normalize_0 ⟨_, sp_X10_masterFor hV.1, fun z m2 ⟨hz, q2⟩ => ⟨fun z0 => ?_, fun z0 => rn_no hV (rm_rq q2) (rq_1 q2) z0 hz⟩⟩)
  refine ⟨_, sp_X10_begins, fun m4 ⟨f4, e4⟩ m5 e5 => ?_⟩
  have p4 : m4 1 = μ 1 := (f4 1 (by decide)).trans (rq_1 q2)
  have b4 : bg_ [] μ m4 := bg_of (rm_rq q2) (rq_1 q2) f4 e4
  have f5 : fr_ [1] m4 m5 := by rw [e5]; exact fr_st (by simp)
  obtain ⟨h1, h2⟩ := pe_setE hV (w := 0) (v := z) (m := m5) (by omega) (by rw [e5, st_s, p4]; rfl)
  refine rn_ok hI hK (by simp) (bg_fr b4 f5 (by decide) (by decide)) ?_ h2 z0 hz
  unfold o_nor
  rw [if_pos (by omega), ← hz]
  exact h1

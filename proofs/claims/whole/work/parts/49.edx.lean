/-! one command after the other -/
theorem wL_pe {P Q : Pj} (h : pe_ P Q) (L : List Rw) : pe_ (wL P L) (wL Q L) := by
  obtain ⟨h1, h2, h3, h4, h5, h6, h7⟩ := h
  exact ⟨h1, h2, h3, h4, rfl, eq_T.rf, h7⟩
theorem wLH_pe {P Q : Pj} (h : pe_ P Q) (L : List Rw) (H : Hl) : pe_ (wLH P L H) (wLH Q L H) := by
  obtain ⟨h1, h2, h3, h4, h5, h6, h7⟩ := h
  exact ⟨h1, h2, h3, h4, rfl, eq_T.rf, rfl⟩
theorem wH_pe {P Q : Pj} (h : pe_ P Q) (H : Hl) : pe_ (wH P H) (wH Q H) := by
  obtain ⟨h1, h2, h3, h4, h5, h6, h7⟩ := h
  exact ⟨h1, h2, h3, h4, h5, h6, rfl⟩
/-- the same answer, the same project -/
def oe_ (R S : Int × Pj) : Prop := R.1 = S.1 ∧ pe_ R.2 S.2
theorem cut_pe {P Q : Pj} (h : pe_ P Q) (a b : Int) : oe_ (o_cut P a b) (o_cut Q a b) := by
  unfold o_cut
  rw [pL_pe h, ← pe_H h]
  exact ⟨rfl, wLH_pe h _ _⟩
theorem ins_pe {P Q : Pj} (h : pe_ P Q) (a b : Int) : oe_ (o_ins P a b) (o_ins Q a b) := by
  unfold o_ins
  rw [pL_pe h, ← pe_H h]
  exact ⟨rfl, wLH_pe h _ _⟩
theorem rem_pe {P Q : Pj} (h : pe_ P Q) (c : Int) : oe_ (o_rem P c) (o_rem Q c) := by
  unfold o_rem
  rw [pL_pe h]
  exact ⟨rfl, wL_pe h _⟩
theorem div_pe {P Q : Pj} (h : pe_ P Q) (c a : Int) : oe_ (o_div P c a) (o_div Q c a) := by
  unfold o_div
  rw [pL_pe h]
  exact ⟨rfl, wL_pe h _⟩
theorem mov_pe {P Q : Pj} (h : pe_ P Q) (c t s : Int) : oe_ (o_mov P c t s) (o_mov Q c t s) := by
  unfold o_mov
  rw [pL_pe h]
  exact ⟨rfl, wL_pe h _⟩
theorem ent_pe {P Q : Pj} (h : pe_ P Q) (f t : Int) : oe_ (o_ent P f t) (o_ent Q f t) := by
  unfold o_ent
  rw [← pe_H h]
  exact ⟨rfl, wH_pe h _⟩
/-- what a command of a text does -/
noncomputable def o_mvc (P : Pj) (a b : Int) : Int × Pj := cif (0 ≤ a ∧ a < pN P) (o_mov P a (pG P a 0) b) (-1, P)
noncomputable def o_cmd (P : Pj) (c : Cm) : Int × Pj := if c.1 = 100 then o_rem P c.2.1 else if c.1 = 105 then o_ins P c.2.1 c.2.2 else if c.1 = 109 then o_mvc P c.2.1 c.2.2 else if c.1 = 115 then o_div P c.2.1 c.2.2 else if c.1 = 120 then o_cut P c.2.1 c.2.2 else o_ent P c.2.1 c.2.2
theorem mvc_pe {P Q : Pj} (h : pe_ P Q) (a b : Int) : oe_ (o_mvc P a b) (o_mvc Q a b) := by
  unfold o_mvc
  rw [pe_N h]
  by_cases c : 0 ≤ a ∧ a < pN P
  · rw [cif_t c, cif_t c, pe_G h c.1 c.2 (by omega) (by omega)]
    exact mov_pe h _ _ _
  · rw [cif_f c, cif_f c]
    exact ⟨rfl, h⟩
theorem cmd_pe {P Q : Pj} (h : pe_ P Q) (c : Cm) : oe_ (o_cmd P c) (o_cmd Q c) := by
  unfold o_cmd
  (repeat' split)
  · exact rem_pe h _
  · exact ins_pe h _ _
  · exact mvc_pe h _ _
  · exact div_pe h _ _
  · exact cut_pe h _ _
  · exact ent_pe h _ _
theorem ov_mvc {P : Pj} (h : vP P) (a b : Int) : ov_ P (o_mvc P a b) := by
  unfold o_mvc
  by_cases c : 0 ≤ a ∧ a < pN P
  · rw [cif_t c]; exact ov_mov h _ _ _
  · rw [cif_f c]; exact ⟨fun _ => pe_rf, h⟩
theorem ov_cmd {P : Pj} (h : vP P) (c : Cm) : ov_ P (o_cmd P c) := by
  unfold o_cmd
  (repeat' split)
  · exact ov_rem h _
  · exact ov_ins h _ _
  · exact ov_mvc h _ _
  · exact ov_div h _ _
  · exact ov_cut h _ _
  · exact ov_ent h _ _
/-- a command is carried out in the class's project -/
def pm_ (μ m : am_M) (z : Int) (R : Int × Pj) : Prop := z = R.1 ∧ fr_ (pjC 1) μ m ∧ pe_ R.2 (pC m 1) ∧ 0 ≤ m 7 2
theorem pm_k {μ m : am_M} {z : Int} {R : Rt} {L : Rl} (h7 : 0 ≤ μ 7 2) (h : rk_ μ m z R) (hr : rl_ R L) : pm_ μ m z (o_L (pC μ 1) L) := by
  have w := ck_w h.2 hr.2
  exact ⟨by rw [h.1, hr.1]; rfl, w.1, w.2.1, by rw [w.2.2]; exact h7⟩
theorem vc_X9_carryOut_0 {x1 x2 x3 : Int} {μ : am_M} {Q : Int → am_M → Prop} (h : (x1 = 100 → (in_ 0 33 (μ 5 1)) ∧ (∀ (z1 : Int) (m2 : am_M), rk_ μ m2 z1 (r_rem (μ 5 1) (cg μ) x2) → Q z1 m2)) ∧ (x1 = 105 → ∃ P : Int → am_M → Prop, cl_I kC 6 mX4_insertFrames [vR 1, vI x2, vI x3] μ P ∧ (∀ (z3 : Int) (m4 : am_M), P z3 m4 → Q z3 m4)) ∧ (x1 = 109 → (¬ (0 ≤ x2 ∧ x2 < μ 5 1) → Q (-1) μ) ∧ (0 ≤ x2 ∧ x2 < μ 5 1 → (in_ 0 32 x2) ∧ (in_ 0 8 0) ∧ ((ok_T (cg μ) (μ 5 1)) ∧ (μ 5 1 < 32) ∧ (∀ (z5 : Int) (m6 : am_M), rk_ μ m6 z5 (r_mov (μ 5 1) (cg μ) x2 (cg μ x2 0) x3) → Q z5 m6)))) ∧ (x1 = 115 → (ok_T (cg μ) (μ 5 1)) ∧ (∀ (z7 : Int) (m8 : am_M), rk_ μ m8 z7 (r_div (μ 5 1) (cg μ) x2 x3) → Q z7 m8)) ∧ (x1 = 120 → ∃ P : Int → am_M → Prop, cl_I kC 6 mX4_cutFrames [vR 1, vI x2, vI x3] μ P ∧ (∀ (z9 : Int) (m10 : am_M), P z9 m10 → Q z9 m10)) ∧ (x1 ≠ 100 → x1 ≠ 105 → x1 ≠ 109 → x1 ≠ 115 → x1 ≠ 120 → ∃ P : Int → am_M → Prop, cl_I kC 2 mX0_enter [vR 7, vI x2, vI x3] μ P ∧ (∀ (z11 : Int) (m12 : am_M), P z11 m12 → Q z11 m12))) : at_I kC 8 mX9_carryOut 0 [vR 0, vI x1, vI x2, vI x3] [] μ Q := by
  refine s_iload_n dX9_carryOut_0 rfl rfl ?_
  by_cases cc : x1 = 100
  · have h := h.1 cc
    refine s_lookup dX9_carryOut_1 (by decide) (by rw [cc] <;> rfl) (tgt := 72) (by decide) ?_
    refine s_aload_n dX9_carryOut_72 rfl rfl ?_
    refine s_getR dX9_carryOut_73 flX9_12 kn0 kk0 rfl kr0_0 ?_
    refine s_getR dX9_carryOut_76 flX9_80 kn1 kk1 rfl kr1_3 ?_
    refine s_iload_n dX9_carryOut_79 rfl rfl ?_
    obtain ⟨p0, h⟩ := h
    refine s_callV (As := [vI x2]) (rest := []) (k := 5) dX9_carryOut_80 lkX9_170 kn5 ⟨by rw [kk5]; rfl, by rw [kk5]; decide⟩ lmX1_takeOut rfl rfl (Nat.le_of_ble_eq_true rfl) (by decide) (Nat.le_refl 0) (Nat.le_refl 0) (hC := sp_X1_takeOut  p0) (fun r n2 S2 m2 hP => ?_)
    obtain ⟨⟨rfl, rfl⟩, z1, rfl, hq⟩ := hP
    have h := h z1 m2 hq
    exact s_ireturn dX9_carryOut_83 (Or.inl rfl) ⟨⟨rfl, rfl⟩, _, rfl, h⟩
  have n0 := cc
  have h := h.2
  by_cases cc : x1 = 105
  · have h := h.1 cc
    refine s_lookup dX9_carryOut_1 (by decide) (by rw [cc] <;> rfl) (tgt := 62) (by decide) ?_
    refine s_aload_n dX9_carryOut_62 rfl rfl ?_
    refine s_getR dX9_carryOut_63 flX9_12 kn0 kk0 rfl kr0_0 ?_
    refine s_iload_n dX9_carryOut_66 rfl rfl ?_
    refine s_iload_n dX9_carryOut_67 rfl rfl ?_
    obtain ⟨P, hcl, h⟩ := h
    refine s_callV (As := [vI x2, vI x3]) (rest := []) (k := 1) dX9_carryOut_68 lkX9_196 kn1 ⟨by rw [kk1]; rfl, by rw [kk1]; decide⟩ lmX4_insertFrames rfl rfl (Nat.le_of_ble_eq_true rfl) (by decide) (Nat.le_refl 0) (Nat.le_refl 0) (hC := hcl) (fun r n2 S2 m4 hP => ?_)
    obtain ⟨⟨rfl, rfl⟩, z3, rfl, hq⟩ := hP
    have h := h z3 m4 hq
    exact s_ireturn dX9_carryOut_71 (Or.inl rfl) ⟨⟨rfl, rfl⟩, _, rfl, h⟩
  have n1 := cc
  have h := h.2
  by_cases cc : x1 = 109
  · have h := h.1 cc
    refine s_lookup dX9_carryOut_1 (by decide) (by rw [cc] <;> rfl) (tgt := 97) (by decide) ?_
    refine s_aload_n dX9_carryOut_97 rfl rfl ?_
    refine s_getR dX9_carryOut_98 flX9_12 kn0 kk0 rfl kr0_0 ?_
    refine s_getR dX9_carryOut_101 flX9_80 kn1 kk1 rfl kr1_3 ?_
    refine s_iload_n dX9_carryOut_104 rfl rfl ?_
    refine s_callV (As := [vI x2]) (rest := []) (k := 5) dX9_carryOut_105 lkX9_145 kn5 ⟨by rw [kk5]; rfl, by rw [kk5]; decide⟩ lmX1_has rfl rfl (Nat.le_of_ble_eq_true rfl) (by decide) (Nat.le_refl 0) (Nat.le_refl 0) (hC := sp_X1_has (Q := fun z m => bI (0 ≤ x2 ∧ x2 < μ 5 1) = z ∧ μ = m)  ⟨rfl, rfl⟩) (fun r n2 S2 m2 hP => ?_)
    obtain ⟨⟨rfl, rfl⟩, z, rfl, rfl, rfl⟩ := hP
    refine s_if_eq dX9_carryOut_108 (tgt := 138) (by decide) (fun cc => ?_) (fun cc => ?_)
    · have h := h.1 (bI_eq cc)
      refine s_iconst dX9_carryOut_138 (by decide) ?_
      exact s_ireturn dX9_carryOut_139 (Or.inl rfl) ⟨⟨rfl, rfl⟩, _, rfl, h⟩
    · have h := h.2 (bI_ne cc)
      refine s_aload_n dX9_carryOut_111 rfl rfl ?_
      refine s_getR dX9_carryOut_112 flX9_12 kn0 kk0 rfl kr0_0 ?_
      refine s_getR dX9_carryOut_115 flX9_80 kn1 kk1 rfl kr1_3 ?_
      refine s_iload_n dX9_carryOut_118 rfl rfl ?_
      refine s_aload_n dX9_carryOut_119 rfl rfl ?_
      refine s_getR dX9_carryOut_120 flX9_12 kn0 kk0 rfl kr0_0 ?_
      refine s_getR dX9_carryOut_123 flX9_80 kn1 kk1 rfl kr1_3 ?_
      refine s_iload_n dX9_carryOut_126 rfl rfl ?_
      refine s_iconst dX9_carryOut_127 (by decide) ?_
      obtain ⟨p0, p1, h⟩ := h
      refine s_callV (As := [vI x2, vI 0]) (rest := [vI x2, vR 5]) (k := 5) dX9_carryOut_128 lkX9_154 kn5 ⟨by rw [kk5]; rfl, by rw [kk5]; decide⟩ lmX1_get rfl rfl (Nat.le_of_ble_eq_true rfl) (by decide) (Nat.le_refl 0) (Nat.le_refl 0) (hC := sp_X1_get (Q := fun z m => cg μ x2 0 = z ∧ μ = m) p0 p1 ⟨rfl, rfl⟩) (fun r n2 S2 m2 hP => ?_)
      obtain ⟨⟨rfl, rfl⟩, z, rfl, rfl, rfl⟩ := hP
      refine s_iload_n dX9_carryOut_131 rfl rfl ?_
      obtain ⟨p0, p1, h⟩ := h
      refine s_callV (As := [vI x2, vI (cg μ x2 0), vI x3]) (rest := []) (k := 5) dX9_carryOut_132 lkX9_161 kn5 ⟨by rw [kk5]; rfl, by rw [kk5]; decide⟩ lmX1_shift rfl rfl (Nat.le_of_ble_eq_true rfl) (by decide) (Nat.le_refl 0) (Nat.le_refl 0) (hC := sp_X1_shift  p0 p1) (fun r n2 S2 m6 hP => ?_)
      obtain ⟨⟨rfl, rfl⟩, z5, rfl, hq⟩ := hP
      have h := h z5 m6 hq
      refine s_goto dX9_carryOut_135 (tgt := 139) (by decide) ?_
      exact s_ireturn dX9_carryOut_139 (Or.inl rfl) ⟨⟨rfl, rfl⟩, _, rfl, h⟩
  have n2 := cc
  have h := h.2
  by_cases cc : x1 = 115
  · have h := h.1 cc
    refine s_lookup dX9_carryOut_1 (by decide) (by rw [cc] <;> rfl) (tgt := 84) (by decide) ?_
    refine s_aload_n dX9_carryOut_84 rfl rfl ?_
    refine s_getR dX9_carryOut_85 flX9_12 kn0 kk0 rfl kr0_0 ?_
    refine s_getR dX9_carryOut_88 flX9_80 kn1 kk1 rfl kr1_3 ?_
    refine s_iload_n dX9_carryOut_91 rfl rfl ?_
    refine s_iload_n dX9_carryOut_92 rfl rfl ?_
    obtain ⟨p0, h⟩ := h
    refine s_callV (As := [vI x2, vI x3]) (rest := []) (k := 5) dX9_carryOut_93 lkX9_167 kn5 ⟨by rw [kk5]; rfl, by rw [kk5]; decide⟩ lmX1_divideOne rfl rfl (Nat.le_of_ble_eq_true rfl) (by decide) (Nat.le_refl 0) (Nat.le_refl 0) (hC := sp_X1_divideOne  p0) (fun r n2 S2 m8 hP => ?_)
    obtain ⟨⟨rfl, rfl⟩, z7, rfl, hq⟩ := hP
    have h := h z7 m8 hq
    exact s_ireturn dX9_carryOut_96 (Or.inl rfl) ⟨⟨rfl, rfl⟩, _, rfl, h⟩
  have n3 := cc
  have h := h.2
  by_cases cc : x1 = 120
  · have h := h.1 cc
    refine s_lookup dX9_carryOut_1 (by decide) (by rw [cc] <;> rfl) (tgt := 52) (by decide) ?_
    refine s_aload_n dX9_carryOut_52 rfl rfl ?_
    refine s_getR dX9_carryOut_53 flX9_12 kn0 kk0 rfl kr0_0 ?_
    refine s_iload_n dX9_carryOut_56 rfl rfl ?_
    refine s_iload_n dX9_carryOut_57 rfl rfl ?_
    obtain ⟨P, hcl, h⟩ := h
    refine s_callV (As := [vI x2, vI x3]) (rest := []) (k := 1) dX9_carryOut_58 lkX9_193 kn1 ⟨by rw [kk1]; rfl, by rw [kk1]; decide⟩ lmX4_cutFrames rfl rfl (Nat.le_of_ble_eq_true rfl) (by decide) (Nat.le_refl 0) (Nat.le_refl 0) (hC := hcl) (fun r n2 S2 m10 hP => ?_)
    obtain ⟨⟨rfl, rfl⟩, z9, rfl, hq⟩ := hP
    have h := h z9 m10 hq
    exact s_ireturn dX9_carryOut_61 (Or.inl rfl) ⟨⟨rfl, rfl⟩, _, rfl, h⟩
  have n4 := cc
  have h := h.2
  have h := h n0 n1 n2 n3 n4
  refine s_lookup dX9_carryOut_1 (by decide) (by simp [Op.lookupswitch.offset, n0, Ne.symm n0, n1, Ne.symm n1, n2, Ne.symm n2, n3, Ne.symm n3, n4, Ne.symm n4]; rfl) (tgt := 140) (by decide) ?_
  refine s_aload_n dX9_carryOut_140 rfl rfl ?_
  refine s_getR dX9_carryOut_141 flX9_12 kn0 kk0 rfl kr0_0 ?_
  refine s_getR dX9_carryOut_144 flX9_199 kn1 kk1 rfl kr1_4 ?_
  refine s_iload_n dX9_carryOut_147 rfl rfl ?_
  refine s_iload_n dX9_carryOut_148 rfl rfl ?_
  obtain ⟨P, hcl, h⟩ := h
  refine s_callV (As := [vI x2, vI x3]) (rest := []) (k := 7) dX9_carryOut_149 lkX9_203 kn7 ⟨by rw [kk7]; rfl, by rw [kk7]; decide⟩ lmX0_enter rfl rfl (Nat.le_of_ble_eq_true rfl) (by decide) (Nat.le_refl 0) (Nat.le_refl 0) (hC := hcl) (fun r n2 S2 m12 hP => ?_)
  obtain ⟨⟨rfl, rfl⟩, z11, rfl, hq⟩ := hP
  have h := h z11 m12 hq
  exact s_ireturn dX9_carryOut_152 (Or.inl rfl) ⟨⟨rfl, rfl⟩, _, rfl, h⟩
theorem ve_X9_carryOut {x1 x2 x3 : Int} {μ : am_M} {Q : Int → am_M → Prop} (h : at_I kC 8 mX9_carryOut 0 [vR 0, vI x1, vI x2, vI x3] [] μ Q) : cl_I kC 8 mX9_carryOut [vR 0, vI x1, vI x2, vI x3] μ Q := am_intro pmX9_carryOut (Nat.le_of_ble_eq_true rfl) rfl h
theorem sp_X9_carryOut {μ : am_M} {l a b : Int} (hV : vC μ) (h7 : 0 ≤ μ 7 2) : cl_I kC 8 mX9_carryOut [vR 0, vI l, vI a, vI b] μ (fun z m => pm_ μ m z (o_cmd (pC μ 1) (l, a, b))) := by
  have e0 : o_cmd (pC μ 1) (l, a, b) = if l = 100 then o_rem (pC μ 1) a else if l = 105 then o_ins (pC μ 1) a b else if l = 109 then o_mvc (pC μ 1) a b else if l = 115 then o_div (pC μ 1) a b else if l = 120 then o_cut (pC μ 1) a b else o_ent (pC μ 1) a b := rfl
  have hn := hV.hn
  refine ve_X9_carryOut (vc_X9_carryOut_0 ⟨fun n => ⟨hV.okT.1, fun z m h => ?_⟩, fun n => ⟨_, ins_C hV h7 a b, fun z m h => ?_⟩, fun n => ⟨fun c => ?_, fun c => ⟨by ((try unfold am_in); (try unfold in_ at *); omega), (by (try unfold am_in); (try unfold in_ at *); omega), hV.okT, by ((try unfold am_in); (try unfold in_ at *); omega), fun z m h => ?_⟩⟩, fun n => ⟨hV.okT, fun z m h => ?_⟩, fun n => ⟨_, cut_C hV h7 a b, fun z m h => ?_⟩, fun n0 n1 n2 n3 n4 => ⟨_, sp_X0_enter (hC μ) (hl_hC h7) hV.hl, fun z m h => ?_⟩⟩)
  · rw [e0, if_pos n]
    exact pm_k h7 h (l_rem_is (tlC hV) a)
  · rw [e0, if_neg (by omega), if_pos n]
    exact ⟨(lk_w h).1, (lk_w h).2.1, (lk_w h).2.2.1, (lk_w h).2.2.2⟩
  · rw [e0, if_neg (by omega), if_neg (by omega), if_pos n, show o_mvc (pC μ 1) a b = _ from cif_f c]
    exact ⟨rfl, fr_rf, pe_rf, h7⟩
  · rw [e0, if_neg (by omega), if_neg (by omega), if_pos n, show o_mvc (pC μ 1) a b = _ from cif_t c]
    exact pm_k h7 h (l_mov_is (tlC hV) (vLC hV).2.1 (vLC hV).l4 a (cg μ a 0) b)
  · rw [e0, if_neg (by omega), if_neg (by omega), if_neg (by omega), if_pos n]
    exact pm_k h7 h (l_div_is (tlC hV) a b)
  · rw [e0, if_neg (by omega), if_neg (by omega), if_neg (by omega), if_neg (by omega), if_pos n]
    exact ⟨(lk_w h).1, (lk_w h).2.1, (lk_w h).2.2.1, (lk_w h).2.2.2⟩
  · rw [e0, if_neg n0, if_neg n1, if_neg n2, if_neg n3, if_neg n4]
    exact ⟨h.1, (hk_w h.2).1, (hk_w h.2).2.1, (hk_w h.2).2.2⟩
/-- commands one after the other: the code of the refused one or 0, its number, the project -/
noncomputable def exe_ : List Cm → Int → Pj → Int × Int × Pj
  | [], i, P => (0, i, P)
  | c :: cs, i, P => if (o_cmd P c).1 < 0 then ((o_cmd P c).1, i, P) else exe_ cs (i + 1) (o_cmd P c).2
/-- silences tightened, from the last one on: the frames or -3, the project -/
noncomputable def tig_ (S : Sl) (n : Int) : Nat → Int → Pj → Int × Pj
  | 0, x, P => (x, P)
  | k + 1, x, P => if (S.getD k (0, 0)).2 ≤ n then tig_ S n k (x + ((S.getD k (0, 0)).2 - n)) P else if (o_cut P ((S.getD k (0, 0)).1 + n) ((S.getD k (0, 0)).1 + (S.getD k (0, 0)).2)).1 < 0 then (-3, P) else tig_ S n k (x + ((S.getD k (0, 0)).2 - n)) (o_cut P ((S.getD k (0, 0)).1 + n) ((S.getD k (0, 0)).1 + (S.getD k (0, 0)).2)).2
theorem tig_s {S : Sl} {n : Int} {k : Nat} {x : Int} {P : Pj} : tig_ S n (k + 1) x P = if (S.getD k (0, 0)).2 ≤ n then tig_ S n k (x + ((S.getD k (0, 0)).2 - n)) P else if (o_cut P ((S.getD k (0, 0)).1 + n) ((S.getD k (0, 0)).1 + (S.getD k (0, 0)).2)).1 < 0 then (-3, P) else tig_ S n k (x + ((S.getD k (0, 0)).2 - n)) (o_cut P ((S.getD k (0, 0)).1 + n) ((S.getD k (0, 0)).1 + (S.getD k (0, 0)).2)).2 := rfl
noncomputable def o_tig (P : Pj) (v n : Int) : Int × Pj := cif (¬ ((1 ≤ v ∧ v ≤ 999) ∧ 1 ≤ n ∧ n ≤ 600)) (-2, P) (if (tig_ (silP P v n) n (silP P v n).length 0 P).1 < 0 then (-3, P) else tig_ (silP P v n) n (silP P v n).length 0 P)
theorem cp_C {μ m : am_M} {a b : Nat} (hV : vP (pC μ a)) (h7 : 0 ≤ μ (a + 6) 2) (h : pq_ μ a m b) : pe_ (pC μ a) (pC m b) ∧ 0 ≤ m (b + 6) 2 := ⟨pq_pe hV h, by rw [h.2.2.1]; exact h7⟩
theorem sil_b {F : Int → Int} {v n e : Int} (hn : 1 ≤ n) (he : 0 ≤ e) : ∀ p ∈ sil_ F v n e, 0 ≤ p.1 ∧ n ≤ p.2 ∧ p.1 + p.2 ≤ e := by
  intro p hp
  have b := sl_b (F := F) (v := v) hn he
  unfold sil_ at hp
  split at hp
  · rcases List.mem_append.mp hp with q | q
    · exact b.2.2 p q
    · simp at q
      rw [q]
      simp only
      omega
  · exact b.2.2 p hp
theorem getD_mem {S : Sl} {k : Nat} (h : k < S.length) : S.getD k (0, 0) ∈ S := by
  rw [List.getD_eq_getElem?_getD, List.getElem?_eq_getElem h]
  exact List.getElem_mem h
theorem tig_v {S : Sl} {n : Int} : ∀ (k : Nat) (x : Int) (P : Pj), vP P → vP (tig_ S n k x P).2
  | 0, _, _, h => h
  | k + 1, x, P, h => by
    unfold tig_
    split
    · exact tig_v k _ P h
    · split
      · exact h
      · exact tig_v k _ _ (ov_cut h _ _).2
theorem ov_tig {P : Pj} (h : vP P) (v n : Int) : ov_ P (o_tig P v n) := by
  unfold o_tig
  by_cases c : ¬ ((1 ≤ v ∧ v ≤ 999) ∧ 1 ≤ n ∧ n ≤ 600)
  · rw [cif_t c]; exact ⟨fun _ => pe_rf, h⟩
  · rw [cif_f c]
    split
    · exact ⟨fun _ => pe_rf, h⟩
    · rename_i q
      exact ⟨fun z => absurd z q, tig_v _ _ _ h⟩
theorem vc_X9_tighten_0 {x1 x2 : Int} {μ : am_M} {Q : Int → am_M → Prop} (h : ((1 ≤ x1 ∧ x1 ≤ 999) ∧ 1 ≤ x2 ∧ x2 ≤ 600 → ∃ P : am_M → Prop, cl_V kC 5 mX7_refresh [vR 129] μ P ∧ (∀ m2 : am_M, P m2 → ∃ P : am_M → Prop, cl_V kC 4 mX6_find [vR 148, vI x1, vI x2] m2 P ∧ (∀ m4 : am_M, P m4 → ∃ P : am_M → Prop, cl_V kC 1 mX4_copy [vR 1, vR 10] m4 P ∧ (∀ m6 : am_M, P m6 → (am_in (m6 148 4 - 1)) ∧ (at_I kC 8 mX9_tighten 51 [vR 0, vU, vI x2, vI 0, vI (m6 148 4 - 1), vU, vU] [] m6 Q))))) ∧ (¬ ((1 ≤ x1 ∧ x1 ≤ 999) ∧ 1 ≤ x2 ∧ x2 ≤ 600) → Q (-2) μ)) : at_I kC 8 mX9_tighten 0 [vR 0, vI x1, vI x2, vU, vU, vU, vU] [] μ Q := by
  refine s_iload_n dX9_tighten_0 rfl rfl ?_
  refine s_iload_n dX9_tighten_1 rfl rfl ?_
  refine s_callS (As := [vI x1, vI x2]) (rest := []) dX9_tighten_2 lkX9_284 lmX9_isSilence rfl rfl (Nat.le_of_ble_eq_true rfl) (by decide) (Nat.le_refl 0) (Nat.le_refl 0) (hC := sp_X9_isSilence (Q := fun z m => bI ((1 ≤ x1 ∧ x1 ≤ 999) ∧ 1 ≤ x2 ∧ x2 ≤ 600) = z ∧ μ = m)  ⟨rfl, rfl⟩) (fun r n2 S2 m2 hP => ?_)
  obtain ⟨⟨rfl, rfl⟩, z, rfl, rfl, rfl⟩ := hP
  refine s_if_ne dX9_tighten_5 (tgt := 11) (by decide) (fun cc => ?_) (fun cc => ?_)
  · have h := h.1 (bI_ne cc)
    refine s_aload_n dX9_tighten_11 rfl rfl ?_
    refine s_getR dX9_tighten_12 flX9_34 kn0 kk0 rfl kr0_4 ?_
    obtain ⟨P, hcl, h⟩ := h
    refine s_callV (As := []) (rest := []) (k := 129) dX9_tighten_15 lkX9_278 kn129 ⟨by rw [kk129]; rfl, by rw [kk129]; decide⟩ lmX7_refresh rfl rfl (Nat.le_of_ble_eq_true rfl) (by decide) (Nat.le_refl 0) (Nat.le_refl 0) (hC := hcl) (fun r n2 S2 m2 hP => ?_)
    obtain ⟨⟨rfl, rfl⟩, rfl, hq⟩ := hP
    have h := h m2 hq
    refine s_aload_n dX9_tighten_18 rfl rfl ?_
    refine s_getR dX9_tighten_19 flX9_50 kn0 kk0 rfl kr0_6 ?_
    refine s_iload_n dX9_tighten_22 rfl rfl ?_
    refine s_iload_n dX9_tighten_23 rfl rfl ?_
    obtain ⟨P, hcl, h⟩ := h
    refine s_callV (As := [vI x1, vI x2]) (rest := []) (k := 148) dX9_tighten_24 lkX9_287 kn148 ⟨by rw [kk148]; rfl, by rw [kk148]; decide⟩ lmX6_find rfl rfl (Nat.le_of_ble_eq_true rfl) (by decide) (Nat.le_refl 0) (Nat.le_refl 0) (hC := hcl) (fun r n2 S2 m4 hP => ?_)
    obtain ⟨⟨rfl, rfl⟩, rfl, hq⟩ := hP
    have h := h m4 hq
    refine s_aload_n dX9_tighten_27 rfl rfl ?_
    refine s_getR dX9_tighten_28 flX9_12 kn0 kk0 rfl kr0_0 ?_
    refine s_aload_n dX9_tighten_31 rfl rfl ?_
    refine s_getR dX9_tighten_32 flX9_16 kn0 kk0 rfl kr0_1 ?_
    obtain ⟨P, hcl, h⟩ := h
    refine s_callS (As := [vR 1, vR 10]) (rest := []) dX9_tighten_35 lkX9_300 lmX4_copy rfl rfl (Nat.le_of_ble_eq_true rfl) (by decide) (Nat.le_refl 0) (Nat.le_refl 0) (hC := hcl) (fun r n2 S2 m6 hP => ?_)
    obtain ⟨⟨rfl, rfl⟩, rfl, hq⟩ := hP
    have h := h m6 hq
    refine s_iconst dX9_tighten_38 (by decide) ?_
    refine s_istore_n dX9_tighten_39 rfl (by decide) (L' := [vR 0, vI x1, vI x2, vI 0, vU, vU, vU]) rfl ?_
    refine s_aload_n dX9_tighten_40 rfl rfl ?_
    refine s_getR dX9_tighten_41 flX9_50 kn0 kk0 rfl kr0_6 ?_
    refine s_getI (x := (m6 148 4)) dX9_tighten_44 flX9_291 kn148 kk148 rfl rfl ?_
    refine s_iconst dX9_tighten_47 (by decide) ?_
    obtain ⟨c, h⟩ := h
    refine s_isub dX9_tighten_48 (am_w_id c) ?_
    refine s_istore dX9_tighten_49 (by decide) (L' := [vR 0, vI x1, vI x2, vI 0, vI (m6 148 4 - 1), vU, vU]) rfl ?_
    exact am_lesS h ⟨Or.inr rfl, Or.inl rfl, Or.inr rfl, Or.inr rfl, Or.inr rfl, Or.inl rfl, Or.inl rfl, trivial⟩
  · have h := h.2 (bI_eq cc)
    refine s_bipush dX9_tighten_8 (by decide) ?_
    exact s_ireturn dX9_tighten_10 (Or.inl rfl) ⟨⟨rfl, rfl⟩, _, rfl, h⟩
theorem vc_X9_tighten_51 {x2 x3 x4 : Int} {μ : am_M} {Q : Int → am_M → Prop} (h : (x4 < 0 → ∃ P : Int → am_M → Prop, cl_I kC 6 mX9_done [vR 0, vI x3] μ P ∧ (∀ (z1 : Int) (m2 : am_M), P z1 m2 → Q z1 m2)) ∧ (0 ≤ x4 → (0 ≤ x4) ∧ (x4 < 300) ∧ ((0 ≤ x4) ∧ (x4 < 300) ∧ ((am_in ((μ 149 ((x4).toNat)) + (μ 150 ((x4).toNat)))) ∧ ((0 ≤ x4) ∧ (x4 < 300) ∧ ((am_in ((μ 149 ((x4).toNat)) + x2)) ∧ (((μ 149 ((x4).toNat)) + (μ 150 ((x4).toNat)) ≤ (μ 149 ((x4).toNat)) + x2 → (am_in (((μ 149 ((x4).toNat)) + (μ 150 ((x4).toNat))) - ((μ 149 ((x4).toNat)) + x2))) ∧ ((am_in (x3 + (((μ 149 ((x4).toNat)) + (μ 150 ((x4).toNat))) - ((μ 149 ((x4).toNat)) + x2)))) ∧ ((am_in (x4 - 1)) ∧ (at_I kC 8 mX9_tighten 51 [vR 0, vU, vI x2, vI (x3 + (((μ 149 ((x4).toNat)) + (μ 150 ((x4).toNat))) - ((μ 149 ((x4).toNat)) + x2))), vI (x4 - 1), vU, vU] [] μ Q)))) ∧ ((μ 149 ((x4).toNat)) + x2 < (μ 149 ((x4).toNat)) + (μ 150 ((x4).toNat)) → ∃ P : Int → am_M → Prop, cl_I kC 6 mX4_cutFrames [vR 1, vI ((μ 149 ((x4).toNat)) + x2), vI ((μ 149 ((x4).toNat)) + (μ 150 ((x4).toNat)))] μ P ∧ (∀ (z3 : Int) (m4 : am_M), P z3 m4 → (0 ≤ z3 → (am_in (((μ 149 ((x4).toNat)) + (μ 150 ((x4).toNat))) - ((μ 149 ((x4).toNat)) + x2))) ∧ ((am_in (x3 + (((μ 149 ((x4).toNat)) + (μ 150 ((x4).toNat))) - ((μ 149 ((x4).toNat)) + x2)))) ∧ ((am_in (x4 - 1)) ∧ (at_I kC 8 mX9_tighten 51 [vR 0, vU, vI x2, vI (x3 + (((μ 149 ((x4).toNat)) + (μ 150 ((x4).toNat))) - ((μ 149 ((x4).toNat)) + x2))), vI (x4 - 1), vU, vU] [] m4 Q)))) ∧ (z3 < 0 → ∃ P : am_M → Prop, cl_V kC 1 mX4_copy [vR 10, vR 1] m4 P ∧ (∀ m6 : am_M, P m6 → Q (-3) m6))))))))))) : at_I kC 8 mX9_tighten 51 [vR 0, vU, vI x2, vI x3, vI x4, vU, vU] [] μ Q := by
  refine s_iload dX9_tighten_51 rfl ?_
  refine s_if_lt dX9_tighten_53 (tgt := 142) (by decide) (fun cc => ?_) (fun cc => ?_)
  · have h := h.1 cc
    refine s_aload_n dX9_tighten_142 rfl rfl ?_
    refine s_iload_n dX9_tighten_143 rfl rfl ?_
    obtain ⟨P, hcl, h⟩ := h
    refine s_callV (As := [vI x3]) (rest := []) (k := 0) dX9_tighten_144 lkX9_72 kn0 ⟨by rw [kk0]; rfl, by rw [kk0]; decide⟩ lmX9_done rfl rfl (Nat.le_of_ble_eq_true rfl) (by decide) (Nat.le_refl 0) (Nat.le_refl 0) (hC := hcl) (fun r n2 S2 m2 hP => ?_)
    obtain ⟨⟨rfl, rfl⟩, z1, rfl, hq⟩ := hP
    have h := h z1 m2 hq
    exact s_ireturn dX9_tighten_147 (Or.inl rfl) ⟨⟨rfl, rfl⟩, _, rfl, h⟩
  · have h := h.2 cc
    refine s_aload_n dX9_tighten_56 rfl rfl ?_
    refine s_getR dX9_tighten_57 flX9_50 kn0 kk0 rfl kr0_6 ?_
    refine s_getR dX9_tighten_60 flX9_294 kn148 kk148 rfl kr148_2 ?_
    refine s_iload dX9_tighten_63 rfl ?_
    obtain ⟨c, c2, h⟩ := h
    refine s_iald (x := (μ 149 ((x4).toNat))) dX9_tighten_65 kn149 kk149 kl149 c c2 rfl ?_
    refine s_aload_n dX9_tighten_66 rfl rfl ?_
    refine s_getR dX9_tighten_67 flX9_50 kn0 kk0 rfl kr0_6 ?_
    refine s_getR dX9_tighten_70 flX9_297 kn148 kk148 rfl kr148_3 ?_
    refine s_iload dX9_tighten_73 rfl ?_
    obtain ⟨c, c2, h⟩ := h
    refine s_iald (x := (μ 150 ((x4).toNat))) dX9_tighten_75 kn150 kk150 kl150 c c2 rfl ?_
    obtain ⟨c, h⟩ := h
    refine s_iadd dX9_tighten_76 (am_w_id c) ?_
    refine s_istore dX9_tighten_77 (by decide) (L' := [vR 0, vU, vI x2, vI x3, vI x4, vI ((μ 149 ((x4).toNat)) + (μ 150 ((x4).toNat))), vU]) rfl ?_
    refine s_aload_n dX9_tighten_79 rfl rfl ?_
    refine s_getR dX9_tighten_80 flX9_50 kn0 kk0 rfl kr0_6 ?_
    refine s_getR dX9_tighten_83 flX9_294 kn148 kk148 rfl kr148_2 ?_
    refine s_iload dX9_tighten_86 rfl ?_
    obtain ⟨c, c2, h⟩ := h
    refine s_iald (x := (μ 149 ((x4).toNat))) dX9_tighten_88 kn149 kk149 kl149 c c2 rfl ?_
    refine s_iload_n dX9_tighten_89 rfl rfl ?_
    obtain ⟨c, h⟩ := h
    refine s_iadd dX9_tighten_90 (am_w_id c) ?_
    refine s_istore dX9_tighten_91 (by decide) (L' := [vR 0, vU, vI x2, vI x3, vI x4, vI ((μ 149 ((x4).toNat)) + (μ 150 ((x4).toNat))), vI ((μ 149 ((x4).toNat)) + x2)]) rfl ?_
    refine s_iload dX9_tighten_93 rfl ?_
    refine s_iload dX9_tighten_95 rfl ?_
    refine s_icmp_ge dX9_tighten_97 (tgt := 128) (by decide) (fun cc => ?_) (fun cc => ?_)
    · have h := h.1 cc
      refine s_iload_n dX9_tighten_128 rfl rfl ?_
      refine s_iload dX9_tighten_129 rfl ?_
      refine s_iload dX9_tighten_131 rfl ?_
      obtain ⟨c, h⟩ := h
      refine s_isub dX9_tighten_133 (am_w_id c) ?_
      obtain ⟨c, h⟩ := h
      refine s_iadd dX9_tighten_134 (am_w_id c) ?_
      refine s_istore_n dX9_tighten_135 rfl (by decide) (L' := [vR 0, vU, vI x2, vI (x3 + (((μ 149 ((x4).toNat)) + (μ 150 ((x4).toNat))) - ((μ 149 ((x4).toNat)) + x2))), vI x4, vI ((μ 149 ((x4).toNat)) + (μ 150 ((x4).toNat))), vI ((μ 149 ((x4).toNat)) + x2)]) rfl ?_
      obtain ⟨c, h⟩ := h
      refine s_iinc dX9_tighten_136 rfl (am_w_id c) (by decide) (L' := [vR 0, vU, vI x2, vI (x3 + (((μ 149 ((x4).toNat)) + (μ 150 ((x4).toNat))) - ((μ 149 ((x4).toNat)) + x2))), vI (x4 - 1), vI ((μ 149 ((x4).toNat)) + (μ 150 ((x4).toNat))), vI ((μ 149 ((x4).toNat)) + x2)]) rfl ?_
      refine s_goto dX9_tighten_139 (tgt := 51) (by decide) ?_
      exact am_lesS h ⟨Or.inr rfl, Or.inl rfl, Or.inr rfl, Or.inr rfl, Or.inr rfl, Or.inl rfl, Or.inl rfl, trivial⟩
    · have h := h.2 cc
      refine s_aload_n dX9_tighten_100 rfl rfl ?_
      refine s_getR dX9_tighten_101 flX9_12 kn0 kk0 rfl kr0_0 ?_
      refine s_iload dX9_tighten_104 rfl ?_
      refine s_iload dX9_tighten_106 rfl ?_
      obtain ⟨P, hcl, h⟩ := h
      refine s_callV (As := [vI ((μ 149 ((x4).toNat)) + x2), vI ((μ 149 ((x4).toNat)) + (μ 150 ((x4).toNat)))]) (rest := []) (k := 1) dX9_tighten_108 lkX9_193 kn1 ⟨by rw [kk1]; rfl, by rw [kk1]; decide⟩ lmX4_cutFrames rfl rfl (Nat.le_of_ble_eq_true rfl) (by decide) (Nat.le_refl 0) (Nat.le_refl 0) (hC := hcl) (fun r n2 S2 m4 hP => ?_)
      obtain ⟨⟨rfl, rfl⟩, z3, rfl, hq⟩ := hP
      have h := h z3 m4 hq
      refine s_if_ge dX9_tighten_111 (tgt := 128) (by decide) (fun cc => ?_) (fun cc => ?_)
      · have h := h.1 cc
        refine s_iload_n dX9_tighten_128 rfl rfl ?_
        refine s_iload dX9_tighten_129 rfl ?_
        refine s_iload dX9_tighten_131 rfl ?_
        obtain ⟨c, h⟩ := h
        refine s_isub dX9_tighten_133 (am_w_id c) ?_
        obtain ⟨c, h⟩ := h
        refine s_iadd dX9_tighten_134 (am_w_id c) ?_
        refine s_istore_n dX9_tighten_135 rfl (by decide) (L' := [vR 0, vU, vI x2, vI (x3 + (((μ 149 ((x4).toNat)) + (μ 150 ((x4).toNat))) - ((μ 149 ((x4).toNat)) + x2))), vI x4, vI ((μ 149 ((x4).toNat)) + (μ 150 ((x4).toNat))), vI ((μ 149 ((x4).toNat)) + x2)]) rfl ?_
        obtain ⟨c, h⟩ := h
        refine s_iinc dX9_tighten_136 rfl (am_w_id c) (by decide) (L' := [vR 0, vU, vI x2, vI (x3 + (((μ 149 ((x4).toNat)) + (μ 150 ((x4).toNat))) - ((μ 149 ((x4).toNat)) + x2))), vI (x4 - 1), vI ((μ 149 ((x4).toNat)) + (μ 150 ((x4).toNat))), vI ((μ 149 ((x4).toNat)) + x2)]) rfl ?_
        refine s_goto dX9_tighten_139 (tgt := 51) (by decide) ?_
        exact am_lesS h ⟨Or.inr rfl, Or.inl rfl, Or.inr rfl, Or.inr rfl, Or.inr rfl, Or.inl rfl, Or.inl rfl, trivial⟩
      · have h := h.2 cc
        refine s_aload_n dX9_tighten_114 rfl rfl ?_
        refine s_getR dX9_tighten_115 flX9_16 kn0 kk0 rfl kr0_1 ?_
        refine s_aload_n dX9_tighten_118 rfl rfl ?_
        refine s_getR dX9_tighten_119 flX9_12 kn0 kk0 rfl kr0_0 ?_
        obtain ⟨P, hcl, h⟩ := h
        refine s_callS (As := [vR 10, vR 1]) (rest := []) dX9_tighten_122 lkX9_300 lmX4_copy rfl rfl (Nat.le_of_ble_eq_true rfl) (by decide) (Nat.le_refl 0) (Nat.le_refl 0) (hC := hcl) (fun r n2 S2 m6 hP => ?_)
        obtain ⟨⟨rfl, rfl⟩, rfl, hq⟩ := hP
        have h := h m6 hq
        refine s_bipush dX9_tighten_125 (by decide) ?_
        exact s_ireturn dX9_tighten_127 (Or.inl rfl) ⟨⟨rfl, rfl⟩, _, rfl, h⟩
theorem ve_X9_tighten {x1 x2 : Int} {μ : am_M} {Q : Int → am_M → Prop} (h : at_I kC 8 mX9_tighten 0 [vR 0, vI x1, vI x2, vU, vU, vU, vU] [] μ Q) : cl_I kC 8 mX9_tighten [vR 0, vI x1, vI x2] μ Q := am_intro pmX9_tighten (Nat.le_of_ble_eq_true rfl) rfl h
theorem sp_X9_tighten {K : Int} {μ : am_M} {v n : Int} (hI : CI K μ) (hK : K < 100000) : cl_I kC 8 mX9_tighten [vR 0, vI v, vI n] μ (fun z m => cm_ [] μ m z (o_tig (pC μ 1) v n)) := by
  refine ve_X9_tighten (vc_X9_tighten_0 ⟨fun c => ⟨_, sp_X7_refresh hI.v hI.sn, fun m2 ⟨h1, h2, h3⟩ => ?_⟩, fun c => ?_⟩)
  rotate_left
  · rw [show o_tig (pC μ 1) v n = _ from cif_t c]
    exact ⟨rfl, fun _ => cq_un hI (cq_rf hI), fun q => by omega⟩
  have hV2 := vC_fr h1 rfL_9 hI.v
  have eS : sil_ (mixC m2) v n (la_ (cg m2) (m2 5 1)) = silP (pC μ 1) v n := by
    show silP (pC m2 1) v n = _
    rw [vC_G h1 rfL_9]
  refine ⟨_, sp_X6_find hV2 h3.2.2.2 ⟨c.2.1, by omega⟩, fun m4 ⟨k1, k2⟩ => ?_⟩
  rw [eS] at k2
  have q4 : cq_ μ m4 := ⟨fr_tr (fr_up h1 (fun k hk => by unfold chL; simp [hk])) (fr_up k1 (by decide)), fun _ => snd_fr k1 (by decide) hV2.hS.1 h3, by rw [k1 147 (by decide), h1 147 (by decide)]; exact hI.z⟩
  have s4 : snd_ m4 := snd_fr k1 (by decide) hV2.hS.1 h3
  have V4 : vC m4 := vC_fr k1 (by decide) hV2
  have P4 : pC m4 1 = pC μ 1 := vC_G q4.1 (by decide)
  have l300 : (silP (pC μ 1) v n).length ≤ 300 := sil_l c.2.1 (la_b6 hI.v)
  have sb : ∀ p ∈ silP (pC μ 1) v n, 0 ≤ p.1 ∧ n ≤ p.2 ∧ p.1 + p.2 ≤ laP (pC μ 1) := sil_b c.2.1 (la_b6 hI.v).1
  have lb : in_ 0 601 (laP (pC μ 1)) := la_b6 hI.v
  have ho := ov_tig (P := pC μ 1) hI.v v n
  rw [show o_tig (pC μ 1) v n = _ from cif_f (fun h => h c)] at ho ⊢
  unfold in_ at lb
  refine ⟨_, sp_X4_copy (by decide) (by decide) (by decide), fun m6 ⟨g1, g2⟩ => ?_⟩
  have f6 : fr_ bsL μ m6 := fr_tr (fr_up q4.1 (by decide)) (fr_up g1 (by decide))
  have k6 : fo6_ m6 (silP (pC μ 1) v n) := by
    unfold fo6_
    rw [g1 148 (by decide), g1 149 (by decide), g1 150 (by decide)]
    exact k2
  have c6 := cp_C (a := 1) (b := 10) V4 (by show 0 ≤ m4 7 2; rw [q4.1 7 (by decide)]; exact hI.h7) g2
  rw [P4] at c6
  have p6 : pC m6 1 = pC μ 1 := (pe_of g1 (by decide)).trans P4
  have l6 := k6.1
  refine ⟨by rw [l6]; ((try unfold am_in); (try unfold in_ at *); omega), ?_⟩
  rw [l6]
  generalize silP (pC μ 1) v n = S at *
  have : ∀ (k : Nat) (x : Int) (P : Pj) (m : am_M), k ≤ S.length → 0 ≤ x → x ≤ 600 * (S.length - k) → tig_ S n S.length 0 (pC μ 1) = tig_ S n k x P → vP P → pe_ P (pC m 1) → 0 ≤ m 7 2 → fr_ (pjC 1) m6 m → at_I kC 8 mX9_tighten 51 [vR 0, vU, vI n, vI x, vI ((k : Int) - 1), vU, vU] [] m (fun z m => cm_ [] μ m z (if (tig_ S n S.length 0 (pC μ 1)).1 < 0 then (-3, pC μ 1) else tig_ S n S.length 0 (pC μ 1))) := by
    intro k
    induction k with
    | zero =>
      intro x P m hk x0 xb ht hv hp h7 hf
      rw [ht] at ho ⊢
      change ov_ (pC μ 1) (if x < 0 then (-3, pC μ 1) else (x, P)) at ho
      change at_I _ _ _ _ _ _ _ (fun z m => cm_ [] μ m z (if x < 0 then (-3, pC μ 1) else (x, P)))
      rw [if_neg (by omega)] at ho ⊢
      refine vc_X9_tighten_51 ⟨fun _ => ⟨_, sp_X9_done (ks := []) (P := P) hI hK (fun k hk => by simp at hk) (fun q => by omega) (fun _ => fr_tr f6 (fr_up hf (by decide))) (fun _ => hp) (fun _ => hv) (fun _ => ?_) (fun _ => h7), fun z2 m2 h2 => h2⟩, fun q => by omega⟩
      rw [hf 147 (by decide), g1 147 (by decide)]
      exact q4.2.2
    | succ k ih =>
      intro x P m hk x0 xb ht hv hp h7 hf
      have ek : (((k + 1 : Nat) : Int) - 1).toNat = k := by omega
      have e149 : m 149 k = (S.getD k (0, 0)).1 ∧ m 150 k = (S.getD k (0, 0)).2 := by
        rw [hf 149 (by decide), hf 150 (by decide)]
        have := sl_g k6 (i := k) (by omega) (by omega)
        simpa using this
      have b := sb _ (getD_mem (S := S) (k := k) (by omega))
      rw [tig_s] at ht
      refine vc_X9_tighten_51 ⟨fun q => by omega, fun q => ?_⟩
      rw [ek, e149.1, e149.2]
      generalize S.getD k (0, 0) = p at *
      have e1 : ((k + 1 : Nat) : Int) - 1 - 1 = (k : Int) - 1 := by omega
      have ex : p.1 + p.2 - (p.1 + n) = p.2 - n := by omega
      rw [ex, e1]
      refine ⟨q, by omega, q, by omega, (by (try unfold am_in); (try unfold in_ at *); omega), q, by omega, (by (try unfold am_in); (try unfold in_ at *); omega), fun c1 => ?_, fun c1 => ?_⟩
      · rw [if_pos (by omega)] at ht
        exact ⟨(by (try unfold am_in); (try unfold in_ at *); omega), (by (try unfold am_in); (try unfold in_ at *); omega), (by (try unfold am_in); (try unfold in_ at *); omega), ih _ P m (by omega) (by omega) (by omega) ht hv hp h7 hf⟩
      · rw [if_neg (by omega)] at ht
        have Vm : vC m := pe_v hv hp
        refine ⟨_, cut_C Vm h7 _ _, fun z m8 h8 => ?_⟩
        have w := lk_w h8
        have ce := cut_pe hp (p.1 + n) (p.1 + p.2)
        have ez : z = (o_cut P (p.1 + n) (p.1 + p.2)).1 := by rw [ce.1]; exact w.1
        refine ⟨fun z0 => ?_, fun z0 => ?_⟩
        · rw [if_neg (by omega)] at ht
          exact ⟨(by (try unfold am_in); (try unfold in_ at *); omega), (by (try unfold am_in); (try unfold in_ at *); omega), (by (try unfold am_in); (try unfold in_ at *); omega), ih _ _ m8 (by omega) (by omega) (by omega) ht (ov_cut hv _ _).2 (pe_tr ce.2 w.2.2.1) w.2.2.2 (fr_tr hf w.2.1)⟩
        · rw [if_pos (by omega)] at ht
          rw [ht]
          have e3 : (if ((-3 : Int), P).1 < 0 then ((-3 : Int), pC μ 1) else (-3, P)) = (-3, pC μ 1) := if_pos (by show (-3 : Int) < 0; omega)
          rw [e3]
          refine ⟨_, sp_X4_copy (by decide) (by decide) (by decide), fun m9 ⟨j1, j2⟩ => ⟨rfl, fun _ => ?_, fun q => by omega⟩⟩
          have f8 : fr_ (pjC 1) m6 m8 := fr_tr hf w.2.1
          have p10 : pC m8 10 = pC m6 10 := pe_of f8 (by decide)
          have c9 := cp_C (a := 10) (b := 1) (by rw [p10]; exact pe_v hI.v c6.1) (by rw [f8 16 (by decide)]; exact c6.2) j2
          rw [p10] at c9
          have pe9 : pe_ (pC μ 1) (pC m9 1) := pe_tr c6.1 c9.1
          have f9 : fr_ (pjC 1 ++ pjC 10) m4 m9 := fr_tr (fr_up g1 (by decide)) (fr_tr (fr_up f8 (by decide)) (fr_up j1 (by decide)))
          refine ⟨fr_tr (fr_up q4.1 (by decide)) (fr_up f9 (by decide)), pe9, fun _ => snd_pe V4 f9 (by decide) (by rw [P4]; exact pe9) s4, ?_, c9.2⟩
          rw [f9 147 (by decide)]
          exact q4.2.2
  have := this S.length 0 (pC μ 1) m6 (by omega) (by omega) (by omega) rfl hI.v (by rw [p6]; exact pe_rf) (by rw [g1 7 (by decide), q4.1 7 (by decide)]; exact hI.h7) fr_rf
  exact this

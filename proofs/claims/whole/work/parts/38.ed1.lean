/-! the editor: what several calls share -/
theorem vc_X9_heard_0 {μ : am_M} {Q : Nat → am_M → Prop} (h : ∃ P : am_M → Prop, cl_V kC 5 mX7_refresh [vR 129] μ P ∧ (∀ m2 : am_M, P m2 → Q 129 m2)) : at_R kC 6 mX9_heard 0 [vR 0] [] μ Q := by
  refine s_aload_n dX9_heard_0 rfl rfl ?_
  refine s_getR dX9_heard_1 flX9_34 kn0 kk0 rfl kr0_4 ?_
  obtain ⟨P, hcl, h⟩ := h
  refine s_callV (As := []) (rest := []) (k := 129) dX9_heard_4 lkX9_278 kn129 ⟨by rw [kk129]; rfl, by rw [kk129]; decide⟩ lmX7_refresh rfl rfl (Nat.le_of_ble_eq_true rfl) (by decide) (Nat.le_refl 0) (Nat.le_refl 0) (hC := hcl) (fun r n2 S2 m2 hP => ?_)
  obtain ⟨⟨rfl, rfl⟩, rfl, hq⟩ := hP
  have h := h m2 hq
  refine s_aload_n dX9_heard_7 rfl rfl ?_
  refine s_getR dX9_heard_8 flX9_34 kn0 kk0 rfl kr0_4 ?_
  exact s_areturn dX9_heard_11 ⟨_, rfl⟩ ⟨⟨rfl, rfl⟩, _, rfl, h⟩
theorem ve_X9_heard {μ : am_M} {Q : Nat → am_M → Prop} (h : at_R kC 6 mX9_heard 0 [vR 0] [] μ Q) : cl_R kC 6 mX9_heard [vR 0] μ Q := am_intro pmX9_heard (Nat.le_of_ble_eq_true rfl) rfl h
theorem sp_X9_heard {K : Int} {μ : am_M} (hI : CI K μ) : cl_R kC 6 mX9_heard [vR 0] μ (fun z m => 129 = z ∧ (cq_ μ m ∧ m 129 5 = 0 ∧ snd_ m ∧ vC m ∧ fr_ rfL μ m)) := by
  refine ve_X9_heard (vc_X9_heard_0 ⟨_, sp_X7_refresh hI.v hI.sn, fun m2 ⟨h1, h2, h3⟩ => ⟨rfl, ⟨fr_up h1 (fun k hk => by unfold chL; simp [hk]), fun _ => h3, ?_⟩, h2, h3, vC_fr h1 rfL_9 hI.v, h1⟩⟩)
  rw [h1 147 (by decide)]
  exact hI.z
theorem vc_X9_measureNow_0 {μ : am_M} {Q : am_M → Prop} (h : ∃ P : am_M → Prop, cl_V kC 5 mX7_refresh [vR 129] μ P ∧ (∀ m2 : am_M, P m2 → ∃ P : am_M → Prop, cl_V kC 5 mX3_measure [vR 144, vI (m2 2 0)] m2 P ∧ (∀ m4 : am_M, P m4 → Q m4))) : at_V kC 6 mX9_measureNow 0 [vR 0] [] μ Q := by
  refine s_aload_n dX9_measureNow_0 rfl rfl ?_
  refine s_getR dX9_measureNow_1 flX9_34 kn0 kk0 rfl kr0_4 ?_
  obtain ⟨P, hcl, h⟩ := h
  refine s_callV (As := []) (rest := []) (k := 129) dX9_measureNow_4 lkX9_278 kn129 ⟨by rw [kk129]; rfl, by rw [kk129]; decide⟩ lmX7_refresh rfl rfl (Nat.le_of_ble_eq_true rfl) (by decide) (Nat.le_refl 0) (Nat.le_refl 0) (hC := hcl) (fun r n2 S2 m2 hP => ?_)
  obtain ⟨⟨rfl, rfl⟩, rfl, hq⟩ := hP
  have h := h m2 hq
  refine s_aload_n dX9_measureNow_7 rfl rfl ?_
  refine s_getR dX9_measureNow_8 flX9_43 kn0 kk0 rfl kr0_5 ?_
  refine s_aload_n dX9_measureNow_11 rfl rfl ?_
  refine s_getR dX9_measureNow_12 flX9_12 kn0 kk0 rfl kr0_0 ?_
  refine s_getR dX9_measureNow_15 flX9_275 kn1 kk1 rfl kr1_0 ?_
  refine s_iconst dX9_measureNow_18 (by decide) ?_
  refine s_iald (x := (m2 2 0)) dX9_measureNow_19 kn2 kk2 kl2 (by decide) (by decide) rfl ?_
  obtain ⟨P, hcl, h⟩ := h
  refine s_callV (As := [vI (m2 2 0)]) (rest := []) (k := 144) dX9_measureNow_20 lkX9_395 kn144 ⟨by rw [kk144]; rfl, by rw [kk144]; decide⟩ lmX3_measure rfl rfl (Nat.le_of_ble_eq_true rfl) (by decide) (Nat.le_refl 0) (Nat.le_refl 0) (hC := hcl) (fun r n2 S2 m4 hP => ?_)
  obtain ⟨⟨rfl, rfl⟩, rfl, hq⟩ := hP
  have h := h m4 hq
  exact s_return dX9_measureNow_23 rfl ⟨⟨rfl, rfl⟩, rfl, h⟩
theorem ve_X9_measureNow {μ : am_M} {Q : am_M → Prop} (h : at_V kC 6 mX9_measureNow 0 [vR 0] [] μ Q) : cl_V kC 6 mX9_measureNow [vR 0] μ Q := am_intro pmX9_measureNow (Nat.le_of_ble_eq_true rfl) rfl h
theorem snd_fr {ks : List Nat} {μ m : am_M} (h : fr_ ks μ m) (hk : ∀ k ∈ ks, 143 < k) (hn : in_ 0 7 (μ 1 5)) (hs : snd_ μ) : snd_ m := by
  have k9 : ∀ k ∈ ks, 9 < k := fun k q => by have := hk k q; omega
  have pc := pC_fr h k9
  obtain ⟨h1, h2, h3, h4⟩ := hs
  refine ⟨sv_fr h (fun k q => by have := hk k q; omega) hn h1, ?_, ?_, ?_⟩
  · rw [pc.1]
    exact dk_fr h (fun k q => by have := hk k q; omega) h2
  · rw [pc.2.1]
    exact bk_fr h (fun q => by have := hk _ q; omega) h3
  · exact vC_k h k9 (fun q => by have := hk _ q; omega) h4
theorem cq_tr {μ m m2 : am_M} (h : cq_ μ m) (f : fr_ chL m m2) (hs : m2 129 5 = 0 → snd_ m2) (h0 : m2 147 0 = 0) : cq_ μ m2 := ⟨fr_tr h.1 f, hs, h0⟩
theorem sp_X9_measureNow {μ : am_M} (hV : vC μ) (hs : μ 129 5 = 0 → snd_ μ) (hz : μ 147 0 = 0) : cl_V kC 6 mX9_measureNow [vR 0] μ (fun m => cq_ μ m ∧ me_ μ m (μ 2 0)) := by
  refine ve_X9_measureNow (vc_X9_measureNow_0 ⟨_, sp_X7_refresh hV hs, fun m2 ⟨h1, h2, h3⟩ => ?_⟩)
  have hV2 := vC_fr h1 rfL_9 hV
  have pc := pC_fr h1 rfL_9
  have e2 : m2 2 = μ 2 := h1 2 (by decide)
  rw [e2]
  refine ⟨_, sp_X3_measure hV2 h3.2.2.2 hV.hE.1, fun m4 ⟨k1, k2⟩ => ⟨⟨?_, ?_, ?_⟩, ?_⟩⟩
  · exact fr_tr (fr_up h1 (fun k hk => by unfold chL; simp [hk])) (fr_up k1 (by decide))
  · exact fun _ => snd_fr k1 (by decide) hV2.hS.1 h3
  · rw [k1 147 (by decide), h1 147 (by decide)]
    exact hz
  · unfold me_ winC lvC gtC at k2 ⊢
    rw [e2, pc.2.2.2, h1 5 (by decide), cg_c (h1 6 (by decide))] at k2
    exact k2
theorem vc_X9_greatestMaster_0 {x1 : Int} {μ : am_M} {Q : Int → am_M → Prop} (h : (x1 < 1 → Q (-2) μ) ∧ (1 ≤ x1 → (x1 ≤ 999 → ∃ P : am_M → Prop, cl_V kC 5 mX7_refresh [vR 129] μ P ∧ (∀ m2 : am_M, P m2 → at_I kC 6 mX9_greatestMaster 26 [vR 0, vI x1, vI 400] [] m2 Q)) ∧ (999 < x1 → Q (-2) μ))) : at_I kC 6 mX9_greatestMaster 0 [vR 0, vI x1, vU] [] μ Q := by
  refine s_iload_n dX9_greatestMaster_0 rfl rfl ?_
  refine s_iconst dX9_greatestMaster_1 (by decide) ?_
  refine s_icmp_lt dX9_greatestMaster_2 (tgt := 12) (by decide) (fun cc => ?_) (fun cc => ?_)
  · have h := h.1 cc
    refine s_bipush dX9_greatestMaster_12 (by decide) ?_
    exact s_ireturn dX9_greatestMaster_14 (Or.inl rfl) ⟨⟨rfl, rfl⟩, _, rfl, h⟩
  · have h := h.2 cc
    refine s_iload_n dX9_greatestMaster_5 rfl rfl ?_
    refine s_sipush dX9_greatestMaster_6 (by decide) ?_
    refine s_icmp_le dX9_greatestMaster_9 (tgt := 15) (by decide) (fun cc => ?_) (fun cc => ?_)
    · have h := h.1 cc
      refine s_aload_n dX9_greatestMaster_15 rfl rfl ?_
      refine s_getR dX9_greatestMaster_16 flX9_34 kn0 kk0 rfl kr0_4 ?_
      obtain ⟨P, hcl, h⟩ := h
      refine s_callV (As := []) (rest := []) (k := 129) dX9_greatestMaster_19 lkX9_278 kn129 ⟨by rw [kk129]; rfl, by rw [kk129]; decide⟩ lmX7_refresh rfl rfl (Nat.le_of_ble_eq_true rfl) (by decide) (Nat.le_refl 0) (Nat.le_refl 0) (hC := hcl) (fun r n2 S2 m2 hP => ?_)
      obtain ⟨⟨rfl, rfl⟩, rfl, hq⟩ := hP
      have h := h m2 hq
      refine s_sipush dX9_greatestMaster_22 (by decide) ?_
      refine s_istore_n dX9_greatestMaster_25 rfl (by decide) (L' := [vR 0, vI x1, vI 400]) rfl ?_
      exact h
    · have h := h.2 cc
      refine s_bipush dX9_greatestMaster_12 (by decide) ?_
      exact s_ireturn dX9_greatestMaster_14 (Or.inl rfl) ⟨⟨rfl, rfl⟩, _, rfl, h⟩
theorem vc_X9_greatestMaster_26 {x1 x2 : Int} {μ : am_M} {Q : Int → am_M → Prop} (h : (x2 < 1 → Q (-6) μ) ∧ (1 ≤ x2 → ∃ P : am_M → Prop, cl_V kC 5 mX3_measure [vR 144, vI x2] μ P ∧ (∀ m2 : am_M, P m2 → (am_in (x1 * x1)) ∧ ((x1 * x1 < m2 144 9 → (am_in (x2 - 1)) ∧ (at_I kC 6 mX9_greatestMaster 26 [vR 0, vI x1, vI (x2 - 1)] [] m2 Q)) ∧ (m2 144 9 ≤ x1 * x1 → Q x2 m2))))) : at_I kC 6 mX9_greatestMaster 26 [vR 0, vI x1, vI x2] [] μ Q := by
  refine s_iload_n dX9_greatestMaster_26 rfl rfl ?_
  refine s_iconst dX9_greatestMaster_27 (by decide) ?_
  refine s_icmp_lt dX9_greatestMaster_28 (tgt := 60) (by decide) (fun cc => ?_) (fun cc => ?_)
  · have h := h.1 cc
    refine s_bipush dX9_greatestMaster_60 (by decide) ?_
    exact s_ireturn dX9_greatestMaster_62 (Or.inl rfl) ⟨⟨rfl, rfl⟩, _, rfl, h⟩
  · have h := h.2 cc
    refine s_aload_n dX9_greatestMaster_31 rfl rfl ?_
    refine s_getR dX9_greatestMaster_32 flX9_43 kn0 kk0 rfl kr0_5 ?_
    refine s_iload_n dX9_greatestMaster_35 rfl rfl ?_
    obtain ⟨P, hcl, h⟩ := h
    refine s_callV (As := [vI x2]) (rest := []) (k := 144) dX9_greatestMaster_36 lkX9_395 kn144 ⟨by rw [kk144]; rfl, by rw [kk144]; decide⟩ lmX3_measure rfl rfl (Nat.le_of_ble_eq_true rfl) (by decide) (Nat.le_refl 0) (Nat.le_refl 0) (hC := hcl) (fun r n2 S2 m2 hP => ?_)
    obtain ⟨⟨rfl, rfl⟩, rfl, hq⟩ := hP
    have h := h m2 hq
    refine s_aload_n dX9_greatestMaster_39 rfl rfl ?_
    refine s_getR dX9_greatestMaster_40 flX9_43 kn0 kk0 rfl kr0_5 ?_
    refine s_getI (x := (m2 144 9)) dX9_greatestMaster_43 flX9_269 kn144 kk144 rfl rfl ?_
    refine s_iload_n dX9_greatestMaster_46 rfl rfl ?_
    refine s_iload_n dX9_greatestMaster_47 rfl rfl ?_
    obtain ⟨c, h⟩ := h
    refine s_imul dX9_greatestMaster_48 (am_w_id c) ?_
    refine s_icmp_gt dX9_greatestMaster_49 (tgt := 54) (by decide) (fun cc => ?_) (fun cc => ?_)
    · have h := h.1 cc
      obtain ⟨c, h⟩ := h
      refine s_iinc dX9_greatestMaster_54 rfl (am_w_id c) (by decide) (L' := [vR 0, vI x1, vI (x2 - 1)]) rfl ?_
      refine s_goto dX9_greatestMaster_57 (tgt := 26) (by decide) ?_
      exact h
    · have h := h.2 cc
      refine s_iload_n dX9_greatestMaster_52 rfl rfl ?_
      exact s_ireturn dX9_greatestMaster_53 (Or.inl rfl) ⟨⟨rfl, rfl⟩, _, rfl, h⟩
theorem ve_X9_greatestMaster {x1 : Int} {μ : am_M} {Q : Int → am_M → Prop} (h : at_I kC 6 mX9_greatestMaster 0 [vR 0, vI x1, vU] [] μ Q) : cl_I kC 6 mX9_greatestMaster [vR 0, vI x1] μ Q := am_intro pmX9_greatestMaster (Nat.le_of_ble_eq_true rfl) rfl h
/-- the loudness with a master -/
noncomputable abbrev loC (μ : am_M) (ms : Int) : Int := lo_ (lvC μ ms) (winC μ) (gtC μ) (μ 2 3)
/-- the greatest of the masters up to one with which the loudness is at most t -/
noncomputable def gm_ (F : Int → Int) (t : Int) : Nat → Int
  | 0 => -6
  | k + 1 => if t < F (k + 1) then gm_ F t k else (k + 1 : Int)
theorem gm_b {F : Int → Int} {t : Int} : ∀ k : Nat, gm_ F t k = -6 ∨ (1 ≤ gm_ F t k ∧ gm_ F t k ≤ k)
  | 0 => Or.inl rfl
  | k + 1 => by
    unfold gm_
    split
    · rcases gm_b (F := F) (t := t) k with h | h
      · exact Or.inl h
      · exact Or.inr ⟨h.1, by omega⟩
    · exact Or.inr ⟨by omega, by omega⟩
noncomputable def gmC (μ : am_M) (t : Int) : Int := cif (t < 1 ∨ 999 < t) (-2) (gm_ (loC μ) (t * t) 400)
theorem sp_X9_greatestMaster {K : Int} {μ : am_M} {t : Int} (hI : CI K μ) : cl_I kC 6 mX9_greatestMaster [vR 0, vI t] μ (fun z m => z = gmC μ t ∧ cq_ μ m) := by
  refine ve_X9_greatestMaster (vc_X9_greatestMaster_0 ⟨fun q => ⟨(cif_t (by omega)).symm, cq_rf hI⟩, fun q1 => ⟨fun q2 => ?_, fun q => ⟨(cif_t (by omega)).symm, cq_rf hI⟩⟩⟩)
  rw [show gmC μ t = _ from cif_f (by omega)]
  refine ⟨_, sp_X7_refresh hI.v hI.sn, fun m2 ⟨h1, h2, h3⟩ => ?_⟩
  have tt := mulb (x := t) (y := t) (A := 999) (B := 999) (by omega) (by omega) (by omega) (by omega)
  have : ∀ (k : Nat) (x : Int) (m : am_M), x = k → k ≤ 400 → fr_ (rfL ++ [144, 145]) μ m → snd_ m → gm_ (loC μ) (t * t) 400 = gm_ (loC μ) (t * t) k → at_I kC 6 mX9_greatestMaster 26 [vR 0, vI t, vI x] [] m (fun z m => z = gm_ (loC μ) (t * t) 400 ∧ cq_ μ m) := by
    intro k
    induction k with
    | zero =>
      intro x m hx hk hf hs hg
      refine vc_X9_greatestMaster_26 ⟨fun _ => ⟨by rw [hg]; rfl, fr_up hf (by decide), fun _ => hs, ?_⟩, fun q => by omega⟩
      rw [hf 147 (by decide)]
      exact hI.z
    | succ k ih =>
      intro x m hx hk hf hs hg
      have k9 : ∀ k ∈ rfL ++ [144, 145], 9 < k := by decide
      have hV2 := vC_fr hf k9 hI.v
      have pc := pC_fr hf k9
      have e2 : m 2 = μ 2 := hf 2 (by decide)
      refine vc_X9_greatestMaster_26 ⟨fun q => by omega, fun q => ⟨_, sp_X3_measure hV2 hs.2.2.2 (by ((try unfold am_in); (try unfold in_ at *); omega)), fun m4 ⟨k1, k2⟩ => ?_⟩⟩
      have e9 := k2.2.2.2.2.1
      have e : m4 144 9 = loC μ (k + 1) := by
        rw [e9, hx]
        unfold loC lvC winC gtC
        rw [e2, pc.2.2.2, hf 5 (by decide), cg_c (hf 6 (by decide))]
        rfl
      have f4 : fr_ (rfL ++ [144, 145]) μ m4 := fr_tr hf (fr_up k1 (by decide))
      have s4 : snd_ m4 := snd_fr k1 (by decide) hV2.hS.1 hs
      rw [e]
      refine ⟨(by (try unfold am_in); (try unfold in_ at *); omega), fun c => ⟨(by (try unfold am_in); (try unfold in_ at *); omega), ih (x - 1) m4 (by omega) (by omega) f4 s4 ?_⟩, fun c => ⟨?_, fr_up f4 (by decide), fun _ => s4, ?_⟩⟩
      · rw [hg]
        show (if _ then _ else _) = _
        rw [if_pos c]
      · rw [hg, hx]
        show _ = (if _ then _ else _)
        rw [if_neg (by omega)]
        omega
      · rw [f4 147 (by decide)]
        exact hI.z
  exact this 400 400 m2 rfl (by omega) (fr_up h1 (fun k hk => List.mem_append_left _ hk)) h3 rfl
theorem vc_X9_noteChange_0 {μ : am_M} {Q : am_M → Prop} (h : ∀ m1 : am_M, m1 = am_st μ 129 (am_up (μ 129) 5 1) → ∃ P : am_M → Prop, cl_V kC 4 mX2_note [vR 28, vR 1] m1 P ∧ (∀ m3 : am_M, P m3 → Q m3)) : at_V kC 5 mX9_noteChange 0 [vR 0] [] μ Q := by
  refine s_aload_n dX9_noteChange_0 rfl rfl ?_
  refine s_getR dX9_noteChange_1 flX9_34 kn0 kk0 rfl kr0_4 ?_
  refine s_iconst dX9_noteChange_4 (by decide) ?_
  obtain ⟨m1, hm1⟩ : ∃ x : am_M, x = am_st μ 129 (am_up (μ 129) 5 1) := ⟨_, rfl⟩
  have h := h m1 hm1
  refine s_putI dX9_noteChange_5 flX9_304 kn129 kk129 rfl rfl (Or.inr (by decide)) hm1.symm ?_
  refine s_aload_n dX9_noteChange_8 rfl rfl ?_
  refine s_getR dX9_noteChange_9 flX9_25 kn0 kk0 rfl kr0_3 ?_
  refine s_aload_n dX9_noteChange_12 rfl rfl ?_
  refine s_getR dX9_noteChange_13 flX9_12 kn0 kk0 rfl kr0_0 ?_
  obtain ⟨P, hcl, h⟩ := h
  refine s_callV (As := [vR 1]) (rest := []) (k := 28) dX9_noteChange_16 lkX9_392 kn28 ⟨by rw [kk28]; rfl, by rw [kk28]; decide⟩ lmX2_note rfl rfl (Nat.le_of_ble_eq_true rfl) (by decide) (Nat.le_refl 0) (Nat.le_refl 0) (hC := hcl) (fun r n2 S2 m3 hP => ?_)
  obtain ⟨⟨rfl, rfl⟩, rfl, hq⟩ := hP
  have h := h m3 hq
  exact s_return dX9_noteChange_19 rfl ⟨⟨rfl, rfl⟩, rfl, h⟩
theorem ve_X9_noteChange {μ : am_M} {Q : am_M → Prop} (h : at_V kC 5 mX9_noteChange 0 [vR 0] [] μ Q) : cl_V kC 5 mX9_noteChange [vR 0] μ Q := am_intro pmX9_noteChange (Nat.le_of_ble_eq_true rfl) rfl h
/-- a project that is to be noted: all that may have changed since μ0 -/
theorem sp_X9_noteChange {K : Int} {ks : List Nat} {μ0 μ : am_M} {P : Pj} (hI : CI K μ0) (hK : K < 100000) (hks : ∀ k ∈ ks, k = 0 ∨ 150 < k) (hf : fr_ (ks ++ bsL) μ0 μ) (hp : pe_ P (pC μ 1)) (hV : vP P) (h0 : μ 147 0 = 0) (h7 : 0 ≤ μ 7 2) : cl_V kC 5 mX9_noteChange [vR 0] μ (fun m => ch_ ks μ0 m P ∧ ∀ k, k < 28 ∨ 129 < k → m k = μ k) := by
  refine ve_X9_noteChange (vc_X9_noteChange_0 (fun m1 e1 => ?_))
  obtain ⟨-, i1, i2, i3, -⟩ := hI
  have g1 : m1 7 2 = μ 7 2 := by rw [e1, st_n (by decide)]
  have n28 : 28 ∉ ks ++ bsL := fun q => by
    rcases List.mem_append.mp q with h | h
    · have := hks _ h; omega
    · revert h; decide
  have e28 : m1 28 = μ0 28 := by rw [e1, st_n (by decide), hf 28 n28]
  have f1 : fr_ (ks ++ bsL) μ0 m1 := by
    rw [e1]
    exact fr_tr hf (fr_st (List.mem_append_right _ (by decide)))
  have p1 : pe_ P (pC m1 1) := by
    rw [pe_of (ks := [129]) (μ := μ) (m := m1) (by rw [e1]; exact fr_st (by simp)) (by decide)]
    exact hp
  have s1 : m1 129 5 = 1 := by rw [e1, st_s, up_s]
  have z1 : m1 147 0 = 0 := by rw [e1, st_n (by decide)]; exact h0
  unfold in_ at i1 i3
  refine ⟨_, sp_X2_note (by rw [e28]; ((try unfold am_in); (try unfold in_ at *); omega)) (by rw [e28]; ((try unfold am_in); (try unfold in_ at *); omega)) (by rw [e28]; ((try unfold am_in); (try unfold in_ at *); omega)), fun m3 hm => ?_⟩
  rw [e28] at hm
  rcases hm with ⟨c, f3, a1, a2, a3, a4, a5⟩ | ⟨c, o, u, hou, ⟨f3, a1, a2, a3, a4, a5⟩, hq⟩
  · have e0 : pC m3 1 = pC m1 1 := pe_of f3 (by decide)
    refine ⟨⟨by rw [e0]; exact p1, by rw [f3 129 (by decide), s1]; decide, by rw [f3 147 (by decide), z1], by rw [f3 7 (by decide), g1]; exact h7, Or.inl ⟨c, ?_, a1, a2, a3, a4, a5⟩⟩, fun k hk => by rw [f3 k (by simp; omega), e1, st_n (by omega)]⟩
    refine fr_tr (fr_up f1 (fun k hk => ?_)) (fr_up f3 (by simp))
    rcases List.mem_append.mp hk with h | h
    · simp [h]
    · simp [h]
  · have far : ∀ k ∈ 28 :: pjC (rg_ o u), 28 ≤ k ∧ k ≤ 128 := fun k hk => by
      rcases List.mem_cons.mp hk with h | h
      · omega
      · unfold pjC rg_ at h
        simp at h
        omega
    have e0 : pC m3 1 = pC m1 1 := pe_of f3 (fun k hk => by have := far k hk; omega)
    have n3 : ∀ k, k < 28 ∨ 128 < k → m3 k = m1 k := fun k hk => f3 k (fun q => by have := far k q; omega)
    refine ⟨⟨by rw [e0]; exact p1, by rw [n3 129 (by omega), s1]; decide, by rw [n3 147 (by omega), z1], by rw [n3 7 (by omega), g1]; exact h7, Or.inr ⟨c, o, u, hou, ?_, a1, a2, a3, ?_, ?_, pe_tr p1 (pq_pe (pe_v hV p1) hq), by rw [hq.2.2.1, g1]; exact h7⟩⟩, fun k hk => by rw [n3 k (by omega), e1, st_n (by omega)]⟩
    · refine fr_tr (fr_up f1 (fun k hk => ?_)) (fr_up f3 (fun k hk => ?_))
      · rcases List.mem_append.mp hk with h | h
        · simp [h]
        · simp [h]
      · rcases List.mem_cons.mp hk with h | h
        · simp [h]
        · simp [h]
    · rw [a4, e28]
    · rw [a5, e28]
theorem vc_X9_done_0 {x1 : Int} {μ : am_M} {Q : Int → am_M → Prop} (h : (x1 < 0 → Q x1 μ) ∧ (0 ≤ x1 → ∃ P : am_M → Prop, cl_V kC 5 mX9_noteChange [vR 0] μ P ∧ (∀ m2 : am_M, P m2 → Q x1 m2))) : at_I kC 6 mX9_done 0 [vR 0, vI x1] [] μ Q := by
  refine s_iload_n dX9_done_0 rfl rfl ?_
  refine s_if_lt dX9_done_1 (tgt := 8) (by decide) (fun cc => ?_) (fun cc => ?_)
  · have h := h.1 cc
    refine s_iload_n dX9_done_8 rfl rfl ?_
    exact s_ireturn dX9_done_9 (Or.inl rfl) ⟨⟨rfl, rfl⟩, _, rfl, h⟩
  · have h := h.2 cc
    refine s_aload_n dX9_done_4 rfl rfl ?_
    obtain ⟨P, hcl, h⟩ := h
    refine s_callV (As := []) (rest := []) (k := 0) dX9_done_5 lkX9_120 kn0 ⟨by rw [kk0]; rfl, by rw [kk0]; decide⟩ lmX9_noteChange rfl rfl (Nat.le_of_ble_eq_true rfl) (by decide) (Nat.le_refl 0) (Nat.le_refl 0) (hC := hcl) (fun r n2 S2 m2 hP => ?_)
    obtain ⟨⟨rfl, rfl⟩, rfl, hq⟩ := hP
    have h := h m2 hq
    refine s_iload_n dX9_done_8 rfl rfl ?_
    exact s_ireturn dX9_done_9 (Or.inl rfl) ⟨⟨rfl, rfl⟩, _, rfl, h⟩
theorem ve_X9_done {x1 : Int} {μ : am_M} {Q : Int → am_M → Prop} (h : at_I kC 6 mX9_done 0 [vR 0, vI x1] [] μ Q) : cl_I kC 6 mX9_done [vR 0, vI x1] μ Q := am_intro pmX9_done (Nat.le_of_ble_eq_true rfl) rfl h
theorem un_of {K : Int} {ks : List Nat} {μ m : am_M} (hI : CI K μ) (hks : ∀ k ∈ ks, k = 0 ∨ 150 < k) (hf : fr_ (ks ++ pjC 1 ++ pjC 10) μ m) (hp : pe_ (pC μ 1) (pC m 1)) (h7 : 0 ≤ m 7 2) : un_ ks μ m := by
  have hk : ∀ k ∈ ks ++ pjC 1 ++ pjC 10, k < 131 ∨ 143 < k := fun k hk => by
    rcases List.mem_append.mp hk with h | h
    · rcases List.mem_append.mp h with h | h
      · have := hks _ h; omega
      · unfold pjC at h; simp at h; omega
    · unfold pjC at h; simp at h; omega
  have n : ∀ k, 129 ≤ k → k ≤ 150 → m k = μ k := fun k a b => hf k (fun q => by
    rcases List.mem_append.mp q with h | h
    · rcases List.mem_append.mp h with h | h
      · have := hks _ h; omega
      · unfold pjC at h; simp at h; omega
    · unfold pjC at h; simp at h; omega)
  refine ⟨fr_up hf (fun k hk => ?_), hp, fun h => snd_pe hI.v hf hk hp (hI.sn (by rw [← n 129 (by omega) (by omega)]; exact h)), by rw [n 147 (by omega) (by omega)]; exact hI.z, h7⟩
  unfold bsL
  rcases List.mem_append.mp hk with h | h
  · rcases List.mem_append.mp h with h | h
    · simp [h]
    · simp [h]
  · simp [h]
theorem sp_X9_done {K : Int} {ks : List Nat} {μ0 μ : am_M} {z : Int} {P : Pj} (hI : CI K μ0) (hK : K < 100000) (hks : ∀ k ∈ ks, k = 0 ∨ 150 < k) (hun : z < 0 → un_ ks μ0 μ) (hf : 0 ≤ z → fr_ (ks ++ bsL) μ0 μ) (hp : 0 ≤ z → pe_ P (pC μ 1)) (hV : 0 ≤ z → vP P) (h0 : 0 ≤ z → μ 147 0 = 0) (h7 : 0 ≤ z → 0 ≤ μ 7 2) : cl_I kC 6 mX9_done [vR 0, vI z] μ (fun w m => cm_ ks μ0 m w (z, P)) := by
  refine ve_X9_done (vc_X9_done_0 ⟨fun q => ⟨rfl, fun _ => hun q, fun q2 => by omega⟩, fun q => ⟨_, sp_X9_noteChange hI hK hks (hf q) (hp q) (hV q) (h0 q) (h7 q), fun m h => ⟨rfl, fun q2 => by omega, fun _ => h.1⟩⟩⟩)
theorem sp_X9_doneX {K : Int} {ks : List Nat} {μ0 μ : am_M} {z : Int} {P : Pj} (hI : CI K μ0) (hK : K < 100000) (hks : ∀ k ∈ ks, k = 0 ∨ 150 < k) (hun : z < 0 → un_ ks μ0 μ) (hf : 0 ≤ z → fr_ (ks ++ bsL) μ0 μ) (hp : 0 ≤ z → pe_ P (pC μ 1)) (hV : 0 ≤ z → vP P) (h0 : 0 ≤ z → μ 147 0 = 0) (h7 : 0 ≤ z → 0 ≤ μ 7 2) : cl_I kC 6 mX9_done [vR 0, vI z] μ (fun w m => cm_ ks μ0 m w (z, P) ∧ ∀ k, k < 28 ∨ 129 < k → m k = μ k) := by
  refine ve_X9_done (vc_X9_done_0 ⟨fun q => ⟨⟨rfl, fun _ => hun q, fun q2 => by omega⟩, fun _ _ => rfl⟩, fun q => ⟨_, sp_X9_noteChange hI hK hks (hf q) (hp q) (hV q) (h0 q) (h7 q), fun m h => ⟨⟨rfl, fun q2 => by omega, fun _ => h.1⟩, h.2⟩⟩⟩)

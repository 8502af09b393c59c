/-! the editor's questions: what is to be answered -/
noncomputable abbrev drP (P : Pj) : Int → Int → Int := dr_ (pE P 4) (pT P) (pS P) (pN P) (pG P)
abbrev dukP (P : Pj) : Int → Int → Prop := duk_ (pE P 4) (pT P) (pS P) (pN P) (pG P)
noncomputable abbrev weP (P : Pj) : Int → Int → Int := we_ (pE P 4) (pT P) (pS P) (pN P) (pG P)
noncomputable abbrev suP (P : Pj) (f : Int) : Int := su_ (pE P 4) (pT P) (pS P) (pN P) (pG P) f 4
noncomputable abbrev mixP (P : Pj) (f : Int) : Int := mi_ (suP P f) (pE P 0)
noncomputable abbrev laP (P : Pj) : Int := la_ (pG P) (pN P)
noncomputable abbrev winP (P : Pj) : Int := win_ (laP P) (pE P 1)
noncomputable abbrev lvP (P : Pj) (ms : Int) : Int → Int := lvl_ (suP P) ms (pE P 1)
abbrev gtP (P : Pj) : Int := pE P 2 * pE P 2
noncomputable abbrev loP (P : Pj) (ms : Int) : Int := lo_ (lvP P ms) (winP P) (gtP P) (pE P 3)
noncomputable abbrev onP (P : Pj) (t f : Int) : Int := ont_ (pN P) (pG P) t f
noncomputable def q_source (P : Pj) (s w : Int) : Int := cif (¬ (0 ≤ s ∧ s < pM P)) (-1) (cif (w < 0 ∨ 5 < w) (-2) (if w = 4 then cnt_ (fun i => decide (pG P i 2 = s)) (fun _ => 1) (pN P) else if w = 5 then mx_ (wav_ (pS P) s) (pS P s 1) else pS P s w))
noncomputable def q_svalue (P : Pj) (s f : Int) : Int := cif (¬ ((0 ≤ s ∧ s < pM P) ∧ 0 ≤ f ∧ f < pS P s 1)) (-1) (wav_ (pS P) s f)
def q_tn (P : Pj) (t w : Int) : Int := if w = 3 then (if pT P t 3 = -1 then -6 else pT P t 3) else pT P t w
noncomputable def q_track (P : Pj) (t w : Int) : Int := cif (¬ (0 ≤ t ∧ t < 4)) (-1) (cif (w < 0 ∨ 11 < w) (-2) (if w < 7 then q_tn P t w else if w = 7 then bI (aud_ (pT P) t) else if w = 8 then cnt_ (fun i => decide (pG P i 0 = t)) (fun _ => 1) (pN P) else if w = 9 then cnt_ (fun i => decide (pG P i 0 = t)) (fun i => pG P i 4) (pN P) else if w = 10 then sm_ (fun f => cif (dukP P t f) 1 0) (laP P) else mx_ (weP P t) 600))
noncomputable def q_clip (P : Pj) (c w : Int) : Int := cif (¬ (0 ≤ c ∧ c < pN P)) (-1) (cif (w < 0 ∨ 9 < w) (-2) (if w = 8 then mx_ (cv_ (pE P 4) (pS P) (pG P) c) (pG P c 4) else if w = 9 then sm_ (cv_ (pE P 4) (pS P) (pG P) c) (pG P c 4) else pG P c w))
noncomputable def q_room (P : Pj) (t f l : Int) : Int := cif (¬ (0 ≤ t ∧ t < 4)) (-1) (cif (f < 0 ∨ 600 ≤ f ∨ l < 1 ∨ 600 < l) (-2) (fst_ (fun s => f ≤ s ∧ fre_ (pG P) (pN P) t s l (-1)) (601 - l) (-6)))
noncomputable def q_clipAt (P : Pj) (t f : Int) : Int := cif (¬ ((0 ≤ t ∧ t < 4) ∧ 0 ≤ f ∧ f < 600)) (-1) (if onP P t f < 0 then -6 else onP P t f)
noncomputable def q_explain (P : Pj) (t f : Int) : Int := cif (¬ ((0 ≤ t ∧ t < 4) ∧ 0 ≤ f ∧ f < 600)) (-1) (if onP P t f < 0 then 1 else if pT P t 1 = 1 then 2 else cif (¬ aud_ (pT P) t) 3 (cif (dukP P t f) 4 (cif (fad_p (pG P) (onP P t f) f) 5 0)))
noncomputable def q_ofChapter (P : Pj) (c w : Int) : Int := cif (¬ (0 ≤ c ∧ c < (pH P).length)) (-1) (cif (w < 0 ∨ 3 < w) (-2) (if w = 0 then ((pH P).getD c.toNat (0, 0)).1 else if w = 1 then ((pH P).getD c.toNat (0, 0)).2 else if w = 2 then h_frm (pN P) (pG P) (pH P) c else mx_ (fun i => mixP P (((pH P).getD c.toNat (0, 0)).1 + i)) (h_frm (pN P) (pG P) (pH P) c)))
def q_chapterAt (P : Pj) (f : Int) : Int := if 0 ≤ f ∧ f < 600 then (if (bef_ (f + 1) (pH P)).length = 0 then -6 else ((bef_ (f + 1) (pH P)).length : Int) - 1) else -1
noncomputable def q_value (P : Pj) (t f w : Int) : Int := cif (¬ ((0 ≤ t ∧ t < 4) ∧ 0 ≤ f ∧ f < 600)) (-1) (if w = 0 then vt_ (pE P 4) (pS P) (pN P) (pG P) t f else if w = 1 then drP P t f else if w = 2 then weP P t f else if w = 3 then bI (dukP P t f) else -2)
noncomputable def q_mix (P : Pj) (f : Int) : Int := cif (0 ≤ f ∧ f < 600) (mixP P f) (-1)
noncomputable def q_peak (P : Pj) (w : Int) : Int := if w = 0 then laP P else if w = 1 then mx_ (mixP P) 600 else if w = 2 then fg_ (mixP P) 599 else if w = 3 then sm_ (fun f => if 999 < suP P f * pE P 0 / 100 then 1 else 0) 600 else if w = 4 then sm_ (mixP P) 600 else -2
noncomputable def q_level (P : Pj) (k : Int) : Int := cif (0 ≤ k ∧ k < winP P) (lvP P (pE P 0) k) (-1)
noncomputable def q_loudness (P : Pj) (w : Int) : Int := if w = 0 then winP P else if w = 1 then lq_ (lvP P (pE P 0)) (winP P) (gtP P) else if w = 2 then ll_ (lvP P (pE P 0)) (winP P) (gtP P) (pE P 3) else if w = 3 then lm_ (lvP P (pE P 0)) (winP P) (gtP P) else if w = 4 then loP P (pE P 0) else -2
noncomputable def q_master (P : Pj) (t : Int) : Int := cif (t < 1 ∨ 999 < t) (-2) (gm_ (loP P) (t * t) 400)
noncomputable def q_covered (P : Pj) (t : Int) : Int := cif (0 ≤ t ∧ t < 4) (sm_ (fun f => if onP P t f < 0 then 0 else 1) 600) (-1)
noncomputable def silP (P : Pj) (v n : Int) : Sl := sil_ (mixP P) v n (laP P)
noncomputable def q_silence (P : Pj) (v n i w : Int) : Int := cif (¬ ((1 ≤ v ∧ v ≤ 999) ∧ 1 ≤ n ∧ n ≤ 600)) (-2) (if i = -1 then (silP P v n).length else cif (¬ (0 ≤ i ∧ i < (silP P v n).length)) (-1) (if w = 0 then ((silP P v n).getD i.toNat (0, 0)).1 else if w = 1 then ((silP P v n).getD i.toNat (0, 0)).2 else -2))
theorem vc_X9_source_0 {x1 x2 : Int} {μ : am_M} {Q : Int → am_M → Prop} (h : (0 ≤ x1 ∧ x1 < μ 1 5 → (x2 < 0 → Q (-2) μ) ∧ (0 ≤ x2 → (x2 ≤ 5 → (x2 ≠ 4 → (x2 ≠ 5 → (in_ 0 6 x1) ∧ (in_ 0 4 x2) ∧ (Q (tg (μ 4) 4 x1 x2) μ)) ∧ (x2 = 5 → ∃ P : am_M → Prop, cl_R kC 6 mX9_heard [vR 0] μ (fun z m => 129 = z ∧ P m) ∧ (∀ m2 : am_M, P m2 → ∃ P : Int → am_M → Prop, cl_I kC 3 mX7_greatestOfSource [vR 129, vI x1] m2 P ∧ (∀ (z3 : Int) (m4 : am_M), P z3 m4 → Q z3 m4)))) ∧ (x2 = 4 → (ok_T (cg μ) (μ 5 1)) ∧ (∀ v5 : Int, v5 = cnt_ (fun i => decide (cg μ i 2 = x1)) (fun _ => 1) (μ 5 1) → Q v5 μ))) ∧ (5 < x2 → Q (-2) μ))) ∧ (¬ (0 ≤ x1 ∧ x1 < μ 1 5) → Q (-1) μ)) : at_I kC 7 mX9_source 0 [vR 0, vI x1, vI x2] [] μ Q := by
  refine s_aload_n dX9_source_0 rfl rfl ?_
  refine s_getR dX9_source_1 flX9_12 kn0 kk0 rfl kr0_0 ?_
  refine s_iload_n dX9_source_4 rfl rfl ?_
  refine s_callV (As := [vI x1]) (rest := []) (k := 1) dX9_source_5 lkX9_76 kn1 ⟨by rw [kk1]; rfl, by rw [kk1]; decide⟩ lmX4_hasSource rfl rfl (Nat.le_of_ble_eq_true rfl) (by decide) (Nat.le_refl 0) (Nat.le_refl 0) (hC := sp_X4_hasSource (Q := fun z m => bI (0 ≤ x1 ∧ x1 < μ 1 5) = z ∧ μ = m)  ⟨rfl, rfl⟩) (fun r n2 S2 m2 hP => ?_)
  obtain ⟨⟨rfl, rfl⟩, z, rfl, rfl, rfl⟩ := hP
  refine s_if_ne dX9_source_8 (tgt := 13) (by decide) (fun cc => ?_) (fun cc => ?_)
  · have h := h.1 (bI_ne cc)
    refine s_iload_n dX9_source_13 rfl rfl ?_
    refine s_if_lt dX9_source_14 (tgt := 22) (by decide) (fun cc => ?_) (fun cc => ?_)
    · have h := h.1 cc
      refine s_bipush dX9_source_22 (by decide) ?_
      exact s_ireturn dX9_source_24 (Or.inl rfl) ⟨⟨rfl, rfl⟩, _, rfl, h⟩
    · have h := h.2 cc
      refine s_iload_n dX9_source_17 rfl rfl ?_
      refine s_iconst dX9_source_18 (by decide) ?_
      refine s_icmp_le dX9_source_19 (tgt := 25) (by decide) (fun cc => ?_) (fun cc => ?_)
      · have h := h.1 cc
        refine s_iload_n dX9_source_25 rfl rfl ?_
        refine s_iconst dX9_source_26 (by decide) ?_
        refine s_icmp_ne dX9_source_27 (tgt := 42) (by decide) (fun cc => ?_) (fun cc => ?_)
        · have h := h.1 cc
          refine s_iload_n dX9_source_42 rfl rfl ?_
          refine s_iconst dX9_source_43 (by decide) ?_
          refine s_icmp_ne dX9_source_44 (tgt := 56) (by decide) (fun cc => ?_) (fun cc => ?_)
          · have h := h.1 cc
            refine s_aload_n dX9_source_56 rfl rfl ?_
            refine s_getR dX9_source_57 flX9_12 kn0 kk0 rfl kr0_0 ?_
            refine s_iload_n dX9_source_60 rfl rfl ?_
            refine s_iload_n dX9_source_61 rfl rfl ?_
            obtain ⟨p0, p1, h⟩ := h
            refine s_callV (As := [vI x1, vI x2]) (rest := []) (k := 1) dX9_source_62 lkX9_96 kn1 ⟨by rw [kk1]; rfl, by rw [kk1]; decide⟩ lmX4_sourceNumber rfl rfl (Nat.le_of_ble_eq_true rfl) (by decide) (Nat.le_refl 0) (Nat.le_refl 0) (hC := sp_X4_sourceNumber (Q := fun z m => tg (μ 4) 4 x1 x2 = z ∧ μ = m) p0 p1 ⟨rfl, rfl⟩) (fun r n2 S2 m2 hP => ?_)
            obtain ⟨⟨rfl, rfl⟩, z, rfl, rfl, rfl⟩ := hP
            exact s_ireturn dX9_source_65 (Or.inl rfl) ⟨⟨rfl, rfl⟩, _, rfl, h⟩
          · have h := h.2 cc
            refine s_aload_n dX9_source_47 rfl rfl ?_
            obtain ⟨P, hcl, h⟩ := h
            refine s_callV (As := []) (rest := []) (k := 0) dX9_source_48 lkX9_89 kn0 ⟨by rw [kk0]; rfl, by rw [kk0]; decide⟩ lmX9_heard rfl rfl (Nat.le_of_ble_eq_true rfl) (by decide) (Nat.le_refl 0) (Nat.le_refl 0) (hC := hcl) (fun r n2 S2 m2 hP => ?_)
            obtain ⟨⟨rfl, rfl⟩, z1, rfl, rfl, hq⟩ := hP
            have h := h m2 hq
            refine s_iload_n dX9_source_51 rfl rfl ?_
            obtain ⟨P, hcl, h⟩ := h
            refine s_callV (As := [vI x1]) (rest := []) (k := 129) dX9_source_52 lkX9_93 kn129 ⟨by rw [kk129]; rfl, by rw [kk129]; decide⟩ lmX7_greatestOfSource rfl rfl (Nat.le_of_ble_eq_true rfl) (by decide) (Nat.le_refl 0) (Nat.le_refl 0) (hC := hcl) (fun r n2 S2 m4 hP => ?_)
            obtain ⟨⟨rfl, rfl⟩, z3, rfl, hq⟩ := hP
            have h := h z3 m4 hq
            exact s_ireturn dX9_source_55 (Or.inl rfl) ⟨⟨rfl, rfl⟩, _, rfl, h⟩
        · have h := h.2 cc
          refine s_aload_n dX9_source_30 rfl rfl ?_
          refine s_getR dX9_source_31 flX9_12 kn0 kk0 rfl kr0_0 ?_
          refine s_getR dX9_source_34 flX9_80 kn1 kk1 rfl kr1_3 ?_
          refine s_iload_n dX9_source_37 rfl rfl ?_
          obtain ⟨p0, h⟩ := h
          refine s_callV (As := [vI x1]) (rest := []) (k := 5) dX9_source_38 lkX9_84 kn5 ⟨by rw [kk5]; rfl, by rw [kk5]; decide⟩ lmX1_usersOf rfl rfl (Nat.le_of_ble_eq_true rfl) (by decide) (Nat.le_refl 0) (Nat.le_refl 0) (hC := sp_X1_usersOf (Q := fun z m => z = cnt_ (fun i => decide (cg μ i 2 = x1)) (fun _ => 1) (μ 5 1) ∧ μ = m) p0 ⟨rfl, rfl⟩) (fun r n2 S2 m2 hP => ?_)
          obtain ⟨⟨rfl, rfl⟩, v5, rfl, hz, rfl⟩ := hP
          have h := h v5 hz
          exact s_ireturn dX9_source_41 (Or.inl rfl) ⟨⟨rfl, rfl⟩, _, rfl, h⟩
      · have h := h.2 cc
        refine s_bipush dX9_source_22 (by decide) ?_
        exact s_ireturn dX9_source_24 (Or.inl rfl) ⟨⟨rfl, rfl⟩, _, rfl, h⟩
  · have h := h.2 (bI_eq cc)
    refine s_iconst dX9_source_11 (by decide) ?_
    exact s_ireturn dX9_source_12 (Or.inl rfl) ⟨⟨rfl, rfl⟩, _, rfl, h⟩
theorem ve_X9_source {x1 x2 : Int} {μ : am_M} {Q : Int → am_M → Prop} (h : at_I kC 7 mX9_source 0 [vR 0, vI x1, vI x2] [] μ Q) : cl_I kC 7 mX9_source [vR 0, vI x1, vI x2] μ Q := am_intro pmX9_source (Nat.le_of_ble_eq_true rfl) rfl h
theorem cq_g {μ m : am_M} (h : cq_ μ m) {k : Nat} (hk : k ∉ chL) : m k = μ k := h.1 k hk
theorem vC_G {ks : List Nat} {μ m : am_M} (h : fr_ ks μ m) (hk : ∀ k ∈ ks, 9 < k) : pC m 1 = pC μ 1 := pe_of h (fun k q => by have := hk k q; omega)
theorem sp_X9_source {K : Int} {μ : am_M} {s w : Int} (hI : CI K μ) : cl_I kC 7 mX9_source [vR 0, vI s, vI w] μ (fun z m => z = q_source (pC μ 1) s w ∧ cq_ μ m) := by
  have hM : in_ 0 7 (μ 1 5) := hI.v.hS.1
  refine ve_X9_source (vc_X9_source_0 ⟨fun c => ?_, fun c => ⟨(cif_t c).symm, cq_rf hI⟩⟩)
  have e1 : q_source (pC μ 1) s w = _ := cif_f (fun h => h c)
  refine ⟨fun q => ⟨(e1.trans (cif_t (by omega))).symm, cq_rf hI⟩, fun q0 => ⟨fun q1 => ?_, fun q => ⟨(e1.trans (cif_t (by omega))).symm, cq_rf hI⟩⟩⟩
  have e2 := e1.trans (cif_f (by omega))
  refine ⟨fun n4 => ⟨fun n5 => ⟨(by (try unfold am_in); (try unfold in_ at *); omega), (by (try unfold am_in); (try unfold in_ at *); omega), ?_, cq_rf hI⟩, fun n5 => ⟨_, sp_X9_heard hI, fun m2 ⟨k1, k2, k3, k4, k5⟩ => ⟨_, sp_X7_greatestOfSource (Q := fun z m => z = mx_ (wav_ (tg (m2 4) 4) s) (tg (m2 4) 4 s 1) ∧ m = m2) k4 k3.1 (by rw [k5 1 (by decide)]; exact c) ⟨rfl, rfl⟩, ?_⟩⟩⟩, fun n4 => ⟨hI.v.okT, fun v5 e5 => ⟨?_, cq_rf hI⟩⟩⟩
  · rw [e2, if_neg n4, if_neg n5]; rfl
  · rintro z3 m4 ⟨h1, rfl⟩
    refine ⟨?_, k1⟩
    rw [e2, if_neg n4, if_pos n5, h1, k5 4 (by decide)]
    rfl
  · rw [e2, if_pos n4, e5]; rfl
theorem vc_X9_sourceValue_0 {x1 x2 : Int} {μ : am_M} {Q : Int → am_M → Prop} (h : (¬ (0 ≤ x1 ∧ x1 < μ 1 5) → Q (-1) μ) ∧ (0 ≤ x1 ∧ x1 < μ 1 5 → (x2 < 0 → Q (-1) μ) ∧ (0 ≤ x2 → (in_ 0 6 x1) ∧ (in_ 0 4 1) ∧ ((x2 < tg (μ 4) 4 x1 1 → ∃ P : am_M → Prop, cl_R kC 6 mX9_heard [vR 0] μ (fun z m => 129 = z ∧ P m) ∧ (∀ m2 : am_M, P m2 → (in_ 0 6 x1) ∧ (in_ 0 200 x2) ∧ (∀ v3 : Int, v3 = m2 (131 + (x1).toNat) (x2).toNat → Q v3 m2))) ∧ (tg (μ 4) 4 x1 1 ≤ x2 → Q (-1) μ))))) : at_I kC 7 mX9_sourceValue 0 [vR 0, vI x1, vI x2] [] μ Q := by
  refine s_aload_n dX9_sourceValue_0 rfl rfl ?_
  refine s_getR dX9_sourceValue_1 flX9_12 kn0 kk0 rfl kr0_0 ?_
  refine s_iload_n dX9_sourceValue_4 rfl rfl ?_
  refine s_callV (As := [vI x1]) (rest := []) (k := 1) dX9_sourceValue_5 lkX9_76 kn1 ⟨by rw [kk1]; rfl, by rw [kk1]; decide⟩ lmX4_hasSource rfl rfl (Nat.le_of_ble_eq_true rfl) (by decide) (Nat.le_refl 0) (Nat.le_refl 0) (hC := sp_X4_hasSource (Q := fun z m => bI (0 ≤ x1 ∧ x1 < μ 1 5) = z ∧ μ = m)  ⟨rfl, rfl⟩) (fun r n2 S2 m2 hP => ?_)
  obtain ⟨⟨rfl, rfl⟩, z, rfl, rfl, rfl⟩ := hP
  refine s_if_eq dX9_sourceValue_8 (tgt := 28) (by decide) (fun cc => ?_) (fun cc => ?_)
  · have h := h.1 (bI_eq cc)
    refine s_iconst dX9_sourceValue_28 (by decide) ?_
    exact s_ireturn dX9_sourceValue_29 (Or.inl rfl) ⟨⟨rfl, rfl⟩, _, rfl, h⟩
  · have h := h.2 (bI_ne cc)
    refine s_iload_n dX9_sourceValue_11 rfl rfl ?_
    refine s_if_lt dX9_sourceValue_12 (tgt := 28) (by decide) (fun cc => ?_) (fun cc => ?_)
    · have h := h.1 cc
      refine s_iconst dX9_sourceValue_28 (by decide) ?_
      exact s_ireturn dX9_sourceValue_29 (Or.inl rfl) ⟨⟨rfl, rfl⟩, _, rfl, h⟩
    · have h := h.2 cc
      refine s_iload_n dX9_sourceValue_15 rfl rfl ?_
      refine s_aload_n dX9_sourceValue_16 rfl rfl ?_
      refine s_getR dX9_sourceValue_17 flX9_12 kn0 kk0 rfl kr0_0 ?_
      refine s_iload_n dX9_sourceValue_20 rfl rfl ?_
      refine s_iconst dX9_sourceValue_21 (by decide) ?_
      obtain ⟨p0, p1, h⟩ := h
      refine s_callV (As := [vI x1, vI 1]) (rest := [vI x2]) (k := 1) dX9_sourceValue_22 lkX9_96 kn1 ⟨by rw [kk1]; rfl, by rw [kk1]; decide⟩ lmX4_sourceNumber rfl rfl (Nat.le_of_ble_eq_true rfl) (by decide) (Nat.le_refl 0) (Nat.le_refl 0) (hC := sp_X4_sourceNumber (Q := fun z m => tg (μ 4) 4 x1 1 = z ∧ μ = m) p0 p1 ⟨rfl, rfl⟩) (fun r n2 S2 m2 hP => ?_)
      obtain ⟨⟨rfl, rfl⟩, z, rfl, rfl, rfl⟩ := hP
      refine s_icmp_lt dX9_sourceValue_25 (tgt := 30) (by decide) (fun cc => ?_) (fun cc => ?_)
      · have h := h.1 cc
        refine s_aload_n dX9_sourceValue_30 rfl rfl ?_
        obtain ⟨P, hcl, h⟩ := h
        refine s_callV (As := []) (rest := []) (k := 0) dX9_sourceValue_31 lkX9_89 kn0 ⟨by rw [kk0]; rfl, by rw [kk0]; decide⟩ lmX9_heard rfl rfl (Nat.le_of_ble_eq_true rfl) (by decide) (Nat.le_refl 0) (Nat.le_refl 0) (hC := hcl) (fun r n2 S2 m2 hP => ?_)
        obtain ⟨⟨rfl, rfl⟩, z1, rfl, rfl, hq⟩ := hP
        have h := h m2 hq
        refine s_iload_n dX9_sourceValue_34 rfl rfl ?_
        refine s_iload_n dX9_sourceValue_35 rfl rfl ?_
        obtain ⟨p0, p1, h⟩ := h
        refine s_callV (As := [vI x1, vI x2]) (rest := []) (k := 129) dX9_sourceValue_36 lkX9_100 kn129 ⟨by rw [kk129]; rfl, by rw [kk129]; decide⟩ lmX7_sourceAt rfl rfl (Nat.le_of_ble_eq_true rfl) (by decide) (Nat.le_refl 0) (Nat.le_refl 0) (hC := sp_X7_sourceAt (Q := fun z m => z = m2 (131 + (x1).toNat) (x2).toNat ∧ m2 = m) p0 p1 ⟨rfl, rfl⟩) (fun r n2 S2 m2 hP => ?_)
        obtain ⟨⟨rfl, rfl⟩, v3, rfl, hz, rfl⟩ := hP
        have h := h v3 hz
        exact s_ireturn dX9_sourceValue_39 (Or.inl rfl) ⟨⟨rfl, rfl⟩, _, rfl, h⟩
      · have h := h.2 cc
        refine s_iconst dX9_sourceValue_28 (by decide) ?_
        exact s_ireturn dX9_sourceValue_29 (Or.inl rfl) ⟨⟨rfl, rfl⟩, _, rfl, h⟩
theorem ve_X9_sourceValue {x1 x2 : Int} {μ : am_M} {Q : Int → am_M → Prop} (h : at_I kC 7 mX9_sourceValue 0 [vR 0, vI x1, vI x2] [] μ Q) : cl_I kC 7 mX9_sourceValue [vR 0, vI x1, vI x2] μ Q := am_intro pmX9_sourceValue (Nat.le_of_ble_eq_true rfl) rfl h
theorem sp_X9_sourceValue {K : Int} {μ : am_M} {s f : Int} (hI : CI K μ) : cl_I kC 7 mX9_sourceValue [vR 0, vI s, vI f] μ (fun z m => z = q_svalue (pC μ 1) s f ∧ cq_ μ m) := by
  have hM : in_ 0 7 (μ 1 5) := hI.v.hS.1
  refine ve_X9_sourceValue (vc_X9_sourceValue_0 ⟨fun c => ⟨(cif_t (fun h => c h.1)).symm, cq_rf hI⟩, fun c => ?_⟩)
  have b := (hI.v.hS.2 s c.1 c.2).2.1
  refine ⟨fun q => ⟨(cif_t (by omega)).symm, cq_rf hI⟩, fun q0 => ⟨(by (try unfold am_in); (try unfold in_ at *); omega), (by (try unfold am_in); (try unfold in_ at *); omega), fun q1 => ⟨_, sp_X9_heard hI, fun m2 ⟨k1, k2, k3, k4, k5⟩ => ⟨(by (try unfold am_in); (try unfold in_ at *); omega), (by (try unfold am_in); (try unfold in_ at *); omega), fun v3 e3 => ⟨?_, k1⟩⟩⟩, fun q => ⟨(cif_t (fun h => by have : f < tg (μ 4) 4 s 1 := h.2.2; omega)).symm, cq_rf hI⟩⟩⟩
  rw [e3, k3.1 s c.1 (by rw [k5 1 (by decide)]; exact c.2) f q0 (by rw [k5 4 (by decide)]; exact q1), k5 4 (by decide)]
  exact (cif_f (fun h => h ⟨c, q0, q1⟩)).symm
theorem vc_X9_trackAnswer_0 {x1 x2 : Int} {μ : am_M} {Q : Int → am_M → Prop} (h : (in_ 0 4 x1) ∧ (in_ 0 7 x2) ∧ (∀ v1 : Int, v1 = (if x2 = 3 then (if tg (μ 3) 7 x1 x2 = (-1) then (-6) else tg (μ 3) 7 x1 x2) else tg (μ 3) 7 x1 x2) → Q v1 μ)) : at_I kC 2 mX9_trackAnswer 0 [vR 0, vI x1, vI x2, vU] [] μ Q := by
  refine s_aload_n dX9_trackAnswer_0 rfl rfl ?_
  refine s_getR dX9_trackAnswer_1 flX9_12 kn0 kk0 rfl kr0_0 ?_
  refine s_iload_n dX9_trackAnswer_4 rfl rfl ?_
  refine s_iload_n dX9_trackAnswer_5 rfl rfl ?_
  obtain ⟨p0, p1, h⟩ := h
  refine s_callV (As := [vI x1, vI x2]) (rest := []) (k := 1) dX9_trackAnswer_6 lkX9_138 kn1 ⟨by rw [kk1]; rfl, by rw [kk1]; decide⟩ lmX4_trackNumber rfl rfl (Nat.le_of_ble_eq_true rfl) (by decide) (Nat.le_refl 0) (Nat.le_refl 0) (hC := sp_X4_trackNumber (Q := fun z m => tg (μ 3) 7 x1 x2 = z ∧ μ = m) p0 p1 ⟨rfl, rfl⟩) (fun r n2 S2 m2 hP => ?_)
  obtain ⟨⟨rfl, rfl⟩, z, rfl, rfl, rfl⟩ := hP
  refine s_istore_n dX9_trackAnswer_9 rfl (by decide) (L' := [vR 0, vI x1, vI x2, vI (tg (μ 3) 7 x1 x2)]) rfl ?_
  refine s_iload_n dX9_trackAnswer_10 rfl rfl ?_
  refine s_iconst dX9_trackAnswer_11 (by decide) ?_
  have kj2 : ∀ (v1 : Int), (Q v1 μ) → at_I kC 2 mX9_trackAnswer 26 [vU, vU, vU, vU] [vI v1] μ Q := by
    intro v1 h
    exact s_ireturn dX9_trackAnswer_26 (Or.inl rfl) ⟨⟨rfl, rfl⟩, _, rfl, h⟩
  refine s_icmp_ne dX9_trackAnswer_12 (tgt := 25) (by decide) (fun cc => ?_) (fun cc => ?_)
  · have hp0 := cc
    refine s_iload_n dX9_trackAnswer_25 rfl rfl ?_
    exact am_lesS (kj2 (tg (μ 3) 7 x1 x2) (h (tg (μ 3) 7 x1 x2) (by rw [if_neg hp0]))) ⟨Or.inl rfl, Or.inl rfl, Or.inl rfl, Or.inl rfl, trivial⟩
  · have hp0 := cc
    refine s_iload_n dX9_trackAnswer_15 rfl rfl ?_
    refine s_iconst dX9_trackAnswer_16 (by decide) ?_
    refine s_icmp_ne dX9_trackAnswer_17 (tgt := 25) (by decide) (fun cc => ?_) (fun cc => ?_)
    · have hp1 := cc
      refine s_iload_n dX9_trackAnswer_25 rfl rfl ?_
      exact am_lesS (kj2 (tg (μ 3) 7 x1 x2) (h (tg (μ 3) 7 x1 x2) (by rw [if_pos hp0, if_neg hp1]))) ⟨Or.inl rfl, Or.inl rfl, Or.inl rfl, Or.inl rfl, trivial⟩
    · have hp1 := cc
      refine s_bipush dX9_trackAnswer_20 (by decide) ?_
      refine s_goto dX9_trackAnswer_22 (tgt := 26) (by decide) ?_
      exact am_lesS (kj2 (-6) (h (-6) (by rw [if_pos hp0, if_pos hp1]))) ⟨Or.inl rfl, Or.inl rfl, Or.inl rfl, Or.inl rfl, trivial⟩
theorem ve_X9_trackAnswer {x1 x2 : Int} {μ : am_M} {Q : Int → am_M → Prop} (h : at_I kC 2 mX9_trackAnswer 0 [vR 0, vI x1, vI x2, vU] [] μ Q) : cl_I kC 2 mX9_trackAnswer [vR 0, vI x1, vI x2] μ Q := am_intro pmX9_trackAnswer (Nat.le_of_ble_eq_true rfl) rfl h
theorem sp_X9_trackAnswer {μ : am_M} {t w : Int} {Q : Int → am_M → Prop} (ht : in_ 0 4 t) (hw : in_ 0 7 w) (hQ : Q (q_tn (pC μ 1) t w) μ) : cl_I kC 2 mX9_trackAnswer [vR 0, vI t, vI w] μ Q := by
  refine ve_X9_trackAnswer (vc_X9_trackAnswer_0 ⟨ht, hw, fun v e => ?_⟩)
  have : v = q_tn (pC μ 1) t w := by
    rw [e]
    unfold q_tn
    by_cases c : w = 3
    · rw [if_pos c, if_pos c, c]; rfl
    · rw [if_neg c, if_neg c]; rfl
  rw [this]
  exact hQ
theorem vc_X9_track_0 {x1 x2 : Int} {μ : am_M} {Q : Int → am_M → Prop} (h : (0 ≤ x1 ∧ x1 < 4 → (x2 < 0 → Q (-2) μ) ∧ (0 ≤ x2 → (x2 ≤ 11 → (7 ≤ x2 → (x2 = 7 → (in_ 0 4 x1) ∧ (∀ v1 : Int, v1 = (cif (aud_ (tg (μ 3) 7) x1) 1 0) → Q v1 μ)) ∧ (x2 = 8 → (ok_T (cg μ) (μ 5 1)) ∧ (∀ v3 : Int, v3 = cnt_ (fun i => decide (cg μ i 0 = x1)) (fun _ => 1) (μ 5 1) → Q v3 μ)) ∧ (x2 = 9 → (ok_T (cg μ) (μ 5 1)) ∧ (∀ v4 : Int, v4 = cnt_ (fun i => decide (cg μ i 0 = x1)) (fun i => cg μ i 4) (μ 5 1) → Q v4 μ)) ∧ (x2 = 10 → ∃ P : am_M → Prop, cl_R kC 6 mX9_heard [vR 0] μ (fun z m => 129 = z ∧ P m) ∧ (∀ m6 : am_M, P m6 → ∃ P : Int → am_M → Prop, cl_I kC 4 mX7_duckedFrames [vR 129, vI x1] m6 P ∧ (∀ (z7 : Int) (m8 : am_M), P z7 m8 → Q z7 m8))) ∧ (x2 ≠ 7 → x2 ≠ 8 → x2 ≠ 9 → x2 ≠ 10 → ∃ P : am_M → Prop, cl_R kC 6 mX9_heard [vR 0] μ (fun z m => 129 = z ∧ P m) ∧ (∀ m10 : am_M, P m10 → ∃ P : Int → am_M → Prop, cl_I kC 3 mX7_greatestOfTrack [vR 129, vI x1] m10 P ∧ (∀ (z11 : Int) (m12 : am_M), P z11 m12 → Q z11 m12)))) ∧ (x2 < 7 → ∃ P : Int → am_M → Prop, cl_I kC 2 mX9_trackAnswer [vR 0, vI x1, vI x2] μ P ∧ (∀ (z13 : Int) (m14 : am_M), P z13 m14 → Q z13 m14))) ∧ (11 < x2 → Q (-2) μ))) ∧ (¬ (0 ≤ x1 ∧ x1 < 4) → Q (-1) μ)) : at_I kC 7 mX9_track 0 [vR 0, vI x1, vI x2] [] μ Q := by
  refine s_iload_n dX9_track_0 rfl rfl ?_
  refine s_callS (As := [vI x1]) (rest := []) dX9_track_1 lkX9_106 lmX9_isTrack rfl rfl (Nat.le_of_ble_eq_true rfl) (by decide) (Nat.le_refl 0) (Nat.le_refl 0) (hC := sp_X9_isTrack (Q := fun z m => bI (0 ≤ x1 ∧ x1 < 4) = z ∧ μ = m)  ⟨rfl, rfl⟩) (fun r n2 S2 m2 hP => ?_)
  obtain ⟨⟨rfl, rfl⟩, z, rfl, rfl, rfl⟩ := hP
  refine s_if_ne dX9_track_4 (tgt := 9) (by decide) (fun cc => ?_) (fun cc => ?_)
  · have h := h.1 (bI_ne cc)
    refine s_iload_n dX9_track_9 rfl rfl ?_
    refine s_if_lt dX9_track_10 (tgt := 19) (by decide) (fun cc => ?_) (fun cc => ?_)
    · have h := h.1 cc
      refine s_bipush dX9_track_19 (by decide) ?_
      exact s_ireturn dX9_track_21 (Or.inl rfl) ⟨⟨rfl, rfl⟩, _, rfl, h⟩
    · have h := h.2 cc
      refine s_iload_n dX9_track_13 rfl rfl ?_
      refine s_bipush dX9_track_14 (by decide) ?_
      refine s_icmp_le dX9_track_16 (tgt := 22) (by decide) (fun cc => ?_) (fun cc => ?_)
      · have h := h.1 cc
        refine s_iload_n dX9_track_22 rfl rfl ?_
        refine s_bipush dX9_track_23 (by decide) ?_
        refine s_icmp_ge dX9_track_25 (tgt := 35) (by decide) (fun cc => ?_) (fun cc => ?_)
        · have h := h.1 cc
          refine s_iload_n dX9_track_35 rfl rfl ?_
          by_cases cc : x2 = 7
          · have h := h.1 cc
            refine s_table_in dX9_track_36 (by omega) (by omega) (by rw [cc] <;> rfl) (tgt := 68) (by decide) ?_
            refine s_aload_n dX9_track_68 rfl rfl ?_
            refine s_getR dX9_track_69 flX9_12 kn0 kk0 rfl kr0_0 ?_
            refine s_iload_n dX9_track_72 rfl rfl ?_
            obtain ⟨p0, h⟩ := h
            refine s_callV (As := [vI x1]) (rest := []) (k := 1) dX9_track_73 lkX9_123 kn1 ⟨by rw [kk1]; rfl, by rw [kk1]; decide⟩ lmX4_isAudible rfl rfl (Nat.le_of_ble_eq_true rfl) (by decide) (Nat.le_refl 0) (Nat.le_refl 0) (hC := sp_X4_isAudible (Q := fun z m => bI (aud_ (tg (μ 3) 7) x1) = z ∧ μ = m) p0 ⟨rfl, rfl⟩) (fun r n2 S2 m2 hP => ?_)
            obtain ⟨⟨rfl, rfl⟩, z, rfl, rfl, rfl⟩ := hP
            have kj2 : ∀ (v1 : Int), (Q v1 μ) → at_I kC 7 mX9_track 84 [vU, vU, vU] [vI v1] μ Q := by
              intro v1 h
              exact s_ireturn dX9_track_84 (Or.inl rfl) ⟨⟨rfl, rfl⟩, _, rfl, h⟩
            refine s_if_eq dX9_track_76 (tgt := 83) (by decide) (fun cc => ?_) (fun cc => ?_)
            · have hp0 := (bI_eq cc)
              refine s_iconst dX9_track_83 (by decide) ?_
              exact am_lesS (kj2 0 (h 0 (by rw [cif_f hp0]))) ⟨Or.inl rfl, Or.inl rfl, Or.inl rfl, trivial⟩
            · have hp0 := (bI_ne cc)
              refine s_iconst dX9_track_79 (by decide) ?_
              refine s_goto dX9_track_80 (tgt := 84) (by decide) ?_
              exact am_lesS (kj2 1 (h 1 (by rw [cif_t hp0]))) ⟨Or.inl rfl, Or.inl rfl, Or.inl rfl, trivial⟩
          have n0 := cc
          have h := h.2
          by_cases cc : x2 = 8
          · have h := h.1 cc
            refine s_table_in dX9_track_36 (by omega) (by omega) (by rw [cc] <;> rfl) (tgt := 85) (by decide) ?_
            refine s_aload_n dX9_track_85 rfl rfl ?_
            refine s_getR dX9_track_86 flX9_12 kn0 kk0 rfl kr0_0 ?_
            refine s_getR dX9_track_89 flX9_80 kn1 kk1 rfl kr1_3 ?_
            refine s_iload_n dX9_track_92 rfl rfl ?_
            obtain ⟨p0, h⟩ := h
            refine s_callV (As := [vI x1]) (rest := []) (k := 5) dX9_track_93 lkX9_126 kn5 ⟨by rw [kk5]; rfl, by rw [kk5]; decide⟩ lmX1_clipsOn rfl rfl (Nat.le_of_ble_eq_true rfl) (by decide) (Nat.le_refl 0) (Nat.le_refl 0) (hC := sp_X1_clipsOn (Q := fun z m => z = cnt_ (fun i => decide (cg μ i 0 = x1)) (fun _ => 1) (μ 5 1) ∧ μ = m) p0 ⟨rfl, rfl⟩) (fun r n2 S2 m2 hP => ?_)
            obtain ⟨⟨rfl, rfl⟩, v3, rfl, hz, rfl⟩ := hP
            have h := h v3 hz
            exact s_ireturn dX9_track_96 (Or.inl rfl) ⟨⟨rfl, rfl⟩, _, rfl, h⟩
          have n1 := cc
          have h := h.2
          by_cases cc : x2 = 9
          · have h := h.1 cc
            refine s_table_in dX9_track_36 (by omega) (by omega) (by rw [cc] <;> rfl) (tgt := 97) (by decide) ?_
            refine s_aload_n dX9_track_97 rfl rfl ?_
            refine s_getR dX9_track_98 flX9_12 kn0 kk0 rfl kr0_0 ?_
            refine s_getR dX9_track_101 flX9_80 kn1 kk1 rfl kr1_3 ?_
            refine s_iload_n dX9_track_104 rfl rfl ?_
            obtain ⟨p0, h⟩ := h
            refine s_callV (As := [vI x1]) (rest := []) (k := 5) dX9_track_105 lkX9_129 kn5 ⟨by rw [kk5]; rfl, by rw [kk5]; decide⟩ lmX1_framesOn rfl rfl (Nat.le_of_ble_eq_true rfl) (by decide) (Nat.le_refl 0) (Nat.le_refl 0) (hC := sp_X1_framesOn (Q := fun z m => z = cnt_ (fun i => decide (cg μ i 0 = x1)) (fun i => cg μ i 4) (μ 5 1) ∧ μ = m) p0 ⟨rfl, rfl⟩) (fun r n2 S2 m2 hP => ?_)
            obtain ⟨⟨rfl, rfl⟩, v4, rfl, hz, rfl⟩ := hP
            have h := h v4 hz
            exact s_ireturn dX9_track_108 (Or.inl rfl) ⟨⟨rfl, rfl⟩, _, rfl, h⟩
          have n2 := cc
          have h := h.2
          by_cases cc : x2 = 10
          · have h := h.1 cc
            refine s_table_in dX9_track_36 (by omega) (by omega) (by rw [cc] <;> rfl) (tgt := 109) (by decide) ?_
            refine s_aload_n dX9_track_109 rfl rfl ?_
            obtain ⟨P, hcl, h⟩ := h
            refine s_callV (As := []) (rest := []) (k := 0) dX9_track_110 lkX9_89 kn0 ⟨by rw [kk0]; rfl, by rw [kk0]; decide⟩ lmX9_heard rfl rfl (Nat.le_of_ble_eq_true rfl) (by decide) (Nat.le_refl 0) (Nat.le_refl 0) (hC := hcl) (fun r n2 S2 m6 hP => ?_)
            obtain ⟨⟨rfl, rfl⟩, z5, rfl, rfl, hq⟩ := hP
            have h := h m6 hq
            refine s_iload_n dX9_track_113 rfl rfl ?_
            obtain ⟨P, hcl, h⟩ := h
            refine s_callV (As := [vI x1]) (rest := []) (k := 129) dX9_track_114 lkX9_132 kn129 ⟨by rw [kk129]; rfl, by rw [kk129]; decide⟩ lmX7_duckedFrames rfl rfl (Nat.le_of_ble_eq_true rfl) (by decide) (Nat.le_refl 0) (Nat.le_refl 0) (hC := hcl) (fun r n2 S2 m8 hP => ?_)
            obtain ⟨⟨rfl, rfl⟩, z7, rfl, hq⟩ := hP
            have h := h z7 m8 hq
            exact s_ireturn dX9_track_117 (Or.inl rfl) ⟨⟨rfl, rfl⟩, _, rfl, h⟩
          have n3 := cc
          have h := h.2
          have h := h n0 n1 n2 n3
          refine s_table_out dX9_track_36 ((Int.lt_or_le (x2) 7).elim Or.inl (fun q => Or.inr (by have q := q; have q := Int.lt_iff_le_and_ne.mpr ⟨(show 7 ≤ x2 from q), (fun e => n0 e.symm)⟩; have q := Int.lt_iff_le_and_ne.mpr ⟨(show 8 ≤ x2 from q), (fun e => n1 e.symm)⟩; have q := Int.lt_iff_le_and_ne.mpr ⟨(show 9 ≤ x2 from q), (fun e => n2 e.symm)⟩; have q := Int.lt_iff_le_and_ne.mpr ⟨(show 10 ≤ x2 from q), (fun e => n3 e.symm)⟩; exact q))) (tgt := 118) (by decide) ?_
          refine s_aload_n dX9_track_118 rfl rfl ?_
          obtain ⟨P, hcl, h⟩ := h
          refine s_callV (As := []) (rest := []) (k := 0) dX9_track_119 lkX9_89 kn0 ⟨by rw [kk0]; rfl, by rw [kk0]; decide⟩ lmX9_heard rfl rfl (Nat.le_of_ble_eq_true rfl) (by decide) (Nat.le_refl 0) (Nat.le_refl 0) (hC := hcl) (fun r n2 S2 m10 hP => ?_)
          obtain ⟨⟨rfl, rfl⟩, z9, rfl, rfl, hq⟩ := hP
          have h := h m10 hq
          refine s_iload_n dX9_track_122 rfl rfl ?_
          obtain ⟨P, hcl, h⟩ := h
          refine s_callV (As := [vI x1]) (rest := []) (k := 129) dX9_track_123 lkX9_135 kn129 ⟨by rw [kk129]; rfl, by rw [kk129]; decide⟩ lmX7_greatestOfTrack rfl rfl (Nat.le_of_ble_eq_true rfl) (by decide) (Nat.le_refl 0) (Nat.le_refl 0) (hC := hcl) (fun r n2 S2 m12 hP => ?_)
          obtain ⟨⟨rfl, rfl⟩, z11, rfl, hq⟩ := hP
          have h := h z11 m12 hq
          exact s_ireturn dX9_track_126 (Or.inl rfl) ⟨⟨rfl, rfl⟩, _, rfl, h⟩
        · have h := h.2 cc
          refine s_aload_n dX9_track_28 rfl rfl ?_
          refine s_iload_n dX9_track_29 rfl rfl ?_
          refine s_iload_n dX9_track_30 rfl rfl ?_
          obtain ⟨P, hcl, h⟩ := h
          refine s_callV (As := [vI x1, vI x2]) (rest := []) (k := 0) dX9_track_31 lkX9_113 kn0 ⟨by rw [kk0]; rfl, by rw [kk0]; decide⟩ lmX9_trackAnswer rfl rfl (Nat.le_of_ble_eq_true rfl) (by decide) (Nat.le_refl 0) (Nat.le_refl 0) (hC := hcl) (fun r n2 S2 m14 hP => ?_)
          obtain ⟨⟨rfl, rfl⟩, z13, rfl, hq⟩ := hP
          have h := h z13 m14 hq
          exact s_ireturn dX9_track_34 (Or.inl rfl) ⟨⟨rfl, rfl⟩, _, rfl, h⟩
      · have h := h.2 cc
        refine s_bipush dX9_track_19 (by decide) ?_
        exact s_ireturn dX9_track_21 (Or.inl rfl) ⟨⟨rfl, rfl⟩, _, rfl, h⟩
  · have h := h.2 (bI_eq cc)
    refine s_iconst dX9_track_7 (by decide) ?_
    exact s_ireturn dX9_track_8 (Or.inl rfl) ⟨⟨rfl, rfl⟩, _, rfl, h⟩
theorem ve_X9_track {x1 x2 : Int} {μ : am_M} {Q : Int → am_M → Prop} (h : at_I kC 7 mX9_track 0 [vR 0, vI x1, vI x2] [] μ Q) : cl_I kC 7 mX9_track [vR 0, vI x1, vI x2] μ Q := am_intro pmX9_track (Nat.le_of_ble_eq_true rfl) rfl h
theorem sp_X9_track {K : Int} {μ : am_M} {t w : Int} (hI : CI K μ) : cl_I kC 7 mX9_track [vR 0, vI t, vI w] μ (fun z m => z = q_track (pC μ 1) t w ∧ cq_ μ m) := by
  refine ve_X9_track (vc_X9_track_0 ⟨fun c => ?_, fun c => ⟨(cif_t c).symm, cq_rf hI⟩⟩)
  have e1 : q_track (pC μ 1) t w = _ := cif_f (fun h => h c)
  have hr := cq_rf hI
  refine ⟨fun q => ⟨(e1.trans (cif_t (by omega))).symm, hr⟩, fun q0 => ⟨fun q1 => ?_, fun q => ⟨(e1.trans (cif_t (by omega))).symm, hr⟩⟩⟩
  have e2 := e1.trans (cif_f (by omega))
  refine ⟨fun n7 => ⟨fun n => ⟨c, fun v1 e => ⟨?_, hr⟩⟩, fun n => ⟨hI.v.okT, fun v1 e => ⟨?_, hr⟩⟩, fun n => ⟨hI.v.okT, fun v1 e => ⟨?_, hr⟩⟩, fun n => ⟨_, sp_X9_heard hI, fun m2 ⟨k1, k2, k3, k4, k5⟩ => ⟨_, sp_X7_duckedFrames (Q := fun z m => z = sm_ (fun f => cif (dukC m2 t f) 1 0) (la_ (cg m2) (m2 5 1)) ∧ m = m2) k4 k3.2.2.1 c ⟨rfl, rfl⟩, ?_⟩⟩, fun n7' n8 n9 n10 => ⟨_, sp_X9_heard hI, fun m2 ⟨k1, k2, k3, k4, k5⟩ => ⟨_, sp_X7_greatestOfTrack (Q := fun z m => z = mx_ (weC m2 t) 600 ∧ m = m2) k4 k3.2.1 k3.2.2.1 c ⟨rfl, rfl⟩, ?_⟩⟩⟩, fun n7 => ⟨_, sp_X9_trackAnswer (Q := fun z m => z = q_tn (pC μ 1) t w ∧ m = μ) c ⟨q0, n7⟩ ⟨rfl, rfl⟩, ?_⟩⟩
  · rw [e2, if_neg (by omega), if_pos n, e]; rfl
  · rw [e2, if_neg (by omega), if_neg (by omega), if_pos n, e]; rfl
  · rw [e2, if_neg (by omega), if_neg (by omega), if_neg (by omega), if_pos n, e]; rfl
  · rintro z m ⟨h1, rfl⟩
    refine ⟨?_, k1⟩
    rw [e2, if_neg (by omega), if_neg (by omega), if_neg (by omega), if_neg (by omega), if_pos n, h1, (pC_fr k5 rfL_9).2.1, k5 5 (by decide), cg_c (k5 6 (by decide))]
    rfl
  · rintro z m ⟨h1, rfl⟩
    refine ⟨?_, k1⟩
    rw [e2, if_neg (by omega), if_neg (by omega), if_neg (by omega), if_neg (by omega), if_neg (by omega), h1, (pC_fr k5 rfL_9).2.2.1]
    rfl
  · rintro z m ⟨h1, rfl⟩
    exact ⟨by rw [e2, if_pos n7, h1], hr⟩
theorem vc_X9_clip_0 {x1 x2 : Int} {μ : am_M} {Q : Int → am_M → Prop} (h : (0 ≤ x1 ∧ x1 < μ 5 1 → (x2 < 0 → Q (-2) μ) ∧ (0 ≤ x2 → (x2 ≤ 9 → (x2 ≠ 8 → (x2 ≠ 9 → (in_ 0 32 x1) ∧ (in_ 0 8 x2) ∧ (Q (cg μ x1 x2) μ)) ∧ (x2 = 9 → ∃ P : am_M → Prop, cl_R kC 6 mX9_heard [vR 0] μ (fun z m => 129 = z ∧ P m) ∧ (∀ m2 : am_M, P m2 → ∃ P : Int → am_M → Prop, cl_I kC 3 mX7_sumOfClip [vR 129, vI x1] m2 P ∧ (∀ (z3 : Int) (m4 : am_M), P z3 m4 → Q z3 m4)))) ∧ (x2 = 8 → ∃ P : am_M → Prop, cl_R kC 6 mX9_heard [vR 0] μ (fun z m => 129 = z ∧ P m) ∧ (∀ m6 : am_M, P m6 → ∃ P : Int → am_M → Prop, cl_I kC 3 mX7_greatestOfClip [vR 129, vI x1] m6 P ∧ (∀ (z7 : Int) (m8 : am_M), P z7 m8 → Q z7 m8)))) ∧ (9 < x2 → Q (-2) μ))) ∧ (¬ (0 ≤ x1 ∧ x1 < μ 5 1) → Q (-1) μ)) : at_I kC 7 mX9_clip 0 [vR 0, vI x1, vI x2] [] μ Q := by
  refine s_aload_n dX9_clip_0 rfl rfl ?_
  refine s_getR dX9_clip_1 flX9_12 kn0 kk0 rfl kr0_0 ?_
  refine s_getR dX9_clip_4 flX9_80 kn1 kk1 rfl kr1_3 ?_
  refine s_iload_n dX9_clip_7 rfl rfl ?_
  refine s_callV (As := [vI x1]) (rest := []) (k := 5) dX9_clip_8 lkX9_145 kn5 ⟨by rw [kk5]; rfl, by rw [kk5]; decide⟩ lmX1_has rfl rfl (Nat.le_of_ble_eq_true rfl) (by decide) (Nat.le_refl 0) (Nat.le_refl 0) (hC := sp_X1_has (Q := fun z m => bI (0 ≤ x1 ∧ x1 < μ 5 1) = z ∧ μ = m)  ⟨rfl, rfl⟩) (fun r n2 S2 m2 hP => ?_)
  obtain ⟨⟨rfl, rfl⟩, z, rfl, rfl, rfl⟩ := hP
  refine s_if_ne dX9_clip_11 (tgt := 16) (by decide) (fun cc => ?_) (fun cc => ?_)
  · have h := h.1 (bI_ne cc)
    refine s_iload_n dX9_clip_16 rfl rfl ?_
    refine s_if_lt dX9_clip_17 (tgt := 26) (by decide) (fun cc => ?_) (fun cc => ?_)
    · have h := h.1 cc
      refine s_bipush dX9_clip_26 (by decide) ?_
      exact s_ireturn dX9_clip_28 (Or.inl rfl) ⟨⟨rfl, rfl⟩, _, rfl, h⟩
    · have h := h.2 cc
      refine s_iload_n dX9_clip_20 rfl rfl ?_
      refine s_bipush dX9_clip_21 (by decide) ?_
      refine s_icmp_le dX9_clip_23 (tgt := 29) (by decide) (fun cc => ?_) (fun cc => ?_)
      · have h := h.1 cc
        refine s_iload_n dX9_clip_29 rfl rfl ?_
        refine s_bipush dX9_clip_30 (by decide) ?_
        refine s_icmp_ne dX9_clip_32 (tgt := 44) (by decide) (fun cc => ?_) (fun cc => ?_)
        · have h := h.1 cc
          refine s_iload_n dX9_clip_44 rfl rfl ?_
          refine s_bipush dX9_clip_45 (by decide) ?_
          refine s_icmp_ne dX9_clip_47 (tgt := 59) (by decide) (fun cc => ?_) (fun cc => ?_)
          · have h := h.1 cc
            refine s_aload_n dX9_clip_59 rfl rfl ?_
            refine s_getR dX9_clip_60 flX9_12 kn0 kk0 rfl kr0_0 ?_
            refine s_getR dX9_clip_63 flX9_80 kn1 kk1 rfl kr1_3 ?_
            refine s_iload_n dX9_clip_66 rfl rfl ?_
            refine s_iload_n dX9_clip_67 rfl rfl ?_
            obtain ⟨p0, p1, h⟩ := h
            refine s_callV (As := [vI x1, vI x2]) (rest := []) (k := 5) dX9_clip_68 lkX9_154 kn5 ⟨by rw [kk5]; rfl, by rw [kk5]; decide⟩ lmX1_get rfl rfl (Nat.le_of_ble_eq_true rfl) (by decide) (Nat.le_refl 0) (Nat.le_refl 0) (hC := sp_X1_get (Q := fun z m => cg μ x1 x2 = z ∧ μ = m) p0 p1 ⟨rfl, rfl⟩) (fun r n2 S2 m2 hP => ?_)
            obtain ⟨⟨rfl, rfl⟩, z, rfl, rfl, rfl⟩ := hP
            exact s_ireturn dX9_clip_71 (Or.inl rfl) ⟨⟨rfl, rfl⟩, _, rfl, h⟩
          · have h := h.2 cc
            refine s_aload_n dX9_clip_50 rfl rfl ?_
            obtain ⟨P, hcl, h⟩ := h
            refine s_callV (As := []) (rest := []) (k := 0) dX9_clip_51 lkX9_89 kn0 ⟨by rw [kk0]; rfl, by rw [kk0]; decide⟩ lmX9_heard rfl rfl (Nat.le_of_ble_eq_true rfl) (by decide) (Nat.le_refl 0) (Nat.le_refl 0) (hC := hcl) (fun r n2 S2 m2 hP => ?_)
            obtain ⟨⟨rfl, rfl⟩, z1, rfl, rfl, hq⟩ := hP
            have h := h m2 hq
            refine s_iload_n dX9_clip_54 rfl rfl ?_
            obtain ⟨P, hcl, h⟩ := h
            refine s_callV (As := [vI x1]) (rest := []) (k := 129) dX9_clip_55 lkX9_151 kn129 ⟨by rw [kk129]; rfl, by rw [kk129]; decide⟩ lmX7_sumOfClip rfl rfl (Nat.le_of_ble_eq_true rfl) (by decide) (Nat.le_refl 0) (Nat.le_refl 0) (hC := hcl) (fun r n2 S2 m4 hP => ?_)
            obtain ⟨⟨rfl, rfl⟩, z3, rfl, hq⟩ := hP
            have h := h z3 m4 hq
            exact s_ireturn dX9_clip_58 (Or.inl rfl) ⟨⟨rfl, rfl⟩, _, rfl, h⟩
        · have h := h.2 cc
          refine s_aload_n dX9_clip_35 rfl rfl ?_
          obtain ⟨P, hcl, h⟩ := h
          refine s_callV (As := []) (rest := []) (k := 0) dX9_clip_36 lkX9_89 kn0 ⟨by rw [kk0]; rfl, by rw [kk0]; decide⟩ lmX9_heard rfl rfl (Nat.le_of_ble_eq_true rfl) (by decide) (Nat.le_refl 0) (Nat.le_refl 0) (hC := hcl) (fun r n2 S2 m6 hP => ?_)
          obtain ⟨⟨rfl, rfl⟩, z5, rfl, rfl, hq⟩ := hP
          have h := h m6 hq
          refine s_iload_n dX9_clip_39 rfl rfl ?_
          obtain ⟨P, hcl, h⟩ := h
          refine s_callV (As := [vI x1]) (rest := []) (k := 129) dX9_clip_40 lkX9_148 kn129 ⟨by rw [kk129]; rfl, by rw [kk129]; decide⟩ lmX7_greatestOfClip rfl rfl (Nat.le_of_ble_eq_true rfl) (by decide) (Nat.le_refl 0) (Nat.le_refl 0) (hC := hcl) (fun r n2 S2 m8 hP => ?_)
          obtain ⟨⟨rfl, rfl⟩, z7, rfl, hq⟩ := hP
          have h := h z7 m8 hq
          exact s_ireturn dX9_clip_43 (Or.inl rfl) ⟨⟨rfl, rfl⟩, _, rfl, h⟩
      · have h := h.2 cc
        refine s_bipush dX9_clip_26 (by decide) ?_
        exact s_ireturn dX9_clip_28 (Or.inl rfl) ⟨⟨rfl, rfl⟩, _, rfl, h⟩
  · have h := h.2 (bI_eq cc)
    refine s_iconst dX9_clip_14 (by decide) ?_
    exact s_ireturn dX9_clip_15 (Or.inl rfl) ⟨⟨rfl, rfl⟩, _, rfl, h⟩
theorem ve_X9_clip {x1 x2 : Int} {μ : am_M} {Q : Int → am_M → Prop} (h : at_I kC 7 mX9_clip 0 [vR 0, vI x1, vI x2] [] μ Q) : cl_I kC 7 mX9_clip [vR 0, vI x1, vI x2] μ Q := am_intro pmX9_clip (Nat.le_of_ble_eq_true rfl) rfl h
theorem sp_X9_clip {K : Int} {μ : am_M} {c w : Int} (hI : CI K μ) : cl_I kC 7 mX9_clip [vR 0, vI c, vI w] μ (fun z m => z = q_clip (pC μ 1) c w ∧ cq_ μ m) := by
  have hn := hI.v.hn
  have hr := cq_rf hI
  refine ve_X9_clip (vc_X9_clip_0 ⟨fun hc => ?_, fun hc => ⟨(cif_t hc).symm, hr⟩⟩)
  have e1 : q_clip (pC μ 1) c w = _ := cif_f (fun h => h hc)
  refine ⟨fun q => ⟨(e1.trans (cif_t (by omega))).symm, hr⟩, fun q0 => ⟨fun q1 => ?_, fun q => ⟨(e1.trans (cif_t (by omega))).symm, hr⟩⟩⟩
  have e2 := e1.trans (cif_f (by omega))
  refine ⟨fun n8 => ⟨fun n9 => ⟨(by (try unfold am_in); (try unfold in_ at *); omega), (by (try unfold am_in); (try unfold in_ at *); omega), ?_, hr⟩, fun n9 => ⟨_, sp_X9_heard hI, fun m2 ⟨k1, k2, k3, k4, k5⟩ => ⟨_, sp_X7_sumOfClip (Q := fun z m => z = sm_ (cv_ (m2 2 4) (tg (m2 4) 4) (cg m2) c) (cg m2 c 4) ∧ m = m2) k4 k3.1 (by rw [k5 5 (by decide)]; exact hc) ⟨rfl, rfl⟩, ?_⟩⟩⟩, fun n8 => ⟨_, sp_X9_heard hI, fun m2 ⟨k1, k2, k3, k4, k5⟩ => ⟨_, sp_X7_greatestOfClip (Q := fun z m => z = mx_ (cv_ (m2 2 4) (tg (m2 4) 4) (cg m2) c) (cg m2 c 4) ∧ m = m2) k4 k3.1 (by rw [k5 5 (by decide)]; exact hc) ⟨rfl, rfl⟩, ?_⟩⟩⟩
  · rw [e2, if_neg n8, if_neg n9]; rfl
  · rintro z m ⟨h1, rfl⟩
    refine ⟨?_, k1⟩
    rw [e2, if_neg n8, if_pos n9, h1, k5 2 (by decide), k5 4 (by decide), cg_c (k5 6 (by decide))]
    rfl
  · rintro z m ⟨h1, rfl⟩
    refine ⟨?_, k1⟩
    rw [e2, if_pos n8, h1, k5 2 (by decide), k5 4 (by decide), cg_c (k5 6 (by decide))]
    rfl
theorem vc_X9_room_0 {x1 x2 x3 : Int} {μ : am_M} {Q : Int → am_M → Prop} (h : (0 ≤ x1 ∧ x1 < 4 → (¬ (0 ≤ x2 ∧ x2 < 600) → Q (-2) μ) ∧ (0 ≤ x2 ∧ x2 < 600 → (x3 < 1 → Q (-2) μ) ∧ (1 ≤ x3 → (x3 ≤ 600 → at_I kC 4 mX9_room 34 [vR 0, vI x1, vU, vI x3, vI x2] [] μ Q) ∧ (600 < x3 → Q (-2) μ)))) ∧ (¬ (0 ≤ x1 ∧ x1 < 4) → Q (-1) μ)) : at_I kC 4 mX9_room 0 [vR 0, vI x1, vI x2, vI x3, vU] [] μ Q := by
  refine s_iload_n dX9_room_0 rfl rfl ?_
  refine s_callS (As := [vI x1]) (rest := []) dX9_room_1 lkX9_106 lmX9_isTrack rfl rfl (Nat.le_of_ble_eq_true rfl) (by decide) (Nat.le_refl 0) (Nat.le_refl 0) (hC := sp_X9_isTrack (Q := fun z m => bI (0 ≤ x1 ∧ x1 < 4) = z ∧ μ = m)  ⟨rfl, rfl⟩) (fun r n2 S2 m2 hP => ?_)
  obtain ⟨⟨rfl, rfl⟩, z, rfl, rfl, rfl⟩ := hP
  refine s_if_ne dX9_room_4 (tgt := 9) (by decide) (fun cc => ?_) (fun cc => ?_)
  · have h := h.1 (bI_ne cc)
    refine s_iload_n dX9_room_9 rfl rfl ?_
    refine s_callS (As := [vI x2]) (rest := []) dX9_room_10 lkX9_173 lmX9_isFrame rfl rfl (Nat.le_of_ble_eq_true rfl) (by decide) (Nat.le_refl 0) (Nat.le_refl 0) (hC := sp_X9_isFrame (Q := fun z m => bI (0 ≤ x2 ∧ x2 < 600) = z ∧ μ = m)  ⟨rfl, rfl⟩) (fun r n2 S2 m2 hP => ?_)
    obtain ⟨⟨rfl, rfl⟩, z, rfl, rfl, rfl⟩ := hP
    refine s_if_eq dX9_room_13 (tgt := 28) (by decide) (fun cc => ?_) (fun cc => ?_)
    · have h := h.1 (bI_eq cc)
      refine s_bipush dX9_room_28 (by decide) ?_
      exact s_ireturn dX9_room_30 (Or.inl rfl) ⟨⟨rfl, rfl⟩, _, rfl, h⟩
    · have h := h.2 (bI_ne cc)
      refine s_iload_n dX9_room_16 rfl rfl ?_
      refine s_iconst dX9_room_17 (by decide) ?_
      refine s_icmp_lt dX9_room_18 (tgt := 28) (by decide) (fun cc => ?_) (fun cc => ?_)
      · have h := h.1 cc
        refine s_bipush dX9_room_28 (by decide) ?_
        exact s_ireturn dX9_room_30 (Or.inl rfl) ⟨⟨rfl, rfl⟩, _, rfl, h⟩
      · have h := h.2 cc
        refine s_iload_n dX9_room_21 rfl rfl ?_
        refine s_sipush dX9_room_22 (by decide) ?_
        refine s_icmp_le dX9_room_25 (tgt := 31) (by decide) (fun cc => ?_) (fun cc => ?_)
        · have h := h.1 cc
          refine s_iload_n dX9_room_31 rfl rfl ?_
          refine s_istore dX9_room_32 (by decide) (L' := [vR 0, vI x1, vI x2, vI x3, vI x2]) rfl ?_
          exact am_lesS h ⟨Or.inr rfl, Or.inr rfl, Or.inl rfl, Or.inr rfl, Or.inr rfl, trivial⟩
        · have h := h.2 cc
          refine s_bipush dX9_room_28 (by decide) ?_
          exact s_ireturn dX9_room_30 (Or.inl rfl) ⟨⟨rfl, rfl⟩, _, rfl, h⟩
  · have h := h.2 (bI_eq cc)
    refine s_iconst dX9_room_7 (by decide) ?_
    exact s_ireturn dX9_room_8 (Or.inl rfl) ⟨⟨rfl, rfl⟩, _, rfl, h⟩
theorem vc_X9_room_34 {x1 x3 x4 : Int} {μ : am_M} {Q : Int → am_M → Prop} (h : (am_in (600 - x3)) ∧ ((600 - x3 < x4 → Q (-6) μ) ∧ (x4 ≤ 600 - x3 → (ok_T (cg μ) (μ 5 1)) ∧ (am_in (x4 + x3)) ∧ ((¬ (fre_ (cg μ) (μ 5 1) x1 x4 x3 (-1)) → (am_in (x4 + 1)) ∧ (at_I kC 4 mX9_room 34 [vR 0, vI x1, vU, vI x3, vI (x4 + 1)] [] μ Q)) ∧ (fre_ (cg μ) (μ 5 1) x1 x4 x3 (-1) → Q x4 μ))))) : at_I kC 4 mX9_room 34 [vR 0, vI x1, vU, vI x3, vI x4] [] μ Q := by
  refine s_iload dX9_room_34 rfl ?_
  refine s_sipush dX9_room_36 (by decide) ?_
  refine s_iload_n dX9_room_39 rfl rfl ?_
  obtain ⟨c, h⟩ := h
  refine s_isub dX9_room_40 (am_w_id c) ?_
  refine s_icmp_gt dX9_room_41 (tgt := 71) (by decide) (fun cc => ?_) (fun cc => ?_)
  · have h := h.1 cc
    refine s_bipush dX9_room_71 (by decide) ?_
    exact s_ireturn dX9_room_73 (Or.inl rfl) ⟨⟨rfl, rfl⟩, _, rfl, h⟩
  · have h := h.2 cc
    refine s_aload_n dX9_room_44 rfl rfl ?_
    refine s_getR dX9_room_45 flX9_12 kn0 kk0 rfl kr0_0 ?_
    refine s_getR dX9_room_48 flX9_80 kn1 kk1 rfl kr1_3 ?_
    refine s_iload_n dX9_room_51 rfl rfl ?_
    refine s_iload dX9_room_52 rfl ?_
    refine s_iload_n dX9_room_54 rfl rfl ?_
    refine s_iconst dX9_room_55 (by decide) ?_
    obtain ⟨p0, p1, h⟩ := h
    refine s_callV (As := [vI x1, vI x4, vI x3, vI (-1)]) (rest := []) (k := 5) dX9_room_56 lkX9_176 kn5 ⟨by rw [kk5]; rfl, by rw [kk5]; decide⟩ lmX1_isFree rfl rfl (Nat.le_of_ble_eq_true rfl) (by decide) (Nat.le_refl 0) (Nat.le_refl 0) (hC := sp_X1_isFree (Q := fun z m => bI (fre_ (cg μ) (μ 5 1) x1 x4 x3 (-1)) = z ∧ μ = m) p0 p1 ⟨rfl, rfl⟩) (fun r n2 S2 m2 hP => ?_)
    obtain ⟨⟨rfl, rfl⟩, z, rfl, rfl, rfl⟩ := hP
    refine s_if_eq dX9_room_59 (tgt := 65) (by decide) (fun cc => ?_) (fun cc => ?_)
    · have h := h.1 (bI_eq cc)
      obtain ⟨c, h⟩ := h
      refine s_iinc dX9_room_65 rfl (am_w_id c) (by decide) (L' := [vR 0, vI x1, vU, vI x3, vI (x4 + 1)]) rfl ?_
      refine s_goto dX9_room_68 (tgt := 34) (by decide) ?_
      exact h
    · have h := h.2 (bI_ne cc)
      refine s_iload dX9_room_62 rfl ?_
      exact s_ireturn dX9_room_64 (Or.inl rfl) ⟨⟨rfl, rfl⟩, _, rfl, h⟩
theorem ve_X9_room {x1 x2 x3 : Int} {μ : am_M} {Q : Int → am_M → Prop} (h : at_I kC 4 mX9_room 0 [vR 0, vI x1, vI x2, vI x3, vU] [] μ Q) : cl_I kC 4 mX9_room [vR 0, vI x1, vI x2, vI x3] μ Q := am_intro pmX9_room (Nat.le_of_ble_eq_true rfl) rfl h
theorem sp_X9_room {K : Int} {μ : am_M} {t f l : Int} (hI : CI K μ) : cl_I kC 4 mX9_room [vR 0, vI t, vI f, vI l] μ (fun z m => z = q_room (pC μ 1) t f l ∧ cq_ μ m) := by
  have hr := cq_rf hI
  have bad : (f < 0 ∨ 600 ≤ f ∨ l < 1 ∨ 600 < l) → (0 ≤ t ∧ t < 4) → (-2 : Int) = q_room (pC μ 1) t f l ∧ cq_ μ μ := fun h1 h2 => ⟨((cif_f (fun h => h h2)).trans (cif_t h1)).symm, hr⟩
  refine ve_X9_room (vc_X9_room_0 ⟨fun c => ⟨fun c1 => bad (by omega) c, fun c1 => ⟨fun c2 => bad (by omega) c, fun c2 => ⟨fun c3 => ?_, fun c3 => bad (by omega) c⟩⟩⟩, fun c => ⟨(cif_t c).symm, hr⟩⟩)
  rw [show q_room (pC μ 1) t f l = _ from (cif_f (fun h => h c)).trans (cif_f (by omega))]
  have : ∀ (k : Nat) (x : Int), x + k = 601 - l → f ≤ x → no_ (fun s => f ≤ s ∧ fre_ (cg μ) (μ 5 1) t s l (-1)) x → at_I kC 4 mX9_room 34 [vR 0, vI t, vU, vI l, vI x] [] μ (fun z m => z = fst_ (fun s => f ≤ s ∧ fre_ (cg μ) (μ 5 1) t s l (-1)) (601 - l) (-6) ∧ cq_ μ m) := by
    intro k
    induction k with
    | zero =>
      intro x hx hf hn
      refine vc_X9_room_34 ⟨(by (try unfold am_in); (try unfold in_ at *); omega), fun _ => ⟨?_, hr⟩, fun q => by omega⟩
      rw [show x = 601 - l by omega] at hn
      exact (no_f hn).symm
    | succ k ih =>
      intro x hx hf hn
      refine vc_X9_room_34 ⟨(by (try unfold am_in); (try unfold in_ at *); omega), fun q => by omega, fun q => ⟨hI.v.okT, (by (try unfold am_in); (try unfold in_ at *); omega), fun c4 => ⟨(by (try unfold am_in); (try unfold in_ at *); omega), ih (x + 1) (by omega) (by omega) (no_s hn (fun h => c4 h.2))⟩, fun c4 => ⟨?_, hr⟩⟩⟩
      exact (no_t hn (by omega) (by omega) ⟨hf, c4⟩).symm
  by_cases hfl : f ≤ 601 - l
  · exact this (601 - l - f).toNat f (by omega) (by omega) (fun j j0 j1 h => by have := h.1; omega)
  · refine vc_X9_room_34 ⟨(by (try unfold am_in); (try unfold in_ at *); omega), fun _ => ⟨?_, hr⟩, fun q => by omega⟩
    exact (no_f (fun j j0 j1 h => by have := h.1; omega)).symm
theorem vc_X9_clipAt_0 {x1 x2 : Int} {μ : am_M} {Q : Int → am_M → Prop} (h : (¬ (0 ≤ x1 ∧ x1 < 4) → Q (-1) μ) ∧ (0 ≤ x1 ∧ x1 < 4 → (0 ≤ x2 ∧ x2 < 600 → (ok_T (cg μ) (μ 5 1)) ∧ (∀ v1 : Int, v1 = fst_ (on_p (cg μ) x1 x2) (μ 5 1) (-1) → ∀ v2 : Int, v2 = (if v1 < 0 then (-6) else v1) → Q v2 μ)) ∧ (¬ (0 ≤ x2 ∧ x2 < 600) → Q (-1) μ))) : at_I kC 4 mX9_clipAt 0 [vR 0, vI x1, vI x2, vU] [] μ Q := by
  refine s_iload_n dX9_clipAt_0 rfl rfl ?_
  refine s_callS (As := [vI x1]) (rest := []) dX9_clipAt_1 lkX9_106 lmX9_isTrack rfl rfl (Nat.le_of_ble_eq_true rfl) (by decide) (Nat.le_refl 0) (Nat.le_refl 0) (hC := sp_X9_isTrack (Q := fun z m => bI (0 ≤ x1 ∧ x1 < 4) = z ∧ μ = m)  ⟨rfl, rfl⟩) (fun r n2 S2 m2 hP => ?_)
  obtain ⟨⟨rfl, rfl⟩, z, rfl, rfl, rfl⟩ := hP
  refine s_if_eq dX9_clipAt_4 (tgt := 14) (by decide) (fun cc => ?_) (fun cc => ?_)
  · have h := h.1 (bI_eq cc)
    refine s_iconst dX9_clipAt_14 (by decide) ?_
    exact s_ireturn dX9_clipAt_15 (Or.inl rfl) ⟨⟨rfl, rfl⟩, _, rfl, h⟩
  · have h := h.2 (bI_ne cc)
    refine s_iload_n dX9_clipAt_7 rfl rfl ?_
    refine s_callS (As := [vI x2]) (rest := []) dX9_clipAt_8 lkX9_173 lmX9_isFrame rfl rfl (Nat.le_of_ble_eq_true rfl) (by decide) (Nat.le_refl 0) (Nat.le_refl 0) (hC := sp_X9_isFrame (Q := fun z m => bI (0 ≤ x2 ∧ x2 < 600) = z ∧ μ = m)  ⟨rfl, rfl⟩) (fun r n2 S2 m2 hP => ?_)
    obtain ⟨⟨rfl, rfl⟩, z, rfl, rfl, rfl⟩ := hP
    refine s_if_ne dX9_clipAt_11 (tgt := 16) (by decide) (fun cc => ?_) (fun cc => ?_)
    · have h := h.1 (bI_ne cc)
      refine s_aload_n dX9_clipAt_16 rfl rfl ?_
      refine s_getR dX9_clipAt_17 flX9_12 kn0 kk0 rfl kr0_0 ?_
      refine s_getR dX9_clipAt_20 flX9_80 kn1 kk1 rfl kr1_3 ?_
      refine s_iload_n dX9_clipAt_23 rfl rfl ?_
      refine s_iload_n dX9_clipAt_24 rfl rfl ?_
      obtain ⟨p0, h⟩ := h
      refine s_callV (As := [vI x1, vI x2]) (rest := []) (k := 5) dX9_clipAt_25 lkX9_183 kn5 ⟨by rw [kk5]; rfl, by rw [kk5]; decide⟩ lmX1_on rfl rfl (Nat.le_of_ble_eq_true rfl) (by decide) (Nat.le_refl 0) (Nat.le_refl 0) (hC := sp_X1_on (Q := fun z m => z = fst_ (on_p (cg μ) x1 x2) (μ 5 1) (-1) ∧ μ = m) p0 ⟨rfl, rfl⟩) (fun r n2 S2 m2 hP => ?_)
      obtain ⟨⟨rfl, rfl⟩, v1, rfl, hz, rfl⟩ := hP
      have h := h v1 hz
      refine s_istore_n dX9_clipAt_28 rfl (by decide) (L' := [vR 0, vI x1, vI x2, vI v1]) rfl ?_
      refine s_iload_n dX9_clipAt_29 rfl rfl ?_
      have kj3 : ∀ (v2 : Int), (Q v2 μ) → at_I kC 4 mX9_clipAt 39 [vU, vU, vU, vU] [vI v2] μ Q := by
        intro v2 h
        exact s_ireturn dX9_clipAt_39 (Or.inl rfl) ⟨⟨rfl, rfl⟩, _, rfl, h⟩
      refine s_if_ge dX9_clipAt_30 (tgt := 38) (by decide) (fun cc => ?_) (fun cc => ?_)
      · have hp0 := cc
        refine s_iload_n dX9_clipAt_38 rfl rfl ?_
        exact am_lesS (kj3 v1 (h v1 (by rw [if_neg (Int.not_lt.mpr hp0)]))) ⟨Or.inl rfl, Or.inl rfl, Or.inl rfl, Or.inl rfl, trivial⟩
      · have hp0 := cc
        refine s_bipush dX9_clipAt_33 (by decide) ?_
        refine s_goto dX9_clipAt_35 (tgt := 39) (by decide) ?_
        exact am_lesS (kj3 (-6) (h (-6) (by rw [if_pos hp0]))) ⟨Or.inl rfl, Or.inl rfl, Or.inl rfl, Or.inl rfl, trivial⟩
    · have h := h.2 (bI_eq cc)
      refine s_iconst dX9_clipAt_14 (by decide) ?_
      exact s_ireturn dX9_clipAt_15 (Or.inl rfl) ⟨⟨rfl, rfl⟩, _, rfl, h⟩
theorem ve_X9_clipAt {x1 x2 : Int} {μ : am_M} {Q : Int → am_M → Prop} (h : at_I kC 4 mX9_clipAt 0 [vR 0, vI x1, vI x2, vU] [] μ Q) : cl_I kC 4 mX9_clipAt [vR 0, vI x1, vI x2] μ Q := am_intro pmX9_clipAt (Nat.le_of_ble_eq_true rfl) rfl h
theorem sp_X9_clipAt {K : Int} {μ : am_M} {t f : Int} (hI : CI K μ) : cl_I kC 4 mX9_clipAt [vR 0, vI t, vI f] μ (fun z m => z = q_clipAt (pC μ 1) t f ∧ cq_ μ m) := by
  have hr := cq_rf hI
  refine ve_X9_clipAt (vc_X9_clipAt_0 ⟨fun c => ⟨(cif_t (by omega)).symm, hr⟩, fun c => ⟨fun c1 => ⟨hI.v.okT, fun v1 e1 v2 e2 => ⟨?_, hr⟩⟩, fun c1 => ⟨(cif_t (by omega)).symm, hr⟩⟩⟩)
  rw [show q_clipAt (pC μ 1) t f = _ from cif_f (fun h => h ⟨c, c1⟩), e2, e1]
  rfl
theorem vc_X9_explain_0 {x1 x2 : Int} {μ : am_M} {Q : Int → am_M → Prop} (h : (¬ (0 ≤ x1 ∧ x1 < 4) → Q (-1) μ) ∧ (0 ≤ x1 ∧ x1 < 4 → (0 ≤ x2 ∧ x2 < 600 → (ok_T (cg μ) (μ 5 1)) ∧ (∀ v1 : Int, v1 = fst_ (on_p (cg μ) x1 x2) (μ 5 1) (-1) → (0 ≤ v1 → (in_ 0 4 x1) ∧ (in_ 0 7 1) ∧ ((tg (μ 3) 7 x1 1 ≠ 1 → (in_ 0 4 x1) ∧ ((aud_ (tg (μ 3) 7) x1 → ∃ P : am_M → Prop, cl_R kC 6 mX9_heard [vR 0] μ (fun z m => 129 = z ∧ P m) ∧ (∀ m3 : am_M, P m3 → (in_ 0 4 x1) ∧ (in_ 0 600 x2) ∧ (bk_ m3 (dukC m3)) ∧ ((¬ (dukC m3 x1 x2) → ∃ P : Int → am_M → Prop, cl_I kC 3 mX1_isFading [vR 5, vI v1, vI x2] m3 P ∧ (∀ (z4 : Int) (m5 : am_M), P z4 m5 → ∀ v6 : Int, v6 = (if z4 = 0 then 0 else 5) → Q v6 m5)) ∧ (dukC m3 x1 x2 → Q 4 m3)))) ∧ (¬ (aud_ (tg (μ 3) 7) x1) → Q 3 μ))) ∧ (tg (μ 3) 7 x1 1 = 1 → Q 2 μ))) ∧ (v1 < 0 → Q 1 μ))) ∧ (¬ (0 ≤ x2 ∧ x2 < 600) → Q (-1) μ))) : at_I kC 7 mX9_explain 0 [vR 0, vI x1, vI x2, vU] [] μ Q := by
  refine s_iload_n dX9_explain_0 rfl rfl ?_
  refine s_callS (As := [vI x1]) (rest := []) dX9_explain_1 lkX9_106 lmX9_isTrack rfl rfl (Nat.le_of_ble_eq_true rfl) (by decide) (Nat.le_refl 0) (Nat.le_refl 0) (hC := sp_X9_isTrack (Q := fun z m => bI (0 ≤ x1 ∧ x1 < 4) = z ∧ μ = m)  ⟨rfl, rfl⟩) (fun r n2 S2 m2 hP => ?_)
  obtain ⟨⟨rfl, rfl⟩, z, rfl, rfl, rfl⟩ := hP
  refine s_if_eq dX9_explain_4 (tgt := 14) (by decide) (fun cc => ?_) (fun cc => ?_)
  · have h := h.1 (bI_eq cc)
    refine s_iconst dX9_explain_14 (by decide) ?_
    exact s_ireturn dX9_explain_15 (Or.inl rfl) ⟨⟨rfl, rfl⟩, _, rfl, h⟩
  · have h := h.2 (bI_ne cc)
    refine s_iload_n dX9_explain_7 rfl rfl ?_
    refine s_callS (As := [vI x2]) (rest := []) dX9_explain_8 lkX9_173 lmX9_isFrame rfl rfl (Nat.le_of_ble_eq_true rfl) (by decide) (Nat.le_refl 0) (Nat.le_refl 0) (hC := sp_X9_isFrame (Q := fun z m => bI (0 ≤ x2 ∧ x2 < 600) = z ∧ μ = m)  ⟨rfl, rfl⟩) (fun r n2 S2 m2 hP => ?_)
    obtain ⟨⟨rfl, rfl⟩, z, rfl, rfl, rfl⟩ := hP
    refine s_if_ne dX9_explain_11 (tgt := 16) (by decide) (fun cc => ?_) (fun cc => ?_)
    · have h := h.1 (bI_ne cc)
      refine s_aload_n dX9_explain_16 rfl rfl ?_
      refine s_getR dX9_explain_17 flX9_12 kn0 kk0 rfl kr0_0 ?_
      refine s_getR dX9_explain_20 flX9_80 kn1 kk1 rfl kr1_3 ?_
      refine s_iload_n dX9_explain_23 rfl rfl ?_
      refine s_iload_n dX9_explain_24 rfl rfl ?_
      obtain ⟨p0, h⟩ := h
      refine s_callV (As := [vI x1, vI x2]) (rest := []) (k := 5) dX9_explain_25 lkX9_183 kn5 ⟨by rw [kk5]; rfl, by rw [kk5]; decide⟩ lmX1_on rfl rfl (Nat.le_of_ble_eq_true rfl) (by decide) (Nat.le_refl 0) (Nat.le_refl 0) (hC := sp_X1_on (Q := fun z m => z = fst_ (on_p (cg μ) x1 x2) (μ 5 1) (-1) ∧ μ = m) p0 ⟨rfl, rfl⟩) (fun r n2 S2 m2 hP => ?_)
      obtain ⟨⟨rfl, rfl⟩, v1, rfl, hz, rfl⟩ := hP
      have h := h v1 hz
      refine s_istore_n dX9_explain_28 rfl (by decide) (L' := [vR 0, vI x1, vI x2, vI v1]) rfl ?_
      refine s_iload_n dX9_explain_29 rfl rfl ?_
      refine s_if_ge dX9_explain_30 (tgt := 35) (by decide) (fun cc => ?_) (fun cc => ?_)
      · have h := h.1 cc
        refine s_aload_n dX9_explain_35 rfl rfl ?_
        refine s_getR dX9_explain_36 flX9_12 kn0 kk0 rfl kr0_0 ?_
        refine s_iload_n dX9_explain_39 rfl rfl ?_
        refine s_iconst dX9_explain_40 (by decide) ?_
        obtain ⟨p0, p1, h⟩ := h
        refine s_callV (As := [vI x1, vI 1]) (rest := []) (k := 1) dX9_explain_41 lkX9_138 kn1 ⟨by rw [kk1]; rfl, by rw [kk1]; decide⟩ lmX4_trackNumber rfl rfl (Nat.le_of_ble_eq_true rfl) (by decide) (Nat.le_refl 0) (Nat.le_refl 0) (hC := sp_X4_trackNumber (Q := fun z m => tg (μ 3) 7 x1 1 = z ∧ μ = m) p0 p1 ⟨rfl, rfl⟩) (fun r n2 S2 m2 hP => ?_)
        obtain ⟨⟨rfl, rfl⟩, z, rfl, rfl, rfl⟩ := hP
        refine s_iconst dX9_explain_44 (by decide) ?_
        refine s_icmp_ne dX9_explain_45 (tgt := 50) (by decide) (fun cc => ?_) (fun cc => ?_)
        · have h := h.1 cc
          refine s_aload_n dX9_explain_50 rfl rfl ?_
          refine s_getR dX9_explain_51 flX9_12 kn0 kk0 rfl kr0_0 ?_
          refine s_iload_n dX9_explain_54 rfl rfl ?_
          obtain ⟨p0, h⟩ := h
          refine s_callV (As := [vI x1]) (rest := []) (k := 1) dX9_explain_55 lkX9_123 kn1 ⟨by rw [kk1]; rfl, by rw [kk1]; decide⟩ lmX4_isAudible rfl rfl (Nat.le_of_ble_eq_true rfl) (by decide) (Nat.le_refl 0) (Nat.le_refl 0) (hC := sp_X4_isAudible (Q := fun z m => bI (aud_ (tg (μ 3) 7) x1) = z ∧ μ = m) p0 ⟨rfl, rfl⟩) (fun r n2 S2 m2 hP => ?_)
          obtain ⟨⟨rfl, rfl⟩, z, rfl, rfl, rfl⟩ := hP
          refine s_if_ne dX9_explain_58 (tgt := 63) (by decide) (fun cc => ?_) (fun cc => ?_)
          · have h := h.1 (bI_ne cc)
            refine s_aload_n dX9_explain_63 rfl rfl ?_
            obtain ⟨P, hcl, h⟩ := h
            refine s_callV (As := []) (rest := []) (k := 0) dX9_explain_64 lkX9_89 kn0 ⟨by rw [kk0]; rfl, by rw [kk0]; decide⟩ lmX9_heard rfl rfl (Nat.le_of_ble_eq_true rfl) (by decide) (Nat.le_refl 0) (Nat.le_refl 0) (hC := hcl) (fun r n2 S2 m3 hP => ?_)
            obtain ⟨⟨rfl, rfl⟩, z2, rfl, rfl, hq⟩ := hP
            have h := h m3 hq
            refine s_iload_n dX9_explain_67 rfl rfl ?_
            refine s_iload_n dX9_explain_68 rfl rfl ?_
            obtain ⟨p0, p1, p2, h⟩ := h
            refine s_callV (As := [vI x1, vI x2]) (rest := []) (k := 129) dX9_explain_69 lkX9_186 kn129 ⟨by rw [kk129]; rfl, by rw [kk129]; decide⟩ lmX7_isDucked rfl rfl (Nat.le_of_ble_eq_true rfl) (by decide) (Nat.le_refl 0) (Nat.le_refl 0) (hC := sp_X7_isDucked (Q := fun z m => bI (dukC m3 x1 x2) = z ∧ m3 = m) p0 p1 p2 ⟨rfl, rfl⟩) (fun r n2 S2 m2 hP => ?_)
            obtain ⟨⟨rfl, rfl⟩, z, rfl, rfl, rfl⟩ := hP
            refine s_if_eq dX9_explain_72 (tgt := 77) (by decide) (fun cc => ?_) (fun cc => ?_)
            · have h := h.1 (bI_eq cc)
              refine s_aload_n dX9_explain_77 rfl rfl ?_
              refine s_getR dX9_explain_78 flX9_12 kn0 kk0 rfl kr0_0 ?_
              refine s_getR dX9_explain_81 flX9_80 kn1 kk1 rfl kr1_3 ?_
              refine s_iload_n dX9_explain_84 rfl rfl ?_
              refine s_iload_n dX9_explain_85 rfl rfl ?_
              obtain ⟨P, hcl, h⟩ := h
              refine s_callV (As := [vI v1, vI x2]) (rest := []) (k := 5) dX9_explain_86 lkX9_190 kn5 ⟨by rw [kk5]; rfl, by rw [kk5]; decide⟩ lmX1_isFading rfl rfl (Nat.le_of_ble_eq_true rfl) (by decide) (Nat.le_refl 0) (Nat.le_refl 0) (hC := hcl) (fun r n2 S2 m5 hP => ?_)
              obtain ⟨⟨rfl, rfl⟩, z4, rfl, hq⟩ := hP
              have h := h z4 m5 hq
              have kj7 : ∀ (v6 : Int), (Q v6 m5) → at_I kC 7 mX9_explain 97 [vU, vU, vU, vU] [vI v6] m5 Q := by
                intro v6 h
                exact s_ireturn dX9_explain_97 (Or.inl rfl) ⟨⟨rfl, rfl⟩, _, rfl, h⟩
              refine s_if_eq dX9_explain_89 (tgt := 96) (by decide) (fun cc => ?_) (fun cc => ?_)
              · have hp0 := cc
                refine s_iconst dX9_explain_96 (by decide) ?_
                exact am_lesS (kj7 0 (h 0 (by rw [if_pos hp0]))) ⟨Or.inl rfl, Or.inl rfl, Or.inl rfl, Or.inl rfl, trivial⟩
              · have hp0 := cc
                refine s_iconst dX9_explain_92 (by decide) ?_
                refine s_goto dX9_explain_93 (tgt := 97) (by decide) ?_
                exact am_lesS (kj7 5 (h 5 (by rw [if_neg hp0]))) ⟨Or.inl rfl, Or.inl rfl, Or.inl rfl, Or.inl rfl, trivial⟩
            · have h := h.2 (bI_ne cc)
              refine s_iconst dX9_explain_75 (by decide) ?_
              exact s_ireturn dX9_explain_76 (Or.inl rfl) ⟨⟨rfl, rfl⟩, _, rfl, h⟩
          · have h := h.2 (bI_eq cc)
            refine s_iconst dX9_explain_61 (by decide) ?_
            exact s_ireturn dX9_explain_62 (Or.inl rfl) ⟨⟨rfl, rfl⟩, _, rfl, h⟩
        · have h := h.2 cc
          refine s_iconst dX9_explain_48 (by decide) ?_
          exact s_ireturn dX9_explain_49 (Or.inl rfl) ⟨⟨rfl, rfl⟩, _, rfl, h⟩
      · have h := h.2 cc
        refine s_iconst dX9_explain_33 (by decide) ?_
        exact s_ireturn dX9_explain_34 (Or.inl rfl) ⟨⟨rfl, rfl⟩, _, rfl, h⟩
    · have h := h.2 (bI_eq cc)
      refine s_iconst dX9_explain_14 (by decide) ?_
      exact s_ireturn dX9_explain_15 (Or.inl rfl) ⟨⟨rfl, rfl⟩, _, rfl, h⟩
theorem ve_X9_explain {x1 x2 : Int} {μ : am_M} {Q : Int → am_M → Prop} (h : at_I kC 7 mX9_explain 0 [vR 0, vI x1, vI x2, vU] [] μ Q) : cl_I kC 7 mX9_explain [vR 0, vI x1, vI x2] μ Q := am_intro pmX9_explain (Nat.le_of_ble_eq_true rfl) rfl h
theorem sp_X9_explain {K : Int} {μ : am_M} {t f : Int} (hI : CI K μ) : cl_I kC 7 mX9_explain [vR 0, vI t, vI f] μ (fun z m => z = q_explain (pC μ 1) t f ∧ cq_ μ m) := by
  have hr := cq_rf hI
  have hn := hI.v.hn
  refine ve_X9_explain (vc_X9_explain_0 ⟨fun c => ⟨(cif_t (by omega)).symm, hr⟩, fun c => ⟨fun c1 => ⟨hI.v.okT, fun v1 e1 => ?_⟩, fun c1 => ⟨(cif_t (by omega)).symm, hr⟩⟩⟩)
  have e0 : q_explain (pC μ 1) t f = _ := cif_f (fun h => h ⟨c, c1⟩)
  have eo : onP (pC μ 1) t f = v1 := e1.symm
  rw [eo] at e0
  have oc := ont_c (g := cg μ) hn.1 t f
  rw [show ont_ (μ 5 1) (cg μ) t f = v1 from e1.symm] at oc
  refine ⟨fun v0 => ⟨c, (by (try unfold am_in); (try unfold in_ at *); omega), fun c2 => ⟨c, fun c3 => ⟨_, sp_X9_heard hI, fun m3 ⟨k1, k2, k3, k4, k5⟩ => ⟨c, c1, k3.2.2.1, fun c4 => ⟨_, sp_X1_isFading (Q := fun z m => z = bI (fad_p (cg m3) v1 f) ∧ m = m3) (n := μ 5 1) (by rw [cg_c (k5 6 (by decide))]; exact hI.v.okT) (by omega) c1 ⟨rfl, rfl⟩, ?_⟩, fun c4 => ⟨?_, k1⟩⟩⟩, fun c3 => ⟨?_, hr⟩⟩, fun c2 => ⟨?_, hr⟩⟩, fun v0 => ⟨?_, hr⟩⟩
  · rintro z4 m5 ⟨h1, rfl⟩ v6 e6
    refine ⟨?_, k1⟩
    rw [show dukC m5 = dukC μ from (pC_fr k5 rfL_9).2.1] at c4
    rw [cg_c (k5 6 (by decide))] at h1
    rw [e0, if_neg (by omega), if_neg (show ¬ pT (pC μ 1) t 1 = 1 from c2), cif_f (p := ¬ aud_ (pT (pC μ 1)) t) (fun h => h c3), cif_f (p := dukP (pC μ 1) t f) c4, e6, h1]
    by_cases c5 : fad_p (cg μ) v1 f
    · rw [bI_t c5, cif_t (p := fad_p (pG (pC μ 1)) v1 f) c5]; rfl
    · rw [bI_f c5, cif_f (p := fad_p (pG (pC μ 1)) v1 f) c5]; rfl
  · rw [show dukC m3 = dukC μ from (pC_fr k5 rfL_9).2.1] at c4
    rw [e0, if_neg (by omega), if_neg (show ¬ pT (pC μ 1) t 1 = 1 from c2), cif_f (p := ¬ aud_ (pT (pC μ 1)) t) (fun h => h c3), cif_t (p := dukP (pC μ 1) t f) c4]
  · rw [e0, if_neg (by omega), if_neg (show ¬ pT (pC μ 1) t 1 = 1 from c2), cif_t (p := ¬ aud_ (pT (pC μ 1)) t) c3]
  · rw [e0, if_neg (by omega), if_pos (show pT (pC μ 1) t 1 = 1 from c2)]
  · rw [e0, if_pos v0]
theorem vc_X9_ofChapter_0 {x1 x2 : Int} {μ : am_M} {Q : Int → am_M → Prop} (h : (0 ≤ x1 ∧ x1 < μ 7 2 → (x2 < 0 → Q (-2) μ) ∧ (0 ≤ x2 → (x2 ≤ 3 → (0 ≤ x1) ∧ (x1 < 12) ∧ ((x2 ≠ 0 → (x2 ≠ 1 → ∃ P : Int → am_M → Prop, cl_I kC 4 mX4_framesOfChapter [vR 1, vI x1] μ P ∧ (∀ (z1 : Int) (m2 : am_M), P z1 m2 → (x2 ≠ 2 → ∃ P : am_M → Prop, cl_R kC 6 mX9_heard [vR 0] m2 (fun z m => 129 = z ∧ P m) ∧ (∀ m4 : am_M, P m4 → ∃ P : Int → am_M → Prop, cl_I kC 3 mX7_greatestMix [vR 129, vI (μ 8 ((x1).toNat)), vI z1] m4 P ∧ (∀ (z5 : Int) (m6 : am_M), P z5 m6 → Q z5 m6))) ∧ (x2 = 2 → Q z1 m2))) ∧ (x2 = 1 → (0 ≤ x1) ∧ (x1 < 12) ∧ (Q (μ 9 ((x1).toNat)) μ))) ∧ (x2 = 0 → Q (μ 8 ((x1).toNat)) μ))) ∧ (3 < x2 → Q (-2) μ))) ∧ (¬ (0 ≤ x1 ∧ x1 < μ 7 2) → Q (-1) μ)) : at_I kC 7 mX9_ofChapter 0 [vR 0, vI x1, vI x2, vU, vU] [] μ Q := by
  refine s_aload_n dX9_ofChapter_0 rfl rfl ?_
  refine s_getR dX9_ofChapter_1 flX9_12 kn0 kk0 rfl kr0_0 ?_
  refine s_getR dX9_ofChapter_4 flX9_199 kn1 kk1 rfl kr1_4 ?_
  refine s_iload_n dX9_ofChapter_7 rfl rfl ?_
  refine s_callV (As := [vI x1]) (rest := []) (k := 7) dX9_ofChapter_8 lkX9_209 kn7 ⟨by rw [kk7]; rfl, by rw [kk7]; decide⟩ lmX0_has rfl rfl (Nat.le_of_ble_eq_true rfl) (by decide) (Nat.le_refl 0) (Nat.le_refl 0) (hC := sp_X0_has (Q := fun z m => bI (0 ≤ x1 ∧ x1 < μ 7 2) = z ∧ μ = m)  ⟨rfl, rfl⟩) (fun r n2 S2 m2 hP => ?_)
  obtain ⟨⟨rfl, rfl⟩, z, rfl, rfl, rfl⟩ := hP
  refine s_if_ne dX9_ofChapter_11 (tgt := 16) (by decide) (fun cc => ?_) (fun cc => ?_)
  · have h := h.1 (bI_ne cc)
    refine s_iload_n dX9_ofChapter_16 rfl rfl ?_
    refine s_if_lt dX9_ofChapter_17 (tgt := 25) (by decide) (fun cc => ?_) (fun cc => ?_)
    · have h := h.1 cc
      refine s_bipush dX9_ofChapter_25 (by decide) ?_
      exact s_ireturn dX9_ofChapter_27 (Or.inl rfl) ⟨⟨rfl, rfl⟩, _, rfl, h⟩
    · have h := h.2 cc
      refine s_iload_n dX9_ofChapter_20 rfl rfl ?_
      refine s_iconst dX9_ofChapter_21 (by decide) ?_
      refine s_icmp_le dX9_ofChapter_22 (tgt := 28) (by decide) (fun cc => ?_) (fun cc => ?_)
      · have h := h.1 cc
        refine s_aload_n dX9_ofChapter_28 rfl rfl ?_
        refine s_getR dX9_ofChapter_29 flX9_12 kn0 kk0 rfl kr0_0 ?_
        refine s_getR dX9_ofChapter_32 flX9_199 kn1 kk1 rfl kr1_4 ?_
        refine s_getR dX9_ofChapter_35 flX9_210 kn7 kk7 rfl kr7_0 ?_
        refine s_iload_n dX9_ofChapter_38 rfl rfl ?_
        obtain ⟨c, c2, h⟩ := h
        refine s_iald (x := (μ 8 ((x1).toNat))) dX9_ofChapter_39 kn8 kk8 kl8 c c2 rfl ?_
        refine s_istore_n dX9_ofChapter_40 rfl (by decide) (L' := [vR 0, vI x1, vI x2, vI (μ 8 ((x1).toNat)), vU]) rfl ?_
        refine s_iload_n dX9_ofChapter_41 rfl rfl ?_
        refine s_if_ne dX9_ofChapter_42 (tgt := 47) (by decide) (fun cc => ?_) (fun cc => ?_)
        · have h := h.1 cc
          refine s_iload_n dX9_ofChapter_47 rfl rfl ?_
          refine s_iconst dX9_ofChapter_48 (by decide) ?_
          refine s_icmp_ne dX9_ofChapter_49 (tgt := 65) (by decide) (fun cc => ?_) (fun cc => ?_)
          · have h := h.1 cc
            refine s_aload_n dX9_ofChapter_65 rfl rfl ?_
            refine s_getR dX9_ofChapter_66 flX9_12 kn0 kk0 rfl kr0_0 ?_
            refine s_iload_n dX9_ofChapter_69 rfl rfl ?_
            obtain ⟨P, hcl, h⟩ := h
            refine s_callV (As := [vI x1]) (rest := []) (k := 1) dX9_ofChapter_70 lkX9_216 kn1 ⟨by rw [kk1]; rfl, by rw [kk1]; decide⟩ lmX4_framesOfChapter rfl rfl (Nat.le_of_ble_eq_true rfl) (by decide) (Nat.le_refl 0) (Nat.le_refl 0) (hC := hcl) (fun r n2 S2 m2 hP => ?_)
            obtain ⟨⟨rfl, rfl⟩, z1, rfl, hq⟩ := hP
            have h := h z1 m2 hq
            refine s_istore dX9_ofChapter_73 (by decide) (L' := [vR 0, vI x1, vI x2, vI (μ 8 ((x1).toNat)), vI z1]) rfl ?_
            refine s_iload_n dX9_ofChapter_75 rfl rfl ?_
            refine s_iconst dX9_ofChapter_76 (by decide) ?_
            refine s_icmp_ne dX9_ofChapter_77 (tgt := 85) (by decide) (fun cc => ?_) (fun cc => ?_)
            · have h := h.1 cc
              refine s_aload_n dX9_ofChapter_85 rfl rfl ?_
              obtain ⟨P, hcl, h⟩ := h
              refine s_callV (As := []) (rest := []) (k := 0) dX9_ofChapter_86 lkX9_89 kn0 ⟨by rw [kk0]; rfl, by rw [kk0]; decide⟩ lmX9_heard rfl rfl (Nat.le_of_ble_eq_true rfl) (by decide) (Nat.le_refl 0) (Nat.le_refl 0) (hC := hcl) (fun r n2 S2 m4 hP => ?_)
              obtain ⟨⟨rfl, rfl⟩, z3, rfl, rfl, hq⟩ := hP
              have h := h m4 hq
              refine s_iload_n dX9_ofChapter_89 rfl rfl ?_
              refine s_iload dX9_ofChapter_90 rfl ?_
              obtain ⟨P, hcl, h⟩ := h
              refine s_callV (As := [vI (μ 8 ((x1).toNat)), vI z1]) (rest := []) (k := 129) dX9_ofChapter_92 lkX9_219 kn129 ⟨by rw [kk129]; rfl, by rw [kk129]; decide⟩ lmX7_greatestMix rfl rfl (Nat.le_of_ble_eq_true rfl) (by decide) (Nat.le_refl 0) (Nat.le_refl 0) (hC := hcl) (fun r n2 S2 m6 hP => ?_)
              obtain ⟨⟨rfl, rfl⟩, z5, rfl, hq⟩ := hP
              have h := h z5 m6 hq
              exact s_ireturn dX9_ofChapter_95 (Or.inl rfl) ⟨⟨rfl, rfl⟩, _, rfl, h⟩
            · have h := h.2 cc
              refine s_iload dX9_ofChapter_80 rfl ?_
              refine s_goto dX9_ofChapter_82 (tgt := 95) (by decide) ?_
              exact s_ireturn dX9_ofChapter_95 (Or.inl rfl) ⟨⟨rfl, rfl⟩, _, rfl, h⟩
          · have h := h.2 cc
            refine s_aload_n dX9_ofChapter_52 rfl rfl ?_
            refine s_getR dX9_ofChapter_53 flX9_12 kn0 kk0 rfl kr0_0 ?_
            refine s_getR dX9_ofChapter_56 flX9_199 kn1 kk1 rfl kr1_4 ?_
            refine s_getR dX9_ofChapter_59 flX9_213 kn7 kk7 rfl kr7_1 ?_
            refine s_iload_n dX9_ofChapter_62 rfl rfl ?_
            obtain ⟨c, c2, h⟩ := h
            refine s_iald (x := (μ 9 ((x1).toNat))) dX9_ofChapter_63 kn9 kk9 kl9 c c2 rfl ?_
            exact s_ireturn dX9_ofChapter_64 (Or.inl rfl) ⟨⟨rfl, rfl⟩, _, rfl, h⟩
        · have h := h.2 cc
          refine s_iload_n dX9_ofChapter_45 rfl rfl ?_
          exact s_ireturn dX9_ofChapter_46 (Or.inl rfl) ⟨⟨rfl, rfl⟩, _, rfl, h⟩
      · have h := h.2 cc
        refine s_bipush dX9_ofChapter_25 (by decide) ?_
        exact s_ireturn dX9_ofChapter_27 (Or.inl rfl) ⟨⟨rfl, rfl⟩, _, rfl, h⟩
  · have h := h.2 (bI_eq cc)
    refine s_iconst dX9_ofChapter_14 (by decide) ?_
    exact s_ireturn dX9_ofChapter_15 (Or.inl rfl) ⟨⟨rfl, rfl⟩, _, rfl, h⟩
theorem ve_X9_ofChapter {x1 x2 : Int} {μ : am_M} {Q : Int → am_M → Prop} (h : at_I kC 7 mX9_ofChapter 0 [vR 0, vI x1, vI x2, vU, vU] [] μ Q) : cl_I kC 7 mX9_ofChapter [vR 0, vI x1, vI x2] μ Q := am_intro pmX9_ofChapter (Nat.le_of_ble_eq_true rfl) rfl h
theorem h_frm_b {P : Pj} (hV : vP P) {c : Int} (h0 : 0 ≤ c) (h1 : c < (pH P).length) : 0 ≤ h_frm (pN P) (pG P) (pH P) c ∧ ((pH P).getD c.toNat (0, 0)).1 + h_frm (pN P) (pG P) (pH P) c ≤ 600 ∧ in_ 0 600 ((pH P).getD c.toNat (0, 0)).1 := by
  have o := ho_g (H := pH P) (fun p hp => (hV.hh p hp).1)
  have o0 := o c
  have o1 := o (c + 1)
  have lb := la_b6 hV
  unfold h_frm in_ at *
  simp only
  (repeat' split) <;> omega
theorem sp_X9_ofChapter {K : Int} {μ : am_M} {c w : Int} (hI : CI K μ) : cl_I kC 7 mX9_ofChapter [vR 0, vI c, vI w] μ (fun z m => z = q_ofChapter (pC μ 1) c w ∧ cq_ μ m) := by
  have hr := cq_rf hI
  have hl := hl_hC hI.h7
  have hlen := hl.1
  have hmx := hI.v.hl
  have hho := fun p hp => (hI.v.hh p hp).1
  refine ve_X9_ofChapter (vc_X9_ofChapter_0 ⟨fun hc => ?_, fun hc => ⟨(cif_t (fun h => hc (by rw [hlen]; exact h))).symm, hr⟩⟩)
  rw [hlen] at hc
  have e1 : q_ofChapter (pC μ 1) c w = _ := cif_f (fun h => h hc)
  have hg := hl_g hl hc.1 hc.2
  have hb := h_frm_b (P := pC μ 1) hI.v hc.1 hc.2
  refine ⟨fun q => ⟨(e1.trans (cif_t (by omega))).symm, hr⟩, fun q0 => ⟨fun q1 => ⟨hc.1, by omega, ?_⟩, fun q => ⟨(e1.trans (cif_t (by omega))).symm, hr⟩⟩⟩
  have e2 := e1.trans (cif_f (by omega))
  refine ⟨fun n0 => ⟨fun n1 => ⟨_, sp_X4_framesOfChapter (Q := fun z m => z = h_frm (μ 5 1) (cg μ) (hC μ) c ∧ m = μ) (hC μ) hI.v.okT hl hmx hho hc ⟨rfl, rfl⟩, ?_⟩, fun n1 => ⟨hc.1, by omega, ?_, hr⟩⟩, fun n0 => ⟨?_, hr⟩⟩
  · rintro z1 m2 ⟨h1, rfl⟩
    refine ⟨fun n2 => ⟨_, sp_X9_heard hI, fun m4 ⟨k1, k2, k3, k4, k5⟩ => ?_⟩, fun n2 => ⟨?_, hr⟩⟩
    · rw [hg.1, h1]
      refine ⟨_, sp_X7_greatestMix (Q := fun z m => z = mx_ (fun i => mixC m4 (((hC m2).getD c.toNat (0, 0)).1 + i)) ((if ((hC m2).getD c.toNat (0, 0)).1 + h_frm (m2 5 1) (cg m2) (hC m2) c < 600 then ((hC m2).getD c.toNat (0, 0)).1 + h_frm (m2 5 1) (cg m2) (hC m2) c else 600) - ((hC m2).getD c.toNat (0, 0)).1) ∧ m = m4) k4 k3.2.2.2 hb.2.2 ⟨hb.1, ?_⟩ ⟨rfl, rfl⟩, ?_⟩
      · have a1 := hb.2.1
        have a2 := hb.2.2.1
        change 0 ≤ ((hC m2).getD c.toNat (0, 0)).1 at a2
        change ((hC m2).getD c.toNat (0, 0)).1 + h_frm (m2 5 1) (cg m2) (hC m2) c ≤ 600 at a1
        omega
      · rintro z m ⟨g1, rfl⟩
        refine ⟨?_, k1⟩
        have a1 : ((hC m2).getD c.toNat (0, 0)).1 + h_frm (m2 5 1) (cg m2) (hC m2) c ≤ 600 := hb.2.1
        have em : mixC m = mixC m2 := by
          show mixP (pC m 1) = mixP (pC m2 1)
          rw [vC_G k5 rfL_9]
        rw [e2, if_neg n0, if_neg n1, if_neg n2, g1, em]
        congr 1
        show _ = h_frm (m2 5 1) (cg m2) (hC m2) c
        split <;> omega
    · rw [e2, if_neg n0, if_neg n1, if_pos n2, h1]; rfl
  · rw [e2, if_neg n0, if_pos n1, hg.2]; rfl
  · rw [e2, if_pos n0, hg.1]; rfl

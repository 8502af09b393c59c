/-! the class's sound: what it answers -/
def mi_ (s ms : Int) : Int := if s * ms / 100 < 999 then s * ms / 100 else 999
noncomputable abbrev mixC (μ : am_M) (f : Int) : Int := mi_ (suC μ f 4) (μ 2 0)
theorem su4_b {μ : am_M} (hV : vC μ) (f : Int) : in_ 0 8000 (suC μ f 4) := by
  have : 0 ≤ suC μ f 4 ∧ suC μ f 4 ≤ 4 * 1998 := su_b hV (μ 2 4) (by omega) (by omega)
  ((try unfold am_in); (try unfold in_ at *); omega)
theorem mi_b {s ms : Int} (h0 : in_ 0 8000 s) (h1 : in_ 0 401 ms) : (0 ≤ s * ms ∧ s * ms ≤ 7999 * 400) ∧ in_ 0 1000 (mi_ s ms) := by
  unfold in_ at *
  have m := mulb (x := s) (y := ms) (A := 7999) (B := 400) (by omega) (by omega) (by omega) (by omega)
  refine ⟨m, ?_⟩
  unfold mi_
  split <;> omega
theorem vc_X7_valueOnTrack_0 {x1 x2 : Int} {μ : am_M} {Q : Int → am_M → Prop} (h : (ok_T (cg μ) (μ 5 1)) ∧ (∀ v1 : Int, v1 = fst_ (on_p (cg μ) x1 x2) (μ 5 1) (-1) → (0 ≤ v1 → (in_ 0 32 v1) ∧ (in_ 0 8 1) ∧ ((am_in (x2 - (cg μ v1 1))) ∧ (∃ P : Int → am_M → Prop, cl_I kC 2 mX7_clipValue [vR 129, vI v1, vI (x2 - (cg μ v1 1))] μ P ∧ (∀ (z2 : Int) (m3 : am_M), P z2 m3 → Q z2 m3)))) ∧ (v1 < 0 → Q 0 μ))) : at_I kC 4 mX7_valueOnTrack 0 [vR 129, vI x1, vI x2, vU] [] μ Q := by
  refine s_aload_n dX7_valueOnTrack_0 rfl rfl ?_
  refine s_getR dX7_valueOnTrack_1 flX7_30 kn129 kk129 rfl kr129_0 ?_
  refine s_getR dX7_valueOnTrack_4 flX7_76 kn1 kk1 rfl kr1_3 ?_
  refine s_iload_n dX7_valueOnTrack_7 rfl rfl ?_
  refine s_iload_n dX7_valueOnTrack_8 rfl rfl ?_
  obtain ⟨p0, h⟩ := h
  refine s_callV (As := [vI x1, vI x2]) (rest := []) (k := 5) dX7_valueOnTrack_9 lkX7_110 kn5 ⟨by rw [kk5]; rfl, by rw [kk5]; decide⟩ lmX1_on rfl rfl (Nat.le_of_ble_eq_true rfl) (by decide) (Nat.le_refl 0) (Nat.le_refl 0) (hC := sp_X1_on (Q := fun z m => z = fst_ (on_p (cg μ) x1 x2) (μ 5 1) (-1) ∧ μ = m) p0 ⟨rfl, rfl⟩) (fun r n2 S2 m2 hP => ?_)
  obtain ⟨⟨rfl, rfl⟩, v1, rfl, hz, rfl⟩ := hP
  have h := h v1 hz
  refine s_istore_n dX7_valueOnTrack_12 rfl (by decide) (L' := [vR 129, vI x1, vI x2, vI v1]) rfl ?_
  refine s_iload_n dX7_valueOnTrack_13 rfl rfl ?_
  refine s_if_ge dX7_valueOnTrack_14 (tgt := 21) (by decide) (fun cc => ?_) (fun cc => ?_)
  · have h := h.1 cc
    refine s_aload_n dX7_valueOnTrack_21 rfl rfl ?_
    refine s_iload_n dX7_valueOnTrack_22 rfl rfl ?_
    refine s_iload_n dX7_valueOnTrack_23 rfl rfl ?_
    refine s_aload_n dX7_valueOnTrack_24 rfl rfl ?_
    refine s_getR dX7_valueOnTrack_25 flX7_30 kn129 kk129 rfl kr129_0 ?_
    refine s_getR dX7_valueOnTrack_28 flX7_76 kn1 kk1 rfl kr1_3 ?_
    refine s_iload_n dX7_valueOnTrack_31 rfl rfl ?_
    refine s_iconst dX7_valueOnTrack_32 (by decide) ?_
    obtain ⟨p0, p1, h⟩ := h
    refine s_callV (As := [vI v1, vI 1]) (rest := [vI x2, vI v1, vR 129]) (k := 5) dX7_valueOnTrack_33 lkX7_85 kn5 ⟨by rw [kk5]; rfl, by rw [kk5]; decide⟩ lmX1_get rfl rfl (Nat.le_of_ble_eq_true rfl) (by decide) (Nat.le_refl 0) (Nat.le_refl 0) (hC := sp_X1_get (Q := fun z m => cg μ v1 1 = z ∧ μ = m) p0 p1 ⟨rfl, rfl⟩) (fun r n2 S2 m2 hP => ?_)
    obtain ⟨⟨rfl, rfl⟩, z, rfl, rfl, rfl⟩ := hP
    obtain ⟨c, h⟩ := h
    refine s_isub dX7_valueOnTrack_36 (am_w_id c) ?_
    obtain ⟨P, hcl, h⟩ := h
    refine s_callV (As := [vI v1, vI (x2 - (cg μ v1 1))]) (rest := []) (k := 129) dX7_valueOnTrack_37 lkX7_91 kn129 ⟨by rw [kk129]; rfl, by rw [kk129]; decide⟩ lmX7_clipValue rfl rfl (Nat.le_of_ble_eq_true rfl) (by decide) (Nat.le_refl 0) (Nat.le_refl 0) (hC := hcl) (fun r n2 S2 m3 hP => ?_)
    obtain ⟨⟨rfl, rfl⟩, z2, rfl, hq⟩ := hP
    have h := h z2 m3 hq
    exact s_ireturn dX7_valueOnTrack_40 (Or.inl rfl) ⟨⟨rfl, rfl⟩, _, rfl, h⟩
  · have h := h.2 cc
    refine s_iconst dX7_valueOnTrack_17 (by decide) ?_
    refine s_goto dX7_valueOnTrack_18 (tgt := 40) (by decide) ?_
    exact s_ireturn dX7_valueOnTrack_40 (Or.inl rfl) ⟨⟨rfl, rfl⟩, _, rfl, h⟩
theorem ve_X7_valueOnTrack {x1 x2 : Int} {μ : am_M} {Q : Int → am_M → Prop} (h : at_I kC 4 mX7_valueOnTrack 0 [vR 129, vI x1, vI x2, vU] [] μ Q) : cl_I kC 4 mX7_valueOnTrack [vR 129, vI x1, vI x2] μ Q := am_intro pmX7_valueOnTrack (Nat.le_of_ble_eq_true rfl) rfl h
theorem sp_X7_valueOnTrack {μ : am_M} {t f : Int} {Q : Int → am_M → Prop} (hV : vC μ) (hv : sv_ μ) (hf : in_ 0 600 f) (hQ : Q (vt_ (μ 2 4) (tg (μ 4) 4) (μ 5 1) (cg μ) t f) μ) : cl_I kC 4 mX7_valueOnTrack [vR 129, vI t, vI f] μ Q := by
  have hn := hV.hn
  refine ve_X7_valueOnTrack (vc_X7_valueOnTrack_0 ⟨hV.okT, fun v e => ?_⟩)
  have ev : ont_ (μ 5 1) (cg μ) t f = v := e.symm
  unfold vt_ at hQ
  rw [ev] at hQ
  have oc := ont_c (g := cg μ) hn.1 t f
  rw [ev] at oc
  refine ⟨fun q => ?_, fun q => by rw [if_pos q] at hQ; exact hQ⟩
  rcases oc with ⟨e1, -⟩ | ⟨a1, a2, a3⟩
  · omega
  · have o := (hV.hc v a1 a2).1
    unfold okC at o
    unfold on_p en_ at a3
    rw [if_neg (by omega)] at hQ
    exact ⟨(by (try unfold am_in); (try unfold in_ at *); omega), (by (try unfold am_in); (try unfold in_ at *); omega), (by (try unfold am_in); (try unfold in_ at *); omega), _, sp_X7_clipValue (Q := fun z m => Q z m) hV hv ⟨a1, a2⟩ (by omega) hQ, fun z m k => k⟩
theorem vc_X7_duckedFrames_0 {x1 : Int} {μ : am_M} {Q : Int → am_M → Prop} (h : (ok_T (cg μ) (μ 5 1)) ∧ (at_I kC 4 mX7_duckedFrames 16 [vR 129, vI x1, vI (la_ (cg μ) (μ 5 1)), vI 0, vI 0] [] μ Q)) : at_I kC 4 mX7_duckedFrames 0 [vR 129, vI x1, vU, vU, vU] [] μ Q := by
  refine s_aload_n dX7_duckedFrames_0 rfl rfl ?_
  refine s_getR dX7_duckedFrames_1 flX7_30 kn129 kk129 rfl kr129_0 ?_
  refine s_getR dX7_duckedFrames_4 flX7_76 kn1 kk1 rfl kr1_3 ?_
  obtain ⟨p0, h⟩ := h
  refine s_callV (As := []) (rest := []) (k := 5) dX7_duckedFrames_7 lkX7_117 kn5 ⟨by rw [kk5]; rfl, by rw [kk5]; decide⟩ lmX1_lastEnd rfl rfl (Nat.le_of_ble_eq_true rfl) (by decide) (Nat.le_refl 0) (Nat.le_refl 0) (hC := sp_X1_lastEnd (Q := fun z m => la_ (cg μ) (μ 5 1) = z ∧ μ = m) p0 ⟨rfl, rfl⟩) (fun r n2 S2 m2 hP => ?_)
  obtain ⟨⟨rfl, rfl⟩, z, rfl, rfl, rfl⟩ := hP
  refine s_istore_n dX7_duckedFrames_10 rfl (by decide) (L' := [vR 129, vI x1, vI (la_ (cg μ) (μ 5 1)), vU, vU]) rfl ?_
  refine s_iconst dX7_duckedFrames_11 (by decide) ?_
  refine s_istore_n dX7_duckedFrames_12 rfl (by decide) (L' := [vR 129, vI x1, vI (la_ (cg μ) (μ 5 1)), vI 0, vU]) rfl ?_
  refine s_iconst dX7_duckedFrames_13 (by decide) ?_
  refine s_istore dX7_duckedFrames_14 (by decide) (L' := [vR 129, vI x1, vI (la_ (cg μ) (μ 5 1)), vI 0, vI 0]) rfl ?_
  exact h
theorem vc_X7_duckedFrames_16 {x1 x2 x3 x4 : Int} {μ : am_M} {Q : Int → am_M → Prop} (h : (x2 ≤ x4 → Q x3 μ) ∧ (x4 < x2 → (in_ 0 4 x1) ∧ (in_ 0 600 x4) ∧ (bk_ μ (dukC μ)) ∧ (∀ v1 : Int, v1 = (cif (dukC μ x1 x4) 1 0) → (am_in (x3 + v1)) ∧ ((am_in (x4 + 1)) ∧ (at_I kC 4 mX7_duckedFrames 16 [vR 129, vI x1, vI x2, vI (x3 + v1), vI (x4 + 1)] [] μ Q))))) : at_I kC 4 mX7_duckedFrames 16 [vR 129, vI x1, vI x2, vI x3, vI x4] [] μ Q := by
  refine s_iload dX7_duckedFrames_16 rfl ?_
  refine s_iload_n dX7_duckedFrames_18 rfl rfl ?_
  refine s_icmp_ge dX7_duckedFrames_19 (tgt := 46) (by decide) (fun cc => ?_) (fun cc => ?_)
  · have h := h.1 cc
    refine s_iload_n dX7_duckedFrames_46 rfl rfl ?_
    exact s_ireturn dX7_duckedFrames_47 (Or.inl rfl) ⟨⟨rfl, rfl⟩, _, rfl, h⟩
  · have h := h.2 cc
    refine s_iload_n dX7_duckedFrames_22 rfl rfl ?_
    refine s_aload_n dX7_duckedFrames_23 rfl rfl ?_
    refine s_iload_n dX7_duckedFrames_24 rfl rfl ?_
    refine s_iload dX7_duckedFrames_25 rfl ?_
    obtain ⟨p0, p1, p2, h⟩ := h
    refine s_callV (As := [vI x1, vI x4]) (rest := [vI x3]) (k := 129) dX7_duckedFrames_27 lkX7_113 kn129 ⟨by rw [kk129]; rfl, by rw [kk129]; decide⟩ lmX7_isDucked rfl rfl (Nat.le_of_ble_eq_true rfl) (by decide) (Nat.le_refl 0) (Nat.le_refl 0) (hC := sp_X7_isDucked (Q := fun z m => bI (dukC μ x1 x4) = z ∧ μ = m) p0 p1 p2 ⟨rfl, rfl⟩) (fun r n2 S2 m2 hP => ?_)
    obtain ⟨⟨rfl, rfl⟩, z, rfl, rfl, rfl⟩ := hP
    have kj2 : ∀ (v1 : Int), ((am_in (x3 + v1)) ∧ ((am_in (x4 + 1)) ∧ (at_I kC 4 mX7_duckedFrames 16 [vR 129, vI x1, vI x2, vI (x3 + v1), vI (x4 + 1)] [] μ Q))) → at_I kC 4 mX7_duckedFrames 38 [vR 129, vI x1, vI x2, vU, vI x4] [vI v1, vI x3] μ Q := by
      intro v1 h
      obtain ⟨c, h⟩ := h
      refine s_iadd dX7_duckedFrames_38 (am_w_id c) ?_
      refine s_istore_n dX7_duckedFrames_39 rfl (by decide) (L' := [vR 129, vI x1, vI x2, vI (x3 + v1), vI x4]) rfl ?_
      obtain ⟨c, h⟩ := h
      refine s_iinc dX7_duckedFrames_40 rfl (am_w_id c) (by decide) (L' := [vR 129, vI x1, vI x2, vI (x3 + v1), vI (x4 + 1)]) rfl ?_
      refine s_goto dX7_duckedFrames_43 (tgt := 16) (by decide) ?_
      exact h
    refine s_if_eq dX7_duckedFrames_30 (tgt := 37) (by decide) (fun cc => ?_) (fun cc => ?_)
    · have hp0 := (bI_eq cc)
      refine s_iconst dX7_duckedFrames_37 (by decide) ?_
      exact am_lesS (kj2 0 (h 0 (by rw [cif_f hp0]))) ⟨Or.inr rfl, Or.inr rfl, Or.inr rfl, Or.inl rfl, Or.inr rfl, trivial⟩
    · have hp0 := (bI_ne cc)
      refine s_iconst dX7_duckedFrames_33 (by decide) ?_
      refine s_goto dX7_duckedFrames_34 (tgt := 38) (by decide) ?_
      exact am_lesS (kj2 1 (h 1 (by rw [cif_t hp0]))) ⟨Or.inr rfl, Or.inr rfl, Or.inr rfl, Or.inl rfl, Or.inr rfl, trivial⟩
theorem ve_X7_duckedFrames {x1 : Int} {μ : am_M} {Q : Int → am_M → Prop} (h : at_I kC 4 mX7_duckedFrames 0 [vR 129, vI x1, vU, vU, vU] [] μ Q) : cl_I kC 4 mX7_duckedFrames [vR 129, vI x1] μ Q := am_intro pmX7_duckedFrames (Nat.le_of_ble_eq_true rfl) rfl h
theorem la_b6 {E : Nat → Int} {T : Tb} {sn : Int} {S : Tb} {n : Int} {g : Tb} {H : Hl} (h : vp_ E T sn S n g H) : in_ 0 601 (la_ g n) := by
  refine fI_i (fun a _ => in_ 0 601 a) ⟨by omega, by omega⟩ h.hn.1 (fun i b h0 h1 q => ?_)
  have o := (h.hc i h0 h1).1
  unfold okC at o
  split
  · unfold en_; ((try unfold am_in); (try unfold in_ at *); omega)
  · exact q
theorem sp_X7_duckedFrames {μ : am_M} {t : Int} {Q : Int → am_M → Prop} (hV : vC μ) (hb : bk_ μ (dukC μ)) (ht : in_ 0 4 t) (hQ : Q (sm_ (fun f => cif (dukC μ t f) 1 0) (la_ (cg μ) (μ 5 1))) μ) : cl_I kC 4 mX7_duckedFrames [vR 129, vI t] μ Q := by
  have lb := la_b6 hV
  have : ∀ (j : Nat) (y x : Int), x + j = la_ (cg μ) (μ 5 1) → 0 ≤ x → y = sm_ (fun f => cif (dukC μ t f) 1 0) x → at_I kC 4 mX7_duckedFrames 16 [vR 129, vI t, vI (la_ (cg μ) (μ 5 1)), vI y, vI x] [] μ Q := by
    intro j
    induction j with
    | zero =>
      intro y x h h0 e
      refine vc_X7_duckedFrames_16 ⟨fun _ => ?_, fun q => by omega⟩
      rw [e, show x = la_ (cg μ) (μ 5 1) by omega]
      exact hQ
    | succ j ih =>
      intro y x h h0 e
      have s1 := sm_b (f := fun f => cif (dukC μ t f) 1 0) (n := x) (B := 1) h0 (by omega) (fun i _ _ => by
        show 0 ≤ cif _ _ _ ∧ cif _ _ _ ≤ (1 : Int)
        by_cases c : dukC μ t i
        · rw [cif_t c]; omega
        · rw [cif_f c]; omega)
      refine vc_X7_duckedFrames_16 ⟨fun q => by omega, fun q => ⟨ht, (by (try unfold am_in); (try unfold in_ at *); omega), hb, fun v ev => ?_⟩⟩
      have v01 : 0 ≤ v ∧ v ≤ 1 := by
        rw [ev]
        by_cases c : dukC μ t x
        · rw [cif_t c]; omega
        · rw [cif_f c]; omega
      refine ⟨by rw [e]; ((try unfold am_in); (try unfold in_ at *); omega), (by (try unfold am_in); (try unfold in_ at *); omega), ih _ (x + 1) (by omega) (by omega) ?_⟩
      unfold sm_ at e ⊢
      rw [fI_s _ _ h0, ← e, ev]
  exact ve_X7_duckedFrames (vc_X7_duckedFrames_0 ⟨hV.okT, this (la_ (cg μ) (μ 5 1)).toNat 0 0 (by ((try unfold am_in); (try unfold in_ at *); omega)) (by omega) rfl⟩)
theorem vc_X7_greatestOfTrack_0 {x1 : Int} {μ : am_M} {Q : Int → am_M → Prop} (h : at_I kC 3 mX7_greatestOfTrack 4 [vR 129, vI x1, vI 0, vI 0] [] μ Q) : at_I kC 3 mX7_greatestOfTrack 0 [vR 129, vI x1, vU, vU] [] μ Q := by
  refine s_iconst dX7_greatestOfTrack_0 (by decide) ?_
  refine s_istore_n dX7_greatestOfTrack_1 rfl (by decide) (L' := [vR 129, vI x1, vI 0, vU]) rfl ?_
  refine s_iconst dX7_greatestOfTrack_2 (by decide) ?_
  refine s_istore_n dX7_greatestOfTrack_3 rfl (by decide) (L' := [vR 129, vI x1, vI 0, vI 0]) rfl ?_
  exact h
theorem vc_X7_greatestOfTrack_4 {x1 x2 x3 : Int} {μ : am_M} {Q : Int → am_M → Prop} (h : (600 ≤ x3 → Q x2 μ) ∧ (x3 < 600 → ∃ P : Int → am_M → Prop, cl_I kC 2 mX7_wetAt [vR 129, vI x1, vI x3] μ P ∧ (∀ (z1 : Int) (m2 : am_M), P z1 m2 → (am_in (x3 + 1)) ∧ (at_I kC 3 mX7_greatestOfTrack 4 [vR 129, vI x1, vI (if x2 < z1 then z1 else x2), vI (x3 + 1)] [] m2 Q)))) : at_I kC 3 mX7_greatestOfTrack 4 [vR 129, vI x1, vI x2, vI x3] [] μ Q := by
  refine s_iload_n dX7_greatestOfTrack_4 rfl rfl ?_
  refine s_sipush dX7_greatestOfTrack_5 (by decide) ?_
  refine s_icmp_ge dX7_greatestOfTrack_8 (tgt := 28) (by decide) (fun cc => ?_) (fun cc => ?_)
  · have h := h.1 cc
    refine s_iload_n dX7_greatestOfTrack_28 rfl rfl ?_
    exact s_ireturn dX7_greatestOfTrack_29 (Or.inl rfl) ⟨⟨rfl, rfl⟩, _, rfl, h⟩
  · have h := h.2 cc
    refine s_iload_n dX7_greatestOfTrack_11 rfl rfl ?_
    refine s_aload_n dX7_greatestOfTrack_12 rfl rfl ?_
    refine s_iload_n dX7_greatestOfTrack_13 rfl rfl ?_
    refine s_iload_n dX7_greatestOfTrack_14 rfl rfl ?_
    obtain ⟨P, hcl, h⟩ := h
    refine s_callV (As := [vI x1, vI x3]) (rest := [vI x2]) (k := 129) dX7_greatestOfTrack_15 lkX7_97 kn129 ⟨by rw [kk129]; rfl, by rw [kk129]; decide⟩ lmX7_wetAt rfl rfl (Nat.le_of_ble_eq_true rfl) (by decide) (Nat.le_refl 0) (Nat.le_refl 0) (hC := hcl) (fun r n2 S2 m2 hP => ?_)
    obtain ⟨⟨rfl, rfl⟩, z1, rfl, hq⟩ := hP
    have h := h z1 m2 hq
    refine s_max dX7_greatestOfTrack_18 wmX7_72 (Nat.le_of_ble_eq_true rfl) (by decide) rfl ?_
    refine s_istore_n dX7_greatestOfTrack_21 rfl (by decide) (L' := [vR 129, vI x1, vI (if x2 < z1 then z1 else x2), vI x3]) rfl ?_
    obtain ⟨c, h⟩ := h
    refine s_iinc dX7_greatestOfTrack_22 rfl (am_w_id c) (by decide) (L' := [vR 129, vI x1, vI (if x2 < z1 then z1 else x2), vI (x3 + 1)]) rfl ?_
    refine s_goto dX7_greatestOfTrack_25 (tgt := 4) (by decide) ?_
    exact h
theorem ve_X7_greatestOfTrack {x1 : Int} {μ : am_M} {Q : Int → am_M → Prop} (h : at_I kC 3 mX7_greatestOfTrack 0 [vR 129, vI x1, vU, vU] [] μ Q) : cl_I kC 3 mX7_greatestOfTrack [vR 129, vI x1] μ Q := am_intro pmX7_greatestOfTrack (Nat.le_of_ble_eq_true rfl) rfl h
theorem sp_X7_greatestOfTrack {μ : am_M} {t : Int} {Q : Int → am_M → Prop} (hV : vC μ) (hd : dk_ μ (drC μ)) (hb : bk_ μ (dukC μ)) (ht : in_ 0 4 t) (hQ : Q (mx_ (weC μ t) 600) μ) : cl_I kC 3 mX7_greatestOfTrack [vR 129, vI t] μ Q := by
  have : ∀ (j : Nat) (y x : Int), x + j = 600 → 0 ≤ x → y = mx_ (weC μ t) x → at_I kC 3 mX7_greatestOfTrack 4 [vR 129, vI t, vI y, vI x] [] μ Q := by
    intro j
    induction j with
    | zero =>
      intro y x h h0 e
      refine vc_X7_greatestOfTrack_4 ⟨fun _ => ?_, fun q => by omega⟩
      rw [e, show x = 600 by omega]
      exact hQ
    | succ j ih =>
      intro y x h h0 e
      refine vc_X7_greatestOfTrack_4 ⟨fun q => by omega, fun q => ⟨_, sp_X7_wetAt (Q := fun z m => z = weC μ t x ∧ m = μ) hV ht (by (try unfold am_in); (try unfold in_ at *); omega) hd hb ⟨rfl, rfl⟩, ?_⟩⟩
      rintro z m ⟨ez, rfl⟩
      refine ⟨(by (try unfold am_in); (try unfold in_ at *); omega), ih _ (x + 1) (by omega) (by omega) ?_⟩
      unfold mx_ at e ⊢
      rw [fI_s _ _ h0, ← e, ez]
  exact ve_X7_greatestOfTrack (vc_X7_greatestOfTrack_0 (this 600 0 0 (by omega) (by omega) rfl))
theorem vc_X7_unlimitedAt_0 {x1 : Int} {μ : am_M} {Q : Int → am_M → Prop} (h : (0 ≤ x1) ∧ (x1 < 600) ∧ ((am_in ((μ 143 ((x1).toNat)) * (μ 2 0))) ∧ ((0 ≤ (μ 143 ((x1).toNat)) * (μ 2 0)) ∧ (Q (((μ 143 ((x1).toNat)) * (μ 2 0)) / 100) μ)))) : at_I kC 1 mX7_unlimitedAt 0 [vR 129, vI x1] [] μ Q := by
  refine s_aload_n dX7_unlimitedAt_0 rfl rfl ?_
  refine s_getR dX7_unlimitedAt_1 flX7_23 kn129 kk129 rfl kr129_4 ?_
  refine s_iload_n dX7_unlimitedAt_4 rfl rfl ?_
  obtain ⟨c, c2, h⟩ := h
  refine s_iald (x := (μ 143 ((x1).toNat))) dX7_unlimitedAt_5 kn143 kk143 kl143 c c2 rfl ?_
  refine s_aload_n dX7_unlimitedAt_6 rfl rfl ?_
  refine s_getR dX7_unlimitedAt_7 flX7_30 kn129 kk129 rfl kr129_0 ?_
  refine s_getR dX7_unlimitedAt_10 flX7_107 kn1 kk1 rfl kr1_0 ?_
  refine s_iconst dX7_unlimitedAt_13 (by decide) ?_
  refine s_iald (x := (μ 2 0)) dX7_unlimitedAt_14 kn2 kk2 kl2 (by decide) (by decide) rfl ?_
  obtain ⟨c, h⟩ := h
  refine s_imul dX7_unlimitedAt_15 (am_w_id c) ?_
  refine s_bipush dX7_unlimitedAt_16 (by decide) ?_
  obtain ⟨c, h⟩ := h
  refine s_idivp dX7_unlimitedAt_18 c (by decide) rfl ?_
  exact s_ireturn dX7_unlimitedAt_19 (Or.inl rfl) ⟨⟨rfl, rfl⟩, _, rfl, h⟩
theorem ve_X7_unlimitedAt {x1 : Int} {μ : am_M} {Q : Int → am_M → Prop} (h : at_I kC 1 mX7_unlimitedAt 0 [vR 129, vI x1] [] μ Q) : cl_I kC 1 mX7_unlimitedAt [vR 129, vI x1] μ Q := am_intro pmX7_unlimitedAt (Nat.le_of_ble_eq_true rfl) rfl h
theorem sp_X7_unlimitedAt {μ : am_M} {f : Int} {Q : Int → am_M → Prop} (hV : vC μ) (hs : sk_ μ (fun f => suC μ f 4)) (hf : in_ 0 600 f) (hQ : Q (suC μ f 4 * μ 2 0 / 100) μ) : cl_I kC 1 mX7_unlimitedAt [vR 129, vI f] μ Q := by
  have b := (mi_b (su4_b hV f) hV.hE.1).1
  have e : μ 143 f.toNat = suC μ f 4 := hs f hf
  refine ve_X7_unlimitedAt (vc_X7_unlimitedAt_0 ⟨hf.1, hf.2, ?_⟩)
  rw [e]
  exact ⟨(by (try unfold am_in); (try unfold in_ at *); omega), b.1, hQ⟩
theorem vc_X7_mixAt_0 {x1 : Int} {μ : am_M} {Q : Int → am_M → Prop} (h : (vC μ) ∧ (sk_ μ (fun f => suC μ f 4)) ∧ (in_ 0 600 x1) ∧ (Q (if suC μ x1 4 * μ 2 0 / 100 < 999 then suC μ x1 4 * μ 2 0 / 100 else 999) μ)) : at_I kC 2 mX7_mixAt 0 [vR 129, vI x1] [] μ Q := by
  refine s_sipush dX7_mixAt_0 (by decide) ?_
  refine s_aload_n dX7_mixAt_3 rfl rfl ?_
  refine s_iload_n dX7_mixAt_4 rfl rfl ?_
  obtain ⟨p0, p1, p2, h⟩ := h
  refine s_callV (As := [vI x1]) (rest := [vI 999]) (k := 129) dX7_mixAt_5 lkX7_121 kn129 ⟨by rw [kk129]; rfl, by rw [kk129]; decide⟩ lmX7_unlimitedAt rfl rfl (Nat.le_of_ble_eq_true rfl) (by decide) (Nat.le_refl 0) (Nat.le_refl 0) (hC := sp_X7_unlimitedAt (Q := fun z m => suC μ x1 4 * μ 2 0 / 100 = z ∧ μ = m) p0 p1 p2 ⟨rfl, rfl⟩) (fun r n2 S2 m2 hP => ?_)
  obtain ⟨⟨rfl, rfl⟩, z, rfl, rfl, rfl⟩ := hP
  refine s_min dX7_mixAt_8 wmX7_67 (Nat.le_of_ble_eq_true rfl) (by decide) rfl ?_
  exact s_ireturn dX7_mixAt_11 (Or.inl rfl) ⟨⟨rfl, rfl⟩, _, rfl, h⟩
theorem ve_X7_mixAt {x1 : Int} {μ : am_M} {Q : Int → am_M → Prop} (h : at_I kC 2 mX7_mixAt 0 [vR 129, vI x1] [] μ Q) : cl_I kC 2 mX7_mixAt [vR 129, vI x1] μ Q := am_intro pmX7_mixAt (Nat.le_of_ble_eq_true rfl) rfl h
theorem sp_X7_mixAt {μ : am_M} {f : Int} {Q : Int → am_M → Prop} (hV : vC μ) (hs : sk_ μ (fun f => suC μ f 4)) (hf : in_ 0 600 f) (hQ : Q (mixC μ f) μ) : cl_I kC 2 mX7_mixAt [vR 129, vI f] μ Q :=
  ve_X7_mixAt (vc_X7_mixAt_0 ⟨hV, hs, hf, hQ⟩)
theorem mix_b {μ : am_M} (hV : vC μ) (f : Int) : in_ 0 1000 (mixC μ f) := (mi_b (su4_b hV f) hV.hE.1).2
theorem vc_X7_greatestMix_0 {x1 x2 : Int} {μ : am_M} {Q : Int → am_M → Prop} (h : (am_in (x1 + x2)) ∧ (at_I kC 3 mX7_greatestMix 16 [vR 129, vU, vU, vI (if x1 + x2 < 600 then x1 + x2 else 600), vI 0, vI x1] [] μ Q)) : at_I kC 3 mX7_greatestMix 0 [vR 129, vI x1, vI x2, vU, vU, vU] [] μ Q := by
  refine s_sipush dX7_greatestMix_0 (by decide) ?_
  refine s_iload_n dX7_greatestMix_3 rfl rfl ?_
  refine s_iload_n dX7_greatestMix_4 rfl rfl ?_
  obtain ⟨c, h⟩ := h
  refine s_iadd dX7_greatestMix_5 (am_w_id c) ?_
  refine s_min dX7_greatestMix_6 wmX7_67 (Nat.le_of_ble_eq_true rfl) (by decide) rfl ?_
  refine s_istore_n dX7_greatestMix_9 rfl (by decide) (L' := [vR 129, vI x1, vI x2, vI (if x1 + x2 < 600 then x1 + x2 else 600), vU, vU]) rfl ?_
  refine s_iconst dX7_greatestMix_10 (by decide) ?_
  refine s_istore dX7_greatestMix_11 (by decide) (L' := [vR 129, vI x1, vI x2, vI (if x1 + x2 < 600 then x1 + x2 else 600), vI 0, vU]) rfl ?_
  refine s_iload_n dX7_greatestMix_13 rfl rfl ?_
  refine s_istore dX7_greatestMix_14 (by decide) (L' := [vR 129, vI x1, vI x2, vI (if x1 + x2 < 600 then x1 + x2 else 600), vI 0, vI x1]) rfl ?_
  exact am_lesS h ⟨Or.inr rfl, Or.inl rfl, Or.inl rfl, Or.inr rfl, Or.inr rfl, Or.inr rfl, trivial⟩
theorem vc_X7_greatestMix_16 {x3 x4 x5 : Int} {μ : am_M} {Q : Int → am_M → Prop} (h : (x3 ≤ x5 → Q x4 μ) ∧ (x5 < x3 → (vC μ) ∧ (sk_ μ (fun f => suC μ f 4)) ∧ (in_ 0 600 x5) ∧ ((am_in (x5 + 1)) ∧ (at_I kC 3 mX7_greatestMix 16 [vR 129, vU, vU, vI x3, vI (if x4 < mixC μ x5 then mixC μ x5 else x4), vI (x5 + 1)] [] μ Q)))) : at_I kC 3 mX7_greatestMix 16 [vR 129, vU, vU, vI x3, vI x4, vI x5] [] μ Q := by
  refine s_iload dX7_greatestMix_16 rfl ?_
  refine s_iload_n dX7_greatestMix_18 rfl rfl ?_
  refine s_icmp_ge dX7_greatestMix_19 (tgt := 41) (by decide) (fun cc => ?_) (fun cc => ?_)
  · have h := h.1 cc
    refine s_iload dX7_greatestMix_41 rfl ?_
    exact s_ireturn dX7_greatestMix_43 (Or.inl rfl) ⟨⟨rfl, rfl⟩, _, rfl, h⟩
  · have h := h.2 cc
    refine s_iload dX7_greatestMix_22 rfl ?_
    refine s_aload_n dX7_greatestMix_24 rfl rfl ?_
    refine s_iload dX7_greatestMix_25 rfl ?_
    obtain ⟨p0, p1, p2, h⟩ := h
    refine s_callV (As := [vI x5]) (rest := [vI x4]) (k := 129) dX7_greatestMix_27 lkX7_125 kn129 ⟨by rw [kk129]; rfl, by rw [kk129]; decide⟩ lmX7_mixAt rfl rfl (Nat.le_of_ble_eq_true rfl) (by decide) (Nat.le_refl 0) (Nat.le_refl 0) (hC := sp_X7_mixAt (Q := fun z m => mixC μ x5 = z ∧ μ = m) p0 p1 p2 ⟨rfl, rfl⟩) (fun r n2 S2 m2 hP => ?_)
    obtain ⟨⟨rfl, rfl⟩, z, rfl, rfl, rfl⟩ := hP
    refine s_max dX7_greatestMix_30 wmX7_72 (Nat.le_of_ble_eq_true rfl) (by decide) rfl ?_
    refine s_istore dX7_greatestMix_33 (by decide) (L' := [vR 129, vU, vU, vI x3, vI (if x4 < mixC μ x5 then mixC μ x5 else x4), vI x5]) rfl ?_
    obtain ⟨c, h⟩ := h
    refine s_iinc dX7_greatestMix_35 rfl (am_w_id c) (by decide) (L' := [vR 129, vU, vU, vI x3, vI (if x4 < mixC μ x5 then mixC μ x5 else x4), vI (x5 + 1)]) rfl ?_
    refine s_goto dX7_greatestMix_38 (tgt := 16) (by decide) ?_
    exact h
theorem ve_X7_greatestMix {x1 x2 : Int} {μ : am_M} {Q : Int → am_M → Prop} (h : at_I kC 3 mX7_greatestMix 0 [vR 129, vI x1, vI x2, vU, vU, vU] [] μ Q) : cl_I kC 3 mX7_greatestMix [vR 129, vI x1, vI x2] μ Q := am_intro pmX7_greatestMix (Nat.le_of_ble_eq_true rfl) rfl h
theorem sp_X7_greatestMix {μ : am_M} {a l : Int} {Q : Int → am_M → Prop} (hV : vC μ) (hs : sk_ μ (fun f => suC μ f 4)) (ha : in_ 0 600 a) (hl : in_ 0 601 l) (hQ : Q (mx_ (fun i => mixC μ (a + i)) ((if a + l < 600 then a + l else 600) - a)) μ) : cl_I kC 3 mX7_greatestMix [vR 129, vI a, vI l] μ Q := by
  refine ve_X7_greatestMix (vc_X7_greatestMix_0 ⟨(by (try unfold am_in); (try unfold in_ at *); omega), ?_⟩)
  have tb : a ≤ (if a + l < 600 then a + l else 600) ∧ (if a + l < 600 then a + l else 600) ≤ 600 := by unfold in_ at *; split <;> omega
  generalize (if a + l < 600 then a + l else 600) = b at *
  have : ∀ (j : Nat) (y x : Int), x + j = b → a ≤ x → y = mx_ (fun i => mixC μ (a + i)) (x - a) → at_I kC 3 mX7_greatestMix 16 [vR 129, vU, vU, vI b, vI y, vI x] [] μ Q := by
    intro j
    induction j with
    | zero =>
      intro y x h h0 e
      refine vc_X7_greatestMix_16 ⟨fun _ => ?_, fun q => by omega⟩
      rw [e, show x = b by omega]
      exact hQ
    | succ j ih =>
      intro y x h h0 e
      refine vc_X7_greatestMix_16 ⟨fun q => by omega, fun q => ⟨hV, hs, (by (try unfold am_in); (try unfold in_ at *); omega), (by (try unfold am_in); (try unfold in_ at *); omega), ih _ (x + 1) (by omega) (by omega) ?_⟩⟩
      unfold mx_ at e ⊢
      rw [show x + 1 - a = (x - a) + 1 by omega, fI_s _ _ (by omega), ← e]
      simp only [show a + (x - a) = x by omega]
  exact this (b - a).toNat 0 a (by omega) (by omega) (by rw [show a - a = 0 by omega]; rfl)
def fg_ (F : Int → Int) (n : Int) : Int := fI (fun a i => if F a < F (i + 1) then i + 1 else a) 0 n
theorem vc_X7_frameOfGreatestMix_0 {μ : am_M} {Q : Int → am_M → Prop} (h : at_I kC 3 mX7_frameOfGreatestMix 4 [vR 129, vI 0, vI 1] [] μ Q) : at_I kC 3 mX7_frameOfGreatestMix 0 [vR 129, vU, vU] [] μ Q := by
  refine s_iconst dX7_frameOfGreatestMix_0 (by decide) ?_
  refine s_istore_n dX7_frameOfGreatestMix_1 rfl (by decide) (L' := [vR 129, vI 0, vU]) rfl ?_
  refine s_iconst dX7_frameOfGreatestMix_2 (by decide) ?_
  refine s_istore_n dX7_frameOfGreatestMix_3 rfl (by decide) (L' := [vR 129, vI 0, vI 1]) rfl ?_
  exact h
theorem vc_X7_frameOfGreatestMix_4 {x1 x2 : Int} {μ : am_M} {Q : Int → am_M → Prop} (h : (600 ≤ x2 → Q x1 μ) ∧ (x2 < 600 → (vC μ) ∧ (sk_ μ (fun f => suC μ f 4)) ∧ (in_ 0 600 x2) ∧ ((vC μ) ∧ (sk_ μ (fun f => suC μ f 4)) ∧ (in_ 0 600 x1) ∧ (∀ v1 : Int, v1 = (if mixC μ x1 < mixC μ x2 then x2 else x1) → (am_in (x2 + 1)) ∧ (at_I kC 3 mX7_frameOfGreatestMix 4 [vR 129, vI v1, vI (x2 + 1)] [] μ Q))))) : at_I kC 3 mX7_frameOfGreatestMix 4 [vR 129, vI x1, vI x2] [] μ Q := by
  refine s_iload_n dX7_frameOfGreatestMix_4 rfl rfl ?_
  refine s_sipush dX7_frameOfGreatestMix_5 (by decide) ?_
  refine s_icmp_ge dX7_frameOfGreatestMix_8 (tgt := 32) (by decide) (fun cc => ?_) (fun cc => ?_)
  · have h := h.1 cc
    refine s_iload_n dX7_frameOfGreatestMix_32 rfl rfl ?_
    exact s_ireturn dX7_frameOfGreatestMix_33 (Or.inl rfl) ⟨⟨rfl, rfl⟩, _, rfl, h⟩
  · have h := h.2 cc
    refine s_aload_n dX7_frameOfGreatestMix_11 rfl rfl ?_
    refine s_iload_n dX7_frameOfGreatestMix_12 rfl rfl ?_
    obtain ⟨p0, p1, p2, h⟩ := h
    refine s_callV (As := [vI x2]) (rest := []) (k := 129) dX7_frameOfGreatestMix_13 lkX7_125 kn129 ⟨by rw [kk129]; rfl, by rw [kk129]; decide⟩ lmX7_mixAt rfl rfl (Nat.le_of_ble_eq_true rfl) (by decide) (Nat.le_refl 0) (Nat.le_refl 0) (hC := sp_X7_mixAt (Q := fun z m => mixC μ x2 = z ∧ μ = m) p0 p1 p2 ⟨rfl, rfl⟩) (fun r n2 S2 m2 hP => ?_)
    obtain ⟨⟨rfl, rfl⟩, z, rfl, rfl, rfl⟩ := hP
    refine s_aload_n dX7_frameOfGreatestMix_16 rfl rfl ?_
    refine s_iload_n dX7_frameOfGreatestMix_17 rfl rfl ?_
    obtain ⟨p0, p1, p2, h⟩ := h
    refine s_callV (As := [vI x1]) (rest := [vI (mixC μ x2)]) (k := 129) dX7_frameOfGreatestMix_18 lkX7_125 kn129 ⟨by rw [kk129]; rfl, by rw [kk129]; decide⟩ lmX7_mixAt rfl rfl (Nat.le_of_ble_eq_true rfl) (by decide) (Nat.le_refl 0) (Nat.le_refl 0) (hC := sp_X7_mixAt (Q := fun z m => mixC μ x1 = z ∧ μ = m) p0 p1 p2 ⟨rfl, rfl⟩) (fun r n2 S2 m2 hP => ?_)
    obtain ⟨⟨rfl, rfl⟩, z, rfl, rfl, rfl⟩ := hP
    have kj2 : ∀ (v1 : Int), ((am_in (x2 + 1)) ∧ (at_I kC 3 mX7_frameOfGreatestMix 4 [vR 129, vI v1, vI (x2 + 1)] [] μ Q)) → at_I kC 3 mX7_frameOfGreatestMix 26 [vR 129, vI v1, vI x2] [] μ Q := by
      intro v1 h
      obtain ⟨c, h⟩ := h
      refine s_iinc dX7_frameOfGreatestMix_26 rfl (am_w_id c) (by decide) (L' := [vR 129, vI v1, vI (x2 + 1)]) rfl ?_
      refine s_goto dX7_frameOfGreatestMix_29 (tgt := 4) (by decide) ?_
      exact h
    refine s_icmp_le dX7_frameOfGreatestMix_21 (tgt := 26) (by decide) (fun cc => ?_) (fun cc => ?_)
    · have hp0 := cc
      exact kj2 x1 (h x1 (by rw [if_neg (Int.not_lt.mpr hp0)]))
    · have hp0 := cc
      refine s_iload_n dX7_frameOfGreatestMix_24 rfl rfl ?_
      refine s_istore_n dX7_frameOfGreatestMix_25 rfl (by decide) (L' := [vR 129, vI x2, vI x2]) rfl ?_
      exact kj2 x2 (h x2 (by rw [if_pos hp0]))
theorem ve_X7_frameOfGreatestMix {μ : am_M} {Q : Int → am_M → Prop} (h : at_I kC 3 mX7_frameOfGreatestMix 0 [vR 129, vU, vU] [] μ Q) : cl_I kC 3 mX7_frameOfGreatestMix [vR 129] μ Q := am_intro pmX7_frameOfGreatestMix (Nat.le_of_ble_eq_true rfl) rfl h
theorem sp_X7_frameOfGreatestMix {μ : am_M} {Q : Int → am_M → Prop} (hV : vC μ) (hs : sk_ μ (fun f => suC μ f 4)) (hQ : Q (fg_ (mixC μ) 599) μ) : cl_I kC 3 mX7_frameOfGreatestMix [vR 129] μ Q := by
  have : ∀ (j : Nat) (y x : Int), x + j = 600 → 1 ≤ x → in_ 0 600 y → y = fg_ (mixC μ) (x - 1) → at_I kC 3 mX7_frameOfGreatestMix 4 [vR 129, vI y, vI x] [] μ Q := by
    intro j
    induction j with
    | zero =>
      intro y x h h0 hy e
      refine vc_X7_frameOfGreatestMix_4 ⟨fun _ => ?_, fun q => by omega⟩
      rw [e, show x - 1 = 599 by omega]
      exact hQ
    | succ j ih =>
      intro y x h h0 hy e
      refine vc_X7_frameOfGreatestMix_4 ⟨fun q => by omega, fun q => ⟨hV, hs, (by (try unfold am_in); (try unfold in_ at *); omega), hV, hs, hy, fun v ev => ⟨(by (try unfold am_in); (try unfold in_ at *); omega), ih v (x + 1) (by omega) (by omega) (by rw [ev]; split <;> ((try unfold am_in); (try unfold in_ at *); omega)) ?_⟩⟩⟩
      unfold fg_ at e ⊢
      rw [show x + 1 - 1 = (x - 1) + 1 by omega, fI_s _ _ (by omega), ← e, ev, show x - 1 + 1 = x by omega]
  exact ve_X7_frameOfGreatestMix (vc_X7_frameOfGreatestMix_0 (this 599 0 1 (by omega) (by omega) (by (try unfold am_in); (try unfold in_ at *); omega) rfl))
theorem vc_X7_framesOver_0 {μ : am_M} {Q : Int → am_M → Prop} (h : at_I kC 2 mX7_framesOver 4 [vR 129, vI 0, vI 0] [] μ Q) : at_I kC 2 mX7_framesOver 0 [vR 129, vU, vU] [] μ Q := by
  refine s_iconst dX7_framesOver_0 (by decide) ?_
  refine s_istore_n dX7_framesOver_1 rfl (by decide) (L' := [vR 129, vI 0, vU]) rfl ?_
  refine s_iconst dX7_framesOver_2 (by decide) ?_
  refine s_istore_n dX7_framesOver_3 rfl (by decide) (L' := [vR 129, vI 0, vI 0]) rfl ?_
  exact h
theorem vc_X7_framesOver_4 {x1 x2 : Int} {μ : am_M} {Q : Int → am_M → Prop} (h : (600 ≤ x2 → Q x1 μ) ∧ (x2 < 600 → (vC μ) ∧ (sk_ μ (fun f => suC μ f 4)) ∧ (in_ 0 600 x2) ∧ (∀ v1 : Int, v1 = (if 999 < suC μ x2 4 * μ 2 0 / 100 then 1 else 0) → (am_in (x1 + v1)) ∧ ((am_in (x2 + 1)) ∧ (at_I kC 2 mX7_framesOver 4 [vR 129, vI (x1 + v1), vI (x2 + 1)] [] μ Q))))) : at_I kC 2 mX7_framesOver 4 [vR 129, vI x1, vI x2] [] μ Q := by
  refine s_iload_n dX7_framesOver_4 rfl rfl ?_
  refine s_sipush dX7_framesOver_5 (by decide) ?_
  refine s_icmp_ge dX7_framesOver_8 (tgt := 36) (by decide) (fun cc => ?_) (fun cc => ?_)
  · have h := h.1 cc
    refine s_iload_n dX7_framesOver_36 rfl rfl ?_
    exact s_ireturn dX7_framesOver_37 (Or.inl rfl) ⟨⟨rfl, rfl⟩, _, rfl, h⟩
  · have h := h.2 cc
    refine s_iload_n dX7_framesOver_11 rfl rfl ?_
    refine s_aload_n dX7_framesOver_12 rfl rfl ?_
    refine s_iload_n dX7_framesOver_13 rfl rfl ?_
    obtain ⟨p0, p1, p2, h⟩ := h
    refine s_callV (As := [vI x2]) (rest := [vI x1]) (k := 129) dX7_framesOver_14 lkX7_121 kn129 ⟨by rw [kk129]; rfl, by rw [kk129]; decide⟩ lmX7_unlimitedAt rfl rfl (Nat.le_of_ble_eq_true rfl) (by decide) (Nat.le_refl 0) (Nat.le_refl 0) (hC := sp_X7_unlimitedAt (Q := fun z m => suC μ x2 4 * μ 2 0 / 100 = z ∧ μ = m) p0 p1 p2 ⟨rfl, rfl⟩) (fun r n2 S2 m2 hP => ?_)
    obtain ⟨⟨rfl, rfl⟩, z, rfl, rfl, rfl⟩ := hP
    refine s_sipush dX7_framesOver_17 (by decide) ?_
    have kj2 : ∀ (v1 : Int), ((am_in (x1 + v1)) ∧ ((am_in (x2 + 1)) ∧ (at_I kC 2 mX7_framesOver 4 [vR 129, vI (x1 + v1), vI (x2 + 1)] [] μ Q))) → at_I kC 2 mX7_framesOver 28 [vR 129, vU, vI x2] [vI v1, vI x1] μ Q := by
      intro v1 h
      obtain ⟨c, h⟩ := h
      refine s_iadd dX7_framesOver_28 (am_w_id c) ?_
      refine s_istore_n dX7_framesOver_29 rfl (by decide) (L' := [vR 129, vI (x1 + v1), vI x2]) rfl ?_
      obtain ⟨c, h⟩ := h
      refine s_iinc dX7_framesOver_30 rfl (am_w_id c) (by decide) (L' := [vR 129, vI (x1 + v1), vI (x2 + 1)]) rfl ?_
      refine s_goto dX7_framesOver_33 (tgt := 4) (by decide) ?_
      exact h
    refine s_icmp_le dX7_framesOver_20 (tgt := 27) (by decide) (fun cc => ?_) (fun cc => ?_)
    · have hp0 := cc
      refine s_iconst dX7_framesOver_27 (by decide) ?_
      exact am_lesS (kj2 0 (h 0 (by rw [if_neg (Int.not_lt.mpr hp0)]))) ⟨Or.inr rfl, Or.inl rfl, Or.inr rfl, trivial⟩
    · have hp0 := cc
      refine s_iconst dX7_framesOver_23 (by decide) ?_
      refine s_goto dX7_framesOver_24 (tgt := 28) (by decide) ?_
      exact am_lesS (kj2 1 (h 1 (by rw [if_pos hp0]))) ⟨Or.inr rfl, Or.inl rfl, Or.inr rfl, trivial⟩
theorem ve_X7_framesOver {μ : am_M} {Q : Int → am_M → Prop} (h : at_I kC 2 mX7_framesOver 0 [vR 129, vU, vU] [] μ Q) : cl_I kC 2 mX7_framesOver [vR 129] μ Q := am_intro pmX7_framesOver (Nat.le_of_ble_eq_true rfl) rfl h
theorem sp_X7_framesOver {μ : am_M} {Q : Int → am_M → Prop} (hV : vC μ) (hs : sk_ μ (fun f => suC μ f 4)) (hQ : Q (sm_ (fun f => if 999 < suC μ f 4 * μ 2 0 / 100 then 1 else 0) 600) μ) : cl_I kC 2 mX7_framesOver [vR 129] μ Q := by
  have : ∀ (j : Nat) (y x : Int), x + j = 600 → 0 ≤ x → y = sm_ (fun f => if 999 < suC μ f 4 * μ 2 0 / 100 then 1 else 0) x → at_I kC 2 mX7_framesOver 4 [vR 129, vI y, vI x] [] μ Q := by
    intro j
    induction j with
    | zero =>
      intro y x h h0 e
      refine vc_X7_framesOver_4 ⟨fun _ => ?_, fun q => by omega⟩
      rw [e, show x = 600 by omega]
      exact hQ
    | succ j ih =>
      intro y x h h0 e
      have s1 := sm_b (f := fun f => if 999 < suC μ f 4 * μ 2 0 / 100 then 1 else 0) (n := x) (B := 1) h0 (by omega) (fun i _ _ => by
        show 0 ≤ (if _ then (1 : Int) else 0) ∧ (if _ then (1 : Int) else 0) ≤ 1
        split <;> omega)
      refine vc_X7_framesOver_4 ⟨fun q => by omega, fun q => ⟨hV, hs, (by (try unfold am_in); (try unfold in_ at *); omega), fun v ev => ?_⟩⟩
      have v01 : 0 ≤ v ∧ v ≤ 1 := by rw [ev]; split <;> omega
      refine ⟨by rw [e]; ((try unfold am_in); (try unfold in_ at *); omega), (by (try unfold am_in); (try unfold in_ at *); omega), ih _ (x + 1) (by omega) (by omega) ?_⟩
      unfold sm_ at e ⊢
      rw [fI_s _ _ h0, ← e, ev]
  exact ve_X7_framesOver (vc_X7_framesOver_0 (this 600 0 0 (by omega) (by omega) rfl))
theorem vc_X7_sumOfMix_0 {μ : am_M} {Q : Int → am_M → Prop} (h : at_I kC 3 mX7_sumOfMix 4 [vR 129, vI 0, vI 0] [] μ Q) : at_I kC 3 mX7_sumOfMix 0 [vR 129, vU, vU] [] μ Q := by
  refine s_iconst dX7_sumOfMix_0 (by decide) ?_
  refine s_istore_n dX7_sumOfMix_1 rfl (by decide) (L' := [vR 129, vI 0, vU]) rfl ?_
  refine s_iconst dX7_sumOfMix_2 (by decide) ?_
  refine s_istore_n dX7_sumOfMix_3 rfl (by decide) (L' := [vR 129, vI 0, vI 0]) rfl ?_
  exact h
theorem vc_X7_sumOfMix_4 {x1 x2 : Int} {μ : am_M} {Q : Int → am_M → Prop} (h : (600 ≤ x2 → Q x1 μ) ∧ (x2 < 600 → (vC μ) ∧ (sk_ μ (fun f => suC μ f 4)) ∧ (in_ 0 600 x2) ∧ ((am_in (x1 + (mixC μ x2))) ∧ ((am_in (x2 + 1)) ∧ (at_I kC 3 mX7_sumOfMix 4 [vR 129, vI (x1 + (mixC μ x2)), vI (x2 + 1)] [] μ Q))))) : at_I kC 3 mX7_sumOfMix 4 [vR 129, vI x1, vI x2] [] μ Q := by
  refine s_iload_n dX7_sumOfMix_4 rfl rfl ?_
  refine s_sipush dX7_sumOfMix_5 (by decide) ?_
  refine s_icmp_ge dX7_sumOfMix_8 (tgt := 25) (by decide) (fun cc => ?_) (fun cc => ?_)
  · have h := h.1 cc
    refine s_iload_n dX7_sumOfMix_25 rfl rfl ?_
    exact s_ireturn dX7_sumOfMix_26 (Or.inl rfl) ⟨⟨rfl, rfl⟩, _, rfl, h⟩
  · have h := h.2 cc
    refine s_iload_n dX7_sumOfMix_11 rfl rfl ?_
    refine s_aload_n dX7_sumOfMix_12 rfl rfl ?_
    refine s_iload_n dX7_sumOfMix_13 rfl rfl ?_
    obtain ⟨p0, p1, p2, h⟩ := h
    refine s_callV (As := [vI x2]) (rest := [vI x1]) (k := 129) dX7_sumOfMix_14 lkX7_125 kn129 ⟨by rw [kk129]; rfl, by rw [kk129]; decide⟩ lmX7_mixAt rfl rfl (Nat.le_of_ble_eq_true rfl) (by decide) (Nat.le_refl 0) (Nat.le_refl 0) (hC := sp_X7_mixAt (Q := fun z m => mixC μ x2 = z ∧ μ = m) p0 p1 p2 ⟨rfl, rfl⟩) (fun r n2 S2 m2 hP => ?_)
    obtain ⟨⟨rfl, rfl⟩, z, rfl, rfl, rfl⟩ := hP
    obtain ⟨c, h⟩ := h
    refine s_iadd dX7_sumOfMix_17 (am_w_id c) ?_
    refine s_istore_n dX7_sumOfMix_18 rfl (by decide) (L' := [vR 129, vI (x1 + (mixC μ x2)), vI x2]) rfl ?_
    obtain ⟨c, h⟩ := h
    refine s_iinc dX7_sumOfMix_19 rfl (am_w_id c) (by decide) (L' := [vR 129, vI (x1 + (mixC μ x2)), vI (x2 + 1)]) rfl ?_
    refine s_goto dX7_sumOfMix_22 (tgt := 4) (by decide) ?_
    exact h
theorem ve_X7_sumOfMix {μ : am_M} {Q : Int → am_M → Prop} (h : at_I kC 3 mX7_sumOfMix 0 [vR 129, vU, vU] [] μ Q) : cl_I kC 3 mX7_sumOfMix [vR 129] μ Q := am_intro pmX7_sumOfMix (Nat.le_of_ble_eq_true rfl) rfl h
theorem sp_X7_sumOfMix {μ : am_M} {Q : Int → am_M → Prop} (hV : vC μ) (hs : sk_ μ (fun f => suC μ f 4)) (hQ : Q (sm_ (mixC μ) 600) μ) : cl_I kC 3 mX7_sumOfMix [vR 129] μ Q := by
  have : ∀ (j : Nat) (y x : Int), x + j = 600 → 0 ≤ x → y = sm_ (mixC μ) x → at_I kC 3 mX7_sumOfMix 4 [vR 129, vI y, vI x] [] μ Q := by
    intro j
    induction j with
    | zero =>
      intro y x h h0 e
      refine vc_X7_sumOfMix_4 ⟨fun _ => ?_, fun q => by omega⟩
      rw [e, show x = 600 by omega]
      exact hQ
    | succ j ih =>
      intro y x h h0 e
      have s1 := sm_b (f := mixC μ) (n := x) (B := 999) h0 (by omega) (fun i _ _ => by have := mix_b hV i; unfold in_ at this; omega)
      have s2 := mix_b hV x
      refine vc_X7_sumOfMix_4 ⟨fun q => by omega, fun q => ⟨hV, hs, (by (try unfold am_in); (try unfold in_ at *); omega), by rw [e]; ((try unfold am_in); (try unfold in_ at *); omega), (by (try unfold am_in); (try unfold in_ at *); omega), ih _ (x + 1) (by omega) (by omega) ?_⟩⟩
      unfold sm_ at e ⊢
      rw [fI_s _ _ h0, ← e]
  exact ve_X7_sumOfMix (vc_X7_sumOfMix_0 (this 600 0 0 (by omega) (by omega) rfl))

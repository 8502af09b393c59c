/-! the class's sound: ducking, sums -/
theorem or_bA : ∀ x : Fin 16, ∀ t : Fin 4, (0 ≤ am_or (x.val : Int) (am_shl 1 (t.val : Int)) ∧ am_or (x.val : Int) (am_shl 1 (t.val : Int)) < 16) ∧ (∀ u : Fin 4, (am_or (x.val : Int) (am_shl 1 (t.val : Int)) / 2 ^ u.val % 2 = 1 ↔ u.val = t.val ∨ (x.val : Int) / 2 ^ u.val % 2 = 1)) ∧ (am_and (am_shr (x.val : Int) (t.val : Int)) 1 = 1 ↔ (x.val : Int) / 2 ^ t.val % 2 = 1) := by decide +kernel
def bt_ (x t : Int) : Prop := x / 2 ^ t.toNat % 2 = 1
theorem or_b {x t : Int} (hx : in_ 0 16 x) (ht : in_ 0 4 t) : in_ 0 16 (am_or x (am_shl 1 t)) ∧ (∀ u, in_ 0 4 u → (bt_ (am_or x (am_shl 1 t)) u ↔ u = t ∨ bt_ x u)) ∧ (am_and (am_shr x t) 1 = 1 ↔ bt_ x t) := by
  unfold in_ at *
  have h := or_bA ⟨x.toNat, by omega⟩ ⟨t.toNat, by omega⟩
  simp only [show ((x.toNat : Nat) : Int) = x by omega, show ((t.toNat : Nat) : Int) = t by omega] at h
  refine ⟨h.1, fun u hu => ?_, h.2.2⟩
  have h2 := h.2.1 ⟨u.toNat, by omega⟩
  unfold bt_
  rw [h2]
  simp only
  constructor
  · rintro (q | q)
    · exact Or.inl (by omega)
    · exact Or.inr q
  · rintro (q | q)
    · exact Or.inl (by omega)
    · exact Or.inr q
/-- ducked at a frame: at least the threshold a hold before, at most -/
def du_ (F : Int → Int) (thr hold f : Int) : Prop := ∃ j, 0 ≤ j ∧ j ≤ f ∧ thr ≤ F j ∧ f - j ≤ hold
def ds_ (F : Int → Int) (thr hold s f : Int) : Prop := (∀ j, 0 ≤ j → j < f → thr ≤ F j → s ≤ f - 1 - j) ∧ (hold < s ∨ ∃ j, 0 ≤ j ∧ j < f ∧ thr ≤ F j ∧ s = f - 1 - j) ∧ 0 ≤ s
theorem ds_s {F : Int → Int} {thr hold s f v : Int} (h : ds_ F thr hold s f) (hf : 0 ≤ f) (hh : 0 ≤ hold) (hv : v = if F f < thr then s + 1 else 0) : ds_ F thr hold v (f + 1) ∧ (v ≤ hold ↔ du_ F thr hold f) := by
  obtain ⟨h1, h2, h3⟩ := h
  by_cases c : F f < thr
  · rw [if_pos c] at hv
    refine ⟨⟨fun j j0 j1 q => ?_, ?_, by omega⟩, ?_⟩
    · by_cases e : j = f
      · rw [e] at q; omega
      · have := h1 j j0 (by omega) q
        omega
    · rcases h2 with h2 | ⟨j, j0, j1, q, e⟩
      · exact Or.inl (by omega)
      · exact Or.inr ⟨j, j0, by omega, q, by omega⟩
    · constructor
      · intro le
        rcases h2 with h2 | ⟨j, j0, j1, q, e⟩
        · omega
        · exact ⟨j, j0, by omega, q, by omega⟩
      · rintro ⟨j, j0, j1, q, e⟩
        by_cases e2 : j = f
        · rw [e2] at q; omega
        · have := h1 j j0 (by omega) q
          omega
  · rw [if_neg c] at hv
    refine ⟨⟨fun j j0 j1 q => by omega, Or.inr ⟨f, hf, by omega, by omega, by omega⟩, by omega⟩, ?_⟩
    constructor
    · intro _
      exact ⟨f, hf, by omega, by omega, by omega⟩
    · intro _
      omega
def duk_ (sh : Int) (T S : Tb) (n : Int) (g : Tb) (t f : Int) : Prop := 0 ≤ T t 3 ∧ du_ (dr_ sh T S n g (T t 3)) (T t 4) (T t 6) f
noncomputable def we_ (sh : Int) (T S : Tb) (n : Int) (g : Tb) (t f : Int) : Int := cif (duk_ sh T S n g t f) (dr_ sh T S n g t f * (100 - T t 5) / 100) (dr_ sh T S n g t f)
noncomputable def su_ (sh : Int) (T S : Tb) (n : Int) (g : Tb) (f : Int) (k : Int) : Int := fI (fun a t => a + cif (aud_ T t) (we_ sh T S n g t f) 0) 0 k
noncomputable abbrev drC (μ : am_M) : Int → Int → Int := dr_ (μ 2 4) (tg (μ 3) 7) (tg (μ 4) 4) (μ 5 1) (cg μ)
abbrev dukC (μ : am_M) : Int → Int → Prop := duk_ (μ 2 4) (tg (μ 3) 7) (tg (μ 4) 4) (μ 5 1) (cg μ)
noncomputable abbrev weC (μ : am_M) : Int → Int → Int := we_ (μ 2 4) (tg (μ 3) 7) (tg (μ 4) 4) (μ 5 1) (cg μ)
noncomputable abbrev suC (μ : am_M) : Int → Int → Int := su_ (μ 2 4) (tg (μ 3) 7) (tg (μ 4) 4) (μ 5 1) (cg μ)
def bk_ (m : am_M) (D : Int → Int → Prop) : Prop := ∀ f, in_ 0 600 f → in_ 0 16 (m 142 f.toNat) ∧ ∀ u, in_ 0 4 u → (bt_ (m 142 f.toNat) u ↔ D u f)
theorem we_b {E : Nat → Int} {T : Tb} {sn : Int} {S : Tb} {n : Int} {g : Tb} {H : Hl} (h : vp_ E T sn S n g H) (sh : Int) {t f : Int} (ht : in_ 0 4 t) : in_ 0 1999 (we_ sh T S n g t f) ∧ (0 ≤ dr_ sh T S n g t f * (100 - T t 5) ∧ dr_ sh T S n g t f * (100 - T t 5) ≤ 199800) := by
  have b := dr_b h sh (f := f) ht
  have k := (h.hT t ht.1 ht.2).2.2.2.2.2.2.1
  unfold in_ at *
  have m := mulb (x := dr_ sh T S n g t f) (y := 100 - T t 5) (A := 1998) (B := 100) (by omega) (by omega) (by omega) (by omega)
  refine ⟨?_, by omega⟩
  unfold we_
  by_cases c : duk_ sh T S n g t f
  · rw [cif_t c]; omega
  · rw [cif_f c]; omega
theorem vc_X7_fillDucked_0 {x1 : Int} {μ : am_M} {Q : am_M → Prop} (h : (in_ 0 4 x1) ∧ (in_ 0 7 3) ∧ ((0 ≤ (tg (μ 3) 7 x1 3) ∧ (tg (μ 3) 7 x1 3) < 4 → (in_ 0 4 x1) ∧ (in_ 0 7 4) ∧ ((in_ 0 4 x1) ∧ (in_ 0 7 6) ∧ ((am_in ((tg (μ 3) 7 x1 6) + 1)) ∧ (at_V kC 2 mX7_fillDucked 49 [vR 129, vI x1, vI (tg (μ 3) 7 x1 3), vI (tg (μ 3) 7 x1 4), vI (tg (μ 3) 7 x1 6), vI ((tg (μ 3) 7 x1 6) + 1), vI 0] [] μ Q)))) ∧ (¬ (0 ≤ (tg (μ 3) 7 x1 3) ∧ (tg (μ 3) 7 x1 3) < 4) → Q μ))) : at_V kC 2 mX7_fillDucked 0 [vR 129, vI x1, vU, vU, vU, vU, vU] [] μ Q := by
  refine s_aload_n dX7_fillDucked_0 rfl rfl ?_
  refine s_getR dX7_fillDucked_1 flX7_30 kn129 kk129 rfl kr129_0 ?_
  refine s_iload_n dX7_fillDucked_4 rfl rfl ?_
  refine s_iconst dX7_fillDucked_5 (by decide) ?_
  obtain ⟨p0, p1, h⟩ := h
  refine s_callV (As := [vI x1, vI 3]) (rest := []) (k := 1) dX7_fillDucked_6 lkX7_88 kn1 ⟨by rw [kk1]; rfl, by rw [kk1]; decide⟩ lmX4_trackNumber rfl rfl (Nat.le_of_ble_eq_true rfl) (by decide) (Nat.le_refl 0) (Nat.le_refl 0) (hC := sp_X4_trackNumber (Q := fun z m => tg (μ 3) 7 x1 3 = z ∧ μ = m) p0 p1 ⟨rfl, rfl⟩) (fun r n2 S2 m2 hP => ?_)
  obtain ⟨⟨rfl, rfl⟩, z, rfl, rfl, rfl⟩ := hP
  refine s_istore_n dX7_fillDucked_9 rfl (by decide) (L' := [vR 129, vI x1, vI (tg (μ 3) 7 x1 3), vU, vU, vU, vU]) rfl ?_
  refine s_iload_n dX7_fillDucked_10 rfl rfl ?_
  refine s_callSN (As := [vI (tg (μ 3) 7 x1 3)]) (rest := []) dX7_fillDucked_11 lkX7_94 lmX9_isTrack rfl rfl (Nat.le_of_ble_eq_true rfl) (by decide) (Nat.le_refl 0) (Nat.le_refl 0) (hC := sp_X9_isTrack (Q := fun z m => bI (0 ≤ (tg (μ 3) 7 x1 3) ∧ (tg (μ 3) 7 x1 3) < 4) = z ∧ μ = m)  ⟨rfl, rfl⟩) (fun r n2 S2 m2 hP => ?_)
  obtain ⟨⟨rfl, rfl⟩, z, rfl, rfl, rfl⟩ := hP
  refine s_if_ne dX7_fillDucked_14 (tgt := 18) (by decide) (fun cc => ?_) (fun cc => ?_)
  · have h := h.1 (bI_ne cc)
    refine s_aload_n dX7_fillDucked_18 rfl rfl ?_
    refine s_getR dX7_fillDucked_19 flX7_30 kn129 kk129 rfl kr129_0 ?_
    refine s_iload_n dX7_fillDucked_22 rfl rfl ?_
    refine s_iconst dX7_fillDucked_23 (by decide) ?_
    obtain ⟨p0, p1, h⟩ := h
    refine s_callV (As := [vI x1, vI 4]) (rest := []) (k := 1) dX7_fillDucked_24 lkX7_88 kn1 ⟨by rw [kk1]; rfl, by rw [kk1]; decide⟩ lmX4_trackNumber rfl rfl (Nat.le_of_ble_eq_true rfl) (by decide) (Nat.le_refl 0) (Nat.le_refl 0) (hC := sp_X4_trackNumber (Q := fun z m => tg (μ 3) 7 x1 4 = z ∧ μ = m) p0 p1 ⟨rfl, rfl⟩) (fun r n2 S2 m2 hP => ?_)
    obtain ⟨⟨rfl, rfl⟩, z, rfl, rfl, rfl⟩ := hP
    refine s_istore_n dX7_fillDucked_27 rfl (by decide) (L' := [vR 129, vI x1, vI (tg (μ 3) 7 x1 3), vI (tg (μ 3) 7 x1 4), vU, vU, vU]) rfl ?_
    refine s_aload_n dX7_fillDucked_28 rfl rfl ?_
    refine s_getR dX7_fillDucked_29 flX7_30 kn129 kk129 rfl kr129_0 ?_
    refine s_iload_n dX7_fillDucked_32 rfl rfl ?_
    refine s_bipush dX7_fillDucked_33 (by decide) ?_
    obtain ⟨p0, p1, h⟩ := h
    refine s_callV (As := [vI x1, vI 6]) (rest := []) (k := 1) dX7_fillDucked_35 lkX7_88 kn1 ⟨by rw [kk1]; rfl, by rw [kk1]; decide⟩ lmX4_trackNumber rfl rfl (Nat.le_of_ble_eq_true rfl) (by decide) (Nat.le_refl 0) (Nat.le_refl 0) (hC := sp_X4_trackNumber (Q := fun z m => tg (μ 3) 7 x1 6 = z ∧ μ = m) p0 p1 ⟨rfl, rfl⟩) (fun r n2 S2 m2 hP => ?_)
    obtain ⟨⟨rfl, rfl⟩, z, rfl, rfl, rfl⟩ := hP
    refine s_istore dX7_fillDucked_38 (by decide) (L' := [vR 129, vI x1, vI (tg (μ 3) 7 x1 3), vI (tg (μ 3) 7 x1 4), vI (tg (μ 3) 7 x1 6), vU, vU]) rfl ?_
    refine s_iload dX7_fillDucked_40 rfl ?_
    refine s_iconst dX7_fillDucked_42 (by decide) ?_
    obtain ⟨c, h⟩ := h
    refine s_iadd dX7_fillDucked_43 (am_w_id c) ?_
    refine s_istore dX7_fillDucked_44 (by decide) (L' := [vR 129, vI x1, vI (tg (μ 3) 7 x1 3), vI (tg (μ 3) 7 x1 4), vI (tg (μ 3) 7 x1 6), vI ((tg (μ 3) 7 x1 6) + 1), vU]) rfl ?_
    refine s_iconst dX7_fillDucked_46 (by decide) ?_
    refine s_istore dX7_fillDucked_47 (by decide) (L' := [vR 129, vI x1, vI (tg (μ 3) 7 x1 3), vI (tg (μ 3) 7 x1 4), vI (tg (μ 3) 7 x1 6), vI ((tg (μ 3) 7 x1 6) + 1), vI 0]) rfl ?_
    exact h
  · have h := h.2 (bI_eq cc)
    exact s_return dX7_fillDucked_17 rfl ⟨⟨rfl, rfl⟩, rfl, h⟩
theorem vc_X7_fillDucked_49 {x1 x2 x3 x4 x5 x6 : Int} {μ : am_M} {Q : am_M → Prop} (h : (600 ≤ x6 → Q μ) ∧ (x6 < 600 → (0 ≤ x2) ∧ (x2 < 4) ∧ ((0 ≤ x6) ∧ (x6 < 600) ∧ (((μ (138 + (x2).toNat) ((x6).toNat) < x3 → (am_in (x5 + 1)))) ∧ (∀ v2 : Int, v2 = (if μ (138 + (x2).toNat) ((x6).toNat) < x3 then x5 + 1 else 0) → (x4 < v2 → (am_in (x6 + 1)) ∧ (at_V kC 2 mX7_fillDucked 49 [vR 129, vI x1, vI x2, vI x3, vI x4, vI v2, vI (x6 + 1)] [] μ Q)) ∧ (v2 ≤ x4 → (0 ≤ x6) ∧ (x6 < 600) ∧ ((0 ≤ x6) ∧ (x6 < 600) ∧ (∀ m3 : am_M, m3 = am_st μ 142 (am_up (μ 142) (x6).toNat (am_or (μ 142 ((x6).toNat)) (am_shl 1 x1))) → (am_in (x6 + 1)) ∧ (at_V kC 2 mX7_fillDucked 49 [vR 129, vI x1, vI x2, vI x3, vI x4, vI v2, vI (x6 + 1)] [] m3 Q))))))))) : at_V kC 2 mX7_fillDucked 49 [vR 129, vI x1, vI x2, vI x3, vI x4, vI x5, vI x6] [] μ Q := by
  refine s_iload dX7_fillDucked_49 rfl ?_
  refine s_sipush dX7_fillDucked_51 (by decide) ?_
  refine s_icmp_ge dX7_fillDucked_54 (tgt := 106) (by decide) (fun cc => ?_) (fun cc => ?_)
  · have h := h.1 cc
    exact s_return dX7_fillDucked_106 rfl ⟨⟨rfl, rfl⟩, rfl, h⟩
  · have h := h.2 cc
    refine s_aload_n dX7_fillDucked_57 rfl rfl ?_
    refine s_getR dX7_fillDucked_58 flX7_16 kn129 kk129 rfl kr129_2 ?_
    refine s_iload_n dX7_fillDucked_61 rfl rfl ?_
    obtain ⟨c, c2, h⟩ := h
    obtain ⟨rx1r, rx1k, rx1n, rx1l⟩ := kx137 c c2
    refine s_aald dX7_fillDucked_62 kn137 kk137 (by decide) kl137 c c2 rx1r ?_
    refine s_iload dX7_fillDucked_63 rfl ?_
    obtain ⟨c, c2, h⟩ := h
    refine s_iald (x := (μ (138 + (x2).toNat) ((x6).toNat))) dX7_fillDucked_65 rx1n rx1k rx1l c c2 rfl ?_
    refine s_iload_n dX7_fillDucked_66 rfl rfl ?_
    obtain ⟨hsd, h⟩ := h
    have kj4 : ∀ (v2 : Int), ((x4 < v2 → (am_in (x6 + 1)) ∧ (at_V kC 2 mX7_fillDucked 49 [vR 129, vI x1, vI x2, vI x3, vI x4, vI v2, vI (x6 + 1)] [] μ Q)) ∧ (v2 ≤ x4 → (0 ≤ x6) ∧ (x6 < 600) ∧ ((0 ≤ x6) ∧ (x6 < 600) ∧ (∀ m3 : am_M, m3 = am_st μ 142 (am_up (μ 142) (x6).toNat (am_or (μ 142 ((x6).toNat)) (am_shl 1 x1))) → (am_in (x6 + 1)) ∧ (at_V kC 2 mX7_fillDucked 49 [vR 129, vI x1, vI x2, vI x3, vI x4, vI v2, vI (x6 + 1)] [] m3 Q))))) → at_V kC 2 mX7_fillDucked 78 [vR 129, vI x1, vI x2, vI x3, vI x4, vU, vI x6] [vI v2] μ Q := by
      intro v2 h
      refine s_istore dX7_fillDucked_78 (by decide) (L' := [vR 129, vI x1, vI x2, vI x3, vI x4, vI v2, vI x6]) rfl ?_
      refine s_iload dX7_fillDucked_80 rfl ?_
      refine s_iload dX7_fillDucked_82 rfl ?_
      refine s_icmp_gt dX7_fillDucked_84 (tgt := 100) (by decide) (fun cc => ?_) (fun cc => ?_)
      · have h := h.1 cc
        obtain ⟨c, h⟩ := h
        refine s_iinc dX7_fillDucked_100 rfl (am_w_id c) (by decide) (L' := [vR 129, vI x1, vI x2, vI x3, vI x4, vI v2, vI (x6 + 1)]) rfl ?_
        refine s_goto dX7_fillDucked_103 (tgt := 49) (by decide) ?_
        exact h
      · have h := h.2 cc
        refine s_aload_n dX7_fillDucked_87 rfl rfl ?_
        refine s_getR dX7_fillDucked_88 flX7_19 kn129 kk129 rfl kr129_3 ?_
        refine s_iload dX7_fillDucked_91 rfl ?_
        refine s_dup2 dX7_fillDucked_93 ?_
        obtain ⟨c, c2, h⟩ := h
        refine s_iald (x := (μ 142 ((x6).toNat))) dX7_fillDucked_94 kn142 kk142 kl142 c c2 rfl ?_
        refine s_iconst dX7_fillDucked_95 (by decide) ?_
        refine s_iload_n dX7_fillDucked_96 rfl rfl ?_
        refine s_ishl dX7_fillDucked_97 rfl ?_
        refine s_ior dX7_fillDucked_98 rfl ?_
        obtain ⟨c, c2, h⟩ := h
        obtain ⟨m3, hm3⟩ : ∃ x : am_M, x = am_st μ 142 (am_up (μ 142) (x6).toNat (am_or (μ 142 ((x6).toNat)) (am_shl 1 x1))) := ⟨_, rfl⟩
        have h := h m3 hm3
        refine s_iast dX7_fillDucked_99 kn142 kk142 kl142 c c2 hm3.symm ?_
        obtain ⟨c, h⟩ := h
        refine s_iinc dX7_fillDucked_100 rfl (am_w_id c) (by decide) (L' := [vR 129, vI x1, vI x2, vI x3, vI x4, vI v2, vI (x6 + 1)]) rfl ?_
        refine s_goto dX7_fillDucked_103 (tgt := 49) (by decide) ?_
        exact h
    refine s_icmp_lt dX7_fillDucked_67 (tgt := 74) (by decide) (fun cc => ?_) (fun cc => ?_)
    · have hp0 := cc
      have hsd := hsd hp0
      refine s_iload dX7_fillDucked_74 rfl ?_
      refine s_iconst dX7_fillDucked_76 (by decide) ?_
      have c := hsd
      refine s_iadd dX7_fillDucked_77 (am_w_id c) ?_
      exact am_lesS (kj4 (x5 + 1) (h (x5 + 1) (by rw [if_pos hp0]))) ⟨Or.inr rfl, Or.inr rfl, Or.inr rfl, Or.inr rfl, Or.inr rfl, Or.inl rfl, Or.inr rfl, trivial⟩
    · have hp0 := cc
      refine s_iconst dX7_fillDucked_70 (by decide) ?_
      refine s_goto dX7_fillDucked_71 (tgt := 78) (by decide) ?_
      exact am_lesS (kj4 0 (h 0 (by rw [if_neg (Int.not_lt.mpr hp0)]))) ⟨Or.inr rfl, Or.inr rfl, Or.inr rfl, Or.inr rfl, Or.inr rfl, Or.inl rfl, Or.inr rfl, trivial⟩
theorem ve_X7_fillDucked {x1 : Int} {μ : am_M} {Q : am_M → Prop} (h : at_V kC 2 mX7_fillDucked 0 [vR 129, vI x1, vU, vU, vU, vU, vU] [] μ Q) : cl_V kC 2 mX7_fillDucked [vR 129, vI x1] μ Q := am_intro pmX7_fillDucked (Nat.le_of_ble_eq_true rfl) rfl h
theorem sp_X7_fillDucked {μ : am_M} {t : Int} {D : Int → Int → Prop} (hV : vC μ) (ht : in_ 0 4 t) (hd : dk_ μ (drC μ)) (hb : bk_ μ D) : cl_V kC 2 mX7_fillDucked [vR 129, vI t] μ (fun m => fr_ [142] μ m ∧ bk_ m (fun u f => D u f ∨ (u = t ∧ dukC μ t f))) := by
  have kv := hV.hT t ht.1 ht.2
  refine ve_X7_fillDucked (vc_X7_fillDucked_0 ⟨ht, (by (try unfold am_in); (try unfold in_ at *); omega), fun h3 => ⟨ht, (by (try unfold am_in); (try unfold in_ at *); omega), ht, (by (try unfold am_in); (try unfold in_ at *); omega), (by (try unfold am_in); (try unfold in_ at *); omega), ?_⟩, fun h3 => ⟨fr_rf, fun f hf => ⟨(hb f hf).1, fun u hu => ?_⟩⟩⟩)
  · have : ∀ (j : Nat) (s x : Int) (m : am_M), x + j = 600 → 0 ≤ x → ds_ (drC μ (tg (μ 3) 7 t 3)) (tg (μ 3) 7 t 4) (tg (μ 3) 7 t 6) s x → s ≤ 21 + x → fr_ [142] μ m → (∀ f, in_ 0 600 f → in_ 0 16 (m 142 f.toNat) ∧ ∀ u, in_ 0 4 u → (bt_ (m 142 f.toNat) u ↔ D u f ∨ (u = t ∧ f < x ∧ dukC μ t f))) → at_V kC 2 mX7_fillDucked 49 [vR 129, vI t, vI (tg (μ 3) 7 t 3), vI (tg (μ 3) 7 t 4), vI (tg (μ 3) 7 t 6), vI s, vI x] [] m (fun m => fr_ [142] μ m ∧ bk_ m (fun u f => D u f ∨ (u = t ∧ dukC μ t f))) := by
      intro j
      induction j with
      | zero =>
        intro s x m hx h0 hs hs2 hf hm
        refine vc_X7_fillDucked_49 ⟨fun _ => ⟨hf, fun f hf2 => ⟨(hm f hf2).1, fun u hu => ?_⟩⟩, fun q => by omega⟩
        rw [(hm f hf2).2 u hu]
        constructor
        · rintro (q | ⟨q1, q2, q3⟩)
          · exact Or.inl q
          · exact Or.inr ⟨q1, q3⟩
        · rintro (q | ⟨q1, q3⟩)
          · exact Or.inl q
          · exact Or.inr ⟨q1, by unfold in_ at hf2; omega, q3⟩
      | succ j ih =>
        intro s x m hx h0 hs hs2 hf hm
        have hs3 := hs.2.2
        have ed : m (138 + (tg (μ 3) 7 t 3).toNat) x.toNat = drC μ (tg (μ 3) 7 t 3) x := by
          rw [hf (138 + (tg (μ 3) 7 t 3).toNat) (by simp; omega)]
          exact hd _ x h3 ⟨h0, by omega⟩
        refine vc_X7_fillDucked_49 ⟨fun q => by omega, fun q => ⟨h3.1, h3.2, h0, q, fun _ => (by (try unfold am_in); (try unfold in_ at *); omega), fun v2 e2 => ?_⟩⟩
        rw [ed] at e2
        obtain ⟨n1, n2⟩ := ds_s hs h0 (by ((try unfold am_in); (try unfold in_ at *); omega)) e2
        have hduk : dukC μ t x ↔ v2 ≤ tg (μ 3) 7 t 6 := ⟨fun z => n2.mpr z.2, fun z => ⟨h3.1, n2.mp z⟩⟩
        have v2b : v2 ≤ 21 + (x + 1) := by rw [e2]; split <;> omega
        refine ⟨fun c => ⟨(by (try unfold am_in); (try unfold in_ at *); omega), ih v2 (x + 1) m (by omega) (by omega) n1 v2b hf (fun f hf2 => ⟨(hm f hf2).1, fun u hu => ?_⟩)⟩, fun c => ⟨h0, q, h0, q, fun m3 e3 => ⟨(by (try unfold am_in); (try unfold in_ at *); omega), ih v2 (x + 1) m3 (by omega) (by omega) n1 v2b (by rw [e3]; exact fr_tr hf (fr_st (by simp))) (fun f hf2 => ?_)⟩⟩⟩
        · rw [(hm f hf2).2 u hu]
          constructor
          · rintro (z | ⟨z1, z2, z3⟩)
            · exact Or.inl z
            · exact Or.inr ⟨z1, by omega, z3⟩
          · rintro (z | ⟨z1, z2, z3⟩)
            · exact Or.inl z
            · by_cases e : f = x
              · rw [e] at z3
                have := hduk.mp z3
                omega
              · exact Or.inr ⟨z1, by omega, z3⟩
        · obtain ⟨o1, o2⟩ := hm f hf2
          have ob := or_b o1 ht
          by_cases e : f = x
          · subst e
            rw [e3, st_s, up_s]
            refine ⟨ob.1, fun u hu => ?_⟩
            rw [ob.2.1 u hu, o2 u hu]
            constructor
            · rintro (z | z | ⟨z1, z2, z3⟩)
              · exact Or.inr ⟨z, by omega, hduk.mpr c⟩
              · exact Or.inl z
              · exact Or.inr ⟨z1, by omega, z3⟩
            · rintro (z | ⟨z1, z2, z3⟩)
              · exact Or.inr (Or.inl z)
              · exact Or.inl z1
          · rw [e3, st_s, up_n (by unfold in_ at hf2; omega)]
            refine ⟨o1, fun u hu => ?_⟩
            rw [o2 u hu]
            constructor
            · rintro (z | ⟨z1, z2, z3⟩)
              · exact Or.inl z
              · exact Or.inr ⟨z1, by omega, z3⟩
            · rintro (z | ⟨z1, z2, z3⟩)
              · exact Or.inl z
              · exact Or.inr ⟨z1, by omega, z3⟩
    refine this 600 _ 0 μ (by omega) (by omega) ⟨fun j j0 j1 => by omega, Or.inl (by omega), by ((try unfold am_in); (try unfold in_ at *); omega)⟩ (by ((try unfold am_in); (try unfold in_ at *); omega)) fr_rf (fun f hf => ⟨(hb f hf).1, fun u hu => ?_⟩)
    rw [(hb f hf).2 u hu]
    unfold in_ at hf
    constructor
    · exact Or.inl
    · rintro (q | ⟨q1, q2, q3⟩)
      · exact q
      · omega
  · rw [(hb f hf).2 u hu]
    constructor
    · exact Or.inl
    · rintro (q | ⟨q1, q2⟩)
      · exact q
      · have := q2.1
        have b := kv.2.2.2.1
        unfold in_ at b
        omega
theorem vc_X7_isDucked_0 {x1 x2 : Int} {μ : am_M} {Q : Int → am_M → Prop} (h : (0 ≤ x2) ∧ (x2 < 600) ∧ (∀ v1 : Int, v1 = (if am_and (am_shr (μ 142 ((x2).toNat)) x1) 1 = 1 then 1 else 0) → (v1 = 0 ∨ v1 = 1) ∧ Q v1 μ)) : at_I kC 1 mX7_isDucked 0 [vR 129, vI x1, vI x2] [] μ Q := by
  refine s_aload_n dX7_isDucked_0 rfl rfl ?_
  refine s_getR dX7_isDucked_1 flX7_19 kn129 kk129 rfl kr129_3 ?_
  refine s_iload_n dX7_isDucked_4 rfl rfl ?_
  obtain ⟨c, c2, h⟩ := h
  refine s_iald (x := (μ 142 ((x2).toNat))) dX7_isDucked_5 kn142 kk142 kl142 c c2 rfl ?_
  refine s_iload_n dX7_isDucked_6 rfl rfl ?_
  refine s_ishr dX7_isDucked_7 rfl ?_
  refine s_iconst dX7_isDucked_8 (by decide) ?_
  refine s_iand dX7_isDucked_9 rfl ?_
  refine s_iconst dX7_isDucked_10 (by decide) ?_
  have kj2 : ∀ (v1 : Int), ((v1 = 0 ∨ v1 = 1) ∧ Q v1 μ) → at_I kC 1 mX7_isDucked 19 [vU, vU, vU] [vI v1] μ Q := by
    intro v1 h
    exact s_ireturn dX7_isDucked_19 (Or.inr ⟨rfl, h.1⟩) ⟨⟨rfl, rfl⟩, _, rfl, h.2⟩
  refine s_icmp_ne dX7_isDucked_11 (tgt := 18) (by decide) (fun cc => ?_) (fun cc => ?_)
  · have hp0 := cc
    refine s_iconst dX7_isDucked_18 (by decide) ?_
    exact am_lesS (kj2 0 (h 0 (by rw [if_neg hp0]))) ⟨Or.inl rfl, Or.inl rfl, Or.inl rfl, trivial⟩
  · have hp0 := cc
    refine s_iconst dX7_isDucked_14 (by decide) ?_
    refine s_goto dX7_isDucked_15 (tgt := 19) (by decide) ?_
    exact am_lesS (kj2 1 (h 1 (by rw [if_pos hp0]))) ⟨Or.inl rfl, Or.inl rfl, Or.inl rfl, trivial⟩
theorem ve_X7_isDucked {x1 x2 : Int} {μ : am_M} {Q : Int → am_M → Prop} (h : at_I kC 1 mX7_isDucked 0 [vR 129, vI x1, vI x2] [] μ Q) : cl_I kC 1 mX7_isDucked [vR 129, vI x1, vI x2] μ Q := am_intro pmX7_isDucked (Nat.le_of_ble_eq_true rfl) rfl h
theorem sp_X7_isDucked {μ : am_M} {t f : Int} {Q : Int → am_M → Prop} (ht : in_ 0 4 t) (hf : in_ 0 600 f) (hb : bk_ μ (dukC μ)) (hQ : Q (bI (dukC μ t f)) μ) : cl_I kC 1 mX7_isDucked [vR 129, vI t, vI f] μ Q := by
  have h1 := hb f hf
  have h2 := (or_b h1.1 ht).2.2
  refine ve_X7_isDucked (vc_X7_isDucked_0 ⟨hf.1, hf.2, fun v e => ⟨by rw [e]; split <;> omega, ?_⟩⟩)
  have : v = bI (dukC μ t f) := by
    rw [e]
    by_cases c : dukC μ t f
    · rw [bI_t c, if_pos (h2.mpr ((h1.2 t ht).mpr c))]
    · rw [bI_f c, if_neg (fun z => c ((h1.2 t ht).mp (h2.mp z)))]
  rw [this]
  exact hQ
theorem vc_X7_dryAt_0 {x1 x2 : Int} {μ : am_M} {Q : Int → am_M → Prop} (h : (0 ≤ x1) ∧ (x1 < 4) ∧ ((0 ≤ x2) ∧ (x2 < 600) ∧ (Q (μ (138 + (x1).toNat) ((x2).toNat)) μ))) : at_I kC 1 mX7_dryAt 0 [vR 129, vI x1, vI x2] [] μ Q := by
  refine s_aload_n dX7_dryAt_0 rfl rfl ?_
  refine s_getR dX7_dryAt_1 flX7_16 kn129 kk129 rfl kr129_2 ?_
  refine s_iload_n dX7_dryAt_4 rfl rfl ?_
  obtain ⟨c, c2, h⟩ := h
  obtain ⟨rx1r, rx1k, rx1n, rx1l⟩ := kx137 c c2
  refine s_aald dX7_dryAt_5 kn137 kk137 (by decide) kl137 c c2 rx1r ?_
  refine s_iload_n dX7_dryAt_6 rfl rfl ?_
  obtain ⟨c, c2, h⟩ := h
  refine s_iald (x := (μ (138 + (x1).toNat) ((x2).toNat))) dX7_dryAt_7 rx1n rx1k rx1l c c2 rfl ?_
  exact s_ireturn dX7_dryAt_8 (Or.inl rfl) ⟨⟨rfl, rfl⟩, _, rfl, h⟩
theorem ve_X7_dryAt {x1 x2 : Int} {μ : am_M} {Q : Int → am_M → Prop} (h : at_I kC 1 mX7_dryAt 0 [vR 129, vI x1, vI x2] [] μ Q) : cl_I kC 1 mX7_dryAt [vR 129, vI x1, vI x2] μ Q := am_intro pmX7_dryAt (Nat.le_of_ble_eq_true rfl) rfl h
theorem sp_X7_dryAt {μ : am_M} {t f : Int} {Q : Int → am_M → Prop} (ht : in_ 0 4 t) (hf : in_ 0 600 f) (hd : dk_ μ (drC μ)) (hQ : Q (drC μ t f) μ) : cl_I kC 1 mX7_dryAt [vR 129, vI t, vI f] μ Q := by
  refine ve_X7_dryAt (vc_X7_dryAt_0 ⟨ht.1, ht.2, hf.1, hf.2, ?_⟩)
  rw [hd t f ht hf]
  exact hQ
theorem vc_X7_wetAt_0 {x1 x2 : Int} {μ : am_M} {Q : Int → am_M → Prop} (h : (0 ≤ x1) ∧ (x1 < 4) ∧ ((0 ≤ x2) ∧ (x2 < 600) ∧ ((in_ 0 4 x1) ∧ (in_ 0 600 x2) ∧ (bk_ μ (dukC μ)) ∧ (((dukC μ x1 x2 → (in_ 0 4 x1) ∧ (in_ 0 7 5) ∧ ((am_in (100 - (tg (μ 3) 7 x1 5))) ∧ ((am_in ((μ (138 + (x1).toNat) ((x2).toNat)) * (100 - (tg (μ 3) 7 x1 5)))) ∧ ((0 ≤ (μ (138 + (x1).toNat) ((x2).toNat)) * (100 - (tg (μ 3) 7 x1 5)))))))) ∧ (∀ v2 : Int, v2 = (cif (dukC μ x1 x2) (((μ (138 + (x1).toNat) ((x2).toNat)) * (100 - (tg (μ 3) 7 x1 5))) / 100) (μ (138 + (x1).toNat) ((x2).toNat))) → Q v2 μ))))) : at_I kC 2 mX7_wetAt 0 [vR 129, vI x1, vI x2, vU] [] μ Q := by
  refine s_aload_n dX7_wetAt_0 rfl rfl ?_
  refine s_getR dX7_wetAt_1 flX7_16 kn129 kk129 rfl kr129_2 ?_
  refine s_iload_n dX7_wetAt_4 rfl rfl ?_
  obtain ⟨c, c2, h⟩ := h
  obtain ⟨rx1r, rx1k, rx1n, rx1l⟩ := kx137 c c2
  refine s_aald dX7_wetAt_5 kn137 kk137 (by decide) kl137 c c2 rx1r ?_
  refine s_iload_n dX7_wetAt_6 rfl rfl ?_
  obtain ⟨c, c2, h⟩ := h
  refine s_iald (x := (μ (138 + (x1).toNat) ((x2).toNat))) dX7_wetAt_7 rx1n rx1k rx1l c c2 rfl ?_
  refine s_istore_n dX7_wetAt_8 rfl (by decide) (L' := [vR 129, vI x1, vI x2, vI (μ (138 + (x1).toNat) ((x2).toNat))]) rfl ?_
  refine s_aload_n dX7_wetAt_9 rfl rfl ?_
  refine s_iload_n dX7_wetAt_10 rfl rfl ?_
  refine s_iload_n dX7_wetAt_11 rfl rfl ?_
  obtain ⟨p0, p1, p2, h⟩ := h
  refine s_callV (As := [vI x1, vI x2]) (rest := []) (k := 129) dX7_wetAt_12 lkX7_113 kn129 ⟨by rw [kk129]; rfl, by rw [kk129]; decide⟩ lmX7_isDucked rfl rfl (Nat.le_of_ble_eq_true rfl) (by decide) (Nat.le_refl 0) (Nat.le_refl 0) (hC := sp_X7_isDucked (Q := fun z m => bI (dukC μ x1 x2) = z ∧ μ = m) p0 p1 p2 ⟨rfl, rfl⟩) (fun r n2 S2 m2 hP => ?_)
  obtain ⟨⟨rfl, rfl⟩, z, rfl, rfl, rfl⟩ := hP
  obtain ⟨hsd, h⟩ := h
  have kj3 : ∀ (v2 : Int), (Q v2 μ) → at_I kC 2 mX7_wetAt 39 [vU, vU, vU, vU] [vI v2] μ Q := by
    intro v2 h
    exact s_ireturn dX7_wetAt_39 (Or.inl rfl) ⟨⟨rfl, rfl⟩, _, rfl, h⟩
  refine s_if_eq dX7_wetAt_15 (tgt := 38) (by decide) (fun cc => ?_) (fun cc => ?_)
  · have hp0 := (bI_eq cc)
    refine s_iload_n dX7_wetAt_38 rfl rfl ?_
    exact am_lesS (kj3 (μ (138 + (x1).toNat) ((x2).toNat)) (h (μ (138 + (x1).toNat) ((x2).toNat)) (by rw [cif_f hp0]))) ⟨Or.inl rfl, Or.inl rfl, Or.inl rfl, Or.inl rfl, trivial⟩
  · have hp0 := (bI_ne cc)
    have hsd := hsd hp0
    refine s_iload_n dX7_wetAt_18 rfl rfl ?_
    refine s_bipush dX7_wetAt_19 (by decide) ?_
    refine s_aload_n dX7_wetAt_21 rfl rfl ?_
    refine s_getR dX7_wetAt_22 flX7_30 kn129 kk129 rfl kr129_0 ?_
    refine s_iload_n dX7_wetAt_25 rfl rfl ?_
    refine s_iconst dX7_wetAt_26 (by decide) ?_
    obtain ⟨p0, p1, hsd⟩ := hsd
    refine s_callV (As := [vI x1, vI 5]) (rest := [vI 100, vI (μ (138 + (x1).toNat) ((x2).toNat))]) (k := 1) dX7_wetAt_27 lkX7_88 kn1 ⟨by rw [kk1]; rfl, by rw [kk1]; decide⟩ lmX4_trackNumber rfl rfl (Nat.le_of_ble_eq_true rfl) (by decide) (Nat.le_refl 0) (Nat.le_refl 0) (hC := sp_X4_trackNumber (Q := fun z m => tg (μ 3) 7 x1 5 = z ∧ μ = m) p0 p1 ⟨rfl, rfl⟩) (fun r n2 S2 m2 hP => ?_)
    obtain ⟨⟨rfl, rfl⟩, z, rfl, rfl, rfl⟩ := hP
    obtain ⟨c, hsd⟩ := hsd
    refine s_isub dX7_wetAt_30 (am_w_id c) ?_
    obtain ⟨c, hsd⟩ := hsd
    refine s_imul dX7_wetAt_31 (am_w_id c) ?_
    refine s_bipush dX7_wetAt_32 (by decide) ?_
    have c := hsd
    refine s_idivp dX7_wetAt_34 c (by decide) rfl ?_
    refine s_goto dX7_wetAt_35 (tgt := 39) (by decide) ?_
    exact am_lesS (kj3 (((μ (138 + (x1).toNat) ((x2).toNat)) * (100 - (tg (μ 3) 7 x1 5))) / 100) (h (((μ (138 + (x1).toNat) ((x2).toNat)) * (100 - (tg (μ 3) 7 x1 5))) / 100) (by rw [cif_t hp0]))) ⟨Or.inl rfl, Or.inl rfl, Or.inl rfl, Or.inl rfl, trivial⟩
theorem ve_X7_wetAt {x1 x2 : Int} {μ : am_M} {Q : Int → am_M → Prop} (h : at_I kC 2 mX7_wetAt 0 [vR 129, vI x1, vI x2, vU] [] μ Q) : cl_I kC 2 mX7_wetAt [vR 129, vI x1, vI x2] μ Q := am_intro pmX7_wetAt (Nat.le_of_ble_eq_true rfl) rfl h
theorem sp_X7_wetAt {μ : am_M} {t f : Int} {Q : Int → am_M → Prop} (hV : vC μ) (ht : in_ 0 4 t) (hf : in_ 0 600 f) (hd : dk_ μ (drC μ)) (hb : bk_ μ (dukC μ)) (hQ : Q (weC μ t f) μ) : cl_I kC 2 mX7_wetAt [vR 129, vI t, vI f] μ Q := by
  have b : 0 ≤ drC μ t f * (100 - tg (μ 3) 7 t 5) ∧ drC μ t f * (100 - tg (μ 3) 7 t 5) ≤ 199800 := (we_b hV (μ 2 4) (f := f) ht).2
  have kv := hV.hT t ht.1 ht.2
  have ed := hd t f ht hf
  refine ve_X7_wetAt (vc_X7_wetAt_0 ⟨ht.1, ht.2, hf.1, hf.2, ht, hf, hb, fun c => ?_, fun v e => ?_⟩)
  · rw [ed]
    exact ⟨ht, (by (try unfold am_in); (try unfold in_ at *); omega), (by (try unfold am_in); (try unfold in_ at *); omega), (by (try unfold am_in); (try unfold in_ at *); omega), b.1⟩
  · rw [ed] at e
    rw [show v = weC μ t f from e]
    exact hQ
theorem vc_X7_addTrack_0 {x1 : Int} {μ : am_M} {Q : am_M → Prop} (h : at_V kC 3 mX7_addTrack 2 [vR 129, vI x1, vI 0] [] μ Q) : at_V kC 3 mX7_addTrack 0 [vR 129, vI x1, vU] [] μ Q := by
  refine s_iconst dX7_addTrack_0 (by decide) ?_
  refine s_istore_n dX7_addTrack_1 rfl (by decide) (L' := [vR 129, vI x1, vI 0]) rfl ?_
  exact h
theorem vc_X7_addTrack_2 {x1 x2 : Int} {μ : am_M} {Q : am_M → Prop} (h : (600 ≤ x2 → Q μ) ∧ (x2 < 600 → (0 ≤ x2) ∧ (x2 < 600) ∧ (∃ P : Int → am_M → Prop, cl_I kC 2 mX7_wetAt [vR 129, vI x1, vI x2] μ P ∧ (∀ (z1 : Int) (m2 : am_M), P z1 m2 → (am_in ((μ 143 ((x2).toNat)) + z1)) ∧ ((0 ≤ x2) ∧ (x2 < 600) ∧ (∀ m3 : am_M, m3 = am_st m2 143 (am_up (m2 143) (x2).toNat ((μ 143 ((x2).toNat)) + z1)) → (am_in (x2 + 1)) ∧ (at_V kC 3 mX7_addTrack 2 [vR 129, vI x1, vI (x2 + 1)] [] m3 Q))))))) : at_V kC 3 mX7_addTrack 2 [vR 129, vI x1, vI x2] [] μ Q := by
  refine s_iload_n dX7_addTrack_2 rfl rfl ?_
  refine s_sipush dX7_addTrack_3 (by decide) ?_
  refine s_icmp_ge dX7_addTrack_6 (tgt := 30) (by decide) (fun cc => ?_) (fun cc => ?_)
  · have h := h.1 cc
    exact s_return dX7_addTrack_30 rfl ⟨⟨rfl, rfl⟩, rfl, h⟩
  · have h := h.2 cc
    refine s_aload_n dX7_addTrack_9 rfl rfl ?_
    refine s_getR dX7_addTrack_10 flX7_23 kn129 kk129 rfl kr129_4 ?_
    refine s_iload_n dX7_addTrack_13 rfl rfl ?_
    refine s_dup2 dX7_addTrack_14 ?_
    obtain ⟨c, c2, h⟩ := h
    refine s_iald (x := (μ 143 ((x2).toNat))) dX7_addTrack_15 kn143 kk143 kl143 c c2 rfl ?_
    refine s_aload_n dX7_addTrack_16 rfl rfl ?_
    refine s_iload_n dX7_addTrack_17 rfl rfl ?_
    refine s_iload_n dX7_addTrack_18 rfl rfl ?_
    obtain ⟨P, hcl, h⟩ := h
    refine s_callV (As := [vI x1, vI x2]) (rest := [vI (μ 143 ((x2).toNat)), vI x2, vR 143]) (k := 129) dX7_addTrack_19 lkX7_97 kn129 ⟨by rw [kk129]; rfl, by rw [kk129]; decide⟩ lmX7_wetAt rfl rfl (Nat.le_of_ble_eq_true rfl) (by decide) (Nat.le_refl 0) (Nat.le_refl 0) (hC := hcl) (fun r n2 S2 m2 hP => ?_)
    obtain ⟨⟨rfl, rfl⟩, z1, rfl, hq⟩ := hP
    have h := h z1 m2 hq
    obtain ⟨c, h⟩ := h
    refine s_iadd dX7_addTrack_22 (am_w_id c) ?_
    obtain ⟨c, c2, h⟩ := h
    obtain ⟨m3, hm3⟩ : ∃ x : am_M, x = am_st m2 143 (am_up (m2 143) (x2).toNat ((μ 143 ((x2).toNat)) + z1)) := ⟨_, rfl⟩
    have h := h m3 hm3
    refine s_iast dX7_addTrack_23 kn143 kk143 kl143 c c2 hm3.symm ?_
    obtain ⟨c, h⟩ := h
    refine s_iinc dX7_addTrack_24 rfl (am_w_id c) (by decide) (L' := [vR 129, vI x1, vI (x2 + 1)]) rfl ?_
    refine s_goto dX7_addTrack_27 (tgt := 2) (by decide) ?_
    exact h
theorem ve_X7_addTrack {x1 : Int} {μ : am_M} {Q : am_M → Prop} (h : at_V kC 3 mX7_addTrack 0 [vR 129, vI x1, vU] [] μ Q) : cl_V kC 3 mX7_addTrack [vR 129, vI x1] μ Q := am_intro pmX7_addTrack (Nat.le_of_ble_eq_true rfl) rfl h
theorem pC_fr {ks : List Nat} {μ m : am_M} (h : fr_ ks μ m) (hk : ∀ k ∈ ks, 9 < k) : drC m = drC μ ∧ dukC m = dukC μ ∧ weC m = weC μ ∧ suC m = suC μ := by
  have e : ∀ k, k ≤ 9 → m k = μ k := fun k hk2 => h k (fun q => by have := hk _ q; omega)
  unfold drC dukC weC suC
  rw [e 2 (by omega), e 3 (by omega), e 4 (by omega), e 5 (by omega), cg_c (e 6 (by omega))]
  exact ⟨rfl, rfl, rfl, rfl⟩
theorem dk_fr {ks : List Nat} {μ m : am_M} (h : fr_ ks μ m) (hk : ∀ k ∈ ks, k < 138 ∨ 141 < k) {F : Int → Int → Int} (hd : dk_ μ F) : dk_ m F := fun t f ht hf => by
  rw [h (138 + t.toNat) (fun q => by have := hk _ q; unfold in_ at ht; omega)]
  exact hd t f ht hf
theorem bk_fr {ks : List Nat} {μ m : am_M} (h : fr_ ks μ m) (hk : 142 ∉ ks) {D : Int → Int → Prop} (hd : bk_ μ D) : bk_ m D := fun f hf => by
  rw [h 142 hk]
  exact hd f hf
def sk_ (m : am_M) (F : Int → Int) : Prop := ∀ f, in_ 0 600 f → m 143 f.toNat = F f
theorem sp_X7_addTrack {μ : am_M} {t : Int} {F : Int → Int} (hV : vC μ) (ht : in_ 0 4 t) (hd : dk_ μ (drC μ)) (hb : bk_ μ (dukC μ)) (hF : ∀ f, in_ 0 600 f → in_ 0 100000 (F f)) (hs : sk_ μ F) : cl_V kC 3 mX7_addTrack [vR 129, vI t] μ (fun m => fr_ [143] μ m ∧ sk_ m (fun f => F f + weC μ t f)) := by
  refine ve_X7_addTrack (vc_X7_addTrack_0 ?_)
  have : ∀ (j : Nat) (x : Int) (m : am_M), x + j = 600 → 0 ≤ x → fr_ [143] μ m → (∀ f, in_ 0 600 f → m 143 f.toNat = if f < x then F f + weC μ t f else F f) → at_V kC 3 mX7_addTrack 2 [vR 129, vI t, vI x] [] m (fun m => fr_ [143] μ m ∧ sk_ m (fun f => F f + weC μ t f)) := by
    intro j
    induction j with
    | zero =>
      intro x m hx h0 hf hm
      refine vc_X7_addTrack_2 ⟨fun _ => ⟨hf, fun f hf2 => ?_⟩, fun q => by omega⟩
      rw [hm f hf2, if_pos (by unfold in_ at hf2; omega)]
    | succ j ih =>
      intro x m hx h0 hf hm
      obtain ⟨p1, p2, p3, -⟩ := pC_fr hf (by simp)
      have fx : in_ 0 600 x := ⟨h0, by omega⟩
      have mx := hm x fx
      rw [if_neg (by omega)] at mx
      have b1 := hF x fx
      have b2 : in_ 0 1999 (weC μ t x) := (we_b hV (μ 2 4) ht).1
      refine vc_X7_addTrack_2 ⟨fun q => by omega, fun q => ⟨h0, q, _, sp_X7_wetAt (Q := fun z k => z = weC μ t x ∧ k = m) (vC_fr hf (by simp) hV) ht fx (by rw [p1]; exact dk_fr hf (by simp) hd) (by rw [p2]; exact bk_fr hf (by simp) hb) ⟨by rw [p3], rfl⟩, ?_⟩⟩
      rintro z m2 ⟨ez, rfl⟩
      rw [mx, ez]
      refine ⟨(by (try unfold am_in); (try unfold in_ at *); omega), h0, q, fun m3 e3 => ⟨(by (try unfold am_in); (try unfold in_ at *); omega), ih (x + 1) m3 (by omega) (by omega) (by rw [e3]; exact fr_tr hf (fr_st (by simp))) (fun f hf2 => ?_)⟩⟩
      rw [e3, st_s]
      by_cases e : f = x
      · rw [e, up_s, if_pos (by omega)]
      · rw [up_n (by unfold in_ at hf2; omega), hm f hf2]
        by_cases c : f < x
        · rw [if_pos c, if_pos (by omega)]
        · rw [if_neg c, if_neg (by omega)]
  refine this 600 0 μ (by omega) (by omega) fr_rf (fun f hf => ?_)
  rw [if_neg (by unfold in_ at hf; omega)]
  exact hs f hf
theorem su_s {sh : Int} {T S : Tb} {n : Int} {g : Tb} {f k : Int} (h : 0 ≤ k) : su_ sh T S n g f (k + 1) = su_ sh T S n g f k + cif (aud_ T k) (we_ sh T S n g k f) 0 := fI_s _ _ h
theorem su_b {E : Nat → Int} {T : Tb} {sn : Int} {S : Tb} {n : Int} {g : Tb} {H : Hl} (h : vp_ E T sn S n g H) (sh : Int) {f k : Int} (h0 : 0 ≤ k) (h1 : k ≤ 4) : 0 ≤ su_ sh T S n g f k ∧ su_ sh T S n g f k ≤ k * 1998 := by
  unfold su_
  refine fI_i (fun a i => 0 ≤ a ∧ a ≤ i * 1998) (by omega) h0 (fun i b i0 i1 ⟨q0, q1⟩ => ?_)
  have := (we_b h sh (t := i) (f := f) ⟨i0, by omega⟩).1
  unfold in_ at this
  by_cases c : aud_ T i
  · rw [cif_t c]; omega
  · rw [cif_f c]; omega
/-- the sound is that of the project -/
def snd_ (m : am_M) : Prop := sv_ m ∧ dk_ m (drC m) ∧ bk_ m (dukC m) ∧ sk_ m (fun f => suC m f 4)
theorem vc_X7_refresh_0 {μ : am_M} {Q : am_M → Prop} (h : (μ 129 5 ≠ 0 → ∀ m1 : am_M, m1 = am_st μ 129 (am_up (μ 129) 5 0) → at_V kC 5 mX7_refresh 15 [vR 129, vI 0] [] m1 Q) ∧ (μ 129 5 = 0 → Q μ)) : at_V kC 5 mX7_refresh 0 [vR 129, vU] [] μ Q := by
  refine s_aload_n dX7_refresh_0 rfl rfl ?_
  refine s_getI (x := (μ 129 5)) dX7_refresh_1 flX7_26 kn129 kk129 rfl rfl ?_
  refine s_if_ne dX7_refresh_4 (tgt := 8) (by decide) (fun cc => ?_) (fun cc => ?_)
  · have h := h.1 cc
    refine s_aload_n dX7_refresh_8 rfl rfl ?_
    refine s_iconst dX7_refresh_9 (by decide) ?_
    obtain ⟨m1, hm1⟩ : ∃ x : am_M, x = am_st μ 129 (am_up (μ 129) 5 0) := ⟨_, rfl⟩
    have h := h m1 hm1
    refine s_putI dX7_refresh_10 flX7_26 kn129 kk129 rfl rfl (Or.inr (by decide)) hm1.symm ?_
    refine s_iconst dX7_refresh_13 (by decide) ?_
    refine s_istore_n dX7_refresh_14 rfl (by decide) (L' := [vR 129, vI 0]) rfl ?_
    exact h
  · have h := h.2 cc
    exact s_return dX7_refresh_7 rfl ⟨⟨rfl, rfl⟩, rfl, h⟩
theorem vc_X7_refresh_15 {x1 : Int} {μ : am_M} {Q : am_M → Prop} (h : (μ 1 5 ≤ x1 → ∃ P : am_M → Prop, cl_V kC 4 mX7_fillDry [vR 129] μ P ∧ (∀ m2 : am_M, P m2 → ∃ P : am_M → Prop, cl_V kC 1 mJ7_fill_53178 [vR 142, vI 0] m2 P ∧ (∀ m4 : am_M, P m4 → ∃ P : am_M → Prop, cl_V kC 1 mJ7_fill_53178 [vR 143, vI 0] m4 P ∧ (∀ m6 : am_M, P m6 → at_V kC 5 mX7_refresh 59 [vR 129, vI 0] [] m6 Q)))) ∧ (x1 < μ 1 5 → ∃ P : am_M → Prop, cl_V kC 2 mX7_fillSource [vR 129, vI x1] μ P ∧ (∀ m8 : am_M, P m8 → (am_in (x1 + 1)) ∧ (at_V kC 5 mX7_refresh 15 [vR 129, vI (x1 + 1)] [] m8 Q)))) : at_V kC 5 mX7_refresh 15 [vR 129, vI x1] [] μ Q := by
  refine s_iload_n dX7_refresh_15 rfl rfl ?_
  refine s_aload_n dX7_refresh_16 rfl rfl ?_
  refine s_getR dX7_refresh_17 flX7_30 kn129 kk129 rfl kr129_0 ?_
  refine s_getI (x := (μ 1 5)) dX7_refresh_20 flX7_34 kn1 kk1 rfl rfl ?_
  refine s_icmp_ge dX7_refresh_23 (tgt := 37) (by decide) (fun cc => ?_) (fun cc => ?_)
  · have h := h.1 cc
    refine s_aload_n dX7_refresh_37 rfl rfl ?_
    obtain ⟨P, hcl, h⟩ := h
    refine s_callV (As := []) (rest := []) (k := 129) dX7_refresh_38 lkX7_44 kn129 ⟨by rw [kk129]; rfl, by rw [kk129]; decide⟩ lmX7_fillDry rfl rfl (Nat.le_of_ble_eq_true rfl) (by decide) (Nat.le_refl 0) (Nat.le_refl 0) (hC := hcl) (fun r n2 S2 m2 hP => ?_)
    obtain ⟨⟨rfl, rfl⟩, rfl, hq⟩ := hP
    have h := h m2 hq
    refine s_aload_n dX7_refresh_41 rfl rfl ?_
    refine s_getR dX7_refresh_42 flX7_19 kn129 kk129 rfl kr129_3 ?_
    refine s_iconst dX7_refresh_45 (by decide) ?_
    obtain ⟨P, hcl, h⟩ := h
    refine s_callS (As := [vR 142, vI 0]) (rest := []) dX7_refresh_46 lkX7_47 lmJ7_fill_53178 rfl rfl (Nat.le_of_ble_eq_true rfl) (by decide) (Nat.le_refl 0) (Nat.le_refl 0) (hC := hcl) (fun r n2 S2 m4 hP => ?_)
    obtain ⟨⟨rfl, rfl⟩, rfl, hq⟩ := hP
    have h := h m4 hq
    refine s_aload_n dX7_refresh_49 rfl rfl ?_
    refine s_getR dX7_refresh_50 flX7_23 kn129 kk129 rfl kr129_4 ?_
    refine s_iconst dX7_refresh_53 (by decide) ?_
    obtain ⟨P, hcl, h⟩ := h
    refine s_callS (As := [vR 143, vI 0]) (rest := []) dX7_refresh_54 lkX7_47 lmJ7_fill_53178 rfl rfl (Nat.le_of_ble_eq_true rfl) (by decide) (Nat.le_refl 0) (Nat.le_refl 0) (hC := hcl) (fun r n2 S2 m6 hP => ?_)
    obtain ⟨⟨rfl, rfl⟩, rfl, hq⟩ := hP
    have h := h m6 hq
    refine s_iconst dX7_refresh_57 (by decide) ?_
    refine s_istore_n dX7_refresh_58 rfl (by decide) (L' := [vR 129, vI 0]) rfl ?_
    exact h
  · have h := h.2 cc
    refine s_aload_n dX7_refresh_26 rfl rfl ?_
    refine s_iload_n dX7_refresh_27 rfl rfl ?_
    obtain ⟨P, hcl, h⟩ := h
    refine s_callV (As := [vI x1]) (rest := []) (k := 129) dX7_refresh_28 lkX7_40 kn129 ⟨by rw [kk129]; rfl, by rw [kk129]; decide⟩ lmX7_fillSource rfl rfl (Nat.le_of_ble_eq_true rfl) (by decide) (Nat.le_refl 0) (Nat.le_refl 0) (hC := hcl) (fun r n2 S2 m8 hP => ?_)
    obtain ⟨⟨rfl, rfl⟩, rfl, hq⟩ := hP
    have h := h m8 hq
    obtain ⟨c, h⟩ := h
    refine s_iinc dX7_refresh_31 rfl (am_w_id c) (by decide) (L' := [vR 129, vI (x1 + 1)]) rfl ?_
    refine s_goto dX7_refresh_34 (tgt := 15) (by decide) ?_
    exact h
theorem vc_X7_refresh_59 {x1 : Int} {μ : am_M} {Q : am_M → Prop} (h : (4 ≤ x1 → at_V kC 5 mX7_refresh 77 [vR 129, vI 0] [] μ Q) ∧ (x1 < 4 → ∃ P : am_M → Prop, cl_V kC 2 mX7_fillDucked [vR 129, vI x1] μ P ∧ (∀ m2 : am_M, P m2 → (am_in (x1 + 1)) ∧ (at_V kC 5 mX7_refresh 59 [vR 129, vI (x1 + 1)] [] m2 Q)))) : at_V kC 5 mX7_refresh 59 [vR 129, vI x1] [] μ Q := by
  refine s_iload_n dX7_refresh_59 rfl rfl ?_
  refine s_iconst dX7_refresh_60 (by decide) ?_
  refine s_icmp_ge dX7_refresh_61 (tgt := 75) (by decide) (fun cc => ?_) (fun cc => ?_)
  · have h := h.1 cc
    refine s_iconst dX7_refresh_75 (by decide) ?_
    refine s_istore_n dX7_refresh_76 rfl (by decide) (L' := [vR 129, vI 0]) rfl ?_
    exact h
  · have h := h.2 cc
    refine s_aload_n dX7_refresh_64 rfl rfl ?_
    refine s_iload_n dX7_refresh_65 rfl rfl ?_
    obtain ⟨P, hcl, h⟩ := h
    refine s_callV (As := [vI x1]) (rest := []) (k := 129) dX7_refresh_66 lkX7_53 kn129 ⟨by rw [kk129]; rfl, by rw [kk129]; decide⟩ lmX7_fillDucked rfl rfl (Nat.le_of_ble_eq_true rfl) (by decide) (Nat.le_refl 0) (Nat.le_refl 0) (hC := hcl) (fun r n2 S2 m2 hP => ?_)
    obtain ⟨⟨rfl, rfl⟩, rfl, hq⟩ := hP
    have h := h m2 hq
    obtain ⟨c, h⟩ := h
    refine s_iinc dX7_refresh_69 rfl (am_w_id c) (by decide) (L' := [vR 129, vI (x1 + 1)]) rfl ?_
    refine s_goto dX7_refresh_72 (tgt := 59) (by decide) ?_
    exact h
theorem vc_X7_refresh_77 {x1 : Int} {μ : am_M} {Q : am_M → Prop} (h : (4 ≤ x1 → Q μ) ∧ (x1 < 4 → (in_ 0 4 x1) ∧ ((¬ (aud_ (tg (μ 3) 7) x1) → (am_in (x1 + 1)) ∧ (at_V kC 5 mX7_refresh 77 [vR 129, vI (x1 + 1)] [] μ Q)) ∧ (aud_ (tg (μ 3) 7) x1 → ∃ P : am_M → Prop, cl_V kC 3 mX7_addTrack [vR 129, vI x1] μ P ∧ (∀ m2 : am_M, P m2 → (am_in (x1 + 1)) ∧ (at_V kC 5 mX7_refresh 77 [vR 129, vI (x1 + 1)] [] m2 Q)))))) : at_V kC 5 mX7_refresh 77 [vR 129, vI x1] [] μ Q := by
  refine s_iload_n dX7_refresh_77 rfl rfl ?_
  refine s_iconst dX7_refresh_78 (by decide) ?_
  refine s_icmp_ge dX7_refresh_79 (tgt := 104) (by decide) (fun cc => ?_) (fun cc => ?_)
  · have h := h.1 cc
    exact s_return dX7_refresh_104 rfl ⟨⟨rfl, rfl⟩, rfl, h⟩
  · have h := h.2 cc
    refine s_aload_n dX7_refresh_82 rfl rfl ?_
    refine s_getR dX7_refresh_83 flX7_30 kn129 kk129 rfl kr129_0 ?_
    refine s_iload_n dX7_refresh_86 rfl rfl ?_
    obtain ⟨p0, h⟩ := h
    refine s_callV (As := [vI x1]) (rest := []) (k := 1) dX7_refresh_87 lkX7_56 kn1 ⟨by rw [kk1]; rfl, by rw [kk1]; decide⟩ lmX4_isAudible rfl rfl (Nat.le_of_ble_eq_true rfl) (by decide) (Nat.le_refl 0) (Nat.le_refl 0) (hC := sp_X4_isAudible (Q := fun z m => bI (aud_ (tg (μ 3) 7) x1) = z ∧ μ = m) p0 ⟨rfl, rfl⟩) (fun r n2 S2 m2 hP => ?_)
    obtain ⟨⟨rfl, rfl⟩, z, rfl, rfl, rfl⟩ := hP
    refine s_if_eq dX7_refresh_90 (tgt := 98) (by decide) (fun cc => ?_) (fun cc => ?_)
    · have h := h.1 (bI_eq cc)
      obtain ⟨c, h⟩ := h
      refine s_iinc dX7_refresh_98 rfl (am_w_id c) (by decide) (L' := [vR 129, vI (x1 + 1)]) rfl ?_
      refine s_goto dX7_refresh_101 (tgt := 77) (by decide) ?_
      exact h
    · have h := h.2 (bI_ne cc)
      refine s_aload_n dX7_refresh_93 rfl rfl ?_
      refine s_iload_n dX7_refresh_94 rfl rfl ?_
      obtain ⟨P, hcl, h⟩ := h
      refine s_callV (As := [vI x1]) (rest := []) (k := 129) dX7_refresh_95 lkX7_60 kn129 ⟨by rw [kk129]; rfl, by rw [kk129]; decide⟩ lmX7_addTrack rfl rfl (Nat.le_of_ble_eq_true rfl) (by decide) (Nat.le_refl 0) (Nat.le_refl 0) (hC := hcl) (fun r n2 S2 m2 hP => ?_)
      obtain ⟨⟨rfl, rfl⟩, rfl, hq⟩ := hP
      have h := h m2 hq
      obtain ⟨c, h⟩ := h
      refine s_iinc dX7_refresh_98 rfl (am_w_id c) (by decide) (L' := [vR 129, vI (x1 + 1)]) rfl ?_
      refine s_goto dX7_refresh_101 (tgt := 77) (by decide) ?_
      exact h
theorem ve_X7_refresh {μ : am_M} {Q : am_M → Prop} (h : at_V kC 5 mX7_refresh 0 [vR 129, vU] [] μ Q) : cl_V kC 5 mX7_refresh [vR 129] μ Q := am_intro pmX7_refresh (Nat.le_of_ble_eq_true rfl) rfl h
def rfL : List Nat := [129, 131, 132, 133, 134, 135, 136, 138, 139, 140, 141, 142, 143]
theorem rfL_9 : ∀ k ∈ rfL, 9 < k := by decide
theorem sp_X7_refresh {μ : am_M} (hV : vC μ) (hs : μ 129 5 = 0 → snd_ μ) : cl_V kC 5 mX7_refresh [vR 129] μ (fun m => fr_ rfL μ m ∧ m 129 5 = 0 ∧ snd_ m) := by
  refine ve_X7_refresh (vc_X7_refresh_0 ⟨fun st m1 e1 => ?_, fun st => ⟨fr_rf, st, hs st⟩⟩)
  have hn := hV.hS.1
  have f1 : fr_ rfL μ m1 := by rw [e1]; exact fr_st (by decide)
  have s1 : m1 129 5 = 0 := by rw [e1, st_s, up_s]
  have e0 : ∀ (m : am_M), fr_ rfL μ m → ∀ k, k ≤ 9 → m k = μ k := fun m h k hk => h k (fun q => by have := rfL_9 _ q; omega)
  have p4 : ∀ (j : Nat) (x : Int) (m : am_M), x + j = 4 → 0 ≤ x → fr_ rfL μ m → m 129 5 = 0 → sv_ m → dk_ m (drC μ) → bk_ m (dukC μ) → sk_ m (fun f => suC μ f x) → at_V kC 5 mX7_refresh 77 [vR 129, vI x] [] m (fun m => fr_ rfL μ m ∧ m 129 5 = 0 ∧ snd_ m) := by
    intro j
    induction j with
    | zero =>
      intro x m hx h0 hf h5 a1 a2 a3 a4
      obtain ⟨c1, c2, c3, c4⟩ := pC_fr hf rfL_9
      refine vc_X7_refresh_77 ⟨fun _ => ⟨hf, h5, a1, by rw [c1]; exact a2, by rw [c2]; exact a3, ?_⟩, fun q => by omega⟩
      rw [c4]
      rw [show x = 4 by omega] at a4
      exact a4
    | succ j ih =>
      intro x m hx h0 hf h5 a1 a2 a3 a4
      obtain ⟨c1, c2, c3, c4⟩ := pC_fr hf rfL_9
      have ss : ∀ f, suC μ f (x + 1) = suC μ f x + cif (aud_ (tg (μ 3) 7) x) (weC μ x f) 0 := fun f => su_s h0
      refine vc_X7_refresh_77 ⟨fun q => by omega, fun q => ⟨⟨h0, q⟩, ?_⟩⟩
      rw [e0 m hf 3 (by omega)]
      refine ⟨fun na => ⟨(by (try unfold am_in); (try unfold in_ at *); omega), ih (x + 1) m (by omega) (by omega) hf h5 a1 a2 a3 (fun f hf2 => ?_)⟩, fun na => ?_⟩
      · rw [a4 f hf2]
        show suC μ f x = suC μ f (x + 1)
        rw [ss f, cif_f na]
        omega
      · refine ⟨_, sp_X7_addTrack (F := fun f => suC μ f x) (vC_fr hf rfL_9 hV) ⟨h0, q⟩ (by rw [c1]; exact a2) (by rw [c2]; exact a3) (fun f hf2 => ?_) a4, fun m2 k2 => ⟨(by (try unfold am_in); (try unfold in_ at *); omega), ih (x + 1) m2 (by omega) (by omega) (fr_tr hf (fr_up k2.1 (by decide))) (by rw [k2.1 129 (by decide)]; exact h5) (sv_fr k2.1 (by simp) (by rw [e0 m hf 1 (by omega)]; exact hn) a1) (dk_fr k2.1 (by simp) a2) (bk_fr k2.1 (by simp) a3) (fun f hf2 => ?_)⟩⟩
        · have : 0 ≤ suC μ f x ∧ suC μ f x ≤ x * 1998 := su_b hV (μ 2 4) h0 (by omega)
          exact ⟨this.1, by omega⟩
        · rw [k2.2 f hf2, c3]
          show suC μ f x + weC μ x f = suC μ f (x + 1)
          rw [ss f, cif_t na]
  have p3 : ∀ (j : Nat) (x : Int) (m : am_M), x + j = 4 → 0 ≤ x → fr_ rfL μ m → m 129 5 = 0 → sv_ m → dk_ m (drC μ) → bk_ m (fun u f => u < x ∧ dukC μ u f) → sk_ m (fun f => suC μ f 0) → at_V kC 5 mX7_refresh 59 [vR 129, vI x] [] m (fun m => fr_ rfL μ m ∧ m 129 5 = 0 ∧ snd_ m) := by
    intro j
    induction j with
    | zero =>
      intro x m hx h0 hf h5 a1 a2 a3 a4
      refine vc_X7_refresh_59 ⟨fun _ => p4 4 0 m (by omega) (by omega) hf h5 a1 a2 (fun f hf2 => ⟨(a3 f hf2).1, fun u hu => ?_⟩) a4, fun q => by omega⟩
      rw [(a3 f hf2).2 u hu]
      unfold in_ at hu
      exact ⟨fun z => z.2, fun z => ⟨by omega, z⟩⟩
    | succ j ih =>
      intro x m hx h0 hf h5 a1 a2 a3 a4
      obtain ⟨c1, c2, c3, c4⟩ := pC_fr hf rfL_9
      refine vc_X7_refresh_59 ⟨fun q => by omega, fun q => ⟨_, sp_X7_fillDucked (vC_fr hf rfL_9 hV) ⟨h0, q⟩ (by rw [c1]; exact a2) a3, fun m2 k2 => ⟨(by (try unfold am_in); (try unfold in_ at *); omega), ih (x + 1) m2 (by omega) (by omega) (fr_tr hf (fr_up k2.1 (by decide))) (by rw [k2.1 129 (by decide)]; exact h5) (sv_fr k2.1 (by simp) (by rw [e0 m hf 1 (by omega)]; exact hn) a1) (dk_fr k2.1 (by simp) a2) (fun f hf2 => ⟨(k2.2 f hf2).1, fun u hu => ?_⟩) (fun f hf2 => ?_)⟩⟩⟩
      · rw [(k2.2 f hf2).2 u hu, c2]
        constructor
        · rintro (⟨z1, z2⟩ | ⟨z1, z2⟩)
          · exact ⟨by omega, z2⟩
          · exact ⟨by omega, by rw [z1]; exact z2⟩
        · rintro ⟨z1, z2⟩
          by_cases e : u = x
          · exact Or.inr ⟨e, by rw [← e]; exact z2⟩
          · exact Or.inl ⟨by omega, z2⟩
      · rw [k2.1 143 (by decide)]
        exact a4 f hf2
  have p1 : ∀ (j : Nat) (x : Int) (m : am_M), x + j = μ 1 5 → 0 ≤ x → fr_ rfL μ m → m 129 5 = 0 → (∀ s : Int, 0 ≤ s → s < x → ∀ i : Int, 0 ≤ i → i < tg (μ 4) 4 s 1 → m (131 + s.toNat) i.toNat = wav_ (tg (μ 4) 4) s i) → at_V kC 5 mX7_refresh 15 [vR 129, vI x] [] m (fun m => fr_ rfL μ m ∧ m 129 5 = 0 ∧ snd_ m) := by
    intro j
    induction j with
    | zero =>
      intro x m hx h0 hf h5 a1
      have sv : sv_ m := fun s s0 s1 i i0 i1 => by
        rw [e0 m hf 1 (by omega)] at s1
        rw [e0 m hf 4 (by omega)] at i1 ⊢
        exact a1 s s0 (by omega) i i0 i1
      obtain ⟨c1, c2, c3, c4⟩ := pC_fr hf rfL_9
      refine vc_X7_refresh_15 ⟨fun _ => ⟨_, sp_X7_fillDry (vC_fr hf rfL_9 hV) sv, fun m2 k2 => ?_⟩, fun q => by rw [e0 m hf 1 (by omega)] at q; omega⟩
      refine ⟨_, sp_J7_fill ⟨kn142, kk142, kl142⟩, fun m4 k4 => ⟨_, sp_J7_fill ⟨kn143, kk143, kl143⟩, fun m6 k6 => ?_⟩⟩
      have g6 := fr_tr (fr_up k2.1 (k2 := rfL) (by decide)) (fr_tr (fr_up k4.1 (k2 := rfL) (by decide)) (fr_up k6.1 (k2 := rfL) (by decide)))
      have n1 : in_ 0 7 (m 1 5) := by rw [e0 m hf 1 (by omega)]; exact hn
      refine p3 4 0 m6 (by omega) (by omega) (fr_tr hf g6) ?_ ?_ ?_ (fun f hf2 => ?_) (fun f hf2 => ?_)
      · rw [k6.1 129 (by decide), k4.1 129 (by decide), k2.1 129 (by decide)]; exact h5
      · exact sv_fr (fr_tr (fr_up k2.1 (k2 := [138, 139, 140, 141, 142, 143]) (by decide)) (fr_tr (fr_up k4.1 (k2 := [138, 139, 140, 141, 142, 143]) (by decide)) (fr_up k6.1 (k2 := [138, 139, 140, 141, 142, 143]) (by decide)))) (by simp) n1 sv
      · refine dk_fr (fr_tr (fr_up k4.1 (k2 := [142, 143]) (by decide)) (fr_up k6.1 (k2 := [142, 143]) (by decide))) (by simp) ?_
        rw [← c1]
        exact k2.2
      · rw [k6.1 142 (by decide), k4.2 f.toNat (by unfold in_ at hf2; omega)]
        refine ⟨⟨by omega, by omega⟩, fun u hu => ⟨fun z => ?_, fun z => ?_⟩⟩
        · unfold bt_ at z
          simp at z
        · unfold in_ at hu; omega
      · rw [k6.2 f.toNat (by unfold in_ at hf2; omega)]
        rfl
    | succ j ih =>
      intro x m hx h0 hf h5 a1
      have hV2 := vC_fr hf rfL_9 hV
      refine vc_X7_refresh_15 ⟨fun q => by rw [e0 m hf 1 (by omega)] at q; omega, fun q => ⟨_, sp_X7_fillSource hV2.hS hV2.hS2 ⟨h0, q⟩, fun m2 k2 => ⟨(by (try unfold am_in); (try unfold in_ at *); omega), ih (x + 1) m2 (by omega) (by omega) (fr_tr hf (fr_up k2.1 ?_)) ?_ (fun s s0 s1 i i0 i1 => ?_)⟩⟩⟩
      · intro k hk
        have : k = 131 + x.toNat := by simpa using hk
        subst this
        have : x.toNat = 0 ∨ x.toNat = 1 ∨ x.toNat = 2 ∨ x.toNat = 3 ∨ x.toNat = 4 ∨ x.toNat = 5 := by unfold in_ at hn; omega
        rcases this with h | h | h | h | h | h <;> rw [h] <;> decide
      · rw [k2.1 129 (by simp; omega)]; exact h5
      · rw [e0 m hf 4 (by omega)] at k2
        by_cases e : s = x
        · subst e
          have := k2.2 i.toNat (by omega)
          rw [show ((i.toNat : Nat) : Int) = i by omega] at this
          exact this
        · rw [k2.1 (131 + s.toNat) (by simp; omega)]
          exact a1 s s0 (by omega) i i0 i1
  exact p1 (μ 1 5).toNat 0 m1 (by unfold in_ at hn; omega) (by omega) f1 s1 (fun s s0 s1 => by omega)

/-! the reference's sound: all frames worked out -/
def ix (t f : Int) : Nat := ((600 * t) + f).toNat
theorem ix_n {t f s g : Int} (ht : 0 ≤ t) (hf : in_ 0 600 f) (hs : 0 ≤ s) (hg : in_ 0 600 g) (h : ¬ (t = s ∧ f = g)) : ix t f ≠ ix s g := by
  unfold ix in_ at *
  intro e
  apply h
  omega
theorem ix_b {t f : Int} (ht : in_ 0 4 t) (hf : in_ 0 600 f) : 0 ≤ (600 * t) + f ∧ (600 * t) + f < 2400 := by
  unfold in_ at *
  omega
def dv_ (m : am_M) (k : Nat) (F : Int → Int → Int) : Prop := ∀ t f : Int, in_ 0 4 t → in_ 0 600 f → m k (ix t f) = F t f
theorem dv_c {m : am_M} {k : Nat} {F G : Int → Int → Int} (h : dv_ m k F) (e : ∀ t f, in_ 0 4 t → in_ 0 600 f → F t f = G t f) : dv_ m k G := fun t f ht hf => (h t f ht hf).trans (e t f ht hf)
theorem dv_fr {ks : List Nat} {m m2 : am_M} {k : Nat} {F : Int → Int → Int} (hf : fr_ ks m m2) (hk : k ∉ ks) (h : dv_ m k F) : dv_ m2 k F := fun t f ht hf2 => by
  rw [hf k hk]
  exact h t f ht hf2
theorem dv_st {m : am_M} {k : Nat} {F G : Int → Int → Int} {t f v : Int} (ht : 0 ≤ t) (hf : in_ 0 600 f) (h : dv_ m k F) (e1 : G t f = v) (e : ∀ s g, in_ 0 4 s → in_ 0 600 g → ¬ (s = t ∧ g = f) → G s g = F s g) : dv_ (am_st m k (am_up (m k) (ix t f) v)) k G := fun s g hs hg => by
  rw [st_s]
  by_cases c : s = t ∧ g = f
  · rw [c.1, c.2, up_s, e1]
  · rw [up_n (ix_n hs.1 hg ht hf c), e s g hs hg c]
    exact h s g hs hg
noncomputable abbrev vtR (μ : am_M) : Int → Int → Int := vt_ (μ 1 469) (rS μ) (μ 1 25) (rg μ)
noncomputable abbrev drR (μ : am_M) : Int → Int → Int := dr_ (μ 1 469) (rT μ) (rS μ) (μ 1 25) (rg μ)
abbrev dukR (μ : am_M) : Int → Int → Prop := duk_ (μ 1 469) (rT μ) (rS μ) (μ 1 25) (rg μ)
noncomputable abbrev weR (μ : am_M) : Int → Int → Int := we_ (μ 1 469) (rT μ) (rS μ) (μ 1 25) (rg μ)
noncomputable abbrev suR (μ : am_M) (f k : Int) : Int := su_ (μ 1 469) (rT μ) (rS μ) (μ 1 25) (rg μ) f k
noncomputable def vQ_ (μ : am_M) (x y t f : Int) : Int := cif (0 ≤ ont_ (μ 1 25) (rg μ) t f ∧ (ont_ (μ 1 25) (rg μ) t f < x ∨ (ont_ (μ 1 25) (rg μ) t f = x ∧ f < rg μ (ont_ (μ 1 25) (rg μ) t f) 1 + y))) (vtR μ t f) 0
/-- rows that are worked out for all frames -/
def wkL : List Nat := [8, 9, 10, 11, 12, 13]
theorem r1_e {m μ : am_M} (e : m 1 = μ 1) : rS m = rS μ ∧ rg m = rg μ ∧ rT m = rT μ := by
  unfold rS rg rT
  rw [e]
  exact ⟨rfl, rfl, rfl⟩
theorem rv_e {m μ : am_M} (e : m 1 = μ 1) (e8 : m 8 = μ 8) (h : rv_ μ) : rv_ m := by
  intro s i s0 s1 i0 i1
  rw [(r1_e e).1] at i1 ⊢
  rw [e] at s1
  rw [e8]
  exact h s i s0 s1 i0 i1
/-- the sound of the reference's row stands -/
def rsnd_ (m : am_M) : Prop := rv_ m ∧ dv_ m 9 (vtR m) ∧ dv_ m 10 (drR m) ∧ dv_ m 13 (fun t f => bI (dukR m t f)) ∧ dv_ m 11 (weR m) ∧ ∀ f, in_ 0 600 f → m 12 f.toNat = suR m f 4
theorem vc_X10_works_0 {μ : am_M} {Q : am_M → Prop} (h : ∃ P : am_M → Prop, cl_V kR 2 mX10_laysWaves [vR 0] μ P ∧ (∀ m2 : am_M, P m2 → at_V kR 3 mX10_works 6 [vR 0, vI 0, vU, vU, vU] [] m2 Q)) : at_V kR 3 mX10_works 0 [vR 0, vU, vU, vU, vU] [] μ Q := by
  refine s_aload_n dX10_works_0 rfl rfl ?_
  obtain ⟨P, hcl, h⟩ := h
  refine s_callV (As := []) (rest := []) (k := 0) dX10_works_1 lkX10_123 rn0 ⟨by rw [rk0]; rfl, by rw [rk0]; decide⟩ lmX10_laysWaves rfl rfl (Nat.le_of_ble_eq_true rfl) (by decide) (Nat.le_refl 0) (Nat.le_refl 0) (hC := hcl) (fun r n2 S2 m2 hP => ?_)
  obtain ⟨⟨rfl, rfl⟩, rfl, hq⟩ := hP
  have h := h m2 hq
  refine s_iconst dX10_works_4 (by decide) ?_
  refine s_istore_n dX10_works_5 rfl (by decide) (L' := [vR 0, vI 0, vU, vU, vU]) rfl ?_
  exact h
theorem vc_X10_works_6 {x1 : Int} {μ : am_M} {Q : am_M → Prop} (h : (2400 ≤ x1 → at_V kR 3 mX10_works 28 [vR 0, vI 0, vU, vU, vU] [] μ Q) ∧ (x1 < 2400 → (0 ≤ x1) ∧ (x1 < 2400) ∧ (∀ m1 : am_M, m1 = am_st μ 9 (am_up (μ 9) (x1).toNat 0) → (am_in (x1 + 1)) ∧ (at_V kR 3 mX10_works 6 [vR 0, vI (x1 + 1), vU, vU, vU] [] m1 Q)))) : at_V kR 3 mX10_works 6 [vR 0, vI x1, vU, vU, vU] [] μ Q := by
  refine s_iload_n dX10_works_6 rfl rfl ?_
  refine s_sipush dX10_works_7 (by decide) ?_
  refine s_icmp_ge dX10_works_10 (tgt := 26) (by decide) (fun cc => ?_) (fun cc => ?_)
  · have h := h.1 cc
    refine s_iconst dX10_works_26 (by decide) ?_
    refine s_istore_n dX10_works_27 rfl (by decide) (L' := [vR 0, vI 0, vU, vU, vU]) rfl ?_
    exact h
  · have h := h.2 cc
    refine s_aload_n dX10_works_13 rfl rfl ?_
    refine s_getR dX10_works_14 flX10_34 rn0 rk0 rfl rr0_13 ?_
    refine s_iload_n dX10_works_17 rfl rfl ?_
    refine s_iconst dX10_works_18 (by decide) ?_
    obtain ⟨c, c2, h⟩ := h
    obtain ⟨m1, hm1⟩ : ∃ x : am_M, x = am_st μ 9 (am_up (μ 9) (x1).toNat 0) := ⟨_, rfl⟩
    have h := h m1 hm1
    refine s_iast dX10_works_19 rn9 rk9 rl9 c c2 hm1.symm ?_
    obtain ⟨c, h⟩ := h
    refine s_iinc dX10_works_20 rfl (am_w_id c) (by decide) (L' := [vR 0, vI (x1 + 1), vU, vU, vU]) rfl ?_
    refine s_goto dX10_works_23 (tgt := 6) (by decide) ?_
    exact h
theorem vc_X10_works_28 {x1 : Int} {μ : am_M} {Q : am_M → Prop} (h : (μ 1 25 ≤ x1 → at_V kR 3 mX10_works 95 [vR 0, vI 0, vU, vU, vU] [] μ Q) ∧ (x1 < μ 1 25 → at_V kR 3 mX10_works 41 [vR 0, vI x1, vI 0, vU, vU] [] μ Q)) : at_V kR 3 mX10_works 28 [vR 0, vI x1, vU, vU, vU] [] μ Q := by
  refine s_iload_n dX10_works_28 rfl rfl ?_
  refine s_aload_n dX10_works_29 rfl rfl ?_
  refine s_getR dX10_works_30 flX10_9 rn0 rk0 rfl rr0_0 ?_
  refine s_bipush dX10_works_33 (by decide) ?_
  refine s_iald (x := (μ 1 25)) dX10_works_35 rn1 rk1 rl1 (by decide) (by decide) rfl ?_
  refine s_icmp_ge dX10_works_36 (tgt := 93) (by decide) (fun cc => ?_) (fun cc => ?_)
  · have h := h.1 cc
    refine s_iconst dX10_works_93 (by decide) ?_
    refine s_istore_n dX10_works_94 rfl (by decide) (L' := [vR 0, vI 0, vU, vU, vU]) rfl ?_
    exact h
  · have h := h.2 cc
    refine s_iconst dX10_works_39 (by decide) ?_
    refine s_istore_n dX10_works_40 rfl (by decide) (L' := [vR 0, vI x1, vI 0, vU, vU]) rfl ?_
    exact h
theorem vc_X10_works_41 {x1 x2 : Int} {μ : am_M} {Q : am_M → Prop} (h : (in_ 0 48 x1) ∧ (in_ 0 8 4) ∧ ((rg μ x1 4 ≤ x2 → (am_in (x1 + 1)) ∧ (at_V kR 3 mX10_works 28 [vR 0, vI (x1 + 1), vU, vU, vU] [] μ Q)) ∧ (x2 < rg μ x1 4 → (in_ 0 48 x1) ∧ (in_ 0 8 0) ∧ ((am_in (600 * (rg μ x1 0))) ∧ ((in_ 0 48 x1) ∧ (in_ 0 8 1) ∧ ((am_in ((600 * (rg μ x1 0)) + (rg μ x1 1))) ∧ ((am_in (((600 * (rg μ x1 0)) + (rg μ x1 1)) + x2)) ∧ (∃ P : Int → am_M → Prop, cl_I kR 2 mX10_clipValue [vR 0, vI x1, vI x2] μ P ∧ (∀ (z1 : Int) (m2 : am_M), P z1 m2 → (0 ≤ ((600 * (rg μ x1 0)) + (rg μ x1 1)) + x2) ∧ (((600 * (rg μ x1 0)) + (rg μ x1 1)) + x2 < 2400) ∧ (∀ m3 : am_M, m3 = am_st m2 9 (am_up (m2 9) (((600 * (rg μ x1 0)) + (rg μ x1 1)) + x2).toNat z1) → (am_in (x2 + 1)) ∧ (at_V kR 3 mX10_works 41 [vR 0, vI x1, vI (x2 + 1), vU, vU] [] m3 Q))))))))))) : at_V kR 3 mX10_works 41 [vR 0, vI x1, vI x2, vU, vU] [] μ Q := by
  refine s_iload_n dX10_works_41 rfl rfl ?_
  refine s_aload_n dX10_works_42 rfl rfl ?_
  refine s_iload_n dX10_works_43 rfl rfl ?_
  refine s_iconst dX10_works_44 (by decide) ?_
  obtain ⟨p0, p1, h⟩ := h
  refine s_callV (As := [vI x1, vI 4]) (rest := [vI x2]) (k := 0) dX10_works_45 lkX10_126 rn0 ⟨by rw [rk0]; rfl, by rw [rk0]; decide⟩ lmX10_of rfl rfl (Nat.le_of_ble_eq_true rfl) (by decide) (Nat.le_refl 0) (Nat.le_refl 0) (hC := sp_X10_of (Q := fun z m => rg μ x1 4 = z ∧ μ = m) p0 p1 ⟨rfl, rfl⟩) (fun r n2 S2 m2 hP => ?_)
  obtain ⟨⟨rfl, rfl⟩, z, rfl, rfl, rfl⟩ := hP
  refine s_icmp_ge dX10_works_48 (tgt := 87) (by decide) (fun cc => ?_) (fun cc => ?_)
  · have h := h.1 cc
    obtain ⟨c, h⟩ := h
    refine s_iinc dX10_works_87 rfl (am_w_id c) (by decide) (L' := [vR 0, vI (x1 + 1), vI x2, vU, vU]) rfl ?_
    refine s_goto dX10_works_90 (tgt := 28) (by decide) ?_
    exact am_lesS h ⟨Or.inr rfl, Or.inr rfl, Or.inl rfl, Or.inl rfl, Or.inl rfl, trivial⟩
  · have h := h.2 cc
    refine s_aload_n dX10_works_51 rfl rfl ?_
    refine s_getR dX10_works_52 flX10_34 rn0 rk0 rfl rr0_13 ?_
    refine s_sipush dX10_works_55 (by decide) ?_
    refine s_aload_n dX10_works_58 rfl rfl ?_
    refine s_iload_n dX10_works_59 rfl rfl ?_
    refine s_iconst dX10_works_60 (by decide) ?_
    obtain ⟨p0, p1, h⟩ := h
    refine s_callV (As := [vI x1, vI 0]) (rest := [vI 600, vR 9]) (k := 0) dX10_works_61 lkX10_126 rn0 ⟨by rw [rk0]; rfl, by rw [rk0]; decide⟩ lmX10_of rfl rfl (Nat.le_of_ble_eq_true rfl) (by decide) (Nat.le_refl 0) (Nat.le_refl 0) (hC := sp_X10_of (Q := fun z m => rg μ x1 0 = z ∧ μ = m) p0 p1 ⟨rfl, rfl⟩) (fun r n2 S2 m2 hP => ?_)
    obtain ⟨⟨rfl, rfl⟩, z, rfl, rfl, rfl⟩ := hP
    obtain ⟨c, h⟩ := h
    refine s_imul dX10_works_64 (am_w_id c) ?_
    refine s_aload_n dX10_works_65 rfl rfl ?_
    refine s_iload_n dX10_works_66 rfl rfl ?_
    refine s_iconst dX10_works_67 (by decide) ?_
    obtain ⟨p0, p1, h⟩ := h
    refine s_callV (As := [vI x1, vI 1]) (rest := [vI (600 * (rg μ x1 0)), vR 9]) (k := 0) dX10_works_68 lkX10_126 rn0 ⟨by rw [rk0]; rfl, by rw [rk0]; decide⟩ lmX10_of rfl rfl (Nat.le_of_ble_eq_true rfl) (by decide) (Nat.le_refl 0) (Nat.le_refl 0) (hC := sp_X10_of (Q := fun z m => rg μ x1 1 = z ∧ μ = m) p0 p1 ⟨rfl, rfl⟩) (fun r n2 S2 m2 hP => ?_)
    obtain ⟨⟨rfl, rfl⟩, z, rfl, rfl, rfl⟩ := hP
    obtain ⟨c, h⟩ := h
    refine s_iadd dX10_works_71 (am_w_id c) ?_
    refine s_iload_n dX10_works_72 rfl rfl ?_
    obtain ⟨c, h⟩ := h
    refine s_iadd dX10_works_73 (am_w_id c) ?_
    refine s_aload_n dX10_works_74 rfl rfl ?_
    refine s_iload_n dX10_works_75 rfl rfl ?_
    refine s_iload_n dX10_works_76 rfl rfl ?_
    obtain ⟨P, hcl, h⟩ := h
    refine s_callV (As := [vI x1, vI x2]) (rest := [vI (((600 * (rg μ x1 0)) + (rg μ x1 1)) + x2), vR 9]) (k := 0) dX10_works_77 lkX10_146 rn0 ⟨by rw [rk0]; rfl, by rw [rk0]; decide⟩ lmX10_clipValue rfl rfl (Nat.le_of_ble_eq_true rfl) (by decide) (Nat.le_refl 0) (Nat.le_refl 0) (hC := hcl) (fun r n2 S2 m2 hP => ?_)
    obtain ⟨⟨rfl, rfl⟩, z1, rfl, hq⟩ := hP
    have h := h z1 m2 hq
    obtain ⟨c, c2, h⟩ := h
    obtain ⟨m3, hm3⟩ : ∃ x : am_M, x = am_st m2 9 (am_up (m2 9) (((600 * (rg μ x1 0)) + (rg μ x1 1)) + x2).toNat z1) := ⟨_, rfl⟩
    have h := h m3 hm3
    refine s_iast dX10_works_80 rn9 rk9 rl9 c c2 hm3.symm ?_
    obtain ⟨c, h⟩ := h
    refine s_iinc dX10_works_81 rfl (am_w_id c) (by decide) (L' := [vR 0, vI x1, vI (x2 + 1), vU, vU]) rfl ?_
    refine s_goto dX10_works_84 (tgt := 41) (by decide) ?_
    exact h
theorem vc_X10_works_95 {x1 : Int} {μ : am_M} {Q : am_M → Prop} (h : (4 ≤ x1 → at_V kR 3 mX10_works 157 [vR 0, vI 0, vU, vU, vU] [] μ Q) ∧ (x1 < 4 → at_V kR 3 mX10_works 102 [vR 0, vI x1, vI 0, vU, vU] [] μ Q)) : at_V kR 3 mX10_works 95 [vR 0, vI x1, vU, vU, vU] [] μ Q := by
  refine s_iload_n dX10_works_95 rfl rfl ?_
  refine s_iconst dX10_works_96 (by decide) ?_
  refine s_icmp_ge dX10_works_97 (tgt := 155) (by decide) (fun cc => ?_) (fun cc => ?_)
  · have h := h.1 cc
    refine s_iconst dX10_works_155 (by decide) ?_
    refine s_istore_n dX10_works_156 rfl (by decide) (L' := [vR 0, vI 0, vU, vU, vU]) rfl ?_
    exact h
  · have h := h.2 cc
    refine s_iconst dX10_works_100 (by decide) ?_
    refine s_istore_n dX10_works_101 rfl (by decide) (L' := [vR 0, vI x1, vI 0, vU, vU]) rfl ?_
    exact h
theorem vc_X10_works_102 {x1 x2 : Int} {μ : am_M} {Q : am_M → Prop} (h : (600 ≤ x2 → (am_in (x1 + 1)) ∧ (at_V kR 3 mX10_works 95 [vR 0, vI (x1 + 1), vU, vU, vU] [] μ Q)) ∧ (x2 < 600 → (am_in (600 * x1)) ∧ ((am_in ((600 * x1) + x2)) ∧ ((am_in (600 * x1)) ∧ ((am_in ((600 * x1) + x2)) ∧ ((0 ≤ (600 * x1) + x2) ∧ ((600 * x1) + x2 < 2400) ∧ ((in_ 0 4 x1) ∧ (in_ 0 7 0) ∧ ((am_in ((μ 9 (((600 * x1) + x2).toNat)) * (rT μ x1 0))) ∧ ((0 ≤ (μ 9 (((600 * x1) + x2).toNat)) * (rT μ x1 0)) ∧ ((0 ≤ (600 * x1) + x2) ∧ ((600 * x1) + x2 < 2400) ∧ (∀ m1 : am_M, m1 = am_st μ 10 (am_up (μ 10) ((600 * x1) + x2).toNat (((μ 9 (((600 * x1) + x2).toNat)) * (rT μ x1 0)) / 100)) → (am_in (x2 + 1)) ∧ (at_V kR 3 mX10_works 102 [vR 0, vI x1, vI (x2 + 1), vU, vU] [] m1 Q)))))))))))) : at_V kR 3 mX10_works 102 [vR 0, vI x1, vI x2, vU, vU] [] μ Q := by
  refine s_iload_n dX10_works_102 rfl rfl ?_
  refine s_sipush dX10_works_103 (by decide) ?_
  refine s_icmp_ge dX10_works_106 (tgt := 149) (by decide) (fun cc => ?_) (fun cc => ?_)
  · have h := h.1 cc
    obtain ⟨c, h⟩ := h
    refine s_iinc dX10_works_149 rfl (am_w_id c) (by decide) (L' := [vR 0, vI (x1 + 1), vI x2, vU, vU]) rfl ?_
    refine s_goto dX10_works_152 (tgt := 95) (by decide) ?_
    exact am_lesS h ⟨Or.inr rfl, Or.inr rfl, Or.inl rfl, Or.inl rfl, Or.inl rfl, trivial⟩
  · have h := h.2 cc
    refine s_aload_n dX10_works_109 rfl rfl ?_
    refine s_getR dX10_works_110 flX10_37 rn0 rk0 rfl rr0_14 ?_
    refine s_sipush dX10_works_113 (by decide) ?_
    refine s_iload_n dX10_works_116 rfl rfl ?_
    obtain ⟨c, h⟩ := h
    refine s_imul dX10_works_117 (am_w_id c) ?_
    refine s_iload_n dX10_works_118 rfl rfl ?_
    obtain ⟨c, h⟩ := h
    refine s_iadd dX10_works_119 (am_w_id c) ?_
    refine s_aload_n dX10_works_120 rfl rfl ?_
    refine s_getR dX10_works_121 flX10_34 rn0 rk0 rfl rr0_13 ?_
    refine s_sipush dX10_works_124 (by decide) ?_
    refine s_iload_n dX10_works_127 rfl rfl ?_
    obtain ⟨c, h⟩ := h
    refine s_imul dX10_works_128 (am_w_id c) ?_
    refine s_iload_n dX10_works_129 rfl rfl ?_
    obtain ⟨c, h⟩ := h
    refine s_iadd dX10_works_130 (am_w_id c) ?_
    obtain ⟨c, c2, h⟩ := h
    refine s_iald (x := (μ 9 (((600 * x1) + x2).toNat))) dX10_works_131 rn9 rk9 rl9 c c2 rfl ?_
    refine s_aload_n dX10_works_132 rfl rfl ?_
    refine s_iload_n dX10_works_133 rfl rfl ?_
    refine s_iconst dX10_works_134 (by decide) ?_
    obtain ⟨p0, p1, h⟩ := h
    refine s_callV (As := [vI x1, vI 0]) (rest := [vI (μ 9 (((600 * x1) + x2).toNat)), vI ((600 * x1) + x2), vR 10]) (k := 0) dX10_works_135 lkX10_139 rn0 ⟨by rw [rk0]; rfl, by rw [rk0]; decide⟩ lmX10_trackOf rfl rfl (Nat.le_of_ble_eq_true rfl) (by decide) (Nat.le_refl 0) (Nat.le_refl 0) (hC := sp_X10_trackOf (Q := fun z m => rT μ x1 0 = z ∧ μ = m) p0 p1 ⟨rfl, rfl⟩) (fun r n2 S2 m2 hP => ?_)
    obtain ⟨⟨rfl, rfl⟩, z, rfl, rfl, rfl⟩ := hP
    obtain ⟨c, h⟩ := h
    refine s_imul dX10_works_138 (am_w_id c) ?_
    refine s_bipush dX10_works_139 (by decide) ?_
    obtain ⟨c, h⟩ := h
    refine s_idivp dX10_works_141 c (by decide) rfl ?_
    obtain ⟨c, c2, h⟩ := h
    obtain ⟨m1, hm1⟩ : ∃ x : am_M, x = am_st μ 10 (am_up (μ 10) ((600 * x1) + x2).toNat (((μ 9 (((600 * x1) + x2).toNat)) * (rT μ x1 0)) / 100)) := ⟨_, rfl⟩
    have h := h m1 hm1
    refine s_iast dX10_works_142 rn10 rk10 rl10 c c2 hm1.symm ?_
    obtain ⟨c, h⟩ := h
    refine s_iinc dX10_works_143 rfl (am_w_id c) (by decide) (L' := [vR 0, vI x1, vI (x2 + 1), vU, vU]) rfl ?_
    refine s_goto dX10_works_146 (tgt := 102) (by decide) ?_
    exact h
theorem vc_X10_works_157 {x1 : Int} {μ : am_M} {Q : am_M → Prop} (h : (4 ≤ x1 → at_V kR 3 mX10_works 336 [vR 0, vI 0, vU, vU, vU] [] μ Q) ∧ (x1 < 4 → (in_ 0 4 x1) ∧ (in_ 0 7 3) ∧ (at_V kR 3 mX10_works 176 [vR 0, vI x1, vI (rT μ x1 3), vI 600, vI 0] [] μ Q))) : at_V kR 3 mX10_works 157 [vR 0, vI x1, vU, vU, vU] [] μ Q := by
  refine s_iload_n dX10_works_157 rfl rfl ?_
  refine s_iconst dX10_works_158 (by decide) ?_
  refine s_icmp_ge dX10_works_159 (tgt := 334) (by decide) (fun cc => ?_) (fun cc => ?_)
  · have h := h.1 cc
    refine s_iconst dX10_works_334 (by decide) ?_
    refine s_istore_n dX10_works_335 rfl (by decide) (L' := [vR 0, vI 0, vU, vU, vU]) rfl ?_
    exact h
  · have h := h.2 cc
    refine s_aload_n dX10_works_162 rfl rfl ?_
    refine s_iload_n dX10_works_163 rfl rfl ?_
    refine s_iconst dX10_works_164 (by decide) ?_
    obtain ⟨p0, p1, h⟩ := h
    refine s_callV (As := [vI x1, vI 3]) (rest := []) (k := 0) dX10_works_165 lkX10_139 rn0 ⟨by rw [rk0]; rfl, by rw [rk0]; decide⟩ lmX10_trackOf rfl rfl (Nat.le_of_ble_eq_true rfl) (by decide) (Nat.le_refl 0) (Nat.le_refl 0) (hC := sp_X10_trackOf (Q := fun z m => rT μ x1 3 = z ∧ μ = m) p0 p1 ⟨rfl, rfl⟩) (fun r n2 S2 m2 hP => ?_)
    obtain ⟨⟨rfl, rfl⟩, z, rfl, rfl, rfl⟩ := hP
    refine s_istore_n dX10_works_168 rfl (by decide) (L' := [vR 0, vI x1, vI (rT μ x1 3), vU, vU]) rfl ?_
    refine s_sipush dX10_works_169 (by decide) ?_
    refine s_istore_n dX10_works_172 rfl (by decide) (L' := [vR 0, vI x1, vI (rT μ x1 3), vI 600, vU]) rfl ?_
    refine s_iconst dX10_works_173 (by decide) ?_
    refine s_istore dX10_works_174 (by decide) (L' := [vR 0, vI x1, vI (rT μ x1 3), vI 600, vI 0]) rfl ?_
    exact h
theorem vc_X10_works_176 {x1 x2 x3 x4 : Int} {μ : am_M} {Q : am_M → Prop} (h : (600 ≤ x4 → (am_in (x1 + 1)) ∧ (at_V kR 3 mX10_works 157 [vR 0, vI (x1 + 1), vU, vU, vU] [] μ Q)) ∧ (x4 < 600 → ((x2 < 0 → (am_in (x3 + 1))) ∧ (0 ≤ x2 → (am_in (600 * x2)) ∧ ((am_in ((600 * x2) + x4)) ∧ ((0 ≤ (600 * x2) + x4) ∧ ((600 * x2) + x4 < 2400) ∧ ((in_ 0 4 x1) ∧ (in_ 0 7 4) ∧ ((μ 10 (((600 * x2) + x4).toNat) < rT μ x1 4 → (am_in (x3 + 1))))))))) ∧ (∀ v1 : Int, v1 = (if x2 < 0 then x3 + 1 else (if μ 10 (((600 * x2) + x4).toNat) < rT μ x1 4 then x3 + 1 else 0)) → (am_in (600 * x1)) ∧ ((am_in ((600 * x1) + x4)) ∧ (((0 ≤ x2 → (in_ 0 4 x1) ∧ (in_ 0 7 6))) ∧ (∀ v2 : Int, v2 = (if x2 < 0 then 0 else (if rT μ x1 6 < v1 then 0 else 1)) → (0 ≤ (600 * x1) + x4) ∧ ((600 * x1) + x4 < 2400) ∧ (v2 = 0 ∨ v2 = 1) ∧ (∀ m3 : am_M, m3 = am_st μ 13 (am_up (μ 13) ((600 * x1) + x4).toNat v2) → (am_in (600 * x1)) ∧ ((am_in ((600 * x1) + x4)) ∧ ((am_in (600 * x1)) ∧ ((am_in ((600 * x1) + x4)) ∧ ((0 ≤ (600 * x1) + x4) ∧ ((600 * x1) + x4 < 2400) ∧ (((v2 = 0 → (am_in (600 * x1)) ∧ ((am_in ((600 * x1) + x4)) ∧ ((0 ≤ (600 * x1) + x4) ∧ ((600 * x1) + x4 < 2400)))) ∧ (v2 ≠ 0 → (am_in (600 * x1)) ∧ ((am_in ((600 * x1) + x4)) ∧ ((0 ≤ (600 * x1) + x4) ∧ ((600 * x1) + x4 < 2400) ∧ ((in_ 0 4 x1) ∧ (in_ 0 7 5) ∧ ((am_in (100 - (rT m3 x1 5))) ∧ ((am_in ((μ 10 (((600 * x1) + x4).toNat)) * (100 - (rT m3 x1 5)))) ∧ ((0 ≤ (μ 10 (((600 * x1) + x4).toNat)) * (100 - (rT m3 x1 5))))))))))) ∧ (∀ v4 : Int, v4 = (if v2 = 0 then μ 10 (((600 * x1) + x4).toNat) else ((μ 10 (((600 * x1) + x4).toNat)) * (100 - (rT m3 x1 5))) / 100) → (0 ≤ (600 * x1) + x4) ∧ ((600 * x1) + x4 < 2400) ∧ (∀ m5 : am_M, m5 = am_st m3 11 (am_up (m3 11) ((600 * x1) + x4).toNat v4) → (am_in (x4 + 1)) ∧ (at_V kR 3 mX10_works 176 [vR 0, vI x1, vI x2, vI v1, vI (x4 + 1)] [] m5 Q))))))))))))))) : at_V kR 3 mX10_works 176 [vR 0, vI x1, vI x2, vI x3, vI x4] [] μ Q := by
  refine s_iload dX10_works_176 rfl ?_
  refine s_sipush dX10_works_178 (by decide) ?_
  refine s_icmp_ge dX10_works_181 (tgt := 328) (by decide) (fun cc => ?_) (fun cc => ?_)
  · have h := h.1 cc
    obtain ⟨c, h⟩ := h
    refine s_iinc dX10_works_328 rfl (am_w_id c) (by decide) (L' := [vR 0, vI (x1 + 1), vI x2, vI x3, vI x4]) rfl ?_
    refine s_goto dX10_works_331 (tgt := 157) (by decide) ?_
    exact am_lesS h ⟨Or.inr rfl, Or.inr rfl, Or.inl rfl, Or.inl rfl, Or.inl rfl, trivial⟩
  · have h := h.2 cc
    refine s_iload_n dX10_works_184 rfl rfl ?_
    obtain ⟨hsd, h⟩ := h
    have kj8 : ∀ (v1 : Int), ((am_in (600 * x1)) ∧ ((am_in ((600 * x1) + x4)) ∧ (((0 ≤ x2 → (in_ 0 4 x1) ∧ (in_ 0 7 6))) ∧ (∀ v2 : Int, v2 = (if x2 < 0 then 0 else (if rT μ x1 6 < v1 then 0 else 1)) → (0 ≤ (600 * x1) + x4) ∧ ((600 * x1) + x4 < 2400) ∧ (v2 = 0 ∨ v2 = 1) ∧ (∀ m3 : am_M, m3 = am_st μ 13 (am_up (μ 13) ((600 * x1) + x4).toNat v2) → (am_in (600 * x1)) ∧ ((am_in ((600 * x1) + x4)) ∧ ((am_in (600 * x1)) ∧ ((am_in ((600 * x1) + x4)) ∧ ((0 ≤ (600 * x1) + x4) ∧ ((600 * x1) + x4 < 2400) ∧ (((v2 = 0 → (am_in (600 * x1)) ∧ ((am_in ((600 * x1) + x4)) ∧ ((0 ≤ (600 * x1) + x4) ∧ ((600 * x1) + x4 < 2400)))) ∧ (v2 ≠ 0 → (am_in (600 * x1)) ∧ ((am_in ((600 * x1) + x4)) ∧ ((0 ≤ (600 * x1) + x4) ∧ ((600 * x1) + x4 < 2400) ∧ ((in_ 0 4 x1) ∧ (in_ 0 7 5) ∧ ((am_in (100 - (rT m3 x1 5))) ∧ ((am_in ((μ 10 (((600 * x1) + x4).toNat)) * (100 - (rT m3 x1 5)))) ∧ ((0 ≤ (μ 10 (((600 * x1) + x4).toNat)) * (100 - (rT m3 x1 5))))))))))) ∧ (∀ v4 : Int, v4 = (if v2 = 0 then μ 10 (((600 * x1) + x4).toNat) else ((μ 10 (((600 * x1) + x4).toNat)) * (100 - (rT m3 x1 5))) / 100) → (0 ≤ (600 * x1) + x4) ∧ ((600 * x1) + x4 < 2400) ∧ (∀ m5 : am_M, m5 = am_st m3 11 (am_up (m3 11) ((600 * x1) + x4).toNat v4) → (am_in (x4 + 1)) ∧ (at_V kR 3 mX10_works 176 [vR 0, vI x1, vI x2, vI v1, vI (x4 + 1)] [] m5 Q))))))))))))) → at_V kR 3 mX10_works 217 [vR 0, vI x1, vI x2, vU, vI x4] [vI v1] μ Q := by
      intro v1 h
      refine s_istore_n dX10_works_217 rfl (by decide) (L' := [vR 0, vI x1, vI x2, vI v1, vI x4]) rfl ?_
      refine s_aload_n dX10_works_218 rfl rfl ?_
      refine s_getR dX10_works_219 flX10_46 rn0 rk0 rfl rr0_17 ?_
      refine s_sipush dX10_works_222 (by decide) ?_
      refine s_iload_n dX10_works_225 rfl rfl ?_
      obtain ⟨c, h⟩ := h
      refine s_imul dX10_works_226 (am_w_id c) ?_
      refine s_iload dX10_works_227 rfl ?_
      obtain ⟨c, h⟩ := h
      refine s_iadd dX10_works_229 (am_w_id c) ?_
      refine s_iload_n dX10_works_230 rfl rfl ?_
      obtain ⟨hsd, h⟩ := h
      have kj7 : ∀ (v2 : Int), ((0 ≤ (600 * x1) + x4) ∧ ((600 * x1) + x4 < 2400) ∧ (v2 = 0 ∨ v2 = 1) ∧ (∀ m3 : am_M, m3 = am_st μ 13 (am_up (μ 13) ((600 * x1) + x4).toNat v2) → (am_in (600 * x1)) ∧ ((am_in ((600 * x1) + x4)) ∧ ((am_in (600 * x1)) ∧ ((am_in ((600 * x1) + x4)) ∧ ((0 ≤ (600 * x1) + x4) ∧ ((600 * x1) + x4 < 2400) ∧ (((v2 = 0 → (am_in (600 * x1)) ∧ ((am_in ((600 * x1) + x4)) ∧ ((0 ≤ (600 * x1) + x4) ∧ ((600 * x1) + x4 < 2400)))) ∧ (v2 ≠ 0 → (am_in (600 * x1)) ∧ ((am_in ((600 * x1) + x4)) ∧ ((0 ≤ (600 * x1) + x4) ∧ ((600 * x1) + x4 < 2400) ∧ ((in_ 0 4 x1) ∧ (in_ 0 7 5) ∧ ((am_in (100 - (rT m3 x1 5))) ∧ ((am_in ((μ 10 (((600 * x1) + x4).toNat)) * (100 - (rT m3 x1 5)))) ∧ ((0 ≤ (μ 10 (((600 * x1) + x4).toNat)) * (100 - (rT m3 x1 5))))))))))) ∧ (∀ v4 : Int, v4 = (if v2 = 0 then μ 10 (((600 * x1) + x4).toNat) else ((μ 10 (((600 * x1) + x4).toNat)) * (100 - (rT m3 x1 5))) / 100) → (0 ≤ (600 * x1) + x4) ∧ ((600 * x1) + x4 < 2400) ∧ (∀ m5 : am_M, m5 = am_st m3 11 (am_up (m3 11) ((600 * x1) + x4).toNat v4) → (am_in (x4 + 1)) ∧ (at_V kR 3 mX10_works 176 [vR 0, vI x1, vI x2, vI v1, vI (x4 + 1)] [] m5 Q)))))))))) → at_V kR 3 mX10_works 250 [vR 0, vI x1, vI x2, vI v1, vI x4] [vI v2, vI ((600 * x1) + x4), vR 13] μ Q := by
        intro v2 h
        obtain ⟨c, c2, c3, h⟩ := h
        obtain ⟨m3, hm3⟩ : ∃ x : am_M, x = am_st μ 13 (am_up (μ 13) ((600 * x1) + x4).toNat v2) := ⟨_, rfl⟩
        have h := h m3 hm3
        refine s_bast dX10_works_250 rn13 rk13 rl13 c c2 c3 hm3.symm ?_
        refine s_aload_n dX10_works_251 rfl rfl ?_
        refine s_getR dX10_works_252 flX10_40 rn0 rk0 rfl rr0_15 ?_
        refine s_sipush dX10_works_255 (by decide) ?_
        refine s_iload_n dX10_works_258 rfl rfl ?_
        obtain ⟨c, h⟩ := h
        refine s_imul dX10_works_259 (am_w_id c) ?_
        refine s_iload dX10_works_260 rfl ?_
        obtain ⟨c, h⟩ := h
        refine s_iadd dX10_works_262 (am_w_id c) ?_
        refine s_aload_n dX10_works_263 rfl rfl ?_
        refine s_getR dX10_works_264 flX10_46 rn0 rk0 rfl rr0_17 ?_
        refine s_sipush dX10_works_267 (by decide) ?_
        refine s_iload_n dX10_works_270 rfl rfl ?_
        obtain ⟨c, h⟩ := h
        refine s_imul dX10_works_271 (am_w_id c) ?_
        refine s_iload dX10_works_272 rfl ?_
        obtain ⟨c, h⟩ := h
        refine s_iadd dX10_works_274 (am_w_id c) ?_
        obtain ⟨c, c2, h⟩ := h
        refine s_bald (x := v2) dX10_works_275 rn13 rk13 rl13 c c2 (by subst hm3; simp [am_st, am_up]) ?_
        obtain ⟨hsd, h⟩ := h
        have kj6 : ∀ (v4 : Int), ((0 ≤ (600 * x1) + x4) ∧ ((600 * x1) + x4 < 2400) ∧ (∀ m5 : am_M, m5 = am_st m3 11 (am_up (m3 11) ((600 * x1) + x4).toNat v4) → (am_in (x4 + 1)) ∧ (at_V kR 3 mX10_works 176 [vR 0, vI x1, vI x2, vI v1, vI (x4 + 1)] [] m5 Q))) → at_V kR 3 mX10_works 321 [vR 0, vI x1, vI x2, vI v1, vI x4] [vI v4, vI ((600 * x1) + x4), vR 11] m3 Q := by
          intro v4 h
          obtain ⟨c, c2, h⟩ := h
          obtain ⟨m5, hm5⟩ : ∃ x : am_M, x = am_st m3 11 (am_up (m3 11) ((600 * x1) + x4).toNat v4) := ⟨_, rfl⟩
          have h := h m5 hm5
          refine s_iast dX10_works_321 rn11 rk11 rl11 c c2 hm5.symm ?_
          obtain ⟨c, h⟩ := h
          refine s_iinc dX10_works_322 rfl (am_w_id c) (by decide) (L' := [vR 0, vI x1, vI x2, vI v1, vI (x4 + 1)]) rfl ?_
          refine s_goto dX10_works_325 (tgt := 176) (by decide) ?_
          exact h
        refine s_if_eq dX10_works_276 (tgt := 308) (by decide) (fun cc => ?_) (fun cc => ?_)
        · have hp0 := cc
          have hsd := hsd.1 hp0
          refine s_aload_n dX10_works_308 rfl rfl ?_
          refine s_getR dX10_works_309 flX10_37 rn0 rk0 rfl rr0_14 ?_
          refine s_sipush dX10_works_312 (by decide) ?_
          refine s_iload_n dX10_works_315 rfl rfl ?_
          obtain ⟨c, hsd⟩ := hsd
          refine s_imul dX10_works_316 (am_w_id c) ?_
          refine s_iload dX10_works_317 rfl ?_
          obtain ⟨c, hsd⟩ := hsd
          refine s_iadd dX10_works_319 (am_w_id c) ?_
          obtain ⟨c, c2⟩ := hsd
          refine s_iald (x := (μ 10 (((600 * x1) + x4).toNat))) dX10_works_320 rn10 rk10 rl10 c c2 (by subst hm3; rfl) ?_
          exact kj6 (μ 10 (((600 * x1) + x4).toNat)) (h (μ 10 (((600 * x1) + x4).toNat)) (by rw [if_pos hp0]))
        · have hp0 := cc
          have hsd := hsd.2 hp0
          refine s_aload_n dX10_works_279 rfl rfl ?_
          refine s_getR dX10_works_280 flX10_37 rn0 rk0 rfl rr0_14 ?_
          refine s_sipush dX10_works_283 (by decide) ?_
          refine s_iload_n dX10_works_286 rfl rfl ?_
          obtain ⟨c, hsd⟩ := hsd
          refine s_imul dX10_works_287 (am_w_id c) ?_
          refine s_iload dX10_works_288 rfl ?_
          obtain ⟨c, hsd⟩ := hsd
          refine s_iadd dX10_works_290 (am_w_id c) ?_
          obtain ⟨c, c2, hsd⟩ := hsd
          refine s_iald (x := (μ 10 (((600 * x1) + x4).toNat))) dX10_works_291 rn10 rk10 rl10 c c2 (by subst hm3; rfl) ?_
          refine s_bipush dX10_works_292 (by decide) ?_
          refine s_aload_n dX10_works_294 rfl rfl ?_
          refine s_iload_n dX10_works_295 rfl rfl ?_
          refine s_iconst dX10_works_296 (by decide) ?_
          obtain ⟨p0, p1, hsd⟩ := hsd
          refine s_callV (As := [vI x1, vI 5]) (rest := [vI 100, vI (μ 10 (((600 * x1) + x4).toNat)), vI ((600 * x1) + x4), vR 11]) (k := 0) dX10_works_297 lkX10_139 rn0 ⟨by rw [rk0]; rfl, by rw [rk0]; decide⟩ lmX10_trackOf rfl rfl (Nat.le_of_ble_eq_true rfl) (by decide) (Nat.le_refl 0) (Nat.le_refl 0) (hC := sp_X10_trackOf (Q := fun z m => rT m3 x1 5 = z ∧ m3 = m) p0 p1 ⟨rfl, rfl⟩) (fun r n2 S2 m2 hP => ?_)
          obtain ⟨⟨rfl, rfl⟩, z, rfl, rfl, rfl⟩ := hP
          obtain ⟨c, hsd⟩ := hsd
          refine s_isub dX10_works_300 (am_w_id c) ?_
          obtain ⟨c, hsd⟩ := hsd
          refine s_imul dX10_works_301 (am_w_id c) ?_
          refine s_bipush dX10_works_302 (by decide) ?_
          have c := hsd
          refine s_idivp dX10_works_304 c (by decide) rfl ?_
          refine s_goto dX10_works_305 (tgt := 321) (by decide) ?_
          exact kj6 (((μ 10 (((600 * x1) + x4).toNat)) * (100 - (rT m3 x1 5))) / 100) (h (((μ 10 (((600 * x1) + x4).toNat)) * (100 - (rT m3 x1 5))) / 100) (by rw [if_neg hp0]))
      refine s_if_lt dX10_works_231 (tgt := 249) (by decide) (fun cc => ?_) (fun cc => ?_)
      · have hp0 := cc
        refine s_iconst dX10_works_249 (by decide) ?_
        exact kj7 0 (h 0 (by rw [if_pos hp0]))
      · have hp0 := cc
        have hsd := hsd hp0
        refine s_iload_n dX10_works_234 rfl rfl ?_
        refine s_aload_n dX10_works_235 rfl rfl ?_
        refine s_iload_n dX10_works_236 rfl rfl ?_
        refine s_bipush dX10_works_237 (by decide) ?_
        obtain ⟨p0, p1⟩ := hsd
        refine s_callV (As := [vI x1, vI 6]) (rest := [vI v1, vI ((600 * x1) + x4), vR 13]) (k := 0) dX10_works_239 lkX10_139 rn0 ⟨by rw [rk0]; rfl, by rw [rk0]; decide⟩ lmX10_trackOf rfl rfl (Nat.le_of_ble_eq_true rfl) (by decide) (Nat.le_refl 0) (Nat.le_refl 0) (hC := sp_X10_trackOf (Q := fun z m => rT μ x1 6 = z ∧ μ = m) p0 p1 ⟨rfl, rfl⟩) (fun r n2 S2 m2 hP => ?_)
        obtain ⟨⟨rfl, rfl⟩, z, rfl, rfl, rfl⟩ := hP
        refine s_icmp_gt dX10_works_242 (tgt := 249) (by decide) (fun cc => ?_) (fun cc => ?_)
        · have hp1 := cc
          refine s_iconst dX10_works_249 (by decide) ?_
          exact kj7 0 (h 0 (by rw [if_neg (Int.not_lt.mpr hp0), if_pos hp1]))
        · have hp1 := cc
          refine s_iconst dX10_works_245 (by decide) ?_
          refine s_goto dX10_works_246 (tgt := 250) (by decide) ?_
          exact kj7 1 (h 1 (by rw [if_neg (Int.not_lt.mpr hp0), if_neg (Int.not_lt.mpr hp1)]))
    refine s_if_lt dX10_works_185 (tgt := 214) (by decide) (fun cc => ?_) (fun cc => ?_)
    · have hp0 := cc
      have hsd := hsd.1 hp0
      refine s_iload_n dX10_works_214 rfl rfl ?_
      refine s_iconst dX10_works_215 (by decide) ?_
      have c := hsd
      refine s_iadd dX10_works_216 (am_w_id c) ?_
      exact am_lesS (kj8 (x3 + 1) (h (x3 + 1) (by rw [if_pos hp0]))) ⟨Or.inr rfl, Or.inr rfl, Or.inr rfl, Or.inl rfl, Or.inr rfl, trivial⟩
    · have hp0 := cc
      have hsd := hsd.2 hp0
      refine s_aload_n dX10_works_188 rfl rfl ?_
      refine s_getR dX10_works_189 flX10_37 rn0 rk0 rfl rr0_14 ?_
      refine s_sipush dX10_works_192 (by decide) ?_
      refine s_iload_n dX10_works_195 rfl rfl ?_
      obtain ⟨c, hsd⟩ := hsd
      refine s_imul dX10_works_196 (am_w_id c) ?_
      refine s_iload dX10_works_197 rfl ?_
      obtain ⟨c, hsd⟩ := hsd
      refine s_iadd dX10_works_199 (am_w_id c) ?_
      obtain ⟨c, c2, hsd⟩ := hsd
      refine s_iald (x := (μ 10 (((600 * x2) + x4).toNat))) dX10_works_200 rn10 rk10 rl10 c c2 rfl ?_
      refine s_aload_n dX10_works_201 rfl rfl ?_
      refine s_iload_n dX10_works_202 rfl rfl ?_
      refine s_iconst dX10_works_203 (by decide) ?_
      obtain ⟨p0, p1, hsd⟩ := hsd
      refine s_callV (As := [vI x1, vI 4]) (rest := [vI (μ 10 (((600 * x2) + x4).toNat))]) (k := 0) dX10_works_204 lkX10_139 rn0 ⟨by rw [rk0]; rfl, by rw [rk0]; decide⟩ lmX10_trackOf rfl rfl (Nat.le_of_ble_eq_true rfl) (by decide) (Nat.le_refl 0) (Nat.le_refl 0) (hC := sp_X10_trackOf (Q := fun z m => rT μ x1 4 = z ∧ μ = m) p0 p1 ⟨rfl, rfl⟩) (fun r n2 S2 m2 hP => ?_)
      obtain ⟨⟨rfl, rfl⟩, z, rfl, rfl, rfl⟩ := hP
      refine s_icmp_lt dX10_works_207 (tgt := 214) (by decide) (fun cc => ?_) (fun cc => ?_)
      · have hp1 := cc
        have hsd := hsd hp1
        refine s_iload_n dX10_works_214 rfl rfl ?_
        refine s_iconst dX10_works_215 (by decide) ?_
        have c := hsd
        refine s_iadd dX10_works_216 (am_w_id c) ?_
        exact am_lesS (kj8 (x3 + 1) (h (x3 + 1) (by rw [if_neg (Int.not_lt.mpr hp0), if_pos hp1]))) ⟨Or.inr rfl, Or.inr rfl, Or.inr rfl, Or.inl rfl, Or.inr rfl, trivial⟩
      · have hp1 := cc
        refine s_iconst dX10_works_210 (by decide) ?_
        refine s_goto dX10_works_211 (tgt := 217) (by decide) ?_
        exact am_lesS (kj8 0 (h 0 (by rw [if_neg (Int.not_lt.mpr hp0), if_neg (Int.not_lt.mpr hp1)]))) ⟨Or.inr rfl, Or.inr rfl, Or.inr rfl, Or.inl rfl, Or.inr rfl, trivial⟩
theorem vc_X10_works_336 {x1 : Int} {μ : am_M} {Q : am_M → Prop} (h : (600 ≤ x1 → Q μ) ∧ (x1 < 600 → (0 ≤ x1) ∧ (x1 < 600) ∧ (∀ m1 : am_M, m1 = am_st μ 12 (am_up (μ 12) (x1).toNat 0) → at_V kR 3 mX10_works 352 [vR 0, vI x1, vI 0, vU, vU] [] m1 Q))) : at_V kR 3 mX10_works 336 [vR 0, vI x1, vU, vU, vU] [] μ Q := by
  refine s_iload_n dX10_works_336 rfl rfl ?_
  refine s_sipush dX10_works_337 (by decide) ?_
  refine s_icmp_ge dX10_works_340 (tgt := 402) (by decide) (fun cc => ?_) (fun cc => ?_)
  · have h := h.1 cc
    exact s_return dX10_works_402 rfl ⟨⟨rfl, rfl⟩, rfl, h⟩
  · have h := h.2 cc
    refine s_aload_n dX10_works_343 rfl rfl ?_
    refine s_getR dX10_works_344 flX10_43 rn0 rk0 rfl rr0_16 ?_
    refine s_iload_n dX10_works_347 rfl rfl ?_
    refine s_iconst dX10_works_348 (by decide) ?_
    obtain ⟨c, c2, h⟩ := h
    obtain ⟨m1, hm1⟩ : ∃ x : am_M, x = am_st μ 12 (am_up (μ 12) (x1).toNat 0) := ⟨_, rfl⟩
    have h := h m1 hm1
    refine s_iast dX10_works_349 rn12 rk12 rl12 c c2 hm1.symm ?_
    refine s_iconst dX10_works_350 (by decide) ?_
    refine s_istore_n dX10_works_351 rfl (by decide) (L' := [vR 0, vI x1, vI 0, vU, vU]) rfl ?_
    exact h
theorem vc_X10_works_352 {x1 x2 : Int} {μ : am_M} {Q : am_M → Prop} (h : (4 ≤ x2 → (am_in (x1 + 1)) ∧ (at_V kR 3 mX10_works 336 [vR 0, vI (x1 + 1), vU, vU, vU] [] μ Q)) ∧ (x2 < 4 → (0 ≤ x1) ∧ (x1 < 600) ∧ ((in_ 0 4 x2) ∧ (((aud_ (rT μ) x2 → (am_in (600 * x2)) ∧ ((am_in ((600 * x2) + x1)) ∧ ((0 ≤ (600 * x2) + x1) ∧ ((600 * x2) + x1 < 2400))))) ∧ (∀ v1 : Int, v1 = (cif (aud_ (rT μ) x2) (μ 11 (((600 * x2) + x1).toNat)) 0) → (am_in ((μ 12 ((x1).toNat)) + v1)) ∧ ((0 ≤ x1) ∧ (x1 < 600) ∧ (∀ m2 : am_M, m2 = am_st μ 12 (am_up (μ 12) (x1).toNat ((μ 12 ((x1).toNat)) + v1)) → (am_in (x2 + 1)) ∧ (at_V kR 3 mX10_works 352 [vR 0, vI x1, vI (x2 + 1), vU, vU] [] m2 Q)))))))) : at_V kR 3 mX10_works 352 [vR 0, vI x1, vI x2, vU, vU] [] μ Q := by
  refine s_iload_n dX10_works_352 rfl rfl ?_
  refine s_iconst dX10_works_353 (by decide) ?_
  refine s_icmp_ge dX10_works_354 (tgt := 396) (by decide) (fun cc => ?_) (fun cc => ?_)
  · have h := h.1 cc
    obtain ⟨c, h⟩ := h
    refine s_iinc dX10_works_396 rfl (am_w_id c) (by decide) (L' := [vR 0, vI (x1 + 1), vI x2, vU, vU]) rfl ?_
    refine s_goto dX10_works_399 (tgt := 336) (by decide) ?_
    exact am_lesS h ⟨Or.inr rfl, Or.inr rfl, Or.inl rfl, Or.inl rfl, Or.inl rfl, trivial⟩
  · have h := h.2 cc
    refine s_aload_n dX10_works_357 rfl rfl ?_
    refine s_getR dX10_works_358 flX10_43 rn0 rk0 rfl rr0_16 ?_
    refine s_iload_n dX10_works_361 rfl rfl ?_
    refine s_dup2 dX10_works_362 ?_
    obtain ⟨c, c2, h⟩ := h
    refine s_iald (x := (μ 12 ((x1).toNat))) dX10_works_363 rn12 rk12 rl12 c c2 rfl ?_
    refine s_aload_n dX10_works_364 rfl rfl ?_
    refine s_iload_n dX10_works_365 rfl rfl ?_
    obtain ⟨p0, h⟩ := h
    refine s_callV (As := [vI x2]) (rest := [vI (μ 12 ((x1).toNat)), vI x1, vR 12]) (k := 0) dX10_works_366 lkX10_149 rn0 ⟨by rw [rk0]; rfl, by rw [rk0]; decide⟩ lmX10_isAudible rfl rfl (Nat.le_of_ble_eq_true rfl) (by decide) (Nat.le_refl 0) (Nat.le_refl 0) (hC := sp_X10_isAudible (Q := fun z m => bI (aud_ (rT μ) x2) = z ∧ μ = m) p0 ⟨rfl, rfl⟩) (fun r n2 S2 m2 hP => ?_)
    obtain ⟨⟨rfl, rfl⟩, z, rfl, rfl, rfl⟩ := hP
    obtain ⟨hsd, h⟩ := h
    have kj3 : ∀ (v1 : Int), ((am_in ((μ 12 ((x1).toNat)) + v1)) ∧ ((0 ≤ x1) ∧ (x1 < 600) ∧ (∀ m2 : am_M, m2 = am_st μ 12 (am_up (μ 12) (x1).toNat ((μ 12 ((x1).toNat)) + v1)) → (am_in (x2 + 1)) ∧ (at_V kR 3 mX10_works 352 [vR 0, vI x1, vI (x2 + 1), vU, vU] [] m2 Q)))) → at_V kR 3 mX10_works 388 [vR 0, vI x1, vI x2, vU, vU] [vI v1, vI (μ 12 ((x1).toNat)), vI x1, vR 12] μ Q := by
      intro v1 h
      obtain ⟨c, h⟩ := h
      refine s_iadd dX10_works_388 (am_w_id c) ?_
      obtain ⟨c, c2, h⟩ := h
      obtain ⟨m2, hm2⟩ : ∃ x : am_M, x = am_st μ 12 (am_up (μ 12) (x1).toNat ((μ 12 ((x1).toNat)) + v1)) := ⟨_, rfl⟩
      have h := h m2 hm2
      refine s_iast dX10_works_389 rn12 rk12 rl12 c c2 hm2.symm ?_
      obtain ⟨c, h⟩ := h
      refine s_iinc dX10_works_390 rfl (am_w_id c) (by decide) (L' := [vR 0, vI x1, vI (x2 + 1), vU, vU]) rfl ?_
      refine s_goto dX10_works_393 (tgt := 352) (by decide) ?_
      exact h
    refine s_if_eq dX10_works_369 (tgt := 387) (by decide) (fun cc => ?_) (fun cc => ?_)
    · have hp0 := (bI_eq cc)
      refine s_iconst dX10_works_387 (by decide) ?_
      exact kj3 0 (h 0 (by rw [cif_f hp0]))
    · have hp0 := (bI_ne cc)
      have hsd := hsd hp0
      refine s_aload_n dX10_works_372 rfl rfl ?_
      refine s_getR dX10_works_373 flX10_40 rn0 rk0 rfl rr0_15 ?_
      refine s_sipush dX10_works_376 (by decide) ?_
      refine s_iload_n dX10_works_379 rfl rfl ?_
      obtain ⟨c, hsd⟩ := hsd
      refine s_imul dX10_works_380 (am_w_id c) ?_
      refine s_iload_n dX10_works_381 rfl rfl ?_
      obtain ⟨c, hsd⟩ := hsd
      refine s_iadd dX10_works_382 (am_w_id c) ?_
      obtain ⟨c, c2⟩ := hsd
      refine s_iald (x := (μ 11 (((600 * x2) + x1).toNat))) dX10_works_383 rn11 rk11 rl11 c c2 rfl ?_
      refine s_goto dX10_works_384 (tgt := 388) (by decide) ?_
      exact kj3 (μ 11 (((600 * x2) + x1).toNat)) (h (μ 11 (((600 * x2) + x1).toNat)) (by rw [cif_t hp0]))
theorem ve_X10_works {μ : am_M} {Q : am_M → Prop} (h : at_V kR 3 mX10_works 0 [vR 0, vU, vU, vU, vU] [] μ Q) : cl_V kR 3 mX10_works [vR 0] μ Q := am_intro pmX10_works (Nat.le_of_ble_eq_true rfl) rfl h
theorem w5_X10_works {μ : am_M} (hV : vP (pR μ)) : ∀ (j : Nat) (x : Int) (m : am_M), x + j = 600 → 0 ≤ x → fr_ wkL μ m → rv_ m → dv_ m 9 (vtR μ) → dv_ m 10 (drR μ) → dv_ m 13 (fun t f => bI (dukR μ t f)) → dv_ m 11 (weR μ) → (∀ f : Int, 0 ≤ f → f < x → m 12 f.toNat = suR μ f 4) → at_V kR 3 mX10_works 336 [vR 0, vI x, vU, vU, vU] [] m (fun m => fr_ wkL μ m ∧ rsnd_ m) := by
  intro j
  induction j with
  | zero =>
    intro x m hx h0 hf hv h9 h10 h13 h11 h12
    have e1 : m 1 = μ 1 := hf 1 (by decide)
    obtain ⟨eS, eg, eT⟩ := r1_e e1
    refine vc_X10_works_336 ⟨fun _ => ⟨hf, hv, ?_⟩, fun q => by omega⟩
    unfold vtR drR dukR weR suR
    rw [e1, eS, eg, eT]
    exact ⟨h9, h10, h13, h11, fun f hf2 => h12 f hf2.1 (by ((try unfold am_in); (try unfold in_ at *); omega))⟩
  | succ j ih =>
    intro x m hx h0 hf hv h9 h10 h13 h11 h12
    have sb := fun k k0 k1 => su_b (f := x) (k := k) hV (μ 1 469) k0 k1
    have inner : ∀ (i : Nat) (y : Int) (m : am_M), y + i = 4 → 0 ≤ y → fr_ wkL μ m → rv_ m → dv_ m 9 (vtR μ) → dv_ m 10 (drR μ) → dv_ m 13 (fun t f => bI (dukR μ t f)) → dv_ m 11 (weR μ) → (∀ f : Int, 0 ≤ f → f < x → m 12 f.toNat = suR μ f 4) → m 12 x.toNat = suR μ x y → at_V kR 3 mX10_works 352 [vR 0, vI x, vI y, vU, vU] [] m (fun m => fr_ wkL μ m ∧ rsnd_ m) := by
      intro i
      induction i with
      | zero =>
        intro y m hy y0 hf hv h9 h10 h13 h11 h12 hs
        refine vc_X10_works_352 ⟨fun _ => ⟨(by (try unfold am_in); (try unfold in_ at *); omega), ih (x + 1) m (by omega) (by omega) hf hv h9 h10 h13 h11 (fun f f0 f1 => ?_)⟩, fun q => by omega⟩
        by_cases c : f = x
        · rw [c, hs, show y = 4 by omega]
        · exact h12 f f0 (by omega)
      | succ i ih2 =>
        intro y m hy y0 hf hv h9 h10 h13 h11 h12 hs
        have e1 : m 1 = μ 1 := hf 1 (by decide)
        obtain ⟨eS, eg, eT⟩ := r1_e e1
        have b1 : 0 ≤ suR μ x y ∧ suR μ x y ≤ y * 1998 := sb y y0 (by omega)
        have wb : in_ 0 1999 (weR μ y x) := (we_b hV (μ 1 469) (t := y) (f := x) ⟨y0, by omega⟩).1
        have e11 : m 11 ((600 * y) + x).toNat = weR μ y x := h11 y x ⟨y0, by omega⟩ ⟨h0, by omega⟩
        refine vc_X10_works_352 ⟨fun q => by omega, fun q => ⟨h0, by omega, ⟨y0, q⟩, fun _ => ⟨(by (try unfold am_in); (try unfold in_ at *); omega), (by (try unfold am_in); (try unfold in_ at *); omega), by omega, by omega⟩, fun v e => ?_⟩⟩
        rw [eT, e11] at e
        have vb : in_ 0 1999 v := by
          rw [e]
          by_cases c : aud_ (rT μ) y
          · rw [cif_t c]; exact wb
          · rw [cif_f c]; exact ⟨by omega, by omega⟩
        rw [hs]
        refine ⟨by ((try unfold am_in); (try unfold in_ at *); omega), h0, by omega, fun m2 e2 => ⟨(by (try unfold am_in); (try unfold in_ at *); omega), ?_⟩⟩
        have f2 : fr_ [12] m m2 := by rw [e2]; exact fr_st (by simp)
        refine ih2 (y + 1) m2 (by omega) (by omega) (fr_tr hf (fr_up f2 (by decide))) (rv_e (f2 1 (by decide)) (f2 8 (by decide)) hv) (dv_fr f2 (by decide) h9) (dv_fr f2 (by decide) h10) (dv_fr f2 (by decide) h13) (dv_fr f2 (by decide) h11) (fun f f0 f1 => ?_) ?_
        · rw [e2, st_s, up_n (by omega)]
          exact h12 f f0 f1
        · rw [e2, st_s, up_s, e]
          exact (su_s y0).symm
    refine vc_X10_works_336 ⟨fun q => by omega, fun q => ⟨h0, q, fun m1 e1 => ?_⟩⟩
    have f1 : fr_ [12] m m1 := by rw [e1]; exact fr_st (by simp)
    refine inner 4 0 m1 (by omega) (by omega) (fr_tr hf (fr_up f1 (by decide))) (rv_e (f1 1 (by decide)) (f1 8 (by decide)) hv) (dv_fr f1 (by decide) h9) (dv_fr f1 (by decide) h10) (dv_fr f1 (by decide) h13) (dv_fr f1 (by decide) h11) (fun f f0 f1 => ?_) ?_
    · rw [e1, st_s, up_n (by omega)]
      exact h12 f f0 f1
    · rw [e1, st_s, up_s]
      rfl
theorem w4_X10_works {μ : am_M} (hV : vP (pR μ)) : ∀ (j : Nat) (x : Int) (m : am_M), x + j = 4 → 0 ≤ x → fr_ wkL μ m → rv_ m → dv_ m 9 (vtR μ) → dv_ m 10 (drR μ) → (∀ t f : Int, 0 ≤ t → t < x → in_ 0 600 f → m 13 (ix t f) = bI (dukR μ t f) ∧ m 11 (ix t f) = weR μ t f) → at_V kR 3 mX10_works 157 [vR 0, vI x, vU, vU, vU] [] m (fun m => fr_ wkL μ m ∧ rsnd_ m) := by
  intro j
  induction j with
  | zero =>
    intro x m hx h0 hf hv h9 h10 h
    exact vc_X10_works_157 ⟨fun _ => w5_X10_works hV 600 0 m (by omega) (by omega) hf hv h9 h10 (fun t f ht hf2 => (h t f ht.1 (by ((try unfold am_in); (try unfold in_ at *); omega)) hf2).1) (fun t f ht hf2 => (h t f ht.1 (by ((try unfold am_in); (try unfold in_ at *); omega)) hf2).2) (fun f f0 f1 => by omega), fun q => by omega⟩
  | succ j ih =>
    intro x m hx h0 hf hv h9 h10 h
    have hx4 : in_ 0 4 x := ⟨h0, by omega⟩
    have e1 : m 1 = μ 1 := hf 1 (by decide)
    obtain ⟨eS, eg, eT⟩ := r1_e e1
    have kt := hV.hT x h0 (by omega)
    change in_ 0 201 (rT μ x 0) ∧ in_ 0 2 (rT μ x 1) ∧ in_ 0 2 (rT μ x 2) ∧ in_ (-1) 4 (rT μ x 3) ∧ rT μ x 3 ≠ x ∧ in_ 0 1000 (rT μ x 4) ∧ in_ 0 101 (rT μ x 5) ∧ in_ 0 21 (rT μ x 6) at kt
    obtain ⟨k0, k1, k2, k3, k3', k4, k5, k6⟩ := kt
    have inner : ∀ (i : Nat) (s y : Int) (m : am_M), y + i = 600 → 0 ≤ y → (0 ≤ rT μ x 3 → ds_ (drR μ (rT μ x 3)) (rT μ x 4) (rT μ x 6) s y) → 0 ≤ s → s ≤ 600 + y → fr_ wkL μ m → rv_ m → dv_ m 9 (vtR μ) → dv_ m 10 (drR μ) → (∀ t f : Int, 0 ≤ t → in_ 0 600 f → (t < x ∨ (t = x ∧ f < y)) → m 13 (ix t f) = bI (dukR μ t f) ∧ m 11 (ix t f) = weR μ t f) → at_V kR 3 mX10_works 176 [vR 0, vI x, vI (rT μ x 3), vI s, vI y] [] m (fun m => fr_ wkL μ m ∧ rsnd_ m) := by
      intro i
      induction i with
      | zero =>
        intro s y m hy y0 hds s0 s1 hf hv h9 h10 h
        exact vc_X10_works_176 ⟨fun _ => ⟨(by (try unfold am_in); (try unfold in_ at *); omega), ih (x + 1) m (by omega) (by omega) hf hv h9 h10 (fun t f t0 t1 hf2 => h t f t0 hf2 (by unfold in_ at hf2; omega))⟩, fun q => by omega⟩
      | succ i ih2 =>
        intro s y m hy y0 hds s0 s1 hf hv h9 h10 h
        have hy6 : in_ 0 600 y := ⟨y0, by omega⟩
        have e1 : m 1 = μ 1 := hf 1 (by decide)
        obtain ⟨eS, eg, eT⟩ := r1_e e1
        unfold in_ at k3 k4 k5 k6 hx4
        have ib := ix_b (t := x) (f := y) hx4 hy6
        refine vc_X10_works_176 ⟨fun q => by omega, fun q => ⟨⟨fun c => (by (try unfold am_in); (try unfold in_ at *); omega), fun c => ?_⟩, fun v1 ev => ?_⟩⟩
        · have ib2 := ix_b (t := rT μ x 3) (f := y) ⟨c, by omega⟩ hy6
          exact ⟨(by (try unfold am_in); (try unfold in_ at *); omega), (by (try unfold am_in); (try unfold in_ at *); omega), ib2.1, ib2.2, hx4, (by (try unfold am_in); (try unfold in_ at *); omega), fun _ => (by (try unfold am_in); (try unfold in_ at *); omega)⟩
        rw [eT] at ev
        have vd : (0 ≤ rT μ x 3 → ds_ (drR μ (rT μ x 3)) (rT μ x 4) (rT μ x 6) v1 (y + 1)) ∧ 0 ≤ v1 ∧ v1 ≤ 600 + (y + 1) ∧ (dukR μ x y ↔ 0 ≤ rT μ x 3 ∧ v1 ≤ rT μ x 6) := by
          by_cases c : rT μ x 3 < 0
          · rw [if_pos c] at ev
            refine ⟨fun q => by omega, by omega, by omega, ?_⟩
            show (0 ≤ rT μ x 3 ∧ _) ↔ _
            constructor
            · rintro ⟨a, -⟩; omega
            · rintro ⟨a, -⟩; omega
          · rw [if_neg c] at ev
            have ed : m 10 ((600 * rT μ x 3) + y).toNat = drR μ (rT μ x 3) y := h10 (rT μ x 3) y ⟨by omega, by omega⟩ hy6
            rw [ed] at ev
            have dd := ds_s (hds (by omega)) y0 (by omega) ev
            refine ⟨fun _ => dd.1, dd.1.2.2, ?_, ?_⟩
            · rw [ev]; split <;> omega
            · show (0 ≤ rT μ x 3 ∧ _) ↔ _
              constructor
              · rintro ⟨a, b⟩; exact ⟨a, dd.2.mpr b⟩
              · rintro ⟨a, b⟩; exact ⟨a, dd.2.mp b⟩
        refine ⟨(by (try unfold am_in); (try unfold in_ at *); omega), (by (try unfold am_in); (try unfold in_ at *); omega), fun _ => ⟨hx4, (by (try unfold am_in); (try unfold in_ at *); omega)⟩, fun v2 ev2 => ?_⟩
        rw [eT] at ev2
        have e2 : v2 = bI (dukR μ x y) := by
          rw [ev2]
          by_cases c : rT μ x 3 < 0
          · rw [if_pos c, bI_f (fun z => by have := vd.2.2.2.mp z; omega)]
          · rw [if_neg c]
            by_cases c2 : rT μ x 6 < v1
            · rw [if_pos c2, bI_f (fun z => by have := vd.2.2.2.mp z; omega)]
            · rw [if_neg c2, bI_t (vd.2.2.2.mpr ⟨by omega, by omega⟩)]
        refine ⟨ib.1, ib.2, by rw [e2]; exact bI_01, fun m3 e3 => ?_⟩
        have f3 : fr_ [13] m m3 := by rw [e3]; exact fr_st (by simp)
        have eT3 : rT m3 = rT μ := (r1_e ((f3 1 (by decide)).trans e1)).2.2
        have e10 : m 10 ((600 * x) + y).toNat = drR μ x y := h10 x y hx4 hy6
        have wb : 0 ≤ drR μ x y * (100 - rT μ x 5) ∧ drR μ x y * (100 - rT μ x 5) ≤ 199800 := (we_b hV (μ 1 469) (t := x) (f := y) hx4).2
        rw [eT3, e10]
        refine ⟨(by (try unfold am_in); (try unfold in_ at *); omega), (by (try unfold am_in); (try unfold in_ at *); omega), (by (try unfold am_in); (try unfold in_ at *); omega), (by (try unfold am_in); (try unfold in_ at *); omega), ib.1, ib.2, ⟨fun _ => ⟨(by (try unfold am_in); (try unfold in_ at *); omega), (by (try unfold am_in); (try unfold in_ at *); omega), ib.1, ib.2⟩, fun _ => ⟨(by (try unfold am_in); (try unfold in_ at *); omega), (by (try unfold am_in); (try unfold in_ at *); omega), ib.1, ib.2, hx4, (by (try unfold am_in); (try unfold in_ at *); omega), (by (try unfold am_in); (try unfold in_ at *); omega), (by (try unfold am_in); (try unfold in_ at *); omega), wb.1⟩⟩, fun v4 ev4 => ⟨ib.1, ib.2, fun m5 e5 => ⟨(by (try unfold am_in); (try unfold in_ at *); omega), ?_⟩⟩⟩
        have e4 : v4 = weR μ x y := by
          rw [ev4, e2]
          show _ = we_ _ _ _ _ _ x y
          unfold we_
          by_cases c : dukR μ x y
          · rw [bI_t c, cif_t c, if_neg (by decide)]
          · rw [bI_f c, cif_f c, if_pos rfl]
        have f5 : fr_ [11, 13] m m5 := fr_tr (fr_up f3 (by simp)) (by rw [e5]; exact fr_st (by simp))
        refine ih2 v1 (y + 1) m5 (by omega) (by omega) vd.1 vd.2.1 vd.2.2.1 (fr_tr hf (fr_up f5 (by decide))) (rv_e (f5 1 (by decide)) (f5 8 (by decide)) hv) (dv_fr f5 (by decide) h9) (dv_fr f5 (by decide) h10) (fun t f t0 hf2 htf => ?_)
        have a13 : m5 13 = am_up (m 13) (ix x y) v2 := by rw [e5, st_n (by decide), e3, st_s]; rfl
        have a11 : m5 11 = am_up (m 11) (ix x y) v4 := by rw [e5, st_s, f3 11 (by decide)]; rfl
        rw [a13, a11]
        by_cases c : t = x ∧ f = y
        · rw [c.1, c.2, up_s, up_s]
          exact ⟨e2, e4⟩
        · rw [up_n (ix_n t0 hf2 h0 hy6 c), up_n (ix_n t0 hf2 h0 hy6 c)]
          exact h t f t0 hf2 (by omega)
    refine vc_X10_works_157 ⟨fun q => by omega, fun q => ⟨hx4, (by (try unfold am_in); (try unfold in_ at *); omega), ?_⟩⟩
    rw [eT]
    refine inner 600 600 0 m (by omega) (by omega) (fun _ => ⟨fun j j0 j1 => by omega, Or.inl ?_, by omega⟩) (by omega) (by omega) hf hv h9 h10 (fun t f t0 hf2 htf => h t f t0 (by unfold in_ at hf2; omega) hf2)
    ((try unfold am_in); (try unfold in_ at *); omega)
theorem w3_X10_works {μ : am_M} (hV : vP (pR μ)) : ∀ (j : Nat) (x : Int) (m : am_M), x + j = 4 → 0 ≤ x → fr_ wkL μ m → rv_ m → dv_ m 9 (vtR μ) → (∀ t f : Int, 0 ≤ t → t < x → in_ 0 600 f → m 10 (ix t f) = drR μ t f) → at_V kR 3 mX10_works 95 [vR 0, vI x, vU, vU, vU] [] m (fun m => fr_ wkL μ m ∧ rsnd_ m) := by
  intro j
  induction j with
  | zero =>
    intro x m hx h0 hf hv h9 h
    exact vc_X10_works_95 ⟨fun _ => w4_X10_works hV 4 0 m (by omega) (by omega) hf hv h9 (fun t f ht hf2 => h t f ht.1 (by ((try unfold am_in); (try unfold in_ at *); omega)) hf2) (fun t f t0 t1 => by omega), fun q => by omega⟩
  | succ j ih =>
    intro x m hx h0 hf hv h9 h
    have hx4 : in_ 0 4 x := ⟨h0, by omega⟩
    have kt := (hV.hT x h0 (by omega)).1
    change in_ 0 201 (rT μ x 0) at kt
    have inner : ∀ (i : Nat) (y : Int) (m : am_M), y + i = 600 → 0 ≤ y → fr_ wkL μ m → rv_ m → dv_ m 9 (vtR μ) → (∀ t f : Int, 0 ≤ t → in_ 0 600 f → (t < x ∨ (t = x ∧ f < y)) → m 10 (ix t f) = drR μ t f) → at_V kR 3 mX10_works 102 [vR 0, vI x, vI y, vU, vU] [] m (fun m => fr_ wkL μ m ∧ rsnd_ m) := by
      intro i
      induction i with
      | zero =>
        intro y m hy y0 hf hv h9 h
        exact vc_X10_works_102 ⟨fun _ => ⟨(by (try unfold am_in); (try unfold in_ at *); omega), ih (x + 1) m (by omega) (by omega) hf hv h9 (fun t f t0 t1 hf2 => h t f t0 hf2 (by unfold in_ at hf2; omega))⟩, fun q => by omega⟩
      | succ i ih2 =>
        intro y m hy y0 hf hv h9 h
        have hy6 : in_ 0 600 y := ⟨y0, by omega⟩
        have e1 : m 1 = μ 1 := hf 1 (by decide)
        obtain ⟨eS, eg, eT⟩ := r1_e e1
        have ib := ix_b (t := x) (f := y) hx4 hy6
        have e9 : m 9 ((600 * x) + y).toNat = vtR μ x y := h9 x y hx4 hy6
        have vb : in_ 0 1000 (vtR μ x y) := vt_b hV (μ 1 469) x y
        unfold in_ at kt vb hx4
        have mb := mulb (x := vtR μ x y) (y := rT μ x 0) (A := 999) (B := 200) (by omega) (by omega) (by omega) (by omega)
        refine vc_X10_works_102 ⟨fun q => by omega, fun q => ⟨(by (try unfold am_in); (try unfold in_ at *); omega), (by (try unfold am_in); (try unfold in_ at *); omega), (by (try unfold am_in); (try unfold in_ at *); omega), (by (try unfold am_in); (try unfold in_ at *); omega), ib.1, ib.2, hx4, (by (try unfold am_in); (try unfold in_ at *); omega), ?_⟩⟩
        rw [e9, eT]
        refine ⟨(by (try unfold am_in); (try unfold in_ at *); omega), mb.1, ib.1, ib.2, fun m1 e1' => ⟨(by (try unfold am_in); (try unfold in_ at *); omega), ?_⟩⟩
        have f1 : fr_ [10] m m1 := by rw [e1']; exact fr_st (by simp)
        refine ih2 (y + 1) m1 (by omega) (by omega) (fr_tr hf (fr_up f1 (by decide))) (rv_e (f1 1 (by decide)) (f1 8 (by decide)) hv) (dv_fr f1 (by decide) h9) (fun t f t0 hf2 htf => ?_)
        have a10 : m1 10 = am_up (m 10) (ix x y) (vtR μ x y * rT μ x 0 / 100) := by rw [e1', st_s]; rfl
        rw [a10]
        by_cases c : t = x ∧ f = y
        · rw [c.1, c.2, up_s]
          rfl
        · rw [up_n (ix_n t0 hf2 h0 hy6 c)]
          exact h t f t0 hf2 (by omega)
    refine vc_X10_works_95 ⟨fun q => by omega, fun q => inner 600 0 m (by omega) (by omega) hf hv h9 (fun t f t0 hf2 htf => h t f t0 (by unfold in_ at hf2; omega) hf2)⟩
theorem w2_X10_works {μ : am_M} (hV : vP (pR μ)) : ∀ (j : Nat) (x : Int) (m : am_M), x + j = μ 1 25 → 0 ≤ x → fr_ wkL μ m → rv_ m → dv_ m 9 (vQ_ μ x 0) → at_V kR 3 mX10_works 28 [vR 0, vI x, vU, vU, vU] [] m (fun m => fr_ wkL μ m ∧ rsnd_ m) := by
  have hn : in_ 0 25 (μ 1 25) := hV.hn
  intro j
  induction j with
  | zero =>
    intro x m hx h0 hf hv h9
    have e1 : m 1 = μ 1 := hf 1 (by decide)
    refine vc_X10_works_28 ⟨fun _ => w3_X10_works hV 4 0 m (by omega) (by omega) hf hv (dv_c h9 (fun t f ht hf2 => ?_)) (fun t f t0 t1 => by omega), fun q => by rw [e1] at q; omega⟩
    unfold vQ_
    rcases ont_c (g := rg μ) hn.1 t f with ⟨e, -⟩ | ⟨a1, a2, a3⟩
    · rw [cif_f (by omega)]
      show 0 = vt_ _ _ _ _ t f
      unfold vt_
      rw [if_pos (by omega)]
    · rw [cif_t ⟨a1, Or.inl (by omega)⟩]
  | succ j ih =>
    intro x m hx h0 hf hv h9
    have hxn : 0 ≤ x ∧ x < μ 1 25 := ⟨h0, by omega⟩
    have o := (hV.hc x hxn.1 hxn.2).1
    change okC (rg μ x) at o
    unfold okC at o
    have o0 := o.1
    have hs : ∀ i j, 0 ≤ i → i < j → j < μ 1 25 → bfr_ (rg μ i) (rg μ j) := hV.hs
    have inner : ∀ (i : Nat) (y : Int) (m : am_M), y + i = rg μ x 4 → 0 ≤ y → fr_ wkL μ m → rv_ m → dv_ m 9 (vQ_ μ x y) → at_V kR 3 mX10_works 41 [vR 0, vI x, vI y, vU, vU] [] m (fun m => fr_ wkL μ m ∧ rsnd_ m) := by
      intro i
      induction i with
      | zero =>
        intro y m hy y0 hf hv h9
        have e1 : m 1 = μ 1 := hf 1 (by decide)
        obtain ⟨eS, eg, eT⟩ := r1_e e1
        refine vc_X10_works_41 ⟨(by (try unfold am_in); (try unfold in_ at *); omega), (by (try unfold am_in); (try unfold in_ at *); omega), fun _ => ⟨(by (try unfold am_in); (try unfold in_ at *); omega), ih (x + 1) m (by omega) (by omega) hf hv (dv_c h9 (fun t f ht hf2 => ?_))⟩, fun q => by rw [eg] at q; omega⟩
        unfold vQ_
        congr 1
        apply propext
        rcases ont_c (g := rg μ) hn.1 t f with ⟨e, -⟩ | ⟨a1, a2, a3⟩
        · rw [e]; omega
        · constructor
          · rintro ⟨h1, h2 | ⟨h2, h3⟩⟩
            · exact ⟨h1, Or.inl (by omega)⟩
            · exact ⟨h1, Or.inl (by omega)⟩
          · rintro ⟨h1, h2 | ⟨h2, h3⟩⟩
            · by_cases c : ont_ (μ 1 25) (rg μ) t f = x
              · refine ⟨h1, Or.inr ⟨c, ?_⟩⟩
                rw [c] at a3 ⊢
                unfold on_p en_ at a3
                omega
              · exact ⟨h1, Or.inl (by omega)⟩
            · rw [h2] at a3 h3
              unfold on_p at a3
              omega
      | succ i ih2 =>
        intro y m hy y0 hf hv h9
        have e1 : m 1 = μ 1 := hf 1 (by decide)
        obtain ⟨eS, eg, eT⟩ := r1_e e1
        have ePR : pR m = pR μ := by show pA (m 1) = pA (μ 1); rw [e1]
        unfold in_ at o o0
        have hy6 : in_ 0 600 (rg μ x 1 + y) := by unfold in_; omega
        have ib := ix_b (t := rg μ x 0) (f := rg μ x 1 + y) o0 hy6
        refine vc_X10_works_41 ⟨(by (try unfold am_in); (try unfold in_ at *); omega), (by (try unfold am_in); (try unfold in_ at *); omega), fun q => by rw [eg] at q; omega, fun q => ?_⟩
        rw [eg]
        refine ⟨(by (try unfold am_in); (try unfold in_ at *); omega), (by (try unfold am_in); (try unfold in_ at *); omega), (by (try unfold am_in); (try unfold in_ at *); omega), (by (try unfold am_in); (try unfold in_ at *); omega), (by (try unfold am_in); (try unfold in_ at *); omega), (by (try unfold am_in); (try unfold in_ at *); omega), (by (try unfold am_in); (try unfold in_ at *); omega), _, sp_X10_clipValue (Q := fun z m2 => z = cv_ (m 1 469) (rS m) (rg m) x y ∧ m2 = m) (by rw [ePR]; exact hV) hv (by rw [e1]; exact hxn) (by rw [eg]; omega) ⟨rfl, rfl⟩, ?_⟩
        rintro z m2 ⟨ez, rfl⟩
        rw [e1, eS, eg] at ez
        refine ⟨by omega, by omega, fun m3 e3 => ⟨(by (try unfold am_in); (try unfold in_ at *); omega), ?_⟩⟩
        have e3' : m3 = am_st m2 9 (am_up (m2 9) (ix (rg μ x 0) (rg μ x 1 + y)) z) := by
          rw [e3]
          unfold ix
          rw [Int.add_assoc]
        have f3 : fr_ [9] m2 m3 := by rw [e3]; exact fr_st (by simp)
        refine ih2 (y + 1) m3 (by omega) (by omega) (fr_tr hf (fr_up f3 (by decide))) (rv_e (f3 1 (by decide)) (f3 8 (by decide)) hv) ?_
        rw [e3']
        refine dv_st o0.1 hy6 h9 ?_ (fun s g hs2 hg c => ?_)
        · have w := on_un (t := rg μ x 0) (f := rg μ x 1 + y) hs hxn (by unfold on_p en_; omega)
          have w2 : ont_ (μ 1 25) (rg μ) (rg μ x 0) (rg μ x 1 + y) = x := w
          unfold vQ_
          rw [cif_t ⟨by rw [w2]; omega, Or.inr ⟨w2, by rw [w2]; omega⟩⟩]
          show vt_ _ _ _ _ _ _ = z
          unfold vt_
          rw [w2, if_neg (by omega), ez, show rg μ x 1 + y - rg μ x 1 = y by omega]
        · unfold vQ_
          congr 1
          apply propext
          rcases ont_c (g := rg μ) hn.1 s g with ⟨e, -⟩ | ⟨a1, a2, a3⟩
          · rw [e]; omega
          · constructor
            · rintro ⟨h1, h2 | ⟨h2, h3⟩⟩
              · exact ⟨h1, Or.inl h2⟩
              · refine ⟨h1, Or.inr ⟨h2, ?_⟩⟩
                rw [h2] at a3 h3 ⊢
                unfold on_p at a3
                omega
            · rintro ⟨h1, h2 | ⟨h2, h3⟩⟩
              · exact ⟨h1, Or.inl h2⟩
              · exact ⟨h1, Or.inr ⟨h2, by omega⟩⟩
    refine vc_X10_works_28 ⟨fun q => by rw [hf 1 (by decide)] at q; omega, fun q => inner (rg μ x 4).toNat 0 m (by ((try unfold am_in); (try unfold in_ at *); omega)) (by omega) hf hv h9⟩
theorem sp_X10_works {μ : am_M} (hV : vP (pR μ)) : cl_V kR 3 mX10_works [vR 0] μ (fun m => fr_ wkL μ m ∧ rsnd_ m) := by
  have hn : in_ 0 25 (μ 1 25) := hV.hn
  refine ve_X10_works (vc_X10_works_0 ⟨_, sp_X10_laysWaves hV, fun m2 ⟨h1, h2⟩ => ?_⟩)
  have : ∀ (j : Nat) (x : Int) (m : am_M), x + j = 2400 → 0 ≤ x → fr_ wkL μ m → rv_ m → (∀ i : Nat, (i : Int) < x → m 9 i = 0) → at_V kR 3 mX10_works 6 [vR 0, vI x, vU, vU, vU] [] m (fun m => fr_ wkL μ m ∧ rsnd_ m) := by
    intro j
    induction j with
    | zero =>
      intro x m hx h0 hf hv hz
      refine vc_X10_works_6 ⟨fun _ => w2_X10_works hV (μ 1 25).toNat 0 m (by ((try unfold am_in); (try unfold in_ at *); omega)) (by omega) hf hv (fun t f ht hf2 => ?_), fun q => by omega⟩
      have ib := ix_b ht hf2
      rw [hz _ (by unfold ix; omega)]
      unfold vQ_
      rw [cif_f]
      rintro ⟨h1, h2 | ⟨h2, h3⟩⟩
      · omega
      · rcases ont_c (g := rg μ) hn.1 t f with ⟨e, -⟩ | ⟨a1, a2, a3⟩
        · omega
        · unfold on_p at a3
          omega
    | succ j ih =>
      intro x m hx h0 hf hv hz
      refine vc_X10_works_6 ⟨fun q => by omega, fun q => ⟨h0, q, fun m1 e1 => ⟨(by (try unfold am_in); (try unfold in_ at *); omega), ?_⟩⟩⟩
      have f1 : fr_ [9] m m1 := by rw [e1]; exact fr_st (by simp)
      refine ih (x + 1) m1 (by omega) (by omega) (fr_tr hf (fr_up f1 (by decide))) (rv_e (f1 1 (by decide)) (f1 8 (by decide)) hv) (fun i hi => ?_)
      rw [e1, st_s]
      by_cases c : i = x.toNat
      · rw [c, up_s]
      · rw [up_n c]
        exact hz i (by omega)
  exact this 2400 0 m2 (by omega) (by omega) (fr_up h1 (by decide)) h2 (fun i hi => by omega)

/-! the class's sound: values on tracks -/
theorem vC_fr {ks : List Nat} {μ m : am_M} (h : fr_ ks μ m) (hk : ∀ k ∈ ks, 9 < k) (hV : vC μ) : vC m := by
  have e : ∀ k, k ≤ 9 → m k = μ k := fun k hk2 => h k (fun q => by have := hk _ q; omega)
  have eH : hC m = hC μ := by unfold hC; rw [e 7 (by omega), e 8 (by omega), e 9 (by omega)]
  show vp_ (m 2) (tg (m 3) 7) (m 1 5) (tg (m 4) 4) (m 5 1) (cg m) (hC m)
  rw [e 2 (by omega), e 3 (by omega), e 1 (by omega), e 4 (by omega), e 5 (by omega), cg_c (e 6 (by omega)), eH]
  exact hV
theorem sv_fr {ks : List Nat} {μ m : am_M} (h : fr_ ks μ m) (hk : ∀ k ∈ ks, 9 < k ∧ (k < 131 ∨ 136 < k)) (hn : in_ 0 7 (μ 1 5)) (hv : sv_ μ) : sv_ m := by
  have e : ∀ k, k ≤ 9 ∨ (131 ≤ k ∧ k ≤ 136) → m k = μ k := fun k hk2 => h k (fun q => by have := hk _ q; omega)
  intro s s0 s1 i i0 i1
  rw [e 1 (by omega)] at s1
  rw [e 4 (by omega)] at i1
  rw [e (131 + s.toNat) (by right; ((try unfold am_in); (try unfold in_ at *); omega)), e 4 (by omega)]
  exact hv s s0 s1 i i0 i1
theorem on_un {n : Int} {g : Tb} (hs : ∀ i j, 0 ≤ i → i < j → j < n → bfr_ (g i) (g j)) {t f c : Int} (hc : 0 ≤ c ∧ c < n) (h : on_p g t f c) : fst_ (on_p g t f) n (-1) = c := by
  refine fst_is (Or.inl ⟨c, hc.1, hc.2, h, fun j j0 j1 hj => ?_, rfl⟩)
  have := hs j c j0 j1 hc.2
  unfold on_p en_ at *
  unfold bfr_ at this
  omega
/-- the clip on a track at a frame, or -1; its value -/
noncomputable def ont_ (n : Int) (g : Tb) (t f : Int) : Int := fst_ (on_p g t f) n (-1)
theorem ont_c {n : Int} {g : Tb} (hn : 0 ≤ n) (t f : Int) : (ont_ n g t f = -1 ∧ ∀ c, 0 ≤ c → c < n → ¬ on_p g t f c) ∨ (0 ≤ ont_ n g t f ∧ ont_ n g t f < n ∧ on_p g t f (ont_ n g t f)) := by
  rcases fst_ok (on_p g t f) (n := n) (e := -1) hn with ⟨i, a1, a2, a3, a4, a5⟩ | ⟨a1, a2⟩
  · right
    unfold ont_
    rw [a5]
    exact ⟨a1, a2, a3⟩
  · exact Or.inl ⟨a2, a1⟩
noncomputable def vt_ (sh : Int) (S : Tb) (n : Int) (g : Tb) (t f : Int) : Int := if ont_ n g t f < 0 then 0 else cv_ sh S g (ont_ n g t f) (f - g (ont_ n g t f) 1)
noncomputable def dr_ (sh : Int) (T S : Tb) (n : Int) (g : Tb) (t f : Int) : Int := vt_ sh S n g t f * T t 0 / 100
theorem vt_b {E : Nat → Int} {T : Tb} {sn : Int} {S : Tb} {n : Int} {g : Tb} {H : Hl} (h : vp_ E T sn S n g H) (sh t f : Int) : in_ 0 1000 (vt_ sh S n g t f) := by
  unfold vt_
  split
  · exact ⟨by omega, by omega⟩
  · rename_i q
    rcases ont_c (g := g) h.hn.1 t f with ⟨e, -⟩ | ⟨a1, a2, a3⟩
    · omega
    · refine cv_b h ⟨a1, a2⟩ ?_ sh
      unfold on_p en_ at a3
      omega
theorem dr_b {E : Nat → Int} {T : Tb} {sn : Int} {S : Tb} {n : Int} {g : Tb} {H : Hl} (h : vp_ E T sn S n g H) (sh : Int) {t f : Int} (ht : in_ 0 4 t) : in_ 0 1999 (dr_ sh T S n g t f) := by
  have b := vt_b h sh t f
  have k := (h.hT t ht.1 ht.2).1
  unfold in_ at *
  have m := mulb (x := vt_ sh S n g t f) (y := T t 0) (A := 999) (B := 200) (by omega) (by omega) (by omega) (by omega)
  unfold dr_
  omega
/-- the rows of values while they are filled -/
noncomputable def dP_ (sh : Int) (T S : Tb) (n : Int) (g : Tb) (x y t f : Int) : Int := cif (0 ≤ ont_ n g t f ∧ (ont_ n g t f < x ∨ (ont_ n g t f = x ∧ f < g (ont_ n g t f) 1 + y))) (dr_ sh T S n g t f) 0
def dk_ (m : am_M) (F : Int → Int → Int) : Prop := ∀ t f : Int, in_ 0 4 t → in_ 0 600 f → m (138 + t.toNat) f.toNat = F t f
theorem dk_c {m : am_M} {F G : Int → Int → Int} (h : dk_ m F) (e : ∀ t f, in_ 0 4 t → in_ 0 600 f → F t f = G t f) : dk_ m G := fun t f ht hf => (h t f ht hf).trans (e t f ht hf)
theorem rw_ok {t : Int} (ht : in_ 0 4 t) : (138 + t.toNat) < kC.1 ∧ (kC.2 (138 + t.toNat)).1 = 11 ∧ (kC.2 (138 + t.toNat)).2.1 = 600 := by
  obtain ⟨-, h1, h2, h3⟩ := kx137 ht.1 ht.2
  exact ⟨h2, h1, h3⟩
theorem vc_X7_fillDry_0 {μ : am_M} {Q : am_M → Prop} (h : at_V kC 4 mX7_fillDry 2 [vR 129, vI 0, vU, vU, vU, vU] [] μ Q) : at_V kC 4 mX7_fillDry 0 [vR 129, vU, vU, vU, vU, vU] [] μ Q := by
  refine s_iconst dX7_fillDry_0 (by decide) ?_
  refine s_istore_n dX7_fillDry_1 rfl (by decide) (L' := [vR 129, vI 0, vU, vU, vU, vU]) rfl ?_
  exact h
theorem vc_X7_fillDry_2 {x1 : Int} {μ : am_M} {Q : am_M → Prop} (h : (4 ≤ x1 → at_V kC 4 mX7_fillDry 25 [vR 129, vI 0, vU, vU, vU, vU] [] μ Q) ∧ (x1 < 4 → (0 ≤ x1) ∧ (x1 < 4) ∧ (∃ P : am_M → Prop, cl_V kC 1 mJ7_fill_53178 [vR (138 + (x1).toNat), vI 0] μ P ∧ (∀ m3 : am_M, P m3 → (am_in (x1 + 1)) ∧ (at_V kC 4 mX7_fillDry 2 [vR 129, vI (x1 + 1), vU, vU, vU, vU] [] m3 Q))))) : at_V kC 4 mX7_fillDry 2 [vR 129, vI x1, vU, vU, vU, vU] [] μ Q := by
  refine s_iload_n dX7_fillDry_2 rfl rfl ?_
  refine s_iconst dX7_fillDry_3 (by decide) ?_
  refine s_icmp_ge dX7_fillDry_4 (tgt := 23) (by decide) (fun cc => ?_) (fun cc => ?_)
  · have h := h.1 cc
    refine s_iconst dX7_fillDry_23 (by decide) ?_
    refine s_istore_n dX7_fillDry_24 rfl (by decide) (L' := [vR 129, vI 0, vU, vU, vU, vU]) rfl ?_
    exact h
  · have h := h.2 cc
    refine s_aload_n dX7_fillDry_7 rfl rfl ?_
    refine s_getR dX7_fillDry_8 flX7_16 kn129 kk129 rfl kr129_2 ?_
    refine s_iload_n dX7_fillDry_11 rfl rfl ?_
    obtain ⟨c, c2, h⟩ := h
    obtain ⟨rx1r, rx1k, rx1n, rx1l⟩ := kx137 c c2
    refine s_aald dX7_fillDry_12 kn137 kk137 (by decide) kl137 c c2 rx1r ?_
    refine s_iconst dX7_fillDry_13 (by decide) ?_
    obtain ⟨P, hcl, h⟩ := h
    refine s_callS (As := [vR (138 + (x1).toNat), vI 0]) (rest := []) dX7_fillDry_14 lkX7_47 lmJ7_fill_53178 rfl rfl (Nat.le_of_ble_eq_true rfl) (by decide) (Nat.le_refl 0) (Nat.le_refl 0) (hC := hcl) (fun r n2 S2 m3 hP => ?_)
    obtain ⟨⟨rfl, rfl⟩, rfl, hq⟩ := hP
    have h := h m3 hq
    obtain ⟨c, h⟩ := h
    refine s_iinc dX7_fillDry_17 rfl (am_w_id c) (by decide) (L' := [vR 129, vI (x1 + 1), vU, vU, vU, vU]) rfl ?_
    refine s_goto dX7_fillDry_20 (tgt := 2) (by decide) ?_
    exact h
theorem vc_X7_fillDry_25 {x1 : Int} {μ : am_M} {Q : am_M → Prop} (h : (μ 5 1 ≤ x1 → Q μ) ∧ (x1 < μ 5 1 → (in_ 0 32 x1) ∧ (in_ 0 8 0) ∧ ((in_ 0 32 x1) ∧ (in_ 0 8 1) ∧ ((in_ 0 4 (cg μ x1 0)) ∧ (in_ 0 7 0) ∧ (at_V kC 4 mX7_fillDry 79 [vR 129, vI x1, vI (cg μ x1 0), vI (cg μ x1 1), vI (tg (μ 3) 7 (cg μ x1 0) 0), vI 0] [] μ Q))))) : at_V kC 4 mX7_fillDry 25 [vR 129, vI x1, vU, vU, vU, vU] [] μ Q := by
  refine s_iload_n dX7_fillDry_25 rfl rfl ?_
  refine s_aload_n dX7_fillDry_26 rfl rfl ?_
  refine s_getR dX7_fillDry_27 flX7_30 kn129 kk129 rfl kr129_0 ?_
  refine s_getR dX7_fillDry_30 flX7_76 kn1 kk1 rfl kr1_3 ?_
  refine s_getI (x := (μ 5 1)) dX7_fillDry_33 flX7_80 kn5 kk5 rfl rfl ?_
  refine s_icmp_ge dX7_fillDry_36 (tgt := 132) (by decide) (fun cc => ?_) (fun cc => ?_)
  · have h := h.1 cc
    exact s_return dX7_fillDry_132 rfl ⟨⟨rfl, rfl⟩, rfl, h⟩
  · have h := h.2 cc
    refine s_aload_n dX7_fillDry_39 rfl rfl ?_
    refine s_getR dX7_fillDry_40 flX7_30 kn129 kk129 rfl kr129_0 ?_
    refine s_getR dX7_fillDry_43 flX7_76 kn1 kk1 rfl kr1_3 ?_
    refine s_iload_n dX7_fillDry_46 rfl rfl ?_
    refine s_iconst dX7_fillDry_47 (by decide) ?_
    obtain ⟨p0, p1, h⟩ := h
    refine s_callV (As := [vI x1, vI 0]) (rest := []) (k := 5) dX7_fillDry_48 lkX7_85 kn5 ⟨by rw [kk5]; rfl, by rw [kk5]; decide⟩ lmX1_get rfl rfl (Nat.le_of_ble_eq_true rfl) (by decide) (Nat.le_refl 0) (Nat.le_refl 0) (hC := sp_X1_get (Q := fun z m => cg μ x1 0 = z ∧ μ = m) p0 p1 ⟨rfl, rfl⟩) (fun r n2 S2 m2 hP => ?_)
    obtain ⟨⟨rfl, rfl⟩, z, rfl, rfl, rfl⟩ := hP
    refine s_istore_n dX7_fillDry_51 rfl (by decide) (L' := [vR 129, vI x1, vI (cg μ x1 0), vU, vU, vU]) rfl ?_
    refine s_aload_n dX7_fillDry_52 rfl rfl ?_
    refine s_getR dX7_fillDry_53 flX7_30 kn129 kk129 rfl kr129_0 ?_
    refine s_getR dX7_fillDry_56 flX7_76 kn1 kk1 rfl kr1_3 ?_
    refine s_iload_n dX7_fillDry_59 rfl rfl ?_
    refine s_iconst dX7_fillDry_60 (by decide) ?_
    obtain ⟨p0, p1, h⟩ := h
    refine s_callV (As := [vI x1, vI 1]) (rest := []) (k := 5) dX7_fillDry_61 lkX7_85 kn5 ⟨by rw [kk5]; rfl, by rw [kk5]; decide⟩ lmX1_get rfl rfl (Nat.le_of_ble_eq_true rfl) (by decide) (Nat.le_refl 0) (Nat.le_refl 0) (hC := sp_X1_get (Q := fun z m => cg μ x1 1 = z ∧ μ = m) p0 p1 ⟨rfl, rfl⟩) (fun r n2 S2 m2 hP => ?_)
    obtain ⟨⟨rfl, rfl⟩, z, rfl, rfl, rfl⟩ := hP
    refine s_istore_n dX7_fillDry_64 rfl (by decide) (L' := [vR 129, vI x1, vI (cg μ x1 0), vI (cg μ x1 1), vU, vU]) rfl ?_
    refine s_aload_n dX7_fillDry_65 rfl rfl ?_
    refine s_getR dX7_fillDry_66 flX7_30 kn129 kk129 rfl kr129_0 ?_
    refine s_iload_n dX7_fillDry_69 rfl rfl ?_
    refine s_iconst dX7_fillDry_70 (by decide) ?_
    obtain ⟨p0, p1, h⟩ := h
    refine s_callV (As := [vI (cg μ x1 0), vI 0]) (rest := []) (k := 1) dX7_fillDry_71 lkX7_88 kn1 ⟨by rw [kk1]; rfl, by rw [kk1]; decide⟩ lmX4_trackNumber rfl rfl (Nat.le_of_ble_eq_true rfl) (by decide) (Nat.le_refl 0) (Nat.le_refl 0) (hC := sp_X4_trackNumber (Q := fun z m => tg (μ 3) 7 (cg μ x1 0) 0 = z ∧ μ = m) p0 p1 ⟨rfl, rfl⟩) (fun r n2 S2 m2 hP => ?_)
    obtain ⟨⟨rfl, rfl⟩, z, rfl, rfl, rfl⟩ := hP
    refine s_istore dX7_fillDry_74 (by decide) (L' := [vR 129, vI x1, vI (cg μ x1 0), vI (cg μ x1 1), vI (tg (μ 3) 7 (cg μ x1 0) 0), vU]) rfl ?_
    refine s_iconst dX7_fillDry_76 (by decide) ?_
    refine s_istore dX7_fillDry_77 (by decide) (L' := [vR 129, vI x1, vI (cg μ x1 0), vI (cg μ x1 1), vI (tg (μ 3) 7 (cg μ x1 0) 0), vI 0]) rfl ?_
    exact h
theorem vc_X7_fillDry_79 {x1 x2 x3 x4 x5 : Int} {μ : am_M} {Q : am_M → Prop} (h : (in_ 0 32 x1) ∧ (in_ 0 8 4) ∧ ((cg μ x1 4 ≤ x5 → (am_in (x1 + 1)) ∧ (at_V kC 4 mX7_fillDry 25 [vR 129, vI (x1 + 1), vU, vU, vU, vU] [] μ Q)) ∧ (x5 < cg μ x1 4 → (0 ≤ x2) ∧ (x2 < 4) ∧ ((am_in (x3 + x5)) ∧ (∃ P : Int → am_M → Prop, cl_I kC 2 mX7_clipValue [vR 129, vI x1, vI x5] μ P ∧ (∀ (z2 : Int) (m3 : am_M), P z2 m3 → (am_in (z2 * x4)) ∧ ((0 ≤ z2 * x4) ∧ ((0 ≤ x3 + x5) ∧ (x3 + x5 < 600) ∧ (∀ m4 : am_M, m4 = am_st m3 (138 + (x2).toNat) (am_up (m3 (138 + (x2).toNat)) (x3 + x5).toNat ((z2 * x4) / 100)) → (am_in (x5 + 1)) ∧ (at_V kC 4 mX7_fillDry 79 [vR 129, vI x1, vI x2, vI x3, vI x4, vI (x5 + 1)] [] m4 Q)))))))))) : at_V kC 4 mX7_fillDry 79 [vR 129, vI x1, vI x2, vI x3, vI x4, vI x5] [] μ Q := by
  refine s_iload dX7_fillDry_79 rfl ?_
  refine s_aload_n dX7_fillDry_81 rfl rfl ?_
  refine s_getR dX7_fillDry_82 flX7_30 kn129 kk129 rfl kr129_0 ?_
  refine s_getR dX7_fillDry_85 flX7_76 kn1 kk1 rfl kr1_3 ?_
  refine s_iload_n dX7_fillDry_88 rfl rfl ?_
  refine s_iconst dX7_fillDry_89 (by decide) ?_
  obtain ⟨p0, p1, h⟩ := h
  refine s_callV (As := [vI x1, vI 4]) (rest := [vI x5]) (k := 5) dX7_fillDry_90 lkX7_85 kn5 ⟨by rw [kk5]; rfl, by rw [kk5]; decide⟩ lmX1_get rfl rfl (Nat.le_of_ble_eq_true rfl) (by decide) (Nat.le_refl 0) (Nat.le_refl 0) (hC := sp_X1_get (Q := fun z m => cg μ x1 4 = z ∧ μ = m) p0 p1 ⟨rfl, rfl⟩) (fun r n2 S2 m2 hP => ?_)
  obtain ⟨⟨rfl, rfl⟩, z, rfl, rfl, rfl⟩ := hP
  refine s_icmp_ge dX7_fillDry_93 (tgt := 126) (by decide) (fun cc => ?_) (fun cc => ?_)
  · have h := h.1 cc
    obtain ⟨c, h⟩ := h
    refine s_iinc dX7_fillDry_126 rfl (am_w_id c) (by decide) (L' := [vR 129, vI (x1 + 1), vI x2, vI x3, vI x4, vI x5]) rfl ?_
    refine s_goto dX7_fillDry_129 (tgt := 25) (by decide) ?_
    exact am_lesS h ⟨Or.inr rfl, Or.inr rfl, Or.inl rfl, Or.inl rfl, Or.inl rfl, Or.inl rfl, trivial⟩
  · have h := h.2 cc
    refine s_aload_n dX7_fillDry_96 rfl rfl ?_
    refine s_getR dX7_fillDry_97 flX7_16 kn129 kk129 rfl kr129_2 ?_
    refine s_iload_n dX7_fillDry_100 rfl rfl ?_
    obtain ⟨c, c2, h⟩ := h
    obtain ⟨rx1r, rx1k, rx1n, rx1l⟩ := kx137 c c2
    refine s_aald dX7_fillDry_101 kn137 kk137 (by decide) kl137 c c2 rx1r ?_
    refine s_iload_n dX7_fillDry_102 rfl rfl ?_
    refine s_iload dX7_fillDry_103 rfl ?_
    obtain ⟨c, h⟩ := h
    refine s_iadd dX7_fillDry_105 (am_w_id c) ?_
    refine s_aload_n dX7_fillDry_106 rfl rfl ?_
    refine s_iload_n dX7_fillDry_107 rfl rfl ?_
    refine s_iload dX7_fillDry_108 rfl ?_
    obtain ⟨P, hcl, h⟩ := h
    refine s_callV (As := [vI x1, vI x5]) (rest := [vI (x3 + x5), vR (138 + (x2).toNat)]) (k := 129) dX7_fillDry_110 lkX7_91 kn129 ⟨by rw [kk129]; rfl, by rw [kk129]; decide⟩ lmX7_clipValue rfl rfl (Nat.le_of_ble_eq_true rfl) (by decide) (Nat.le_refl 0) (Nat.le_refl 0) (hC := hcl) (fun r n2 S2 m3 hP => ?_)
    obtain ⟨⟨rfl, rfl⟩, z2, rfl, hq⟩ := hP
    have h := h z2 m3 hq
    refine s_iload dX7_fillDry_113 rfl ?_
    obtain ⟨c, h⟩ := h
    refine s_imul dX7_fillDry_115 (am_w_id c) ?_
    refine s_bipush dX7_fillDry_116 (by decide) ?_
    obtain ⟨c, h⟩ := h
    refine s_idivp dX7_fillDry_118 c (by decide) rfl ?_
    obtain ⟨c, c2, h⟩ := h
    obtain ⟨m4, hm4⟩ : ∃ x : am_M, x = am_st m3 (138 + (x2).toNat) (am_up (m3 (138 + (x2).toNat)) (x3 + x5).toNat ((z2 * x4) / 100)) := ⟨_, rfl⟩
    have h := h m4 hm4
    refine s_iast dX7_fillDry_119 rx1n rx1k rx1l c c2 hm4.symm ?_
    obtain ⟨c, h⟩ := h
    refine s_iinc dX7_fillDry_120 rfl (am_w_id c) (by decide) (L' := [vR 129, vI x1, vI x2, vI x3, vI x4, vI (x5 + 1)]) rfl ?_
    refine s_goto dX7_fillDry_123 (tgt := 79) (by decide) ?_
    exact h
theorem ve_X7_fillDry {μ : am_M} {Q : am_M → Prop} (h : at_V kC 4 mX7_fillDry 0 [vR 129, vU, vU, vU, vU, vU] [] μ Q) : cl_V kC 4 mX7_fillDry [vR 129] μ Q := am_intro pmX7_fillDry (Nat.le_of_ble_eq_true rfl) rfl h
theorem lp3_X7_fillDry {μ0 : am_M} (hV : vC μ0) (hv : sv_ μ0) {Q : am_M → Prop} {x : Int} (hx : 0 ≤ x ∧ x < μ0 5 1) (hQ : ∀ m, fr_ [138, 139, 140, 141] μ0 m → dk_ m (dP_ (μ0 2 4) (tg (μ0 3) 7) (tg (μ0 4) 4) (μ0 5 1) (cg μ0) (x + 1) 0) → at_V kC 4 mX7_fillDry 25 [vR 129, vI (x + 1), vU, vU, vU, vU] [] m Q) : ∀ (j : Nat) (y : Int) (μ : am_M), y + j = cg μ0 x 4 → 0 ≤ y → fr_ [138, 139, 140, 141] μ0 μ → dk_ μ (dP_ (μ0 2 4) (tg (μ0 3) 7) (tg (μ0 4) 4) (μ0 5 1) (cg μ0) x y) → at_V kC 4 mX7_fillDry 79 [vR 129, vI x, vI (cg μ0 x 0), vI (cg μ0 x 1), vI (tg (μ0 3) 7 (cg μ0 x 0) 0), vI y] [] μ Q := by
  have hn := hV.hn
  have o := (hV.hc x hx.1 hx.2).1
  unfold okC at o
  have o0 := o.1
  have kv := (hV.hT (cg μ0 x 0) o0.1 o0.2).1
  intro j
  induction j with
  | zero =>
    intro y μ h h0 hf hd
    have g6 : cg μ = cg μ0 := cg_c (hf 6 (by decide))
    refine vc_X7_fillDry_79 ⟨(by (try unfold am_in); (try unfold in_ at *); omega), (by (try unfold am_in); (try unfold in_ at *); omega), fun q => ⟨(by (try unfold am_in); (try unfold in_ at *); omega), hQ μ hf (dk_c hd (fun t f ht hf2 => ?_))⟩, fun q => by rw [g6] at q; omega⟩
    unfold dP_
    congr 1
    apply propext
    rcases ont_c (g := cg μ0) hn.1 t f with ⟨e, -⟩ | ⟨a1, a2, a3⟩
    · rw [e]; omega
    · constructor
      · rintro ⟨h1, h2 | ⟨h2, h3⟩⟩
        · exact ⟨h1, Or.inl (by omega)⟩
        · exact ⟨h1, Or.inl (by omega)⟩
      · rintro ⟨h1, h2 | ⟨h2, h3⟩⟩
        · by_cases c : ont_ (μ0 5 1) (cg μ0) t f = x
          · refine ⟨h1, Or.inr ⟨c, ?_⟩⟩
            rw [c] at a3 ⊢
            unfold on_p en_ at a3
            omega
          · exact ⟨h1, Or.inl (by omega)⟩
        · rw [h2] at a3 h3
          unfold on_p at a3
          omega
  | succ j ih =>
    intro y μ h h0 hf hd
    have g6 : cg μ = cg μ0 := cg_c (hf 6 (by decide))
    have e2 : μ 2 = μ0 2 := hf 2 (by decide)
    have e4 : μ 4 = μ0 4 := hf 4 (by decide)
    have e5 : μ 5 = μ0 5 := hf 5 (by decide)
    refine vc_X7_fillDry_79 ⟨(by (try unfold am_in); (try unfold in_ at *); omega), (by (try unfold am_in); (try unfold in_ at *); omega), fun q => by rw [g6] at q; omega, fun q => ⟨o0.1, o0.2, (by (try unfold am_in); (try unfold in_ at *); omega), ?_⟩⟩
    refine ⟨_, sp_X7_clipValue (Q := fun z m => z = cv_ (μ 2 4) (tg (μ 4) 4) (cg μ) x y ∧ m = μ) (vC_fr hf (by simp) hV) (sv_fr hf (by simp) hV.hS.1 hv) (by rw [e5]; exact hx) (by rw [g6]; omega) ⟨rfl, rfl⟩, ?_⟩
    rintro z m3 ⟨ez, rfl⟩
    rw [e2, e4, g6] at ez
    have zb : in_ 0 1000 z := by rw [ez]; exact cv_b hV hx ⟨h0, by omega⟩ _
    have mb := mulb (x := z) (y := tg (μ0 3) 7 (cg μ0 x 0) 0) (A := 999) (B := 200) (by ((try unfold am_in); (try unfold in_ at *); omega)) (by ((try unfold am_in); (try unfold in_ at *); omega)) (by ((try unfold am_in); (try unfold in_ at *); omega)) (by ((try unfold am_in); (try unfold in_ at *); omega))
    refine ⟨(by (try unfold am_in); (try unfold in_ at *); omega), mb.1, (by (try unfold am_in); (try unfold in_ at *); omega), (by (try unfold am_in); (try unfold in_ at *); omega), fun m4 em => ⟨(by (try unfold am_in); (try unfold in_ at *); omega), ih (y + 1) m4 (by omega) (by omega) ?_ ?_⟩⟩
    · rw [em]
      exact fr_tr hf (fr_st (by simp; ((try unfold am_in); (try unfold in_ at *); omega)))
    · intro t f ht hf2
      have hon : t = cg μ0 x 0 → f = cg μ0 x 1 + y → ont_ (μ0 5 1) (cg μ0) t f = x := fun c1 c2 => on_un hV.hs hx (by unfold on_p en_; omega)
      by_cases c : t = cg μ0 x 0 ∧ f = cg μ0 x 1 + y
      · have w := hon c.1 c.2
        unfold dP_
        rw [cif_t ⟨by omega, Or.inr ⟨w, by rw [w]; omega⟩⟩]
        rw [em, c.1, st_s, c.2, up_s]
        unfold dr_ vt_
        rw [← c.1, ← c.2, w, if_neg (by omega), ez, c.2, show cg μ0 x 1 + y - cg μ0 x 1 = y by omega]
      · have old := hd t f ht hf2
        have : m4 (138 + t.toNat) f.toNat = m3 (138 + t.toNat) f.toNat := by
          rw [em]
          by_cases c1 : t = cg μ0 x 0
          · rw [c1, st_s, up_n]
            ((try unfold am_in); (try unfold in_ at *); omega)
          · rw [st_n]
            ((try unfold am_in); (try unfold in_ at *); omega)
        rw [this, old]
        unfold dP_
        congr 1
        apply propext
        rcases ont_c (g := cg μ0) hn.1 t f with ⟨e, -⟩ | ⟨a1, a2, a3⟩
        · rw [e]; omega
        · constructor
          · rintro ⟨h1, h2 | ⟨h2, h3⟩⟩
            · exact ⟨h1, Or.inl h2⟩
            · exact ⟨h1, Or.inr ⟨h2, by omega⟩⟩
          · rintro ⟨h1, h2 | ⟨h2, h3⟩⟩
            · exact ⟨h1, Or.inl h2⟩
            · refine ⟨h1, Or.inr ⟨h2, ?_⟩⟩
              rw [h2] at a3 h3 ⊢
              unfold on_p at a3
              omega
theorem sp_X7_fillDry {μ : am_M} (hV : vC μ) (hv : sv_ μ) : cl_V kC 4 mX7_fillDry [vR 129] μ (fun m => fr_ [138, 139, 140, 141] μ m ∧ dk_ m (dr_ (μ 2 4) (tg (μ 3) 7) (tg (μ 4) 4) (μ 5 1) (cg μ))) := by
  have hn := hV.hn
  refine ve_X7_fillDry (vc_X7_fillDry_0 ?_)
  have second : ∀ (j : Nat) (x : Int) (m : am_M), x + j = μ 5 1 → 0 ≤ x → fr_ [138, 139, 140, 141] μ m → dk_ m (dP_ (μ 2 4) (tg (μ 3) 7) (tg (μ 4) 4) (μ 5 1) (cg μ) x 0) → at_V kC 4 mX7_fillDry 25 [vR 129, vI x, vU, vU, vU, vU] [] m (fun m => fr_ [138, 139, 140, 141] μ m ∧ dk_ m (dr_ (μ 2 4) (tg (μ 3) 7) (tg (μ 4) 4) (μ 5 1) (cg μ))) := by
    intro j
    induction j with
    | zero =>
      intro x m h h0 hf hd
      refine vc_X7_fillDry_25 ⟨fun _ => ⟨hf, dk_c hd (fun t f ht hf2 => ?_)⟩, fun q => by rw [hf 5 (by decide)] at q; omega⟩
      unfold dP_
      rcases ont_c (g := cg μ) hn.1 t f with ⟨e, -⟩ | ⟨a1, a2, a3⟩
      · rw [cif_f (by omega)]
        unfold dr_ vt_
        rw [if_pos (by omega)]
        simp
      · rw [cif_t ⟨a1, Or.inl (by omega)⟩]
    | succ j ih =>
      intro x m h h0 hf hd
      have g6 : cg m = cg μ := cg_c (hf 6 (by decide))
      have o := (hV.hc x h0 (by omega)).1
      unfold okC at o
      refine vc_X7_fillDry_25 ⟨fun q => by rw [hf 5 (by decide)] at q; omega, fun q => ⟨(by (try unfold am_in); (try unfold in_ at *); omega), (by (try unfold am_in); (try unfold in_ at *); omega), (by (try unfold am_in); (try unfold in_ at *); omega), (by (try unfold am_in); (try unfold in_ at *); omega), by rw [g6]; exact o.1, (by (try unfold am_in); (try unfold in_ at *); omega), ?_⟩⟩
      rw [g6, hf 3 (by decide)]
      exact lp3_X7_fillDry hV hv ⟨h0, by omega⟩ (fun m2 f2 d2 => ih (x + 1) m2 (by omega) (by omega) f2 d2) (cg μ x 4).toNat 0 m (by ((try unfold am_in); (try unfold in_ at *); omega)) (by omega) hf hd
  have first : ∀ (j : Nat) (x : Int) (m : am_M), x + j = 4 → 0 ≤ x → fr_ [138, 139, 140, 141] μ m → (∀ t f : Int, 0 ≤ t → t < x → in_ 0 600 f → m (138 + t.toNat) f.toNat = 0) → at_V kC 4 mX7_fillDry 2 [vR 129, vI x, vU, vU, vU, vU] [] m (fun m => fr_ [138, 139, 140, 141] μ m ∧ dk_ m (dr_ (μ 2 4) (tg (μ 3) 7) (tg (μ 4) 4) (μ 5 1) (cg μ))) := by
    intro j
    induction j with
    | zero =>
      intro x m h h0 hf hd
      refine vc_X7_fillDry_2 ⟨fun _ => second (μ 5 1).toNat 0 m (by ((try unfold am_in); (try unfold in_ at *); omega)) (by omega) hf (fun t f ht hf2 => ?_), fun q => by omega⟩
      rw [hd t f ht.1 (by ((try unfold am_in); (try unfold in_ at *); omega)) hf2]
      unfold dP_
      rw [cif_f]
      rintro ⟨h1, h2 | ⟨h2, h3⟩⟩
      · omega
      · rcases ont_c (g := cg μ) hn.1 t f with ⟨e, -⟩ | ⟨a1, a2, a3⟩
        · omega
        · unfold on_p at a3
          omega
    | succ j ih =>
      intro x m h h0 hf hd
      refine vc_X7_fillDry_2 ⟨fun q => by omega, fun q => ⟨h0, q, _, sp_J7_fill (rw_ok ⟨h0, q⟩), fun m2 k2 => ⟨(by (try unfold am_in); (try unfold in_ at *); omega), ih (x + 1) m2 (by omega) (by omega) ?_ (fun t f t0 t1 hf2 => ?_)⟩⟩⟩
      · exact fr_tr hf (fr_up k2.1 (by simp; omega))
      · by_cases c : t = x
        · rw [c]
          exact k2.2 f.toNat (by ((try unfold am_in); (try unfold in_ at *); omega))
        · rw [k2.1 (138 + t.toNat) (by simp; omega)]
          exact hd t f t0 (by omega) hf2
  exact first 4 0 μ (by omega) (by omega) fr_rf (fun t f t0 t1 => by omega)

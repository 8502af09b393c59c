/-! a valid project; the value of a clip -/
def ok_K (T : Tb) : Prop := ∀ t, 0 ≤ t → t < 4 → in_ 0 201 (T t 0) ∧ in_ 0 2 (T t 1) ∧ in_ 0 2 (T t 2) ∧ in_ (-1) 4 (T t 3) ∧ T t 3 ≠ t ∧ in_ 0 1000 (T t 4) ∧ in_ 0 101 (T t 5) ∧ in_ 0 21 (T t 6)
def vp_ (E : Nat → Int) (T : Tb) (sn : Int) (S : Tb) (n : Int) (g : Tb) (H : Hl) : Prop := (ok_E E) ∧ (ok_K T) ∧ (ok_S S sn) ∧ (ok_S2 S sn) ∧ (in_ 0 25 n) ∧ (∀ c, 0 ≤ c → c < n → okC (g c) ∧ g c 2 < sn ∧ g c 3 + g c 4 ≤ S (g c 2) 1) ∧ (∀ i j, 0 ≤ i → i < j → j < n → bfr_ (g i) (g j)) ∧ (H.length ≤ 12) ∧ (∀ p ∈ H, in_ 0 600 p.1 ∧ in_ 0 100 p.2) ∧ (H.Pairwise (fun p q => p.1 < q.1))
theorem vp_.hE {E : Nat → Int} {T : Tb} {sn : Int} {S : Tb} {n : Int} {g : Tb} {H : Hl} (h : vp_ E T sn S n g H) : ok_E E := h.1
theorem vp_.hT {E : Nat → Int} {T : Tb} {sn : Int} {S : Tb} {n : Int} {g : Tb} {H : Hl} (h : vp_ E T sn S n g H) : ok_K T := h.2.1
theorem vp_.hS {E : Nat → Int} {T : Tb} {sn : Int} {S : Tb} {n : Int} {g : Tb} {H : Hl} (h : vp_ E T sn S n g H) : ok_S S sn := h.2.2.1
theorem vp_.hS2 {E : Nat → Int} {T : Tb} {sn : Int} {S : Tb} {n : Int} {g : Tb} {H : Hl} (h : vp_ E T sn S n g H) : ok_S2 S sn := h.2.2.2.1
theorem vp_.hn {E : Nat → Int} {T : Tb} {sn : Int} {S : Tb} {n : Int} {g : Tb} {H : Hl} (h : vp_ E T sn S n g H) : in_ 0 25 n := h.2.2.2.2.1
theorem vp_.hc {E : Nat → Int} {T : Tb} {sn : Int} {S : Tb} {n : Int} {g : Tb} {H : Hl} (h : vp_ E T sn S n g H) : ∀ c, 0 ≤ c → c < n → okC (g c) ∧ g c 2 < sn ∧ g c 3 + g c 4 ≤ S (g c 2) 1 := h.2.2.2.2.2.1
theorem vp_.hs {E : Nat → Int} {T : Tb} {sn : Int} {S : Tb} {n : Int} {g : Tb} {H : Hl} (h : vp_ E T sn S n g H) : ∀ i j, 0 ≤ i → i < j → j < n → bfr_ (g i) (g j) := h.2.2.2.2.2.2.1
theorem vp_.hl {E : Nat → Int} {T : Tb} {sn : Int} {S : Tb} {n : Int} {g : Tb} {H : Hl} (h : vp_ E T sn S n g H) : H.length ≤ 12 := h.2.2.2.2.2.2.2.1
theorem vp_.hh {E : Nat → Int} {T : Tb} {sn : Int} {S : Tb} {n : Int} {g : Tb} {H : Hl} (h : vp_ E T sn S n g H) : ∀ p ∈ H, in_ 0 600 p.1 ∧ in_ 0 100 p.2 := h.2.2.2.2.2.2.2.2.1
theorem vp_.hr {E : Nat → Int} {T : Tb} {sn : Int} {S : Tb} {n : Int} {g : Tb} {H : Hl} (h : vp_ E T sn S n g H) : H.Pairwise (fun p q => p.1 < q.1) := h.2.2.2.2.2.2.2.2.2
abbrev vC (μ : am_M) : Prop := vp_ (μ 2) (tg (μ 3) 7) (μ 1 5) (tg (μ 4) 4) (μ 5 1) (cg μ) (hC μ)
theorem vp_.okT {E : Nat → Int} {T : Tb} {sn : Int} {S : Tb} {n : Int} {g : Tb} {H : Hl} (h : vp_ E T sn S n g H) : ok_T g n := by
  have hn := h.hn
  refine ⟨(by (try unfold am_in); (try unfold in_ at *); omega), fun i h0 h1 => ?_⟩
  exact (h.hc i h0 h1).1.R
def cv1_ (S g : Tb) (c k : Int) : Int := wav_ S (g c 2) (g c 3 + k) * g c 5 / 100
def cv2_ (sh : Int) (S g : Tb) (c k : Int) : Int := if k < g c 6 then fd_ sh (cv1_ S g c k) (k + 1) (g c 6 + 1) else cv1_ S g c k
def cv3_ (sh : Int) (S g : Tb) (c k : Int) : Int := if g c 7 < g c 4 - k then cv2_ sh S g c k else fd_ sh (cv2_ sh S g c k) (g c 4 - k) (g c 7 + 1)
/-- the value of a clip at its frame -/
def cv_ (sh : Int) (S g : Tb) (c k : Int) : Int := if 999 < cv3_ sh S g c k then 999 else cv3_ sh S g c k
theorem cv1_b {E : Nat → Int} {T : Tb} {sn : Int} {S : Tb} {n : Int} {g : Tb} {H : Hl} (h : vp_ E T sn S n g H) {c k : Int} (hc : 0 ≤ c ∧ c < n) (hk : 0 ≤ k ∧ k < g c 4) : (0 ≤ wav_ S (g c 2) (g c 3 + k) * g c 5 ∧ wav_ S (g c 2) (g c 3 + k) * g c 5 ≤ 199800) ∧ 0 ≤ cv1_ S g c k ∧ cv1_ S g c k ≤ 1998 := by
  obtain ⟨o, l1, l2⟩ := h.hc c hc.1 hc.2
  unfold okC at o
  have w := wav_b (S := S) (n := sn) (s := g c 2) (i := g c 3 + k) h.hS h.hS2 ⟨by ((try unfold am_in); (try unfold in_ at *); omega), l1⟩ (by ((try unfold am_in); (try unfold in_ at *); omega)) (by omega)
  unfold in_ at *
  have m := mulb (x := wav_ S (g c 2) (g c 3 + k)) (y := g c 5) (A := 999) (B := 200) (by omega) (by omega) (by omega) (by omega)
  unfold cv1_
  omega
theorem cv2_b {E : Nat → Int} {T : Tb} {sn : Int} {S : Tb} {n : Int} {g : Tb} {H : Hl} (h : vp_ E T sn S n g H) {c k : Int} (hc : 0 ≤ c ∧ c < n) (hk : 0 ≤ k ∧ k < g c 4) (sh : Int) : 0 ≤ cv2_ sh S g c k ∧ cv2_ sh S g c k ≤ 1998 := by
  have b := (cv1_b h hc hk).2
  unfold cv2_
  split
  · have := fd_b (sh := sh) (p := k + 1) (q := g c 6 + 1) b.1 (by omega) (by omega)
    omega
  · exact b
theorem cv3_b {E : Nat → Int} {T : Tb} {sn : Int} {S : Tb} {n : Int} {g : Tb} {H : Hl} (h : vp_ E T sn S n g H) {c k : Int} (hc : 0 ≤ c ∧ c < n) (hk : 0 ≤ k ∧ k < g c 4) (sh : Int) : 0 ≤ cv3_ sh S g c k ∧ cv3_ sh S g c k ≤ 1998 := by
  have b := cv2_b h hc hk sh
  unfold cv3_
  split
  · exact b
  · have := fd_b (sh := sh) (p := g c 4 - k) (q := g c 7 + 1) b.1 (by omega) (by omega)
    omega
theorem cv_b {E : Nat → Int} {T : Tb} {sn : Int} {S : Tb} {n : Int} {g : Tb} {H : Hl} (h : vp_ E T sn S n g H) {c k : Int} (hc : 0 ≤ c ∧ c < n) (hk : 0 ≤ k ∧ k < g c 4) (sh : Int) : in_ 0 1000 (cv_ sh S g c k) := by
  have b := cv3_b h hc hk sh
  unfold cv_ in_
  split <;> omega
theorem vc_X7_clipValue_0 {x1 x2 : Int} {μ : am_M} {Q : Int → am_M → Prop} (h : (in_ 0 32 x1) ∧ (in_ 0 8 2) ∧ ((in_ 0 32 x1) ∧ (in_ 0 8 3) ∧ ((am_in (cg μ x1 3 + x2)) ∧ ((in_ 0 6 (cg μ x1 2)) ∧ (in_ 0 200 (cg μ x1 3 + x2)) ∧ (∀ v1 : Int, v1 = μ (131 + ((cg μ x1 2)).toNat) ((cg μ x1 3 + x2)).toNat → (in_ 0 32 x1) ∧ (in_ 0 8 5) ∧ ((am_in (v1 * (cg μ x1 5))) ∧ ((0 ≤ v1 * (cg μ x1 5)) ∧ ((in_ 0 32 x1) ∧ (in_ 0 8 6) ∧ (((x2 < cg μ x1 6 → (am_in (x2 + 1)) ∧ ((am_in (cg μ x1 6 + 1)) ∧ ((ok_E (μ 2)) ∧ (in_ 0 2000 ((v1 * (cg μ x1 5)) / 100)) ∧ (in_ 1 602 (x2 + 1)) ∧ (in_ 1 602 (cg μ x1 6 + 1)))))) ∧ (∀ v2 : Int, v2 = (if x2 < cg μ x1 6 then fd_ (μ 2 4) ((v1 * (cg μ x1 5)) / 100) (x2 + 1) (cg μ x1 6 + 1) else (v1 * (cg μ x1 5)) / 100) → (in_ 0 32 x1) ∧ (in_ 0 8 4) ∧ ((am_in (cg μ x1 4 - x2)) ∧ ((in_ 0 32 x1) ∧ (in_ 0 8 7) ∧ (((cg μ x1 4 - x2 ≤ cg μ x1 7 → (am_in (cg μ x1 7 + 1)) ∧ ((ok_E (μ 2)) ∧ (in_ 0 2000 v2) ∧ (in_ 1 602 (cg μ x1 4 - x2)) ∧ (in_ 1 602 (cg μ x1 7 + 1))))) ∧ (∀ v3 : Int, v3 = (if cg μ x1 7 < cg μ x1 4 - x2 then v2 else fd_ (μ 2 4) v2 (cg μ x1 4 - x2) (cg μ x1 7 + 1)) → Q (if 999 < v3 then 999 else v3) μ)))))))))))))) : at_I kC 2 mX7_clipValue 0 [vR 129, vI x1, vI x2, vU, vU, vU, vU, vU] [] μ Q := by
  refine s_aload_n dX7_clipValue_0 rfl rfl ?_
  refine s_getR dX7_clipValue_1 flX7_30 kn129 kk129 rfl kr129_0 ?_
  refine s_getR dX7_clipValue_4 flX7_76 kn1 kk1 rfl kr1_3 ?_
  refine s_astore_n dX7_clipValue_7 rfl (by decide) (L' := [vR 129, vI x1, vI x2, vR 5, vU, vU, vU, vU]) rfl ?_
  refine s_aload_n dX7_clipValue_8 rfl rfl ?_
  refine s_aload_n dX7_clipValue_9 rfl rfl ?_
  refine s_iload_n dX7_clipValue_10 rfl rfl ?_
  refine s_iconst dX7_clipValue_11 (by decide) ?_
  obtain ⟨p0, p1, h⟩ := h
  refine s_callV (As := [vI x1, vI 2]) (rest := [vR 129]) (k := 5) dX7_clipValue_12 lkX7_85 kn5 ⟨by rw [kk5]; rfl, by rw [kk5]; decide⟩ lmX1_get rfl rfl (Nat.le_of_ble_eq_true rfl) (by decide) (Nat.le_refl 0) (Nat.le_refl 0) (hC := sp_X1_get (Q := fun z m => cg μ x1 2 = z ∧ μ = m) p0 p1 ⟨rfl, rfl⟩) (fun r n2 S2 m2 hP => ?_)
  obtain ⟨⟨rfl, rfl⟩, z, rfl, rfl, rfl⟩ := hP
  refine s_aload_n dX7_clipValue_15 rfl rfl ?_
  refine s_iload_n dX7_clipValue_16 rfl rfl ?_
  refine s_iconst dX7_clipValue_17 (by decide) ?_
  obtain ⟨p0, p1, h⟩ := h
  refine s_callV (As := [vI x1, vI 3]) (rest := [vI (cg μ x1 2), vR 129]) (k := 5) dX7_clipValue_18 lkX7_85 kn5 ⟨by rw [kk5]; rfl, by rw [kk5]; decide⟩ lmX1_get rfl rfl (Nat.le_of_ble_eq_true rfl) (by decide) (Nat.le_refl 0) (Nat.le_refl 0) (hC := sp_X1_get (Q := fun z m => cg μ x1 3 = z ∧ μ = m) p0 p1 ⟨rfl, rfl⟩) (fun r n2 S2 m2 hP => ?_)
  obtain ⟨⟨rfl, rfl⟩, z, rfl, rfl, rfl⟩ := hP
  refine s_iload_n dX7_clipValue_21 rfl rfl ?_
  obtain ⟨c, h⟩ := h
  refine s_iadd dX7_clipValue_22 (am_w_id c) ?_
  obtain ⟨p0, p1, h⟩ := h
  refine s_callV (As := [vI (cg μ x1 2), vI (cg μ x1 3 + x2)]) (rest := []) (k := 129) dX7_clipValue_23 lkX7_100 kn129 ⟨by rw [kk129]; rfl, by rw [kk129]; decide⟩ lmX7_sourceAt rfl rfl (Nat.le_of_ble_eq_true rfl) (by decide) (Nat.le_refl 0) (Nat.le_refl 0) (hC := sp_X7_sourceAt (Q := fun z m => z = μ (131 + ((cg μ x1 2)).toNat) ((cg μ x1 3 + x2)).toNat ∧ μ = m) p0 p1 ⟨rfl, rfl⟩) (fun r n2 S2 m2 hP => ?_)
  obtain ⟨⟨rfl, rfl⟩, v1, rfl, hz, rfl⟩ := hP
  have h := h v1 hz
  refine s_istore dX7_clipValue_26 (by decide) (L' := [vR 129, vI x1, vI x2, vR 5, vI v1, vU, vU, vU]) rfl ?_
  refine s_iload dX7_clipValue_28 rfl ?_
  refine s_aload_n dX7_clipValue_30 rfl rfl ?_
  refine s_iload_n dX7_clipValue_31 rfl rfl ?_
  refine s_iconst dX7_clipValue_32 (by decide) ?_
  obtain ⟨p0, p1, h⟩ := h
  refine s_callV (As := [vI x1, vI 5]) (rest := [vI v1]) (k := 5) dX7_clipValue_33 lkX7_85 kn5 ⟨by rw [kk5]; rfl, by rw [kk5]; decide⟩ lmX1_get rfl rfl (Nat.le_of_ble_eq_true rfl) (by decide) (Nat.le_refl 0) (Nat.le_refl 0) (hC := sp_X1_get (Q := fun z m => cg μ x1 5 = z ∧ μ = m) p0 p1 ⟨rfl, rfl⟩) (fun r n2 S2 m2 hP => ?_)
  obtain ⟨⟨rfl, rfl⟩, z, rfl, rfl, rfl⟩ := hP
  obtain ⟨c, h⟩ := h
  refine s_imul dX7_clipValue_36 (am_w_id c) ?_
  refine s_bipush dX7_clipValue_37 (by decide) ?_
  obtain ⟨c, h⟩ := h
  refine s_idivp dX7_clipValue_39 c (by decide) rfl ?_
  refine s_istore dX7_clipValue_40 (by decide) (L' := [vR 129, vI x1, vI x2, vR 5, vI ((v1 * (cg μ x1 5)) / 100), vU, vU, vU]) rfl ?_
  refine s_aload_n dX7_clipValue_42 rfl rfl ?_
  refine s_iload_n dX7_clipValue_43 rfl rfl ?_
  refine s_bipush dX7_clipValue_44 (by decide) ?_
  obtain ⟨p0, p1, h⟩ := h
  refine s_callV (As := [vI x1, vI 6]) (rest := []) (k := 5) dX7_clipValue_46 lkX7_85 kn5 ⟨by rw [kk5]; rfl, by rw [kk5]; decide⟩ lmX1_get rfl rfl (Nat.le_of_ble_eq_true rfl) (by decide) (Nat.le_refl 0) (Nat.le_refl 0) (hC := sp_X1_get (Q := fun z m => cg μ x1 6 = z ∧ μ = m) p0 p1 ⟨rfl, rfl⟩) (fun r n2 S2 m2 hP => ?_)
  obtain ⟨⟨rfl, rfl⟩, z, rfl, rfl, rfl⟩ := hP
  refine s_istore dX7_clipValue_49 (by decide) (L' := [vR 129, vI x1, vI x2, vR 5, vI ((v1 * (cg μ x1 5)) / 100), vI (cg μ x1 6), vU, vU]) rfl ?_
  refine s_iload_n dX7_clipValue_51 rfl rfl ?_
  refine s_iload dX7_clipValue_52 rfl ?_
  obtain ⟨hsd, h⟩ := h
  have kj5 : ∀ (v2 : Int), ((in_ 0 32 x1) ∧ (in_ 0 8 4) ∧ ((am_in (cg μ x1 4 - x2)) ∧ ((in_ 0 32 x1) ∧ (in_ 0 8 7) ∧ (((cg μ x1 4 - x2 ≤ cg μ x1 7 → (am_in (cg μ x1 7 + 1)) ∧ ((ok_E (μ 2)) ∧ (in_ 0 2000 v2) ∧ (in_ 1 602 (cg μ x1 4 - x2)) ∧ (in_ 1 602 (cg μ x1 7 + 1))))) ∧ (∀ v3 : Int, v3 = (if cg μ x1 7 < cg μ x1 4 - x2 then v2 else fd_ (μ 2 4) v2 (cg μ x1 4 - x2) (cg μ x1 7 + 1)) → Q (if 999 < v3 then 999 else v3) μ))))) → at_I kC 2 mX7_clipValue 72 [vR 129, vI x1, vI x2, vR 5, vI v2, vU, vU, vU] [] μ Q := by
    intro v2 h
    refine s_aload_n dX7_clipValue_72 rfl rfl ?_
    refine s_iload_n dX7_clipValue_73 rfl rfl ?_
    refine s_iconst dX7_clipValue_74 (by decide) ?_
    obtain ⟨p0, p1, h⟩ := h
    refine s_callV (As := [vI x1, vI 4]) (rest := []) (k := 5) dX7_clipValue_75 lkX7_85 kn5 ⟨by rw [kk5]; rfl, by rw [kk5]; decide⟩ lmX1_get rfl rfl (Nat.le_of_ble_eq_true rfl) (by decide) (Nat.le_refl 0) (Nat.le_refl 0) (hC := sp_X1_get (Q := fun z m => cg μ x1 4 = z ∧ μ = m) p0 p1 ⟨rfl, rfl⟩) (fun r n2 S2 m2 hP => ?_)
    obtain ⟨⟨rfl, rfl⟩, z, rfl, rfl, rfl⟩ := hP
    refine s_iload_n dX7_clipValue_78 rfl rfl ?_
    obtain ⟨c, h⟩ := h
    refine s_isub dX7_clipValue_79 (am_w_id c) ?_
    refine s_istore dX7_clipValue_80 (by decide) (L' := [vR 129, vI x1, vI x2, vR 5, vI v2, vU, vI (cg μ x1 4 - x2), vU]) rfl ?_
    refine s_aload_n dX7_clipValue_82 rfl rfl ?_
    refine s_iload_n dX7_clipValue_83 rfl rfl ?_
    refine s_bipush dX7_clipValue_84 (by decide) ?_
    obtain ⟨p0, p1, h⟩ := h
    refine s_callV (As := [vI x1, vI 7]) (rest := []) (k := 5) dX7_clipValue_86 lkX7_85 kn5 ⟨by rw [kk5]; rfl, by rw [kk5]; decide⟩ lmX1_get rfl rfl (Nat.le_of_ble_eq_true rfl) (by decide) (Nat.le_refl 0) (Nat.le_refl 0) (hC := sp_X1_get (Q := fun z m => cg μ x1 7 = z ∧ μ = m) p0 p1 ⟨rfl, rfl⟩) (fun r n2 S2 m2 hP => ?_)
    obtain ⟨⟨rfl, rfl⟩, z, rfl, rfl, rfl⟩ := hP
    refine s_istore dX7_clipValue_89 (by decide) (L' := [vR 129, vI x1, vI x2, vR 5, vI v2, vU, vI (cg μ x1 4 - x2), vI (cg μ x1 7)]) rfl ?_
    refine s_iload dX7_clipValue_91 rfl ?_
    refine s_iload dX7_clipValue_93 rfl ?_
    obtain ⟨hsd, h⟩ := h
    have kj4 : ∀ (v3 : Int), (Q (if 999 < v3 then 999 else v3) μ) → at_I kC 2 mX7_clipValue 112 [vU, vU, vU, vU, vI v3, vU, vU, vU] [] μ Q := by
      intro v3 h
      refine s_iload dX7_clipValue_112 rfl ?_
      refine s_sipush dX7_clipValue_114 (by decide) ?_
      refine s_min dX7_clipValue_117 wmX7_67 (Nat.le_of_ble_eq_true rfl) (by decide) rfl ?_
      exact s_ireturn dX7_clipValue_120 (Or.inl rfl) ⟨⟨rfl, rfl⟩, _, rfl, h⟩
    refine s_icmp_gt dX7_clipValue_95 (tgt := 112) (by decide) (fun cc => ?_) (fun cc => ?_)
    · have hp0 := cc
      exact am_lesS (kj4 v2 (h v2 (by rw [if_pos hp0]))) ⟨Or.inl rfl, Or.inl rfl, Or.inl rfl, Or.inl rfl, Or.inr rfl, Or.inl rfl, Or.inl rfl, Or.inl rfl, trivial⟩
    · have hp0 := cc
      have hsd := hsd hp0
      refine s_aload_n dX7_clipValue_98 rfl rfl ?_
      refine s_iload dX7_clipValue_99 rfl ?_
      refine s_iload dX7_clipValue_101 rfl ?_
      refine s_iload dX7_clipValue_103 rfl ?_
      refine s_iconst dX7_clipValue_105 (by decide) ?_
      obtain ⟨c, hsd⟩ := hsd
      refine s_iadd dX7_clipValue_106 (am_w_id c) ?_
      obtain ⟨p0, p1, p2, p3⟩ := hsd
      refine s_callV (As := [vI v2, vI (cg μ x1 4 - x2), vI (cg μ x1 7 + 1)]) (rest := []) (k := 129) dX7_clipValue_107 lkX7_103 kn129 ⟨by rw [kk129]; rfl, by rw [kk129]; decide⟩ lmX7_faded rfl rfl (Nat.le_of_ble_eq_true rfl) (by decide) (Nat.le_refl 0) (Nat.le_refl 0) (hC := sp_X7_faded (Q := fun z m => fd_ (μ 2 4) v2 (cg μ x1 4 - x2) (cg μ x1 7 + 1) = z ∧ μ = m) p0 p1 p2 p3 ⟨rfl, rfl⟩) (fun r n2 S2 m2 hP => ?_)
      obtain ⟨⟨rfl, rfl⟩, z, rfl, rfl, rfl⟩ := hP
      refine s_istore dX7_clipValue_110 (by decide) (L' := [vR 129, vI x1, vI x2, vR 5, vI (fd_ (μ 2 4) v2 (cg μ x1 4 - x2) (cg μ x1 7 + 1)), vU, vI (cg μ x1 4 - x2), vI (cg μ x1 7)]) rfl ?_
      exact am_lesS (kj4 (fd_ (μ 2 4) v2 (cg μ x1 4 - x2) (cg μ x1 7 + 1)) (h (fd_ (μ 2 4) v2 (cg μ x1 4 - x2) (cg μ x1 7 + 1)) (by rw [if_neg (Int.not_lt.mpr hp0)]))) ⟨Or.inl rfl, Or.inl rfl, Or.inl rfl, Or.inl rfl, Or.inr rfl, Or.inl rfl, Or.inl rfl, Or.inl rfl, trivial⟩
  refine s_icmp_ge dX7_clipValue_54 (tgt := 72) (by decide) (fun cc => ?_) (fun cc => ?_)
  · have hp0 := cc
    exact am_lesS (kj5 ((v1 * (cg μ x1 5)) / 100) (h ((v1 * (cg μ x1 5)) / 100) (by rw [if_neg (Int.not_lt.mpr hp0)]))) ⟨Or.inr rfl, Or.inr rfl, Or.inr rfl, Or.inr rfl, Or.inr rfl, Or.inl rfl, Or.inl rfl, Or.inl rfl, trivial⟩
  · have hp0 := cc
    have hsd := hsd hp0
    refine s_aload_n dX7_clipValue_57 rfl rfl ?_
    refine s_iload dX7_clipValue_58 rfl ?_
    refine s_iload_n dX7_clipValue_60 rfl rfl ?_
    refine s_iconst dX7_clipValue_61 (by decide) ?_
    obtain ⟨c, hsd⟩ := hsd
    refine s_iadd dX7_clipValue_62 (am_w_id c) ?_
    refine s_iload dX7_clipValue_63 rfl ?_
    refine s_iconst dX7_clipValue_65 (by decide) ?_
    obtain ⟨c, hsd⟩ := hsd
    refine s_iadd dX7_clipValue_66 (am_w_id c) ?_
    obtain ⟨p0, p1, p2, p3⟩ := hsd
    refine s_callV (As := [vI ((v1 * (cg μ x1 5)) / 100), vI (x2 + 1), vI (cg μ x1 6 + 1)]) (rest := []) (k := 129) dX7_clipValue_67 lkX7_103 kn129 ⟨by rw [kk129]; rfl, by rw [kk129]; decide⟩ lmX7_faded rfl rfl (Nat.le_of_ble_eq_true rfl) (by decide) (Nat.le_refl 0) (Nat.le_refl 0) (hC := sp_X7_faded (Q := fun z m => fd_ (μ 2 4) ((v1 * (cg μ x1 5)) / 100) (x2 + 1) (cg μ x1 6 + 1) = z ∧ μ = m) p0 p1 p2 p3 ⟨rfl, rfl⟩) (fun r n2 S2 m2 hP => ?_)
    obtain ⟨⟨rfl, rfl⟩, z, rfl, rfl, rfl⟩ := hP
    refine s_istore dX7_clipValue_70 (by decide) (L' := [vR 129, vI x1, vI x2, vR 5, vI (fd_ (μ 2 4) ((v1 * (cg μ x1 5)) / 100) (x2 + 1) (cg μ x1 6 + 1)), vI (cg μ x1 6), vU, vU]) rfl ?_
    exact am_lesS (kj5 (fd_ (μ 2 4) ((v1 * (cg μ x1 5)) / 100) (x2 + 1) (cg μ x1 6 + 1)) (h (fd_ (μ 2 4) ((v1 * (cg μ x1 5)) / 100) (x2 + 1) (cg μ x1 6 + 1)) (by rw [if_pos hp0]))) ⟨Or.inr rfl, Or.inr rfl, Or.inr rfl, Or.inr rfl, Or.inr rfl, Or.inl rfl, Or.inl rfl, Or.inl rfl, trivial⟩
theorem ve_X7_clipValue {x1 x2 : Int} {μ : am_M} {Q : Int → am_M → Prop} (h : at_I kC 2 mX7_clipValue 0 [vR 129, vI x1, vI x2, vU, vU, vU, vU, vU] [] μ Q) : cl_I kC 2 mX7_clipValue [vR 129, vI x1, vI x2] μ Q := am_intro pmX7_clipValue (Nat.le_of_ble_eq_true rfl) rfl h
theorem sp_X7_clipValue {μ : am_M} {c k : Int} {Q : Int → am_M → Prop} (hV : vC μ) (hv : sv_ μ) (hc : 0 ≤ c ∧ c < μ 5 1) (hk : 0 ≤ k ∧ k < cg μ c 4) (hQ : Q (cv_ (μ 2 4) (tg (μ 4) 4) (cg μ) c k) μ) : cl_I kC 2 mX7_clipValue [vR 129, vI c, vI k] μ Q := by
  obtain ⟨o, l1, l2⟩ := hV.hc c hc.1 hc.2
  have hn := hV.hn
  have hE := hV.hE
  have b1 := cv1_b hV hc hk
  have b2 := cv2_b hV hc hk (μ 2 4)
  have ev := hv (cg μ c 2) (by unfold okC in_ at o; omega) l1 (cg μ c 3 + k) (by unfold okC in_ at o; omega) (by omega)
  unfold okC at o
  refine ve_X7_clipValue (vc_X7_clipValue_0 ⟨(by (try unfold am_in); (try unfold in_ at *); omega), (by (try unfold am_in); (try unfold in_ at *); omega), (by (try unfold am_in); (try unfold in_ at *); omega), (by (try unfold am_in); (try unfold in_ at *); omega), (by (try unfold am_in); (try unfold in_ at *); omega), (by (try unfold am_in); (try unfold in_ at *); omega), (by (try unfold am_in); (try unfold in_ at *); omega), fun v1 e1 => ?_⟩)
  rw [ev] at e1
  have e1' : v1 * cg μ c 5 / 100 = cv1_ (tg (μ 4) 4) (cg μ) c k := by rw [e1]; rfl
  have e1'' : v1 * cg μ c 5 = wav_ (tg (μ 4) 4) (cg μ c 2) (cg μ c 3 + k) * cg μ c 5 := by rw [e1]
  rw [e1', e1'']
  refine ⟨(by (try unfold am_in); (try unfold in_ at *); omega), (by (try unfold am_in); (try unfold in_ at *); omega), (by (try unfold am_in); (try unfold in_ at *); omega), by omega, (by (try unfold am_in); (try unfold in_ at *); omega), (by (try unfold am_in); (try unfold in_ at *); omega), fun q => ⟨(by (try unfold am_in); (try unfold in_ at *); omega), (by (try unfold am_in); (try unfold in_ at *); omega), hE, (by (try unfold am_in); (try unfold in_ at *); omega), (by (try unfold am_in); (try unfold in_ at *); omega), (by (try unfold am_in); (try unfold in_ at *); omega)⟩, fun v2 e2 => ?_⟩
  have e2' : v2 = cv2_ (μ 2 4) (tg (μ 4) 4) (cg μ) c k := by rw [e2]; rfl
  rw [e2']
  refine ⟨(by (try unfold am_in); (try unfold in_ at *); omega), (by (try unfold am_in); (try unfold in_ at *); omega), (by (try unfold am_in); (try unfold in_ at *); omega), (by (try unfold am_in); (try unfold in_ at *); omega), (by (try unfold am_in); (try unfold in_ at *); omega), fun q => ⟨(by (try unfold am_in); (try unfold in_ at *); omega), hE, (by (try unfold am_in); (try unfold in_ at *); omega), (by (try unfold am_in); (try unfold in_ at *); omega), (by (try unfold am_in); (try unfold in_ at *); omega)⟩, fun v3 e3 => ?_⟩
  have e3' : v3 = cv3_ (μ 2 4) (tg (μ 4) 4) (cg μ) c k := by rw [e3]; rfl
  rw [e3']
  exact hQ
/-- the greatest of n values, but at least 0; their sum -/
def mx_ (f : Int → Int) (n : Int) : Int := fI (fun a i => if a < f i then f i else a) 0 n
def sm_ (f : Int → Int) (n : Int) : Int := fI (fun a i => a + f i) 0 n
theorem sm_b {f : Int → Int} {n B : Int} (hn : 0 ≤ n) (hB : 0 ≤ B) (h : ∀ i, 0 ≤ i → i < n → 0 ≤ f i ∧ f i ≤ B) : 0 ≤ sm_ f n ∧ sm_ f n ≤ n * B := by
  refine fI_i (fun a i => 0 ≤ a ∧ a ≤ i * B) (by omega) hn (fun i b h0 h1 ⟨q0, q1⟩ => ?_)
  have := h i h0 h1
  rw [Int.add_mul]
  omega
theorem vc_X7_greatestOfSource_0 {x1 : Int} {μ : am_M} {Q : Int → am_M → Prop} (h : at_I kC 3 mX7_greatestOfSource 4 [vR 129, vI x1, vI 0, vI 0] [] μ Q) : at_I kC 3 mX7_greatestOfSource 0 [vR 129, vI x1, vU, vU] [] μ Q := by
  refine s_iconst dX7_greatestOfSource_0 (by decide) ?_
  refine s_istore_n dX7_greatestOfSource_1 rfl (by decide) (L' := [vR 129, vI x1, vI 0, vU]) rfl ?_
  refine s_iconst dX7_greatestOfSource_2 (by decide) ?_
  refine s_istore_n dX7_greatestOfSource_3 rfl (by decide) (L' := [vR 129, vI x1, vI 0, vI 0]) rfl ?_
  exact h
theorem vc_X7_greatestOfSource_4 {x1 x2 x3 : Int} {μ : am_M} {Q : Int → am_M → Prop} (h : (in_ 0 6 x1) ∧ (in_ 0 4 1) ∧ ((tg (μ 4) 4 x1 1 ≤ x3 → Q x2 μ) ∧ (x3 < tg (μ 4) 4 x1 1 → (in_ 0 6 x1) ∧ (in_ 0 200 x3) ∧ (∀ v1 : Int, v1 = μ (131 + (x1).toNat) (x3).toNat → (am_in (x3 + 1)) ∧ (at_I kC 3 mX7_greatestOfSource 4 [vR 129, vI x1, vI (if x2 < v1 then v1 else x2), vI (x3 + 1)] [] μ Q))))) : at_I kC 3 mX7_greatestOfSource 4 [vR 129, vI x1, vI x2, vI x3] [] μ Q := by
  refine s_iload_n dX7_greatestOfSource_4 rfl rfl ?_
  refine s_aload_n dX7_greatestOfSource_5 rfl rfl ?_
  refine s_getR dX7_greatestOfSource_6 flX7_30 kn129 kk129 rfl kr129_0 ?_
  refine s_iload_n dX7_greatestOfSource_9 rfl rfl ?_
  refine s_iconst dX7_greatestOfSource_10 (by decide) ?_
  obtain ⟨p0, p1, h⟩ := h
  refine s_callV (As := [vI x1, vI 1]) (rest := [vI x3]) (k := 1) dX7_greatestOfSource_11 lkX7_63 kn1 ⟨by rw [kk1]; rfl, by rw [kk1]; decide⟩ lmX4_sourceNumber rfl rfl (Nat.le_of_ble_eq_true rfl) (by decide) (Nat.le_refl 0) (Nat.le_refl 0) (hC := sp_X4_sourceNumber (Q := fun z m => tg (μ 4) 4 x1 1 = z ∧ μ = m) p0 p1 ⟨rfl, rfl⟩) (fun r n2 S2 m2 hP => ?_)
  obtain ⟨⟨rfl, rfl⟩, z, rfl, rfl, rfl⟩ := hP
  refine s_icmp_ge dX7_greatestOfSource_14 (tgt := 34) (by decide) (fun cc => ?_) (fun cc => ?_)
  · have h := h.1 cc
    refine s_iload_n dX7_greatestOfSource_34 rfl rfl ?_
    exact s_ireturn dX7_greatestOfSource_35 (Or.inl rfl) ⟨⟨rfl, rfl⟩, _, rfl, h⟩
  · have h := h.2 cc
    refine s_iload_n dX7_greatestOfSource_17 rfl rfl ?_
    refine s_aload_n dX7_greatestOfSource_18 rfl rfl ?_
    refine s_iload_n dX7_greatestOfSource_19 rfl rfl ?_
    refine s_iload_n dX7_greatestOfSource_20 rfl rfl ?_
    obtain ⟨p0, p1, h⟩ := h
    refine s_callV (As := [vI x1, vI x3]) (rest := [vI x2]) (k := 129) dX7_greatestOfSource_21 lkX7_100 kn129 ⟨by rw [kk129]; rfl, by rw [kk129]; decide⟩ lmX7_sourceAt rfl rfl (Nat.le_of_ble_eq_true rfl) (by decide) (Nat.le_refl 0) (Nat.le_refl 0) (hC := sp_X7_sourceAt (Q := fun z m => z = μ (131 + (x1).toNat) (x3).toNat ∧ μ = m) p0 p1 ⟨rfl, rfl⟩) (fun r n2 S2 m2 hP => ?_)
    obtain ⟨⟨rfl, rfl⟩, v1, rfl, hz, rfl⟩ := hP
    have h := h v1 hz
    refine s_max dX7_greatestOfSource_24 wmX7_72 (Nat.le_of_ble_eq_true rfl) (by decide) rfl ?_
    refine s_istore_n dX7_greatestOfSource_27 rfl (by decide) (L' := [vR 129, vI x1, vI (if x2 < v1 then v1 else x2), vI x3]) rfl ?_
    obtain ⟨c, h⟩ := h
    refine s_iinc dX7_greatestOfSource_28 rfl (am_w_id c) (by decide) (L' := [vR 129, vI x1, vI (if x2 < v1 then v1 else x2), vI (x3 + 1)]) rfl ?_
    refine s_goto dX7_greatestOfSource_31 (tgt := 4) (by decide) ?_
    exact h
theorem ve_X7_greatestOfSource {x1 : Int} {μ : am_M} {Q : Int → am_M → Prop} (h : at_I kC 3 mX7_greatestOfSource 0 [vR 129, vI x1, vU, vU] [] μ Q) : cl_I kC 3 mX7_greatestOfSource [vR 129, vI x1] μ Q := am_intro pmX7_greatestOfSource (Nat.le_of_ble_eq_true rfl) rfl h
theorem sp_X7_greatestOfSource {μ : am_M} {s : Int} {Q : Int → am_M → Prop} (hV : vC μ) (hv : sv_ μ) (hs : 0 ≤ s ∧ s < μ 1 5) (hQ : Q (mx_ (wav_ (tg (μ 4) 4) s) (tg (μ 4) 4 s 1)) μ) : cl_I kC 3 mX7_greatestOfSource [vR 129, vI s] μ Q := by
  have h6 := hV.hS.1
  obtain ⟨b0, b1, b2, b3⟩ := hV.hS.2 s hs.1 hs.2
  have : ∀ (j : Nat) (y x : Int), x + j = tg (μ 4) 4 s 1 → 0 ≤ x → y = mx_ (wav_ (tg (μ 4) 4) s) x → at_I kC 3 mX7_greatestOfSource 4 [vR 129, vI s, vI y, vI x] [] μ Q := by
    intro j
    induction j with
    | zero =>
      intro y x h h0 e
      refine vc_X7_greatestOfSource_4 ⟨(by (try unfold am_in); (try unfold in_ at *); omega), (by (try unfold am_in); (try unfold in_ at *); omega), fun _ => ?_, fun q => by omega⟩
      rw [e, show x = tg (μ 4) 4 s 1 by omega]
      exact hQ
    | succ j ih =>
      intro y x h h0 e
      refine vc_X7_greatestOfSource_4 ⟨(by (try unfold am_in); (try unfold in_ at *); omega), (by (try unfold am_in); (try unfold in_ at *); omega), fun q => by omega, fun q => ⟨(by (try unfold am_in); (try unfold in_ at *); omega), (by (try unfold am_in); (try unfold in_ at *); omega), fun v1 e1 => ⟨(by (try unfold am_in); (try unfold in_ at *); omega), ih _ (x + 1) (by omega) (by omega) ?_⟩⟩⟩
      rw [hv s hs.1 hs.2 x h0 q] at e1
      unfold mx_ at e ⊢
      rw [fI_s _ _ h0, ← e, e1]
  exact ve_X7_greatestOfSource (vc_X7_greatestOfSource_0 (this (tg (μ 4) 4 s 1).toNat 0 0 (by ((try unfold am_in); (try unfold in_ at *); omega)) (by omega) rfl))
theorem vc_X7_greatestOfClip_0 {x1 : Int} {μ : am_M} {Q : Int → am_M → Prop} (h : at_I kC 3 mX7_greatestOfClip 4 [vR 129, vI x1, vI 0, vI 0] [] μ Q) : at_I kC 3 mX7_greatestOfClip 0 [vR 129, vI x1, vU, vU] [] μ Q := by
  refine s_iconst dX7_greatestOfClip_0 (by decide) ?_
  refine s_istore_n dX7_greatestOfClip_1 rfl (by decide) (L' := [vR 129, vI x1, vI 0, vU]) rfl ?_
  refine s_iconst dX7_greatestOfClip_2 (by decide) ?_
  refine s_istore_n dX7_greatestOfClip_3 rfl (by decide) (L' := [vR 129, vI x1, vI 0, vI 0]) rfl ?_
  exact h
theorem vc_X7_greatestOfClip_4 {x1 x2 x3 : Int} {μ : am_M} {Q : Int → am_M → Prop} (h : (in_ 0 32 x1) ∧ (in_ 0 8 4) ∧ ((cg μ x1 4 ≤ x3 → Q x2 μ) ∧ (x3 < cg μ x1 4 → ∃ P : Int → am_M → Prop, cl_I kC 2 mX7_clipValue [vR 129, vI x1, vI x3] μ P ∧ (∀ (z1 : Int) (m2 : am_M), P z1 m2 → (am_in (x3 + 1)) ∧ (at_I kC 3 mX7_greatestOfClip 4 [vR 129, vI x1, vI (if x2 < z1 then z1 else x2), vI (x3 + 1)] [] m2 Q))))) : at_I kC 3 mX7_greatestOfClip 4 [vR 129, vI x1, vI x2, vI x3] [] μ Q := by
  refine s_iload_n dX7_greatestOfClip_4 rfl rfl ?_
  refine s_aload_n dX7_greatestOfClip_5 rfl rfl ?_
  refine s_getR dX7_greatestOfClip_6 flX7_30 kn129 kk129 rfl kr129_0 ?_
  refine s_getR dX7_greatestOfClip_9 flX7_76 kn1 kk1 rfl kr1_3 ?_
  refine s_iload_n dX7_greatestOfClip_12 rfl rfl ?_
  refine s_iconst dX7_greatestOfClip_13 (by decide) ?_
  obtain ⟨p0, p1, h⟩ := h
  refine s_callV (As := [vI x1, vI 4]) (rest := [vI x3]) (k := 5) dX7_greatestOfClip_14 lkX7_85 kn5 ⟨by rw [kk5]; rfl, by rw [kk5]; decide⟩ lmX1_get rfl rfl (Nat.le_of_ble_eq_true rfl) (by decide) (Nat.le_refl 0) (Nat.le_refl 0) (hC := sp_X1_get (Q := fun z m => cg μ x1 4 = z ∧ μ = m) p0 p1 ⟨rfl, rfl⟩) (fun r n2 S2 m2 hP => ?_)
  obtain ⟨⟨rfl, rfl⟩, z, rfl, rfl, rfl⟩ := hP
  refine s_icmp_ge dX7_greatestOfClip_17 (tgt := 37) (by decide) (fun cc => ?_) (fun cc => ?_)
  · have h := h.1 cc
    refine s_iload_n dX7_greatestOfClip_37 rfl rfl ?_
    exact s_ireturn dX7_greatestOfClip_38 (Or.inl rfl) ⟨⟨rfl, rfl⟩, _, rfl, h⟩
  · have h := h.2 cc
    refine s_iload_n dX7_greatestOfClip_20 rfl rfl ?_
    refine s_aload_n dX7_greatestOfClip_21 rfl rfl ?_
    refine s_iload_n dX7_greatestOfClip_22 rfl rfl ?_
    refine s_iload_n dX7_greatestOfClip_23 rfl rfl ?_
    obtain ⟨P, hcl, h⟩ := h
    refine s_callV (As := [vI x1, vI x3]) (rest := [vI x2]) (k := 129) dX7_greatestOfClip_24 lkX7_91 kn129 ⟨by rw [kk129]; rfl, by rw [kk129]; decide⟩ lmX7_clipValue rfl rfl (Nat.le_of_ble_eq_true rfl) (by decide) (Nat.le_refl 0) (Nat.le_refl 0) (hC := hcl) (fun r n2 S2 m2 hP => ?_)
    obtain ⟨⟨rfl, rfl⟩, z1, rfl, hq⟩ := hP
    have h := h z1 m2 hq
    refine s_max dX7_greatestOfClip_27 wmX7_72 (Nat.le_of_ble_eq_true rfl) (by decide) rfl ?_
    refine s_istore_n dX7_greatestOfClip_30 rfl (by decide) (L' := [vR 129, vI x1, vI (if x2 < z1 then z1 else x2), vI x3]) rfl ?_
    obtain ⟨c, h⟩ := h
    refine s_iinc dX7_greatestOfClip_31 rfl (am_w_id c) (by decide) (L' := [vR 129, vI x1, vI (if x2 < z1 then z1 else x2), vI (x3 + 1)]) rfl ?_
    refine s_goto dX7_greatestOfClip_34 (tgt := 4) (by decide) ?_
    exact h
theorem ve_X7_greatestOfClip {x1 : Int} {μ : am_M} {Q : Int → am_M → Prop} (h : at_I kC 3 mX7_greatestOfClip 0 [vR 129, vI x1, vU, vU] [] μ Q) : cl_I kC 3 mX7_greatestOfClip [vR 129, vI x1] μ Q := am_intro pmX7_greatestOfClip (Nat.le_of_ble_eq_true rfl) rfl h
theorem sp_X7_greatestOfClip {μ : am_M} {c : Int} {Q : Int → am_M → Prop} (hV : vC μ) (hv : sv_ μ) (hc : 0 ≤ c ∧ c < μ 5 1) (hQ : Q (mx_ (cv_ (μ 2 4) (tg (μ 4) 4) (cg μ) c) (cg μ c 4)) μ) : cl_I kC 3 mX7_greatestOfClip [vR 129, vI c] μ Q := by
  have hn := hV.hn
  have o := (hV.hc c hc.1 hc.2).1
  unfold okC at o
  have : ∀ (j : Nat) (y x : Int), x + j = cg μ c 4 → 0 ≤ x → y = mx_ (cv_ (μ 2 4) (tg (μ 4) 4) (cg μ) c) x → at_I kC 3 mX7_greatestOfClip 4 [vR 129, vI c, vI y, vI x] [] μ Q := by
    intro j
    induction j with
    | zero =>
      intro y x h h0 e
      refine vc_X7_greatestOfClip_4 ⟨(by (try unfold am_in); (try unfold in_ at *); omega), (by (try unfold am_in); (try unfold in_ at *); omega), fun _ => ?_, fun q => by omega⟩
      rw [e, show x = cg μ c 4 by omega]
      exact hQ
    | succ j ih =>
      intro y x h h0 e
      refine vc_X7_greatestOfClip_4 ⟨(by (try unfold am_in); (try unfold in_ at *); omega), (by (try unfold am_in); (try unfold in_ at *); omega), fun q => by omega, fun q => ⟨_, sp_X7_clipValue (Q := fun z m => z = cv_ (μ 2 4) (tg (μ 4) 4) (cg μ) c x ∧ m = μ) hV hv hc ⟨h0, q⟩ ⟨rfl, rfl⟩, ?_⟩⟩
      rintro z m ⟨e1, rfl⟩
      refine ⟨(by (try unfold am_in); (try unfold in_ at *); omega), ih _ (x + 1) (by omega) (by omega) ?_⟩
      unfold mx_ at e ⊢
      rw [fI_s _ _ h0, ← e, e1]
  exact ve_X7_greatestOfClip (vc_X7_greatestOfClip_0 (this (cg μ c 4).toNat 0 0 (by ((try unfold am_in); (try unfold in_ at *); omega)) (by omega) rfl))
theorem vc_X7_sumOfClip_0 {x1 : Int} {μ : am_M} {Q : Int → am_M → Prop} (h : at_I kC 3 mX7_sumOfClip 4 [vR 129, vI x1, vI 0, vI 0] [] μ Q) : at_I kC 3 mX7_sumOfClip 0 [vR 129, vI x1, vU, vU] [] μ Q := by
  refine s_iconst dX7_sumOfClip_0 (by decide) ?_
  refine s_istore_n dX7_sumOfClip_1 rfl (by decide) (L' := [vR 129, vI x1, vI 0, vU]) rfl ?_
  refine s_iconst dX7_sumOfClip_2 (by decide) ?_
  refine s_istore_n dX7_sumOfClip_3 rfl (by decide) (L' := [vR 129, vI x1, vI 0, vI 0]) rfl ?_
  exact h
theorem vc_X7_sumOfClip_4 {x1 x2 x3 : Int} {μ : am_M} {Q : Int → am_M → Prop} (h : (in_ 0 32 x1) ∧ (in_ 0 8 4) ∧ ((cg μ x1 4 ≤ x3 → Q x2 μ) ∧ (x3 < cg μ x1 4 → ∃ P : Int → am_M → Prop, cl_I kC 2 mX7_clipValue [vR 129, vI x1, vI x3] μ P ∧ (∀ (z1 : Int) (m2 : am_M), P z1 m2 → (am_in (x2 + z1)) ∧ ((am_in (x3 + 1)) ∧ (at_I kC 3 mX7_sumOfClip 4 [vR 129, vI x1, vI (x2 + z1), vI (x3 + 1)] [] m2 Q)))))) : at_I kC 3 mX7_sumOfClip 4 [vR 129, vI x1, vI x2, vI x3] [] μ Q := by
  refine s_iload_n dX7_sumOfClip_4 rfl rfl ?_
  refine s_aload_n dX7_sumOfClip_5 rfl rfl ?_
  refine s_getR dX7_sumOfClip_6 flX7_30 kn129 kk129 rfl kr129_0 ?_
  refine s_getR dX7_sumOfClip_9 flX7_76 kn1 kk1 rfl kr1_3 ?_
  refine s_iload_n dX7_sumOfClip_12 rfl rfl ?_
  refine s_iconst dX7_sumOfClip_13 (by decide) ?_
  obtain ⟨p0, p1, h⟩ := h
  refine s_callV (As := [vI x1, vI 4]) (rest := [vI x3]) (k := 5) dX7_sumOfClip_14 lkX7_85 kn5 ⟨by rw [kk5]; rfl, by rw [kk5]; decide⟩ lmX1_get rfl rfl (Nat.le_of_ble_eq_true rfl) (by decide) (Nat.le_refl 0) (Nat.le_refl 0) (hC := sp_X1_get (Q := fun z m => cg μ x1 4 = z ∧ μ = m) p0 p1 ⟨rfl, rfl⟩) (fun r n2 S2 m2 hP => ?_)
  obtain ⟨⟨rfl, rfl⟩, z, rfl, rfl, rfl⟩ := hP
  refine s_icmp_ge dX7_sumOfClip_17 (tgt := 35) (by decide) (fun cc => ?_) (fun cc => ?_)
  · have h := h.1 cc
    refine s_iload_n dX7_sumOfClip_35 rfl rfl ?_
    exact s_ireturn dX7_sumOfClip_36 (Or.inl rfl) ⟨⟨rfl, rfl⟩, _, rfl, h⟩
  · have h := h.2 cc
    refine s_iload_n dX7_sumOfClip_20 rfl rfl ?_
    refine s_aload_n dX7_sumOfClip_21 rfl rfl ?_
    refine s_iload_n dX7_sumOfClip_22 rfl rfl ?_
    refine s_iload_n dX7_sumOfClip_23 rfl rfl ?_
    obtain ⟨P, hcl, h⟩ := h
    refine s_callV (As := [vI x1, vI x3]) (rest := [vI x2]) (k := 129) dX7_sumOfClip_24 lkX7_91 kn129 ⟨by rw [kk129]; rfl, by rw [kk129]; decide⟩ lmX7_clipValue rfl rfl (Nat.le_of_ble_eq_true rfl) (by decide) (Nat.le_refl 0) (Nat.le_refl 0) (hC := hcl) (fun r n2 S2 m2 hP => ?_)
    obtain ⟨⟨rfl, rfl⟩, z1, rfl, hq⟩ := hP
    have h := h z1 m2 hq
    obtain ⟨c, h⟩ := h
    refine s_iadd dX7_sumOfClip_27 (am_w_id c) ?_
    refine s_istore_n dX7_sumOfClip_28 rfl (by decide) (L' := [vR 129, vI x1, vI (x2 + z1), vI x3]) rfl ?_
    obtain ⟨c, h⟩ := h
    refine s_iinc dX7_sumOfClip_29 rfl (am_w_id c) (by decide) (L' := [vR 129, vI x1, vI (x2 + z1), vI (x3 + 1)]) rfl ?_
    refine s_goto dX7_sumOfClip_32 (tgt := 4) (by decide) ?_
    exact h
theorem ve_X7_sumOfClip {x1 : Int} {μ : am_M} {Q : Int → am_M → Prop} (h : at_I kC 3 mX7_sumOfClip 0 [vR 129, vI x1, vU, vU] [] μ Q) : cl_I kC 3 mX7_sumOfClip [vR 129, vI x1] μ Q := am_intro pmX7_sumOfClip (Nat.le_of_ble_eq_true rfl) rfl h
theorem sp_X7_sumOfClip {μ : am_M} {c : Int} {Q : Int → am_M → Prop} (hV : vC μ) (hv : sv_ μ) (hc : 0 ≤ c ∧ c < μ 5 1) (hQ : Q (sm_ (cv_ (μ 2 4) (tg (μ 4) 4) (cg μ) c) (cg μ c 4)) μ) : cl_I kC 3 mX7_sumOfClip [vR 129, vI c] μ Q := by
  have hn := hV.hn
  have o := (hV.hc c hc.1 hc.2).1
  unfold okC at o
  have hb := fun x h0 h1 => cv_b hV hc (k := x) ⟨h0, h1⟩ (μ 2 4)
  have : ∀ (j : Nat) (y x : Int), x + j = cg μ c 4 → 0 ≤ x → y = sm_ (cv_ (μ 2 4) (tg (μ 4) 4) (cg μ) c) x → at_I kC 3 mX7_sumOfClip 4 [vR 129, vI c, vI y, vI x] [] μ Q := by
    intro j
    induction j with
    | zero =>
      intro y x h h0 e
      refine vc_X7_sumOfClip_4 ⟨(by (try unfold am_in); (try unfold in_ at *); omega), (by (try unfold am_in); (try unfold in_ at *); omega), fun _ => ?_, fun q => by omega⟩
      rw [e, show x = cg μ c 4 by omega]
      exact hQ
    | succ j ih =>
      intro y x h h0 e
      have s1 := sm_b (f := cv_ (μ 2 4) (tg (μ 4) 4) (cg μ) c) (n := x) (B := 999) h0 (by omega) (fun i i0 i1 => by have := hb i i0 (by omega); unfold in_ at this; omega)
      have s2 := hb x h0 (by omega)
      refine vc_X7_sumOfClip_4 ⟨(by (try unfold am_in); (try unfold in_ at *); omega), (by (try unfold am_in); (try unfold in_ at *); omega), fun q => by omega, fun q => ⟨_, sp_X7_clipValue (Q := fun z m => z = cv_ (μ 2 4) (tg (μ 4) 4) (cg μ) c x ∧ m = μ) hV hv hc ⟨h0, q⟩ ⟨rfl, rfl⟩, ?_⟩⟩
      rintro z m ⟨e1, rfl⟩
      refine ⟨by rw [e, e1]; ((try unfold am_in); (try unfold in_ at *); omega), (by (try unfold am_in); (try unfold in_ at *); omega), ih _ (x + 1) (by omega) (by omega) ?_⟩
      unfold sm_ at e ⊢
      rw [fI_s _ _ h0, ← e, e1]
  exact ve_X7_sumOfClip (vc_X7_sumOfClip_0 (this (cg μ c 4).toNat 0 0 (by ((try unfold am_in); (try unfold in_ at *); omega)) (by omega) rfl))

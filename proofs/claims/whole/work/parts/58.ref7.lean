/-! the reference's questions -/
/-- v stands as it was; only what is worked out has changed -/
def rq_ (ν m : am_M) : Prop := fr_ (0 :: scR) ν m ∧ ∀ j, j ≠ 20 → j ≠ 24 → j ≠ 25 → m 0 j = ν 0 j
theorem rq_rf {ν : am_M} : rq_ ν ν := ⟨fr_rf, fun _ _ _ _ => rfl⟩
theorem rq_of {ks : List Nat} {ν m : am_M} (h : fr_ ks ν m) (hk : ∀ k ∈ ks, k ∈ scR) : rq_ ν m := ⟨fr_up h (fun k q => List.mem_cons_of_mem _ (hk k q)), fun j _ _ _ => by rw [h 0 (fun q => by have := hk _ q; revert this; decide)]⟩
theorem rq_tr {a b c : am_M} (h : rq_ a b) (g : rq_ b c) : rq_ a c := ⟨fr_tr h.1 g.1, fun j a1 a2 a3 => (g.2 j a1 a2 a3).trans (h.2 j a1 a2 a3)⟩
theorem rq_1 {ν m : am_M} (h : rq_ ν m) : m 1 = ν 1 := h.1 1 (by decide)
theorem rq_P {ν m : am_M} (h : rq_ ν m) : pR m = pR ν := by
  show pA (m 1) = pA (ν 1)
  rw [rq_1 h]
theorem wk_sc : ∀ k ∈ wkL, k ∈ scR := by decide
/-- what was found stands -/
def fo15_ (m : am_M) (L : Sl) : Prop := m 0 20 = L.length ∧ ∀ (i : Nat) (p : Int × Int), L[i]? = some p → m 15 (2 * i) = p.1 ∧ m 15 (2 * i + 1) = p.2
theorem fo15_add {m m6 m7 m8 : am_M} {L : Sl} {a b : Int} (h : fo15_ m L) (e6 : m6 = am_st m 15 (am_up (m 15) (2 * m 0 20).toNat a)) (e7 : m7 = am_st m6 15 (am_up (m6 15) (2 * m 0 20 + 1).toNat b)) (e8 : m8 = am_st m7 0 (am_up (m7 0) 20 (m 0 20 + 1))) : fo15_ m8 (L ++ [(a, b)]) := by
  have h1 := h.1
  have e15 : m8 15 = am_up (am_up (m 15) (2 * m 0 20).toNat a) (2 * m 0 20 + 1).toNat b := by rw [e8, st_n (by decide), e7, st_s, e6, st_s]
  refine ⟨by rw [e8, st_s, up_s, h1]; simp, fun i p hi => ?_⟩
  rw [e15]
  by_cases c : i = L.length
  · subst c
    simp at hi
    subst hi
    rw [up_n (by omega), show (2 * m 0 20).toNat = 2 * L.length by omega, up_s, show (2 * m 0 20 + 1).toNat = 2 * L.length + 1 by omega, up_s]
    exact ⟨rfl, rfl⟩
  · have hl := (List.getElem?_eq_some_iff.mp hi).1
    simp at hl
    rw [List.getElem?_append_left (by omega)] at hi
    rw [up_n (by omega), up_n (by omega), up_n (by omega), up_n (by omega)]
    exact h.2 i p hi
theorem fo15_fr {m m6 m7 m8 : am_M} {i j : Nat} {a b c : Int} (e6 : m6 = am_st m 15 (am_up (m 15) i a)) (e7 : m7 = am_st m6 15 (am_up (m6 15) j b)) (e8 : m8 = am_st m7 0 (am_up (m7 0) 20 c)) : fr_ [0, 15] m m8 ∧ rq_ m m8 := by
  have f : fr_ [0, 15] m m8 := by
    rw [e8, e7, e6]
    exact fr_tr (fr_tr (fr_st (by simp)) (fr_st (by simp))) (fr_st (by simp))
  refine ⟨f, fr_up f (by decide), fun j a b c => ?_⟩
  rw [e8, st_s, up_n a, e7, st_n (by decide), e6, st_n (by decide)]
/-- the row that was kept stands too -/
def rq2_ (ν m : am_M) : Prop := rq_ ν m ∧ m 2 = ν 2
theorem rq2_st {a b c : am_M} (h : rq2_ a b) (g : fr_ [0, 15] b c ∧ rq_ b c) : rq2_ a c := ⟨rq_tr h.1 g.2, (g.1 2 (by decide)).trans h.2⟩
theorem vc_X10_findsHushes_0 {x1 x2 : Int} {μ : am_M} {Q : am_M → Prop} (h : ∃ P : am_M → Prop, cl_V kR 3 mX10_works [vR 0] μ P ∧ (∀ m2 : am_M, P m2 → ∀ m3 : am_M, m3 = am_st m2 0 (am_up (m2 0) 20 0) → (ok_T (rg m3) (m3 1 25)) ∧ (at_V kR 4 mX10_findsHushes 20 [vR 0, vI x1, vI x2, vI 0, vI (la_ (rg m3) (m3 1 25)), vI 0, vU] [] m3 Q))) : at_V kR 4 mX10_findsHushes 0 [vR 0, vI x1, vI x2, vU, vU, vU, vU] [] μ Q := by
  refine s_aload_n dX10_findsHushes_0 rfl rfl ?_
  obtain ⟨P, hcl, h⟩ := h
  refine s_callV (As := []) (rest := []) (k := 0) dX10_findsHushes_1 lkX10_152 rn0 ⟨by rw [rk0]; rfl, by rw [rk0]; decide⟩ lmX10_works rfl rfl (Nat.le_of_ble_eq_true rfl) (by decide) (Nat.le_refl 0) (Nat.le_refl 0) (hC := hcl) (fun r n2 S2 m2 hP => ?_)
  obtain ⟨⟨rfl, rfl⟩, rfl, hq⟩ := hP
  have h := h m2 hq
  refine s_aload_n dX10_findsHushes_4 rfl rfl ?_
  refine s_iconst dX10_findsHushes_5 (by decide) ?_
  obtain ⟨m3, hm3⟩ : ∃ x : am_M, x = am_st m2 0 (am_up (m2 0) 20 0) := ⟨_, rfl⟩
  have h := h m3 hm3
  refine s_putI dX10_findsHushes_6 flX10_193 rn0 rk0 rfl rfl (Or.inl rfl) hm3.symm ?_
  refine s_iconst dX10_findsHushes_9 (by decide) ?_
  refine s_istore_n dX10_findsHushes_10 rfl (by decide) (L' := [vR 0, vI x1, vI x2, vI 0, vU, vU, vU]) rfl ?_
  refine s_aload_n dX10_findsHushes_11 rfl rfl ?_
  obtain ⟨p0, h⟩ := h
  refine s_callV (As := []) (rest := []) (k := 0) dX10_findsHushes_12 lkX10_155 rn0 ⟨by rw [rk0]; rfl, by rw [rk0]; decide⟩ lmX10_last rfl rfl (Nat.le_of_ble_eq_true rfl) (by decide) (Nat.le_refl 0) (Nat.le_refl 0) (hC := sp_X10_last (Q := fun z m => la_ (rg m3) (m3 1 25) = z ∧ m3 = m) p0 ⟨rfl, rfl⟩) (fun r n2 S2 m2 hP => ?_)
  obtain ⟨⟨rfl, rfl⟩, z, rfl, rfl, rfl⟩ := hP
  refine s_istore dX10_findsHushes_15 (by decide) (L' := [vR 0, vI x1, vI x2, vI 0, vI (la_ (rg m3) (m3 1 25)), vU, vU]) rfl ?_
  refine s_iconst dX10_findsHushes_17 (by decide) ?_
  refine s_istore dX10_findsHushes_18 (by decide) (L' := [vR 0, vI x1, vI x2, vI 0, vI (la_ (rg m3) (m3 1 25)), vI 0, vU]) rfl ?_
  exact h
theorem vc_X10_findsHushes_20 {x1 x2 x3 x4 x5 : Int} {μ : am_M} {Q : am_M → Prop} (h : (x4 < x5 → Q μ) ∧ (x5 ≤ x4 → ((x5 < x4 → (rsnd_ μ) ∧ (vP (pR μ)) ∧ (in_ 0 600 x5) ∧ (in_ 0 401 (μ 1 465)))) ∧ (∀ v1 : Int, v1 = (if x5 < x4 then (if mi_ (suP (pR μ) x5) (μ 1 465) < x1 then 1 else 0) else 0) → (v1 ≠ 0 → ((v1 ≠ 0 → (am_in (x3 + 1)))) ∧ (∀ v2 : Int, v2 = (if v1 = 0 then 0 else x3 + 1) → (am_in (x5 + 1)) ∧ (at_V kR 4 mX10_findsHushes 20 [vR 0, vI x1, vI x2, vI v2, vI x4, vI (x5 + 1), vU] [] μ Q))) ∧ (v1 = 0 → (x3 < x2 → ((v1 ≠ 0 → (am_in (x3 + 1)))) ∧ (∀ v4 : Int, v4 = (if v1 = 0 then 0 else x3 + 1) → (am_in (x5 + 1)) ∧ (at_V kR 4 mX10_findsHushes 20 [vR 0, vI x1, vI x2, vI v4, vI x4, vI (x5 + 1), vU] [] μ Q))) ∧ (x2 ≤ x3 → (am_in (2 * (μ 0 20))) ∧ ((am_in (x5 - x3)) ∧ ((0 ≤ 2 * (μ 0 20)) ∧ (2 * (μ 0 20) < 1200) ∧ (∀ m6 : am_M, m6 = am_st μ 15 (am_up (μ 15) (2 * (μ 0 20)).toNat (x5 - x3)) → (am_in (2 * (μ 0 20))) ∧ ((am_in ((2 * (μ 0 20)) + 1)) ∧ ((0 ≤ (2 * (μ 0 20)) + 1) ∧ ((2 * (μ 0 20)) + 1 < 1200) ∧ (∀ m7 : am_M, m7 = am_st m6 15 (am_up (m6 15) ((2 * (μ 0 20)) + 1).toNat x3) → (am_in (μ 0 20 + 1)) ∧ (∀ m8 : am_M, m8 = am_st m7 0 (am_up (m7 0) 20 (μ 0 20 + 1)) → ((v1 ≠ 0 → (am_in (x3 + 1)))) ∧ (∀ v9 : Int, v9 = (if v1 = 0 then 0 else x3 + 1) → (am_in (x5 + 1)) ∧ (at_V kR 4 mX10_findsHushes 20 [vR 0, vI x1, vI x2, vI v9, vI x4, vI (x5 + 1), vU] [] m8 Q)))))))))))))) : at_V kR 4 mX10_findsHushes 20 [vR 0, vI x1, vI x2, vI x3, vI x4, vI x5, vU] [] μ Q := by
  refine s_iload dX10_findsHushes_20 rfl ?_
  refine s_iload dX10_findsHushes_22 rfl ?_
  refine s_icmp_gt dX10_findsHushes_24 (tgt := 127) (by decide) (fun cc => ?_) (fun cc => ?_)
  · have h := h.1 cc
    exact s_return dX10_findsHushes_127 rfl ⟨⟨rfl, rfl⟩, rfl, h⟩
  · have h := h.2 cc
    refine s_iload dX10_findsHushes_27 rfl ?_
    refine s_iload dX10_findsHushes_29 rfl ?_
    obtain ⟨hsd, h⟩ := h
    have kj11 : ∀ (v1 : Int), ((v1 ≠ 0 → ((v1 ≠ 0 → (am_in (x3 + 1)))) ∧ (∀ v2 : Int, v2 = (if v1 = 0 then 0 else x3 + 1) → (am_in (x5 + 1)) ∧ (at_V kR 4 mX10_findsHushes 20 [vR 0, vI x1, vI x2, vI v2, vI x4, vI (x5 + 1), vU] [] μ Q))) ∧ (v1 = 0 → (x3 < x2 → ((v1 ≠ 0 → (am_in (x3 + 1)))) ∧ (∀ v4 : Int, v4 = (if v1 = 0 then 0 else x3 + 1) → (am_in (x5 + 1)) ∧ (at_V kR 4 mX10_findsHushes 20 [vR 0, vI x1, vI x2, vI v4, vI x4, vI (x5 + 1), vU] [] μ Q))) ∧ (x2 ≤ x3 → (am_in (2 * (μ 0 20))) ∧ ((am_in (x5 - x3)) ∧ ((0 ≤ 2 * (μ 0 20)) ∧ (2 * (μ 0 20) < 1200) ∧ (∀ m6 : am_M, m6 = am_st μ 15 (am_up (μ 15) (2 * (μ 0 20)).toNat (x5 - x3)) → (am_in (2 * (μ 0 20))) ∧ ((am_in ((2 * (μ 0 20)) + 1)) ∧ ((0 ≤ (2 * (μ 0 20)) + 1) ∧ ((2 * (μ 0 20)) + 1 < 1200) ∧ (∀ m7 : am_M, m7 = am_st m6 15 (am_up (m6 15) ((2 * (μ 0 20)) + 1).toNat x3) → (am_in (μ 0 20 + 1)) ∧ (∀ m8 : am_M, m8 = am_st m7 0 (am_up (m7 0) 20 (μ 0 20 + 1)) → ((v1 ≠ 0 → (am_in (x3 + 1)))) ∧ (∀ v9 : Int, v9 = (if v1 = 0 then 0 else x3 + 1) → (am_in (x5 + 1)) ∧ (at_V kR 4 mX10_findsHushes 20 [vR 0, vI x1, vI x2, vI v9, vI x4, vI (x5 + 1), vU] [] m8 Q)))))))))))) → at_V kR 4 mX10_findsHushes 57 [vR 0, vI x1, vI x2, vI x3, vI x4, vI x5, vU] [vI v1] μ Q := by
      intro v1 h
      refine s_istore dX10_findsHushes_57 (by decide) (L' := [vR 0, vI x1, vI x2, vI x3, vI x4, vI x5, vI v1]) rfl ?_
      refine s_iload dX10_findsHushes_59 rfl ?_
      refine s_if_ne dX10_findsHushes_61 (tgt := 108) (by decide) (fun cc => ?_) (fun cc => ?_)
      · have h := h.1 cc
        refine s_iload dX10_findsHushes_108 rfl ?_
        obtain ⟨hsd, h⟩ := h
        have kj3 : ∀ (v2 : Int), ((am_in (x5 + 1)) ∧ (at_V kR 4 mX10_findsHushes 20 [vR 0, vI x1, vI x2, vI v2, vI x4, vI (x5 + 1), vU] [] μ Q)) → at_V kR 4 mX10_findsHushes 120 [vR 0, vI x1, vI x2, vU, vI x4, vI x5, vU] [vI v2] μ Q := by
          intro v2 h
          refine s_istore_n dX10_findsHushes_120 rfl (by decide) (L' := [vR 0, vI x1, vI x2, vI v2, vI x4, vI x5, vU]) rfl ?_
          obtain ⟨c, h⟩ := h
          refine s_iinc dX10_findsHushes_121 rfl (am_w_id c) (by decide) (L' := [vR 0, vI x1, vI x2, vI v2, vI x4, vI (x5 + 1), vU]) rfl ?_
          refine s_goto dX10_findsHushes_124 (tgt := 20) (by decide) ?_
          exact h
        refine s_if_eq dX10_findsHushes_110 (tgt := 119) (by decide) (fun cc => ?_) (fun cc => ?_)
        · have hp0 := cc
          refine s_iconst dX10_findsHushes_119 (by decide) ?_
          exact am_lesS (kj3 0 (h 0 (by rw [if_pos hp0]))) ⟨Or.inr rfl, Or.inr rfl, Or.inr rfl, Or.inl rfl, Or.inr rfl, Or.inr rfl, Or.inl rfl, trivial⟩
        · have hp0 := cc
          have hsd := hsd hp0
          refine s_iload_n dX10_findsHushes_113 rfl rfl ?_
          refine s_iconst dX10_findsHushes_114 (by decide) ?_
          have c := hsd
          refine s_iadd dX10_findsHushes_115 (am_w_id c) ?_
          refine s_goto dX10_findsHushes_116 (tgt := 120) (by decide) ?_
          exact am_lesS (kj3 (x3 + 1) (h (x3 + 1) (by rw [if_neg hp0]))) ⟨Or.inr rfl, Or.inr rfl, Or.inr rfl, Or.inl rfl, Or.inr rfl, Or.inr rfl, Or.inl rfl, trivial⟩
      · have h := h.2 cc
        refine s_iload_n dX10_findsHushes_64 rfl rfl ?_
        refine s_iload_n dX10_findsHushes_65 rfl rfl ?_
        refine s_icmp_lt dX10_findsHushes_66 (tgt := 108) (by decide) (fun cc => ?_) (fun cc => ?_)
        · have h := h.1 cc
          refine s_iload dX10_findsHushes_108 rfl ?_
          obtain ⟨hsd, h⟩ := h
          have kj5 : ∀ (v4 : Int), ((am_in (x5 + 1)) ∧ (at_V kR 4 mX10_findsHushes 20 [vR 0, vI x1, vI x2, vI v4, vI x4, vI (x5 + 1), vU] [] μ Q)) → at_V kR 4 mX10_findsHushes 120 [vR 0, vI x1, vI x2, vU, vI x4, vI x5, vU] [vI v4] μ Q := by
            intro v4 h
            refine s_istore_n dX10_findsHushes_120 rfl (by decide) (L' := [vR 0, vI x1, vI x2, vI v4, vI x4, vI x5, vU]) rfl ?_
            obtain ⟨c, h⟩ := h
            refine s_iinc dX10_findsHushes_121 rfl (am_w_id c) (by decide) (L' := [vR 0, vI x1, vI x2, vI v4, vI x4, vI (x5 + 1), vU]) rfl ?_
            refine s_goto dX10_findsHushes_124 (tgt := 20) (by decide) ?_
            exact h
          refine s_if_eq dX10_findsHushes_110 (tgt := 119) (by decide) (fun cc => ?_) (fun cc => ?_)
          · have hp0 := cc
            refine s_iconst dX10_findsHushes_119 (by decide) ?_
            exact am_lesS (kj5 0 (h 0 (by rw [if_pos hp0]))) ⟨Or.inr rfl, Or.inr rfl, Or.inr rfl, Or.inl rfl, Or.inr rfl, Or.inr rfl, Or.inl rfl, trivial⟩
          · have hp0 := cc
            have hsd := hsd hp0
            refine s_iload_n dX10_findsHushes_113 rfl rfl ?_
            refine s_iconst dX10_findsHushes_114 (by decide) ?_
            have c := hsd
            refine s_iadd dX10_findsHushes_115 (am_w_id c) ?_
            refine s_goto dX10_findsHushes_116 (tgt := 120) (by decide) ?_
            exact am_lesS (kj5 (x3 + 1) (h (x3 + 1) (by rw [if_neg hp0]))) ⟨Or.inr rfl, Or.inr rfl, Or.inr rfl, Or.inl rfl, Or.inr rfl, Or.inr rfl, Or.inl rfl, trivial⟩
        · have h := h.2 cc
          refine s_aload_n dX10_findsHushes_69 rfl rfl ?_
          refine s_getR dX10_findsHushes_70 flX10_53 rn0 rk0 rfl rr0_19 ?_
          refine s_iconst dX10_findsHushes_73 (by decide) ?_
          refine s_aload_n dX10_findsHushes_74 rfl rfl ?_
          refine s_getI (x := (μ 0 20)) dX10_findsHushes_75 flX10_193 rn0 rk0 rfl rfl ?_
          obtain ⟨c, h⟩ := h
          refine s_imul dX10_findsHushes_78 (am_w_id c) ?_
          refine s_iload dX10_findsHushes_79 rfl ?_
          refine s_iload_n dX10_findsHushes_81 rfl rfl ?_
          obtain ⟨c, h⟩ := h
          refine s_isub dX10_findsHushes_82 (am_w_id c) ?_
          obtain ⟨c, c2, h⟩ := h
          obtain ⟨m6, hm6⟩ : ∃ x : am_M, x = am_st μ 15 (am_up (μ 15) (2 * (μ 0 20)).toNat (x5 - x3)) := ⟨_, rfl⟩
          have h := h m6 hm6
          refine s_iast dX10_findsHushes_83 rn15 rk15 rl15 c c2 hm6.symm ?_
          refine s_aload_n dX10_findsHushes_84 rfl rfl ?_
          refine s_getR dX10_findsHushes_85 flX10_53 rn0 rk0 rfl rr0_19 ?_
          refine s_iconst dX10_findsHushes_88 (by decide) ?_
          refine s_aload_n dX10_findsHushes_89 rfl rfl ?_
          refine s_getI (x := (μ 0 20)) dX10_findsHushes_90 flX10_193 rn0 rk0 rfl (by subst hm6; rfl) ?_
          obtain ⟨c, h⟩ := h
          refine s_imul dX10_findsHushes_93 (am_w_id c) ?_
          refine s_iconst dX10_findsHushes_94 (by decide) ?_
          obtain ⟨c, h⟩ := h
          refine s_iadd dX10_findsHushes_95 (am_w_id c) ?_
          refine s_iload_n dX10_findsHushes_96 rfl rfl ?_
          obtain ⟨c, c2, h⟩ := h
          obtain ⟨m7, hm7⟩ : ∃ x : am_M, x = am_st m6 15 (am_up (m6 15) ((2 * (μ 0 20)) + 1).toNat x3) := ⟨_, rfl⟩
          have h := h m7 hm7
          refine s_iast dX10_findsHushes_97 rn15 rk15 rl15 c c2 hm7.symm ?_
          refine s_aload_n dX10_findsHushes_98 rfl rfl ?_
          refine s_dup dX10_findsHushes_99 ?_
          refine s_getI (x := (μ 0 20)) dX10_findsHushes_100 flX10_193 rn0 rk0 rfl (by subst hm7; subst hm6; rfl) ?_
          refine s_iconst dX10_findsHushes_103 (by decide) ?_
          obtain ⟨c, h⟩ := h
          refine s_iadd dX10_findsHushes_104 (am_w_id c) ?_
          obtain ⟨m8, hm8⟩ : ∃ x : am_M, x = am_st m7 0 (am_up (m7 0) 20 (μ 0 20 + 1)) := ⟨_, rfl⟩
          have h := h m8 hm8
          refine s_putI dX10_findsHushes_105 flX10_193 rn0 rk0 rfl rfl (Or.inl rfl) hm8.symm ?_
          refine s_iload dX10_findsHushes_108 rfl ?_
          obtain ⟨hsd, h⟩ := h
          have kj10 : ∀ (v9 : Int), ((am_in (x5 + 1)) ∧ (at_V kR 4 mX10_findsHushes 20 [vR 0, vI x1, vI x2, vI v9, vI x4, vI (x5 + 1), vU] [] m8 Q)) → at_V kR 4 mX10_findsHushes 120 [vR 0, vI x1, vI x2, vU, vI x4, vI x5, vU] [vI v9] m8 Q := by
            intro v9 h
            refine s_istore_n dX10_findsHushes_120 rfl (by decide) (L' := [vR 0, vI x1, vI x2, vI v9, vI x4, vI x5, vU]) rfl ?_
            obtain ⟨c, h⟩ := h
            refine s_iinc dX10_findsHushes_121 rfl (am_w_id c) (by decide) (L' := [vR 0, vI x1, vI x2, vI v9, vI x4, vI (x5 + 1), vU]) rfl ?_
            refine s_goto dX10_findsHushes_124 (tgt := 20) (by decide) ?_
            exact h
          refine s_if_eq dX10_findsHushes_110 (tgt := 119) (by decide) (fun cc => ?_) (fun cc => ?_)
          · have hp0 := cc
            refine s_iconst dX10_findsHushes_119 (by decide) ?_
            exact am_lesS (kj10 0 (h 0 (by rw [if_pos hp0]))) ⟨Or.inr rfl, Or.inr rfl, Or.inr rfl, Or.inl rfl, Or.inr rfl, Or.inr rfl, Or.inl rfl, trivial⟩
          · have hp0 := cc
            have hsd := hsd hp0
            refine s_iload_n dX10_findsHushes_113 rfl rfl ?_
            refine s_iconst dX10_findsHushes_114 (by decide) ?_
            have c := hsd
            refine s_iadd dX10_findsHushes_115 (am_w_id c) ?_
            refine s_goto dX10_findsHushes_116 (tgt := 120) (by decide) ?_
            exact am_lesS (kj10 (x3 + 1) (h (x3 + 1) (by rw [if_neg hp0]))) ⟨Or.inr rfl, Or.inr rfl, Or.inr rfl, Or.inl rfl, Or.inr rfl, Or.inr rfl, Or.inl rfl, trivial⟩
    refine s_icmp_ge dX10_findsHushes_31 (tgt := 56) (by decide) (fun cc => ?_) (fun cc => ?_)
    · have hp0 := cc
      refine s_iconst dX10_findsHushes_56 (by decide) ?_
      exact kj11 0 (h 0 (by rw [if_neg (Int.not_lt.mpr hp0)]))
    · have hp0 := cc
      have hsd := hsd hp0
      refine s_aload_n dX10_findsHushes_34 rfl rfl ?_
      refine s_iload dX10_findsHushes_35 rfl ?_
      refine s_aload_n dX10_findsHushes_37 rfl rfl ?_
      refine s_getR dX10_findsHushes_38 flX10_9 rn0 rk0 rfl rr0_0 ?_
      refine s_sipush dX10_findsHushes_41 (by decide) ?_
      refine s_iald (x := (μ 1 465)) dX10_findsHushes_44 rn1 rk1 rl1 (by decide) (by decide) rfl ?_
      obtain ⟨p0, p1, p2, p3⟩ := hsd
      refine s_callV (As := [vI x5, vI (μ 1 465)]) (rest := []) (k := 0) dX10_findsHushes_45 lkX10_196 rn0 ⟨by rw [rk0]; rfl, by rw [rk0]; decide⟩ lmX10_mixOf rfl rfl (Nat.le_of_ble_eq_true rfl) (by decide) (Nat.le_refl 0) (Nat.le_refl 0) (hC := sp_X10_mixOf (Q := fun z m => mi_ (suP (pR μ) x5) (μ 1 465) = z ∧ μ = m) p0 p1 p2 p3 ⟨rfl, rfl⟩) (fun r n2 S2 m2 hP => ?_)
      obtain ⟨⟨rfl, rfl⟩, z, rfl, rfl, rfl⟩ := hP
      refine s_iload_n dX10_findsHushes_48 rfl rfl ?_
      refine s_icmp_ge dX10_findsHushes_49 (tgt := 56) (by decide) (fun cc => ?_) (fun cc => ?_)
      · have hp1 := cc
        refine s_iconst dX10_findsHushes_56 (by decide) ?_
        exact kj11 0 (h 0 (by rw [if_pos hp0, if_neg (Int.not_lt.mpr hp1)]))
      · have hp1 := cc
        refine s_iconst dX10_findsHushes_52 (by decide) ?_
        refine s_goto dX10_findsHushes_53 (tgt := 57) (by decide) ?_
        exact kj11 1 (h 1 (by rw [if_pos hp0, if_pos hp1]))
theorem ve_X10_findsHushes {x1 x2 : Int} {μ : am_M} {Q : am_M → Prop} (h : at_V kR 4 mX10_findsHushes 0 [vR 0, vI x1, vI x2, vU, vU, vU, vU] [] μ Q) : cl_V kR 4 mX10_findsHushes [vR 0, vI x1, vI x2] μ Q := am_intro pmX10_findsHushes (Nat.le_of_ble_eq_true rfl) rfl h
theorem sp_X10_findsHushes {μ : am_M} {v n : Int} (hV : vP (pR μ)) (hn : in_ 1 601 n) : cl_V kR 4 mX10_findsHushes [vR 0, vI v, vI n] μ (fun m => rq2_ μ m ∧ fo15_ m (silP (pR μ) v n)) := by
  have lb := la_b6 hV
  change in_ 0 601 (laP (pR μ)) at lb
  refine ve_X10_findsHushes (vc_X10_findsHushes_0 ⟨_, sp_X10_works hV, fun m2 ⟨h1, h2⟩ m3 e3 => ?_⟩)
  have f3 : fr_ (0 :: wkL) μ m3 := fr_tr (fr_up h1 (by decide)) (by rw [e3]; exact fr_st (by simp))
  have s3 : rsnd_ m3 := rsnd_fr (ks := [0]) (by rw [e3]; exact fr_st (by simp)) (by decide) (by decide) h2
  have z3 : rq_ μ m3 := by
    refine ⟨fr_up f3 (by decide), fun j a b c => ?_⟩
    rw [e3, st_s, up_n a, h1 0 (by decide)]
  have p3 := rq_P z3
  have hE0 : in_ 0 401 (μ 1 465) := hV.hE.1
  refine ⟨by have := hV.okT; rw [← p3] at this; exact this, ?_⟩
  have el : la_ (rg m3) (m3 1 25) = laP (pR μ) := by
    show laP (pR m3) = _
    rw [p3]
  rw [el]
  have : ∀ (j : Nat) (l x : Int) (m : am_M), x + j = laP (pR μ) → 0 ≤ x → rq2_ μ m → rsnd_ m → l = (sl_ (mixP (pR μ)) v n x).1 → fo15_ m (sl_ (mixP (pR μ)) v n x).2 → at_V kR 4 mX10_findsHushes 20 [vR 0, vI v, vI n, vI l, vI (laP (pR μ)), vI x, vU] [] m (fun m => rq2_ μ m ∧ fo15_ m (silP (pR μ) v n)) := by
    intro j
    induction j with
    | zero =>
      intro l x m hx h0 hq hs hl hfo
      have ex : x = laP (pR μ) := by omega
      have b := sl_b (F := mixP (pR μ)) (v := v) (n := n) (k := x) hn.1 h0
      rw [← hl] at b
      have stop : ∀ (l2 : Int) (m2 : am_M), rq2_ μ m2 → fo15_ m2 (silP (pR μ) v n) → at_V kR 4 mX10_findsHushes 20 [vR 0, vI v, vI n, vI l2, vI (laP (pR μ)), vI (x + 1), vU] [] m2 (fun m => rq2_ μ m ∧ fo15_ m (silP (pR μ) v n)) := fun l2 m2 a1 a2 => vc_X10_findsHushes_20 ⟨fun _ => ⟨a1, a2⟩, fun q => by omega⟩
      have eS : silP (pR μ) v n = if n ≤ l then (sl_ (mixP (pR μ)) v n x).2 ++ [(x - l, l)] else (sl_ (mixP (pR μ)) v n x).2 := by
        show sil_ (mixP (pR μ)) v n (laP (pR μ)) = _
        unfold sil_
        rw [← ex, ← hl]
      have g1 := hfo.1
      unfold in_ at lb hn
      refine vc_X10_findsHushes_20 ⟨fun q => by omega, fun _ => ⟨fun q => by omega, fun v1 e1 => ?_⟩⟩
      rw [if_neg (by omega)] at e1
      refine ⟨fun q => absurd e1 q, fun _ => ⟨fun c => ⟨fun q => absurd e1 q, fun v4 e4 => ⟨(by (try unfold am_in); (try unfold in_ at *); omega), stop _ m hq ?_⟩⟩, fun c => ⟨by ((try unfold am_in); (try unfold in_ at *); omega), by ((try unfold am_in); (try unfold in_ at *); omega), by omega, by omega, fun m6 e6 => ⟨by ((try unfold am_in); (try unfold in_ at *); omega), by ((try unfold am_in); (try unfold in_ at *); omega), by omega, by omega, fun m7 e7 => ⟨by ((try unfold am_in); (try unfold in_ at *); omega), fun m8 e8 => ⟨fun q => absurd e1 q, fun v9 e9 => ⟨(by (try unfold am_in); (try unfold in_ at *); omega), stop _ m8 ?_ ?_⟩⟩⟩⟩⟩⟩⟩
      · rw [eS, if_neg (by omega)]; exact hfo
      · exact rq2_st hq (fo15_fr e6 e7 e8)
      · rw [eS, if_pos c]
        exact fo15_add hfo e6 e7 e8
    | succ j ih =>
      intro l x m hx h0 hq hs hl hfo
      have b := sl_b (F := mixP (pR μ)) (v := v) (n := n) (k := x) hn.1 h0
      rw [← hl] at b
      have pm := rq_P hq.1
      have e465 : m 1 465 = μ 1 465 := by rw [rq_1 hq.1]
      have sn : sl_ (mixP (pR μ)) v n (x + 1) = if mixP (pR μ) x < v then (l + 1, (sl_ (mixP (pR μ)) v n x).2) else (0, if n ≤ l then (sl_ (mixP (pR μ)) v n x).2 ++ [(x - l, l)] else (sl_ (mixP (pR μ)) v n x).2) := by
        show fI _ _ (x + 1) = _
        rw [fI_s _ _ h0]
        show ss_ _ _ _ (sl_ (mixP (pR μ)) v n x) x = _
        unfold ss_
        rw [← hl]
      have g1 := hfo.1
      unfold in_ at lb hn
      refine vc_X10_findsHushes_20 ⟨fun q => by omega, fun _ => ⟨fun q => ⟨hs, by rw [pm]; exact hV, ⟨h0, by omega⟩, by rw [e465]; exact hE0⟩, fun v1 e1 => ?_⟩⟩
      rw [if_pos (by omega), pm, e465] at e1
      change v1 = if mixP (pR μ) x < v then 1 else 0 at e1
      by_cases cm : mixP (pR μ) x < v
      · rw [if_pos cm] at e1 sn
        refine ⟨fun _ => ⟨fun _ => (by (try unfold am_in); (try unfold in_ at *); omega), fun v2 e2 => ⟨(by (try unfold am_in); (try unfold in_ at *); omega), ih _ (x + 1) m (by omega) (by omega) hq hs ?_ ?_⟩⟩, fun q => by omega⟩
        · rw [e2, if_neg (by omega), sn]
        · rw [sn]; exact hfo
      · rw [if_neg cm] at e1 sn
        refine ⟨fun q => absurd e1 q, fun _ => ⟨fun c => ⟨fun q => absurd e1 q, fun v4 e4 => ⟨(by (try unfold am_in); (try unfold in_ at *); omega), ih _ (x + 1) m (by omega) (by omega) hq hs ?_ ?_⟩⟩, fun c => ⟨by ((try unfold am_in); (try unfold in_ at *); omega), by ((try unfold am_in); (try unfold in_ at *); omega), by omega, by omega, fun m6 e6 => ⟨by ((try unfold am_in); (try unfold in_ at *); omega), by ((try unfold am_in); (try unfold in_ at *); omega), by omega, by omega, fun m7 e7 => ⟨by ((try unfold am_in); (try unfold in_ at *); omega), fun m8 e8 => ⟨fun q => absurd e1 q, fun v9 e9 => ⟨(by (try unfold am_in); (try unfold in_ at *); omega), ih _ (x + 1) m8 (by omega) (by omega) ?_ ?_ ?_ ?_⟩⟩⟩⟩⟩⟩⟩
        · rw [e4, if_pos e1, sn]
        · rw [sn, if_neg (by omega)]; exact hfo
        · exact rq2_st hq (fo15_fr e6 e7 e8)
        · exact rsnd_fr (fo15_fr e6 e7 e8).1 (by decide) (by decide) hs
        · rw [e9, if_pos e1, sn]
        · rw [sn, if_pos c]
          exact fo15_add hfo e6 e7 e8
  refine this (laP (pR μ)).toNat 0 0 m3 (by ((try unfold am_in); (try unfold in_ at *); omega)) (by omega) ⟨z3, f3 2 (by decide)⟩ s3 rfl ⟨by rw [e3, st_s, up_s]; rfl, fun i p hi => by simp [sl_, fI_0] at hi⟩
theorem vc_X10_silence_0 {x1 x2 x3 x4 : Int} {μ : am_M} {Q : Int → am_M → Prop} (h : ((1 ≤ x1 ∧ x1 ≤ 999) ∧ 1 ≤ x2 ∧ x2 ≤ 600 → ∃ P : am_M → Prop, cl_V kR 4 mX10_findsHushes [vR 0, vI x1, vI x2] μ P ∧ (∀ m2 : am_M, P m2 → (x3 ≠ (-1) → (am_in (m2 0 20 - 1)) ∧ ((0 ≤ x3 ∧ x3 ≤ (m2 0 20 - 1) → ((0 ≤ x4 ∧ x4 ≤ 1 → (am_in (2 * x3)) ∧ ((am_in ((2 * x3) + x4)) ∧ ((0 ≤ (2 * x3) + x4) ∧ ((2 * x3) + x4 < 1200))))) ∧ (∀ v3 : Int, v3 = (cif (0 ≤ x4 ∧ x4 ≤ 1) (m2 15 (((2 * x3) + x4).toNat)) (-2)) → Q v3 m2)) ∧ (¬ (0 ≤ x3 ∧ x3 ≤ (m2 0 20 - 1)) → Q (-1) m2))) ∧ (x3 = (-1) → Q (m2 0 20) m2))) ∧ (¬ ((1 ≤ x1 ∧ x1 ≤ 999) ∧ 1 ≤ x2 ∧ x2 ≤ 600) → Q (-2) μ)) : at_I kR 5 mX10_silence 0 [vR 0, vI x1, vI x2, vI x3, vI x4] [] μ Q := by
  refine s_iload_n dX10_silence_0 rfl rfl ?_
  refine s_iload_n dX10_silence_1 rfl rfl ?_
  refine s_callS (As := [vI x1, vI x2]) (rest := []) dX10_silence_2 lkX10_199 lmX10_isHush rfl rfl (Nat.le_of_ble_eq_true rfl) (by decide) (Nat.le_refl 0) (Nat.le_refl 0) (hC := sp_X10_isHush (Q := fun z m => bI ((1 ≤ x1 ∧ x1 ≤ 999) ∧ 1 ≤ x2 ∧ x2 ≤ 600) = z ∧ μ = m)  ⟨rfl, rfl⟩) (fun r n2 S2 m2 hP => ?_)
  obtain ⟨⟨rfl, rfl⟩, z, rfl, rfl, rfl⟩ := hP
  refine s_if_ne dX10_silence_5 (tgt := 11) (by decide) (fun cc => ?_) (fun cc => ?_)
  · have h := h.1 (bI_ne cc)
    refine s_aload_n dX10_silence_11 rfl rfl ?_
    refine s_iload_n dX10_silence_12 rfl rfl ?_
    refine s_iload_n dX10_silence_13 rfl rfl ?_
    obtain ⟨P, hcl, h⟩ := h
    refine s_callV (As := [vI x1, vI x2]) (rest := []) (k := 0) dX10_silence_14 lkX10_202 rn0 ⟨by rw [rk0]; rfl, by rw [rk0]; decide⟩ lmX10_findsHushes rfl rfl (Nat.le_of_ble_eq_true rfl) (by decide) (Nat.le_refl 0) (Nat.le_refl 0) (hC := hcl) (fun r n2 S2 m2 hP => ?_)
    obtain ⟨⟨rfl, rfl⟩, rfl, hq⟩ := hP
    have h := h m2 hq
    refine s_iload_n dX10_silence_17 rfl rfl ?_
    refine s_iconst dX10_silence_18 (by decide) ?_
    refine s_icmp_ne dX10_silence_19 (tgt := 27) (by decide) (fun cc => ?_) (fun cc => ?_)
    · have h := h.1 cc
      refine s_iload_n dX10_silence_27 rfl rfl ?_
      refine s_iconst dX10_silence_28 (by decide) ?_
      refine s_aload_n dX10_silence_29 rfl rfl ?_
      refine s_getI (x := (m2 0 20)) dX10_silence_30 flX10_193 rn0 rk0 rfl rfl ?_
      refine s_iconst dX10_silence_33 (by decide) ?_
      obtain ⟨c, h⟩ := h
      refine s_isub dX10_silence_34 (am_w_id c) ?_
      refine s_callS (As := [vI x3, vI 0, vI (m2 0 20 - 1)]) (rest := []) dX10_silence_35 lkX10_103 lmX10_isIn rfl rfl (Nat.le_of_ble_eq_true rfl) (by decide) (Nat.le_refl 0) (Nat.le_refl 0) (hC := sp_X10_isIn (Q := fun z m => bI (0 ≤ x3 ∧ x3 ≤ (m2 0 20 - 1)) = z ∧ m2 = m)  ⟨rfl, rfl⟩) (fun r n2 S2 m2 hP => ?_)
      obtain ⟨⟨rfl, rfl⟩, z, rfl, rfl, rfl⟩ := hP
      refine s_if_ne dX10_silence_38 (tgt := 43) (by decide) (fun cc => ?_) (fun cc => ?_)
      · have h := h.1 (bI_ne cc)
        refine s_iload dX10_silence_43 rfl ?_
        refine s_iconst dX10_silence_45 (by decide) ?_
        refine s_iconst dX10_silence_46 (by decide) ?_
        refine s_callS (As := [vI x4, vI 0, vI 1]) (rest := []) dX10_silence_47 lkX10_103 lmX10_isIn rfl rfl (Nat.le_of_ble_eq_true rfl) (by decide) (Nat.le_refl 0) (Nat.le_refl 0) (hC := sp_X10_isIn (Q := fun z m => bI (0 ≤ x4 ∧ x4 ≤ 1) = z ∧ m2 = m)  ⟨rfl, rfl⟩) (fun r n2 S2 m2 hP => ?_)
        obtain ⟨⟨rfl, rfl⟩, z, rfl, rfl, rfl⟩ := hP
        obtain ⟨hsd, h⟩ := h
        have kj4 : ∀ (v3 : Int), (Q v3 m2) → at_I kR 5 mX10_silence 69 [vU, vU, vU, vU, vU] [vI v3] m2 Q := by
          intro v3 h
          exact s_ireturn dX10_silence_69 (Or.inl rfl) ⟨⟨rfl, rfl⟩, _, rfl, h⟩
        refine s_if_eq dX10_silence_50 (tgt := 67) (by decide) (fun cc => ?_) (fun cc => ?_)
        · have hp0 := (bI_eq cc)
          refine s_bipush dX10_silence_67 (by decide) ?_
          exact am_lesS (kj4 (-2) (h (-2) (by rw [cif_f hp0]))) ⟨Or.inl rfl, Or.inl rfl, Or.inl rfl, Or.inl rfl, Or.inl rfl, trivial⟩
        · have hp0 := (bI_ne cc)
          have hsd := hsd hp0
          refine s_aload_n dX10_silence_53 rfl rfl ?_
          refine s_getR dX10_silence_54 flX10_53 rn0 rk0 rfl rr0_19 ?_
          refine s_iconst dX10_silence_57 (by decide) ?_
          refine s_iload_n dX10_silence_58 rfl rfl ?_
          obtain ⟨c, hsd⟩ := hsd
          refine s_imul dX10_silence_59 (am_w_id c) ?_
          refine s_iload dX10_silence_60 rfl ?_
          obtain ⟨c, hsd⟩ := hsd
          refine s_iadd dX10_silence_62 (am_w_id c) ?_
          obtain ⟨c, c2⟩ := hsd
          refine s_iald (x := (m2 15 (((2 * x3) + x4).toNat))) dX10_silence_63 rn15 rk15 rl15 c c2 rfl ?_
          refine s_goto dX10_silence_64 (tgt := 69) (by decide) ?_
          exact am_lesS (kj4 (m2 15 (((2 * x3) + x4).toNat)) (h (m2 15 (((2 * x3) + x4).toNat)) (by rw [cif_t hp0]))) ⟨Or.inl rfl, Or.inl rfl, Or.inl rfl, Or.inl rfl, Or.inl rfl, trivial⟩
      · have h := h.2 (bI_eq cc)
        refine s_iconst dX10_silence_41 (by decide) ?_
        exact s_ireturn dX10_silence_42 (Or.inl rfl) ⟨⟨rfl, rfl⟩, _, rfl, h⟩
    · have h := h.2 cc
      refine s_aload_n dX10_silence_22 rfl rfl ?_
      refine s_getI (x := (m2 0 20)) dX10_silence_23 flX10_193 rn0 rk0 rfl rfl ?_
      exact s_ireturn dX10_silence_26 (Or.inl rfl) ⟨⟨rfl, rfl⟩, _, rfl, h⟩
  · have h := h.2 (bI_eq cc)
    refine s_bipush dX10_silence_8 (by decide) ?_
    exact s_ireturn dX10_silence_10 (Or.inl rfl) ⟨⟨rfl, rfl⟩, _, rfl, h⟩
theorem ve_X10_silence {x1 x2 x3 x4 : Int} {μ : am_M} {Q : Int → am_M → Prop} (h : at_I kR 5 mX10_silence 0 [vR 0, vI x1, vI x2, vI x3, vI x4] [] μ Q) : cl_I kR 5 mX10_silence [vR 0, vI x1, vI x2, vI x3, vI x4] μ Q := am_intro pmX10_silence (Nat.le_of_ble_eq_true rfl) rfl h
theorem sp_X10_silence {μ : am_M} {v n i w : Int} (hV : vP (pR μ)) : cl_I kR 5 mX10_silence [vR 0, vI v, vI n, vI i, vI w] μ (fun z m => z = q_silence (pR μ) v n i w ∧ rq_ μ m) := by
  refine ve_X10_silence (vc_X10_silence_0 ⟨fun c => ⟨_, sp_X10_findsHushes hV ⟨c.2.1, by omega⟩, fun m2 ⟨⟨h1, _⟩, h2⟩ => ?_⟩, fun c => ⟨(cif_t c).symm, rq_rf⟩⟩)
  have e0 : q_silence (pR μ) v n i w = _ := cif_f (fun h => h c)
  have hl : (silP (pR μ) v n).length ≤ 300 := sil_l c.2.1 (la_b6 hV)
  have k3 := h2.1
  refine ⟨fun n1 => ⟨(by (try unfold am_in); (try unfold in_ at *); omega), fun q => ⟨fun q2 => ⟨(by (try unfold am_in); (try unfold in_ at *); omega), (by (try unfold am_in); (try unfold in_ at *); omega), by omega, by omega⟩, fun v3 e3 => ⟨?_, h1⟩⟩, fun q => ⟨?_, h1⟩⟩, fun n1 => ⟨by rw [e0, if_pos n1, k3], h1⟩⟩
  · have hi : i.toNat < (silP (pR μ) v n).length := by omega
    have g := h2.2 i.toNat _ (List.getElem?_eq_getElem hi)
    have eg : (silP (pR μ) v n).getD i.toNat (0, 0) = (silP (pR μ) v n)[i.toNat] := by rw [List.getD_eq_getElem?_getD, List.getElem?_eq_getElem hi]; rfl
    rw [e0, if_neg n1, cif_f (fun h => h ⟨q.1, by omega⟩), e3, eg]
    by_cases w0 : w = 0
    · rw [cif_t (by omega), if_pos w0, show (2 * i + w).toNat = 2 * i.toNat by omega, g.1]
    · by_cases w1 : w = 1
      · rw [cif_t (by omega), if_neg w0, if_pos w1, show (2 * i + w).toNat = 2 * i.toNat + 1 by omega, g.2]
      · rw [cif_f (by omega), if_neg w0, if_neg w1]
  · rw [e0, if_neg n1, cif_t (by omega)]
theorem vc_X10_sourceValue_0 {x1 x2 : Int} {μ : am_M} {Q : Int → am_M → Prop} (h : (in_ 0 7 (μ 1 0)) ∧ ((¬ (0 ≤ x1 ∧ x1 < μ 1 0) → Q (-1) μ) ∧ (0 ≤ x1 ∧ x1 < μ 1 0 → (in_ 0 6 x1) ∧ (in_ 0 4 1) ∧ ((am_in (rS μ x1 1 - 1)) ∧ ((0 ≤ x2 ∧ x2 ≤ (rS μ x1 1 - 1) → ∃ P : am_M → Prop, cl_V kR 2 mX10_laysWaves [vR 0] μ P ∧ (∀ m2 : am_M, P m2 → (am_in (200 * x1)) ∧ ((am_in ((200 * x1) + x2)) ∧ ((0 ≤ (200 * x1) + x2) ∧ ((200 * x1) + x2 < 1200) ∧ (Q (m2 8 (((200 * x1) + x2).toNat)) m2))))) ∧ (¬ (0 ≤ x2 ∧ x2 ≤ (rS μ x1 1 - 1)) → Q (-1) μ)))))) : at_I kR 3 mX10_sourceValue 0 [vR 0, vI x1, vI x2] [] μ Q := by
  refine s_aload_n dX10_sourceValue_0 rfl rfl ?_
  refine s_iload_n dX10_sourceValue_1 rfl rfl ?_
  obtain ⟨p0, h⟩ := h
  refine s_callV (As := [vI x1]) (rest := []) (k := 0) dX10_sourceValue_2 lkX10_119 rn0 ⟨by rw [rk0]; rfl, by rw [rk0]; decide⟩ lmX10_isSource rfl rfl (Nat.le_of_ble_eq_true rfl) (by decide) (Nat.le_refl 0) (Nat.le_refl 0) (hC := sp_X10_isSource (Q := fun z m => bI (0 ≤ x1 ∧ x1 < μ 1 0) = z ∧ μ = m) p0 ⟨rfl, rfl⟩) (fun r n2 S2 m2 hP => ?_)
  obtain ⟨⟨rfl, rfl⟩, z, rfl, rfl, rfl⟩ := hP
  refine s_if_eq dX10_sourceValue_5 (tgt := 24) (by decide) (fun cc => ?_) (fun cc => ?_)
  · have h := h.1 (bI_eq cc)
    refine s_iconst dX10_sourceValue_24 (by decide) ?_
    exact s_ireturn dX10_sourceValue_25 (Or.inl rfl) ⟨⟨rfl, rfl⟩, _, rfl, h⟩
  · have h := h.2 (bI_ne cc)
    refine s_iload_n dX10_sourceValue_8 rfl rfl ?_
    refine s_iconst dX10_sourceValue_9 (by decide) ?_
    refine s_aload_n dX10_sourceValue_10 rfl rfl ?_
    refine s_iload_n dX10_sourceValue_11 rfl rfl ?_
    refine s_iconst dX10_sourceValue_12 (by decide) ?_
    obtain ⟨p0, p1, h⟩ := h
    refine s_callV (As := [vI x1, vI 1]) (rest := [vI 0, vI x2]) (k := 0) dX10_sourceValue_13 lkX10_114 rn0 ⟨by rw [rk0]; rfl, by rw [rk0]; decide⟩ lmX10_sourceOf rfl rfl (Nat.le_of_ble_eq_true rfl) (by decide) (Nat.le_refl 0) (Nat.le_refl 0) (hC := sp_X10_sourceOf (Q := fun z m => rS μ x1 1 = z ∧ μ = m) p0 p1 ⟨rfl, rfl⟩) (fun r n2 S2 m2 hP => ?_)
    obtain ⟨⟨rfl, rfl⟩, z, rfl, rfl, rfl⟩ := hP
    refine s_iconst dX10_sourceValue_16 (by decide) ?_
    obtain ⟨c, h⟩ := h
    refine s_isub dX10_sourceValue_17 (am_w_id c) ?_
    refine s_callS (As := [vI x2, vI 0, vI (rS μ x1 1 - 1)]) (rest := []) dX10_sourceValue_18 lkX10_103 lmX10_isIn rfl rfl (Nat.le_of_ble_eq_true rfl) (by decide) (Nat.le_refl 0) (Nat.le_refl 0) (hC := sp_X10_isIn (Q := fun z m => bI (0 ≤ x2 ∧ x2 ≤ (rS μ x1 1 - 1)) = z ∧ μ = m)  ⟨rfl, rfl⟩) (fun r n2 S2 m2 hP => ?_)
    obtain ⟨⟨rfl, rfl⟩, z, rfl, rfl, rfl⟩ := hP
    refine s_if_ne dX10_sourceValue_21 (tgt := 26) (by decide) (fun cc => ?_) (fun cc => ?_)
    · have h := h.1 (bI_ne cc)
      refine s_aload_n dX10_sourceValue_26 rfl rfl ?_
      obtain ⟨P, hcl, h⟩ := h
      refine s_callV (As := []) (rest := []) (k := 0) dX10_sourceValue_27 lkX10_123 rn0 ⟨by rw [rk0]; rfl, by rw [rk0]; decide⟩ lmX10_laysWaves rfl rfl (Nat.le_of_ble_eq_true rfl) (by decide) (Nat.le_refl 0) (Nat.le_refl 0) (hC := hcl) (fun r n2 S2 m2 hP => ?_)
      obtain ⟨⟨rfl, rfl⟩, rfl, hq⟩ := hP
      have h := h m2 hq
      refine s_aload_n dX10_sourceValue_30 rfl rfl ?_
      refine s_getR dX10_sourceValue_31 flX10_31 rn0 rk0 rfl rr0_12 ?_
      refine s_sipush dX10_sourceValue_34 (by decide) ?_
      refine s_iload_n dX10_sourceValue_37 rfl rfl ?_
      obtain ⟨c, h⟩ := h
      refine s_imul dX10_sourceValue_38 (am_w_id c) ?_
      refine s_iload_n dX10_sourceValue_39 rfl rfl ?_
      obtain ⟨c, h⟩ := h
      refine s_iadd dX10_sourceValue_40 (am_w_id c) ?_
      obtain ⟨c, c2, h⟩ := h
      refine s_iald (x := (m2 8 (((200 * x1) + x2).toNat))) dX10_sourceValue_41 rn8 rk8 rl8 c c2 rfl ?_
      exact s_ireturn dX10_sourceValue_42 (Or.inl rfl) ⟨⟨rfl, rfl⟩, _, rfl, h⟩
    · have h := h.2 (bI_eq cc)
      refine s_iconst dX10_sourceValue_24 (by decide) ?_
      exact s_ireturn dX10_sourceValue_25 (Or.inl rfl) ⟨⟨rfl, rfl⟩, _, rfl, h⟩
theorem ve_X10_sourceValue {x1 x2 : Int} {μ : am_M} {Q : Int → am_M → Prop} (h : at_I kR 3 mX10_sourceValue 0 [vR 0, vI x1, vI x2] [] μ Q) : cl_I kR 3 mX10_sourceValue [vR 0, vI x1, vI x2] μ Q := am_intro pmX10_sourceValue (Nat.le_of_ble_eq_true rfl) rfl h
theorem sp_X10_sourceValue {μ : am_M} {s f : Int} (hV : vP (pR μ)) : cl_I kR 3 mX10_sourceValue [vR 0, vI s, vI f] μ (fun z m => z = q_svalue (pR μ) s f ∧ rq_ μ m) := by
  have hM : in_ 0 7 (μ 1 0) := hV.hS.1
  refine ve_X10_sourceValue (vc_X10_sourceValue_0 ⟨hM, fun c => ⟨(cif_t (fun h => c h.1)).symm, rq_rf⟩, fun c => ?_⟩)
  have b : in_ 1 201 (rS μ s 1) := (hV.hS.2 s c.1 c.2).2.1
  refine ⟨(by (try unfold am_in); (try unfold in_ at *); omega), (by (try unfold am_in); (try unfold in_ at *); omega), (by (try unfold am_in); (try unfold in_ at *); omega), fun q => ⟨_, sp_X10_laysWaves hV, fun m2 ⟨h1, h2⟩ => ⟨(by (try unfold am_in); (try unfold in_ at *); omega), (by (try unfold am_in); (try unfold in_ at *); omega), by omega, by ((try unfold am_in); (try unfold in_ at *); omega), ?_, rq_of h1 (by decide)⟩⟩, fun q => ⟨(cif_t (fun h => q ⟨h.2.1, by have : f < rS μ s 1 := h.2.2; omega⟩)).symm, rq_rf⟩⟩
  have e1 : m2 1 = μ 1 := h1 1 (by decide)
  have eS := (r1_e e1).1
  rw [h2 s f c.1 (by rw [e1]; exact c.2) q.1 (by rw [eS]; omega), eS]
  exact (cif_f (fun h => h ⟨c, q.1, by show f < rS μ s 1; omega⟩)).symm
theorem vc_X10_source_0 {x1 x2 : Int} {μ : am_M} {Q : Int → am_M → Prop} (h : (in_ 0 7 (μ 1 0)) ∧ ((0 ≤ x1 ∧ x1 < μ 1 0 → (0 ≤ x2 ∧ x2 ≤ 5 → (4 ≤ x2 → ∃ P : am_M → Prop, cl_V kR 2 mX10_laysWaves [vR 0] μ P ∧ (∀ m2 : am_M, P m2 → at_I kR 3 mX10_source 46 [vR 0, vI x1, vI x2, vI 0, vI 0, vI 0] [] m2 Q)) ∧ (x2 < 4 → (in_ 0 6 x1) ∧ (in_ 0 4 x2) ∧ (Q (rS μ x1 x2) μ))) ∧ (¬ (0 ≤ x2 ∧ x2 ≤ 5) → Q (-2) μ)) ∧ (¬ (0 ≤ x1 ∧ x1 < μ 1 0) → Q (-1) μ))) : at_I kR 3 mX10_source 0 [vR 0, vI x1, vI x2, vU, vU, vU] [] μ Q := by
  refine s_aload_n dX10_source_0 rfl rfl ?_
  refine s_iload_n dX10_source_1 rfl rfl ?_
  obtain ⟨p0, h⟩ := h
  refine s_callV (As := [vI x1]) (rest := []) (k := 0) dX10_source_2 lkX10_119 rn0 ⟨by rw [rk0]; rfl, by rw [rk0]; decide⟩ lmX10_isSource rfl rfl (Nat.le_of_ble_eq_true rfl) (by decide) (Nat.le_refl 0) (Nat.le_refl 0) (hC := sp_X10_isSource (Q := fun z m => bI (0 ≤ x1 ∧ x1 < μ 1 0) = z ∧ μ = m) p0 ⟨rfl, rfl⟩) (fun r n2 S2 m2 hP => ?_)
  obtain ⟨⟨rfl, rfl⟩, z, rfl, rfl, rfl⟩ := hP
  refine s_if_ne dX10_source_5 (tgt := 10) (by decide) (fun cc => ?_) (fun cc => ?_)
  · have h := h.1 (bI_ne cc)
    refine s_iload_n dX10_source_10 rfl rfl ?_
    refine s_iconst dX10_source_11 (by decide) ?_
    refine s_iconst dX10_source_12 (by decide) ?_
    refine s_callS (As := [vI x2, vI 0, vI 5]) (rest := []) dX10_source_13 lkX10_103 lmX10_isIn rfl rfl (Nat.le_of_ble_eq_true rfl) (by decide) (Nat.le_refl 0) (Nat.le_refl 0) (hC := sp_X10_isIn (Q := fun z m => bI (0 ≤ x2 ∧ x2 ≤ 5) = z ∧ μ = m)  ⟨rfl, rfl⟩) (fun r n2 S2 m2 hP => ?_)
    obtain ⟨⟨rfl, rfl⟩, z, rfl, rfl, rfl⟩ := hP
    refine s_if_ne dX10_source_16 (tgt := 22) (by decide) (fun cc => ?_) (fun cc => ?_)
    · have h := h.1 (bI_ne cc)
      refine s_iload_n dX10_source_22 rfl rfl ?_
      refine s_iconst dX10_source_23 (by decide) ?_
      refine s_icmp_ge dX10_source_24 (tgt := 34) (by decide) (fun cc => ?_) (fun cc => ?_)
      · have h := h.1 cc
        refine s_aload_n dX10_source_34 rfl rfl ?_
        obtain ⟨P, hcl, h⟩ := h
        refine s_callV (As := []) (rest := []) (k := 0) dX10_source_35 lkX10_123 rn0 ⟨by rw [rk0]; rfl, by rw [rk0]; decide⟩ lmX10_laysWaves rfl rfl (Nat.le_of_ble_eq_true rfl) (by decide) (Nat.le_refl 0) (Nat.le_refl 0) (hC := hcl) (fun r n2 S2 m2 hP => ?_)
        obtain ⟨⟨rfl, rfl⟩, rfl, hq⟩ := hP
        have h := h m2 hq
        refine s_iconst dX10_source_38 (by decide) ?_
        refine s_istore_n dX10_source_39 rfl (by decide) (L' := [vR 0, vI x1, vI x2, vI 0, vU, vU]) rfl ?_
        refine s_iconst dX10_source_40 (by decide) ?_
        refine s_istore dX10_source_41 (by decide) (L' := [vR 0, vI x1, vI x2, vI 0, vI 0, vU]) rfl ?_
        refine s_iconst dX10_source_43 (by decide) ?_
        refine s_istore dX10_source_44 (by decide) (L' := [vR 0, vI x1, vI x2, vI 0, vI 0, vI 0]) rfl ?_
        exact h
      · have h := h.2 cc
        refine s_aload_n dX10_source_27 rfl rfl ?_
        refine s_iload_n dX10_source_28 rfl rfl ?_
        refine s_iload_n dX10_source_29 rfl rfl ?_
        obtain ⟨p0, p1, h⟩ := h
        refine s_callV (As := [vI x1, vI x2]) (rest := []) (k := 0) dX10_source_30 lkX10_114 rn0 ⟨by rw [rk0]; rfl, by rw [rk0]; decide⟩ lmX10_sourceOf rfl rfl (Nat.le_of_ble_eq_true rfl) (by decide) (Nat.le_refl 0) (Nat.le_refl 0) (hC := sp_X10_sourceOf (Q := fun z m => rS μ x1 x2 = z ∧ μ = m) p0 p1 ⟨rfl, rfl⟩) (fun r n2 S2 m2 hP => ?_)
        obtain ⟨⟨rfl, rfl⟩, z, rfl, rfl, rfl⟩ := hP
        exact s_ireturn dX10_source_33 (Or.inl rfl) ⟨⟨rfl, rfl⟩, _, rfl, h⟩
    · have h := h.2 (bI_eq cc)
      refine s_bipush dX10_source_19 (by decide) ?_
      exact s_ireturn dX10_source_21 (Or.inl rfl) ⟨⟨rfl, rfl⟩, _, rfl, h⟩
  · have h := h.2 (bI_eq cc)
    refine s_iconst dX10_source_8 (by decide) ?_
    exact s_ireturn dX10_source_9 (Or.inl rfl) ⟨⟨rfl, rfl⟩, _, rfl, h⟩
theorem vc_X10_source_46 {x1 x2 x3 x4 x5 : Int} {μ : am_M} {Q : Int → am_M → Prop} (h : (μ 1 25 ≤ x5 → at_I kR 3 mX10_source 86 [vR 0, vI x1, vI x2, vI x3, vI x4, vI 0] [] μ Q) ∧ (x5 < μ 1 25 → (in_ 0 48 x5) ∧ (in_ 0 8 2) ∧ (∀ v1 : Int, v1 = (if rg μ x5 2 = x1 then 1 else 0) → (am_in (x3 + v1)) ∧ ((am_in (x5 + 1)) ∧ (at_I kR 3 mX10_source 46 [vR 0, vI x1, vI x2, vI (x3 + v1), vI x4, vI (x5 + 1)] [] μ Q))))) : at_I kR 3 mX10_source 46 [vR 0, vI x1, vI x2, vI x3, vI x4, vI x5] [] μ Q := by
  refine s_iload dX10_source_46 rfl ?_
  refine s_aload_n dX10_source_48 rfl rfl ?_
  refine s_getR dX10_source_49 flX10_9 rn0 rk0 rfl rr0_0 ?_
  refine s_bipush dX10_source_52 (by decide) ?_
  refine s_iald (x := (μ 1 25)) dX10_source_54 rn1 rk1 rl1 (by decide) (by decide) rfl ?_
  refine s_icmp_ge dX10_source_55 (tgt := 83) (by decide) (fun cc => ?_) (fun cc => ?_)
  · have h := h.1 cc
    refine s_iconst dX10_source_83 (by decide) ?_
    refine s_istore dX10_source_84 (by decide) (L' := [vR 0, vI x1, vI x2, vI x3, vI x4, vI 0]) rfl ?_
    exact h
  · have h := h.2 cc
    refine s_iload_n dX10_source_58 rfl rfl ?_
    refine s_aload_n dX10_source_59 rfl rfl ?_
    refine s_iload dX10_source_60 rfl ?_
    refine s_iconst dX10_source_62 (by decide) ?_
    obtain ⟨p0, p1, h⟩ := h
    refine s_callV (As := [vI x5, vI 2]) (rest := [vI x3]) (k := 0) dX10_source_63 lkX10_126 rn0 ⟨by rw [rk0]; rfl, by rw [rk0]; decide⟩ lmX10_of rfl rfl (Nat.le_of_ble_eq_true rfl) (by decide) (Nat.le_refl 0) (Nat.le_refl 0) (hC := sp_X10_of (Q := fun z m => rg μ x5 2 = z ∧ μ = m) p0 p1 ⟨rfl, rfl⟩) (fun r n2 S2 m2 hP => ?_)
    obtain ⟨⟨rfl, rfl⟩, z, rfl, rfl, rfl⟩ := hP
    refine s_iload_n dX10_source_66 rfl rfl ?_
    have kj2 : ∀ (v1 : Int), ((am_in (x3 + v1)) ∧ ((am_in (x5 + 1)) ∧ (at_I kR 3 mX10_source 46 [vR 0, vI x1, vI x2, vI (x3 + v1), vI x4, vI (x5 + 1)] [] μ Q))) → at_I kR 3 mX10_source 75 [vR 0, vI x1, vI x2, vU, vI x4, vI x5] [vI v1, vI x3] μ Q := by
      intro v1 h
      obtain ⟨c, h⟩ := h
      refine s_iadd dX10_source_75 (am_w_id c) ?_
      refine s_istore_n dX10_source_76 rfl (by decide) (L' := [vR 0, vI x1, vI x2, vI (x3 + v1), vI x4, vI x5]) rfl ?_
      obtain ⟨c, h⟩ := h
      refine s_iinc dX10_source_77 rfl (am_w_id c) (by decide) (L' := [vR 0, vI x1, vI x2, vI (x3 + v1), vI x4, vI (x5 + 1)]) rfl ?_
      refine s_goto dX10_source_80 (tgt := 46) (by decide) ?_
      exact h
    refine s_icmp_ne dX10_source_67 (tgt := 74) (by decide) (fun cc => ?_) (fun cc => ?_)
    · have hp0 := cc
      refine s_iconst dX10_source_74 (by decide) ?_
      exact am_lesS (kj2 0 (h 0 (by rw [if_neg hp0]))) ⟨Or.inr rfl, Or.inr rfl, Or.inr rfl, Or.inl rfl, Or.inr rfl, Or.inr rfl, trivial⟩
    · have hp0 := cc
      refine s_iconst dX10_source_70 (by decide) ?_
      refine s_goto dX10_source_71 (tgt := 75) (by decide) ?_
      exact am_lesS (kj2 1 (h 1 (by rw [if_pos hp0]))) ⟨Or.inr rfl, Or.inr rfl, Or.inr rfl, Or.inl rfl, Or.inr rfl, Or.inr rfl, trivial⟩
theorem vc_X10_source_86 {x1 x2 x3 x4 x5 : Int} {μ : am_M} {Q : Int → am_M → Prop} (h : (in_ 0 6 x1) ∧ (in_ 0 4 1) ∧ ((rS μ x1 1 ≤ x5 → ∀ v1 : Int, v1 = (if x2 = 4 then x3 else x4) → Q v1 μ) ∧ (x5 < rS μ x1 1 → (am_in (200 * x1)) ∧ ((am_in ((200 * x1) + x5)) ∧ ((0 ≤ (200 * x1) + x5) ∧ ((200 * x1) + x5 < 1200) ∧ (((x4 < μ 8 (((200 * x1) + x5).toNat) → (am_in (200 * x1)) ∧ ((am_in ((200 * x1) + x5)) ∧ ((0 ≤ (200 * x1) + x5) ∧ ((200 * x1) + x5 < 1200))))) ∧ (∀ v3 : Int, v3 = (if x4 < μ 8 (((200 * x1) + x5).toNat) then μ 8 (((200 * x1) + x5).toNat) else x4) → (am_in (x5 + 1)) ∧ (at_I kR 3 mX10_source 86 [vR 0, vI x1, vI x2, vI x3, vI v3, vI (x5 + 1)] [] μ Q)))))))) : at_I kR 3 mX10_source 86 [vR 0, vI x1, vI x2, vI x3, vI x4, vI x5] [] μ Q := by
  refine s_iload dX10_source_86 rfl ?_
  refine s_aload_n dX10_source_88 rfl rfl ?_
  refine s_iload_n dX10_source_89 rfl rfl ?_
  refine s_iconst dX10_source_90 (by decide) ?_
  obtain ⟨p0, p1, h⟩ := h
  refine s_callV (As := [vI x1, vI 1]) (rest := [vI x5]) (k := 0) dX10_source_91 lkX10_114 rn0 ⟨by rw [rk0]; rfl, by rw [rk0]; decide⟩ lmX10_sourceOf rfl rfl (Nat.le_of_ble_eq_true rfl) (by decide) (Nat.le_refl 0) (Nat.le_refl 0) (hC := sp_X10_sourceOf (Q := fun z m => rS μ x1 1 = z ∧ μ = m) p0 p1 ⟨rfl, rfl⟩) (fun r n2 S2 m2 hP => ?_)
  obtain ⟨⟨rfl, rfl⟩, z, rfl, rfl, rfl⟩ := hP
  refine s_icmp_ge dX10_source_94 (tgt := 141) (by decide) (fun cc => ?_) (fun cc => ?_)
  · have h := h.1 cc
    refine s_iload_n dX10_source_141 rfl rfl ?_
    refine s_iconst dX10_source_142 (by decide) ?_
    have kj2 : ∀ (v1 : Int), (Q v1 μ) → at_I kR 3 mX10_source 152 [vU, vU, vU, vU, vU, vU] [vI v1] μ Q := by
      intro v1 h
      exact s_ireturn dX10_source_152 (Or.inl rfl) ⟨⟨rfl, rfl⟩, _, rfl, h⟩
    refine s_icmp_ne dX10_source_143 (tgt := 150) (by decide) (fun cc => ?_) (fun cc => ?_)
    · have hp0 := cc
      refine s_iload dX10_source_150 rfl ?_
      exact am_lesS (kj2 x4 (h x4 (by rw [if_neg hp0]))) ⟨Or.inl rfl, Or.inl rfl, Or.inl rfl, Or.inl rfl, Or.inl rfl, Or.inl rfl, trivial⟩
    · have hp0 := cc
      refine s_iload_n dX10_source_146 rfl rfl ?_
      refine s_goto dX10_source_147 (tgt := 152) (by decide) ?_
      exact am_lesS (kj2 x3 (h x3 (by rw [if_pos hp0]))) ⟨Or.inl rfl, Or.inl rfl, Or.inl rfl, Or.inl rfl, Or.inl rfl, Or.inl rfl, trivial⟩
  · have h := h.2 cc
    refine s_aload_n dX10_source_97 rfl rfl ?_
    refine s_getR dX10_source_98 flX10_31 rn0 rk0 rfl rr0_12 ?_
    refine s_sipush dX10_source_101 (by decide) ?_
    refine s_iload_n dX10_source_104 rfl rfl ?_
    obtain ⟨c, h⟩ := h
    refine s_imul dX10_source_105 (am_w_id c) ?_
    refine s_iload dX10_source_106 rfl ?_
    obtain ⟨c, h⟩ := h
    refine s_iadd dX10_source_108 (am_w_id c) ?_
    obtain ⟨c, c2, h⟩ := h
    refine s_iald (x := (μ 8 (((200 * x1) + x5).toNat))) dX10_source_109 rn8 rk8 rl8 c c2 rfl ?_
    refine s_iload dX10_source_110 rfl ?_
    obtain ⟨hsd, h⟩ := h
    have kj4 : ∀ (v3 : Int), ((am_in (x5 + 1)) ∧ (at_I kR 3 mX10_source 86 [vR 0, vI x1, vI x2, vI x3, vI v3, vI (x5 + 1)] [] μ Q)) → at_I kR 3 mX10_source 133 [vR 0, vI x1, vI x2, vI x3, vU, vI x5] [vI v3] μ Q := by
      intro v3 h
      refine s_istore dX10_source_133 (by decide) (L' := [vR 0, vI x1, vI x2, vI x3, vI v3, vI x5]) rfl ?_
      obtain ⟨c, h⟩ := h
      refine s_iinc dX10_source_135 rfl (am_w_id c) (by decide) (L' := [vR 0, vI x1, vI x2, vI x3, vI v3, vI (x5 + 1)]) rfl ?_
      refine s_goto dX10_source_138 (tgt := 86) (by decide) ?_
      exact h
    refine s_icmp_le dX10_source_112 (tgt := 131) (by decide) (fun cc => ?_) (fun cc => ?_)
    · have hp0 := cc
      refine s_iload dX10_source_131 rfl ?_
      exact am_lesS (kj4 x4 (h x4 (by rw [if_neg (Int.not_lt.mpr hp0)]))) ⟨Or.inr rfl, Or.inr rfl, Or.inr rfl, Or.inr rfl, Or.inl rfl, Or.inr rfl, trivial⟩
    · have hp0 := cc
      have hsd := hsd hp0
      refine s_aload_n dX10_source_115 rfl rfl ?_
      refine s_getR dX10_source_116 flX10_31 rn0 rk0 rfl rr0_12 ?_
      refine s_sipush dX10_source_119 (by decide) ?_
      refine s_iload_n dX10_source_122 rfl rfl ?_
      obtain ⟨c, hsd⟩ := hsd
      refine s_imul dX10_source_123 (am_w_id c) ?_
      refine s_iload dX10_source_124 rfl ?_
      obtain ⟨c, hsd⟩ := hsd
      refine s_iadd dX10_source_126 (am_w_id c) ?_
      obtain ⟨c, c2⟩ := hsd
      refine s_iald (x := (μ 8 (((200 * x1) + x5).toNat))) dX10_source_127 rn8 rk8 rl8 c c2 rfl ?_
      refine s_goto dX10_source_128 (tgt := 133) (by decide) ?_
      exact am_lesS (kj4 (μ 8 (((200 * x1) + x5).toNat)) (h (μ 8 (((200 * x1) + x5).toNat)) (by rw [if_pos hp0]))) ⟨Or.inr rfl, Or.inr rfl, Or.inr rfl, Or.inr rfl, Or.inl rfl, Or.inr rfl, trivial⟩
theorem ve_X10_source {x1 x2 : Int} {μ : am_M} {Q : Int → am_M → Prop} (h : at_I kR 3 mX10_source 0 [vR 0, vI x1, vI x2, vU, vU, vU] [] μ Q) : cl_I kR 3 mX10_source [vR 0, vI x1, vI x2] μ Q := am_intro pmX10_source (Nat.le_of_ble_eq_true rfl) rfl h
theorem sp_X10_source {μ : am_M} {s w : Int} (hV : vP (pR μ)) : cl_I kR 3 mX10_source [vR 0, vI s, vI w] μ (fun z m => z = q_source (pR μ) s w ∧ rq_ μ m) := by
  have hM : in_ 0 7 (μ 1 0) := hV.hS.1
  have hn : in_ 0 25 (μ 1 25) := hV.hn
  refine ve_X10_source (vc_X10_source_0 ⟨hM, fun c => ?_, fun c => ⟨(cif_t c).symm, rq_rf⟩⟩)
  have e1 : q_source (pR μ) s w = _ := cif_f (fun h => h c)
  refine ⟨fun cw => ?_, fun cw => ⟨(e1.trans (cif_t (by omega))).symm, rq_rf⟩⟩
  have e2 := e1.trans (cif_f (by omega))
  refine ⟨fun w4 => ⟨_, sp_X10_laysWaves hV, fun m2 ⟨h1, h2⟩ => ?_⟩, fun w4 => ⟨(by (try unfold am_in); (try unfold in_ at *); omega), (by (try unfold am_in); (try unfold in_ at *); omega), by rw [e2, if_neg (by omega), if_neg (by omega)]; rfl, rq_rf⟩⟩
  have e21 : m2 1 = μ 1 := h1 1 (by decide)
  obtain ⟨eS, eg, eT⟩ := r1_e e21
  have hq := rq_of h1 (by decide)
  have b : in_ 1 201 (rS μ s 1) := (hV.hS.2 s c.1 c.2).2.1
  have second : ∀ (j : Nat) (a x y : Int), y + j = rS μ s 1 → 0 ≤ y → a = cnt_ (fun i => decide (rg μ i 2 = s)) (fun _ => 1) (μ 1 25) → x = mx_ (wav_ (rS μ) s) y → at_I kR 3 mX10_source 86 [vR 0, vI s, vI w, vI a, vI x, vI y] [] m2 (fun z m => z = q_source (pR μ) s w ∧ rq_ μ m) := by
    intro j
    induction j with
    | zero =>
      intro a x y hy y0 ha hx
      refine vc_X10_source_86 ⟨(by (try unfold am_in); (try unfold in_ at *); omega), (by (try unfold am_in); (try unfold in_ at *); omega), fun _ v ev => ⟨?_, hq⟩, fun q => by rw [eS] at q; omega⟩
      rw [e2, ev]
      by_cases c4 : w = 4
      · rw [if_pos c4, if_pos c4, ha]; rfl
      · rw [if_neg c4, if_neg c4, if_pos (by omega), hx, show y = rS μ s 1 by omega]; rfl
    | succ j ih =>
      intro a x y hy y0 ha hx
      have e8 : m2 8 ((200 * s) + y).toNat = wav_ (rS μ) s y := by
        rw [h2 s y c.1 (by rw [e21]; exact c.2) y0 (by rw [eS]; omega), eS]
      refine vc_X10_source_86 ⟨(by (try unfold am_in); (try unfold in_ at *); omega), (by (try unfold am_in); (try unfold in_ at *); omega), fun q => by rw [eS] at q; omega, fun q => ?_⟩
      rw [e8]
      refine ⟨(by (try unfold am_in); (try unfold in_ at *); omega), (by (try unfold am_in); (try unfold in_ at *); omega), by omega, by ((try unfold am_in); (try unfold in_ at *); omega), fun _ => ⟨(by (try unfold am_in); (try unfold in_ at *); omega), (by (try unfold am_in); (try unfold in_ at *); omega), by omega, by ((try unfold am_in); (try unfold in_ at *); omega)⟩, fun v ev => ⟨(by (try unfold am_in); (try unfold in_ at *); omega), ih a v (y + 1) (by omega) (by omega) ha ?_⟩⟩
      unfold mx_ at hx ⊢
      rw [fI_s _ _ y0, ← hx, ev]
  have first : ∀ (j : Nat) (a x : Int), x + j = μ 1 25 → 0 ≤ x → a = cnt_ (fun i => decide (rg μ i 2 = s)) (fun _ => 1) x → at_I kR 3 mX10_source 46 [vR 0, vI s, vI w, vI a, vI 0, vI x] [] m2 (fun z m => z = q_source (pR μ) s w ∧ rq_ μ m) := by
    intro j
    induction j with
    | zero =>
      intro a x hx x0 ha
      exact vc_X10_source_46 ⟨fun _ => second (rS μ s 1).toNat a 0 0 (by ((try unfold am_in); (try unfold in_ at *); omega)) (by omega) (by rw [ha, show x = μ 1 25 by omega]) rfl, fun q => by rw [e21] at q; omega⟩
    | succ j ih =>
      intro a x hx x0 ha
      have ab := cnt_le (p := fun i => decide (rg μ i 2 = s)) (n := x) x0
      rw [← ha] at ab
      refine vc_X10_source_46 ⟨fun q => by rw [e21] at q; omega, fun q => ⟨(by (try unfold am_in); (try unfold in_ at *); omega), (by (try unfold am_in); (try unfold in_ at *); omega), fun v ev => ⟨by rw [ev]; split <;> ((try unfold am_in); (try unfold in_ at *); omega), (by (try unfold am_in); (try unfold in_ at *); omega), ih _ (x + 1) (by omega) (by omega) ?_⟩⟩⟩
      rw [cnt_s x0, ← ha, ev, eg]
      simp only [decide_eq_true_eq]
  exact first (μ 1 25).toNat 0 0 (by ((try unfold am_in); (try unfold in_ at *); omega)) (by omega) rfl
theorem vc_X10_clip_0 {x1 x2 : Int} {μ : am_M} {Q : Int → am_M → Prop} (h : (in_ 0 49 (μ 1 25)) ∧ ((0 ≤ x1 ∧ x1 < μ 1 25 → (0 ≤ x2 ∧ x2 ≤ 9 → (8 ≤ x2 → ∃ P : am_M → Prop, cl_V kR 2 mX10_laysWaves [vR 0] μ P ∧ (∀ m2 : am_M, P m2 → at_I kR 3 mX10_clip 45 [vR 0, vI x1, vI x2, vI 0, vI 0, vU] [] m2 Q)) ∧ (x2 < 8 → (in_ 0 48 x1) ∧ (in_ 0 8 x2) ∧ (Q (rg μ x1 x2) μ))) ∧ (¬ (0 ≤ x2 ∧ x2 ≤ 9) → Q (-2) μ)) ∧ (¬ (0 ≤ x1 ∧ x1 < μ 1 25) → Q (-1) μ))) : at_I kR 3 mX10_clip 0 [vR 0, vI x1, vI x2, vU, vU, vU] [] μ Q := by
  refine s_aload_n dX10_clip_0 rfl rfl ?_
  refine s_iload_n dX10_clip_1 rfl rfl ?_
  obtain ⟨p0, h⟩ := h
  refine s_callV (As := [vI x1]) (rest := []) (k := 0) dX10_clip_2 lkX10_165 rn0 ⟨by rw [rk0]; rfl, by rw [rk0]; decide⟩ lmX10_isClip rfl rfl (Nat.le_of_ble_eq_true rfl) (by decide) (Nat.le_refl 0) (Nat.le_refl 0) (hC := sp_X10_isClip (Q := fun z m => bI (0 ≤ x1 ∧ x1 < μ 1 25) = z ∧ μ = m) p0 ⟨rfl, rfl⟩) (fun r n2 S2 m2 hP => ?_)
  obtain ⟨⟨rfl, rfl⟩, z, rfl, rfl, rfl⟩ := hP
  refine s_if_ne dX10_clip_5 (tgt := 10) (by decide) (fun cc => ?_) (fun cc => ?_)
  · have h := h.1 (bI_ne cc)
    refine s_iload_n dX10_clip_10 rfl rfl ?_
    refine s_iconst dX10_clip_11 (by decide) ?_
    refine s_bipush dX10_clip_12 (by decide) ?_
    refine s_callS (As := [vI x2, vI 0, vI 9]) (rest := []) dX10_clip_14 lkX10_103 lmX10_isIn rfl rfl (Nat.le_of_ble_eq_true rfl) (by decide) (Nat.le_refl 0) (Nat.le_refl 0) (hC := sp_X10_isIn (Q := fun z m => bI (0 ≤ x2 ∧ x2 ≤ 9) = z ∧ μ = m)  ⟨rfl, rfl⟩) (fun r n2 S2 m2 hP => ?_)
    obtain ⟨⟨rfl, rfl⟩, z, rfl, rfl, rfl⟩ := hP
    refine s_if_ne dX10_clip_17 (tgt := 23) (by decide) (fun cc => ?_) (fun cc => ?_)
    · have h := h.1 (bI_ne cc)
      refine s_iload_n dX10_clip_23 rfl rfl ?_
      refine s_bipush dX10_clip_24 (by decide) ?_
      refine s_icmp_ge dX10_clip_26 (tgt := 36) (by decide) (fun cc => ?_) (fun cc => ?_)
      · have h := h.1 cc
        refine s_aload_n dX10_clip_36 rfl rfl ?_
        obtain ⟨P, hcl, h⟩ := h
        refine s_callV (As := []) (rest := []) (k := 0) dX10_clip_37 lkX10_123 rn0 ⟨by rw [rk0]; rfl, by rw [rk0]; decide⟩ lmX10_laysWaves rfl rfl (Nat.le_of_ble_eq_true rfl) (by decide) (Nat.le_refl 0) (Nat.le_refl 0) (hC := hcl) (fun r n2 S2 m2 hP => ?_)
        obtain ⟨⟨rfl, rfl⟩, rfl, hq⟩ := hP
        have h := h m2 hq
        refine s_iconst dX10_clip_40 (by decide) ?_
        refine s_istore_n dX10_clip_41 rfl (by decide) (L' := [vR 0, vI x1, vI x2, vI 0, vU, vU]) rfl ?_
        refine s_iconst dX10_clip_42 (by decide) ?_
        refine s_istore dX10_clip_43 (by decide) (L' := [vR 0, vI x1, vI x2, vI 0, vI 0, vU]) rfl ?_
        exact h
      · have h := h.2 cc
        refine s_aload_n dX10_clip_29 rfl rfl ?_
        refine s_iload_n dX10_clip_30 rfl rfl ?_
        refine s_iload_n dX10_clip_31 rfl rfl ?_
        obtain ⟨p0, p1, h⟩ := h
        refine s_callV (As := [vI x1, vI x2]) (rest := []) (k := 0) dX10_clip_32 lkX10_126 rn0 ⟨by rw [rk0]; rfl, by rw [rk0]; decide⟩ lmX10_of rfl rfl (Nat.le_of_ble_eq_true rfl) (by decide) (Nat.le_refl 0) (Nat.le_refl 0) (hC := sp_X10_of (Q := fun z m => rg μ x1 x2 = z ∧ μ = m) p0 p1 ⟨rfl, rfl⟩) (fun r n2 S2 m2 hP => ?_)
        obtain ⟨⟨rfl, rfl⟩, z, rfl, rfl, rfl⟩ := hP
        exact s_ireturn dX10_clip_35 (Or.inl rfl) ⟨⟨rfl, rfl⟩, _, rfl, h⟩
    · have h := h.2 (bI_eq cc)
      refine s_bipush dX10_clip_20 (by decide) ?_
      exact s_ireturn dX10_clip_22 (Or.inl rfl) ⟨⟨rfl, rfl⟩, _, rfl, h⟩
  · have h := h.2 (bI_eq cc)
    refine s_iconst dX10_clip_8 (by decide) ?_
    exact s_ireturn dX10_clip_9 (Or.inl rfl) ⟨⟨rfl, rfl⟩, _, rfl, h⟩
theorem vc_X10_clip_45 {x1 x2 x3 x4 : Int} {μ : am_M} {Q : Int → am_M → Prop} (h : (in_ 0 48 x1) ∧ (in_ 0 8 4) ∧ ((rg μ x1 4 ≤ x4 → Q x3 μ) ∧ (x4 < rg μ x1 4 → ∃ P : Int → am_M → Prop, cl_I kR 2 mX10_clipValue [vR 0, vI x1, vI x4] μ P ∧ (∀ (z1 : Int) (m2 : am_M), P z1 m2 → ((x2 = 9 → (am_in (x3 + z1)))) ∧ (∀ v3 : Int, v3 = (if x2 = 9 then x3 + z1 else (if x3 < z1 then z1 else x3)) → (am_in (x4 + 1)) ∧ (at_I kR 3 mX10_clip 45 [vR 0, vI x1, vI x2, vI v3, vI (x4 + 1), vU] [] m2 Q)))))) : at_I kR 3 mX10_clip 45 [vR 0, vI x1, vI x2, vI x3, vI x4, vU] [] μ Q := by
  refine s_iload dX10_clip_45 rfl ?_
  refine s_aload_n dX10_clip_47 rfl rfl ?_
  refine s_iload_n dX10_clip_48 rfl rfl ?_
  refine s_iconst dX10_clip_49 (by decide) ?_
  obtain ⟨p0, p1, h⟩ := h
  refine s_callV (As := [vI x1, vI 4]) (rest := [vI x4]) (k := 0) dX10_clip_50 lkX10_126 rn0 ⟨by rw [rk0]; rfl, by rw [rk0]; decide⟩ lmX10_of rfl rfl (Nat.le_of_ble_eq_true rfl) (by decide) (Nat.le_refl 0) (Nat.le_refl 0) (hC := sp_X10_of (Q := fun z m => rg μ x1 4 = z ∧ μ = m) p0 p1 ⟨rfl, rfl⟩) (fun r n2 S2 m2 hP => ?_)
  obtain ⟨⟨rfl, rfl⟩, z, rfl, rfl, rfl⟩ := hP
  refine s_icmp_ge dX10_clip_53 (tgt := 97) (by decide) (fun cc => ?_) (fun cc => ?_)
  · have h := h.1 cc
    refine s_iload_n dX10_clip_97 rfl rfl ?_
    exact s_ireturn dX10_clip_98 (Or.inl rfl) ⟨⟨rfl, rfl⟩, _, rfl, h⟩
  · have h := h.2 cc
    refine s_aload_n dX10_clip_56 rfl rfl ?_
    refine s_iload_n dX10_clip_57 rfl rfl ?_
    refine s_iload dX10_clip_58 rfl ?_
    obtain ⟨P, hcl, h⟩ := h
    refine s_callV (As := [vI x1, vI x4]) (rest := []) (k := 0) dX10_clip_60 lkX10_146 rn0 ⟨by rw [rk0]; rfl, by rw [rk0]; decide⟩ lmX10_clipValue rfl rfl (Nat.le_of_ble_eq_true rfl) (by decide) (Nat.le_refl 0) (Nat.le_refl 0) (hC := hcl) (fun r n2 S2 m2 hP => ?_)
    obtain ⟨⟨rfl, rfl⟩, z1, rfl, hq⟩ := hP
    have h := h z1 m2 hq
    refine s_istore dX10_clip_63 (by decide) (L' := [vR 0, vI x1, vI x2, vI x3, vI x4, vI z1]) rfl ?_
    refine s_iload_n dX10_clip_65 rfl rfl ?_
    refine s_bipush dX10_clip_66 (by decide) ?_
    obtain ⟨hsd, h⟩ := h
    have kj4 : ∀ (v3 : Int), ((am_in (x4 + 1)) ∧ (at_I kR 3 mX10_clip 45 [vR 0, vI x1, vI x2, vI v3, vI (x4 + 1), vU] [] m2 Q)) → at_I kR 3 mX10_clip 90 [vR 0, vI x1, vI x2, vU, vI x4, vU] [vI v3] m2 Q := by
      intro v3 h
      refine s_istore_n dX10_clip_90 rfl (by decide) (L' := [vR 0, vI x1, vI x2, vI v3, vI x4, vU]) rfl ?_
      obtain ⟨c, h⟩ := h
      refine s_iinc dX10_clip_91 rfl (am_w_id c) (by decide) (L' := [vR 0, vI x1, vI x2, vI v3, vI (x4 + 1), vU]) rfl ?_
      refine s_goto dX10_clip_94 (tgt := 45) (by decide) ?_
      exact h
    refine s_icmp_ne dX10_clip_68 (tgt := 78) (by decide) (fun cc => ?_) (fun cc => ?_)
    · have hp0 := cc
      refine s_iload dX10_clip_78 rfl ?_
      refine s_iload_n dX10_clip_80 rfl rfl ?_
      refine s_icmp_le dX10_clip_81 (tgt := 89) (by decide) (fun cc => ?_) (fun cc => ?_)
      · have hp1 := cc
        refine s_iload_n dX10_clip_89 rfl rfl ?_
        exact am_lesS (kj4 x3 (h x3 (by rw [if_neg hp0, if_neg (Int.not_lt.mpr hp1)]))) ⟨Or.inr rfl, Or.inr rfl, Or.inr rfl, Or.inl rfl, Or.inr rfl, Or.inl rfl, trivial⟩
      · have hp1 := cc
        refine s_iload dX10_clip_84 rfl ?_
        refine s_goto dX10_clip_86 (tgt := 90) (by decide) ?_
        exact am_lesS (kj4 z1 (h z1 (by rw [if_neg hp0, if_pos hp1]))) ⟨Or.inr rfl, Or.inr rfl, Or.inr rfl, Or.inl rfl, Or.inr rfl, Or.inl rfl, trivial⟩
    · have hp0 := cc
      have hsd := hsd hp0
      refine s_iload_n dX10_clip_71 rfl rfl ?_
      refine s_iload dX10_clip_72 rfl ?_
      have c := hsd
      refine s_iadd dX10_clip_74 (am_w_id c) ?_
      refine s_goto dX10_clip_75 (tgt := 90) (by decide) ?_
      exact am_lesS (kj4 (x3 + z1) (h (x3 + z1) (by rw [if_pos hp0]))) ⟨Or.inr rfl, Or.inr rfl, Or.inr rfl, Or.inl rfl, Or.inr rfl, Or.inl rfl, trivial⟩
theorem ve_X10_clip {x1 x2 : Int} {μ : am_M} {Q : Int → am_M → Prop} (h : at_I kR 3 mX10_clip 0 [vR 0, vI x1, vI x2, vU, vU, vU] [] μ Q) : cl_I kR 3 mX10_clip [vR 0, vI x1, vI x2] μ Q := am_intro pmX10_clip (Nat.le_of_ble_eq_true rfl) rfl h
theorem sp_X10_clip {μ : am_M} {c w : Int} (hV : vP (pR μ)) : cl_I kR 3 mX10_clip [vR 0, vI c, vI w] μ (fun z m => z = q_clip (pR μ) c w ∧ rq_ μ m) := by
  have hn : in_ 0 25 (μ 1 25) := hV.hn
  refine ve_X10_clip (vc_X10_clip_0 ⟨(by (try unfold am_in); (try unfold in_ at *); omega), fun hc => ?_, fun hc => ⟨(cif_t hc).symm, rq_rf⟩⟩)
  have e1 : q_clip (pR μ) c w = _ := cif_f (fun h => h hc)
  refine ⟨fun cw => ?_, fun cw => ⟨(e1.trans (cif_t (by omega))).symm, rq_rf⟩⟩
  have e2 := e1.trans (cif_f (by omega))
  refine ⟨fun w8 => ⟨_, sp_X10_laysWaves hV, fun m2 ⟨h1, h2⟩ => ?_⟩, fun w8 => ⟨(by (try unfold am_in); (try unfold in_ at *); omega), (by (try unfold am_in); (try unfold in_ at *); omega), by rw [e2, if_neg (by omega), if_neg (by omega)]; rfl, rq_rf⟩⟩
  have e21 : m2 1 = μ 1 := h1 1 (by decide)
  obtain ⟨eS, eg, eT⟩ := r1_e e21
  have hq := rq_of h1 (by decide)
  have o := (hV.hc c hc.1 hc.2).1
  change okC (rg μ c) at o
  unfold okC at o
  have b4 := o.2.2.2.2.1
  have cvb : ∀ k, 0 ≤ k → k < rg μ c 4 → in_ 0 1000 (cv_ (μ 1 469) (rS μ) (rg μ) c k) := fun k k0 k1 => cv_b hV hc ⟨k0, k1⟩ _
  have p2 : pR m2 = pR μ := rq_P hq
  have : ∀ (j : Nat) (x k : Int), k + j = rg μ c 4 → 0 ≤ k → x = (if w = 9 then sm_ (cv_ (μ 1 469) (rS μ) (rg μ) c) k else mx_ (cv_ (μ 1 469) (rS μ) (rg μ) c) k) → at_I kR 3 mX10_clip 45 [vR 0, vI c, vI w, vI x, vI k, vU] [] m2 (fun z m => z = q_clip (pR μ) c w ∧ rq_ μ m) := by
    intro j
    induction j with
    | zero =>
      intro x k hk k0 hx
      refine vc_X10_clip_45 ⟨(by (try unfold am_in); (try unfold in_ at *); omega), (by (try unfold am_in); (try unfold in_ at *); omega), fun _ => ⟨?_, hq⟩, fun q => by rw [eg] at q; omega⟩
      rw [e2, hx, show k = rg μ c 4 by omega]
      by_cases c9 : w = 9
      · rw [if_pos c9, if_neg (by omega), if_pos c9]; rfl
      · rw [if_neg c9, if_pos (by omega)]; rfl
    | succ j ih =>
      intro x k hk k0 hx
      have cb := cvb k k0 (by omega)
      refine vc_X10_clip_45 ⟨(by (try unfold am_in); (try unfold in_ at *); omega), (by (try unfold am_in); (try unfold in_ at *); omega), fun q => by rw [eg] at q; omega, fun q => ⟨_, sp_X10_clipValue (Q := fun z m => z = cv_ (m2 1 469) (rS m2) (rg m2) c k ∧ m = m2) (by rw [p2]; exact hV) h2 (by rw [e21]; exact hc) ⟨k0, q⟩ ⟨rfl, rfl⟩, ?_⟩⟩
      rintro z m ⟨ez, rfl⟩
      rw [e21, eS, eg] at ez
      refine ⟨fun c9 => ?_, fun v ev => ⟨(by (try unfold am_in); (try unfold in_ at *); omega), ih v (k + 1) (by omega) (by omega) ?_⟩⟩
      · rw [if_pos c9] at hx
        have sb := sm_b (f := cv_ (μ 1 469) (rS μ) (rg μ) c) (n := k) (B := 999) k0 (by omega) (fun i i0 i1 => by have := cvb i i0 (by omega); ((try unfold am_in); (try unfold in_ at *); omega))
        rw [← hx] at sb
        rw [ez]
        ((try unfold am_in); (try unfold in_ at *); omega)
      · rw [ev, ez]
        by_cases c9 : w = 9
        · rw [if_pos c9] at hx ⊢
          rw [if_pos c9]
          unfold sm_ at hx ⊢
          rw [fI_s _ _ k0, ← hx]
        · rw [if_neg c9] at hx ⊢
          rw [if_neg c9]
          unfold mx_ at hx ⊢
          rw [fI_s _ _ k0, ← hx]
  exact this (rg μ c 4).toNat 0 0 (by ((try unfold am_in); (try unfold in_ at *); omega)) (by omega) (by split <;> rfl)
theorem vc_X10_clipAt_0 {x1 x2 : Int} {μ : am_M} {Q : Int → am_M → Prop} (h : ((0 ≤ x1 ∧ x1 < 4 → (0 ≤ x2 ∧ x2 < 600 → (ok_T (rg μ) (μ 1 25))))) ∧ (∀ v1 : Int, v1 = (cif (0 ≤ x1 ∧ x1 < 4) (cif (0 ≤ x2 ∧ x2 < 600) (if ont_ (μ 1 25) (rg μ) x1 x2 < 0 then -6 else ont_ (μ 1 25) (rg μ) x1 x2) (-1)) (-1)) → Q v1 μ)) : at_I kR 3 mX10_clipAt 0 [vR 0, vI x1, vI x2] [] μ Q := by
  refine s_iload_n dX10_clipAt_0 rfl rfl ?_
  refine s_callS (As := [vI x1]) (rest := []) dX10_clipAt_1 lkX10_133 lmX10_isTrack rfl rfl (Nat.le_of_ble_eq_true rfl) (by decide) (Nat.le_refl 0) (Nat.le_refl 0) (hC := sp_X10_isTrack (Q := fun z m => bI (0 ≤ x1 ∧ x1 < 4) = z ∧ μ = m)  ⟨rfl, rfl⟩) (fun r n2 S2 m2 hP => ?_)
  obtain ⟨⟨rfl, rfl⟩, z, rfl, rfl, rfl⟩ := hP
  obtain ⟨hsd, h⟩ := h
  have kj2 : ∀ (v1 : Int), (Q v1 μ) → at_I kR 3 mX10_clipAt 24 [vU, vU, vU] [vI v1] μ Q := by
    intro v1 h
    exact s_ireturn dX10_clipAt_24 (Or.inl rfl) ⟨⟨rfl, rfl⟩, _, rfl, h⟩
  refine s_if_eq dX10_clipAt_4 (tgt := 23) (by decide) (fun cc => ?_) (fun cc => ?_)
  · have hp0 := (bI_eq cc)
    refine s_iconst dX10_clipAt_23 (by decide) ?_
    exact am_lesS (kj2 (-1) (h (-1) (by rw [cif_f hp0]))) ⟨Or.inl rfl, Or.inl rfl, Or.inl rfl, trivial⟩
  · have hp0 := (bI_ne cc)
    have hsd := hsd hp0
    refine s_iload_n dX10_clipAt_7 rfl rfl ?_
    refine s_callS (As := [vI x2]) (rest := []) dX10_clipAt_8 lkX10_175 lmX10_isFrame rfl rfl (Nat.le_of_ble_eq_true rfl) (by decide) (Nat.le_refl 0) (Nat.le_refl 0) (hC := sp_X10_isFrame (Q := fun z m => bI (0 ≤ x2 ∧ x2 < 600) = z ∧ μ = m)  ⟨rfl, rfl⟩) (fun r n2 S2 m2 hP => ?_)
    obtain ⟨⟨rfl, rfl⟩, z, rfl, rfl, rfl⟩ := hP
    refine s_if_eq dX10_clipAt_11 (tgt := 23) (by decide) (fun cc => ?_) (fun cc => ?_)
    · have hp1 := (bI_eq cc)
      refine s_iconst dX10_clipAt_23 (by decide) ?_
      exact am_lesS (kj2 (-1) (h (-1) (by rw [cif_t hp0, cif_f hp1]))) ⟨Or.inl rfl, Or.inl rfl, Or.inl rfl, trivial⟩
    · have hp1 := (bI_ne cc)
      have hsd := hsd hp1
      refine s_aload_n dX10_clipAt_14 rfl rfl ?_
      refine s_iload_n dX10_clipAt_15 rfl rfl ?_
      refine s_iload_n dX10_clipAt_16 rfl rfl ?_
      have p0 := hsd
      refine s_callV (As := [vI x1, vI x2]) (rest := []) (k := 0) dX10_clipAt_17 lkX10_178 rn0 ⟨by rw [rk0]; rfl, by rw [rk0]; decide⟩ lmX10_clipOn rfl rfl (Nat.le_of_ble_eq_true rfl) (by decide) (Nat.le_refl 0) (Nat.le_refl 0) (hC := sp_X10_clipOn (Q := fun z m => (if ont_ (μ 1 25) (rg μ) x1 x2 < 0 then -6 else ont_ (μ 1 25) (rg μ) x1 x2) = z ∧ μ = m) p0 ⟨rfl, rfl⟩) (fun r n2 S2 m2 hP => ?_)
      obtain ⟨⟨rfl, rfl⟩, z, rfl, rfl, rfl⟩ := hP
      refine s_goto dX10_clipAt_20 (tgt := 24) (by decide) ?_
      exact am_lesS (kj2 (if ont_ (μ 1 25) (rg μ) x1 x2 < 0 then -6 else ont_ (μ 1 25) (rg μ) x1 x2) (h (if ont_ (μ 1 25) (rg μ) x1 x2 < 0 then -6 else ont_ (μ 1 25) (rg μ) x1 x2) (by rw [cif_t hp0, cif_t hp1]))) ⟨Or.inl rfl, Or.inl rfl, Or.inl rfl, trivial⟩
theorem ve_X10_clipAt {x1 x2 : Int} {μ : am_M} {Q : Int → am_M → Prop} (h : at_I kR 3 mX10_clipAt 0 [vR 0, vI x1, vI x2] [] μ Q) : cl_I kR 3 mX10_clipAt [vR 0, vI x1, vI x2] μ Q := am_intro pmX10_clipAt (Nat.le_of_ble_eq_true rfl) rfl h
theorem sp_X10_clipAt {μ : am_M} {t f : Int} (hV : vP (pR μ)) : cl_I kR 3 mX10_clipAt [vR 0, vI t, vI f] μ (fun z m => z = q_clipAt (pR μ) t f ∧ rq_ μ m) := by
  refine ve_X10_clipAt (vc_X10_clipAt_0 ⟨fun _ _ => hV.okT, fun v e => ⟨?_, rq_rf⟩⟩)
  rw [e]
  unfold q_clipAt
  by_cases c : 0 ≤ t ∧ t < 4
  · rw [cif_t c]
    by_cases c2 : 0 ≤ f ∧ f < 600
    · rw [cif_t c2, cif_f (fun h => h ⟨c, c2⟩)]; rfl
    · rw [cif_f c2, cif_t (fun h => c2 h.2)]
  · rw [cif_f c, cif_t (fun h => c h.1)]
theorem vc_X10_room_0 {x1 x2 x3 : Int} {μ : am_M} {Q : Int → am_M → Prop} (h : (0 ≤ x1 ∧ x1 < 4 → (¬ (0 ≤ x2 ∧ x2 ≤ 599) → Q (-2) μ) ∧ (0 ≤ x2 ∧ x2 ≤ 599 → (1 ≤ x3 ∧ x3 ≤ 600 → ∀ m1 : am_M, m1 = am_st μ 14 (am_up (μ 14) 0 x1) → ∀ m2 : am_M, m2 = am_st m1 14 (am_up (m1 14) 4 x3) → at_I kR 3 mX10_room 51 [vR 0, vU, vU, vI x3, vI x2] [] m2 Q) ∧ (¬ (1 ≤ x3 ∧ x3 ≤ 600) → Q (-2) μ))) ∧ (¬ (0 ≤ x1 ∧ x1 < 4) → Q (-1) μ)) : at_I kR 3 mX10_room 0 [vR 0, vI x1, vI x2, vI x3, vU] [] μ Q := by
  refine s_iload_n dX10_room_0 rfl rfl ?_
  refine s_callS (As := [vI x1]) (rest := []) dX10_room_1 lkX10_133 lmX10_isTrack rfl rfl (Nat.le_of_ble_eq_true rfl) (by decide) (Nat.le_refl 0) (Nat.le_refl 0) (hC := sp_X10_isTrack (Q := fun z m => bI (0 ≤ x1 ∧ x1 < 4) = z ∧ μ = m)  ⟨rfl, rfl⟩) (fun r n2 S2 m2 hP => ?_)
  obtain ⟨⟨rfl, rfl⟩, z, rfl, rfl, rfl⟩ := hP
  refine s_if_ne dX10_room_4 (tgt := 9) (by decide) (fun cc => ?_) (fun cc => ?_)
  · have h := h.1 (bI_ne cc)
    refine s_iload_n dX10_room_9 rfl rfl ?_
    refine s_iconst dX10_room_10 (by decide) ?_
    refine s_sipush dX10_room_11 (by decide) ?_
    refine s_callS (As := [vI x2, vI 0, vI 599]) (rest := []) dX10_room_14 lkX10_103 lmX10_isIn rfl rfl (Nat.le_of_ble_eq_true rfl) (by decide) (Nat.le_refl 0) (Nat.le_refl 0) (hC := sp_X10_isIn (Q := fun z m => bI (0 ≤ x2 ∧ x2 ≤ 599) = z ∧ μ = m)  ⟨rfl, rfl⟩) (fun r n2 S2 m2 hP => ?_)
    obtain ⟨⟨rfl, rfl⟩, z, rfl, rfl, rfl⟩ := hP
    refine s_if_eq dX10_room_17 (tgt := 31) (by decide) (fun cc => ?_) (fun cc => ?_)
    · have h := h.1 (bI_eq cc)
      refine s_bipush dX10_room_31 (by decide) ?_
      exact s_ireturn dX10_room_33 (Or.inl rfl) ⟨⟨rfl, rfl⟩, _, rfl, h⟩
    · have h := h.2 (bI_ne cc)
      refine s_iload_n dX10_room_20 rfl rfl ?_
      refine s_iconst dX10_room_21 (by decide) ?_
      refine s_sipush dX10_room_22 (by decide) ?_
      refine s_callS (As := [vI x3, vI 1, vI 600]) (rest := []) dX10_room_25 lkX10_103 lmX10_isIn rfl rfl (Nat.le_of_ble_eq_true rfl) (by decide) (Nat.le_refl 0) (Nat.le_refl 0) (hC := sp_X10_isIn (Q := fun z m => bI (1 ≤ x3 ∧ x3 ≤ 600) = z ∧ μ = m)  ⟨rfl, rfl⟩) (fun r n2 S2 m2 hP => ?_)
      obtain ⟨⟨rfl, rfl⟩, z, rfl, rfl, rfl⟩ := hP
      refine s_if_ne dX10_room_28 (tgt := 34) (by decide) (fun cc => ?_) (fun cc => ?_)
      · have h := h.1 (bI_ne cc)
        refine s_aload_n dX10_room_34 rfl rfl ?_
        refine s_getR dX10_room_35 flX10_50 rn0 rk0 rfl rr0_18 ?_
        refine s_iconst dX10_room_38 (by decide) ?_
        refine s_iload_n dX10_room_39 rfl rfl ?_
        obtain ⟨m1, hm1⟩ : ∃ x : am_M, x = am_st μ 14 (am_up (μ 14) 0 x1) := ⟨_, rfl⟩
        have h := h m1 hm1
        refine s_iast dX10_room_40 rn14 rk14 rl14 (by decide) (by decide) hm1.symm ?_
        refine s_aload_n dX10_room_41 rfl rfl ?_
        refine s_getR dX10_room_42 flX10_50 rn0 rk0 rfl rr0_18 ?_
        refine s_iconst dX10_room_45 (by decide) ?_
        refine s_iload_n dX10_room_46 rfl rfl ?_
        obtain ⟨m2, hm2⟩ : ∃ x : am_M, x = am_st m1 14 (am_up (m1 14) 4 x3) := ⟨_, rfl⟩
        have h := h m2 hm2
        refine s_iast dX10_room_47 rn14 rk14 rl14 (by decide) (by decide) hm2.symm ?_
        refine s_iload_n dX10_room_48 rfl rfl ?_
        refine s_istore dX10_room_49 (by decide) (L' := [vR 0, vI x1, vI x2, vI x3, vI x2]) rfl ?_
        exact am_lesS h ⟨Or.inr rfl, Or.inl rfl, Or.inl rfl, Or.inr rfl, Or.inr rfl, trivial⟩
      · have h := h.2 (bI_eq cc)
        refine s_bipush dX10_room_31 (by decide) ?_
        exact s_ireturn dX10_room_33 (Or.inl rfl) ⟨⟨rfl, rfl⟩, _, rfl, h⟩
  · have h := h.2 (bI_eq cc)
    refine s_iconst dX10_room_7 (by decide) ?_
    exact s_ireturn dX10_room_8 (Or.inl rfl) ⟨⟨rfl, rfl⟩, _, rfl, h⟩
theorem vc_X10_room_51 {x3 x4 : Int} {μ : am_M} {Q : Int → am_M → Prop} (h : (am_in (x4 + x3)) ∧ ((600 < x4 + x3 → Q (-6) μ) ∧ (x4 + x3 ≤ 600 → ∀ m1 : am_M, m1 = am_st μ 14 (am_up (μ 14) 1 x4) → (ok_T (rg m1) (m1 1 25)) ∧ (am_in (m1 14 1 + m1 14 4)) ∧ ((¬ fre_ (rg m1) (m1 1 25) (m1 14 0) (m1 14 1) (m1 14 4) (-1) → (am_in (x4 + 1)) ∧ (at_I kR 3 mX10_room 51 [vR 0, vU, vU, vI x3, vI (x4 + 1)] [] m1 Q)) ∧ (¬ (¬ fre_ (rg m1) (m1 1 25) (m1 14 0) (m1 14 1) (m1 14 4) (-1)) → Q x4 m1))))) : at_I kR 3 mX10_room 51 [vR 0, vU, vU, vI x3, vI x4] [] μ Q := by
  refine s_iload dX10_room_51 rfl ?_
  refine s_iload_n dX10_room_53 rfl rfl ?_
  obtain ⟨c, h⟩ := h
  refine s_iadd dX10_room_54 (am_w_id c) ?_
  refine s_sipush dX10_room_55 (by decide) ?_
  refine s_icmp_gt dX10_room_58 (tgt := 86) (by decide) (fun cc => ?_) (fun cc => ?_)
  · have h := h.1 cc
    refine s_bipush dX10_room_86 (by decide) ?_
    exact s_ireturn dX10_room_88 (Or.inl rfl) ⟨⟨rfl, rfl⟩, _, rfl, h⟩
  · have h := h.2 cc
    refine s_aload_n dX10_room_61 rfl rfl ?_
    refine s_getR dX10_room_62 flX10_50 rn0 rk0 rfl rr0_18 ?_
    refine s_iconst dX10_room_65 (by decide) ?_
    refine s_iload dX10_room_66 rfl ?_
    obtain ⟨m1, hm1⟩ : ∃ x : am_M, x = am_st μ 14 (am_up (μ 14) 1 x4) := ⟨_, rfl⟩
    have h := h m1 hm1
    refine s_iast dX10_room_68 rn14 rk14 rl14 (by decide) (by decide) hm1.symm ?_
    refine s_aload_n dX10_room_69 rfl rfl ?_
    refine s_iconst dX10_room_70 (by decide) ?_
    obtain ⟨p0, p1, h⟩ := h
    refine s_callV (As := [vI (-1)]) (rest := []) (k := 0) dX10_room_71 lkX10_159 rn0 ⟨by rw [rk0]; rfl, by rw [rk0]; decide⟩ lmX10_isShared rfl rfl (Nat.le_of_ble_eq_true rfl) (by decide) (Nat.le_refl 0) (Nat.le_refl 0) (hC := sp_X10_isShared (Q := fun z m => bI (¬ fre_ (rg m1) (m1 1 25) (m1 14 0) (m1 14 1) (m1 14 4) (-1)) = z ∧ m1 = m) p0 p1 ⟨rfl, rfl⟩) (fun r n2 S2 m2 hP => ?_)
    obtain ⟨⟨rfl, rfl⟩, z, rfl, rfl, rfl⟩ := hP
    refine s_if_ne dX10_room_74 (tgt := 80) (by decide) (fun cc => ?_) (fun cc => ?_)
    · have h := h.1 (bI_ne cc)
      obtain ⟨c, h⟩ := h
      refine s_iinc dX10_room_80 rfl (am_w_id c) (by decide) (L' := [vR 0, vU, vU, vI x3, vI (x4 + 1)]) rfl ?_
      refine s_goto dX10_room_83 (tgt := 51) (by decide) ?_
      exact h
    · have h := h.2 (bI_eq cc)
      refine s_iload dX10_room_77 rfl ?_
      exact s_ireturn dX10_room_79 (Or.inl rfl) ⟨⟨rfl, rfl⟩, _, rfl, h⟩
theorem ve_X10_room {x1 x2 x3 : Int} {μ : am_M} {Q : Int → am_M → Prop} (h : at_I kR 3 mX10_room 0 [vR 0, vI x1, vI x2, vI x3, vU] [] μ Q) : cl_I kR 3 mX10_room [vR 0, vI x1, vI x2, vI x3] μ Q := am_intro pmX10_room (Nat.le_of_ble_eq_true rfl) rfl h
theorem sp_X10_room {μ : am_M} {t f l : Int} (hV : vP (pR μ)) : cl_I kR 3 mX10_room [vR 0, vI t, vI f, vI l] μ (fun z m => z = q_room (pR μ) t f l ∧ rq_ μ m) := by
  have bad : (f < 0 ∨ 600 ≤ f ∨ l < 1 ∨ 600 < l) → (0 ≤ t ∧ t < 4) → (-2 : Int) = q_room (pR μ) t f l ∧ rq_ μ μ := fun h1 h2 => ⟨((cif_f (fun h => h h2)).trans (cif_t h1)).symm, rq_rf⟩
  refine ve_X10_room (vc_X10_room_0 ⟨fun c => ⟨fun c1 => bad (by omega) c, fun c1 => ⟨fun c2 m1 e1 m2 e2 => ?_, fun c2 => bad (by omega) c⟩⟩, fun c => ⟨(cif_t c).symm, rq_rf⟩⟩)
  rw [show q_room (pR μ) t f l = _ from (cif_f (fun h => h c)).trans (cif_f (by omega))]
  have f2 : fr_ [14] μ m2 := by rw [e2, e1]; exact fr_tr (fr_st (by simp)) (fr_st (by simp))
  have a0 : m2 14 0 = t := by rw [e2, st_s, up_n (by decide), e1, st_s, up_s]
  have a4 : m2 14 4 = l := by rw [e2, st_s, up_s]
  have : ∀ (k : Nat) (x : Int) (m : am_M), x + k = 601 - l → f ≤ x → fr_ [14] μ m → m 14 0 = t → m 14 4 = l → no_ (fun s => f ≤ s ∧ fre_ (rg μ) (μ 1 25) t s l (-1)) x → at_I kR 3 mX10_room 51 [vR 0, vU, vU, vI l, vI x] [] m (fun z m => z = fst_ (fun s => f ≤ s ∧ fre_ (rg μ) (μ 1 25) t s l (-1)) (601 - l) (-6) ∧ rq_ μ m) := by
    intro k
    induction k with
    | zero =>
      intro x m hx hf hfr h0 h4 hn
      refine vc_X10_room_51 ⟨(by (try unfold am_in); (try unfold in_ at *); omega), fun _ => ⟨?_, rq_of hfr (by decide)⟩, fun q => by omega⟩
      rw [show x = 601 - l by omega] at hn
      exact (no_f hn).symm
    | succ k ih =>
      intro x m hx hf hfr h0 h4 hn
      refine vc_X10_room_51 ⟨(by (try unfold am_in); (try unfold in_ at *); omega), fun q => by omega, fun q m1 e1 => ?_⟩
      have f1 : fr_ [14] μ m1 := by rw [e1]; exact fr_tr hfr (fr_st (by simp))
      have e11 : m1 1 = μ 1 := f1 1 (by decide)
      obtain ⟨eS, eg, eT⟩ := r1_e e11
      have b0 : m1 14 0 = t := by rw [e1, st_s, up_n (by decide), h0]
      have b1 : m1 14 1 = x := by rw [e1, st_s, up_s]
      have b4 : m1 14 4 = l := by rw [e1, st_s, up_n (by decide), h4]
      rw [b0, b1, b4, eg, e11]
      refine ⟨hV.okT, (by (try unfold am_in); (try unfold in_ at *); omega), fun c4 => ⟨(by (try unfold am_in); (try unfold in_ at *); omega), ih (x + 1) m1 (by omega) (by omega) f1 b0 b4 (no_s hn (fun h => c4 h.2))⟩, fun c4 => ⟨?_, rq_of f1 (by decide)⟩⟩
      exact (no_t hn (by omega) (by omega) ⟨hf, Classical.byContradiction c4⟩).symm
  by_cases hfl : f ≤ 601 - l
  · exact this (601 - l - f).toNat f m2 (by omega) (by omega) f2 a0 a4 (fun j j0 j1 h => by have := h.1; omega)
  · refine vc_X10_room_51 ⟨(by (try unfold am_in); (try unfold in_ at *); omega), fun _ => ⟨?_, rq_of f2 (by decide)⟩, fun q => by omega⟩
    exact (no_f (fun j j0 j1 h => by have := h.1; omega)).symm

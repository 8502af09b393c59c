/-! the class's sound: the values of sources -/
theorem ush_nn (x : Int) : 0 ≤ am_ushr x 16 := by
  unfold am_ushr
  have h : ((Int32.ofInt 16).toUInt32 &&& Int32.toUInt32 31) = 16 := by decide
  rw [h]
  generalize (Int32.ofInt x).toUInt32 = a
  have h2 : (a >>> 16).toNat < 65536 := by
    rw [UInt32.toNat_shiftRight]
    have := a.toNat_lt
    show a.toNat >>> 16 < 65536
    rw [Nat.shiftRight_eq_div_pow]
    omega
  show 0 ≤ ((a >>> 16).toBitVec).toInt
  rw [BitVec.toInt_eq_toNat_of_lt (by show 2 * (a >>> 16).toNat < 2 ^ 32; omega)]
  omega
theorem mulb {x y A B : Int} (h0 : 0 ≤ x) (h1 : x ≤ A) (h2 : 0 ≤ y) (h3 : y ≤ B) : 0 ≤ x * y ∧ x * y ≤ A * B := ⟨Int.mul_nonneg h0 h2, Int.mul_le_mul h1 h3 h2 (by omega)⟩
def zz_ (b : Int) : Nat → Int
  | 0 => b
  | k + 1 => am_w (am_w (zz_ b k * 1103515245) + 12345)
/-- a source's value at a frame -/
def wav_ (S : Tb) (s i : Int) : Int := if S s 0 = 1 then S s 2 + Int.tdiv ((S s 3 - S s 2) * i) (S s 1) else if S s 0 = 2 then (if (i / S s 3) % 2 = 0 then S s 2 else 0) else if S s 0 = 3 then am_ushr (zz_ (S s 3) (i.toNat + 1)) 16 % (S s 2 + 1) else S s 2
def ok_S2 (S : Tb) (n : Int) : Prop := ∀ i, 0 ≤ i → i < n → S i 0 = 2 → 1 ≤ S i 3
theorem ramp_b {a b i n : Int} (ha : in_ 0 1000 a) (hb : in_ 0 1000 b) (h0 : 0 ≤ i) (h1 : i < n) (h2 : n ≤ 200) : (-200000 ≤ (b - a) * i ∧ (b - a) * i ≤ 200000) ∧ (-999 ≤ Int.tdiv ((b - a) * i) n ∧ Int.tdiv ((b - a) * i) n ≤ 999) ∧ in_ 0 1000 (a + Int.tdiv ((b - a) * i) n) := by
  unfold in_ at *
  rcases Int.le_total a b with h | h
  · have m := mulb (x := b - a) (y := i) (A := 999) (B := 200) (by omega) (by omega) h0 (by omega)
    have e : Int.tdiv ((b - a) * i) n = (b - a) * i / n := Int.tdiv_eq_ediv_of_nonneg m.1
    have l1 : 0 ≤ (b - a) * i / n := Int.ediv_nonneg m.1 (by omega)
    have l2 : (b - a) * i / n ≤ b - a := by
      refine Int.le_trans (Int.ediv_le_ediv (by omega) (Int.mul_le_mul_of_nonneg_left (show i ≤ n by omega) (by omega))) ?_
      rw [Int.mul_ediv_cancel _ (by omega)]
      omega
    rw [e]
    omega
  · have m := mulb (x := a - b) (y := i) (A := 999) (B := 200) (by omega) (by omega) h0 (by omega)
    have e0 : (b - a) * i = -((a - b) * i) := by rw [← Int.neg_mul]; congr 1; omega
    have e : Int.tdiv ((b - a) * i) n = -((a - b) * i / n) := by rw [e0, Int.neg_tdiv, Int.tdiv_eq_ediv_of_nonneg m.1]
    have l1 : 0 ≤ (a - b) * i / n := Int.ediv_nonneg m.1 (by omega)
    have l2 : (a - b) * i / n ≤ a - b := by
      refine Int.le_trans (Int.ediv_le_ediv (by omega) (Int.mul_le_mul_of_nonneg_left (show i ≤ n by omega) (by omega))) ?_
      rw [Int.mul_ediv_cancel _ (by omega)]
      omega
    rw [e, e0]
    omega
theorem wav_b {S : Tb} {n s i : Int} (h : ok_S S n) (h2 : ok_S2 S n) (hs : 0 ≤ s ∧ s < n) (h0 : 0 ≤ i) (h1 : i < S s 1) : in_ 0 1000 (wav_ S s i) := by
  obtain ⟨b0, b1, b2, b3⟩ := h.2 s hs.1 hs.2
  unfold wav_
  split
  · exact (ramp_b b2 b3 h0 h1 (by ((try unfold am_in); (try unfold in_ at *); omega))).2.2
  · split
    · split
      · exact b2
      · exact ⟨by omega, by omega⟩
    · split
      · have l1 := Int.emod_nonneg (am_ushr (zz_ (S s 3) (i.toNat + 1)) 16) (show S s 2 + 1 ≠ 0 by ((try unfold am_in); (try unfold in_ at *); omega))
        have l2 := Int.emod_lt_of_pos (am_ushr (zz_ (S s 3) (i.toNat + 1)) 16) (show 0 < S s 2 + 1 by ((try unfold am_in); (try unfold in_ at *); omega))
        ((try unfold am_in); (try unfold in_ at *); omega)
      · exact b2
theorem vc_X7_fillSource_0 {x1 : Int} {μ : am_M} {Q : am_M → Prop} (h : (in_ 0 6 x1) ∧ (in_ 0 4 0) ∧ ((in_ 0 6 x1) ∧ (in_ 0 4 1) ∧ ((in_ 0 6 x1) ∧ (in_ 0 4 2) ∧ ((in_ 0 6 x1) ∧ (in_ 0 4 3) ∧ (at_V kC 2 mX7_fillSource 55 [vR 129, vI x1, vI (tg (μ 4) 4 x1 0), vI (if tg (μ 4) 4 x1 1 < 200 then tg (μ 4) 4 x1 1 else 200), vI (tg (μ 4) 4 x1 2), vI (tg (μ 4) 4 x1 3), vI (tg (μ 4) 4 x1 3), vI 0, vU] [] μ Q))))) : at_V kC 2 mX7_fillSource 0 [vR 129, vI x1, vU, vU, vU, vU, vU, vU, vU] [] μ Q := by
  refine s_aload_n dX7_fillSource_0 rfl rfl ?_
  refine s_getR dX7_fillSource_1 flX7_30 kn129 kk129 rfl kr129_0 ?_
  refine s_iload_n dX7_fillSource_4 rfl rfl ?_
  refine s_iconst dX7_fillSource_5 (by decide) ?_
  obtain ⟨p0, p1, h⟩ := h
  refine s_callV (As := [vI x1, vI 0]) (rest := []) (k := 1) dX7_fillSource_6 lkX7_63 kn1 ⟨by rw [kk1]; rfl, by rw [kk1]; decide⟩ lmX4_sourceNumber rfl rfl (Nat.le_of_ble_eq_true rfl) (by decide) (Nat.le_refl 0) (Nat.le_refl 0) (hC := sp_X4_sourceNumber (Q := fun z m => tg (μ 4) 4 x1 0 = z ∧ μ = m) p0 p1 ⟨rfl, rfl⟩) (fun r n2 S2 m2 hP => ?_)
  obtain ⟨⟨rfl, rfl⟩, z, rfl, rfl, rfl⟩ := hP
  refine s_istore_n dX7_fillSource_9 rfl (by decide) (L' := [vR 129, vI x1, vI (tg (μ 4) 4 x1 0), vU, vU, vU, vU, vU, vU]) rfl ?_
  refine s_sipush dX7_fillSource_10 (by decide) ?_
  refine s_aload_n dX7_fillSource_13 rfl rfl ?_
  refine s_getR dX7_fillSource_14 flX7_30 kn129 kk129 rfl kr129_0 ?_
  refine s_iload_n dX7_fillSource_17 rfl rfl ?_
  refine s_iconst dX7_fillSource_18 (by decide) ?_
  obtain ⟨p0, p1, h⟩ := h
  refine s_callV (As := [vI x1, vI 1]) (rest := [vI 200]) (k := 1) dX7_fillSource_19 lkX7_63 kn1 ⟨by rw [kk1]; rfl, by rw [kk1]; decide⟩ lmX4_sourceNumber rfl rfl (Nat.le_of_ble_eq_true rfl) (by decide) (Nat.le_refl 0) (Nat.le_refl 0) (hC := sp_X4_sourceNumber (Q := fun z m => tg (μ 4) 4 x1 1 = z ∧ μ = m) p0 p1 ⟨rfl, rfl⟩) (fun r n2 S2 m2 hP => ?_)
  obtain ⟨⟨rfl, rfl⟩, z, rfl, rfl, rfl⟩ := hP
  refine s_min dX7_fillSource_22 wmX7_67 (Nat.le_of_ble_eq_true rfl) (by decide) rfl ?_
  refine s_istore_n dX7_fillSource_25 rfl (by decide) (L' := [vR 129, vI x1, vI (tg (μ 4) 4 x1 0), vI (if tg (μ 4) 4 x1 1 < 200 then tg (μ 4) 4 x1 1 else 200), vU, vU, vU, vU, vU]) rfl ?_
  refine s_aload_n dX7_fillSource_26 rfl rfl ?_
  refine s_getR dX7_fillSource_27 flX7_30 kn129 kk129 rfl kr129_0 ?_
  refine s_iload_n dX7_fillSource_30 rfl rfl ?_
  refine s_iconst dX7_fillSource_31 (by decide) ?_
  obtain ⟨p0, p1, h⟩ := h
  refine s_callV (As := [vI x1, vI 2]) (rest := []) (k := 1) dX7_fillSource_32 lkX7_63 kn1 ⟨by rw [kk1]; rfl, by rw [kk1]; decide⟩ lmX4_sourceNumber rfl rfl (Nat.le_of_ble_eq_true rfl) (by decide) (Nat.le_refl 0) (Nat.le_refl 0) (hC := sp_X4_sourceNumber (Q := fun z m => tg (μ 4) 4 x1 2 = z ∧ μ = m) p0 p1 ⟨rfl, rfl⟩) (fun r n2 S2 m2 hP => ?_)
  obtain ⟨⟨rfl, rfl⟩, z, rfl, rfl, rfl⟩ := hP
  refine s_istore dX7_fillSource_35 (by decide) (L' := [vR 129, vI x1, vI (tg (μ 4) 4 x1 0), vI (if tg (μ 4) 4 x1 1 < 200 then tg (μ 4) 4 x1 1 else 200), vI (tg (μ 4) 4 x1 2), vU, vU, vU, vU]) rfl ?_
  refine s_aload_n dX7_fillSource_37 rfl rfl ?_
  refine s_getR dX7_fillSource_38 flX7_30 kn129 kk129 rfl kr129_0 ?_
  refine s_iload_n dX7_fillSource_41 rfl rfl ?_
  refine s_iconst dX7_fillSource_42 (by decide) ?_
  obtain ⟨p0, p1, h⟩ := h
  refine s_callV (As := [vI x1, vI 3]) (rest := []) (k := 1) dX7_fillSource_43 lkX7_63 kn1 ⟨by rw [kk1]; rfl, by rw [kk1]; decide⟩ lmX4_sourceNumber rfl rfl (Nat.le_of_ble_eq_true rfl) (by decide) (Nat.le_refl 0) (Nat.le_refl 0) (hC := sp_X4_sourceNumber (Q := fun z m => tg (μ 4) 4 x1 3 = z ∧ μ = m) p0 p1 ⟨rfl, rfl⟩) (fun r n2 S2 m2 hP => ?_)
  obtain ⟨⟨rfl, rfl⟩, z, rfl, rfl, rfl⟩ := hP
  refine s_istore dX7_fillSource_46 (by decide) (L' := [vR 129, vI x1, vI (tg (μ 4) 4 x1 0), vI (if tg (μ 4) 4 x1 1 < 200 then tg (μ 4) 4 x1 1 else 200), vI (tg (μ 4) 4 x1 2), vI (tg (μ 4) 4 x1 3), vU, vU, vU]) rfl ?_
  refine s_iload dX7_fillSource_48 rfl ?_
  refine s_istore dX7_fillSource_50 (by decide) (L' := [vR 129, vI x1, vI (tg (μ 4) 4 x1 0), vI (if tg (μ 4) 4 x1 1 < 200 then tg (μ 4) 4 x1 1 else 200), vI (tg (μ 4) 4 x1 2), vI (tg (μ 4) 4 x1 3), vI (tg (μ 4) 4 x1 3), vU, vU]) rfl ?_
  refine s_iconst dX7_fillSource_52 (by decide) ?_
  refine s_istore dX7_fillSource_53 (by decide) (L' := [vR 129, vI x1, vI (tg (μ 4) 4 x1 0), vI (if tg (μ 4) 4 x1 1 < 200 then tg (μ 4) 4 x1 1 else 200), vI (tg (μ 4) 4 x1 2), vI (tg (μ 4) 4 x1 3), vI (tg (μ 4) 4 x1 3), vI 0, vU]) rfl ?_
  exact h
theorem vc_X7_fillSource_55 {x1 x2 x3 x4 x5 x6 x7 : Int} {μ : am_M} {Q : am_M → Prop} (h : (x3 ≤ x7 → Q μ) ∧ (x7 < x3 → ((x2 ≠ 1 → (x2 ≠ 2 → (x2 = 3 → (am_in (x4 + 1)) ∧ ((0 ≤ am_ushr (am_w (am_w (x6 * 1103515245) + 12345)) 16) ∧ (0 < (if 1 < x4 + 1 then x4 + 1 else 1))))) ∧ (x2 = 2 → (0 ≤ x7) ∧ (0 < (if 1 < x5 then x5 else 1)) ∧ ((0 ≤ x7 / (if 1 < x5 then x5 else 1))))) ∧ (x2 = 1 → (am_in (x5 - x4)) ∧ ((am_in ((x5 - x4) * x7)) ∧ ((x3 ≠ 0) ∧ (am_in (Int.tdiv ((x5 - x4) * x7) x3)) ∧ ((am_in (x4 + (Int.tdiv ((x5 - x4) * x7) x3)))))))) ∧ (∀ v1 : Int, v1 = (if x2 = 1 then x6 else (if x2 = 2 then x6 else (if x2 = 3 then am_w (am_w (x6 * 1103515245) + 12345) else x6))) → ∀ v2 : Int, v2 = (if x2 = 1 then x4 + (Int.tdiv ((x5 - x4) * x7) x3) else (if x2 = 2 then (if (x7 / (if 1 < x5 then x5 else 1)) % 2 = 0 then x4 else 0) else (if x2 = 3 then (am_ushr (am_w (am_w (x6 * 1103515245) + 12345)) 16) % (if 1 < x4 + 1 then x4 + 1 else 1) else x4))) → (0 ≤ x1) ∧ (x1 < 6) ∧ ((0 ≤ x7) ∧ (x7 < 200) ∧ (∀ m4 : am_M, m4 = am_st μ (131 + (x1).toNat) (am_up (μ (131 + (x1).toNat)) (x7).toNat v2) → (am_in (x7 + 1)) ∧ (at_V kC 2 mX7_fillSource 55 [vR 129, vI x1, vI x2, vI x3, vI x4, vI x5, vI v1, vI (x7 + 1), vU] [] m4 Q)))))) : at_V kC 2 mX7_fillSource 55 [vR 129, vI x1, vI x2, vI x3, vI x4, vI x5, vI x6, vI x7, vU] [] μ Q := by
  refine s_iload dX7_fillSource_55 rfl ?_
  refine s_iload_n dX7_fillSource_57 rfl rfl ?_
  refine s_icmp_ge dX7_fillSource_58 (tgt := 167) (by decide) (fun cc => ?_) (fun cc => ?_)
  · have h := h.1 cc
    exact s_return dX7_fillSource_167 rfl ⟨⟨rfl, rfl⟩, rfl, h⟩
  · have h := h.2 cc
    refine s_iload dX7_fillSource_61 rfl ?_
    refine s_istore dX7_fillSource_63 (by decide) (L' := [vR 129, vI x1, vI x2, vI x3, vI x4, vI x5, vI x6, vI x7, vI x4]) rfl ?_
    refine s_iload_n dX7_fillSource_65 rfl rfl ?_
    refine s_iconst dX7_fillSource_66 (by decide) ?_
    obtain ⟨hsd, h⟩ := h
    have kj5 : ∀ (v1 : Int) (v2 : Int), ((0 ≤ x1) ∧ (x1 < 6) ∧ ((0 ≤ x7) ∧ (x7 < 200) ∧ (∀ m4 : am_M, m4 = am_st μ (131 + (x1).toNat) (am_up (μ (131 + (x1).toNat)) (x7).toNat v2) → (am_in (x7 + 1)) ∧ (at_V kC 2 mX7_fillSource 55 [vR 129, vI x1, vI x2, vI x3, vI x4, vI x5, vI v1, vI (x7 + 1), vU] [] m4 Q)))) → at_V kC 2 mX7_fillSource 150 [vR 129, vI x1, vI x2, vI x3, vI x4, vI x5, vI v1, vI x7, vI v2] [] μ Q := by
      intro v1 v2 h
      refine s_aload_n dX7_fillSource_150 rfl rfl ?_
      refine s_getR dX7_fillSource_151 flX7_11 kn129 kk129 rfl kr129_1 ?_
      refine s_iload_n dX7_fillSource_154 rfl rfl ?_
      obtain ⟨c, c2, h⟩ := h
      obtain ⟨rx3r, rx3k, rx3n, rx3l⟩ := kx130 c c2
      refine s_aald dX7_fillSource_155 kn130 kk130 (by decide) kl130 c c2 rx3r ?_
      refine s_iload dX7_fillSource_156 rfl ?_
      refine s_iload dX7_fillSource_158 rfl ?_
      obtain ⟨c, c2, h⟩ := h
      obtain ⟨m4, hm4⟩ : ∃ x : am_M, x = am_st μ (131 + (x1).toNat) (am_up (μ (131 + (x1).toNat)) (x7).toNat v2) := ⟨_, rfl⟩
      have h := h m4 hm4
      refine s_iast dX7_fillSource_160 rx3n rx3k rx3l c c2 hm4.symm ?_
      obtain ⟨c, h⟩ := h
      refine s_iinc dX7_fillSource_161 rfl (am_w_id c) (by decide) (L' := [vR 129, vI x1, vI x2, vI x3, vI x4, vI x5, vI v1, vI (x7 + 1), vI v2]) rfl ?_
      refine s_goto dX7_fillSource_164 (tgt := 55) (by decide) ?_
      exact am_lesS h ⟨Or.inr rfl, Or.inr rfl, Or.inr rfl, Or.inr rfl, Or.inr rfl, Or.inr rfl, Or.inr rfl, Or.inr rfl, Or.inl rfl, trivial⟩
    refine s_icmp_ne dX7_fillSource_67 (tgt := 88) (by decide) (fun cc => ?_) (fun cc => ?_)
    · have hp0 := cc
      have hsd := hsd.1 hp0
      refine s_iload_n dX7_fillSource_88 rfl rfl ?_
      refine s_iconst dX7_fillSource_89 (by decide) ?_
      refine s_icmp_ne dX7_fillSource_90 (tgt := 118) (by decide) (fun cc => ?_) (fun cc => ?_)
      · have hp1 := cc
        have hsd := hsd.1 hp1
        refine s_iload_n dX7_fillSource_118 rfl rfl ?_
        refine s_iconst dX7_fillSource_119 (by decide) ?_
        refine s_icmp_ne dX7_fillSource_120 (tgt := 150) (by decide) (fun cc => ?_) (fun cc => ?_)
        · have hp2 := cc
          exact kj5 x6 x4 (h x6 (by rw [if_neg hp0, if_neg hp1, if_neg hp2]) x4 (by rw [if_neg hp0, if_neg hp1, if_neg hp2]))
        · have hp2 := cc
          have hsd := hsd hp2
          refine s_iload dX7_fillSource_123 rfl ?_
          refine s_ldc (z := 1103515245) dX7_fillSource_125 wcX7_75 (by unfold am_in; decide) ?_
          refine s_imul dX7_fillSource_127 rfl ?_
          refine s_sipush dX7_fillSource_128 (by decide) ?_
          refine s_iadd dX7_fillSource_131 rfl ?_
          refine s_istore dX7_fillSource_132 (by decide) (L' := [vR 129, vI x1, vI x2, vI x3, vI x4, vI x5, vI (am_w (am_w (x6 * 1103515245) + 12345)), vI x7, vI x4]) rfl ?_
          refine s_iload dX7_fillSource_134 rfl ?_
          refine s_bipush dX7_fillSource_136 (by decide) ?_
          refine s_iushr dX7_fillSource_138 rfl ?_
          refine s_iconst dX7_fillSource_139 (by decide) ?_
          refine s_iload dX7_fillSource_140 rfl ?_
          refine s_iconst dX7_fillSource_142 (by decide) ?_
          obtain ⟨c, hsd⟩ := hsd
          refine s_iadd dX7_fillSource_143 (am_w_id c) ?_
          refine s_max dX7_fillSource_144 wmX7_72 (Nat.le_of_ble_eq_true rfl) (by decide) rfl ?_
          obtain ⟨c, c2⟩ := hsd
          refine s_iremp dX7_fillSource_147 c c2 rfl ?_
          refine s_istore dX7_fillSource_148 (by decide) (L' := [vR 129, vI x1, vI x2, vI x3, vI x4, vI x5, vI (am_w (am_w (x6 * 1103515245) + 12345)), vI x7, vI ((am_ushr (am_w (am_w (x6 * 1103515245) + 12345)) 16) % (if 1 < x4 + 1 then x4 + 1 else 1))]) rfl ?_
          exact kj5 (am_w (am_w (x6 * 1103515245) + 12345)) ((am_ushr (am_w (am_w (x6 * 1103515245) + 12345)) 16) % (if 1 < x4 + 1 then x4 + 1 else 1)) (h (am_w (am_w (x6 * 1103515245) + 12345)) (by rw [if_neg hp0, if_neg hp1, if_pos hp2]) ((am_ushr (am_w (am_w (x6 * 1103515245) + 12345)) 16) % (if 1 < x4 + 1 then x4 + 1 else 1)) (by rw [if_neg hp0, if_neg hp1, if_pos hp2]))
      · have hp1 := cc
        have hsd := hsd.2 hp1
        refine s_iload dX7_fillSource_93 rfl ?_
        refine s_iconst dX7_fillSource_95 (by decide) ?_
        refine s_iload dX7_fillSource_96 rfl ?_
        refine s_max dX7_fillSource_98 wmX7_72 (Nat.le_of_ble_eq_true rfl) (by decide) rfl ?_
        obtain ⟨c, c2, hsd⟩ := hsd
        refine s_idivp dX7_fillSource_101 c c2 rfl ?_
        refine s_iconst dX7_fillSource_102 (by decide) ?_
        have c := hsd
        refine s_iremp dX7_fillSource_103 c (by decide) rfl ?_
        refine s_if_ne dX7_fillSource_104 (tgt := 112) (by decide) (fun cc => ?_) (fun cc => ?_)
        · have hp2 := cc
          refine s_iconst dX7_fillSource_112 (by decide) ?_
          refine s_istore dX7_fillSource_113 (by decide) (L' := [vR 129, vI x1, vI x2, vI x3, vI x4, vI x5, vI x6, vI x7, vI 0]) rfl ?_
          refine s_goto dX7_fillSource_115 (tgt := 150) (by decide) ?_
          exact kj5 x6 0 (h x6 (by rw [if_neg hp0, if_pos hp1]) 0 (by rw [if_neg hp0, if_pos hp1, if_neg hp2]))
        · have hp2 := cc
          refine s_iload dX7_fillSource_107 rfl ?_
          refine s_goto dX7_fillSource_109 (tgt := 113) (by decide) ?_
          refine s_istore dX7_fillSource_113 (by decide) (L' := [vR 129, vI x1, vI x2, vI x3, vI x4, vI x5, vI x6, vI x7, vI x4]) rfl ?_
          refine s_goto dX7_fillSource_115 (tgt := 150) (by decide) ?_
          exact kj5 x6 x4 (h x6 (by rw [if_neg hp0, if_pos hp1]) x4 (by rw [if_neg hp0, if_pos hp1, if_pos hp2]))
    · have hp0 := cc
      have hsd := hsd.2 hp0
      refine s_iload dX7_fillSource_70 rfl ?_
      refine s_iload dX7_fillSource_72 rfl ?_
      refine s_iload dX7_fillSource_74 rfl ?_
      obtain ⟨c, hsd⟩ := hsd
      refine s_isub dX7_fillSource_76 (am_w_id c) ?_
      refine s_iload dX7_fillSource_77 rfl ?_
      obtain ⟨c, hsd⟩ := hsd
      refine s_imul dX7_fillSource_79 (am_w_id c) ?_
      refine s_iload_n dX7_fillSource_80 rfl rfl ?_
      obtain ⟨c, c2, hsd⟩ := hsd
      refine s_idiv dX7_fillSource_81 c (am_w_id c2) ?_
      have c := hsd
      refine s_iadd dX7_fillSource_82 (am_w_id c) ?_
      refine s_istore dX7_fillSource_83 (by decide) (L' := [vR 129, vI x1, vI x2, vI x3, vI x4, vI x5, vI x6, vI x7, vI (x4 + (Int.tdiv ((x5 - x4) * x7) x3))]) rfl ?_
      refine s_goto dX7_fillSource_85 (tgt := 150) (by decide) ?_
      exact kj5 x6 (x4 + (Int.tdiv ((x5 - x4) * x7) x3)) (h x6 (by rw [if_pos hp0]) (x4 + (Int.tdiv ((x5 - x4) * x7) x3)) (by rw [if_pos hp0]))
theorem ve_X7_fillSource {x1 : Int} {μ : am_M} {Q : am_M → Prop} (h : at_V kC 2 mX7_fillSource 0 [vR 129, vI x1, vU, vU, vU, vU, vU, vU, vU] [] μ Q) : cl_V kC 2 mX7_fillSource [vR 129, vI x1] μ Q := am_intro pmX7_fillSource (Nat.le_of_ble_eq_true rfl) rfl h
theorem sp_X7_fillSource {μ : am_M} {s : Int} (h : ok_S (tg (μ 4) 4) (μ 1 5)) (h2 : ok_S2 (tg (μ 4) 4) (μ 1 5)) (hs : 0 ≤ s ∧ s < μ 1 5) : cl_V kC 2 mX7_fillSource [vR 129, vI s] μ (fun m => fr_ [131 + s.toNat] μ m ∧ ∀ i : Nat, (i : Int) < tg (μ 4) 4 s 1 → m (131 + s.toNat) i = wav_ (tg (μ 4) 4) s i) := by
  have h6 := h.1
  obtain ⟨b0, b1, b2, b3⟩ := h.2 s hs.1 hs.2
  have hp := h2 s hs.1 hs.2
  have hw := fun i h0 h1 => wav_b (i := i) h h2 hs h0 h1
  have hr := fun i h0 h1 => ramp_b (i := i) b2 b3 h0 h1 (show tg (μ 4) 4 s 1 ≤ 200 by ((try unfold am_in); (try unfold in_ at *); omega))
  refine ve_X7_fillSource (vc_X7_fillSource_0 ⟨(by (try unfold am_in); (try unfold in_ at *); omega), (by (try unfold am_in); (try unfold in_ at *); omega), (by (try unfold am_in); (try unfold in_ at *); omega), (by (try unfold am_in); (try unfold in_ at *); omega), (by (try unfold am_in); (try unfold in_ at *); omega), (by (try unfold am_in); (try unfold in_ at *); omega), (by (try unfold am_in); (try unfold in_ at *); omega), (by (try unfold am_in); (try unfold in_ at *); omega), ?_⟩)
  rw [show (if tg (μ 4) 4 s 1 < 200 then tg (μ 4) 4 s 1 else 200) = tg (μ 4) 4 s 1 by split <;> ((try unfold am_in); (try unfold in_ at *); omega)]
  have e : tg (μ 4) 4 = tg (μ 4) 4 := rfl
  generalize tg (μ 4) 4 = S at *
  have : ∀ (j : Nat) (z x : Int) (m : am_M), x + j = S s 1 → 0 ≤ x → z = (if S s 0 = 3 then zz_ (S s 3) x.toNat else S s 3) → fr_ [131 + s.toNat] μ m → (∀ i : Nat, (i : Int) < x → m (131 + s.toNat) i = wav_ S s i) → at_V kC 2 mX7_fillSource 55 [vR 129, vI s, vI (S s 0), vI (S s 1), vI (S s 2), vI (S s 3), vI z, vI x, vU] [] m (fun m => fr_ [131 + s.toNat] μ m ∧ ∀ i : Nat, (i : Int) < S s 1 → m (131 + s.toNat) i = wav_ S s i) := by
    intro j
    induction j with
    | zero =>
      intro z x m hx h0 hz hf hv
      exact vc_X7_fillSource_55 ⟨fun _ => ⟨hf, fun i hi => hv i (by omega)⟩, fun q => by omega⟩
    | succ j ih =>
      intro z x m hx h0 hz hf hv
      have u16 := ush_nn (am_w (am_w (z * 1103515245) + 12345))
      unfold in_ at *
      refine vc_X7_fillSource_55 ⟨fun q => by omega, fun q => ⟨⟨fun k1 => ⟨fun k2 k3 => ⟨by unfold am_in; omega, u16, by split <;> omega⟩, fun k2 => ⟨h0, by split <;> omega, Int.ediv_nonneg h0 (by split <;> omega)⟩⟩, fun k1 => ?_⟩, fun v1 e1 v2 e2 => ⟨hs.1, by omega, h0, by omega, fun m4 e4 => ⟨by unfold am_in; omega, ?_⟩⟩⟩⟩
      · obtain ⟨r1, r2, r3⟩ := hr x h0 q
        exact ⟨by unfold am_in; omega, by unfold am_in; omega, by omega, by unfold am_in; omega, by unfold am_in; omega⟩
      · refine ih v1 (x + 1) m4 (by omega) (by omega) ?_ (by rw [e4]; exact fr_tr hf (fr_st (by simp))) (fun i hi => ?_)
        · rw [e1, show (x + 1).toNat = x.toNat + 1 by omega]
          by_cases k3 : S s 0 = 3
          · rw [if_neg (by omega), if_neg (by omega), if_pos k3, if_pos k3]
            rw [if_pos k3] at hz
            rw [hz]
            rfl
          · rw [if_neg k3] at hz ⊢
            rw [if_neg k3]
            split <;> (try split) <;> exact hz
        · rw [e4, st_s]
          by_cases c : i = x.toNat
          · rw [c, up_s, e2]
            unfold wav_
            rw [show ((x.toNat : Nat) : Int) = x by omega]
            by_cases k1 : S s 0 = 1
            · rw [if_pos k1, if_pos k1]
            · rw [if_neg k1, if_neg k1]
              by_cases k2 : S s 0 = 2
              · rw [if_pos k2, if_pos k2]
                have := hp k2
                rw [show (if 1 < S s 3 then S s 3 else 1) = S s 3 by split <;> omega]
              · rw [if_neg k2, if_neg k2]
                by_cases k3 : S s 0 = 3
                · rw [if_pos k3, if_pos k3]
                  rw [if_pos k3] at hz
                  rw [show (if 1 < S s 2 + 1 then S s 2 + 1 else 1) = S s 2 + 1 by split <;> omega, hz]
                  rfl
                · rw [if_neg k3, if_neg k3]
          · rw [up_n c]
            exact hv i (by omega)
  have h1 : 0 ≤ S s 1 := by ((try unfold am_in); (try unfold in_ at *); omega)
  exact this (S s 1).toNat (S s 3) 0 μ (by omega) (by omega) (by split <;> rfl) fr_rf (fun i hi => by omega)
/-- the values of the sources stand -/
def sv_ (μ : am_M) : Prop := ∀ s : Int, 0 ≤ s → s < μ 1 5 → ∀ i : Int, 0 ≤ i → i < tg (μ 4) 4 s 1 → μ (131 + s.toNat) i.toNat = wav_ (tg (μ 4) 4) s i
theorem vc_X7_sourceAt_0 {x1 x2 : Int} {μ : am_M} {Q : Int → am_M → Prop} (h : (0 ≤ x1) ∧ (x1 < 6) ∧ ((0 ≤ x2) ∧ (x2 < 200) ∧ (Q (μ (131 + (x1).toNat) ((x2).toNat)) μ))) : at_I kC 1 mX7_sourceAt 0 [vR 129, vI x1, vI x2] [] μ Q := by
  refine s_aload_n dX7_sourceAt_0 rfl rfl ?_
  refine s_getR dX7_sourceAt_1 flX7_11 kn129 kk129 rfl kr129_1 ?_
  refine s_iload_n dX7_sourceAt_4 rfl rfl ?_
  obtain ⟨c, c2, h⟩ := h
  obtain ⟨rx1r, rx1k, rx1n, rx1l⟩ := kx130 c c2
  refine s_aald dX7_sourceAt_5 kn130 kk130 (by decide) kl130 c c2 rx1r ?_
  refine s_iload_n dX7_sourceAt_6 rfl rfl ?_
  obtain ⟨c, c2, h⟩ := h
  refine s_iald (x := (μ (131 + (x1).toNat) ((x2).toNat))) dX7_sourceAt_7 rx1n rx1k rx1l c c2 rfl ?_
  exact s_ireturn dX7_sourceAt_8 (Or.inl rfl) ⟨⟨rfl, rfl⟩, _, rfl, h⟩
theorem ve_X7_sourceAt {x1 x2 : Int} {μ : am_M} {Q : Int → am_M → Prop} (h : at_I kC 1 mX7_sourceAt 0 [vR 129, vI x1, vI x2] [] μ Q) : cl_I kC 1 mX7_sourceAt [vR 129, vI x1, vI x2] μ Q := am_intro pmX7_sourceAt (Nat.le_of_ble_eq_true rfl) rfl h
theorem sp_X7_sourceAt {μ : am_M} {s i : Int} {Q : Int → am_M → Prop} (h0 : in_ 0 6 s) (h1 : in_ 0 200 i) (hQ : Q (μ (131 + s.toNat) i.toNat) μ) : cl_I kC 1 mX7_sourceAt [vR 129, vI s, vI i] μ Q :=
  ve_X7_sourceAt (vc_X7_sourceAt_0 ⟨(by (try unfold am_in); (try unfold in_ at *); omega), (by (try unfold am_in); (try unfold in_ at *); omega), (by (try unfold am_in); (try unfold in_ at *); omega), (by (try unfold am_in); (try unfold in_ at *); omega), hQ⟩)
theorem vc_X7_faded_0 {x1 x2 x3 : Int} {μ : am_M} {Q : Int → am_M → Prop} (h : (μ 2 4 = 2 → (am_in (2 * x2)) ∧ (∀ v1 : Int, v1 = (if 2 * x2 < x3 then 0 else x1) → Q v1 μ)) ∧ (μ 2 4 ≠ 2 → (1 ≤ x3 → ((μ 2 4 ≠ 0 → (am_in (x1 * x2)) ∧ ((am_in ((x1 * x2) * x2)) ∧ ((am_in (x3 * x3)) ∧ ((0 ≤ (x1 * x2) * x2) ∧ (0 < x3 * x3))))) ∧ (μ 2 4 = 0 → (am_in (x1 * x2)) ∧ ((0 ≤ x1 * x2) ∧ (0 < x3)))) ∧ (∀ v3 : Int, v3 = (if μ 2 4 = 0 then (x1 * x2) / x3 else ((x1 * x2) * x2) / (x3 * x3)) → Q v3 μ)) ∧ (x3 < 1 → (am_in (2 * x2)) ∧ (∀ v5 : Int, v5 = (if 2 * x2 < x3 then 0 else x1) → Q v5 μ)))) : at_I kC 1 mX7_faded 0 [vR 129, vI x1, vI x2, vI x3, vU] [] μ Q := by
  refine s_aload_n dX7_faded_0 rfl rfl ?_
  refine s_getR dX7_faded_1 flX7_30 kn129 kk129 rfl kr129_0 ?_
  refine s_getR dX7_faded_4 flX7_107 kn1 kk1 rfl kr1_0 ?_
  refine s_iconst dX7_faded_7 (by decide) ?_
  refine s_iald (x := (μ 2 4)) dX7_faded_8 kn2 kk2 kl2 (by decide) (by decide) rfl ?_
  refine s_istore dX7_faded_9 (by decide) (L' := [vR 129, vI x1, vI x2, vI x3, vI (μ 2 4)]) rfl ?_
  refine s_iload dX7_faded_11 rfl ?_
  refine s_iconst dX7_faded_13 (by decide) ?_
  refine s_icmp_eq dX7_faded_14 (tgt := 22) (by decide) (fun cc => ?_) (fun cc => ?_)
  · have h := h.1 cc
    refine s_iconst dX7_faded_22 (by decide) ?_
    refine s_iload_n dX7_faded_23 rfl rfl ?_
    obtain ⟨c, h⟩ := h
    refine s_imul dX7_faded_24 (am_w_id c) ?_
    refine s_iload_n dX7_faded_25 rfl rfl ?_
    have kj2 : ∀ (v1 : Int), (Q v1 μ) → at_I kC 1 mX7_faded 34 [vU, vU, vU, vU, vU] [vI v1] μ Q := by
      intro v1 h
      exact s_ireturn dX7_faded_34 (Or.inl rfl) ⟨⟨rfl, rfl⟩, _, rfl, h⟩
    refine s_icmp_ge dX7_faded_26 (tgt := 33) (by decide) (fun cc => ?_) (fun cc => ?_)
    · have hp0 := cc
      refine s_iload_n dX7_faded_33 rfl rfl ?_
      exact am_lesS (kj2 x1 (h x1 (by rw [if_neg (Int.not_lt.mpr hp0)]))) ⟨Or.inl rfl, Or.inl rfl, Or.inl rfl, Or.inl rfl, Or.inl rfl, trivial⟩
    · have hp0 := cc
      refine s_iconst dX7_faded_29 (by decide) ?_
      refine s_goto dX7_faded_30 (tgt := 34) (by decide) ?_
      exact am_lesS (kj2 0 (h 0 (by rw [if_pos hp0]))) ⟨Or.inl rfl, Or.inl rfl, Or.inl rfl, Or.inl rfl, Or.inl rfl, trivial⟩
  · have h := h.2 cc
    refine s_iload_n dX7_faded_17 rfl rfl ?_
    refine s_iconst dX7_faded_18 (by decide) ?_
    refine s_icmp_ge dX7_faded_19 (tgt := 35) (by decide) (fun cc => ?_) (fun cc => ?_)
    · have h := h.1 cc
      refine s_iload dX7_faded_35 rfl ?_
      obtain ⟨hsd, h⟩ := h
      have kj4 : ∀ (v3 : Int), (Q v3 μ) → at_I kC 1 mX7_faded 57 [vU, vU, vU, vU, vU] [vI v3] μ Q := by
        intro v3 h
        exact s_ireturn dX7_faded_57 (Or.inl rfl) ⟨⟨rfl, rfl⟩, _, rfl, h⟩
      refine s_if_ne dX7_faded_37 (tgt := 48) (by decide) (fun cc => ?_) (fun cc => ?_)
      · have hp0 := cc
        have hsd := hsd.1 hp0
        refine s_iload_n dX7_faded_48 rfl rfl ?_
        refine s_iload_n dX7_faded_49 rfl rfl ?_
        obtain ⟨c, hsd⟩ := hsd
        refine s_imul dX7_faded_50 (am_w_id c) ?_
        refine s_iload_n dX7_faded_51 rfl rfl ?_
        obtain ⟨c, hsd⟩ := hsd
        refine s_imul dX7_faded_52 (am_w_id c) ?_
        refine s_iload_n dX7_faded_53 rfl rfl ?_
        refine s_iload_n dX7_faded_54 rfl rfl ?_
        obtain ⟨c, hsd⟩ := hsd
        refine s_imul dX7_faded_55 (am_w_id c) ?_
        obtain ⟨c, c2⟩ := hsd
        refine s_idivp dX7_faded_56 c c2 rfl ?_
        exact am_lesS (kj4 (((x1 * x2) * x2) / (x3 * x3)) (h (((x1 * x2) * x2) / (x3 * x3)) (by rw [if_neg hp0]))) ⟨Or.inl rfl, Or.inl rfl, Or.inl rfl, Or.inl rfl, Or.inl rfl, trivial⟩
      · have hp0 := cc
        have hsd := hsd.2 hp0
        refine s_iload_n dX7_faded_40 rfl rfl ?_
        refine s_iload_n dX7_faded_41 rfl rfl ?_
        obtain ⟨c, hsd⟩ := hsd
        refine s_imul dX7_faded_42 (am_w_id c) ?_
        refine s_iload_n dX7_faded_43 rfl rfl ?_
        obtain ⟨c, c2⟩ := hsd
        refine s_idivp dX7_faded_44 c c2 rfl ?_
        refine s_goto dX7_faded_45 (tgt := 57) (by decide) ?_
        exact am_lesS (kj4 ((x1 * x2) / x3) (h ((x1 * x2) / x3) (by rw [if_pos hp0]))) ⟨Or.inl rfl, Or.inl rfl, Or.inl rfl, Or.inl rfl, Or.inl rfl, trivial⟩
    · have h := h.2 cc
      refine s_iconst dX7_faded_22 (by decide) ?_
      refine s_iload_n dX7_faded_23 rfl rfl ?_
      obtain ⟨c, h⟩ := h
      refine s_imul dX7_faded_24 (am_w_id c) ?_
      refine s_iload_n dX7_faded_25 rfl rfl ?_
      have kj6 : ∀ (v5 : Int), (Q v5 μ) → at_I kC 1 mX7_faded 34 [vU, vU, vU, vU, vU] [vI v5] μ Q := by
        intro v5 h
        exact s_ireturn dX7_faded_34 (Or.inl rfl) ⟨⟨rfl, rfl⟩, _, rfl, h⟩
      refine s_icmp_ge dX7_faded_26 (tgt := 33) (by decide) (fun cc => ?_) (fun cc => ?_)
      · have hp0 := cc
        refine s_iload_n dX7_faded_33 rfl rfl ?_
        exact am_lesS (kj6 x1 (h x1 (by rw [if_neg (Int.not_lt.mpr hp0)]))) ⟨Or.inl rfl, Or.inl rfl, Or.inl rfl, Or.inl rfl, Or.inl rfl, trivial⟩
      · have hp0 := cc
        refine s_iconst dX7_faded_29 (by decide) ?_
        refine s_goto dX7_faded_30 (tgt := 34) (by decide) ?_
        exact am_lesS (kj6 0 (h 0 (by rw [if_pos hp0]))) ⟨Or.inl rfl, Or.inl rfl, Or.inl rfl, Or.inl rfl, Or.inl rfl, trivial⟩
theorem ve_X7_faded {x1 x2 x3 : Int} {μ : am_M} {Q : Int → am_M → Prop} (h : at_I kC 1 mX7_faded 0 [vR 129, vI x1, vI x2, vI x3, vU] [] μ Q) : cl_I kC 1 mX7_faded [vR 129, vI x1, vI x2, vI x3] μ Q := am_intro pmX7_faded (Nat.le_of_ble_eq_true rfl) rfl h
def fd_ (sh v p q : Int) : Int := if sh = 0 then v * p / q else if sh = 1 then v * p * p / (q * q) else if 2 * p < q then 0 else v
def ok_E (f : Nat → Int) : Prop := in_ 0 401 (f 0) ∧ in_ 4 51 (f 1) ∧ in_ 0 1000 (f 2) ∧ in_ 0 101 (f 3) ∧ in_ 0 3 (f 4)
theorem fd_b {sh v p q : Int} (hv : 0 ≤ v) (hp : 1 ≤ p) (hq : p ≤ q) : 0 ≤ fd_ sh v p q ∧ fd_ sh v p q ≤ v := by
  unfold fd_
  have vp : 0 ≤ v * p := Int.mul_nonneg hv (by omega)
  have vpp : 0 ≤ v * p * p := Int.mul_nonneg vp (by omega)
  have qq : 0 < q * q := Int.mul_pos (by omega) (by omega)
  split
  · refine ⟨Int.ediv_nonneg vp (by omega), ?_⟩
    refine Int.le_trans (Int.ediv_le_ediv (by omega) (Int.mul_le_mul_of_nonneg_left hq hv)) ?_
    rw [Int.mul_ediv_cancel _ (by omega)]
    omega
  · split
    · refine ⟨Int.ediv_nonneg vpp (by omega), ?_⟩
      have : v * p * p ≤ v * (q * q) := by
        rw [Int.mul_assoc]
        exact Int.mul_le_mul_of_nonneg_left (Int.mul_le_mul hq hq (by omega) (by omega)) hv
      refine Int.le_trans (Int.ediv_le_ediv qq this) ?_
      rw [Int.mul_ediv_cancel _ (by omega)]
      omega
    · split <;> omega
theorem sp_X7_faded {μ : am_M} {v p q : Int} {Q : Int → am_M → Prop} (hs : ok_E (μ 2)) (h0 : in_ 0 2000 v) (h1 : in_ 1 602 p) (h2 : in_ 1 602 q) (hQ : Q (fd_ (μ 2 4) v p q) μ) : cl_I kC 1 mX7_faded [vR 129, vI v, vI p, vI q] μ Q := by
  have hs4 := hs.2.2.2.2
  unfold in_ at *
  have m1 := mulb (x := v) (y := p) (A := 1999) (B := 601) (by omega) (by omega) (by omega) (by omega)
  have m2 := mulb (x := v * p) (y := p) (A := 1999 * 601) (B := 601) (by omega) (by omega) (by omega) (by omega)
  have m3 := mulb (x := q) (y := q) (A := 601) (B := 601) (by omega) (by omega) (by omega) (by omega)
  have m4 : 0 < q * q := Int.mul_pos (by omega) (by omega)
  unfold fd_ at hQ
  refine ve_X7_faded (vc_X7_faded_0 ⟨fun a => ⟨by unfold am_in; omega, fun w e => ?_⟩, fun a => ⟨fun b => ⟨⟨fun c => ⟨by unfold am_in; omega, by unfold am_in; omega, by unfold am_in; omega, m2.1, m4⟩, fun c => ⟨by unfold am_in; omega, m1.1, by omega⟩⟩, fun w e => ?_⟩, fun b => by omega⟩⟩)
  · rw [if_neg (by omega), if_neg (by omega), ← e] at hQ
    exact hQ
  · by_cases c : μ 2 4 = 0
    · rw [if_pos c] at hQ e
      rw [e]; exact hQ
    · rw [if_neg c] at hQ e
      rw [if_pos (by omega)] at hQ
      rw [e]; exact hQ

theorem lw_msk (x : Int32) : 0 ≤ (x &&& 63).toInt ∧ (x &&& 63).toInt < 64 := by
  have h1 : (x &&& 63).toBitVec.toNat ≤ 63 := by
    rw [Int32.toBitVec_and, BitVec.toNat_and]
    exact Nat.and_le_right
  have h2 : (x &&& 63).toInt = ((x &&& 63).toBitVec.toNat : Int) := by
    show (x &&& 63).toBitVec.toInt = _
    exact BitVec.toInt_eq_toNat_of_lt (by omega)
  omega
theorem lw_sub6 {L i : Nat} (hL : L ≤ 3072) (hi : i ≤ 6000) : nI L - Int32.ofInt 6 < nI i ↔ (L : Int) - 6 < i := by
  have e1 : ∀ n : Nat, nI n = Int32.ofInt (n : Int) := fun n => (Int32.ofInt_eq_ofNat (n := n)).symm
  rw [e1, e1, ← Int32.ofInt_sub]
  exact am_ltI (by unfold am_in; omega) (by unfold am_in; omega)
section LWL
variable {p : Program} {l : Launch} {e : Env} {s : State} {m : MethodId} {below : List Frame} {meth : Method} {c : Code} {b L : Nat} {xs : Nat → Int32} {G1 G2 : am_G}
theorem law_loop (C0 : lw_At p s m meth c b L xs) (hL : L ≤ 3072) (hG : lw_C s G1 G2) : ∀ (n i : Nat) (K : Int) (H : Heap) (locs : List Loc) (ls : Array Slot), L < i + n → i ≤ L + 5 → K ≤ i → lw_S s G1 G2 K H locs → lv_has ls 4 (lw_l G1 G2 b i) → W p l e room_1 s m #[Value.ref b] below meth c H locs 180 36349 (lw_Z below #[Value.ref b] s) (F0 m 18 ls []) := by
  obtain ⟨hx, hb, hret, hml, hown, hts, hX, hbl, hlocks, hgv⟩ := id C0
  intro n
  induction n with
  | zero =>
    intro i K H locs ls h1 h2 hKi hV hl
    refine lv_iload_n hx hb dL_law_18 rfl (lv_at hl 3 rfl) ?_
    refine lv_aload_n hx hb dL_law_19 rfl (lv_at hl 0 rfl) ?_
    refine va_slen hx hb hX hbl (Nat.not_le.mpr hbl) hV.1 dL_law_20 ?_
    refine lv_bipush hx hb dL_law_21 (am_i8 (z := 6) (by decide)) ?_
    refine lv_isub hx hb dL_law_23 ?_
    refine lv_icmp_gt (tgt := 1660) hx hb dL_law_24 (by decide) (fun cc => ?_) (fun cc => ?_)
    · refine lv_iconst (v := 1) hx hb dL_law_1660 (by decide) ?_
      refine va_forget (fun q hq => hV.1.2.2 q hq) ?_
      refine W.widen (k := 600000) (n := 7302250) (Nat.le_of_ble_eq_true rfl) (Nat.le_of_ble_eq_true rfl) ?_
      exact lw_ret hx hb hret hlocks dL_law_1661
    · exact absurd ((lw_sub6 hL (by omega)).mpr (by omega)) cc
  | succ n ih =>
    intro i K H locs ls h1 h2 hKi hV hl
    have tail : ∀ (K2 : Int) (H2 : Heap) (locs2 : List Loc), i + 6 ≤ L → K2 ≤ i + 6 → lw_S s G1 G2 K2 H2 locs2 → W p l e room_1 s m #[Value.ref b] below meth c H2 locs2 180 36349 (lw_Z below #[Value.ref b] s) (F0 m 1654 ls []) := fun K2 H2 locs2 hi hK2 hV2 => by
      refine lv_iinc (k := 3) (v := nI (i + 6)) (lv' := [(3, .int (nI (i + 6))), (0, .ref b), (1, .ref (G1.1.1 + 0)), (2, .ref (G2.1.1 + 0))]) hx hb dL_law_1654 hl rfl (nI_add i 6) (by decide) rfl (fun ls2 hl2 => ?_)
      refine lv_goto (tgt := 18) hx hb dL_law_1657 (by decide) ?_
      exact ih (i + 6) K2 H2 locs2 ls2 (by omega) (by omega) hK2 hV2 (lv_sub hl2 [1, 2, 3, 0] rfl)
    refine lv_iload_n hx hb dL_law_18 rfl (lv_at hl 3 rfl) ?_
    refine lv_aload_n hx hb dL_law_19 rfl (lv_at hl 0 rfl) ?_
    refine va_slen hx hb hX hbl (Nat.not_le.mpr hbl) hV.1 dL_law_20 ?_
    refine lv_bipush hx hb dL_law_21 (am_i8 (z := 6) (by decide)) ?_
    refine lv_isub hx hb dL_law_23 ?_
    refine lv_icmp_gt (tgt := 1660) hx hb dL_law_24 (by decide) (fun cc => ?_) (fun cc => ?_)
    · refine lv_iconst (v := 1) hx hb dL_law_1660 (by decide) ?_
      refine va_forget (fun q hq => hV.1.2.2 q hq) ?_
      refine W.widen (k := 600000) (n := 7302250) (Nat.le_of_ble_eq_true rfl) (Nat.le_of_ble_eq_true rfl) ?_
      exact lw_ret hx hb hret hlocks dL_law_1661
    · have hi : i + 6 ≤ L := by
        rcases Nat.lt_or_ge L (i + 6) with q | q
        · exact absurd ((lw_sub6 hL (by omega)).mpr (by omega)) cc
        · exact q
      refine lv_aload_n hx hb dL_law_27 rfl (lv_at hl 0 rfl) ?_
      refine lv_iload_n hx hb dL_law_28 rfl (lv_at hl 3 rfl) ?_
      refine va_sld hx hb hX hbl (Nat.not_le.mpr hbl) hV.1 (vp_in_nI (by omega) (by omega)) dL_law_29 ?_
      refine lv_bipush (v := 63) hx hb dL_law_30 (by decide) ?_
      refine lv_iand hx hb dL_law_32 ?_
      have hm := lw_msk (xs (nI i).toNatClampNeg)
      generalize (xs (nI i).toNatClampNeg &&& 63) = y at hm ⊢
      have hk : y.toInt = ((y.toInt.toNat : Nat) : Int) := by omega
      generalize y.toInt.toNat = k at hk
      have hcs : 48 ≤ k ∨ k = 0 ∨ k = 1 ∨ k = 2 ∨ k = 3 ∨ k = 4 ∨ k = 5 ∨ k = 6 ∨ k = 7 ∨ k = 8 ∨ k = 9 ∨ k = 10 ∨ k = 11 ∨ k = 12 ∨ k = 13 ∨ k = 14 ∨ k = 15 ∨ k = 16 ∨ k = 17 ∨ k = 18 ∨ k = 19 ∨ k = 20 ∨ k = 21 ∨ k = 22 ∨ k = 23 ∨ k = 24 ∨ k = 25 ∨ k = 26 ∨ k = 27 ∨ k = 28 ∨ k = 29 ∨ k = 30 ∨ k = 31 ∨ k = 32 ∨ k = 33 ∨ k = 34 ∨ k = 35 ∨ k = 36 ∨ k = 37 ∨ k = 38 ∨ k = 39 ∨ k = 40 ∨ k = 41 ∨ k = 42 ∨ k = 43 ∨ k = 44 ∨ k = 45 ∨ k = 46 ∨ k = 47 := by omega
      have hK : K < 99999 := by omega
      rcases hcs with h48 | rfl | rfl | rfl | rfl | rfl | rfl | rfl | rfl | rfl | rfl | rfl | rfl | rfl | rfl | rfl | rfl | rfl | rfl | rfl | rfl | rfl | rfl | rfl | rfl | rfl | rfl | rfl | rfl | rfl | rfl | rfl | rfl | rfl | rfl | rfl | rfl | rfl | rfl | rfl | rfl | rfl | rfl | rfl | rfl | rfl | rfl | rfl | rfl
      · exact lv_tableOut (tgt := 1654) hx hb dL_law_33 (Or.inr (by omega)) (by decide) (tail K H locs hi (by omega) hV)
      · exact lv_tableIn (tgt := 240) hx hb dL_law_33 (by omega) (by omega) (by rw [hk]; rfl) (by decide) (lc_0 C0 hL hG hi hK hV hl (fun H2 locs2 hV2 => tail (K + 1) H2 locs2 hi (by omega) hV2))
      · exact lv_tableIn (tgt := 293) hx hb dL_law_33 (by omega) (by omega) (by rw [hk]; rfl) (by decide) (lc_1 C0 hL hG hi hK hV hl (fun H2 locs2 hV2 => tail (K + 1) H2 locs2 hi (by omega) hV2))
      · exact lv_tableIn (tgt := 326) hx hb dL_law_33 (by omega) (by omega) (by rw [hk]; rfl) (by decide) (lc_2 C0 hL hG hi hK hV hl (fun H2 locs2 hV2 => tail (K + 1) H2 locs2 hi (by omega) hV2))
      · exact lv_tableIn (tgt := 359) hx hb dL_law_33 (by omega) (by omega) (by rw [hk]; rfl) (by decide) (lc_3 C0 hL hG hi hK hV hl (fun H2 locs2 hV2 => tail (K + 1) H2 locs2 hi (by omega) hV2))
      · exact lv_tableIn (tgt := 392) hx hb dL_law_33 (by omega) (by omega) (by rw [hk]; rfl) (by decide) (lc_4 C0 hL hG hi hK hV hl (fun H2 locs2 hV2 => tail (K + 1) H2 locs2 hi (by omega) hV2))
      · exact lv_tableIn (tgt := 435) hx hb dL_law_33 (by omega) (by omega) (by rw [hk]; rfl) (by decide) (lc_5 C0 hL hG hi hK hV hl (fun H2 locs2 hV2 => tail (K + 1) H2 locs2 hi (by omega) hV2))
      · exact lv_tableIn (tgt := 468) hx hb dL_law_33 (by omega) (by omega) (by rw [hk]; rfl) (by decide) (lc_6 C0 hL hG hi hK hV hl (fun H2 locs2 hV2 => tail (K + 1) H2 locs2 hi (by omega) hV2))
      · exact lv_tableIn (tgt := 531) hx hb dL_law_33 (by omega) (by omega) (by rw [hk]; rfl) (by decide) (lc_7 C0 hL hG hi hK hV hl (fun H2 locs2 hV2 => tail (K + 1) H2 locs2 hi (by omega) hV2))
      · exact lv_tableIn (tgt := 564) hx hb dL_law_33 (by omega) (by omega) (by rw [hk]; rfl) (by decide) (lc_8 C0 hL hG hi hK hV hl (fun H2 locs2 hV2 => tail (K + 1) H2 locs2 hi (by omega) hV2))
      · exact lv_tableIn (tgt := 607) hx hb dL_law_33 (by omega) (by omega) (by rw [hk]; rfl) (by decide) (lc_9 C0 hL hG hi hK hV hl (fun H2 locs2 hV2 => tail (K + 1) H2 locs2 hi (by omega) hV2))
      · exact lv_tableIn (tgt := 650) hx hb dL_law_33 (by omega) (by omega) (by rw [hk]; rfl) (by decide) (lc_10 C0 hL hG hi hK hV hl (fun H2 locs2 hV2 => tail (K + 1) H2 locs2 hi (by omega) hV2))
      · exact lv_tableIn (tgt := 693) hx hb dL_law_33 (by omega) (by omega) (by rw [hk]; rfl) (by decide) (lc_11 C0 hL hG hi hK hV hl (fun H2 locs2 hV2 => tail (K + 1) H2 locs2 hi (by omega) hV2))
      · exact lv_tableIn (tgt := 726) hx hb dL_law_33 (by omega) (by omega) (by rw [hk]; rfl) (by decide) (lc_12 C0 hL hG hi hK hV hl (fun H2 locs2 hV2 => tail (K + 1) H2 locs2 hi (by omega) hV2))
      · exact lv_tableIn (tgt := 749) hx hb dL_law_33 (by omega) (by omega) (by rw [hk]; rfl) (by decide) (lc_13 C0 hL hG hi hK hV hl (fun H2 locs2 hV2 => tail (K + 1) H2 locs2 hi (by omega) hV2))
      · exact lv_tableIn (tgt := 792) hx hb dL_law_33 (by omega) (by omega) (by rw [hk]; rfl) (by decide) (lc_14 C0 hL hG hi hK hV hl (fun H2 locs2 hV2 => tail (K + 1) H2 locs2 hi (by omega) hV2))
      · exact lv_tableIn (tgt := 835) hx hb dL_law_33 (by omega) (by omega) (by rw [hk]; rfl) (by decide) (lc_15 C0 hL hG hi hK hV hl (fun H2 locs2 hV2 => tail (K + 1) H2 locs2 hi (by omega) hV2))
      · exact lv_tableIn (tgt := 868) hx hb dL_law_33 (by omega) (by omega) (by rw [hk]; rfl) (by decide) (lc_16 C0 hL hG hi hK hV hl (fun H2 locs2 hV2 => tail (K + 1) H2 locs2 hi (by omega) hV2))
      · exact lv_tableIn (tgt := 901) hx hb dL_law_33 (by omega) (by omega) (by rw [hk]; rfl) (by decide) (lc_17 C0 hL hG hi hK hV hl (fun H2 locs2 hV2 => tail (K + 1) H2 locs2 hi (by omega) hV2))
      · exact lv_tableIn (tgt := 934) hx hb dL_law_33 (by omega) (by omega) (by rw [hk]; rfl) (by decide) (lc_18 C0 hL hG hi hK hV hl (fun H2 locs2 hV2 => tail (K + 1) H2 locs2 hi (by omega) hV2))
      · exact lv_tableIn (tgt := 967) hx hb dL_law_33 (by omega) (by omega) (by rw [hk]; rfl) (by decide) (lc_19 C0 hL hG hi hK hV hl (fun H2 locs2 hV2 => tail (K + 1) H2 locs2 hi (by omega) hV2))
      · exact lv_tableIn (tgt := 1000) hx hb dL_law_33 (by omega) (by omega) (by rw [hk]; rfl) (by decide) (lc_20 C0 hL hG hi hK hV hl (fun H2 locs2 hV2 => tail (K + 1) H2 locs2 hi (by omega) hV2))
      · exact lv_tableIn (tgt := 1023) hx hb dL_law_33 (by omega) (by omega) (by rw [hk]; rfl) (by decide) (lc_21 C0 hL hG hi hK hV hl (fun H2 locs2 hV2 => tail (K + 1) H2 locs2 hi (by omega) hV2))
      · exact lv_tableIn (tgt := 1056) hx hb dL_law_33 (by omega) (by omega) (by rw [hk]; rfl) (by decide) (lc_22 C0 hL hG hi hK hV hl (fun H2 locs2 hV2 => tail (K + 1) H2 locs2 hi (by omega) hV2))
      · exact lv_tableIn (tgt := 1079) hx hb dL_law_33 (by omega) (by omega) (by rw [hk]; rfl) (by decide) (lc_23 C0 hL hG hi hK hV hl (fun H2 locs2 hV2 => tail (K + 1) H2 locs2 hi (by omega) hV2))
      · exact lv_tableIn (tgt := 1122) hx hb dL_law_33 (by omega) (by omega) (by rw [hk]; rfl) (by decide) (lc_24 C0 hL hG hi hK hV hl (fun H2 locs2 hV2 => tail (K + 1) H2 locs2 hi (by omega) hV2))
      · exact lv_tableIn (tgt := 1145) hx hb dL_law_33 (by omega) (by omega) (by rw [hk]; rfl) (by decide) (lc_25 C0 hL hG hi hK hV hl (fun H2 locs2 hV2 => tail (K + 1) H2 locs2 hi (by omega) hV2))
      · exact lv_tableIn (tgt := 1168) hx hb dL_law_33 (by omega) (by omega) (by rw [hk]; rfl) (by decide) (lc_26 C0 hL hG hi hK hV hl (fun H2 locs2 hV2 => tail (K + 1) H2 locs2 hi (by omega) hV2))
      · exact lv_tableIn (tgt := 1191) hx hb dL_law_33 (by omega) (by omega) (by rw [hk]; rfl) (by decide) (lc_27 C0 hL hG hi hK hV hl (fun H2 locs2 hV2 => tail (K + 1) H2 locs2 hi (by omega) hV2))
      · exact lv_tableIn (tgt := 1214) hx hb dL_law_33 (by omega) (by omega) (by rw [hk]; rfl) (by decide) (lc_28 C0 hL hG hi hK hV hl (fun H2 locs2 hV2 => tail (K + 1) H2 locs2 hi (by omega) hV2))
      · exact lv_tableIn (tgt := 1237) hx hb dL_law_33 (by omega) (by omega) (by rw [hk]; rfl) (by decide) (lc_29 C0 hL hG hi hK hV hl (fun H2 locs2 hV2 => tail (K + 1) H2 locs2 hi (by omega) hV2))
      · exact lv_tableIn (tgt := 1260) hx hb dL_law_33 (by omega) (by omega) (by rw [hk]; rfl) (by decide) (lc_30 C0 hL hG hi hK hV hl (fun H2 locs2 hV2 => tail (K + 1) H2 locs2 hi (by omega) hV2))
      · exact lv_tableIn (tgt := 1283) hx hb dL_law_33 (by omega) (by omega) (by rw [hk]; rfl) (by decide) (lc_31 C0 hL hG hi hK hV hl (fun H2 locs2 hV2 => tail (K + 1) H2 locs2 hi (by omega) hV2))
      · exact lv_tableIn (tgt := 1296) hx hb dL_law_33 (by omega) (by omega) (by rw [hk]; rfl) (by decide) (lc_32 C0 hL hG hi hK hV hl (fun H2 locs2 hV2 => tail (K + 1) H2 locs2 hi (by omega) hV2))
      · exact lv_tableIn (tgt := 1349) hx hb dL_law_33 (by omega) (by omega) (by rw [hk]; rfl) (by decide) (lc_33 C0 hL hG hi hK hV hl (fun H2 locs2 hV2 => tail (K + 1) H2 locs2 hi (by omega) hV2))
      · exact lv_tableIn (tgt := 1382) hx hb dL_law_33 (by omega) (by omega) (by rw [hk]; rfl) (by decide) (lc_34 C0 hL hG hi hK hV hl (fun H2 locs2 hV2 => tail (K + 1) H2 locs2 hi (by omega) hV2))
      · exact lv_tableIn (tgt := 1425) hx hb dL_law_33 (by omega) (by omega) (by rw [hk]; rfl) (by decide) (lc_35 C0 hL hG hi hK hV hl (fun H2 locs2 hV2 => tail (K + 1) H2 locs2 hi (by omega) hV2))
      · exact lv_tableIn (tgt := 1458) hx hb dL_law_33 (by omega) (by omega) (by rw [hk]; rfl) (by decide) (lc_36 C0 hL hG hi hK hV hl (fun H2 locs2 hV2 => tail (K + 1) H2 locs2 hi (by omega) hV2))
      · exact lv_tableIn (tgt := 1481) hx hb dL_law_33 (by omega) (by omega) (by rw [hk]; rfl) (by decide) (lc_37 C0 hL hG hi hK hV hl (fun H2 locs2 hV2 => tail (K + 1) H2 locs2 hi (by omega) hV2))
      · exact lv_tableIn (tgt := 1494) hx hb dL_law_33 (by omega) (by omega) (by rw [hk]; rfl) (by decide) (lc_38 C0 hL hG hi hK hV hl (fun H2 locs2 hV2 => tail (K + 1) H2 locs2 hi (by omega) hV2))
      · exact lv_tableIn (tgt := 1517) hx hb dL_law_33 (by omega) (by omega) (by rw [hk]; rfl) (by decide) (lc_39 C0 hL hG hi hK hV hl (fun H2 locs2 hV2 => tail (K + 1) H2 locs2 hi (by omega) hV2))
      · exact lv_tableIn (tgt := 1530) hx hb dL_law_33 (by omega) (by omega) (by rw [hk]; rfl) (by decide) (lc_40 C0 hL hG hi hK hV hl (fun H2 locs2 hV2 => tail (K + 1) H2 locs2 hi (by omega) hV2))
      · exact lv_tableIn (tgt := 1553) hx hb dL_law_33 (by omega) (by omega) (by rw [hk]; rfl) (by decide) (lc_41 C0 hL hG hi hK hV hl (fun H2 locs2 hV2 => tail (K + 1) H2 locs2 hi (by omega) hV2))
      · exact lv_tableIn (tgt := 1566) hx hb dL_law_33 (by omega) (by omega) (by rw [hk]; rfl) (by decide) (lc_42 C0 hL hG hi hK hV hl (fun H2 locs2 hV2 => tail (K + 1) H2 locs2 hi (by omega) hV2))
      · exact lv_tableIn (tgt := 1579) hx hb dL_law_33 (by omega) (by omega) (by rw [hk]; rfl) (by decide) (lc_43 C0 hL hG hi hK hV hl (fun H2 locs2 hV2 => tail (K + 1) H2 locs2 hi (by omega) hV2))
      · exact lv_tableIn (tgt := 1592) hx hb dL_law_33 (by omega) (by omega) (by rw [hk]; rfl) (by decide) (lc_44 C0 hL hG hi hK hV hl (fun H2 locs2 hV2 => tail (K + 1) H2 locs2 hi (by omega) hV2))
      · exact lv_tableIn (tgt := 1605) hx hb dL_law_33 (by omega) (by omega) (by rw [hk]; rfl) (by decide) (lc_45 C0 hL hG hi hK hV hl (fun H2 locs2 hV2 => tail (K + 1) H2 locs2 hi (by omega) hV2))
      · exact lv_tableIn (tgt := 1618) hx hb dL_law_33 (by omega) (by omega) (by rw [hk]; rfl) (by decide) (lc_46 C0 hL hG hi hK hV hl (fun H2 locs2 hV2 => tail (K + 1) H2 locs2 hi (by omega) hV2))
      · exact lv_tableIn (tgt := 1631) hx hb dL_law_33 (by omega) (by omega) (by rw [hk]; rfl) (by decide) (lc_47 C0 hL hG hi hK hV hl (fun H2 locs2 hV2 => tail (K + 1) H2 locs2 hi (by omega) hV2))
end LWL

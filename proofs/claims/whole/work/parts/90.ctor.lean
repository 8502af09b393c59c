def zX0 (b : Nat) : am_Lc := [(0, 0, [b + 1 + 1, b + 2 + 1]), (11, 12, []), (11, 12, [])]
theorem zX0_len (b : Nat) : (zX0 b).length = 3 := by unfold zX0; simp only [List.length_cons, List.length_nil, List.length_append, List.length_replicate, List.length_map, List.length_range]
theorem in_X0 {l0 : am_Lc} {b : Nat} {μ : am_M} (hb : l0.length = b) (hz : ∀ k, b + 1 ≤ k → μ k = am_m0) : in_c 1 2 24 mX0_init l0 (0, 0, []) μ b [] (zX0 b) (μ) := by
  refine am_intro pmX0_init (L := [vR b]) (Nat.le_of_ble_eq_true rfl) rfl ?_
  refine @id (am_Ag true 1 2 24 mX0_init (l0 ++ [(0, 0, [])]).length (am_cell (l0 ++ [(0, 0, [])])) μ 0 _ [] _) ?_
  refine s_aload_n dX0_init_0 rfl rfl ?_
  refine s_objI dX0_init_1 oiX0_3 (Nat.le_of_ble_eq_true rfl) (by decide) ?_
  refine s_aload_n dX0_init_4 rfl rfl ?_
  refine s_bipush dX0_init_5 (by decide) ?_
  refine q_newI (N := 12) dX0_init_7 am_wai (by decide) hb (i := 1) (by simp only [List.length_cons, List.length_nil, List.length_append, List.length_replicate, List.length_map, List.length_range]) (Nat.le_of_ble_eq_true rfl) hz (bc2 := 1) (bs2 := 12) rfl rfl (xs2 := [(0, 0, []), (11, 12, [])]) rfl ?_
  refine q_putF dX0_init_9 flX0_9 hb (i := 0) rfl rfl rfl rfl (fun _ => ⟨rfl, rfl⟩) rfl rfl (xs2 := [(0, 0, [b + 1 + 1]), (11, 12, [])]) rfl ?_
  refine s_aload_n dX0_init_12 rfl rfl ?_
  refine s_bipush dX0_init_13 (by decide) ?_
  refine q_newI (N := 12) dX0_init_15 am_wai (by decide) hb (i := 2) (by simp only [List.length_cons, List.length_nil, List.length_append, List.length_replicate, List.length_map, List.length_range]) (Nat.le_of_ble_eq_true rfl) hz (bc2 := 0) (bs2 := 0) rfl rfl (xs2 := [(0, 0, [b + 1 + 1]), (11, 12, []), (11, 12, [])]) rfl ?_
  refine q_putF dX0_init_17 flX0_15 hb (i := 0) rfl rfl rfl rfl (fun _ => ⟨rfl, rfl⟩) rfl rfl (xs2 := [(0, 0, [b + 1 + 1, b + 2 + 1]), (11, 12, []), (11, 12, [])]) rfl ?_
  exact s_return dX0_init_20 rfl ⟨rfl, rfl, rfl, rfl⟩
def zX1 (b : Nat) : am_Lc := [(1, 0, [b + 1 + 1]), (11, 256, [])]
theorem zX1_len (b : Nat) : (zX1 b).length = 2 := by unfold zX1; simp only [List.length_cons, List.length_nil, List.length_append, List.length_replicate, List.length_map, List.length_range, zX0_len]
theorem in_X1 {l0 : am_Lc} {b : Nat} {μ : am_M} (hb : l0.length = b) (hz : ∀ k, b + 1 ≤ k → μ k = am_m0) : in_c 1 1 256 mX1_init l0 (1, 0, []) μ b [] (zX1 b) (μ) := by
  refine am_intro pmX1_init (L := [vR b]) (Nat.le_of_ble_eq_true rfl) rfl ?_
  refine @id (am_Ag true 1 1 256 mX1_init (l0 ++ [(1, 0, [])]).length (am_cell (l0 ++ [(1, 0, [])])) μ 0 _ [] _) ?_
  refine s_aload_n dX1_init_0 rfl rfl ?_
  refine s_objI dX1_init_1 oiX1_3 (Nat.le_of_ble_eq_true rfl) (by decide) ?_
  refine s_aload_n dX1_init_4 rfl rfl ?_
  refine s_sipush dX1_init_5 (by decide) ?_
  refine q_newI (N := 256) dX1_init_8 am_wai (by decide) hb (i := 1) (by simp only [List.length_cons, List.length_nil, List.length_append, List.length_replicate, List.length_map, List.length_range, zX0_len]) (Nat.le_of_ble_eq_true rfl) hz (bc2 := 0) (bs2 := 0) rfl rfl (xs2 := [(1, 0, []), (11, 256, [])]) rfl ?_
  refine q_putF dX1_init_10 flX1_9 hb (i := 0) rfl rfl rfl rfl (fun _ => ⟨rfl, rfl⟩) rfl rfl (xs2 := [(1, 0, [b + 1 + 1]), (11, 256, [])]) rfl ?_
  exact s_return dX1_init_13 rfl ⟨rfl, rfl, rfl, rfl⟩
def zX5 (b : Nat) : am_Lc := ((5, 0, [b + 1 + 1, b + 2 + 1, b + 3 + 1, b + 4 + 1]) :: (11, 60, []) :: (11, 20, []) :: ([(11, 20, [])] ++ [(11, 20, [])]))
theorem zX5_len (b : Nat) : (zX5 b).length = 5 := by unfold zX5; simp only [List.length_cons, List.length_nil, List.length_append, List.length_replicate, List.length_map, List.length_range, zX0_len, zX1_len]
theorem in_X5 {l0 : am_Lc} {b : Nat} {μ : am_M} (hb : l0.length = b) (hz : ∀ k, b + 1 ≤ k → μ k = am_m0) : in_c 1 4 120 mX5_init l0 (5, 0, []) μ b [] (zX5 b) (μ) := by
  refine am_intro pmX5_init (L := [vR b]) (Nat.le_of_ble_eq_true rfl) rfl ?_
  refine @id (am_Ag true 1 4 120 mX5_init (l0 ++ [(5, 0, [])]).length (am_cell (l0 ++ [(5, 0, [])])) μ 0 _ [] _) ?_
  refine s_aload_n dX5_init_0 rfl rfl ?_
  refine s_objI dX5_init_1 oiX5_3 (Nat.le_of_ble_eq_true rfl) (by decide) ?_
  refine s_aload_n dX5_init_4 rfl rfl ?_
  refine s_bipush dX5_init_5 (by decide) ?_
  refine q_newI (N := 60) dX5_init_7 am_wai (by decide) hb (i := 1) (by simp only [List.length_cons, List.length_nil, List.length_append, List.length_replicate, List.length_map, List.length_range, zX0_len, zX1_len]) (Nat.le_of_ble_eq_true rfl) hz (bc2 := 3) (bs2 := 60) rfl rfl (xs2 := [(5, 0, []), (11, 60, [])]) rfl ?_
  refine q_putF dX5_init_9 flX5_9 hb (i := 0) rfl rfl rfl rfl (fun _ => ⟨rfl, rfl⟩) rfl rfl (xs2 := [(5, 0, [b + 1 + 1]), (11, 60, [])]) rfl ?_
  refine s_aload_n dX5_init_12 rfl rfl ?_
  refine s_bipush dX5_init_13 (by decide) ?_
  refine q_newI (N := 20) dX5_init_15 am_wai (by decide) hb (i := 2) (by simp only [List.length_cons, List.length_nil, List.length_append, List.length_replicate, List.length_map, List.length_range, zX0_len, zX1_len]) (Nat.le_of_ble_eq_true rfl) hz (bc2 := 2) (bs2 := 40) rfl rfl (xs2 := [(5, 0, [b + 1 + 1]), (11, 60, []), (11, 20, [])]) rfl ?_
  refine q_putF dX5_init_17 flX5_15 hb (i := 0) rfl rfl rfl rfl (fun _ => ⟨rfl, rfl⟩) rfl rfl (xs2 := [(5, 0, [b + 1 + 1, b + 2 + 1]), (11, 60, []), (11, 20, [])]) rfl ?_
  refine s_aload_n dX5_init_20 rfl rfl ?_
  refine s_bipush dX5_init_21 (by decide) ?_
  refine q_newI (N := 20) dX5_init_23 am_wai (by decide) hb (i := 3) (by simp only [List.length_cons, List.length_nil, List.length_append, List.length_replicate, List.length_map, List.length_range, zX0_len, zX1_len]) (Nat.le_of_ble_eq_true rfl) hz (bc2 := 1) (bs2 := 20) rfl rfl (xs2 := ((5, 0, [b + 1 + 1, b + 2 + 1]) :: (11, 60, []) :: (11, 20, []) :: [(11, 20, [])])) rfl ?_
  refine q_putF dX5_init_25 flX5_18 hb (i := 0) rfl rfl rfl rfl (fun _ => ⟨rfl, rfl⟩) rfl rfl (xs2 := ((5, 0, [b + 1 + 1, b + 2 + 1, b + 3 + 1]) :: (11, 60, []) :: (11, 20, []) :: [(11, 20, [])])) rfl ?_
  refine s_aload_n dX5_init_28 rfl rfl ?_
  refine s_bipush dX5_init_29 (by decide) ?_
  refine q_newI (N := 20) dX5_init_31 am_wai (by decide) hb (i := 4) (by simp only [List.length_cons, List.length_nil, List.length_append, List.length_replicate, List.length_map, List.length_range, zX0_len, zX1_len]) (Nat.le_of_ble_eq_true rfl) hz (bc2 := 0) (bs2 := 0) rfl rfl (xs2 := ((5, 0, [b + 1 + 1, b + 2 + 1, b + 3 + 1]) :: (11, 60, []) :: (11, 20, []) :: ([(11, 20, [])] ++ [(11, 20, [])]))) rfl ?_
  refine q_putF dX5_init_33 flX5_21 hb (i := 0) rfl rfl rfl rfl (fun _ => ⟨rfl, rfl⟩) rfl rfl (xs2 := ((5, 0, [b + 1 + 1, b + 2 + 1, b + 3 + 1, b + 4 + 1]) :: (11, 60, []) :: (11, 20, []) :: ([(11, 20, [])] ++ [(11, 20, [])]))) rfl ?_
  exact s_return dX5_init_36 rfl ⟨rfl, rfl, rfl, rfl⟩
def zX8 (b : Nat) : am_Lc := [(8, 0, [b + 1 + 1]), (11, 96, [])]
theorem zX8_len (b : Nat) : (zX8 b).length = 2 := by unfold zX8; simp only [List.length_cons, List.length_nil, List.length_append, List.length_replicate, List.length_map, List.length_range, zX0_len, zX1_len, zX5_len]
theorem in_X8 {l0 : am_Lc} {b : Nat} {μ : am_M} (hb : l0.length = b) (hz : ∀ k, b + 1 ≤ k → μ k = am_m0) : in_c 1 1 96 mX8_init l0 (8, 0, []) μ b [] (zX8 b) (μ) := by
  refine am_intro pmX8_init (L := [vR b]) (Nat.le_of_ble_eq_true rfl) rfl ?_
  refine @id (am_Ag true 1 1 96 mX8_init (l0 ++ [(8, 0, [])]).length (am_cell (l0 ++ [(8, 0, [])])) μ 0 _ [] _) ?_
  refine s_aload_n dX8_init_0 rfl rfl ?_
  refine s_objI dX8_init_1 oiX8_3 (Nat.le_of_ble_eq_true rfl) (by decide) ?_
  refine s_aload_n dX8_init_4 rfl rfl ?_
  refine s_bipush dX8_init_5 (by decide) ?_
  refine q_newI (N := 96) dX8_init_7 am_wai (by decide) hb (i := 1) (by simp only [List.length_cons, List.length_nil, List.length_append, List.length_replicate, List.length_map, List.length_range, zX0_len, zX1_len, zX5_len]) (Nat.le_of_ble_eq_true rfl) hz (bc2 := 0) (bs2 := 0) rfl rfl (xs2 := [(8, 0, []), (11, 96, [])]) rfl ?_
  refine q_putF dX8_init_9 flX8_9 hb (i := 0) rfl rfl rfl rfl (fun _ => ⟨rfl, rfl⟩) rfl rfl (xs2 := [(8, 0, [b + 1 + 1]), (11, 96, [])]) rfl ?_
  exact s_return dX8_init_12 rfl ⟨rfl, rfl, rfl, rfl⟩
def zX3 (b p q : Nat) : am_Lc := ((3, 0, [p + 1, q + 1, b + 1 + 1, b + 2 + 1, b + 3 + 1]) :: (11, 150, []) :: (11, 150, []) :: [(11, 601, [])])
theorem zX3_len (b p q : Nat) : (zX3 b p q).length = 4 := by unfold zX3; simp only [List.length_cons, List.length_nil, List.length_append, List.length_replicate, List.length_map, List.length_range, zX0_len, zX1_len, zX5_len, zX8_len]
theorem in_X3 {l0 : am_Lc} {b p q : Nat} {μ : am_M} (hb : l0.length = b) (hz : ∀ k, b + 1 ≤ k → μ k = am_m0) : in_c 1 3 901 mX3_init l0 (3, 0, []) μ b [vR p, vR q] (zX3 b p q) (μ) := by
  refine am_intro pmX3_init (L := [vR b, vR p, vR q]) (Nat.le_of_ble_eq_true rfl) rfl ?_
  refine @id (am_Ag true 1 3 901 mX3_init (l0 ++ [(3, 0, [])]).length (am_cell (l0 ++ [(3, 0, [])])) μ 0 _ [] _) ?_
  refine s_aload_n dX3_init_0 rfl rfl ?_
  refine s_objI dX3_init_1 oiX3_3 (Nat.le_of_ble_eq_true rfl) (by decide) ?_
  refine s_aload_n dX3_init_4 rfl rfl ?_
  refine s_sipush dX3_init_5 (by decide) ?_
  refine q_newI (N := 150) dX3_init_8 am_wai (by decide) hb (i := 1) (by simp only [List.length_cons, List.length_nil, List.length_append, List.length_replicate, List.length_map, List.length_range, zX0_len, zX1_len, zX5_len, zX8_len]) (Nat.le_of_ble_eq_true rfl) hz (bc2 := 2) (bs2 := 751) rfl rfl (xs2 := [(3, 0, []), (11, 150, [])]) rfl ?_
  refine q_putF dX3_init_10 flX3_9 hb (i := 0) rfl rfl rfl rfl (fun _ => ⟨rfl, rfl⟩) rfl rfl (xs2 := [(3, 0, [0, 0, b + 1 + 1]), (11, 150, [])]) rfl ?_
  refine s_aload_n dX3_init_13 rfl rfl ?_
  refine s_sipush dX3_init_14 (by decide) ?_
  refine q_newI (N := 150) dX3_init_17 am_wai (by decide) hb (i := 2) (by simp only [List.length_cons, List.length_nil, List.length_append, List.length_replicate, List.length_map, List.length_range, zX0_len, zX1_len, zX5_len, zX8_len]) (Nat.le_of_ble_eq_true rfl) hz (bc2 := 1) (bs2 := 601) rfl rfl (xs2 := [(3, 0, [0, 0, b + 1 + 1]), (11, 150, []), (11, 150, [])]) rfl ?_
  refine q_putF dX3_init_19 flX3_15 hb (i := 0) rfl rfl rfl rfl (fun _ => ⟨rfl, rfl⟩) rfl rfl (xs2 := [(3, 0, [0, 0, b + 1 + 1, b + 2 + 1]), (11, 150, []), (11, 150, [])]) rfl ?_
  refine s_aload_n dX3_init_22 rfl rfl ?_
  refine s_sipush dX3_init_23 (by decide) ?_
  refine q_newI (N := 601) dX3_init_26 am_wai (by decide) hb (i := 3) (by simp only [List.length_cons, List.length_nil, List.length_append, List.length_replicate, List.length_map, List.length_range, zX0_len, zX1_len, zX5_len, zX8_len]) (Nat.le_of_ble_eq_true rfl) hz (bc2 := 0) (bs2 := 0) rfl rfl (xs2 := ((3, 0, [0, 0, b + 1 + 1, b + 2 + 1]) :: (11, 150, []) :: (11, 150, []) :: [(11, 601, [])])) rfl ?_
  refine q_putF dX3_init_28 flX3_18 hb (i := 0) rfl rfl rfl rfl (fun _ => ⟨rfl, rfl⟩) rfl rfl (xs2 := ((3, 0, [0, 0, b + 1 + 1, b + 2 + 1, b + 3 + 1]) :: (11, 150, []) :: (11, 150, []) :: [(11, 601, [])])) rfl ?_
  refine s_aload_n dX3_init_31 rfl rfl ?_
  refine s_aload_n dX3_init_32 rfl rfl ?_
  refine q_putF dX3_init_33 flX3_21 hb (i := 0) rfl rfl rfl rfl (fun _ => ⟨rfl, rfl⟩) rfl rfl (xs2 := ((3, 0, [p + 1, 0, b + 1 + 1, b + 2 + 1, b + 3 + 1]) :: (11, 150, []) :: (11, 150, []) :: [(11, 601, [])])) rfl ?_
  refine s_aload_n dX3_init_36 rfl rfl ?_
  refine s_aload_n dX3_init_37 rfl rfl ?_
  refine q_putF dX3_init_38 flX3_25 hb (i := 0) rfl rfl rfl rfl (fun _ => ⟨rfl, rfl⟩) rfl rfl (xs2 := ((3, 0, [p + 1, q + 1, b + 1 + 1, b + 2 + 1, b + 3 + 1]) :: (11, 150, []) :: (11, 150, []) :: [(11, 601, [])])) rfl ?_
  exact s_return dX3_init_41 rfl ⟨rfl, rfl, rfl, rfl⟩
def zX6 (b p q : Nat) : am_Lc := [(6, 0, [p + 1, q + 1, b + 1 + 1, b + 2 + 1]), (11, 300, []), (11, 300, [])]
theorem zX6_len (b p q : Nat) : (zX6 b p q).length = 3 := by unfold zX6; simp only [List.length_cons, List.length_nil, List.length_append, List.length_replicate, List.length_map, List.length_range, zX0_len, zX1_len, zX5_len, zX8_len, zX3_len]
theorem in_X6 {l0 : am_Lc} {b p q : Nat} {μ : am_M} (hb : l0.length = b) (hz : ∀ k, b + 1 ≤ k → μ k = am_m0) : in_c 1 2 600 mX6_init l0 (6, 0, []) μ b [vR p, vR q] (zX6 b p q) (μ) := by
  refine am_intro pmX6_init (L := [vR b, vR p, vR q]) (Nat.le_of_ble_eq_true rfl) rfl ?_
  refine @id (am_Ag true 1 2 600 mX6_init (l0 ++ [(6, 0, [])]).length (am_cell (l0 ++ [(6, 0, [])])) μ 0 _ [] _) ?_
  refine s_aload_n dX6_init_0 rfl rfl ?_
  refine s_objI dX6_init_1 oiX6_3 (Nat.le_of_ble_eq_true rfl) (by decide) ?_
  refine s_aload_n dX6_init_4 rfl rfl ?_
  refine s_sipush dX6_init_5 (by decide) ?_
  refine q_newI (N := 300) dX6_init_8 am_wai (by decide) hb (i := 1) (by simp only [List.length_cons, List.length_nil, List.length_append, List.length_replicate, List.length_map, List.length_range, zX0_len, zX1_len, zX5_len, zX8_len, zX3_len]) (Nat.le_of_ble_eq_true rfl) hz (bc2 := 1) (bs2 := 300) rfl rfl (xs2 := [(6, 0, []), (11, 300, [])]) rfl ?_
  refine q_putF dX6_init_10 flX6_9 hb (i := 0) rfl rfl rfl rfl (fun _ => ⟨rfl, rfl⟩) rfl rfl (xs2 := [(6, 0, [0, 0, b + 1 + 1]), (11, 300, [])]) rfl ?_
  refine s_aload_n dX6_init_13 rfl rfl ?_
  refine s_sipush dX6_init_14 (by decide) ?_
  refine q_newI (N := 300) dX6_init_17 am_wai (by decide) hb (i := 2) (by simp only [List.length_cons, List.length_nil, List.length_append, List.length_replicate, List.length_map, List.length_range, zX0_len, zX1_len, zX5_len, zX8_len, zX3_len]) (Nat.le_of_ble_eq_true rfl) hz (bc2 := 0) (bs2 := 0) rfl rfl (xs2 := [(6, 0, [0, 0, b + 1 + 1]), (11, 300, []), (11, 300, [])]) rfl ?_
  refine q_putF dX6_init_19 flX6_15 hb (i := 0) rfl rfl rfl rfl (fun _ => ⟨rfl, rfl⟩) rfl rfl (xs2 := [(6, 0, [0, 0, b + 1 + 1, b + 2 + 1]), (11, 300, []), (11, 300, [])]) rfl ?_
  refine s_aload_n dX6_init_22 rfl rfl ?_
  refine s_aload_n dX6_init_23 rfl rfl ?_
  refine q_putF dX6_init_24 flX6_18 hb (i := 0) rfl rfl rfl rfl (fun _ => ⟨rfl, rfl⟩) rfl rfl (xs2 := [(6, 0, [p + 1, 0, b + 1 + 1, b + 2 + 1]), (11, 300, []), (11, 300, [])]) rfl ?_
  refine s_aload_n dX6_init_27 rfl rfl ?_
  refine s_aload_n dX6_init_28 rfl rfl ?_
  refine q_putF dX6_init_29 flX6_22 hb (i := 0) rfl rfl rfl rfl (fun _ => ⟨rfl, rfl⟩) rfl rfl (xs2 := [(6, 0, [p + 1, q + 1, b + 1 + 1, b + 2 + 1]), (11, 300, []), (11, 300, [])]) rfl ?_
  exact s_return dX6_init_32 rfl ⟨rfl, rfl, rfl, rfl⟩
def zX7 (b p : Nat) : am_Lc := ((7, 0, [p + 1, b + 1 + 1, b + 8 + 1, b + 13 + 1, b + 14 + 1]) :: (((((14, 6, (List.range 6).map (fun j => b + 1 + 1 + j + 1)) :: List.replicate 6 (11, 200, [])) ++ ((14, 4, (List.range 4).map (fun j => b + 8 + 1 + j + 1)) :: List.replicate 4 (11, 600, []))) ++ [(11, 600, [])]) ++ [(11, 600, [])]))
theorem zX7_len (b p : Nat) : (zX7 b p).length = 15 := by unfold zX7; simp only [List.length_cons, List.length_nil, List.length_append, List.length_replicate, List.length_map, List.length_range, zX0_len, zX1_len, zX5_len, zX8_len, zX3_len, zX6_len]
theorem in_X7 {l0 : am_Lc} {b p : Nat} {μ : am_M} (hb : l0.length = b) (hz : ∀ k, b + 1 ≤ k → μ k = am_m0) : in_c 1 14 4810 mX7_init l0 (7, 0, []) μ b [vR p] (zX7 b p) (am_st μ b (am_up (μ b) 5 1)) := by
  refine am_intro pmX7_init (L := [vR b, vR p]) (Nat.le_of_ble_eq_true rfl) rfl ?_
  refine @id (am_Ag true 1 14 4810 mX7_init (l0 ++ [(7, 0, [])]).length (am_cell (l0 ++ [(7, 0, [])])) μ 0 _ [] _) ?_
  refine s_aload_n dX7_init_0 rfl rfl ?_
  refine s_objI dX7_init_1 oiX7_3 (Nat.le_of_ble_eq_true rfl) (by decide) ?_
  refine s_aload_n dX7_init_4 rfl rfl ?_
  refine s_bipush dX7_init_5 (by decide) ?_
  refine s_sipush dX7_init_7 (by decide) ?_
  refine q_mna (N := 6) (K := 200) dX7_init_10 am_wcm am_wai (by decide) (by decide) hb (i := 1) (by simp only [List.length_cons, List.length_nil, List.length_append, List.length_replicate, List.length_map, List.length_range, zX0_len, zX1_len, zX5_len, zX8_len, zX3_len, zX6_len]) (Nat.le_of_ble_eq_true rfl) hz (bc2 := 7) (bs2 := 3604) rfl rfl (xs2 := ((7, 0, []) :: ((14, 6, (List.range 6).map (fun j => b + 1 + 1 + j + 1)) :: List.replicate 6 (11, 200, [])))) rfl ?_
  refine q_putF dX7_init_14 flX7_11 hb (i := 0) rfl rfl rfl rfl (fun _ => ⟨rfl, rfl⟩) rfl rfl (xs2 := ((7, 0, [0, b + 1 + 1]) :: ((14, 6, (List.range 6).map (fun j => b + 1 + 1 + j + 1)) :: List.replicate 6 (11, 200, [])))) rfl ?_
  refine s_aload_n dX7_init_17 rfl rfl ?_
  refine s_iconst dX7_init_18 (by decide) ?_
  refine s_sipush dX7_init_19 (by decide) ?_
  refine q_mna (N := 4) (K := 600) dX7_init_22 am_wcm am_wai (by decide) (by decide) hb (i := 8) (by simp only [List.length_cons, List.length_nil, List.length_append, List.length_replicate, List.length_map, List.length_range, zX0_len, zX1_len, zX5_len, zX8_len, zX3_len, zX6_len]) (Nat.le_of_ble_eq_true rfl) hz (bc2 := 2) (bs2 := 1200) rfl rfl (xs2 := ((7, 0, [0, b + 1 + 1]) :: (((14, 6, (List.range 6).map (fun j => b + 1 + 1 + j + 1)) :: List.replicate 6 (11, 200, [])) ++ ((14, 4, (List.range 4).map (fun j => b + 8 + 1 + j + 1)) :: List.replicate 4 (11, 600, []))))) rfl ?_
  refine q_putF dX7_init_26 flX7_16 hb (i := 0) rfl rfl rfl rfl (fun _ => ⟨rfl, rfl⟩) rfl rfl (xs2 := ((7, 0, [0, b + 1 + 1, b + 8 + 1]) :: (((14, 6, (List.range 6).map (fun j => b + 1 + 1 + j + 1)) :: List.replicate 6 (11, 200, [])) ++ ((14, 4, (List.range 4).map (fun j => b + 8 + 1 + j + 1)) :: List.replicate 4 (11, 600, []))))) rfl ?_
  refine s_aload_n dX7_init_29 rfl rfl ?_
  refine s_sipush dX7_init_30 (by decide) ?_
  refine q_newI (N := 600) dX7_init_33 am_wai (by decide) hb (i := 13) (by simp only [List.length_cons, List.length_nil, List.length_append, List.length_replicate, List.length_map, List.length_range, zX0_len, zX1_len, zX5_len, zX8_len, zX3_len, zX6_len]) (Nat.le_of_ble_eq_true rfl) hz (bc2 := 1) (bs2 := 600) rfl rfl (xs2 := ((7, 0, [0, b + 1 + 1, b + 8 + 1]) :: ((((14, 6, (List.range 6).map (fun j => b + 1 + 1 + j + 1)) :: List.replicate 6 (11, 200, [])) ++ ((14, 4, (List.range 4).map (fun j => b + 8 + 1 + j + 1)) :: List.replicate 4 (11, 600, []))) ++ [(11, 600, [])]))) rfl ?_
  refine q_putF dX7_init_35 flX7_19 hb (i := 0) rfl rfl rfl rfl (fun _ => ⟨rfl, rfl⟩) rfl rfl (xs2 := ((7, 0, [0, b + 1 + 1, b + 8 + 1, b + 13 + 1]) :: ((((14, 6, (List.range 6).map (fun j => b + 1 + 1 + j + 1)) :: List.replicate 6 (11, 200, [])) ++ ((14, 4, (List.range 4).map (fun j => b + 8 + 1 + j + 1)) :: List.replicate 4 (11, 600, []))) ++ [(11, 600, [])]))) rfl ?_
  refine s_aload_n dX7_init_38 rfl rfl ?_
  refine s_sipush dX7_init_39 (by decide) ?_
  refine q_newI (N := 600) dX7_init_42 am_wai (by decide) hb (i := 14) (by simp only [List.length_cons, List.length_nil, List.length_append, List.length_replicate, List.length_map, List.length_range, zX0_len, zX1_len, zX5_len, zX8_len, zX3_len, zX6_len]) (Nat.le_of_ble_eq_true rfl) hz (bc2 := 0) (bs2 := 0) rfl rfl (xs2 := ((7, 0, [0, b + 1 + 1, b + 8 + 1, b + 13 + 1]) :: (((((14, 6, (List.range 6).map (fun j => b + 1 + 1 + j + 1)) :: List.replicate 6 (11, 200, [])) ++ ((14, 4, (List.range 4).map (fun j => b + 8 + 1 + j + 1)) :: List.replicate 4 (11, 600, []))) ++ [(11, 600, [])]) ++ [(11, 600, [])]))) rfl ?_
  refine q_putF dX7_init_44 flX7_23 hb (i := 0) rfl rfl rfl rfl (fun _ => ⟨rfl, rfl⟩) rfl rfl (xs2 := ((7, 0, [0, b + 1 + 1, b + 8 + 1, b + 13 + 1, b + 14 + 1]) :: (((((14, 6, (List.range 6).map (fun j => b + 1 + 1 + j + 1)) :: List.replicate 6 (11, 200, [])) ++ ((14, 4, (List.range 4).map (fun j => b + 8 + 1 + j + 1)) :: List.replicate 4 (11, 600, []))) ++ [(11, 600, [])]) ++ [(11, 600, [])]))) rfl ?_
  refine s_aload_n dX7_init_47 rfl rfl ?_
  refine s_iconst dX7_init_48 (by decide) ?_
  refine q_putI dX7_init_49 flX7_26 hb (i := 0) rfl rfl rfl rfl (Or.inr (by decide)) (μ2 := (am_st μ b (am_up (μ b) 5 1))) rfl ?_
  have hz := q_hz (j := 0) (i1 := 1) (f := am_up (μ b) 5 1) hz (by decide) (by decide)
  refine s_aload_n dX7_init_52 rfl rfl ?_
  refine s_aload_n dX7_init_53 rfl rfl ?_
  refine q_putF dX7_init_54 flX7_30 hb (i := 0) rfl rfl rfl rfl (fun _ => ⟨rfl, rfl⟩) rfl rfl (xs2 := ((7, 0, [p + 1, b + 1 + 1, b + 8 + 1, b + 13 + 1, b + 14 + 1]) :: (((((14, 6, (List.range 6).map (fun j => b + 1 + 1 + j + 1)) :: List.replicate 6 (11, 200, [])) ++ ((14, 4, (List.range 4).map (fun j => b + 8 + 1 + j + 1)) :: List.replicate 4 (11, 600, []))) ++ [(11, 600, [])]) ++ [(11, 600, [])]))) rfl ?_
  exact s_return dX7_init_57 rfl ⟨rfl, rfl, rfl, rfl⟩
def zX4 (b : Nat) : am_Lc := ((4, 0, [b + 1 + 1, b + 2 + 1, b + 3 + 1, b + 4 + 1, b + 6 + 1]) :: (11, 5, []) :: (11, 28, []) :: (([(11, 24, [])] ++ (zX1 (b + 4))) ++ (zX0 (b + 6))))
theorem zX4_len (b : Nat) : (zX4 b).length = 9 := by unfold zX4; simp only [List.length_cons, List.length_nil, List.length_append, List.length_replicate, List.length_map, List.length_range, zX0_len, zX1_len, zX5_len, zX8_len, zX3_len, zX6_len, zX7_len]
def am_pm (μ : am_M) (b : Nat) : am_M := (am_st (am_st (am_st (am_st (am_st μ (b + 1) (am_cpS 0 (μ (b + 1)) 0 0 5)) (b + 2) (am_cpS 3 ((am_st μ (b + 1) (am_cpS 0 (μ (b + 1)) 0 0 5)) (b + 2)) 0 0 7)) (b + 2) (am_cpS 3 ((am_st (am_st μ (b + 1) (am_cpS 0 (μ (b + 1)) 0 0 5)) (b + 2) (am_cpS 3 ((am_st μ (b + 1) (am_cpS 0 (μ (b + 1)) 0 0 5)) (b + 2)) 0 0 7)) (b + 2)) 0 7 7)) (b + 2) (am_cpS 3 ((am_st (am_st (am_st μ (b + 1) (am_cpS 0 (μ (b + 1)) 0 0 5)) (b + 2) (am_cpS 3 ((am_st μ (b + 1) (am_cpS 0 (μ (b + 1)) 0 0 5)) (b + 2)) 0 0 7)) (b + 2) (am_cpS 3 ((am_st (am_st μ (b + 1) (am_cpS 0 (μ (b + 1)) 0 0 5)) (b + 2) (am_cpS 3 ((am_st μ (b + 1) (am_cpS 0 (μ (b + 1)) 0 0 5)) (b + 2)) 0 0 7)) (b + 2)) 0 7 7)) (b + 2)) 0 14 7)) (b + 2) (am_cpS 3 ((am_st (am_st (am_st (am_st μ (b + 1) (am_cpS 0 (μ (b + 1)) 0 0 5)) (b + 2) (am_cpS 3 ((am_st μ (b + 1) (am_cpS 0 (μ (b + 1)) 0 0 5)) (b + 2)) 0 0 7)) (b + 2) (am_cpS 3 ((am_st (am_st μ (b + 1) (am_cpS 0 (μ (b + 1)) 0 0 5)) (b + 2) (am_cpS 3 ((am_st μ (b + 1) (am_cpS 0 (μ (b + 1)) 0 0 5)) (b + 2)) 0 0 7)) (b + 2)) 0 7 7)) (b + 2) (am_cpS 3 ((am_st (am_st (am_st μ (b + 1) (am_cpS 0 (μ (b + 1)) 0 0 5)) (b + 2) (am_cpS 3 ((am_st μ (b + 1) (am_cpS 0 (μ (b + 1)) 0 0 5)) (b + 2)) 0 0 7)) (b + 2) (am_cpS 3 ((am_st (am_st μ (b + 1) (am_cpS 0 (μ (b + 1)) 0 0 5)) (b + 2) (am_cpS 3 ((am_st μ (b + 1) (am_cpS 0 (μ (b + 1)) 0 0 5)) (b + 2)) 0 0 7)) (b + 2)) 0 7 7)) (b + 2)) 0 14 7)) (b + 2)) 0 21 7))
theorem am_pm0 {μ : am_M} {b i0 i1 j : Nat} (hz : ∀ k, b + i0 ≤ k → μ k = am_m0) (h0 : i0 ≤ i1) (h1 : j + 2 < i1) : ∀ k, b + i1 ≤ k → am_pm μ (b + j) k = am_m0 := fun k hk => by
  unfold am_pm am_st
  repeat rw [if_neg (by omega)]
  exact hz k (by omega)
theorem in_X4 {l0 : am_Lc} {b : Nat} {μ : am_M} (hb : l0.length = b) (hz : ∀ k, b + 1 ≤ k → μ k = am_m0) : in_c 2 8 342 mX4_init l0 (4, 0, []) μ b [] (zX4 b) (am_pm μ b) := by
  refine am_intro pmX4_init (L := [vR b, vU]) (Nat.le_of_ble_eq_true rfl) rfl ?_
  refine @id (am_Ag true 2 8 342 mX4_init (l0 ++ [(4, 0, [])]).length (am_cell (l0 ++ [(4, 0, [])])) μ 0 _ [] _) ?_
  refine s_aload_n dX4_init_0 rfl rfl ?_
  refine s_objI dX4_init_1 oiX4_3 (Nat.le_of_ble_eq_true rfl) (by decide) ?_
  refine s_aload_n dX4_init_4 rfl rfl ?_
  refine s_iconst dX4_init_5 (by decide) ?_
  refine q_newI (N := 5) dX4_init_6 am_wai (by decide) hb (i := 1) (by simp only [List.length_cons, List.length_nil, List.length_append, List.length_replicate, List.length_map, List.length_range, zX0_len, zX1_len, zX5_len, zX8_len, zX3_len, zX6_len, zX7_len]) (Nat.le_of_ble_eq_true rfl) hz (bc2 := 7) (bs2 := 337) rfl rfl (xs2 := [(4, 0, []), (11, 5, [])]) rfl ?_
  refine q_putF dX4_init_8 flX4_9 hb (i := 0) rfl rfl rfl rfl (fun _ => ⟨rfl, rfl⟩) rfl rfl (xs2 := [(4, 0, [b + 1 + 1]), (11, 5, [])]) rfl ?_
  refine s_aload_n dX4_init_11 rfl rfl ?_
  refine s_bipush dX4_init_12 (by decide) ?_
  refine q_newI (N := 28) dX4_init_14 am_wai (by decide) hb (i := 2) (by simp only [List.length_cons, List.length_nil, List.length_append, List.length_replicate, List.length_map, List.length_range, zX0_len, zX1_len, zX5_len, zX8_len, zX3_len, zX6_len, zX7_len]) (Nat.le_of_ble_eq_true rfl) hz (bc2 := 6) (bs2 := 309) rfl rfl (xs2 := [(4, 0, [b + 1 + 1]), (11, 5, []), (11, 28, [])]) rfl ?_
  refine q_putF dX4_init_16 flX4_15 hb (i := 0) rfl rfl rfl rfl (fun _ => ⟨rfl, rfl⟩) rfl rfl (xs2 := [(4, 0, [b + 1 + 1, b + 2 + 1]), (11, 5, []), (11, 28, [])]) rfl ?_
  refine s_aload_n dX4_init_19 rfl rfl ?_
  refine s_bipush dX4_init_20 (by decide) ?_
  refine q_newI (N := 24) dX4_init_22 am_wai (by decide) hb (i := 3) (by simp only [List.length_cons, List.length_nil, List.length_append, List.length_replicate, List.length_map, List.length_range, zX0_len, zX1_len, zX5_len, zX8_len, zX3_len, zX6_len, zX7_len]) (Nat.le_of_ble_eq_true rfl) hz (bc2 := 5) (bs2 := 285) rfl rfl (xs2 := ((4, 0, [b + 1 + 1, b + 2 + 1]) :: (11, 5, []) :: (11, 28, []) :: [(11, 24, [])])) rfl ?_
  refine q_putF dX4_init_24 flX4_18 hb (i := 0) rfl rfl rfl rfl (fun _ => ⟨rfl, rfl⟩) rfl rfl (xs2 := ((4, 0, [b + 1 + 1, b + 2 + 1, b + 3 + 1]) :: (11, 5, []) :: (11, 28, []) :: [(11, 24, [])])) rfl ?_
  refine s_aload_n dX4_init_27 rfl rfl ?_
  refine q_new dX4_init_28 nxX4_21 hb (i := 4) (by simp only [List.length_cons, List.length_nil, List.length_append, List.length_replicate, List.length_map, List.length_range, zX0_len, zX1_len, zX5_len, zX8_len, zX3_len, zX6_len, zX7_len]) (Nat.le_of_ble_eq_true rfl) hz (bc2 := 4) (bs2 := 283) rfl rfl (xs2 := ((4, 0, [b + 1 + 1, b + 2 + 1, b + 3 + 1]) :: (11, 5, []) :: (11, 28, []) :: ([(11, 24, [])] ++ [(1, 0, [])]))) rfl ?_
  refine s_dup dX4_init_31 ?_
  refine q_initN dX4_init_32 lkX4_23 rfl rfl lmX1_init (As := []) (k := (b + 4)) (rest := [vR (b + 4), vR b]) rfl rfl (Nat.le_of_ble_eq_true rfl) (by decide) (bc2 := 3) (bc1 := 1) (bs2 := 27) (bs1 := 256) rfl rfl hb (i := 4) (ys := ((4, 0, [b + 1 + 1, b + 2 + 1, b + 3 + 1]) :: (11, 5, []) :: (11, 28, []) :: [(11, 24, [])])) (o := (1, 0, [])) (by simp only [List.length_cons, List.length_nil, List.length_append, List.length_replicate, List.length_map, List.length_range, zX0_len, zX1_len, zX5_len, zX8_len, zX3_len, zX6_len, zX7_len]) rfl rfl (in_X1 (q_len hb (by simp only [List.length_cons, List.length_nil, List.length_append, List.length_replicate, List.length_map, List.length_range, zX0_len, zX1_len, zX5_len, zX8_len, zX3_len, zX6_len, zX7_len])) (fun k hk => hz k (Nat.le_trans (by omega) hk))) (xs2 := ((4, 0, [b + 1 + 1, b + 2 + 1, b + 3 + 1]) :: (11, 5, []) :: (11, 28, []) :: ([(11, 24, [])] ++ (zX1 (b + 4))))) rfl ?_
  refine q_putF dX4_init_35 flX4_24 hb (i := 0) rfl rfl rfl rfl (fun _ => ⟨rfl, rfl⟩) rfl rfl (xs2 := ((4, 0, [b + 1 + 1, b + 2 + 1, b + 3 + 1, b + 4 + 1]) :: (11, 5, []) :: (11, 28, []) :: ([(11, 24, [])] ++ (zX1 (b + 4))))) rfl ?_
  refine s_aload_n dX4_init_38 rfl rfl ?_
  refine q_new dX4_init_39 nxX4_28 hb (i := 6) (by simp only [List.length_cons, List.length_nil, List.length_append, List.length_replicate, List.length_map, List.length_range, zX0_len, zX1_len, zX5_len, zX8_len, zX3_len, zX6_len, zX7_len]) (Nat.le_of_ble_eq_true rfl) hz (bc2 := 2) (bs2 := 24) rfl rfl (xs2 := ((4, 0, [b + 1 + 1, b + 2 + 1, b + 3 + 1, b + 4 + 1]) :: (11, 5, []) :: (11, 28, []) :: (([(11, 24, [])] ++ (zX1 (b + 4))) ++ [(0, 0, [])]))) rfl ?_
  refine s_dup dX4_init_42 ?_
  refine q_initN dX4_init_43 lkX4_30 rfl rfl lmX0_init (As := []) (k := (b + 6)) (rest := [vR (b + 6), vR b]) rfl rfl (Nat.le_of_ble_eq_true rfl) (by decide) (bc2 := 0) (bc1 := 2) (bs2 := 0) (bs1 := 24) rfl rfl hb (i := 6) (ys := ((4, 0, [b + 1 + 1, b + 2 + 1, b + 3 + 1, b + 4 + 1]) :: (11, 5, []) :: (11, 28, []) :: ([(11, 24, [])] ++ (zX1 (b + 4))))) (o := (0, 0, [])) (by simp only [List.length_cons, List.length_nil, List.length_append, List.length_replicate, List.length_map, List.length_range, zX0_len, zX1_len, zX5_len, zX8_len, zX3_len, zX6_len, zX7_len]) rfl rfl (in_X0 (q_len hb (by simp only [List.length_cons, List.length_nil, List.length_append, List.length_replicate, List.length_map, List.length_range, zX0_len, zX1_len, zX5_len, zX8_len, zX3_len, zX6_len, zX7_len])) (fun k hk => hz k (Nat.le_trans (by omega) hk))) (xs2 := ((4, 0, [b + 1 + 1, b + 2 + 1, b + 3 + 1, b + 4 + 1]) :: (11, 5, []) :: (11, 28, []) :: (([(11, 24, [])] ++ (zX1 (b + 4))) ++ (zX0 (b + 6))))) rfl ?_
  refine q_putF dX4_init_46 flX4_31 hb (i := 0) rfl rfl rfl rfl (fun _ => ⟨rfl, rfl⟩) rfl rfl (xs2 := ((4, 0, [b + 1 + 1, b + 2 + 1, b + 3 + 1, b + 4 + 1, b + 6 + 1]) :: (11, 5, []) :: (11, 28, []) :: (([(11, 24, [])] ++ (zX1 (b + 4))) ++ (zX0 (b + 6))))) rfl ?_
  refine s_gets dX4_init_49 (by decide) gsX4_35 ?_
  refine s_iconst dX4_init_52 (by decide) ?_
  refine s_aload_n dX4_init_53 rfl rfl ?_
  refine q_getR (r := (b + 1)) dX4_init_54 flX4_9 hb (i := 0) rfl rfl rfl rfl ?_
  refine s_iconst dX4_init_57 (by decide) ?_
  refine s_iconst dX4_init_58 (by decide) ?_
  refine q_acopyS dX4_init_59 waX4_38 (by decide) hb (i := 1) rfl rfl (Nat.le_of_ble_eq_true rfl) (by decide) (by decide) (by decide) (by decide) (by decide) (by decide) (μ2 := (am_st μ (b + 1) (am_cpS 0 (μ (b + 1)) 0 0 5))) rfl ?_
  have hz := q_hz (j := 1) (i1 := 2) (f := (am_cpS 0 (μ (b + 1)) 0 0 5)) hz (by decide) (by decide)
  refine s_iconst dX4_init_62 (by decide) ?_
  refine s_istore_n dX4_init_63 rfl (by decide) (L' := [vR b, vI 0]) rfl ?_
  refine s_iload_n dX4_init_64 rfl rfl ?_
  refine s_iconst dX4_init_65 (by decide) ?_
  refine s_icmp_ge dX4_init_66 (tgt := 92) (by decide) (fun cc => absurd cc (by decide)) (fun _ => ?_)
  refine s_gets dX4_init_69 (by decide) gsX4_44 ?_
  refine s_iconst dX4_init_72 (by decide) ?_
  refine s_aload_n dX4_init_73 rfl rfl ?_
  refine q_getR (r := (b + 2)) dX4_init_74 flX4_15 hb (i := 0) rfl rfl rfl rfl ?_
  refine s_iload_n dX4_init_77 rfl rfl ?_
  refine s_bipush dX4_init_78 (by decide) ?_
  refine s_imul (z := 0) dX4_init_80 (by decide) ?_
  refine s_bipush dX4_init_81 (by decide) ?_
  refine q_acopyS dX4_init_83 waX4_38 (by decide) hb (i := 2) rfl rfl (Nat.le_of_ble_eq_true rfl) (by decide) (by decide) (by decide) (by decide) (by decide) (by decide) (μ2 := (am_st (am_st μ (b + 1) (am_cpS 0 (μ (b + 1)) 0 0 5)) (b + 2) (am_cpS 3 ((am_st μ (b + 1) (am_cpS 0 (μ (b + 1)) 0 0 5)) (b + 2)) 0 0 7))) rfl ?_
  have hz := q_hz (j := 2) (i1 := 3) (f := (am_cpS 3 ((am_st μ (b + 1) (am_cpS 0 (μ (b + 1)) 0 0 5)) (b + 2)) 0 0 7)) hz (by decide) (by decide)
  refine s_iinc (y := 1) dX4_init_86 rfl (by decide) (by decide) (L' := [vR b, vI 1]) rfl ?_
  refine s_goto dX4_init_89 (tgt := 64) (by decide) ?_
  refine s_iload_n dX4_init_64 rfl rfl ?_
  refine s_iconst dX4_init_65 (by decide) ?_
  refine s_icmp_ge dX4_init_66 (tgt := 92) (by decide) (fun cc => absurd cc (by decide)) (fun _ => ?_)
  refine s_gets dX4_init_69 (by decide) gsX4_44 ?_
  refine s_iconst dX4_init_72 (by decide) ?_
  refine s_aload_n dX4_init_73 rfl rfl ?_
  refine q_getR (r := (b + 2)) dX4_init_74 flX4_15 hb (i := 0) rfl rfl rfl rfl ?_
  refine s_iload_n dX4_init_77 rfl rfl ?_
  refine s_bipush dX4_init_78 (by decide) ?_
  refine s_imul (z := 7) dX4_init_80 (by decide) ?_
  refine s_bipush dX4_init_81 (by decide) ?_
  refine q_acopyS dX4_init_83 waX4_38 (by decide) hb (i := 2) rfl rfl (Nat.le_of_ble_eq_true rfl) (by decide) (by decide) (by decide) (by decide) (by decide) (by decide) (μ2 := (am_st (am_st (am_st μ (b + 1) (am_cpS 0 (μ (b + 1)) 0 0 5)) (b + 2) (am_cpS 3 ((am_st μ (b + 1) (am_cpS 0 (μ (b + 1)) 0 0 5)) (b + 2)) 0 0 7)) (b + 2) (am_cpS 3 ((am_st (am_st μ (b + 1) (am_cpS 0 (μ (b + 1)) 0 0 5)) (b + 2) (am_cpS 3 ((am_st μ (b + 1) (am_cpS 0 (μ (b + 1)) 0 0 5)) (b + 2)) 0 0 7)) (b + 2)) 0 7 7))) rfl ?_
  have hz := q_hz (j := 2) (i1 := 3) (f := (am_cpS 3 ((am_st (am_st μ (b + 1) (am_cpS 0 (μ (b + 1)) 0 0 5)) (b + 2) (am_cpS 3 ((am_st μ (b + 1) (am_cpS 0 (μ (b + 1)) 0 0 5)) (b + 2)) 0 0 7)) (b + 2)) 0 7 7)) hz (by decide) (by decide)
  refine s_iinc (y := 2) dX4_init_86 rfl (by decide) (by decide) (L' := [vR b, vI 2]) rfl ?_
  refine s_goto dX4_init_89 (tgt := 64) (by decide) ?_
  refine s_iload_n dX4_init_64 rfl rfl ?_
  refine s_iconst dX4_init_65 (by decide) ?_
  refine s_icmp_ge dX4_init_66 (tgt := 92) (by decide) (fun cc => absurd cc (by decide)) (fun _ => ?_)
  refine s_gets dX4_init_69 (by decide) gsX4_44 ?_
  refine s_iconst dX4_init_72 (by decide) ?_
  refine s_aload_n dX4_init_73 rfl rfl ?_
  refine q_getR (r := (b + 2)) dX4_init_74 flX4_15 hb (i := 0) rfl rfl rfl rfl ?_
  refine s_iload_n dX4_init_77 rfl rfl ?_
  refine s_bipush dX4_init_78 (by decide) ?_
  refine s_imul (z := 14) dX4_init_80 (by decide) ?_
  refine s_bipush dX4_init_81 (by decide) ?_
  refine q_acopyS dX4_init_83 waX4_38 (by decide) hb (i := 2) rfl rfl (Nat.le_of_ble_eq_true rfl) (by decide) (by decide) (by decide) (by decide) (by decide) (by decide) (μ2 := (am_st (am_st (am_st (am_st μ (b + 1) (am_cpS 0 (μ (b + 1)) 0 0 5)) (b + 2) (am_cpS 3 ((am_st μ (b + 1) (am_cpS 0 (μ (b + 1)) 0 0 5)) (b + 2)) 0 0 7)) (b + 2) (am_cpS 3 ((am_st (am_st μ (b + 1) (am_cpS 0 (μ (b + 1)) 0 0 5)) (b + 2) (am_cpS 3 ((am_st μ (b + 1) (am_cpS 0 (μ (b + 1)) 0 0 5)) (b + 2)) 0 0 7)) (b + 2)) 0 7 7)) (b + 2) (am_cpS 3 ((am_st (am_st (am_st μ (b + 1) (am_cpS 0 (μ (b + 1)) 0 0 5)) (b + 2) (am_cpS 3 ((am_st μ (b + 1) (am_cpS 0 (μ (b + 1)) 0 0 5)) (b + 2)) 0 0 7)) (b + 2) (am_cpS 3 ((am_st (am_st μ (b + 1) (am_cpS 0 (μ (b + 1)) 0 0 5)) (b + 2) (am_cpS 3 ((am_st μ (b + 1) (am_cpS 0 (μ (b + 1)) 0 0 5)) (b + 2)) 0 0 7)) (b + 2)) 0 7 7)) (b + 2)) 0 14 7))) rfl ?_
  have hz := q_hz (j := 2) (i1 := 3) (f := (am_cpS 3 ((am_st (am_st (am_st μ (b + 1) (am_cpS 0 (μ (b + 1)) 0 0 5)) (b + 2) (am_cpS 3 ((am_st μ (b + 1) (am_cpS 0 (μ (b + 1)) 0 0 5)) (b + 2)) 0 0 7)) (b + 2) (am_cpS 3 ((am_st (am_st μ (b + 1) (am_cpS 0 (μ (b + 1)) 0 0 5)) (b + 2) (am_cpS 3 ((am_st μ (b + 1) (am_cpS 0 (μ (b + 1)) 0 0 5)) (b + 2)) 0 0 7)) (b + 2)) 0 7 7)) (b + 2)) 0 14 7)) hz (by decide) (by decide)
  refine s_iinc (y := 3) dX4_init_86 rfl (by decide) (by decide) (L' := [vR b, vI 3]) rfl ?_
  refine s_goto dX4_init_89 (tgt := 64) (by decide) ?_
  refine s_iload_n dX4_init_64 rfl rfl ?_
  refine s_iconst dX4_init_65 (by decide) ?_
  refine s_icmp_ge dX4_init_66 (tgt := 92) (by decide) (fun cc => absurd cc (by decide)) (fun _ => ?_)
  refine s_gets dX4_init_69 (by decide) gsX4_44 ?_
  refine s_iconst dX4_init_72 (by decide) ?_
  refine s_aload_n dX4_init_73 rfl rfl ?_
  refine q_getR (r := (b + 2)) dX4_init_74 flX4_15 hb (i := 0) rfl rfl rfl rfl ?_
  refine s_iload_n dX4_init_77 rfl rfl ?_
  refine s_bipush dX4_init_78 (by decide) ?_
  refine s_imul (z := 21) dX4_init_80 (by decide) ?_
  refine s_bipush dX4_init_81 (by decide) ?_
  refine q_acopyS dX4_init_83 waX4_38 (by decide) hb (i := 2) rfl rfl (Nat.le_of_ble_eq_true rfl) (by decide) (by decide) (by decide) (by decide) (by decide) (by decide) (μ2 := (am_st (am_st (am_st (am_st (am_st μ (b + 1) (am_cpS 0 (μ (b + 1)) 0 0 5)) (b + 2) (am_cpS 3 ((am_st μ (b + 1) (am_cpS 0 (μ (b + 1)) 0 0 5)) (b + 2)) 0 0 7)) (b + 2) (am_cpS 3 ((am_st (am_st μ (b + 1) (am_cpS 0 (μ (b + 1)) 0 0 5)) (b + 2) (am_cpS 3 ((am_st μ (b + 1) (am_cpS 0 (μ (b + 1)) 0 0 5)) (b + 2)) 0 0 7)) (b + 2)) 0 7 7)) (b + 2) (am_cpS 3 ((am_st (am_st (am_st μ (b + 1) (am_cpS 0 (μ (b + 1)) 0 0 5)) (b + 2) (am_cpS 3 ((am_st μ (b + 1) (am_cpS 0 (μ (b + 1)) 0 0 5)) (b + 2)) 0 0 7)) (b + 2) (am_cpS 3 ((am_st (am_st μ (b + 1) (am_cpS 0 (μ (b + 1)) 0 0 5)) (b + 2) (am_cpS 3 ((am_st μ (b + 1) (am_cpS 0 (μ (b + 1)) 0 0 5)) (b + 2)) 0 0 7)) (b + 2)) 0 7 7)) (b + 2)) 0 14 7)) (b + 2) (am_cpS 3 ((am_st (am_st (am_st (am_st μ (b + 1) (am_cpS 0 (μ (b + 1)) 0 0 5)) (b + 2) (am_cpS 3 ((am_st μ (b + 1) (am_cpS 0 (μ (b + 1)) 0 0 5)) (b + 2)) 0 0 7)) (b + 2) (am_cpS 3 ((am_st (am_st μ (b + 1) (am_cpS 0 (μ (b + 1)) 0 0 5)) (b + 2) (am_cpS 3 ((am_st μ (b + 1) (am_cpS 0 (μ (b + 1)) 0 0 5)) (b + 2)) 0 0 7)) (b + 2)) 0 7 7)) (b + 2) (am_cpS 3 ((am_st (am_st (am_st μ (b + 1) (am_cpS 0 (μ (b + 1)) 0 0 5)) (b + 2) (am_cpS 3 ((am_st μ (b + 1) (am_cpS 0 (μ (b + 1)) 0 0 5)) (b + 2)) 0 0 7)) (b + 2) (am_cpS 3 ((am_st (am_st μ (b + 1) (am_cpS 0 (μ (b + 1)) 0 0 5)) (b + 2) (am_cpS 3 ((am_st μ (b + 1) (am_cpS 0 (μ (b + 1)) 0 0 5)) (b + 2)) 0 0 7)) (b + 2)) 0 7 7)) (b + 2)) 0 14 7)) (b + 2)) 0 21 7))) rfl ?_
  have hz := q_hz (j := 2) (i1 := 3) (f := (am_cpS 3 ((am_st (am_st (am_st (am_st μ (b + 1) (am_cpS 0 (μ (b + 1)) 0 0 5)) (b + 2) (am_cpS 3 ((am_st μ (b + 1) (am_cpS 0 (μ (b + 1)) 0 0 5)) (b + 2)) 0 0 7)) (b + 2) (am_cpS 3 ((am_st (am_st μ (b + 1) (am_cpS 0 (μ (b + 1)) 0 0 5)) (b + 2) (am_cpS 3 ((am_st μ (b + 1) (am_cpS 0 (μ (b + 1)) 0 0 5)) (b + 2)) 0 0 7)) (b + 2)) 0 7 7)) (b + 2) (am_cpS 3 ((am_st (am_st (am_st μ (b + 1) (am_cpS 0 (μ (b + 1)) 0 0 5)) (b + 2) (am_cpS 3 ((am_st μ (b + 1) (am_cpS 0 (μ (b + 1)) 0 0 5)) (b + 2)) 0 0 7)) (b + 2) (am_cpS 3 ((am_st (am_st μ (b + 1) (am_cpS 0 (μ (b + 1)) 0 0 5)) (b + 2) (am_cpS 3 ((am_st μ (b + 1) (am_cpS 0 (μ (b + 1)) 0 0 5)) (b + 2)) 0 0 7)) (b + 2)) 0 7 7)) (b + 2)) 0 14 7)) (b + 2)) 0 21 7)) hz (by decide) (by decide)
  refine s_iinc (y := 4) dX4_init_86 rfl (by decide) (by decide) (L' := [vR b, vI 4]) rfl ?_
  refine s_goto dX4_init_89 (tgt := 64) (by decide) ?_
  refine s_iload_n dX4_init_64 rfl rfl ?_
  refine s_iconst dX4_init_65 (by decide) ?_
  refine s_icmp_ge dX4_init_66 (tgt := 92) (by decide) (fun _ => ?_) (fun cc => absurd cc (by decide))
  exact s_return dX4_init_92 rfl ⟨rfl, rfl, rfl, rfl⟩
def zX2 (b : Nat) : am_Lc := ((2, 0, [b + 1 + 1]) :: (13, 11, [b + 2 + 1, b + 11 + 1, b + 20 + 1, b + 29 + 1, b + 38 + 1, b + 47 + 1, b + 56 + 1, b + 65 + 1, b + 74 + 1, b + 83 + 1, b + 92 + 1]) :: (((((((((((zX4 (b + 2)) ++ (zX4 (b + 11))) ++ (zX4 (b + 20))) ++ (zX4 (b + 29))) ++ (zX4 (b + 38))) ++ (zX4 (b + 47))) ++ (zX4 (b + 56))) ++ (zX4 (b + 65))) ++ (zX4 (b + 74))) ++ (zX4 (b + 83))) ++ (zX4 (b + 92))))
theorem zX2_len (b : Nat) : (zX2 b).length = 101 := by unfold zX2; simp only [List.length_cons, List.length_nil, List.length_append, List.length_replicate, List.length_map, List.length_range, zX0_len, zX1_len, zX5_len, zX8_len, zX3_len, zX6_len, zX7_len, zX4_len]
def am_hm (μ : am_M) (b : Nat) : am_M := (am_pm (am_pm (am_pm (am_pm (am_pm (am_pm (am_pm (am_pm (am_pm (am_pm (am_pm μ (b + 2)) (b + 11)) (b + 20)) (b + 29)) (b + 38)) (b + 47)) (b + 56)) (b + 65)) (b + 74)) (b + 83)) (b + 92))
theorem am_hm0 {μ : am_M} {b i0 i1 j : Nat} (hz : ∀ k, b + i0 ≤ k → μ k = am_m0) (h0 : i0 ≤ i1) (h1 : j + 101 ≤ i1) : ∀ k, b + i1 ≤ k → am_hm μ (b + j) k = am_m0 := fun k hk => by
  unfold am_hm am_pm am_st
  repeat rw [if_neg (by omega)]
  exact hz k (by omega)
theorem in_X2 {l0 : am_Lc} {b : Nat} {μ : am_M} (hb : l0.length = b) (hz : ∀ k, b + 1 ≤ k → μ k = am_m0) : in_c 3 100 3839 mX2_init l0 (2, 0, []) μ b [] (zX2 b) (am_hm μ b) := by
  refine am_intro pmX2_init (L := [vR b, vU]) (Nat.le_of_ble_eq_true rfl) rfl ?_
  refine @id (am_Ag true 3 100 3839 mX2_init (l0 ++ [(2, 0, [])]).length (am_cell (l0 ++ [(2, 0, [])])) μ 0 _ [] _) ?_
  refine s_aload_n dX2_init_0 rfl rfl ?_
  refine s_objI dX2_init_1 oiX2_3 (Nat.le_of_ble_eq_true rfl) (by decide) ?_
  refine s_aload_n dX2_init_4 rfl rfl ?_
  refine s_bipush dX2_init_5 (by decide) ?_
  refine q_newP (N := 11) dX2_init_7 am_wcp (by decide) hb (i := 1) (by simp only [List.length_cons, List.length_nil, List.length_append, List.length_replicate, List.length_map, List.length_range, zX0_len, zX1_len, zX5_len, zX8_len, zX3_len, zX6_len, zX7_len, zX4_len]) (Nat.le_of_ble_eq_true rfl) hz (bc2 := 99) (bs2 := 3828) rfl rfl (xs2 := [(2, 0, []), (13, 11, [])]) rfl ?_
  refine q_putF dX2_init_10 flX2_11 hb (i := 0) rfl rfl rfl rfl (fun _ => ⟨rfl, rfl⟩) rfl rfl (xs2 := [(2, 0, [b + 1 + 1]), (13, 11, [])]) rfl ?_
  refine s_iconst dX2_init_13 (by decide) ?_
  refine s_istore_n dX2_init_14 rfl (by decide) (L' := [vR b, vI 0]) rfl ?_
  refine s_iload_n dX2_init_15 rfl rfl ?_
  refine s_bipush dX2_init_16 (by decide) ?_
  refine s_icmp_gt dX2_init_18 (tgt := 40) (by decide) (fun cc => absurd cc (by decide)) (fun _ => ?_)
  refine s_aload_n dX2_init_21 rfl rfl ?_
  refine q_getR (r := (b + 1)) dX2_init_22 flX2_11 hb (i := 0) rfl rfl rfl rfl ?_
  refine s_iload_n dX2_init_25 rfl rfl ?_
  refine q_new dX2_init_26 nxX2_9 hb (i := 2) (by simp only [List.length_cons, List.length_nil, List.length_append, List.length_replicate, List.length_map, List.length_range, zX0_len, zX1_len, zX5_len, zX8_len, zX3_len, zX6_len, zX7_len, zX4_len]) (Nat.le_of_ble_eq_true rfl) hz (bc2 := 98) (bs2 := 3822) rfl rfl (xs2 := ((2, 0, [b + 1 + 1]) :: (13, 11, []) :: [(4, 0, [])])) rfl ?_
  refine s_dup dX2_init_29 ?_
  refine q_init dX2_init_30 lkX2_17 rfl rfl lmX4_init (As := []) (k := (b + 2)) (rest := [vR (b + 2), vI 0, vR (b + 1)]) rfl rfl (Nat.le_of_ble_eq_true rfl) (by decide) (bc2 := 90) (bc1 := 8) (bs2 := 3480) (bs1 := 342) rfl rfl hb (i := 2) (ys := [(2, 0, [b + 1 + 1]), (13, 11, [])]) (o := (4, 0, [])) (by simp only [List.length_cons, List.length_nil, List.length_append, List.length_replicate, List.length_map, List.length_range, zX0_len, zX1_len, zX5_len, zX8_len, zX3_len, zX6_len, zX7_len, zX4_len]) rfl rfl (in_X4 (q_len hb (by simp only [List.length_cons, List.length_nil, List.length_append, List.length_replicate, List.length_map, List.length_range, zX0_len, zX1_len, zX5_len, zX8_len, zX3_len, zX6_len, zX7_len, zX4_len])) (fun k hk => hz k (Nat.le_trans (by omega) hk))) (xs2 := ((2, 0, [b + 1 + 1]) :: (13, 11, []) :: (zX4 (b + 2)))) rfl ?_
  have hz : ∀ k, b + 5 ≤ k → (am_pm μ (b + 2)) k = am_m0 := am_pm0 hz (by decide) (by decide)
  refine q_aast dX2_init_33 hb (i := 1) rfl rfl (ir := 2) rfl rfl (by decide) (by decide) (xs2 := ((2, 0, [b + 1 + 1]) :: (13, 11, [b + 2 + 1]) :: (zX4 (b + 2)))) rfl ?_
  refine s_iinc (y := 1) dX2_init_34 rfl (by decide) (by decide) (L' := [vR b, vI 1]) rfl ?_
  refine s_goto dX2_init_37 (tgt := 15) (by decide) ?_
  refine s_iload_n dX2_init_15 rfl rfl ?_
  refine s_bipush dX2_init_16 (by decide) ?_
  refine s_icmp_gt dX2_init_18 (tgt := 40) (by decide) (fun cc => absurd cc (by decide)) (fun _ => ?_)
  refine s_aload_n dX2_init_21 rfl rfl ?_
  refine q_getR (r := (b + 1)) dX2_init_22 flX2_11 hb (i := 0) rfl rfl rfl rfl ?_
  refine s_iload_n dX2_init_25 rfl rfl ?_
  refine q_new dX2_init_26 nxX2_9 hb (i := 11) (by simp only [List.length_cons, List.length_nil, List.length_append, List.length_replicate, List.length_map, List.length_range, zX0_len, zX1_len, zX5_len, zX8_len, zX3_len, zX6_len, zX7_len, zX4_len]) (Nat.le_of_ble_eq_true rfl) hz (bc2 := 89) (bs2 := 3474) rfl rfl (xs2 := ((2, 0, [b + 1 + 1]) :: (13, 11, [b + 2 + 1]) :: ((zX4 (b + 2)) ++ [(4, 0, [])]))) rfl ?_
  refine s_dup dX2_init_29 ?_
  refine q_init dX2_init_30 lkX2_17 rfl rfl lmX4_init (As := []) (k := (b + 11)) (rest := [vR (b + 11), vI 1, vR (b + 1)]) rfl rfl (Nat.le_of_ble_eq_true rfl) (by decide) (bc2 := 81) (bc1 := 8) (bs2 := 3132) (bs1 := 342) rfl rfl hb (i := 11) (ys := ((2, 0, [b + 1 + 1]) :: (13, 11, [b + 2 + 1]) :: (zX4 (b + 2)))) (o := (4, 0, [])) (by simp only [List.length_cons, List.length_nil, List.length_append, List.length_replicate, List.length_map, List.length_range, zX0_len, zX1_len, zX5_len, zX8_len, zX3_len, zX6_len, zX7_len, zX4_len]) rfl rfl (in_X4 (q_len hb (by simp only [List.length_cons, List.length_nil, List.length_append, List.length_replicate, List.length_map, List.length_range, zX0_len, zX1_len, zX5_len, zX8_len, zX3_len, zX6_len, zX7_len, zX4_len])) (fun k hk => hz k (Nat.le_trans (by omega) hk))) (xs2 := ((2, 0, [b + 1 + 1]) :: (13, 11, [b + 2 + 1]) :: ((zX4 (b + 2)) ++ (zX4 (b + 11))))) rfl ?_
  have hz : ∀ k, b + 14 ≤ k → (am_pm (am_pm μ (b + 2)) (b + 11)) k = am_m0 := am_pm0 hz (by decide) (by decide)
  refine q_aast dX2_init_33 hb (i := 1) rfl rfl (ir := 11) rfl rfl (by decide) (by decide) (xs2 := ((2, 0, [b + 1 + 1]) :: (13, 11, [b + 2 + 1, b + 11 + 1]) :: ((zX4 (b + 2)) ++ (zX4 (b + 11))))) rfl ?_
  refine s_iinc (y := 2) dX2_init_34 rfl (by decide) (by decide) (L' := [vR b, vI 2]) rfl ?_
  refine s_goto dX2_init_37 (tgt := 15) (by decide) ?_
  refine s_iload_n dX2_init_15 rfl rfl ?_
  refine s_bipush dX2_init_16 (by decide) ?_
  refine s_icmp_gt dX2_init_18 (tgt := 40) (by decide) (fun cc => absurd cc (by decide)) (fun _ => ?_)
  refine s_aload_n dX2_init_21 rfl rfl ?_
  refine q_getR (r := (b + 1)) dX2_init_22 flX2_11 hb (i := 0) rfl rfl rfl rfl ?_
  refine s_iload_n dX2_init_25 rfl rfl ?_
  refine q_new dX2_init_26 nxX2_9 hb (i := 20) (by simp only [List.length_cons, List.length_nil, List.length_append, List.length_replicate, List.length_map, List.length_range, zX0_len, zX1_len, zX5_len, zX8_len, zX3_len, zX6_len, zX7_len, zX4_len]) (Nat.le_of_ble_eq_true rfl) hz (bc2 := 80) (bs2 := 3126) rfl rfl (xs2 := ((2, 0, [b + 1 + 1]) :: (13, 11, [b + 2 + 1, b + 11 + 1]) :: (((zX4 (b + 2)) ++ (zX4 (b + 11))) ++ [(4, 0, [])]))) rfl ?_
  refine s_dup dX2_init_29 ?_
  refine q_init dX2_init_30 lkX2_17 rfl rfl lmX4_init (As := []) (k := (b + 20)) (rest := [vR (b + 20), vI 2, vR (b + 1)]) rfl rfl (Nat.le_of_ble_eq_true rfl) (by decide) (bc2 := 72) (bc1 := 8) (bs2 := 2784) (bs1 := 342) rfl rfl hb (i := 20) (ys := ((2, 0, [b + 1 + 1]) :: (13, 11, [b + 2 + 1, b + 11 + 1]) :: ((zX4 (b + 2)) ++ (zX4 (b + 11))))) (o := (4, 0, [])) (by simp only [List.length_cons, List.length_nil, List.length_append, List.length_replicate, List.length_map, List.length_range, zX0_len, zX1_len, zX5_len, zX8_len, zX3_len, zX6_len, zX7_len, zX4_len]) rfl rfl (in_X4 (q_len hb (by simp only [List.length_cons, List.length_nil, List.length_append, List.length_replicate, List.length_map, List.length_range, zX0_len, zX1_len, zX5_len, zX8_len, zX3_len, zX6_len, zX7_len, zX4_len])) (fun k hk => hz k (Nat.le_trans (by omega) hk))) (xs2 := ((2, 0, [b + 1 + 1]) :: (13, 11, [b + 2 + 1, b + 11 + 1]) :: (((zX4 (b + 2)) ++ (zX4 (b + 11))) ++ (zX4 (b + 20))))) rfl ?_
  have hz : ∀ k, b + 23 ≤ k → (am_pm (am_pm (am_pm μ (b + 2)) (b + 11)) (b + 20)) k = am_m0 := am_pm0 hz (by decide) (by decide)
  refine q_aast dX2_init_33 hb (i := 1) rfl rfl (ir := 20) rfl rfl (by decide) (by decide) (xs2 := ((2, 0, [b + 1 + 1]) :: (13, 11, [b + 2 + 1, b + 11 + 1, b + 20 + 1]) :: (((zX4 (b + 2)) ++ (zX4 (b + 11))) ++ (zX4 (b + 20))))) rfl ?_
  refine s_iinc (y := 3) dX2_init_34 rfl (by decide) (by decide) (L' := [vR b, vI 3]) rfl ?_
  refine s_goto dX2_init_37 (tgt := 15) (by decide) ?_
  refine s_iload_n dX2_init_15 rfl rfl ?_
  refine s_bipush dX2_init_16 (by decide) ?_
  refine s_icmp_gt dX2_init_18 (tgt := 40) (by decide) (fun cc => absurd cc (by decide)) (fun _ => ?_)
  refine s_aload_n dX2_init_21 rfl rfl ?_
  refine q_getR (r := (b + 1)) dX2_init_22 flX2_11 hb (i := 0) rfl rfl rfl rfl ?_
  refine s_iload_n dX2_init_25 rfl rfl ?_
  refine q_new dX2_init_26 nxX2_9 hb (i := 29) (by simp only [List.length_cons, List.length_nil, List.length_append, List.length_replicate, List.length_map, List.length_range, zX0_len, zX1_len, zX5_len, zX8_len, zX3_len, zX6_len, zX7_len, zX4_len]) (Nat.le_of_ble_eq_true rfl) hz (bc2 := 71) (bs2 := 2778) rfl rfl (xs2 := ((2, 0, [b + 1 + 1]) :: (13, 11, [b + 2 + 1, b + 11 + 1, b + 20 + 1]) :: ((((zX4 (b + 2)) ++ (zX4 (b + 11))) ++ (zX4 (b + 20))) ++ [(4, 0, [])]))) rfl ?_
  refine s_dup dX2_init_29 ?_
  refine q_init dX2_init_30 lkX2_17 rfl rfl lmX4_init (As := []) (k := (b + 29)) (rest := [vR (b + 29), vI 3, vR (b + 1)]) rfl rfl (Nat.le_of_ble_eq_true rfl) (by decide) (bc2 := 63) (bc1 := 8) (bs2 := 2436) (bs1 := 342) rfl rfl hb (i := 29) (ys := ((2, 0, [b + 1 + 1]) :: (13, 11, [b + 2 + 1, b + 11 + 1, b + 20 + 1]) :: (((zX4 (b + 2)) ++ (zX4 (b + 11))) ++ (zX4 (b + 20))))) (o := (4, 0, [])) (by simp only [List.length_cons, List.length_nil, List.length_append, List.length_replicate, List.length_map, List.length_range, zX0_len, zX1_len, zX5_len, zX8_len, zX3_len, zX6_len, zX7_len, zX4_len]) rfl rfl (in_X4 (q_len hb (by simp only [List.length_cons, List.length_nil, List.length_append, List.length_replicate, List.length_map, List.length_range, zX0_len, zX1_len, zX5_len, zX8_len, zX3_len, zX6_len, zX7_len, zX4_len])) (fun k hk => hz k (Nat.le_trans (by omega) hk))) (xs2 := ((2, 0, [b + 1 + 1]) :: (13, 11, [b + 2 + 1, b + 11 + 1, b + 20 + 1]) :: ((((zX4 (b + 2)) ++ (zX4 (b + 11))) ++ (zX4 (b + 20))) ++ (zX4 (b + 29))))) rfl ?_
  have hz : ∀ k, b + 32 ≤ k → (am_pm (am_pm (am_pm (am_pm μ (b + 2)) (b + 11)) (b + 20)) (b + 29)) k = am_m0 := am_pm0 hz (by decide) (by decide)
  refine q_aast dX2_init_33 hb (i := 1) rfl rfl (ir := 29) rfl rfl (by decide) (by decide) (xs2 := ((2, 0, [b + 1 + 1]) :: (13, 11, [b + 2 + 1, b + 11 + 1, b + 20 + 1, b + 29 + 1]) :: ((((zX4 (b + 2)) ++ (zX4 (b + 11))) ++ (zX4 (b + 20))) ++ (zX4 (b + 29))))) rfl ?_
  refine s_iinc (y := 4) dX2_init_34 rfl (by decide) (by decide) (L' := [vR b, vI 4]) rfl ?_
  refine s_goto dX2_init_37 (tgt := 15) (by decide) ?_
  refine s_iload_n dX2_init_15 rfl rfl ?_
  refine s_bipush dX2_init_16 (by decide) ?_
  refine s_icmp_gt dX2_init_18 (tgt := 40) (by decide) (fun cc => absurd cc (by decide)) (fun _ => ?_)
  refine s_aload_n dX2_init_21 rfl rfl ?_
  refine q_getR (r := (b + 1)) dX2_init_22 flX2_11 hb (i := 0) rfl rfl rfl rfl ?_
  refine s_iload_n dX2_init_25 rfl rfl ?_
  refine q_new dX2_init_26 nxX2_9 hb (i := 38) (by simp only [List.length_cons, List.length_nil, List.length_append, List.length_replicate, List.length_map, List.length_range, zX0_len, zX1_len, zX5_len, zX8_len, zX3_len, zX6_len, zX7_len, zX4_len]) (Nat.le_of_ble_eq_true rfl) hz (bc2 := 62) (bs2 := 2430) rfl rfl (xs2 := ((2, 0, [b + 1 + 1]) :: (13, 11, [b + 2 + 1, b + 11 + 1, b + 20 + 1, b + 29 + 1]) :: (((((zX4 (b + 2)) ++ (zX4 (b + 11))) ++ (zX4 (b + 20))) ++ (zX4 (b + 29))) ++ [(4, 0, [])]))) rfl ?_
  refine s_dup dX2_init_29 ?_
  refine q_init dX2_init_30 lkX2_17 rfl rfl lmX4_init (As := []) (k := (b + 38)) (rest := [vR (b + 38), vI 4, vR (b + 1)]) rfl rfl (Nat.le_of_ble_eq_true rfl) (by decide) (bc2 := 54) (bc1 := 8) (bs2 := 2088) (bs1 := 342) rfl rfl hb (i := 38) (ys := ((2, 0, [b + 1 + 1]) :: (13, 11, [b + 2 + 1, b + 11 + 1, b + 20 + 1, b + 29 + 1]) :: ((((zX4 (b + 2)) ++ (zX4 (b + 11))) ++ (zX4 (b + 20))) ++ (zX4 (b + 29))))) (o := (4, 0, [])) (by simp only [List.length_cons, List.length_nil, List.length_append, List.length_replicate, List.length_map, List.length_range, zX0_len, zX1_len, zX5_len, zX8_len, zX3_len, zX6_len, zX7_len, zX4_len]) rfl rfl (in_X4 (q_len hb (by simp only [List.length_cons, List.length_nil, List.length_append, List.length_replicate, List.length_map, List.length_range, zX0_len, zX1_len, zX5_len, zX8_len, zX3_len, zX6_len, zX7_len, zX4_len])) (fun k hk => hz k (Nat.le_trans (by omega) hk))) (xs2 := ((2, 0, [b + 1 + 1]) :: (13, 11, [b + 2 + 1, b + 11 + 1, b + 20 + 1, b + 29 + 1]) :: (((((zX4 (b + 2)) ++ (zX4 (b + 11))) ++ (zX4 (b + 20))) ++ (zX4 (b + 29))) ++ (zX4 (b + 38))))) rfl ?_
  have hz : ∀ k, b + 41 ≤ k → (am_pm (am_pm (am_pm (am_pm (am_pm μ (b + 2)) (b + 11)) (b + 20)) (b + 29)) (b + 38)) k = am_m0 := am_pm0 hz (by decide) (by decide)
  refine q_aast dX2_init_33 hb (i := 1) rfl rfl (ir := 38) rfl rfl (by decide) (by decide) (xs2 := ((2, 0, [b + 1 + 1]) :: (13, 11, [b + 2 + 1, b + 11 + 1, b + 20 + 1, b + 29 + 1, b + 38 + 1]) :: (((((zX4 (b + 2)) ++ (zX4 (b + 11))) ++ (zX4 (b + 20))) ++ (zX4 (b + 29))) ++ (zX4 (b + 38))))) rfl ?_
  refine s_iinc (y := 5) dX2_init_34 rfl (by decide) (by decide) (L' := [vR b, vI 5]) rfl ?_
  refine s_goto dX2_init_37 (tgt := 15) (by decide) ?_
  refine s_iload_n dX2_init_15 rfl rfl ?_
  refine s_bipush dX2_init_16 (by decide) ?_
  refine s_icmp_gt dX2_init_18 (tgt := 40) (by decide) (fun cc => absurd cc (by decide)) (fun _ => ?_)
  refine s_aload_n dX2_init_21 rfl rfl ?_
  refine q_getR (r := (b + 1)) dX2_init_22 flX2_11 hb (i := 0) rfl rfl rfl rfl ?_
  refine s_iload_n dX2_init_25 rfl rfl ?_
  refine q_new dX2_init_26 nxX2_9 hb (i := 47) (by simp only [List.length_cons, List.length_nil, List.length_append, List.length_replicate, List.length_map, List.length_range, zX0_len, zX1_len, zX5_len, zX8_len, zX3_len, zX6_len, zX7_len, zX4_len]) (Nat.le_of_ble_eq_true rfl) hz (bc2 := 53) (bs2 := 2082) rfl rfl (xs2 := ((2, 0, [b + 1 + 1]) :: (13, 11, [b + 2 + 1, b + 11 + 1, b + 20 + 1, b + 29 + 1, b + 38 + 1]) :: ((((((zX4 (b + 2)) ++ (zX4 (b + 11))) ++ (zX4 (b + 20))) ++ (zX4 (b + 29))) ++ (zX4 (b + 38))) ++ [(4, 0, [])]))) rfl ?_
  refine s_dup dX2_init_29 ?_
  refine q_init dX2_init_30 lkX2_17 rfl rfl lmX4_init (As := []) (k := (b + 47)) (rest := [vR (b + 47), vI 5, vR (b + 1)]) rfl rfl (Nat.le_of_ble_eq_true rfl) (by decide) (bc2 := 45) (bc1 := 8) (bs2 := 1740) (bs1 := 342) rfl rfl hb (i := 47) (ys := ((2, 0, [b + 1 + 1]) :: (13, 11, [b + 2 + 1, b + 11 + 1, b + 20 + 1, b + 29 + 1, b + 38 + 1]) :: (((((zX4 (b + 2)) ++ (zX4 (b + 11))) ++ (zX4 (b + 20))) ++ (zX4 (b + 29))) ++ (zX4 (b + 38))))) (o := (4, 0, [])) (by simp only [List.length_cons, List.length_nil, List.length_append, List.length_replicate, List.length_map, List.length_range, zX0_len, zX1_len, zX5_len, zX8_len, zX3_len, zX6_len, zX7_len, zX4_len]) rfl rfl (in_X4 (q_len hb (by simp only [List.length_cons, List.length_nil, List.length_append, List.length_replicate, List.length_map, List.length_range, zX0_len, zX1_len, zX5_len, zX8_len, zX3_len, zX6_len, zX7_len, zX4_len])) (fun k hk => hz k (Nat.le_trans (by omega) hk))) (xs2 := ((2, 0, [b + 1 + 1]) :: (13, 11, [b + 2 + 1, b + 11 + 1, b + 20 + 1, b + 29 + 1, b + 38 + 1]) :: ((((((zX4 (b + 2)) ++ (zX4 (b + 11))) ++ (zX4 (b + 20))) ++ (zX4 (b + 29))) ++ (zX4 (b + 38))) ++ (zX4 (b + 47))))) rfl ?_
  have hz : ∀ k, b + 50 ≤ k → (am_pm (am_pm (am_pm (am_pm (am_pm (am_pm μ (b + 2)) (b + 11)) (b + 20)) (b + 29)) (b + 38)) (b + 47)) k = am_m0 := am_pm0 hz (by decide) (by decide)
  refine q_aast dX2_init_33 hb (i := 1) rfl rfl (ir := 47) rfl rfl (by decide) (by decide) (xs2 := ((2, 0, [b + 1 + 1]) :: (13, 11, [b + 2 + 1, b + 11 + 1, b + 20 + 1, b + 29 + 1, b + 38 + 1, b + 47 + 1]) :: ((((((zX4 (b + 2)) ++ (zX4 (b + 11))) ++ (zX4 (b + 20))) ++ (zX4 (b + 29))) ++ (zX4 (b + 38))) ++ (zX4 (b + 47))))) rfl ?_
  refine s_iinc (y := 6) dX2_init_34 rfl (by decide) (by decide) (L' := [vR b, vI 6]) rfl ?_
  refine s_goto dX2_init_37 (tgt := 15) (by decide) ?_
  refine s_iload_n dX2_init_15 rfl rfl ?_
  refine s_bipush dX2_init_16 (by decide) ?_
  refine s_icmp_gt dX2_init_18 (tgt := 40) (by decide) (fun cc => absurd cc (by decide)) (fun _ => ?_)
  refine s_aload_n dX2_init_21 rfl rfl ?_
  refine q_getR (r := (b + 1)) dX2_init_22 flX2_11 hb (i := 0) rfl rfl rfl rfl ?_
  refine s_iload_n dX2_init_25 rfl rfl ?_
  refine q_new dX2_init_26 nxX2_9 hb (i := 56) (by simp only [List.length_cons, List.length_nil, List.length_append, List.length_replicate, List.length_map, List.length_range, zX0_len, zX1_len, zX5_len, zX8_len, zX3_len, zX6_len, zX7_len, zX4_len]) (Nat.le_of_ble_eq_true rfl) hz (bc2 := 44) (bs2 := 1734) rfl rfl (xs2 := ((2, 0, [b + 1 + 1]) :: (13, 11, [b + 2 + 1, b + 11 + 1, b + 20 + 1, b + 29 + 1, b + 38 + 1, b + 47 + 1]) :: (((((((zX4 (b + 2)) ++ (zX4 (b + 11))) ++ (zX4 (b + 20))) ++ (zX4 (b + 29))) ++ (zX4 (b + 38))) ++ (zX4 (b + 47))) ++ [(4, 0, [])]))) rfl ?_
  refine s_dup dX2_init_29 ?_
  refine q_init dX2_init_30 lkX2_17 rfl rfl lmX4_init (As := []) (k := (b + 56)) (rest := [vR (b + 56), vI 6, vR (b + 1)]) rfl rfl (Nat.le_of_ble_eq_true rfl) (by decide) (bc2 := 36) (bc1 := 8) (bs2 := 1392) (bs1 := 342) rfl rfl hb (i := 56) (ys := ((2, 0, [b + 1 + 1]) :: (13, 11, [b + 2 + 1, b + 11 + 1, b + 20 + 1, b + 29 + 1, b + 38 + 1, b + 47 + 1]) :: ((((((zX4 (b + 2)) ++ (zX4 (b + 11))) ++ (zX4 (b + 20))) ++ (zX4 (b + 29))) ++ (zX4 (b + 38))) ++ (zX4 (b + 47))))) (o := (4, 0, [])) (by simp only [List.length_cons, List.length_nil, List.length_append, List.length_replicate, List.length_map, List.length_range, zX0_len, zX1_len, zX5_len, zX8_len, zX3_len, zX6_len, zX7_len, zX4_len]) rfl rfl (in_X4 (q_len hb (by simp only [List.length_cons, List.length_nil, List.length_append, List.length_replicate, List.length_map, List.length_range, zX0_len, zX1_len, zX5_len, zX8_len, zX3_len, zX6_len, zX7_len, zX4_len])) (fun k hk => hz k (Nat.le_trans (by omega) hk))) (xs2 := ((2, 0, [b + 1 + 1]) :: (13, 11, [b + 2 + 1, b + 11 + 1, b + 20 + 1, b + 29 + 1, b + 38 + 1, b + 47 + 1]) :: (((((((zX4 (b + 2)) ++ (zX4 (b + 11))) ++ (zX4 (b + 20))) ++ (zX4 (b + 29))) ++ (zX4 (b + 38))) ++ (zX4 (b + 47))) ++ (zX4 (b + 56))))) rfl ?_
  have hz : ∀ k, b + 59 ≤ k → (am_pm (am_pm (am_pm (am_pm (am_pm (am_pm (am_pm μ (b + 2)) (b + 11)) (b + 20)) (b + 29)) (b + 38)) (b + 47)) (b + 56)) k = am_m0 := am_pm0 hz (by decide) (by decide)
  refine q_aast dX2_init_33 hb (i := 1) rfl rfl (ir := 56) rfl rfl (by decide) (by decide) (xs2 := ((2, 0, [b + 1 + 1]) :: (13, 11, [b + 2 + 1, b + 11 + 1, b + 20 + 1, b + 29 + 1, b + 38 + 1, b + 47 + 1, b + 56 + 1]) :: (((((((zX4 (b + 2)) ++ (zX4 (b + 11))) ++ (zX4 (b + 20))) ++ (zX4 (b + 29))) ++ (zX4 (b + 38))) ++ (zX4 (b + 47))) ++ (zX4 (b + 56))))) rfl ?_
  refine s_iinc (y := 7) dX2_init_34 rfl (by decide) (by decide) (L' := [vR b, vI 7]) rfl ?_
  refine s_goto dX2_init_37 (tgt := 15) (by decide) ?_
  refine s_iload_n dX2_init_15 rfl rfl ?_
  refine s_bipush dX2_init_16 (by decide) ?_
  refine s_icmp_gt dX2_init_18 (tgt := 40) (by decide) (fun cc => absurd cc (by decide)) (fun _ => ?_)
  refine s_aload_n dX2_init_21 rfl rfl ?_
  refine q_getR (r := (b + 1)) dX2_init_22 flX2_11 hb (i := 0) rfl rfl rfl rfl ?_
  refine s_iload_n dX2_init_25 rfl rfl ?_
  refine q_new dX2_init_26 nxX2_9 hb (i := 65) (by simp only [List.length_cons, List.length_nil, List.length_append, List.length_replicate, List.length_map, List.length_range, zX0_len, zX1_len, zX5_len, zX8_len, zX3_len, zX6_len, zX7_len, zX4_len]) (Nat.le_of_ble_eq_true rfl) hz (bc2 := 35) (bs2 := 1386) rfl rfl (xs2 := ((2, 0, [b + 1 + 1]) :: (13, 11, [b + 2 + 1, b + 11 + 1, b + 20 + 1, b + 29 + 1, b + 38 + 1, b + 47 + 1, b + 56 + 1]) :: ((((((((zX4 (b + 2)) ++ (zX4 (b + 11))) ++ (zX4 (b + 20))) ++ (zX4 (b + 29))) ++ (zX4 (b + 38))) ++ (zX4 (b + 47))) ++ (zX4 (b + 56))) ++ [(4, 0, [])]))) rfl ?_
  refine s_dup dX2_init_29 ?_
  refine q_init dX2_init_30 lkX2_17 rfl rfl lmX4_init (As := []) (k := (b + 65)) (rest := [vR (b + 65), vI 7, vR (b + 1)]) rfl rfl (Nat.le_of_ble_eq_true rfl) (by decide) (bc2 := 27) (bc1 := 8) (bs2 := 1044) (bs1 := 342) rfl rfl hb (i := 65) (ys := ((2, 0, [b + 1 + 1]) :: (13, 11, [b + 2 + 1, b + 11 + 1, b + 20 + 1, b + 29 + 1, b + 38 + 1, b + 47 + 1, b + 56 + 1]) :: (((((((zX4 (b + 2)) ++ (zX4 (b + 11))) ++ (zX4 (b + 20))) ++ (zX4 (b + 29))) ++ (zX4 (b + 38))) ++ (zX4 (b + 47))) ++ (zX4 (b + 56))))) (o := (4, 0, [])) (by simp only [List.length_cons, List.length_nil, List.length_append, List.length_replicate, List.length_map, List.length_range, zX0_len, zX1_len, zX5_len, zX8_len, zX3_len, zX6_len, zX7_len, zX4_len]) rfl rfl (in_X4 (q_len hb (by simp only [List.length_cons, List.length_nil, List.length_append, List.length_replicate, List.length_map, List.length_range, zX0_len, zX1_len, zX5_len, zX8_len, zX3_len, zX6_len, zX7_len, zX4_len])) (fun k hk => hz k (Nat.le_trans (by omega) hk))) (xs2 := ((2, 0, [b + 1 + 1]) :: (13, 11, [b + 2 + 1, b + 11 + 1, b + 20 + 1, b + 29 + 1, b + 38 + 1, b + 47 + 1, b + 56 + 1]) :: ((((((((zX4 (b + 2)) ++ (zX4 (b + 11))) ++ (zX4 (b + 20))) ++ (zX4 (b + 29))) ++ (zX4 (b + 38))) ++ (zX4 (b + 47))) ++ (zX4 (b + 56))) ++ (zX4 (b + 65))))) rfl ?_
  have hz : ∀ k, b + 68 ≤ k → (am_pm (am_pm (am_pm (am_pm (am_pm (am_pm (am_pm (am_pm μ (b + 2)) (b + 11)) (b + 20)) (b + 29)) (b + 38)) (b + 47)) (b + 56)) (b + 65)) k = am_m0 := am_pm0 hz (by decide) (by decide)
  refine q_aast dX2_init_33 hb (i := 1) rfl rfl (ir := 65) rfl rfl (by decide) (by decide) (xs2 := ((2, 0, [b + 1 + 1]) :: (13, 11, [b + 2 + 1, b + 11 + 1, b + 20 + 1, b + 29 + 1, b + 38 + 1, b + 47 + 1, b + 56 + 1, b + 65 + 1]) :: ((((((((zX4 (b + 2)) ++ (zX4 (b + 11))) ++ (zX4 (b + 20))) ++ (zX4 (b + 29))) ++ (zX4 (b + 38))) ++ (zX4 (b + 47))) ++ (zX4 (b + 56))) ++ (zX4 (b + 65))))) rfl ?_
  refine s_iinc (y := 8) dX2_init_34 rfl (by decide) (by decide) (L' := [vR b, vI 8]) rfl ?_
  refine s_goto dX2_init_37 (tgt := 15) (by decide) ?_
  refine s_iload_n dX2_init_15 rfl rfl ?_
  refine s_bipush dX2_init_16 (by decide) ?_
  refine s_icmp_gt dX2_init_18 (tgt := 40) (by decide) (fun cc => absurd cc (by decide)) (fun _ => ?_)
  refine s_aload_n dX2_init_21 rfl rfl ?_
  refine q_getR (r := (b + 1)) dX2_init_22 flX2_11 hb (i := 0) rfl rfl rfl rfl ?_
  refine s_iload_n dX2_init_25 rfl rfl ?_
  refine q_new dX2_init_26 nxX2_9 hb (i := 74) (by simp only [List.length_cons, List.length_nil, List.length_append, List.length_replicate, List.length_map, List.length_range, zX0_len, zX1_len, zX5_len, zX8_len, zX3_len, zX6_len, zX7_len, zX4_len]) (Nat.le_of_ble_eq_true rfl) hz (bc2 := 26) (bs2 := 1038) rfl rfl (xs2 := ((2, 0, [b + 1 + 1]) :: (13, 11, [b + 2 + 1, b + 11 + 1, b + 20 + 1, b + 29 + 1, b + 38 + 1, b + 47 + 1, b + 56 + 1, b + 65 + 1]) :: (((((((((zX4 (b + 2)) ++ (zX4 (b + 11))) ++ (zX4 (b + 20))) ++ (zX4 (b + 29))) ++ (zX4 (b + 38))) ++ (zX4 (b + 47))) ++ (zX4 (b + 56))) ++ (zX4 (b + 65))) ++ [(4, 0, [])]))) rfl ?_
  refine s_dup dX2_init_29 ?_
  refine q_init dX2_init_30 lkX2_17 rfl rfl lmX4_init (As := []) (k := (b + 74)) (rest := [vR (b + 74), vI 8, vR (b + 1)]) rfl rfl (Nat.le_of_ble_eq_true rfl) (by decide) (bc2 := 18) (bc1 := 8) (bs2 := 696) (bs1 := 342) rfl rfl hb (i := 74) (ys := ((2, 0, [b + 1 + 1]) :: (13, 11, [b + 2 + 1, b + 11 + 1, b + 20 + 1, b + 29 + 1, b + 38 + 1, b + 47 + 1, b + 56 + 1, b + 65 + 1]) :: ((((((((zX4 (b + 2)) ++ (zX4 (b + 11))) ++ (zX4 (b + 20))) ++ (zX4 (b + 29))) ++ (zX4 (b + 38))) ++ (zX4 (b + 47))) ++ (zX4 (b + 56))) ++ (zX4 (b + 65))))) (o := (4, 0, [])) (by simp only [List.length_cons, List.length_nil, List.length_append, List.length_replicate, List.length_map, List.length_range, zX0_len, zX1_len, zX5_len, zX8_len, zX3_len, zX6_len, zX7_len, zX4_len]) rfl rfl (in_X4 (q_len hb (by simp only [List.length_cons, List.length_nil, List.length_append, List.length_replicate, List.length_map, List.length_range, zX0_len, zX1_len, zX5_len, zX8_len, zX3_len, zX6_len, zX7_len, zX4_len])) (fun k hk => hz k (Nat.le_trans (by omega) hk))) (xs2 := ((2, 0, [b + 1 + 1]) :: (13, 11, [b + 2 + 1, b + 11 + 1, b + 20 + 1, b + 29 + 1, b + 38 + 1, b + 47 + 1, b + 56 + 1, b + 65 + 1]) :: (((((((((zX4 (b + 2)) ++ (zX4 (b + 11))) ++ (zX4 (b + 20))) ++ (zX4 (b + 29))) ++ (zX4 (b + 38))) ++ (zX4 (b + 47))) ++ (zX4 (b + 56))) ++ (zX4 (b + 65))) ++ (zX4 (b + 74))))) rfl ?_
  have hz : ∀ k, b + 77 ≤ k → (am_pm (am_pm (am_pm (am_pm (am_pm (am_pm (am_pm (am_pm (am_pm μ (b + 2)) (b + 11)) (b + 20)) (b + 29)) (b + 38)) (b + 47)) (b + 56)) (b + 65)) (b + 74)) k = am_m0 := am_pm0 hz (by decide) (by decide)
  refine q_aast dX2_init_33 hb (i := 1) rfl rfl (ir := 74) rfl rfl (by decide) (by decide) (xs2 := ((2, 0, [b + 1 + 1]) :: (13, 11, [b + 2 + 1, b + 11 + 1, b + 20 + 1, b + 29 + 1, b + 38 + 1, b + 47 + 1, b + 56 + 1, b + 65 + 1, b + 74 + 1]) :: (((((((((zX4 (b + 2)) ++ (zX4 (b + 11))) ++ (zX4 (b + 20))) ++ (zX4 (b + 29))) ++ (zX4 (b + 38))) ++ (zX4 (b + 47))) ++ (zX4 (b + 56))) ++ (zX4 (b + 65))) ++ (zX4 (b + 74))))) rfl ?_
  refine s_iinc (y := 9) dX2_init_34 rfl (by decide) (by decide) (L' := [vR b, vI 9]) rfl ?_
  refine s_goto dX2_init_37 (tgt := 15) (by decide) ?_
  refine s_iload_n dX2_init_15 rfl rfl ?_
  refine s_bipush dX2_init_16 (by decide) ?_
  refine s_icmp_gt dX2_init_18 (tgt := 40) (by decide) (fun cc => absurd cc (by decide)) (fun _ => ?_)
  refine s_aload_n dX2_init_21 rfl rfl ?_
  refine q_getR (r := (b + 1)) dX2_init_22 flX2_11 hb (i := 0) rfl rfl rfl rfl ?_
  refine s_iload_n dX2_init_25 rfl rfl ?_
  refine q_new dX2_init_26 nxX2_9 hb (i := 83) (by simp only [List.length_cons, List.length_nil, List.length_append, List.length_replicate, List.length_map, List.length_range, zX0_len, zX1_len, zX5_len, zX8_len, zX3_len, zX6_len, zX7_len, zX4_len]) (Nat.le_of_ble_eq_true rfl) hz (bc2 := 17) (bs2 := 690) rfl rfl (xs2 := ((2, 0, [b + 1 + 1]) :: (13, 11, [b + 2 + 1, b + 11 + 1, b + 20 + 1, b + 29 + 1, b + 38 + 1, b + 47 + 1, b + 56 + 1, b + 65 + 1, b + 74 + 1]) :: ((((((((((zX4 (b + 2)) ++ (zX4 (b + 11))) ++ (zX4 (b + 20))) ++ (zX4 (b + 29))) ++ (zX4 (b + 38))) ++ (zX4 (b + 47))) ++ (zX4 (b + 56))) ++ (zX4 (b + 65))) ++ (zX4 (b + 74))) ++ [(4, 0, [])]))) rfl ?_
  refine s_dup dX2_init_29 ?_
  refine q_init dX2_init_30 lkX2_17 rfl rfl lmX4_init (As := []) (k := (b + 83)) (rest := [vR (b + 83), vI 9, vR (b + 1)]) rfl rfl (Nat.le_of_ble_eq_true rfl) (by decide) (bc2 := 9) (bc1 := 8) (bs2 := 348) (bs1 := 342) rfl rfl hb (i := 83) (ys := ((2, 0, [b + 1 + 1]) :: (13, 11, [b + 2 + 1, b + 11 + 1, b + 20 + 1, b + 29 + 1, b + 38 + 1, b + 47 + 1, b + 56 + 1, b + 65 + 1, b + 74 + 1]) :: (((((((((zX4 (b + 2)) ++ (zX4 (b + 11))) ++ (zX4 (b + 20))) ++ (zX4 (b + 29))) ++ (zX4 (b + 38))) ++ (zX4 (b + 47))) ++ (zX4 (b + 56))) ++ (zX4 (b + 65))) ++ (zX4 (b + 74))))) (o := (4, 0, [])) (by simp only [List.length_cons, List.length_nil, List.length_append, List.length_replicate, List.length_map, List.length_range, zX0_len, zX1_len, zX5_len, zX8_len, zX3_len, zX6_len, zX7_len, zX4_len]) rfl rfl (in_X4 (q_len hb (by simp only [List.length_cons, List.length_nil, List.length_append, List.length_replicate, List.length_map, List.length_range, zX0_len, zX1_len, zX5_len, zX8_len, zX3_len, zX6_len, zX7_len, zX4_len])) (fun k hk => hz k (Nat.le_trans (by omega) hk))) (xs2 := ((2, 0, [b + 1 + 1]) :: (13, 11, [b + 2 + 1, b + 11 + 1, b + 20 + 1, b + 29 + 1, b + 38 + 1, b + 47 + 1, b + 56 + 1, b + 65 + 1, b + 74 + 1]) :: ((((((((((zX4 (b + 2)) ++ (zX4 (b + 11))) ++ (zX4 (b + 20))) ++ (zX4 (b + 29))) ++ (zX4 (b + 38))) ++ (zX4 (b + 47))) ++ (zX4 (b + 56))) ++ (zX4 (b + 65))) ++ (zX4 (b + 74))) ++ (zX4 (b + 83))))) rfl ?_
  have hz : ∀ k, b + 86 ≤ k → (am_pm (am_pm (am_pm (am_pm (am_pm (am_pm (am_pm (am_pm (am_pm (am_pm μ (b + 2)) (b + 11)) (b + 20)) (b + 29)) (b + 38)) (b + 47)) (b + 56)) (b + 65)) (b + 74)) (b + 83)) k = am_m0 := am_pm0 hz (by decide) (by decide)
  refine q_aast dX2_init_33 hb (i := 1) rfl rfl (ir := 83) rfl rfl (by decide) (by decide) (xs2 := ((2, 0, [b + 1 + 1]) :: (13, 11, [b + 2 + 1, b + 11 + 1, b + 20 + 1, b + 29 + 1, b + 38 + 1, b + 47 + 1, b + 56 + 1, b + 65 + 1, b + 74 + 1, b + 83 + 1]) :: ((((((((((zX4 (b + 2)) ++ (zX4 (b + 11))) ++ (zX4 (b + 20))) ++ (zX4 (b + 29))) ++ (zX4 (b + 38))) ++ (zX4 (b + 47))) ++ (zX4 (b + 56))) ++ (zX4 (b + 65))) ++ (zX4 (b + 74))) ++ (zX4 (b + 83))))) rfl ?_
  refine s_iinc (y := 10) dX2_init_34 rfl (by decide) (by decide) (L' := [vR b, vI 10]) rfl ?_
  refine s_goto dX2_init_37 (tgt := 15) (by decide) ?_
  refine s_iload_n dX2_init_15 rfl rfl ?_
  refine s_bipush dX2_init_16 (by decide) ?_
  refine s_icmp_gt dX2_init_18 (tgt := 40) (by decide) (fun cc => absurd cc (by decide)) (fun _ => ?_)
  refine s_aload_n dX2_init_21 rfl rfl ?_
  refine q_getR (r := (b + 1)) dX2_init_22 flX2_11 hb (i := 0) rfl rfl rfl rfl ?_
  refine s_iload_n dX2_init_25 rfl rfl ?_
  refine q_new dX2_init_26 nxX2_9 hb (i := 92) (by simp only [List.length_cons, List.length_nil, List.length_append, List.length_replicate, List.length_map, List.length_range, zX0_len, zX1_len, zX5_len, zX8_len, zX3_len, zX6_len, zX7_len, zX4_len]) (Nat.le_of_ble_eq_true rfl) hz (bc2 := 8) (bs2 := 342) rfl rfl (xs2 := ((2, 0, [b + 1 + 1]) :: (13, 11, [b + 2 + 1, b + 11 + 1, b + 20 + 1, b + 29 + 1, b + 38 + 1, b + 47 + 1, b + 56 + 1, b + 65 + 1, b + 74 + 1, b + 83 + 1]) :: (((((((((((zX4 (b + 2)) ++ (zX4 (b + 11))) ++ (zX4 (b + 20))) ++ (zX4 (b + 29))) ++ (zX4 (b + 38))) ++ (zX4 (b + 47))) ++ (zX4 (b + 56))) ++ (zX4 (b + 65))) ++ (zX4 (b + 74))) ++ (zX4 (b + 83))) ++ [(4, 0, [])]))) rfl ?_
  refine s_dup dX2_init_29 ?_
  refine q_init dX2_init_30 lkX2_17 rfl rfl lmX4_init (As := []) (k := (b + 92)) (rest := [vR (b + 92), vI 10, vR (b + 1)]) rfl rfl (Nat.le_of_ble_eq_true rfl) (by decide) (bc2 := 0) (bc1 := 8) (bs2 := 0) (bs1 := 342) rfl rfl hb (i := 92) (ys := ((2, 0, [b + 1 + 1]) :: (13, 11, [b + 2 + 1, b + 11 + 1, b + 20 + 1, b + 29 + 1, b + 38 + 1, b + 47 + 1, b + 56 + 1, b + 65 + 1, b + 74 + 1, b + 83 + 1]) :: ((((((((((zX4 (b + 2)) ++ (zX4 (b + 11))) ++ (zX4 (b + 20))) ++ (zX4 (b + 29))) ++ (zX4 (b + 38))) ++ (zX4 (b + 47))) ++ (zX4 (b + 56))) ++ (zX4 (b + 65))) ++ (zX4 (b + 74))) ++ (zX4 (b + 83))))) (o := (4, 0, [])) (by simp only [List.length_cons, List.length_nil, List.length_append, List.length_replicate, List.length_map, List.length_range, zX0_len, zX1_len, zX5_len, zX8_len, zX3_len, zX6_len, zX7_len, zX4_len]) rfl rfl (in_X4 (q_len hb (by simp only [List.length_cons, List.length_nil, List.length_append, List.length_replicate, List.length_map, List.length_range, zX0_len, zX1_len, zX5_len, zX8_len, zX3_len, zX6_len, zX7_len, zX4_len])) (fun k hk => hz k (Nat.le_trans (by omega) hk))) (xs2 := ((2, 0, [b + 1 + 1]) :: (13, 11, [b + 2 + 1, b + 11 + 1, b + 20 + 1, b + 29 + 1, b + 38 + 1, b + 47 + 1, b + 56 + 1, b + 65 + 1, b + 74 + 1, b + 83 + 1]) :: (((((((((((zX4 (b + 2)) ++ (zX4 (b + 11))) ++ (zX4 (b + 20))) ++ (zX4 (b + 29))) ++ (zX4 (b + 38))) ++ (zX4 (b + 47))) ++ (zX4 (b + 56))) ++ (zX4 (b + 65))) ++ (zX4 (b + 74))) ++ (zX4 (b + 83))) ++ (zX4 (b + 92))))) rfl ?_
  have hz : ∀ k, b + 95 ≤ k → (am_pm (am_pm (am_pm (am_pm (am_pm (am_pm (am_pm (am_pm (am_pm (am_pm (am_pm μ (b + 2)) (b + 11)) (b + 20)) (b + 29)) (b + 38)) (b + 47)) (b + 56)) (b + 65)) (b + 74)) (b + 83)) (b + 92)) k = am_m0 := am_pm0 hz (by decide) (by decide)
  refine q_aast dX2_init_33 hb (i := 1) rfl rfl (ir := 92) rfl rfl (by decide) (by decide) (xs2 := ((2, 0, [b + 1 + 1]) :: (13, 11, [b + 2 + 1, b + 11 + 1, b + 20 + 1, b + 29 + 1, b + 38 + 1, b + 47 + 1, b + 56 + 1, b + 65 + 1, b + 74 + 1, b + 83 + 1, b + 92 + 1]) :: (((((((((((zX4 (b + 2)) ++ (zX4 (b + 11))) ++ (zX4 (b + 20))) ++ (zX4 (b + 29))) ++ (zX4 (b + 38))) ++ (zX4 (b + 47))) ++ (zX4 (b + 56))) ++ (zX4 (b + 65))) ++ (zX4 (b + 74))) ++ (zX4 (b + 83))) ++ (zX4 (b + 92))))) rfl ?_
  refine s_iinc (y := 11) dX2_init_34 rfl (by decide) (by decide) (L' := [vR b, vI 11]) rfl ?_
  refine s_goto dX2_init_37 (tgt := 15) (by decide) ?_
  refine s_iload_n dX2_init_15 rfl rfl ?_
  refine s_bipush dX2_init_16 (by decide) ?_
  refine s_icmp_gt dX2_init_18 (tgt := 40) (by decide) (fun _ => ?_) (fun cc => absurd cc (by decide))
  exact s_return dX2_init_40 rfl ⟨rfl, rfl, rfl, rfl⟩
def zX9 (b : Nat) : am_Lc := ((9, 0, [b + 1 + 1, b + 10 + 1, b + 19 + 1, b + 28 + 1, b + 129 + 1, b + 144 + 1, b + 148 + 1, b + 151 + 1, b + 156 + 1]) :: (((((((((zX4 (b + 1)) ++ (zX4 (b + 10))) ++ (zX4 (b + 19))) ++ (zX2 (b + 28))) ++ (zX7 (b + 129) (b + 1))) ++ (zX3 (b + 144) (b + 1) (b + 129))) ++ (zX6 (b + 148) (b + 1) (b + 129))) ++ (zX5 (b + 151))) ++ (zX8 (b + 156))))
theorem zX9_len (b : Nat) : (zX9 b).length = 158 := by unfold zX9; simp only [List.length_cons, List.length_nil, List.length_append, List.length_replicate, List.length_map, List.length_range, zX0_len, zX1_len, zX5_len, zX8_len, zX3_len, zX6_len, zX7_len, zX4_len, zX2_len]
def am_em (μ : am_M) (b : Nat) : am_M := (am_st (am_hm (am_pm (am_pm (am_pm μ (b + 1)) (b + 10)) (b + 19)) (b + 28)) (b + 129) (am_up ((am_hm (am_pm (am_pm (am_pm μ (b + 1)) (b + 10)) (b + 19)) (b + 28)) (b + 129)) 5 1))
theorem in_X9 {l0 : am_Lc} {b : Nat} {μ : am_M} (hb : l0.length = b) (hz : ∀ k, b + 1 ≤ k → μ k = am_m0) : in_c 4 157 11446 mX9_init l0 (9, 0, []) μ b [] (zX9 b) (am_em μ b) := by
  refine am_intro pmX9_init (L := [vR b]) (Nat.le_of_ble_eq_true rfl) rfl ?_
  refine @id (am_Ag true 4 157 11446 mX9_init (l0 ++ [(9, 0, [])]).length (am_cell (l0 ++ [(9, 0, [])])) μ 0 _ [] _) ?_
  refine s_aload_n dX9_init_0 rfl rfl ?_
  refine s_objI dX9_init_1 oiX9_3 (Nat.le_of_ble_eq_true rfl) (by decide) ?_
  refine s_aload_n dX9_init_4 rfl rfl ?_
  refine q_new dX9_init_5 nxX9_9 hb (i := 1) (by simp only [List.length_cons, List.length_nil, List.length_append, List.length_replicate, List.length_map, List.length_range, zX0_len, zX1_len, zX5_len, zX8_len, zX3_len, zX6_len, zX7_len, zX4_len, zX2_len]) (Nat.le_of_ble_eq_true rfl) hz (bc2 := 156) (bs2 := 11440) rfl rfl (xs2 := ((9, 0, []) :: [(4, 0, [])])) rfl ?_
  refine s_dup dX9_init_8 ?_
  refine q_init dX9_init_9 lkX9_11 rfl rfl lmX4_init (As := []) (k := (b + 1)) (rest := [vR (b + 1), vR b]) rfl rfl (Nat.le_of_ble_eq_true rfl) (by decide) (bc2 := 148) (bc1 := 8) (bs2 := 11098) (bs1 := 342) rfl rfl hb (i := 1) (ys := [(9, 0, [])]) (o := (4, 0, [])) (by simp only [List.length_cons, List.length_nil, List.length_append, List.length_replicate, List.length_map, List.length_range, zX0_len, zX1_len, zX5_len, zX8_len, zX3_len, zX6_len, zX7_len, zX4_len, zX2_len]) rfl rfl (in_X4 (q_len hb (by simp only [List.length_cons, List.length_nil, List.length_append, List.length_replicate, List.length_map, List.length_range, zX0_len, zX1_len, zX5_len, zX8_len, zX3_len, zX6_len, zX7_len, zX4_len, zX2_len])) (fun k hk => hz k (Nat.le_trans (by omega) hk))) (xs2 := ((9, 0, []) :: (zX4 (b + 1)))) rfl ?_
  have hz : ∀ k, b + 4 ≤ k → (am_pm μ (b + 1)) k = am_m0 := am_pm0 hz (by decide) (by decide)
  refine q_putF dX9_init_12 flX9_12 hb (i := 0) rfl rfl rfl rfl (fun _ => ⟨rfl, rfl⟩) rfl rfl (xs2 := ((9, 0, [b + 1 + 1]) :: (zX4 (b + 1)))) rfl ?_
  refine s_aload_n dX9_init_15 rfl rfl ?_
  refine q_new dX9_init_16 nxX9_9 hb (i := 10) (by simp only [List.length_cons, List.length_nil, List.length_append, List.length_replicate, List.length_map, List.length_range, zX0_len, zX1_len, zX5_len, zX8_len, zX3_len, zX6_len, zX7_len, zX4_len, zX2_len]) (Nat.le_of_ble_eq_true rfl) hz (bc2 := 147) (bs2 := 11092) rfl rfl (xs2 := ((9, 0, [b + 1 + 1]) :: ((zX4 (b + 1)) ++ [(4, 0, [])]))) rfl ?_
  refine s_dup dX9_init_19 ?_
  refine q_init dX9_init_20 lkX9_11 rfl rfl lmX4_init (As := []) (k := (b + 10)) (rest := [vR (b + 10), vR b]) rfl rfl (Nat.le_of_ble_eq_true rfl) (by decide) (bc2 := 139) (bc1 := 8) (bs2 := 10750) (bs1 := 342) rfl rfl hb (i := 10) (ys := ((9, 0, [b + 1 + 1]) :: (zX4 (b + 1)))) (o := (4, 0, [])) (by simp only [List.length_cons, List.length_nil, List.length_append, List.length_replicate, List.length_map, List.length_range, zX0_len, zX1_len, zX5_len, zX8_len, zX3_len, zX6_len, zX7_len, zX4_len, zX2_len]) rfl rfl (in_X4 (q_len hb (by simp only [List.length_cons, List.length_nil, List.length_append, List.length_replicate, List.length_map, List.length_range, zX0_len, zX1_len, zX5_len, zX8_len, zX3_len, zX6_len, zX7_len, zX4_len, zX2_len])) (fun k hk => hz k (Nat.le_trans (by omega) hk))) (xs2 := ((9, 0, [b + 1 + 1]) :: ((zX4 (b + 1)) ++ (zX4 (b + 10))))) rfl ?_
  have hz : ∀ k, b + 13 ≤ k → (am_pm (am_pm μ (b + 1)) (b + 10)) k = am_m0 := am_pm0 hz (by decide) (by decide)
  refine q_putF dX9_init_23 flX9_16 hb (i := 0) rfl rfl rfl rfl (fun _ => ⟨rfl, rfl⟩) rfl rfl (xs2 := ((9, 0, [b + 1 + 1, b + 10 + 1]) :: ((zX4 (b + 1)) ++ (zX4 (b + 10))))) rfl ?_
  refine s_aload_n dX9_init_26 rfl rfl ?_
  refine q_new dX9_init_27 nxX9_9 hb (i := 19) (by simp only [List.length_cons, List.length_nil, List.length_append, List.length_replicate, List.length_map, List.length_range, zX0_len, zX1_len, zX5_len, zX8_len, zX3_len, zX6_len, zX7_len, zX4_len, zX2_len]) (Nat.le_of_ble_eq_true rfl) hz (bc2 := 138) (bs2 := 10744) rfl rfl (xs2 := ((9, 0, [b + 1 + 1, b + 10 + 1]) :: (((zX4 (b + 1)) ++ (zX4 (b + 10))) ++ [(4, 0, [])]))) rfl ?_
  refine s_dup dX9_init_30 ?_
  refine q_init dX9_init_31 lkX9_11 rfl rfl lmX4_init (As := []) (k := (b + 19)) (rest := [vR (b + 19), vR b]) rfl rfl (Nat.le_of_ble_eq_true rfl) (by decide) (bc2 := 130) (bc1 := 8) (bs2 := 10402) (bs1 := 342) rfl rfl hb (i := 19) (ys := ((9, 0, [b + 1 + 1, b + 10 + 1]) :: ((zX4 (b + 1)) ++ (zX4 (b + 10))))) (o := (4, 0, [])) (by simp only [List.length_cons, List.length_nil, List.length_append, List.length_replicate, List.length_map, List.length_range, zX0_len, zX1_len, zX5_len, zX8_len, zX3_len, zX6_len, zX7_len, zX4_len, zX2_len]) rfl rfl (in_X4 (q_len hb (by simp only [List.length_cons, List.length_nil, List.length_append, List.length_replicate, List.length_map, List.length_range, zX0_len, zX1_len, zX5_len, zX8_len, zX3_len, zX6_len, zX7_len, zX4_len, zX2_len])) (fun k hk => hz k (Nat.le_trans (by omega) hk))) (xs2 := ((9, 0, [b + 1 + 1, b + 10 + 1]) :: (((zX4 (b + 1)) ++ (zX4 (b + 10))) ++ (zX4 (b + 19))))) rfl ?_
  have hz : ∀ k, b + 22 ≤ k → (am_pm (am_pm (am_pm μ (b + 1)) (b + 10)) (b + 19)) k = am_m0 := am_pm0 hz (by decide) (by decide)
  refine q_putF dX9_init_34 flX9_19 hb (i := 0) rfl rfl rfl rfl (fun _ => ⟨rfl, rfl⟩) rfl rfl (xs2 := ((9, 0, [b + 1 + 1, b + 10 + 1, b + 19 + 1]) :: (((zX4 (b + 1)) ++ (zX4 (b + 10))) ++ (zX4 (b + 19))))) rfl ?_
  refine s_aload_n dX9_init_37 rfl rfl ?_
  refine q_new dX9_init_38 nxX9_22 hb (i := 28) (by simp only [List.length_cons, List.length_nil, List.length_append, List.length_replicate, List.length_map, List.length_range, zX0_len, zX1_len, zX5_len, zX8_len, zX3_len, zX6_len, zX7_len, zX4_len, zX2_len]) (Nat.le_of_ble_eq_true rfl) hz (bc2 := 129) (bs2 := 10396) rfl rfl (xs2 := ((9, 0, [b + 1 + 1, b + 10 + 1, b + 19 + 1]) :: ((((zX4 (b + 1)) ++ (zX4 (b + 10))) ++ (zX4 (b + 19))) ++ [(2, 0, [])]))) rfl ?_
  refine s_dup dX9_init_41 ?_
  refine q_init dX9_init_42 lkX9_24 rfl rfl lmX2_init (As := []) (k := (b + 28)) (rest := [vR (b + 28), vR b]) rfl rfl (Nat.le_of_ble_eq_true rfl) (by decide) (bc2 := 29) (bc1 := 100) (bs2 := 6557) (bs1 := 3839) rfl rfl hb (i := 28) (ys := ((9, 0, [b + 1 + 1, b + 10 + 1, b + 19 + 1]) :: (((zX4 (b + 1)) ++ (zX4 (b + 10))) ++ (zX4 (b + 19))))) (o := (2, 0, [])) (by simp only [List.length_cons, List.length_nil, List.length_append, List.length_replicate, List.length_map, List.length_range, zX0_len, zX1_len, zX5_len, zX8_len, zX3_len, zX6_len, zX7_len, zX4_len, zX2_len]) rfl rfl (in_X2 (q_len hb (by simp only [List.length_cons, List.length_nil, List.length_append, List.length_replicate, List.length_map, List.length_range, zX0_len, zX1_len, zX5_len, zX8_len, zX3_len, zX6_len, zX7_len, zX4_len, zX2_len])) (fun k hk => hz k (Nat.le_trans (by omega) hk))) (xs2 := ((9, 0, [b + 1 + 1, b + 10 + 1, b + 19 + 1]) :: ((((zX4 (b + 1)) ++ (zX4 (b + 10))) ++ (zX4 (b + 19))) ++ (zX2 (b + 28))))) rfl ?_
  have hz : ∀ k, b + 129 ≤ k → (am_hm (am_pm (am_pm (am_pm μ (b + 1)) (b + 10)) (b + 19)) (b + 28)) k = am_m0 := am_hm0 hz (by decide) (by decide)
  refine q_putF dX9_init_45 flX9_25 hb (i := 0) rfl rfl rfl rfl (fun _ => ⟨rfl, rfl⟩) rfl rfl (xs2 := ((9, 0, [b + 1 + 1, b + 10 + 1, b + 19 + 1, b + 28 + 1]) :: ((((zX4 (b + 1)) ++ (zX4 (b + 10))) ++ (zX4 (b + 19))) ++ (zX2 (b + 28))))) rfl ?_
  refine s_aload_n dX9_init_48 rfl rfl ?_
  refine q_new dX9_init_49 nxX9_29 hb (i := 129) (by simp only [List.length_cons, List.length_nil, List.length_append, List.length_replicate, List.length_map, List.length_range, zX0_len, zX1_len, zX5_len, zX8_len, zX3_len, zX6_len, zX7_len, zX4_len, zX2_len]) (Nat.le_of_ble_eq_true rfl) hz (bc2 := 28) (bs2 := 6551) rfl rfl (xs2 := ((9, 0, [b + 1 + 1, b + 10 + 1, b + 19 + 1, b + 28 + 1]) :: (((((zX4 (b + 1)) ++ (zX4 (b + 10))) ++ (zX4 (b + 19))) ++ (zX2 (b + 28))) ++ [(7, 0, [])]))) rfl ?_
  refine s_dup dX9_init_52 ?_
  refine s_aload_n dX9_init_53 rfl rfl ?_
  refine q_getR (r := (b + 1)) dX9_init_54 flX9_12 hb (i := 0) rfl rfl rfl rfl ?_
  refine q_init dX9_init_57 lkX9_31 rfl rfl lmX7_init (As := [vR (b + 1)]) (k := (b + 129)) (rest := [vR (b + 129), vR b]) rfl rfl (Nat.le_of_ble_eq_true rfl) (by decide) (bc2 := 14) (bc1 := 14) (bs2 := 1741) (bs1 := 4810) rfl rfl hb (i := 129) (ys := ((9, 0, [b + 1 + 1, b + 10 + 1, b + 19 + 1, b + 28 + 1]) :: ((((zX4 (b + 1)) ++ (zX4 (b + 10))) ++ (zX4 (b + 19))) ++ (zX2 (b + 28))))) (o := (7, 0, [])) (by simp only [List.length_cons, List.length_nil, List.length_append, List.length_replicate, List.length_map, List.length_range, zX0_len, zX1_len, zX5_len, zX8_len, zX3_len, zX6_len, zX7_len, zX4_len, zX2_len]) rfl rfl (in_X7 (q_len hb (by simp only [List.length_cons, List.length_nil, List.length_append, List.length_replicate, List.length_map, List.length_range, zX0_len, zX1_len, zX5_len, zX8_len, zX3_len, zX6_len, zX7_len, zX4_len, zX2_len])) (fun k hk => hz k (Nat.le_trans (by omega) hk))) (xs2 := ((9, 0, [b + 1 + 1, b + 10 + 1, b + 19 + 1, b + 28 + 1]) :: (((((zX4 (b + 1)) ++ (zX4 (b + 10))) ++ (zX4 (b + 19))) ++ (zX2 (b + 28))) ++ (zX7 (b + 129) (b + 1))))) rfl ?_
  have hz : ∀ k, b + 130 ≤ k → (am_st (am_hm (am_pm (am_pm (am_pm μ (b + 1)) (b + 10)) (b + 19)) (b + 28)) (b + 129) (am_up ((am_hm (am_pm (am_pm (am_pm μ (b + 1)) (b + 10)) (b + 19)) (b + 28)) (b + 129)) 5 1)) k = am_m0 := q_hz hz (by decide) (by decide)
  refine q_putF dX9_init_60 flX9_34 hb (i := 0) rfl rfl rfl rfl (fun _ => ⟨rfl, rfl⟩) rfl rfl (xs2 := ((9, 0, [b + 1 + 1, b + 10 + 1, b + 19 + 1, b + 28 + 1, b + 129 + 1]) :: (((((zX4 (b + 1)) ++ (zX4 (b + 10))) ++ (zX4 (b + 19))) ++ (zX2 (b + 28))) ++ (zX7 (b + 129) (b + 1))))) rfl ?_
  refine s_aload_n dX9_init_63 rfl rfl ?_
  refine q_new dX9_init_64 nxX9_38 hb (i := 144) (by simp only [List.length_cons, List.length_nil, List.length_append, List.length_replicate, List.length_map, List.length_range, zX0_len, zX1_len, zX5_len, zX8_len, zX3_len, zX6_len, zX7_len, zX4_len, zX2_len]) (Nat.le_of_ble_eq_true rfl) hz (bc2 := 13) (bs2 := 1731) rfl rfl (xs2 := ((9, 0, [b + 1 + 1, b + 10 + 1, b + 19 + 1, b + 28 + 1, b + 129 + 1]) :: ((((((zX4 (b + 1)) ++ (zX4 (b + 10))) ++ (zX4 (b + 19))) ++ (zX2 (b + 28))) ++ (zX7 (b + 129) (b + 1))) ++ [(3, 0, [])]))) rfl ?_
  refine s_dup dX9_init_67 ?_
  refine s_aload_n dX9_init_68 rfl rfl ?_
  refine q_getR (r := (b + 1)) dX9_init_69 flX9_12 hb (i := 0) rfl rfl rfl rfl ?_
  refine s_aload_n dX9_init_72 rfl rfl ?_
  refine q_getR (r := (b + 129)) dX9_init_73 flX9_34 hb (i := 0) rfl rfl rfl rfl ?_
  refine q_init dX9_init_76 lkX9_40 rfl rfl lmX3_init (As := [vR (b + 1), vR (b + 129)]) (k := (b + 144)) (rest := [vR (b + 144), vR b]) rfl rfl (Nat.le_of_ble_eq_true rfl) (by decide) (bc2 := 10) (bc1 := 3) (bs2 := 830) (bs1 := 901) rfl rfl hb (i := 144) (ys := ((9, 0, [b + 1 + 1, b + 10 + 1, b + 19 + 1, b + 28 + 1, b + 129 + 1]) :: (((((zX4 (b + 1)) ++ (zX4 (b + 10))) ++ (zX4 (b + 19))) ++ (zX2 (b + 28))) ++ (zX7 (b + 129) (b + 1))))) (o := (3, 0, [])) (by simp only [List.length_cons, List.length_nil, List.length_append, List.length_replicate, List.length_map, List.length_range, zX0_len, zX1_len, zX5_len, zX8_len, zX3_len, zX6_len, zX7_len, zX4_len, zX2_len]) rfl rfl (in_X3 (q_len hb (by simp only [List.length_cons, List.length_nil, List.length_append, List.length_replicate, List.length_map, List.length_range, zX0_len, zX1_len, zX5_len, zX8_len, zX3_len, zX6_len, zX7_len, zX4_len, zX2_len])) (fun k hk => hz k (Nat.le_trans (by omega) hk))) (xs2 := ((9, 0, [b + 1 + 1, b + 10 + 1, b + 19 + 1, b + 28 + 1, b + 129 + 1]) :: ((((((zX4 (b + 1)) ++ (zX4 (b + 10))) ++ (zX4 (b + 19))) ++ (zX2 (b + 28))) ++ (zX7 (b + 129) (b + 1))) ++ (zX3 (b + 144) (b + 1) (b + 129))))) rfl ?_
  refine q_putF dX9_init_79 flX9_43 hb (i := 0) rfl rfl rfl rfl (fun _ => ⟨rfl, rfl⟩) rfl rfl (xs2 := ((9, 0, [b + 1 + 1, b + 10 + 1, b + 19 + 1, b + 28 + 1, b + 129 + 1, b + 144 + 1]) :: ((((((zX4 (b + 1)) ++ (zX4 (b + 10))) ++ (zX4 (b + 19))) ++ (zX2 (b + 28))) ++ (zX7 (b + 129) (b + 1))) ++ (zX3 (b + 144) (b + 1) (b + 129))))) rfl ?_
  refine s_aload_n dX9_init_82 rfl rfl ?_
  refine q_new dX9_init_83 nxX9_47 hb (i := 148) (by simp only [List.length_cons, List.length_nil, List.length_append, List.length_replicate, List.length_map, List.length_range, zX0_len, zX1_len, zX5_len, zX8_len, zX3_len, zX6_len, zX7_len, zX4_len, zX2_len]) (Nat.le_of_ble_eq_true rfl) hz (bc2 := 9) (bs2 := 825) rfl rfl (xs2 := ((9, 0, [b + 1 + 1, b + 10 + 1, b + 19 + 1, b + 28 + 1, b + 129 + 1, b + 144 + 1]) :: (((((((zX4 (b + 1)) ++ (zX4 (b + 10))) ++ (zX4 (b + 19))) ++ (zX2 (b + 28))) ++ (zX7 (b + 129) (b + 1))) ++ (zX3 (b + 144) (b + 1) (b + 129))) ++ [(6, 0, [])]))) rfl ?_
  refine s_dup dX9_init_86 ?_
  refine s_aload_n dX9_init_87 rfl rfl ?_
  refine q_getR (r := (b + 1)) dX9_init_88 flX9_12 hb (i := 0) rfl rfl rfl rfl ?_
  refine s_aload_n dX9_init_91 rfl rfl ?_
  refine q_getR (r := (b + 129)) dX9_init_92 flX9_34 hb (i := 0) rfl rfl rfl rfl ?_
  refine q_init dX9_init_95 lkX9_49 rfl rfl lmX6_init (As := [vR (b + 1), vR (b + 129)]) (k := (b + 148)) (rest := [vR (b + 148), vR b]) rfl rfl (Nat.le_of_ble_eq_true rfl) (by decide) (bc2 := 7) (bc1 := 2) (bs2 := 225) (bs1 := 600) rfl rfl hb (i := 148) (ys := ((9, 0, [b + 1 + 1, b + 10 + 1, b + 19 + 1, b + 28 + 1, b + 129 + 1, b + 144 + 1]) :: ((((((zX4 (b + 1)) ++ (zX4 (b + 10))) ++ (zX4 (b + 19))) ++ (zX2 (b + 28))) ++ (zX7 (b + 129) (b + 1))) ++ (zX3 (b + 144) (b + 1) (b + 129))))) (o := (6, 0, [])) (by simp only [List.length_cons, List.length_nil, List.length_append, List.length_replicate, List.length_map, List.length_range, zX0_len, zX1_len, zX5_len, zX8_len, zX3_len, zX6_len, zX7_len, zX4_len, zX2_len]) rfl rfl (in_X6 (q_len hb (by simp only [List.length_cons, List.length_nil, List.length_append, List.length_replicate, List.length_map, List.length_range, zX0_len, zX1_len, zX5_len, zX8_len, zX3_len, zX6_len, zX7_len, zX4_len, zX2_len])) (fun k hk => hz k (Nat.le_trans (by omega) hk))) (xs2 := ((9, 0, [b + 1 + 1, b + 10 + 1, b + 19 + 1, b + 28 + 1, b + 129 + 1, b + 144 + 1]) :: (((((((zX4 (b + 1)) ++ (zX4 (b + 10))) ++ (zX4 (b + 19))) ++ (zX2 (b + 28))) ++ (zX7 (b + 129) (b + 1))) ++ (zX3 (b + 144) (b + 1) (b + 129))) ++ (zX6 (b + 148) (b + 1) (b + 129))))) rfl ?_
  refine q_putF dX9_init_98 flX9_50 hb (i := 0) rfl rfl rfl rfl (fun _ => ⟨rfl, rfl⟩) rfl rfl (xs2 := ((9, 0, [b + 1 + 1, b + 10 + 1, b + 19 + 1, b + 28 + 1, b + 129 + 1, b + 144 + 1, b + 148 + 1]) :: (((((((zX4 (b + 1)) ++ (zX4 (b + 10))) ++ (zX4 (b + 19))) ++ (zX2 (b + 28))) ++ (zX7 (b + 129) (b + 1))) ++ (zX3 (b + 144) (b + 1) (b + 129))) ++ (zX6 (b + 148) (b + 1) (b + 129))))) rfl ?_
  refine s_aload_n dX9_init_101 rfl rfl ?_
  refine q_new dX9_init_102 nxX9_54 hb (i := 151) (by simp only [List.length_cons, List.length_nil, List.length_append, List.length_replicate, List.length_map, List.length_range, zX0_len, zX1_len, zX5_len, zX8_len, zX3_len, zX6_len, zX7_len, zX4_len, zX2_len]) (Nat.le_of_ble_eq_true rfl) hz (bc2 := 6) (bs2 := 218) rfl rfl (xs2 := ((9, 0, [b + 1 + 1, b + 10 + 1, b + 19 + 1, b + 28 + 1, b + 129 + 1, b + 144 + 1, b + 148 + 1]) :: ((((((((zX4 (b + 1)) ++ (zX4 (b + 10))) ++ (zX4 (b + 19))) ++ (zX2 (b + 28))) ++ (zX7 (b + 129) (b + 1))) ++ (zX3 (b + 144) (b + 1) (b + 129))) ++ (zX6 (b + 148) (b + 1) (b + 129))) ++ [(5, 0, [])]))) rfl ?_
  refine s_dup dX9_init_105 ?_
  refine q_initN dX9_init_106 lkX9_56 rfl rfl lmX5_init (As := []) (k := (b + 151)) (rest := [vR (b + 151), vR b]) rfl rfl (Nat.le_of_ble_eq_true rfl) (by decide) (bc2 := 2) (bc1 := 4) (bs2 := 98) (bs1 := 120) rfl rfl hb (i := 151) (ys := ((9, 0, [b + 1 + 1, b + 10 + 1, b + 19 + 1, b + 28 + 1, b + 129 + 1, b + 144 + 1, b + 148 + 1]) :: (((((((zX4 (b + 1)) ++ (zX4 (b + 10))) ++ (zX4 (b + 19))) ++ (zX2 (b + 28))) ++ (zX7 (b + 129) (b + 1))) ++ (zX3 (b + 144) (b + 1) (b + 129))) ++ (zX6 (b + 148) (b + 1) (b + 129))))) (o := (5, 0, [])) (by simp only [List.length_cons, List.length_nil, List.length_append, List.length_replicate, List.length_map, List.length_range, zX0_len, zX1_len, zX5_len, zX8_len, zX3_len, zX6_len, zX7_len, zX4_len, zX2_len]) rfl rfl (in_X5 (q_len hb (by simp only [List.length_cons, List.length_nil, List.length_append, List.length_replicate, List.length_map, List.length_range, zX0_len, zX1_len, zX5_len, zX8_len, zX3_len, zX6_len, zX7_len, zX4_len, zX2_len])) (fun k hk => hz k (Nat.le_trans (by omega) hk))) (xs2 := ((9, 0, [b + 1 + 1, b + 10 + 1, b + 19 + 1, b + 28 + 1, b + 129 + 1, b + 144 + 1, b + 148 + 1]) :: ((((((((zX4 (b + 1)) ++ (zX4 (b + 10))) ++ (zX4 (b + 19))) ++ (zX2 (b + 28))) ++ (zX7 (b + 129) (b + 1))) ++ (zX3 (b + 144) (b + 1) (b + 129))) ++ (zX6 (b + 148) (b + 1) (b + 129))) ++ (zX5 (b + 151))))) rfl ?_
  refine q_putF dX9_init_109 flX9_57 hb (i := 0) rfl rfl rfl rfl (fun _ => ⟨rfl, rfl⟩) rfl rfl (xs2 := ((9, 0, [b + 1 + 1, b + 10 + 1, b + 19 + 1, b + 28 + 1, b + 129 + 1, b + 144 + 1, b + 148 + 1, b + 151 + 1]) :: ((((((((zX4 (b + 1)) ++ (zX4 (b + 10))) ++ (zX4 (b + 19))) ++ (zX2 (b + 28))) ++ (zX7 (b + 129) (b + 1))) ++ (zX3 (b + 144) (b + 1) (b + 129))) ++ (zX6 (b + 148) (b + 1) (b + 129))) ++ (zX5 (b + 151))))) rfl ?_
  refine s_aload_n dX9_init_112 rfl rfl ?_
  refine q_new dX9_init_113 nxX9_61 hb (i := 156) (by simp only [List.length_cons, List.length_nil, List.length_append, List.length_replicate, List.length_map, List.length_range, zX0_len, zX1_len, zX5_len, zX8_len, zX3_len, zX6_len, zX7_len, zX4_len, zX2_len]) (Nat.le_of_ble_eq_true rfl) hz (bc2 := 1) (bs2 := 96) rfl rfl (xs2 := ((9, 0, [b + 1 + 1, b + 10 + 1, b + 19 + 1, b + 28 + 1, b + 129 + 1, b + 144 + 1, b + 148 + 1, b + 151 + 1]) :: (((((((((zX4 (b + 1)) ++ (zX4 (b + 10))) ++ (zX4 (b + 19))) ++ (zX2 (b + 28))) ++ (zX7 (b + 129) (b + 1))) ++ (zX3 (b + 144) (b + 1) (b + 129))) ++ (zX6 (b + 148) (b + 1) (b + 129))) ++ (zX5 (b + 151))) ++ [(8, 0, [])]))) rfl ?_
  refine s_dup dX9_init_116 ?_
  refine q_initN dX9_init_117 lkX9_63 rfl rfl lmX8_init (As := []) (k := (b + 156)) (rest := [vR (b + 156), vR b]) rfl rfl (Nat.le_of_ble_eq_true rfl) (by decide) (bc2 := 0) (bc1 := 1) (bs2 := 0) (bs1 := 96) rfl rfl hb (i := 156) (ys := ((9, 0, [b + 1 + 1, b + 10 + 1, b + 19 + 1, b + 28 + 1, b + 129 + 1, b + 144 + 1, b + 148 + 1, b + 151 + 1]) :: ((((((((zX4 (b + 1)) ++ (zX4 (b + 10))) ++ (zX4 (b + 19))) ++ (zX2 (b + 28))) ++ (zX7 (b + 129) (b + 1))) ++ (zX3 (b + 144) (b + 1) (b + 129))) ++ (zX6 (b + 148) (b + 1) (b + 129))) ++ (zX5 (b + 151))))) (o := (8, 0, [])) (by simp only [List.length_cons, List.length_nil, List.length_append, List.length_replicate, List.length_map, List.length_range, zX0_len, zX1_len, zX5_len, zX8_len, zX3_len, zX6_len, zX7_len, zX4_len, zX2_len]) rfl rfl (in_X8 (q_len hb (by simp only [List.length_cons, List.length_nil, List.length_append, List.length_replicate, List.length_map, List.length_range, zX0_len, zX1_len, zX5_len, zX8_len, zX3_len, zX6_len, zX7_len, zX4_len, zX2_len])) (fun k hk => hz k (Nat.le_trans (by omega) hk))) (xs2 := ((9, 0, [b + 1 + 1, b + 10 + 1, b + 19 + 1, b + 28 + 1, b + 129 + 1, b + 144 + 1, b + 148 + 1, b + 151 + 1]) :: (((((((((zX4 (b + 1)) ++ (zX4 (b + 10))) ++ (zX4 (b + 19))) ++ (zX2 (b + 28))) ++ (zX7 (b + 129) (b + 1))) ++ (zX3 (b + 144) (b + 1) (b + 129))) ++ (zX6 (b + 148) (b + 1) (b + 129))) ++ (zX5 (b + 151))) ++ (zX8 (b + 156))))) rfl ?_
  refine q_putF dX9_init_120 flX9_64 hb (i := 0) rfl rfl rfl rfl (fun _ => ⟨rfl, rfl⟩) rfl rfl (xs2 := ((9, 0, [b + 1 + 1, b + 10 + 1, b + 19 + 1, b + 28 + 1, b + 129 + 1, b + 144 + 1, b + 148 + 1, b + 151 + 1, b + 156 + 1]) :: (((((((((zX4 (b + 1)) ++ (zX4 (b + 10))) ++ (zX4 (b + 19))) ++ (zX2 (b + 28))) ++ (zX7 (b + 129) (b + 1))) ++ (zX3 (b + 144) (b + 1) (b + 129))) ++ (zX6 (b + 148) (b + 1) (b + 129))) ++ (zX5 (b + 151))) ++ (zX8 (b + 156))))) rfl ?_
  exact s_return dX9_init_123 rfl ⟨rfl, rfl, rfl, rfl⟩
def zX10 (b : Nat) : am_Lc := ((10, 0, [b + 1 + 1, b + 2 + 1, b + 3 + 1, b + 4 + 1, b + 5 + 1, b + 6 + 1, b + 7 + 1, 0, 0, 0, 0, 0, b + 8 + 1, b + 9 + 1, b + 10 + 1, b + 11 + 1, b + 12 + 1, b + 13 + 1, b + 14 + 1, b + 15 + 1, 0, b + 16 + 1, b + 17 + 1, 0, 0, 0, 0, 0, b + 18 + 1, b + 19 + 1, b + 20 + 1, b + 21 + 1]) :: (11, 470, []) :: (11, 470, []) :: (((((((((((((((((([(11, 470, [])] ++ [(11, 4700, [])]) ++ [(11, 4700, [])]) ++ [(11, 470, [])]) ++ [(11, 470, [])]) ++ [(11, 1200, [])]) ++ [(11, 2400, [])]) ++ [(11, 2400, [])]) ++ [(11, 2400, [])]) ++ [(11, 600, [])]) ++ [(12, 2400, [])]) ++ [(11, 8, [])]) ++ [(11, 1200, [])]) ++ [(11, 160, [])]) ++ [(11, 60, [])]) ++ [(11, 60, [])]) ++ [(11, 60, [])]) ++ [(11, 60, [])]) ++ [(11, 100, [])]))
theorem zX10_len (b : Nat) : (zX10 b).length = 22 := by unfold zX10; simp only [List.length_cons, List.length_nil, List.length_append, List.length_replicate, List.length_map, List.length_range, zX0_len, zX1_len, zX5_len, zX8_len, zX3_len, zX6_len, zX7_len, zX4_len, zX2_len, zX9_len]
def am_v0 (j : Nat) : Int := if 410 ≤ j ∧ j < 438 then [100, 0, 0, -1, 100, 50, 5].getD ((j - 410) % 7) 0 else if 465 ≤ j ∧ j < 469 then [100, 10, 10, 25].getD (j - 465) 0 else 0
def am_rm0 (μ : am_M) (b : Nat) : am_M := am_st (am_st μ b (am_up (μ b) 27 (-1))) (b + 1) am_v0
theorem am_st_st (μ : am_M) (k : Nat) (f g : Nat → Int) : am_st (am_st μ k f) k g = am_st μ k g := by
  funext q
  unfold am_st
  split <;> rfl
theorem am_st_at (μ : am_M) (k : Nat) (f : Nat → Int) : am_st μ k f k = f := if_pos rfl
theorem am_v0_lo : ∀ j, j < 480 → (am_up (am_up (am_up (am_up (am_up (am_up (am_up (am_up (am_up (am_up (am_up (am_up (am_up (am_up (am_up (am_up (am_up (am_up (am_up (am_up (am_up (am_up (am_up (am_up am_m0 410 100) 413 (-1)) 414 100) 415 50) 416 5) 417 100) 420 (-1)) 421 100) 422 50) 423 5) 424 100) 427 (-1)) 428 100) 429 50) 430 5) 431 100) 434 (-1)) 435 100) 436 50) 437 5) 465 100) 466 10) 467 10) 468 25) j = am_v0 j := by decide +kernel
theorem am_v0_is : (am_up (am_up (am_up (am_up (am_up (am_up (am_up (am_up (am_up (am_up (am_up (am_up (am_up (am_up (am_up (am_up (am_up (am_up (am_up (am_up (am_up (am_up (am_up (am_up am_m0 410 100) 413 (-1)) 414 100) 415 50) 416 5) 417 100) 420 (-1)) 421 100) 422 50) 423 5) 424 100) 427 (-1)) 428 100) 429 50) 430 5) 431 100) 434 (-1)) 435 100) 436 50) 437 5) 465 100) 466 10) 467 10) 468 25) = am_v0 := by
  funext j
  by_cases h : j < 480
  · exact am_v0_lo j h
  · unfold am_up am_v0
    repeat rw [if_neg (by omega)]

theorem in_X10 {l0 : am_Lc} {b : Nat} {μ : am_M} (hb : l0.length = b) (hz : ∀ k, b + 1 ≤ k → μ k = am_m0) (hv : μ b = am_m0) : in_c 1 21 24858 mX10_init l0 (10, 0, []) μ b [] (zX10 b) (am_rm0 μ b) := by
  refine am_intro pmX10_init (L := [vR b, vU, vU]) (Nat.le_of_ble_eq_true rfl) rfl ?_
  refine @id (am_Ag true 1 21 24858 mX10_init (l0 ++ [(10, 0, [])]).length (am_cell (l0 ++ [(10, 0, [])])) μ 0 _ [] _) ?_
  have hz0 := hz
  refine s_aload_n dX10_init_0 rfl rfl ?_
  refine s_objI dX10_init_1 oiX10_1 (Nat.le_of_ble_eq_true rfl) (by decide) ?_
  refine s_aload_n dX10_init_4 rfl rfl ?_
  refine s_sipush dX10_init_5 (by decide) ?_
  refine q_newI (N := 470) dX10_init_8 am_wai (by decide) hb (i := 1) (by simp only [List.length_cons, List.length_nil, List.length_append, List.length_replicate, List.length_map, List.length_range, zX0_len, zX1_len, zX5_len, zX8_len, zX3_len, zX6_len, zX7_len, zX4_len, zX2_len, zX9_len]) (Nat.le_of_ble_eq_true rfl) hz (bc2 := 20) (bs2 := 24388) rfl rfl (xs2 := [(10, 0, []), (11, 470, [])]) rfl ?_
  refine q_putF dX10_init_10 flX10_9 hb (i := 0) rfl rfl rfl rfl (fun _ => ⟨rfl, rfl⟩) rfl rfl (xs2 := [(10, 0, [b + 1 + 1]), (11, 470, [])]) rfl ?_
  refine s_aload_n dX10_init_13 rfl rfl ?_
  refine s_sipush dX10_init_14 (by decide) ?_
  refine q_newI (N := 470) dX10_init_17 am_wai (by decide) hb (i := 2) (by simp only [List.length_cons, List.length_nil, List.length_append, List.length_replicate, List.length_map, List.length_range, zX0_len, zX1_len, zX5_len, zX8_len, zX3_len, zX6_len, zX7_len, zX4_len, zX2_len, zX9_len]) (Nat.le_of_ble_eq_true rfl) hz (bc2 := 19) (bs2 := 23918) rfl rfl (xs2 := [(10, 0, [b + 1 + 1]), (11, 470, []), (11, 470, [])]) rfl ?_
  refine q_putF dX10_init_19 flX10_13 hb (i := 0) rfl rfl rfl rfl (fun _ => ⟨rfl, rfl⟩) rfl rfl (xs2 := [(10, 0, [b + 1 + 1, b + 2 + 1]), (11, 470, []), (11, 470, [])]) rfl ?_
  refine s_aload_n dX10_init_22 rfl rfl ?_
  refine s_sipush dX10_init_23 (by decide) ?_
  refine q_newI (N := 470) dX10_init_26 am_wai (by decide) hb (i := 3) (by simp only [List.length_cons, List.length_nil, List.length_append, List.length_replicate, List.length_map, List.length_range, zX0_len, zX1_len, zX5_len, zX8_len, zX3_len, zX6_len, zX7_len, zX4_len, zX2_len, zX9_len]) (Nat.le_of_ble_eq_true rfl) hz (bc2 := 18) (bs2 := 23448) rfl rfl (xs2 := ((10, 0, [b + 1 + 1, b + 2 + 1]) :: (11, 470, []) :: (11, 470, []) :: [(11, 470, [])])) rfl ?_
  refine q_putF dX10_init_28 flX10_16 hb (i := 0) rfl rfl rfl rfl (fun _ => ⟨rfl, rfl⟩) rfl rfl (xs2 := ((10, 0, [b + 1 + 1, b + 2 + 1, b + 3 + 1]) :: (11, 470, []) :: (11, 470, []) :: [(11, 470, [])])) rfl ?_
  refine s_aload_n dX10_init_31 rfl rfl ?_
  refine s_sipush dX10_init_32 (by decide) ?_
  refine q_newI (N := 4700) dX10_init_35 am_wai (by decide) hb (i := 4) (by simp only [List.length_cons, List.length_nil, List.length_append, List.length_replicate, List.length_map, List.length_range, zX0_len, zX1_len, zX5_len, zX8_len, zX3_len, zX6_len, zX7_len, zX4_len, zX2_len, zX9_len]) (Nat.le_of_ble_eq_true rfl) hz (bc2 := 17) (bs2 := 18748) rfl rfl (xs2 := ((10, 0, [b + 1 + 1, b + 2 + 1, b + 3 + 1]) :: (11, 470, []) :: (11, 470, []) :: ([(11, 470, [])] ++ [(11, 4700, [])]))) rfl ?_
  refine q_putF dX10_init_37 flX10_19 hb (i := 0) rfl rfl rfl rfl (fun _ => ⟨rfl, rfl⟩) rfl rfl (xs2 := ((10, 0, [b + 1 + 1, b + 2 + 1, b + 3 + 1, b + 4 + 1]) :: (11, 470, []) :: (11, 470, []) :: ([(11, 470, [])] ++ [(11, 4700, [])]))) rfl ?_
  refine s_aload_n dX10_init_40 rfl rfl ?_
  refine s_sipush dX10_init_41 (by decide) ?_
  refine q_newI (N := 4700) dX10_init_44 am_wai (by decide) hb (i := 5) (by simp only [List.length_cons, List.length_nil, List.length_append, List.length_replicate, List.length_map, List.length_range, zX0_len, zX1_len, zX5_len, zX8_len, zX3_len, zX6_len, zX7_len, zX4_len, zX2_len, zX9_len]) (Nat.le_of_ble_eq_true rfl) hz (bc2 := 16) (bs2 := 14048) rfl rfl (xs2 := ((10, 0, [b + 1 + 1, b + 2 + 1, b + 3 + 1, b + 4 + 1]) :: (11, 470, []) :: (11, 470, []) :: (([(11, 470, [])] ++ [(11, 4700, [])]) ++ [(11, 4700, [])]))) rfl ?_
  refine q_putF dX10_init_46 flX10_22 hb (i := 0) rfl rfl rfl rfl (fun _ => ⟨rfl, rfl⟩) rfl rfl (xs2 := ((10, 0, [b + 1 + 1, b + 2 + 1, b + 3 + 1, b + 4 + 1, b + 5 + 1]) :: (11, 470, []) :: (11, 470, []) :: (([(11, 470, [])] ++ [(11, 4700, [])]) ++ [(11, 4700, [])]))) rfl ?_
  refine s_aload_n dX10_init_49 rfl rfl ?_
  refine s_sipush dX10_init_50 (by decide) ?_
  refine q_newI (N := 470) dX10_init_53 am_wai (by decide) hb (i := 6) (by simp only [List.length_cons, List.length_nil, List.length_append, List.length_replicate, List.length_map, List.length_range, zX0_len, zX1_len, zX5_len, zX8_len, zX3_len, zX6_len, zX7_len, zX4_len, zX2_len, zX9_len]) (Nat.le_of_ble_eq_true rfl) hz (bc2 := 15) (bs2 := 13578) rfl rfl (xs2 := ((10, 0, [b + 1 + 1, b + 2 + 1, b + 3 + 1, b + 4 + 1, b + 5 + 1]) :: (11, 470, []) :: (11, 470, []) :: ((([(11, 470, [])] ++ [(11, 4700, [])]) ++ [(11, 4700, [])]) ++ [(11, 470, [])]))) rfl ?_
  refine q_putF dX10_init_55 flX10_25 hb (i := 0) rfl rfl rfl rfl (fun _ => ⟨rfl, rfl⟩) rfl rfl (xs2 := ((10, 0, [b + 1 + 1, b + 2 + 1, b + 3 + 1, b + 4 + 1, b + 5 + 1, b + 6 + 1]) :: (11, 470, []) :: (11, 470, []) :: ((([(11, 470, [])] ++ [(11, 4700, [])]) ++ [(11, 4700, [])]) ++ [(11, 470, [])]))) rfl ?_
  refine s_aload_n dX10_init_58 rfl rfl ?_
  refine s_sipush dX10_init_59 (by decide) ?_
  refine q_newI (N := 470) dX10_init_62 am_wai (by decide) hb (i := 7) (by simp only [List.length_cons, List.length_nil, List.length_append, List.length_replicate, List.length_map, List.length_range, zX0_len, zX1_len, zX5_len, zX8_len, zX3_len, zX6_len, zX7_len, zX4_len, zX2_len, zX9_len]) (Nat.le_of_ble_eq_true rfl) hz (bc2 := 14) (bs2 := 13108) rfl rfl (xs2 := ((10, 0, [b + 1 + 1, b + 2 + 1, b + 3 + 1, b + 4 + 1, b + 5 + 1, b + 6 + 1]) :: (11, 470, []) :: (11, 470, []) :: (((([(11, 470, [])] ++ [(11, 4700, [])]) ++ [(11, 4700, [])]) ++ [(11, 470, [])]) ++ [(11, 470, [])]))) rfl ?_
  refine q_putF dX10_init_64 flX10_28 hb (i := 0) rfl rfl rfl rfl (fun _ => ⟨rfl, rfl⟩) rfl rfl (xs2 := ((10, 0, [b + 1 + 1, b + 2 + 1, b + 3 + 1, b + 4 + 1, b + 5 + 1, b + 6 + 1, b + 7 + 1]) :: (11, 470, []) :: (11, 470, []) :: (((([(11, 470, [])] ++ [(11, 4700, [])]) ++ [(11, 4700, [])]) ++ [(11, 470, [])]) ++ [(11, 470, [])]))) rfl ?_
  refine s_aload_n dX10_init_67 rfl rfl ?_
  refine s_sipush dX10_init_68 (by decide) ?_
  refine q_newI (N := 1200) dX10_init_71 am_wai (by decide) hb (i := 8) (by simp only [List.length_cons, List.length_nil, List.length_append, List.length_replicate, List.length_map, List.length_range, zX0_len, zX1_len, zX5_len, zX8_len, zX3_len, zX6_len, zX7_len, zX4_len, zX2_len, zX9_len]) (Nat.le_of_ble_eq_true rfl) hz (bc2 := 13) (bs2 := 11908) rfl rfl (xs2 := ((10, 0, [b + 1 + 1, b + 2 + 1, b + 3 + 1, b + 4 + 1, b + 5 + 1, b + 6 + 1, b + 7 + 1]) :: (11, 470, []) :: (11, 470, []) :: ((((([(11, 470, [])] ++ [(11, 4700, [])]) ++ [(11, 4700, [])]) ++ [(11, 470, [])]) ++ [(11, 470, [])]) ++ [(11, 1200, [])]))) rfl ?_
  refine q_putF dX10_init_73 flX10_31 hb (i := 0) rfl rfl rfl rfl (fun _ => ⟨rfl, rfl⟩) rfl rfl (xs2 := ((10, 0, [b + 1 + 1, b + 2 + 1, b + 3 + 1, b + 4 + 1, b + 5 + 1, b + 6 + 1, b + 7 + 1, 0, 0, 0, 0, 0, b + 8 + 1]) :: (11, 470, []) :: (11, 470, []) :: ((((([(11, 470, [])] ++ [(11, 4700, [])]) ++ [(11, 4700, [])]) ++ [(11, 470, [])]) ++ [(11, 470, [])]) ++ [(11, 1200, [])]))) rfl ?_
  refine s_aload_n dX10_init_76 rfl rfl ?_
  refine s_sipush dX10_init_77 (by decide) ?_
  refine q_newI (N := 2400) dX10_init_80 am_wai (by decide) hb (i := 9) (by simp only [List.length_cons, List.length_nil, List.length_append, List.length_replicate, List.length_map, List.length_range, zX0_len, zX1_len, zX5_len, zX8_len, zX3_len, zX6_len, zX7_len, zX4_len, zX2_len, zX9_len]) (Nat.le_of_ble_eq_true rfl) hz (bc2 := 12) (bs2 := 9508) rfl rfl (xs2 := ((10, 0, [b + 1 + 1, b + 2 + 1, b + 3 + 1, b + 4 + 1, b + 5 + 1, b + 6 + 1, b + 7 + 1, 0, 0, 0, 0, 0, b + 8 + 1]) :: (11, 470, []) :: (11, 470, []) :: (((((([(11, 470, [])] ++ [(11, 4700, [])]) ++ [(11, 4700, [])]) ++ [(11, 470, [])]) ++ [(11, 470, [])]) ++ [(11, 1200, [])]) ++ [(11, 2400, [])]))) rfl ?_
  refine q_putF dX10_init_82 flX10_34 hb (i := 0) rfl rfl rfl rfl (fun _ => ⟨rfl, rfl⟩) rfl rfl (xs2 := ((10, 0, [b + 1 + 1, b + 2 + 1, b + 3 + 1, b + 4 + 1, b + 5 + 1, b + 6 + 1, b + 7 + 1, 0, 0, 0, 0, 0, b + 8 + 1, b + 9 + 1]) :: (11, 470, []) :: (11, 470, []) :: (((((([(11, 470, [])] ++ [(11, 4700, [])]) ++ [(11, 4700, [])]) ++ [(11, 470, [])]) ++ [(11, 470, [])]) ++ [(11, 1200, [])]) ++ [(11, 2400, [])]))) rfl ?_
  refine s_aload_n dX10_init_85 rfl rfl ?_
  refine s_sipush dX10_init_86 (by decide) ?_
  refine q_newI (N := 2400) dX10_init_89 am_wai (by decide) hb (i := 10) (by simp only [List.length_cons, List.length_nil, List.length_append, List.length_replicate, List.length_map, List.length_range, zX0_len, zX1_len, zX5_len, zX8_len, zX3_len, zX6_len, zX7_len, zX4_len, zX2_len, zX9_len]) (Nat.le_of_ble_eq_true rfl) hz (bc2 := 11) (bs2 := 7108) rfl rfl (xs2 := ((10, 0, [b + 1 + 1, b + 2 + 1, b + 3 + 1, b + 4 + 1, b + 5 + 1, b + 6 + 1, b + 7 + 1, 0, 0, 0, 0, 0, b + 8 + 1, b + 9 + 1]) :: (11, 470, []) :: (11, 470, []) :: ((((((([(11, 470, [])] ++ [(11, 4700, [])]) ++ [(11, 4700, [])]) ++ [(11, 470, [])]) ++ [(11, 470, [])]) ++ [(11, 1200, [])]) ++ [(11, 2400, [])]) ++ [(11, 2400, [])]))) rfl ?_
  refine q_putF dX10_init_91 flX10_37 hb (i := 0) rfl rfl rfl rfl (fun _ => ⟨rfl, rfl⟩) rfl rfl (xs2 := ((10, 0, [b + 1 + 1, b + 2 + 1, b + 3 + 1, b + 4 + 1, b + 5 + 1, b + 6 + 1, b + 7 + 1, 0, 0, 0, 0, 0, b + 8 + 1, b + 9 + 1, b + 10 + 1]) :: (11, 470, []) :: (11, 470, []) :: ((((((([(11, 470, [])] ++ [(11, 4700, [])]) ++ [(11, 4700, [])]) ++ [(11, 470, [])]) ++ [(11, 470, [])]) ++ [(11, 1200, [])]) ++ [(11, 2400, [])]) ++ [(11, 2400, [])]))) rfl ?_
  refine s_aload_n dX10_init_94 rfl rfl ?_
  refine s_sipush dX10_init_95 (by decide) ?_
  refine q_newI (N := 2400) dX10_init_98 am_wai (by decide) hb (i := 11) (by simp only [List.length_cons, List.length_nil, List.length_append, List.length_replicate, List.length_map, List.length_range, zX0_len, zX1_len, zX5_len, zX8_len, zX3_len, zX6_len, zX7_len, zX4_len, zX2_len, zX9_len]) (Nat.le_of_ble_eq_true rfl) hz (bc2 := 10) (bs2 := 4708) rfl rfl (xs2 := ((10, 0, [b + 1 + 1, b + 2 + 1, b + 3 + 1, b + 4 + 1, b + 5 + 1, b + 6 + 1, b + 7 + 1, 0, 0, 0, 0, 0, b + 8 + 1, b + 9 + 1, b + 10 + 1]) :: (11, 470, []) :: (11, 470, []) :: (((((((([(11, 470, [])] ++ [(11, 4700, [])]) ++ [(11, 4700, [])]) ++ [(11, 470, [])]) ++ [(11, 470, [])]) ++ [(11, 1200, [])]) ++ [(11, 2400, [])]) ++ [(11, 2400, [])]) ++ [(11, 2400, [])]))) rfl ?_
  refine q_putF dX10_init_100 flX10_40 hb (i := 0) rfl rfl rfl rfl (fun _ => ⟨rfl, rfl⟩) rfl rfl (xs2 := ((10, 0, [b + 1 + 1, b + 2 + 1, b + 3 + 1, b + 4 + 1, b + 5 + 1, b + 6 + 1, b + 7 + 1, 0, 0, 0, 0, 0, b + 8 + 1, b + 9 + 1, b + 10 + 1, b + 11 + 1]) :: (11, 470, []) :: (11, 470, []) :: (((((((([(11, 470, [])] ++ [(11, 4700, [])]) ++ [(11, 4700, [])]) ++ [(11, 470, [])]) ++ [(11, 470, [])]) ++ [(11, 1200, [])]) ++ [(11, 2400, [])]) ++ [(11, 2400, [])]) ++ [(11, 2400, [])]))) rfl ?_
  refine s_aload_n dX10_init_103 rfl rfl ?_
  refine s_sipush dX10_init_104 (by decide) ?_
  refine q_newI (N := 600) dX10_init_107 am_wai (by decide) hb (i := 12) (by simp only [List.length_cons, List.length_nil, List.length_append, List.length_replicate, List.length_map, List.length_range, zX0_len, zX1_len, zX5_len, zX8_len, zX3_len, zX6_len, zX7_len, zX4_len, zX2_len, zX9_len]) (Nat.le_of_ble_eq_true rfl) hz (bc2 := 9) (bs2 := 4108) rfl rfl (xs2 := ((10, 0, [b + 1 + 1, b + 2 + 1, b + 3 + 1, b + 4 + 1, b + 5 + 1, b + 6 + 1, b + 7 + 1, 0, 0, 0, 0, 0, b + 8 + 1, b + 9 + 1, b + 10 + 1, b + 11 + 1]) :: (11, 470, []) :: (11, 470, []) :: ((((((((([(11, 470, [])] ++ [(11, 4700, [])]) ++ [(11, 4700, [])]) ++ [(11, 470, [])]) ++ [(11, 470, [])]) ++ [(11, 1200, [])]) ++ [(11, 2400, [])]) ++ [(11, 2400, [])]) ++ [(11, 2400, [])]) ++ [(11, 600, [])]))) rfl ?_
  refine q_putF dX10_init_109 flX10_43 hb (i := 0) rfl rfl rfl rfl (fun _ => ⟨rfl, rfl⟩) rfl rfl (xs2 := ((10, 0, [b + 1 + 1, b + 2 + 1, b + 3 + 1, b + 4 + 1, b + 5 + 1, b + 6 + 1, b + 7 + 1, 0, 0, 0, 0, 0, b + 8 + 1, b + 9 + 1, b + 10 + 1, b + 11 + 1, b + 12 + 1]) :: (11, 470, []) :: (11, 470, []) :: ((((((((([(11, 470, [])] ++ [(11, 4700, [])]) ++ [(11, 4700, [])]) ++ [(11, 470, [])]) ++ [(11, 470, [])]) ++ [(11, 1200, [])]) ++ [(11, 2400, [])]) ++ [(11, 2400, [])]) ++ [(11, 2400, [])]) ++ [(11, 600, [])]))) rfl ?_
  refine s_aload_n dX10_init_112 rfl rfl ?_
  refine s_sipush dX10_init_113 (by decide) ?_
  refine q_newZ (N := 2400) dX10_init_116 am_waz (by decide) hb (i := 13) (by simp only [List.length_cons, List.length_nil, List.length_append, List.length_replicate, List.length_map, List.length_range, zX0_len, zX1_len, zX5_len, zX8_len, zX3_len, zX6_len, zX7_len, zX4_len, zX2_len, zX9_len]) (Nat.le_of_ble_eq_true rfl) hz (bc2 := 8) (bs2 := 1708) rfl rfl (xs2 := ((10, 0, [b + 1 + 1, b + 2 + 1, b + 3 + 1, b + 4 + 1, b + 5 + 1, b + 6 + 1, b + 7 + 1, 0, 0, 0, 0, 0, b + 8 + 1, b + 9 + 1, b + 10 + 1, b + 11 + 1, b + 12 + 1]) :: (11, 470, []) :: (11, 470, []) :: (((((((((([(11, 470, [])] ++ [(11, 4700, [])]) ++ [(11, 4700, [])]) ++ [(11, 470, [])]) ++ [(11, 470, [])]) ++ [(11, 1200, [])]) ++ [(11, 2400, [])]) ++ [(11, 2400, [])]) ++ [(11, 2400, [])]) ++ [(11, 600, [])]) ++ [(12, 2400, [])]))) rfl ?_
  refine q_putF dX10_init_118 flX10_46 hb (i := 0) rfl rfl rfl rfl (fun _ => ⟨rfl, rfl⟩) rfl rfl (xs2 := ((10, 0, [b + 1 + 1, b + 2 + 1, b + 3 + 1, b + 4 + 1, b + 5 + 1, b + 6 + 1, b + 7 + 1, 0, 0, 0, 0, 0, b + 8 + 1, b + 9 + 1, b + 10 + 1, b + 11 + 1, b + 12 + 1, b + 13 + 1]) :: (11, 470, []) :: (11, 470, []) :: (((((((((([(11, 470, [])] ++ [(11, 4700, [])]) ++ [(11, 4700, [])]) ++ [(11, 470, [])]) ++ [(11, 470, [])]) ++ [(11, 1200, [])]) ++ [(11, 2400, [])]) ++ [(11, 2400, [])]) ++ [(11, 2400, [])]) ++ [(11, 600, [])]) ++ [(12, 2400, [])]))) rfl ?_
  refine s_aload_n dX10_init_121 rfl rfl ?_
  refine s_bipush dX10_init_122 (by decide) ?_
  refine q_newI (N := 8) dX10_init_124 am_wai (by decide) hb (i := 14) (by simp only [List.length_cons, List.length_nil, List.length_append, List.length_replicate, List.length_map, List.length_range, zX0_len, zX1_len, zX5_len, zX8_len, zX3_len, zX6_len, zX7_len, zX4_len, zX2_len, zX9_len]) (Nat.le_of_ble_eq_true rfl) hz (bc2 := 7) (bs2 := 1700) rfl rfl (xs2 := ((10, 0, [b + 1 + 1, b + 2 + 1, b + 3 + 1, b + 4 + 1, b + 5 + 1, b + 6 + 1, b + 7 + 1, 0, 0, 0, 0, 0, b + 8 + 1, b + 9 + 1, b + 10 + 1, b + 11 + 1, b + 12 + 1, b + 13 + 1]) :: (11, 470, []) :: (11, 470, []) :: ((((((((((([(11, 470, [])] ++ [(11, 4700, [])]) ++ [(11, 4700, [])]) ++ [(11, 470, [])]) ++ [(11, 470, [])]) ++ [(11, 1200, [])]) ++ [(11, 2400, [])]) ++ [(11, 2400, [])]) ++ [(11, 2400, [])]) ++ [(11, 600, [])]) ++ [(12, 2400, [])]) ++ [(11, 8, [])]))) rfl ?_
  refine q_putF dX10_init_126 flX10_50 hb (i := 0) rfl rfl rfl rfl (fun _ => ⟨rfl, rfl⟩) rfl rfl (xs2 := ((10, 0, [b + 1 + 1, b + 2 + 1, b + 3 + 1, b + 4 + 1, b + 5 + 1, b + 6 + 1, b + 7 + 1, 0, 0, 0, 0, 0, b + 8 + 1, b + 9 + 1, b + 10 + 1, b + 11 + 1, b + 12 + 1, b + 13 + 1, b + 14 + 1]) :: (11, 470, []) :: (11, 470, []) :: ((((((((((([(11, 470, [])] ++ [(11, 4700, [])]) ++ [(11, 4700, [])]) ++ [(11, 470, [])]) ++ [(11, 470, [])]) ++ [(11, 1200, [])]) ++ [(11, 2400, [])]) ++ [(11, 2400, [])]) ++ [(11, 2400, [])]) ++ [(11, 600, [])]) ++ [(12, 2400, [])]) ++ [(11, 8, [])]))) rfl ?_
  refine s_aload_n dX10_init_129 rfl rfl ?_
  refine s_sipush dX10_init_130 (by decide) ?_
  refine q_newI (N := 1200) dX10_init_133 am_wai (by decide) hb (i := 15) (by simp only [List.length_cons, List.length_nil, List.length_append, List.length_replicate, List.length_map, List.length_range, zX0_len, zX1_len, zX5_len, zX8_len, zX3_len, zX6_len, zX7_len, zX4_len, zX2_len, zX9_len]) (Nat.le_of_ble_eq_true rfl) hz (bc2 := 6) (bs2 := 500) rfl rfl (xs2 := ((10, 0, [b + 1 + 1, b + 2 + 1, b + 3 + 1, b + 4 + 1, b + 5 + 1, b + 6 + 1, b + 7 + 1, 0, 0, 0, 0, 0, b + 8 + 1, b + 9 + 1, b + 10 + 1, b + 11 + 1, b + 12 + 1, b + 13 + 1, b + 14 + 1]) :: (11, 470, []) :: (11, 470, []) :: (((((((((((([(11, 470, [])] ++ [(11, 4700, [])]) ++ [(11, 4700, [])]) ++ [(11, 470, [])]) ++ [(11, 470, [])]) ++ [(11, 1200, [])]) ++ [(11, 2400, [])]) ++ [(11, 2400, [])]) ++ [(11, 2400, [])]) ++ [(11, 600, [])]) ++ [(12, 2400, [])]) ++ [(11, 8, [])]) ++ [(11, 1200, [])]))) rfl ?_
  refine q_putF dX10_init_135 flX10_53 hb (i := 0) rfl rfl rfl rfl (fun _ => ⟨rfl, rfl⟩) rfl rfl (xs2 := ((10, 0, [b + 1 + 1, b + 2 + 1, b + 3 + 1, b + 4 + 1, b + 5 + 1, b + 6 + 1, b + 7 + 1, 0, 0, 0, 0, 0, b + 8 + 1, b + 9 + 1, b + 10 + 1, b + 11 + 1, b + 12 + 1, b + 13 + 1, b + 14 + 1, b + 15 + 1]) :: (11, 470, []) :: (11, 470, []) :: (((((((((((([(11, 470, [])] ++ [(11, 4700, [])]) ++ [(11, 4700, [])]) ++ [(11, 470, [])]) ++ [(11, 470, [])]) ++ [(11, 1200, [])]) ++ [(11, 2400, [])]) ++ [(11, 2400, [])]) ++ [(11, 2400, [])]) ++ [(11, 600, [])]) ++ [(12, 2400, [])]) ++ [(11, 8, [])]) ++ [(11, 1200, [])]))) rfl ?_
  refine s_aload_n dX10_init_138 rfl rfl ?_
  refine s_sipush dX10_init_139 (by decide) ?_
  refine q_newI (N := 160) dX10_init_142 am_wai (by decide) hb (i := 16) (by simp only [List.length_cons, List.length_nil, List.length_append, List.length_replicate, List.length_map, List.length_range, zX0_len, zX1_len, zX5_len, zX8_len, zX3_len, zX6_len, zX7_len, zX4_len, zX2_len, zX9_len]) (Nat.le_of_ble_eq_true rfl) hz (bc2 := 5) (bs2 := 340) rfl rfl (xs2 := ((10, 0, [b + 1 + 1, b + 2 + 1, b + 3 + 1, b + 4 + 1, b + 5 + 1, b + 6 + 1, b + 7 + 1, 0, 0, 0, 0, 0, b + 8 + 1, b + 9 + 1, b + 10 + 1, b + 11 + 1, b + 12 + 1, b + 13 + 1, b + 14 + 1, b + 15 + 1]) :: (11, 470, []) :: (11, 470, []) :: ((((((((((((([(11, 470, [])] ++ [(11, 4700, [])]) ++ [(11, 4700, [])]) ++ [(11, 470, [])]) ++ [(11, 470, [])]) ++ [(11, 1200, [])]) ++ [(11, 2400, [])]) ++ [(11, 2400, [])]) ++ [(11, 2400, [])]) ++ [(11, 600, [])]) ++ [(12, 2400, [])]) ++ [(11, 8, [])]) ++ [(11, 1200, [])]) ++ [(11, 160, [])]))) rfl ?_
  refine q_putF dX10_init_144 flX10_56 hb (i := 0) rfl rfl rfl rfl (fun _ => ⟨rfl, rfl⟩) rfl rfl (xs2 := ((10, 0, [b + 1 + 1, b + 2 + 1, b + 3 + 1, b + 4 + 1, b + 5 + 1, b + 6 + 1, b + 7 + 1, 0, 0, 0, 0, 0, b + 8 + 1, b + 9 + 1, b + 10 + 1, b + 11 + 1, b + 12 + 1, b + 13 + 1, b + 14 + 1, b + 15 + 1, 0, b + 16 + 1]) :: (11, 470, []) :: (11, 470, []) :: ((((((((((((([(11, 470, [])] ++ [(11, 4700, [])]) ++ [(11, 4700, [])]) ++ [(11, 470, [])]) ++ [(11, 470, [])]) ++ [(11, 1200, [])]) ++ [(11, 2400, [])]) ++ [(11, 2400, [])]) ++ [(11, 2400, [])]) ++ [(11, 600, [])]) ++ [(12, 2400, [])]) ++ [(11, 8, [])]) ++ [(11, 1200, [])]) ++ [(11, 160, [])]))) rfl ?_
  refine s_aload_n dX10_init_147 rfl rfl ?_
  refine s_bipush dX10_init_148 (by decide) ?_
  refine q_newI (N := 60) dX10_init_150 am_wai (by decide) hb (i := 17) (by simp only [List.length_cons, List.length_nil, List.length_append, List.length_replicate, List.length_map, List.length_range, zX0_len, zX1_len, zX5_len, zX8_len, zX3_len, zX6_len, zX7_len, zX4_len, zX2_len, zX9_len]) (Nat.le_of_ble_eq_true rfl) hz (bc2 := 4) (bs2 := 280) rfl rfl (xs2 := ((10, 0, [b + 1 + 1, b + 2 + 1, b + 3 + 1, b + 4 + 1, b + 5 + 1, b + 6 + 1, b + 7 + 1, 0, 0, 0, 0, 0, b + 8 + 1, b + 9 + 1, b + 10 + 1, b + 11 + 1, b + 12 + 1, b + 13 + 1, b + 14 + 1, b + 15 + 1, 0, b + 16 + 1]) :: (11, 470, []) :: (11, 470, []) :: (((((((((((((([(11, 470, [])] ++ [(11, 4700, [])]) ++ [(11, 4700, [])]) ++ [(11, 470, [])]) ++ [(11, 470, [])]) ++ [(11, 1200, [])]) ++ [(11, 2400, [])]) ++ [(11, 2400, [])]) ++ [(11, 2400, [])]) ++ [(11, 600, [])]) ++ [(12, 2400, [])]) ++ [(11, 8, [])]) ++ [(11, 1200, [])]) ++ [(11, 160, [])]) ++ [(11, 60, [])]))) rfl ?_
  refine q_putF dX10_init_152 flX10_59 hb (i := 0) rfl rfl rfl rfl (fun _ => ⟨rfl, rfl⟩) rfl rfl (xs2 := ((10, 0, [b + 1 + 1, b + 2 + 1, b + 3 + 1, b + 4 + 1, b + 5 + 1, b + 6 + 1, b + 7 + 1, 0, 0, 0, 0, 0, b + 8 + 1, b + 9 + 1, b + 10 + 1, b + 11 + 1, b + 12 + 1, b + 13 + 1, b + 14 + 1, b + 15 + 1, 0, b + 16 + 1, b + 17 + 1]) :: (11, 470, []) :: (11, 470, []) :: (((((((((((((([(11, 470, [])] ++ [(11, 4700, [])]) ++ [(11, 4700, [])]) ++ [(11, 470, [])]) ++ [(11, 470, [])]) ++ [(11, 1200, [])]) ++ [(11, 2400, [])]) ++ [(11, 2400, [])]) ++ [(11, 2400, [])]) ++ [(11, 600, [])]) ++ [(12, 2400, [])]) ++ [(11, 8, [])]) ++ [(11, 1200, [])]) ++ [(11, 160, [])]) ++ [(11, 60, [])]))) rfl ?_
  refine s_aload_n dX10_init_155 rfl rfl ?_
  refine s_iconst dX10_init_156 (by decide) ?_
  refine q_putI dX10_init_157 flX10_62 hb (i := 0) rfl rfl rfl rfl (Or.inl rfl) (μ2 := (am_st μ b (am_up (μ b) 27 (-1)))) rfl ?_
  have hz := q_hz (j := 0) (i1 := 1) (f := am_up (μ b) 27 (-1)) hz (by decide) (by decide)
  refine s_aload_n dX10_init_160 rfl rfl ?_
  refine s_bipush dX10_init_161 (by decide) ?_
  refine q_newI (N := 60) dX10_init_163 am_wai (by decide) hb (i := 18) (by simp only [List.length_cons, List.length_nil, List.length_append, List.length_replicate, List.length_map, List.length_range, zX0_len, zX1_len, zX5_len, zX8_len, zX3_len, zX6_len, zX7_len, zX4_len, zX2_len, zX9_len]) (Nat.le_of_ble_eq_true rfl) hz (bc2 := 3) (bs2 := 220) rfl rfl (xs2 := ((10, 0, [b + 1 + 1, b + 2 + 1, b + 3 + 1, b + 4 + 1, b + 5 + 1, b + 6 + 1, b + 7 + 1, 0, 0, 0, 0, 0, b + 8 + 1, b + 9 + 1, b + 10 + 1, b + 11 + 1, b + 12 + 1, b + 13 + 1, b + 14 + 1, b + 15 + 1, 0, b + 16 + 1, b + 17 + 1]) :: (11, 470, []) :: (11, 470, []) :: ((((((((((((((([(11, 470, [])] ++ [(11, 4700, [])]) ++ [(11, 4700, [])]) ++ [(11, 470, [])]) ++ [(11, 470, [])]) ++ [(11, 1200, [])]) ++ [(11, 2400, [])]) ++ [(11, 2400, [])]) ++ [(11, 2400, [])]) ++ [(11, 600, [])]) ++ [(12, 2400, [])]) ++ [(11, 8, [])]) ++ [(11, 1200, [])]) ++ [(11, 160, [])]) ++ [(11, 60, [])]) ++ [(11, 60, [])]))) rfl ?_
  refine q_putF dX10_init_165 flX10_66 hb (i := 0) rfl rfl rfl rfl (fun _ => ⟨rfl, rfl⟩) rfl rfl (xs2 := ((10, 0, [b + 1 + 1, b + 2 + 1, b + 3 + 1, b + 4 + 1, b + 5 + 1, b + 6 + 1, b + 7 + 1, 0, 0, 0, 0, 0, b + 8 + 1, b + 9 + 1, b + 10 + 1, b + 11 + 1, b + 12 + 1, b + 13 + 1, b + 14 + 1, b + 15 + 1, 0, b + 16 + 1, b + 17 + 1, 0, 0, 0, 0, 0, b + 18 + 1]) :: (11, 470, []) :: (11, 470, []) :: ((((((((((((((([(11, 470, [])] ++ [(11, 4700, [])]) ++ [(11, 4700, [])]) ++ [(11, 470, [])]) ++ [(11, 470, [])]) ++ [(11, 1200, [])]) ++ [(11, 2400, [])]) ++ [(11, 2400, [])]) ++ [(11, 2400, [])]) ++ [(11, 600, [])]) ++ [(12, 2400, [])]) ++ [(11, 8, [])]) ++ [(11, 1200, [])]) ++ [(11, 160, [])]) ++ [(11, 60, [])]) ++ [(11, 60, [])]))) rfl ?_
  refine s_aload_n dX10_init_168 rfl rfl ?_
  refine s_bipush dX10_init_169 (by decide) ?_
  refine q_newI (N := 60) dX10_init_171 am_wai (by decide) hb (i := 19) (by simp only [List.length_cons, List.length_nil, List.length_append, List.length_replicate, List.length_map, List.length_range, zX0_len, zX1_len, zX5_len, zX8_len, zX3_len, zX6_len, zX7_len, zX4_len, zX2_len, zX9_len]) (Nat.le_of_ble_eq_true rfl) hz (bc2 := 2) (bs2 := 160) rfl rfl (xs2 := ((10, 0, [b + 1 + 1, b + 2 + 1, b + 3 + 1, b + 4 + 1, b + 5 + 1, b + 6 + 1, b + 7 + 1, 0, 0, 0, 0, 0, b + 8 + 1, b + 9 + 1, b + 10 + 1, b + 11 + 1, b + 12 + 1, b + 13 + 1, b + 14 + 1, b + 15 + 1, 0, b + 16 + 1, b + 17 + 1, 0, 0, 0, 0, 0, b + 18 + 1]) :: (11, 470, []) :: (11, 470, []) :: (((((((((((((((([(11, 470, [])] ++ [(11, 4700, [])]) ++ [(11, 4700, [])]) ++ [(11, 470, [])]) ++ [(11, 470, [])]) ++ [(11, 1200, [])]) ++ [(11, 2400, [])]) ++ [(11, 2400, [])]) ++ [(11, 2400, [])]) ++ [(11, 600, [])]) ++ [(12, 2400, [])]) ++ [(11, 8, [])]) ++ [(11, 1200, [])]) ++ [(11, 160, [])]) ++ [(11, 60, [])]) ++ [(11, 60, [])]) ++ [(11, 60, [])]))) rfl ?_
  refine q_putF dX10_init_173 flX10_69 hb (i := 0) rfl rfl rfl rfl (fun _ => ⟨rfl, rfl⟩) rfl rfl (xs2 := ((10, 0, [b + 1 + 1, b + 2 + 1, b + 3 + 1, b + 4 + 1, b + 5 + 1, b + 6 + 1, b + 7 + 1, 0, 0, 0, 0, 0, b + 8 + 1, b + 9 + 1, b + 10 + 1, b + 11 + 1, b + 12 + 1, b + 13 + 1, b + 14 + 1, b + 15 + 1, 0, b + 16 + 1, b + 17 + 1, 0, 0, 0, 0, 0, b + 18 + 1, b + 19 + 1]) :: (11, 470, []) :: (11, 470, []) :: (((((((((((((((([(11, 470, [])] ++ [(11, 4700, [])]) ++ [(11, 4700, [])]) ++ [(11, 470, [])]) ++ [(11, 470, [])]) ++ [(11, 1200, [])]) ++ [(11, 2400, [])]) ++ [(11, 2400, [])]) ++ [(11, 2400, [])]) ++ [(11, 600, [])]) ++ [(12, 2400, [])]) ++ [(11, 8, [])]) ++ [(11, 1200, [])]) ++ [(11, 160, [])]) ++ [(11, 60, [])]) ++ [(11, 60, [])]) ++ [(11, 60, [])]))) rfl ?_
  refine s_aload_n dX10_init_176 rfl rfl ?_
  refine s_bipush dX10_init_177 (by decide) ?_
  refine q_newI (N := 60) dX10_init_179 am_wai (by decide) hb (i := 20) (by simp only [List.length_cons, List.length_nil, List.length_append, List.length_replicate, List.length_map, List.length_range, zX0_len, zX1_len, zX5_len, zX8_len, zX3_len, zX6_len, zX7_len, zX4_len, zX2_len, zX9_len]) (Nat.le_of_ble_eq_true rfl) hz (bc2 := 1) (bs2 := 100) rfl rfl (xs2 := ((10, 0, [b + 1 + 1, b + 2 + 1, b + 3 + 1, b + 4 + 1, b + 5 + 1, b + 6 + 1, b + 7 + 1, 0, 0, 0, 0, 0, b + 8 + 1, b + 9 + 1, b + 10 + 1, b + 11 + 1, b + 12 + 1, b + 13 + 1, b + 14 + 1, b + 15 + 1, 0, b + 16 + 1, b + 17 + 1, 0, 0, 0, 0, 0, b + 18 + 1, b + 19 + 1]) :: (11, 470, []) :: (11, 470, []) :: ((((((((((((((((([(11, 470, [])] ++ [(11, 4700, [])]) ++ [(11, 4700, [])]) ++ [(11, 470, [])]) ++ [(11, 470, [])]) ++ [(11, 1200, [])]) ++ [(11, 2400, [])]) ++ [(11, 2400, [])]) ++ [(11, 2400, [])]) ++ [(11, 600, [])]) ++ [(12, 2400, [])]) ++ [(11, 8, [])]) ++ [(11, 1200, [])]) ++ [(11, 160, [])]) ++ [(11, 60, [])]) ++ [(11, 60, [])]) ++ [(11, 60, [])]) ++ [(11, 60, [])]))) rfl ?_
  refine q_putF dX10_init_181 flX10_72 hb (i := 0) rfl rfl rfl rfl (fun _ => ⟨rfl, rfl⟩) rfl rfl (xs2 := ((10, 0, [b + 1 + 1, b + 2 + 1, b + 3 + 1, b + 4 + 1, b + 5 + 1, b + 6 + 1, b + 7 + 1, 0, 0, 0, 0, 0, b + 8 + 1, b + 9 + 1, b + 10 + 1, b + 11 + 1, b + 12 + 1, b + 13 + 1, b + 14 + 1, b + 15 + 1, 0, b + 16 + 1, b + 17 + 1, 0, 0, 0, 0, 0, b + 18 + 1, b + 19 + 1, b + 20 + 1]) :: (11, 470, []) :: (11, 470, []) :: ((((((((((((((((([(11, 470, [])] ++ [(11, 4700, [])]) ++ [(11, 4700, [])]) ++ [(11, 470, [])]) ++ [(11, 470, [])]) ++ [(11, 1200, [])]) ++ [(11, 2400, [])]) ++ [(11, 2400, [])]) ++ [(11, 2400, [])]) ++ [(11, 600, [])]) ++ [(12, 2400, [])]) ++ [(11, 8, [])]) ++ [(11, 1200, [])]) ++ [(11, 160, [])]) ++ [(11, 60, [])]) ++ [(11, 60, [])]) ++ [(11, 60, [])]) ++ [(11, 60, [])]))) rfl ?_
  refine s_aload_n dX10_init_184 rfl rfl ?_
  refine s_bipush dX10_init_185 (by decide) ?_
  refine q_newI (N := 100) dX10_init_187 am_wai (by decide) hb (i := 21) (by simp only [List.length_cons, List.length_nil, List.length_append, List.length_replicate, List.length_map, List.length_range, zX0_len, zX1_len, zX5_len, zX8_len, zX3_len, zX6_len, zX7_len, zX4_len, zX2_len, zX9_len]) (Nat.le_of_ble_eq_true rfl) hz (bc2 := 0) (bs2 := 0) rfl rfl (xs2 := ((10, 0, [b + 1 + 1, b + 2 + 1, b + 3 + 1, b + 4 + 1, b + 5 + 1, b + 6 + 1, b + 7 + 1, 0, 0, 0, 0, 0, b + 8 + 1, b + 9 + 1, b + 10 + 1, b + 11 + 1, b + 12 + 1, b + 13 + 1, b + 14 + 1, b + 15 + 1, 0, b + 16 + 1, b + 17 + 1, 0, 0, 0, 0, 0, b + 18 + 1, b + 19 + 1, b + 20 + 1]) :: (11, 470, []) :: (11, 470, []) :: (((((((((((((((((([(11, 470, [])] ++ [(11, 4700, [])]) ++ [(11, 4700, [])]) ++ [(11, 470, [])]) ++ [(11, 470, [])]) ++ [(11, 1200, [])]) ++ [(11, 2400, [])]) ++ [(11, 2400, [])]) ++ [(11, 2400, [])]) ++ [(11, 600, [])]) ++ [(12, 2400, [])]) ++ [(11, 8, [])]) ++ [(11, 1200, [])]) ++ [(11, 160, [])]) ++ [(11, 60, [])]) ++ [(11, 60, [])]) ++ [(11, 60, [])]) ++ [(11, 60, [])]) ++ [(11, 100, [])]))) rfl ?_
  refine q_putF dX10_init_189 flX10_75 hb (i := 0) rfl rfl rfl rfl (fun _ => ⟨rfl, rfl⟩) rfl rfl (xs2 := ((10, 0, [b + 1 + 1, b + 2 + 1, b + 3 + 1, b + 4 + 1, b + 5 + 1, b + 6 + 1, b + 7 + 1, 0, 0, 0, 0, 0, b + 8 + 1, b + 9 + 1, b + 10 + 1, b + 11 + 1, b + 12 + 1, b + 13 + 1, b + 14 + 1, b + 15 + 1, 0, b + 16 + 1, b + 17 + 1, 0, 0, 0, 0, 0, b + 18 + 1, b + 19 + 1, b + 20 + 1, b + 21 + 1]) :: (11, 470, []) :: (11, 470, []) :: (((((((((((((((((([(11, 470, [])] ++ [(11, 4700, [])]) ++ [(11, 4700, [])]) ++ [(11, 470, [])]) ++ [(11, 470, [])]) ++ [(11, 1200, [])]) ++ [(11, 2400, [])]) ++ [(11, 2400, [])]) ++ [(11, 2400, [])]) ++ [(11, 600, [])]) ++ [(12, 2400, [])]) ++ [(11, 8, [])]) ++ [(11, 1200, [])]) ++ [(11, 160, [])]) ++ [(11, 60, [])]) ++ [(11, 60, [])]) ++ [(11, 60, [])]) ++ [(11, 60, [])]) ++ [(11, 100, [])]))) rfl ?_
  refine s_iconst dX10_init_192 (by decide) ?_
  refine s_istore_n dX10_init_193 rfl (by decide) (L' := [vR b, vI 0, vU]) rfl ?_
  refine s_iload_n dX10_init_194 rfl rfl ?_
  refine s_iconst dX10_init_195 (by decide) ?_
  refine s_icmp_ge dX10_init_196 (tgt := 261) (by decide) (fun cc => absurd cc (by decide)) (fun _ => ?_)
  refine s_sipush dX10_init_199 (by decide) ?_
  refine s_bipush dX10_init_202 (by decide) ?_
  refine s_iload_n dX10_init_204 rfl rfl ?_
  refine s_imul (z := 0) dX10_init_205 (by decide) ?_
  refine s_iadd (z := 410) dX10_init_206 (by decide) ?_
  refine s_istore_n dX10_init_207 rfl (by decide) (L' := [vR b, vI 0, vI 410]) rfl ?_
  refine s_aload_n dX10_init_208 rfl rfl ?_
  refine q_getR (r := (b + 1)) dX10_init_209 flX10_9 hb (i := 0) rfl rfl rfl rfl ?_
  refine s_iload_n dX10_init_212 rfl rfl ?_
  refine s_bipush dX10_init_213 (by decide) ?_
  obtain ⟨m1, hm1⟩ : ∃ x : am_M, x = (am_st (am_st μ b (am_up (μ b) 27 (-1))) (b + 1) (am_up ((am_st μ b (am_up (μ b) 27 (-1))) (b + 1)) 410 100)) := ⟨_, rfl⟩
  refine q_iast dX10_init_215 hb (i := 1) rfl rfl (by decide) (by decide) (μ2 := m1) hm1.symm ?_
  have hz : ∀ k, b + 2 ≤ k → m1 k = am_m0 := by rw [hm1]; exact q_hz (j := 1) hz (by decide) (by decide)
  refine s_aload_n dX10_init_216 rfl rfl ?_
  refine q_getR (r := (b + 1)) dX10_init_217 flX10_9 hb (i := 0) rfl rfl rfl rfl ?_
  refine s_iload_n dX10_init_220 rfl rfl ?_
  refine s_iconst dX10_init_221 (by decide) ?_
  refine s_iadd (z := 413) dX10_init_222 (by decide) ?_
  refine s_iconst dX10_init_223 (by decide) ?_
  obtain ⟨m2, hm2⟩ : ∃ x : am_M, x = (am_st m1 (b + 1) (am_up (m1 (b + 1)) 413 (-1))) := ⟨_, rfl⟩
  refine q_iast dX10_init_224 hb (i := 1) rfl rfl (by decide) (by decide) (μ2 := m2) hm2.symm ?_
  have hz : ∀ k, b + 2 ≤ k → m2 k = am_m0 := by rw [hm2]; exact q_hz (j := 1) hz (by decide) (by decide)
  refine s_aload_n dX10_init_225 rfl rfl ?_
  refine q_getR (r := (b + 1)) dX10_init_226 flX10_9 hb (i := 0) rfl rfl rfl rfl ?_
  refine s_iload_n dX10_init_229 rfl rfl ?_
  refine s_iconst dX10_init_230 (by decide) ?_
  refine s_iadd (z := 414) dX10_init_231 (by decide) ?_
  refine s_bipush dX10_init_232 (by decide) ?_
  obtain ⟨m3, hm3⟩ : ∃ x : am_M, x = (am_st m2 (b + 1) (am_up (m2 (b + 1)) 414 100)) := ⟨_, rfl⟩
  refine q_iast dX10_init_234 hb (i := 1) rfl rfl (by decide) (by decide) (μ2 := m3) hm3.symm ?_
  have hz : ∀ k, b + 2 ≤ k → m3 k = am_m0 := by rw [hm3]; exact q_hz (j := 1) hz (by decide) (by decide)
  refine s_aload_n dX10_init_235 rfl rfl ?_
  refine q_getR (r := (b + 1)) dX10_init_236 flX10_9 hb (i := 0) rfl rfl rfl rfl ?_
  refine s_iload_n dX10_init_239 rfl rfl ?_
  refine s_iconst dX10_init_240 (by decide) ?_
  refine s_iadd (z := 415) dX10_init_241 (by decide) ?_
  refine s_bipush dX10_init_242 (by decide) ?_
  obtain ⟨m4, hm4⟩ : ∃ x : am_M, x = (am_st m3 (b + 1) (am_up (m3 (b + 1)) 415 50)) := ⟨_, rfl⟩
  refine q_iast dX10_init_244 hb (i := 1) rfl rfl (by decide) (by decide) (μ2 := m4) hm4.symm ?_
  have hz : ∀ k, b + 2 ≤ k → m4 k = am_m0 := by rw [hm4]; exact q_hz (j := 1) hz (by decide) (by decide)
  refine s_aload_n dX10_init_245 rfl rfl ?_
  refine q_getR (r := (b + 1)) dX10_init_246 flX10_9 hb (i := 0) rfl rfl rfl rfl ?_
  refine s_iload_n dX10_init_249 rfl rfl ?_
  refine s_bipush dX10_init_250 (by decide) ?_
  refine s_iadd (z := 416) dX10_init_252 (by decide) ?_
  refine s_iconst dX10_init_253 (by decide) ?_
  obtain ⟨m5, hm5⟩ : ∃ x : am_M, x = (am_st m4 (b + 1) (am_up (m4 (b + 1)) 416 5)) := ⟨_, rfl⟩
  refine q_iast dX10_init_254 hb (i := 1) rfl rfl (by decide) (by decide) (μ2 := m5) hm5.symm ?_
  have hz : ∀ k, b + 2 ≤ k → m5 k = am_m0 := by rw [hm5]; exact q_hz (j := 1) hz (by decide) (by decide)
  refine s_iinc (y := 1) dX10_init_255 rfl (by decide) (by decide) (L' := [vR b, vI 1, vI 410]) rfl ?_
  refine s_goto dX10_init_258 (tgt := 194) (by decide) ?_
  refine s_iload_n dX10_init_194 rfl rfl ?_
  refine s_iconst dX10_init_195 (by decide) ?_
  refine s_icmp_ge dX10_init_196 (tgt := 261) (by decide) (fun cc => absurd cc (by decide)) (fun _ => ?_)
  refine s_sipush dX10_init_199 (by decide) ?_
  refine s_bipush dX10_init_202 (by decide) ?_
  refine s_iload_n dX10_init_204 rfl rfl ?_
  refine s_imul (z := 7) dX10_init_205 (by decide) ?_
  refine s_iadd (z := 417) dX10_init_206 (by decide) ?_
  refine s_istore_n dX10_init_207 rfl (by decide) (L' := [vR b, vI 1, vI 417]) rfl ?_
  refine s_aload_n dX10_init_208 rfl rfl ?_
  refine q_getR (r := (b + 1)) dX10_init_209 flX10_9 hb (i := 0) rfl rfl rfl rfl ?_
  refine s_iload_n dX10_init_212 rfl rfl ?_
  refine s_bipush dX10_init_213 (by decide) ?_
  obtain ⟨m6, hm6⟩ : ∃ x : am_M, x = (am_st m5 (b + 1) (am_up (m5 (b + 1)) 417 100)) := ⟨_, rfl⟩
  refine q_iast dX10_init_215 hb (i := 1) rfl rfl (by decide) (by decide) (μ2 := m6) hm6.symm ?_
  have hz : ∀ k, b + 2 ≤ k → m6 k = am_m0 := by rw [hm6]; exact q_hz (j := 1) hz (by decide) (by decide)
  refine s_aload_n dX10_init_216 rfl rfl ?_
  refine q_getR (r := (b + 1)) dX10_init_217 flX10_9 hb (i := 0) rfl rfl rfl rfl ?_
  refine s_iload_n dX10_init_220 rfl rfl ?_
  refine s_iconst dX10_init_221 (by decide) ?_
  refine s_iadd (z := 420) dX10_init_222 (by decide) ?_
  refine s_iconst dX10_init_223 (by decide) ?_
  obtain ⟨m7, hm7⟩ : ∃ x : am_M, x = (am_st m6 (b + 1) (am_up (m6 (b + 1)) 420 (-1))) := ⟨_, rfl⟩
  refine q_iast dX10_init_224 hb (i := 1) rfl rfl (by decide) (by decide) (μ2 := m7) hm7.symm ?_
  have hz : ∀ k, b + 2 ≤ k → m7 k = am_m0 := by rw [hm7]; exact q_hz (j := 1) hz (by decide) (by decide)
  refine s_aload_n dX10_init_225 rfl rfl ?_
  refine q_getR (r := (b + 1)) dX10_init_226 flX10_9 hb (i := 0) rfl rfl rfl rfl ?_
  refine s_iload_n dX10_init_229 rfl rfl ?_
  refine s_iconst dX10_init_230 (by decide) ?_
  refine s_iadd (z := 421) dX10_init_231 (by decide) ?_
  refine s_bipush dX10_init_232 (by decide) ?_
  obtain ⟨m8, hm8⟩ : ∃ x : am_M, x = (am_st m7 (b + 1) (am_up (m7 (b + 1)) 421 100)) := ⟨_, rfl⟩
  refine q_iast dX10_init_234 hb (i := 1) rfl rfl (by decide) (by decide) (μ2 := m8) hm8.symm ?_
  have hz : ∀ k, b + 2 ≤ k → m8 k = am_m0 := by rw [hm8]; exact q_hz (j := 1) hz (by decide) (by decide)
  refine s_aload_n dX10_init_235 rfl rfl ?_
  refine q_getR (r := (b + 1)) dX10_init_236 flX10_9 hb (i := 0) rfl rfl rfl rfl ?_
  refine s_iload_n dX10_init_239 rfl rfl ?_
  refine s_iconst dX10_init_240 (by decide) ?_
  refine s_iadd (z := 422) dX10_init_241 (by decide) ?_
  refine s_bipush dX10_init_242 (by decide) ?_
  obtain ⟨m9, hm9⟩ : ∃ x : am_M, x = (am_st m8 (b + 1) (am_up (m8 (b + 1)) 422 50)) := ⟨_, rfl⟩
  refine q_iast dX10_init_244 hb (i := 1) rfl rfl (by decide) (by decide) (μ2 := m9) hm9.symm ?_
  have hz : ∀ k, b + 2 ≤ k → m9 k = am_m0 := by rw [hm9]; exact q_hz (j := 1) hz (by decide) (by decide)
  refine s_aload_n dX10_init_245 rfl rfl ?_
  refine q_getR (r := (b + 1)) dX10_init_246 flX10_9 hb (i := 0) rfl rfl rfl rfl ?_
  refine s_iload_n dX10_init_249 rfl rfl ?_
  refine s_bipush dX10_init_250 (by decide) ?_
  refine s_iadd (z := 423) dX10_init_252 (by decide) ?_
  refine s_iconst dX10_init_253 (by decide) ?_
  obtain ⟨m10, hm10⟩ : ∃ x : am_M, x = (am_st m9 (b + 1) (am_up (m9 (b + 1)) 423 5)) := ⟨_, rfl⟩
  refine q_iast dX10_init_254 hb (i := 1) rfl rfl (by decide) (by decide) (μ2 := m10) hm10.symm ?_
  have hz : ∀ k, b + 2 ≤ k → m10 k = am_m0 := by rw [hm10]; exact q_hz (j := 1) hz (by decide) (by decide)
  refine s_iinc (y := 2) dX10_init_255 rfl (by decide) (by decide) (L' := [vR b, vI 2, vI 417]) rfl ?_
  refine s_goto dX10_init_258 (tgt := 194) (by decide) ?_
  refine s_iload_n dX10_init_194 rfl rfl ?_
  refine s_iconst dX10_init_195 (by decide) ?_
  refine s_icmp_ge dX10_init_196 (tgt := 261) (by decide) (fun cc => absurd cc (by decide)) (fun _ => ?_)
  refine s_sipush dX10_init_199 (by decide) ?_
  refine s_bipush dX10_init_202 (by decide) ?_
  refine s_iload_n dX10_init_204 rfl rfl ?_
  refine s_imul (z := 14) dX10_init_205 (by decide) ?_
  refine s_iadd (z := 424) dX10_init_206 (by decide) ?_
  refine s_istore_n dX10_init_207 rfl (by decide) (L' := [vR b, vI 2, vI 424]) rfl ?_
  refine s_aload_n dX10_init_208 rfl rfl ?_
  refine q_getR (r := (b + 1)) dX10_init_209 flX10_9 hb (i := 0) rfl rfl rfl rfl ?_
  refine s_iload_n dX10_init_212 rfl rfl ?_
  refine s_bipush dX10_init_213 (by decide) ?_
  obtain ⟨m11, hm11⟩ : ∃ x : am_M, x = (am_st m10 (b + 1) (am_up (m10 (b + 1)) 424 100)) := ⟨_, rfl⟩
  refine q_iast dX10_init_215 hb (i := 1) rfl rfl (by decide) (by decide) (μ2 := m11) hm11.symm ?_
  have hz : ∀ k, b + 2 ≤ k → m11 k = am_m0 := by rw [hm11]; exact q_hz (j := 1) hz (by decide) (by decide)
  refine s_aload_n dX10_init_216 rfl rfl ?_
  refine q_getR (r := (b + 1)) dX10_init_217 flX10_9 hb (i := 0) rfl rfl rfl rfl ?_
  refine s_iload_n dX10_init_220 rfl rfl ?_
  refine s_iconst dX10_init_221 (by decide) ?_
  refine s_iadd (z := 427) dX10_init_222 (by decide) ?_
  refine s_iconst dX10_init_223 (by decide) ?_
  obtain ⟨m12, hm12⟩ : ∃ x : am_M, x = (am_st m11 (b + 1) (am_up (m11 (b + 1)) 427 (-1))) := ⟨_, rfl⟩
  refine q_iast dX10_init_224 hb (i := 1) rfl rfl (by decide) (by decide) (μ2 := m12) hm12.symm ?_
  have hz : ∀ k, b + 2 ≤ k → m12 k = am_m0 := by rw [hm12]; exact q_hz (j := 1) hz (by decide) (by decide)
  refine s_aload_n dX10_init_225 rfl rfl ?_
  refine q_getR (r := (b + 1)) dX10_init_226 flX10_9 hb (i := 0) rfl rfl rfl rfl ?_
  refine s_iload_n dX10_init_229 rfl rfl ?_
  refine s_iconst dX10_init_230 (by decide) ?_
  refine s_iadd (z := 428) dX10_init_231 (by decide) ?_
  refine s_bipush dX10_init_232 (by decide) ?_
  obtain ⟨m13, hm13⟩ : ∃ x : am_M, x = (am_st m12 (b + 1) (am_up (m12 (b + 1)) 428 100)) := ⟨_, rfl⟩
  refine q_iast dX10_init_234 hb (i := 1) rfl rfl (by decide) (by decide) (μ2 := m13) hm13.symm ?_
  have hz : ∀ k, b + 2 ≤ k → m13 k = am_m0 := by rw [hm13]; exact q_hz (j := 1) hz (by decide) (by decide)
  refine s_aload_n dX10_init_235 rfl rfl ?_
  refine q_getR (r := (b + 1)) dX10_init_236 flX10_9 hb (i := 0) rfl rfl rfl rfl ?_
  refine s_iload_n dX10_init_239 rfl rfl ?_
  refine s_iconst dX10_init_240 (by decide) ?_
  refine s_iadd (z := 429) dX10_init_241 (by decide) ?_
  refine s_bipush dX10_init_242 (by decide) ?_
  obtain ⟨m14, hm14⟩ : ∃ x : am_M, x = (am_st m13 (b + 1) (am_up (m13 (b + 1)) 429 50)) := ⟨_, rfl⟩
  refine q_iast dX10_init_244 hb (i := 1) rfl rfl (by decide) (by decide) (μ2 := m14) hm14.symm ?_
  have hz : ∀ k, b + 2 ≤ k → m14 k = am_m0 := by rw [hm14]; exact q_hz (j := 1) hz (by decide) (by decide)
  refine s_aload_n dX10_init_245 rfl rfl ?_
  refine q_getR (r := (b + 1)) dX10_init_246 flX10_9 hb (i := 0) rfl rfl rfl rfl ?_
  refine s_iload_n dX10_init_249 rfl rfl ?_
  refine s_bipush dX10_init_250 (by decide) ?_
  refine s_iadd (z := 430) dX10_init_252 (by decide) ?_
  refine s_iconst dX10_init_253 (by decide) ?_
  obtain ⟨m15, hm15⟩ : ∃ x : am_M, x = (am_st m14 (b + 1) (am_up (m14 (b + 1)) 430 5)) := ⟨_, rfl⟩
  refine q_iast dX10_init_254 hb (i := 1) rfl rfl (by decide) (by decide) (μ2 := m15) hm15.symm ?_
  have hz : ∀ k, b + 2 ≤ k → m15 k = am_m0 := by rw [hm15]; exact q_hz (j := 1) hz (by decide) (by decide)
  refine s_iinc (y := 3) dX10_init_255 rfl (by decide) (by decide) (L' := [vR b, vI 3, vI 424]) rfl ?_
  refine s_goto dX10_init_258 (tgt := 194) (by decide) ?_
  refine s_iload_n dX10_init_194 rfl rfl ?_
  refine s_iconst dX10_init_195 (by decide) ?_
  refine s_icmp_ge dX10_init_196 (tgt := 261) (by decide) (fun cc => absurd cc (by decide)) (fun _ => ?_)
  refine s_sipush dX10_init_199 (by decide) ?_
  refine s_bipush dX10_init_202 (by decide) ?_
  refine s_iload_n dX10_init_204 rfl rfl ?_
  refine s_imul (z := 21) dX10_init_205 (by decide) ?_
  refine s_iadd (z := 431) dX10_init_206 (by decide) ?_
  refine s_istore_n dX10_init_207 rfl (by decide) (L' := [vR b, vI 3, vI 431]) rfl ?_
  refine s_aload_n dX10_init_208 rfl rfl ?_
  refine q_getR (r := (b + 1)) dX10_init_209 flX10_9 hb (i := 0) rfl rfl rfl rfl ?_
  refine s_iload_n dX10_init_212 rfl rfl ?_
  refine s_bipush dX10_init_213 (by decide) ?_
  obtain ⟨m16, hm16⟩ : ∃ x : am_M, x = (am_st m15 (b + 1) (am_up (m15 (b + 1)) 431 100)) := ⟨_, rfl⟩
  refine q_iast dX10_init_215 hb (i := 1) rfl rfl (by decide) (by decide) (μ2 := m16) hm16.symm ?_
  have hz : ∀ k, b + 2 ≤ k → m16 k = am_m0 := by rw [hm16]; exact q_hz (j := 1) hz (by decide) (by decide)
  refine s_aload_n dX10_init_216 rfl rfl ?_
  refine q_getR (r := (b + 1)) dX10_init_217 flX10_9 hb (i := 0) rfl rfl rfl rfl ?_
  refine s_iload_n dX10_init_220 rfl rfl ?_
  refine s_iconst dX10_init_221 (by decide) ?_
  refine s_iadd (z := 434) dX10_init_222 (by decide) ?_
  refine s_iconst dX10_init_223 (by decide) ?_
  obtain ⟨m17, hm17⟩ : ∃ x : am_M, x = (am_st m16 (b + 1) (am_up (m16 (b + 1)) 434 (-1))) := ⟨_, rfl⟩
  refine q_iast dX10_init_224 hb (i := 1) rfl rfl (by decide) (by decide) (μ2 := m17) hm17.symm ?_
  have hz : ∀ k, b + 2 ≤ k → m17 k = am_m0 := by rw [hm17]; exact q_hz (j := 1) hz (by decide) (by decide)
  refine s_aload_n dX10_init_225 rfl rfl ?_
  refine q_getR (r := (b + 1)) dX10_init_226 flX10_9 hb (i := 0) rfl rfl rfl rfl ?_
  refine s_iload_n dX10_init_229 rfl rfl ?_
  refine s_iconst dX10_init_230 (by decide) ?_
  refine s_iadd (z := 435) dX10_init_231 (by decide) ?_
  refine s_bipush dX10_init_232 (by decide) ?_
  obtain ⟨m18, hm18⟩ : ∃ x : am_M, x = (am_st m17 (b + 1) (am_up (m17 (b + 1)) 435 100)) := ⟨_, rfl⟩
  refine q_iast dX10_init_234 hb (i := 1) rfl rfl (by decide) (by decide) (μ2 := m18) hm18.symm ?_
  have hz : ∀ k, b + 2 ≤ k → m18 k = am_m0 := by rw [hm18]; exact q_hz (j := 1) hz (by decide) (by decide)
  refine s_aload_n dX10_init_235 rfl rfl ?_
  refine q_getR (r := (b + 1)) dX10_init_236 flX10_9 hb (i := 0) rfl rfl rfl rfl ?_
  refine s_iload_n dX10_init_239 rfl rfl ?_
  refine s_iconst dX10_init_240 (by decide) ?_
  refine s_iadd (z := 436) dX10_init_241 (by decide) ?_
  refine s_bipush dX10_init_242 (by decide) ?_
  obtain ⟨m19, hm19⟩ : ∃ x : am_M, x = (am_st m18 (b + 1) (am_up (m18 (b + 1)) 436 50)) := ⟨_, rfl⟩
  refine q_iast dX10_init_244 hb (i := 1) rfl rfl (by decide) (by decide) (μ2 := m19) hm19.symm ?_
  have hz : ∀ k, b + 2 ≤ k → m19 k = am_m0 := by rw [hm19]; exact q_hz (j := 1) hz (by decide) (by decide)
  refine s_aload_n dX10_init_245 rfl rfl ?_
  refine q_getR (r := (b + 1)) dX10_init_246 flX10_9 hb (i := 0) rfl rfl rfl rfl ?_
  refine s_iload_n dX10_init_249 rfl rfl ?_
  refine s_bipush dX10_init_250 (by decide) ?_
  refine s_iadd (z := 437) dX10_init_252 (by decide) ?_
  refine s_iconst dX10_init_253 (by decide) ?_
  obtain ⟨m20, hm20⟩ : ∃ x : am_M, x = (am_st m19 (b + 1) (am_up (m19 (b + 1)) 437 5)) := ⟨_, rfl⟩
  refine q_iast dX10_init_254 hb (i := 1) rfl rfl (by decide) (by decide) (μ2 := m20) hm20.symm ?_
  have hz : ∀ k, b + 2 ≤ k → m20 k = am_m0 := by rw [hm20]; exact q_hz (j := 1) hz (by decide) (by decide)
  refine s_iinc (y := 4) dX10_init_255 rfl (by decide) (by decide) (L' := [vR b, vI 4, vI 431]) rfl ?_
  refine s_goto dX10_init_258 (tgt := 194) (by decide) ?_
  refine s_iload_n dX10_init_194 rfl rfl ?_
  refine s_iconst dX10_init_195 (by decide) ?_
  refine s_icmp_ge dX10_init_196 (tgt := 261) (by decide) (fun _ => ?_) (fun cc => absurd cc (by decide))
  refine s_aload_n dX10_init_261 rfl rfl ?_
  refine q_getR (r := (b + 1)) dX10_init_262 flX10_9 hb (i := 0) rfl rfl rfl rfl ?_
  refine s_sipush dX10_init_265 (by decide) ?_
  refine s_bipush dX10_init_268 (by decide) ?_
  obtain ⟨m21, hm21⟩ : ∃ x : am_M, x = (am_st m20 (b + 1) (am_up (m20 (b + 1)) 465 100)) := ⟨_, rfl⟩
  refine q_iast dX10_init_270 hb (i := 1) rfl rfl (by decide) (by decide) (μ2 := m21) hm21.symm ?_
  have hz : ∀ k, b + 2 ≤ k → m21 k = am_m0 := by rw [hm21]; exact q_hz (j := 1) hz (by decide) (by decide)
  refine s_aload_n dX10_init_271 rfl rfl ?_
  refine q_getR (r := (b + 1)) dX10_init_272 flX10_9 hb (i := 0) rfl rfl rfl rfl ?_
  refine s_sipush dX10_init_275 (by decide) ?_
  refine s_bipush dX10_init_278 (by decide) ?_
  obtain ⟨m22, hm22⟩ : ∃ x : am_M, x = (am_st m21 (b + 1) (am_up (m21 (b + 1)) 466 10)) := ⟨_, rfl⟩
  refine q_iast dX10_init_280 hb (i := 1) rfl rfl (by decide) (by decide) (μ2 := m22) hm22.symm ?_
  have hz : ∀ k, b + 2 ≤ k → m22 k = am_m0 := by rw [hm22]; exact q_hz (j := 1) hz (by decide) (by decide)
  refine s_aload_n dX10_init_281 rfl rfl ?_
  refine q_getR (r := (b + 1)) dX10_init_282 flX10_9 hb (i := 0) rfl rfl rfl rfl ?_
  refine s_sipush dX10_init_285 (by decide) ?_
  refine s_bipush dX10_init_288 (by decide) ?_
  obtain ⟨m23, hm23⟩ : ∃ x : am_M, x = (am_st m22 (b + 1) (am_up (m22 (b + 1)) 467 10)) := ⟨_, rfl⟩
  refine q_iast dX10_init_290 hb (i := 1) rfl rfl (by decide) (by decide) (μ2 := m23) hm23.symm ?_
  have hz : ∀ k, b + 2 ≤ k → m23 k = am_m0 := by rw [hm23]; exact q_hz (j := 1) hz (by decide) (by decide)
  refine s_aload_n dX10_init_291 rfl rfl ?_
  refine q_getR (r := (b + 1)) dX10_init_292 flX10_9 hb (i := 0) rfl rfl rfl rfl ?_
  refine s_sipush dX10_init_295 (by decide) ?_
  refine s_bipush dX10_init_298 (by decide) ?_
  obtain ⟨m24, hm24⟩ : ∃ x : am_M, x = (am_st m23 (b + 1) (am_up (m23 (b + 1)) 468 25)) := ⟨_, rfl⟩
  refine q_iast dX10_init_300 hb (i := 1) rfl rfl (by decide) (by decide) (μ2 := m24) hm24.symm ?_
  have hz : ∀ k, b + 2 ≤ k → m24 k = am_m0 := by rw [hm24]; exact q_hz (j := 1) hz (by decide) (by decide)
  have hv0 : m24 = am_rm0 μ b := by
    rw [hm24, hm23, hm22, hm21, hm20, hm19, hm18, hm17, hm16, hm15, hm14, hm13, hm12, hm11, hm10, hm9, hm8, hm7, hm6, hm5, hm4, hm3, hm2, hm1]
    simp only [am_st_st, am_st_at]
    unfold am_rm0
    congr 1
    rw [show am_st μ b (am_up (μ b) 27 (-1)) (b + 1) = am_m0 from (if_neg (by omega)).trans (hz0 (b + 1) (Nat.le_refl _))]
    exact am_v0_is
  exact s_return dX10_init_301 rfl ⟨rfl, rfl, rfl, hv0⟩

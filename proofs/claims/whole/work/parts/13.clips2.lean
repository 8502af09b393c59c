/-! the class's clips: writes -/
/-- the clips alone have changed: n rows g -/
def ck_ (μ m : am_M) (n : Int) (g : Tb) : Prop := fr_ [5, 6] μ m ∧ m 5 1 = n ∧ eq_T n 8 (cg m) g
def opn_T (g : Tb) (p : Int) : Tb := fun i k => if i ≤ p then g i k else g (i - 1) k
def cpy_T (g : Tb) (a b : Int) : Tb := fun i k => if i = b then g a k else g i k
theorem eq_T.del {n w : Int} {a b : Tb} (h : eq_T n w a b) (p : Int) : eq_T (n - 1) w (del_T a p) (del_T b p) := fun i k h1 h2 h3 h4 => by
  unfold del_T
  split
  · exact h i k h1 (by omega) h3 h4
  · exact h (i + 1) k (by omega) (by omega) h3 h4
theorem eq_T.ins {n w : Int} {a b : Tb} (h : eq_T n w a b) {p : Int} (hp : 0 ≤ p) (hn : p ≤ n) {r s : Int → Int} (hr : ∀ k, 0 ≤ k → k < w → r k = s k) : eq_T (n + 1) w (ins_T a p r) (ins_T b p s) := fun i k h1 h2 h3 h4 => by
  unfold ins_T
  split
  · exact h i k h1 (by omega) h3 h4
  · split
    · exact hr k h3 h4
    · exact h (i - 1) k (by omega) (by omega) h3 h4
theorem eq_T.cpy {n w : Int} {g h : Tb} (e : eq_T n w g h) {a b : Int} (ha : 0 ≤ a ∧ a < n) : eq_T n w (cpy_T g a b) (cpy_T h a b) := fun i k h1 h2 h3 h4 => by
  unfold cpy_T
  split
  · exact e a k ha.1 ha.2 h3 h4
  · exact e i k h1 h2 h3 h4
/-- one step more, seen from the start -/
theorem ck_tr {μ m m2 : am_M} {n n2 : Int} {g g' h : Tb} (a : ck_ μ m n g) (b : ck_ m m2 n2 g') (e : eq_T n 8 (cg m) g → eq_T n2 8 g' h) : ck_ μ m2 n2 h := ⟨fr_tr a.1 b.1, b.2.1, b.2.2.tr (e a.2.2)⟩
theorem ck_at {μ m : am_M} {n : Int} {g : Tb} (a : ck_ μ m n g) {c k : Int} (h0 : 0 ≤ c ∧ c < n) (h1 : 0 ≤ k ∧ k < 8) : cg m c k = g c k := a.2.2 c k h0.1 h0.2 h1.1 h1.2
theorem ck_rf (μ : am_M) : ck_ μ μ (μ 5 1) (cg μ) := ⟨fr_rf, rfl, eq_T.rf⟩
theorem vc_X1_openRow_0 {x1 : Int} {μ : am_M} {Q : am_M → Prop} (h : (am_in (x1 * 8)) ∧ ((am_in ((x1 * 8) + 8)) ∧ ((am_in (μ 5 1 - x1)) ∧ ((am_in ((μ 5 1 - x1) * 8)) ∧ ((0 ≤ x1 * 8) ∧ (0 ≤ (x1 * 8) + 8) ∧ (0 ≤ (μ 5 1 - x1) * 8) ∧ (x1 * 8 + ((μ 5 1 - x1) * 8) ≤ 256) ∧ ((x1 * 8) + 8 + ((μ 5 1 - x1) * 8) ≤ 256) ∧ ((am_in (μ 5 1 + 1)) ∧ (Q (am_st (am_st μ 6 (am_cp (μ 6) (μ 6) (x1 * 8) ((x1 * 8) + 8) ((μ 5 1 - x1) * 8))) 5 (am_up ((am_st μ 6 (am_cp (μ 6) (μ 6) (x1 * 8) ((x1 * 8) + 8) ((μ 5 1 - x1) * 8))) 5) 1 (μ 5 1 + 1)))))))))) : at_V kC 2 mX1_openRow 0 [vR 5, vI x1, vU] [] μ Q := by
  refine s_iload_n dX1_openRow_0 rfl rfl ?_
  refine s_bipush dX1_openRow_1 (by decide) ?_
  obtain ⟨c, h⟩ := h
  refine s_imul dX1_openRow_3 (am_w_id c) ?_
  refine s_istore_n dX1_openRow_4 rfl (by decide) (L' := [vR 5, vI x1, vI (x1 * 8)]) rfl ?_
  refine s_aload_n dX1_openRow_5 rfl rfl ?_
  refine s_getR dX1_openRow_6 flX1_9 kn5 kk5 rfl kr5_0 ?_
  refine s_iload_n dX1_openRow_9 rfl rfl ?_
  refine s_aload_n dX1_openRow_10 rfl rfl ?_
  refine s_getR dX1_openRow_11 flX1_9 kn5 kk5 rfl kr5_0 ?_
  refine s_iload_n dX1_openRow_14 rfl rfl ?_
  refine s_bipush dX1_openRow_15 (by decide) ?_
  obtain ⟨c, h⟩ := h
  refine s_iadd dX1_openRow_17 (am_w_id c) ?_
  refine s_aload_n dX1_openRow_18 rfl rfl ?_
  refine s_getI (x := (μ 5 1)) dX1_openRow_19 flX1_15 kn5 kk5 rfl rfl ?_
  refine s_iload_n dX1_openRow_22 rfl rfl ?_
  obtain ⟨c, h⟩ := h
  refine s_isub dX1_openRow_23 (am_w_id c) ?_
  refine s_bipush dX1_openRow_24 (by decide) ?_
  obtain ⟨c, h⟩ := h
  refine s_imul dX1_openRow_26 (am_w_id c) ?_
  obtain ⟨c1, c2, c3, c4, c5, h⟩ := h
  refine s_acopy dX1_openRow_27 waX1_32 kn6 kk6 kl6 kn6 kk6 kl6 (Nat.le_of_ble_eq_true rfl) (by decide) c1 c2 c3 c4 c5 rfl ?_
  refine s_aload_n dX1_openRow_30 rfl rfl ?_
  refine s_dup dX1_openRow_31 ?_
  refine s_getI (x := (μ 5 1)) dX1_openRow_32 flX1_15 kn5 kk5 rfl rfl ?_
  refine s_iconst dX1_openRow_35 (by decide) ?_
  obtain ⟨c, h⟩ := h
  refine s_iadd dX1_openRow_36 (am_w_id c) ?_
  refine s_putI dX1_openRow_37 flX1_15 kn5 kk5 rfl rfl (Or.inl rfl) rfl ?_
  exact s_return dX1_openRow_40 rfl ⟨⟨rfl, rfl⟩, rfl, h⟩
theorem ve_X1_openRow {x1 : Int} {μ : am_M} {Q : am_M → Prop} (h : at_V kC 2 mX1_openRow 0 [vR 5, vI x1, vU] [] μ Q) : cl_V kC 2 mX1_openRow [vR 5, vI x1] μ Q := am_intro pmX1_openRow (Nat.le_of_ble_eq_true rfl) rfl h
theorem sp_X1_openRow {μ : am_M} {p : Int} (h1 : in_ 0 32 (μ 5 1)) (h0 : 0 ≤ p ∧ p ≤ μ 5 1) : cl_V kC 2 mX1_openRow [vR 5, vI p] μ (fun m => ck_ μ m (μ 5 1 + 1) (opn_T (cg μ) p)) := by
  refine ve_X1_openRow (vc_X1_openRow_0 ⟨(by (try unfold am_in); (try unfold in_ at *); omega), (by (try unfold am_in); (try unfold in_ at *); omega), (by (try unfold am_in); (try unfold in_ at *); omega), (by (try unfold am_in); (try unfold in_ at *); omega), (by (try unfold am_in); (try unfold in_ at *); omega), (by (try unfold am_in); (try unfold in_ at *); omega), (by (try unfold am_in); (try unfold in_ at *); omega), (by (try unfold am_in); (try unfold in_ at *); omega), (by (try unfold am_in); (try unfold in_ at *); omega), (by (try unfold am_in); (try unfold in_ at *); omega), ?_, ?_, ?_⟩)
  · intro k hk
    rw [st_n (fun e => hk (by simp [e])), st_n (fun e => hk (by simp [e]))]
  · rw [st_s, up_s]
  · intro i k a1 a2 a3 a4
    unfold cg opn_T
    rw [st_n (by decide), st_s]
    unfold am_cp
    by_cases q : i ≤ p
    · rw [if_neg (by omega), if_pos q]
    · rw [if_pos (by omega), if_neg q]
      congr 1
      omega
theorem vc_X1_closeRow_0 {x1 : Int} {μ : am_M} {Q : am_M → Prop} (h : (am_in (x1 * 8)) ∧ ((am_in (μ 5 1 - 1)) ∧ ((am_in ((x1 * 8) + 8)) ∧ ((am_in ((μ 5 1 - 1) - x1)) ∧ ((am_in (((μ 5 1 - 1) - x1) * 8)) ∧ ((0 ≤ (x1 * 8) + 8) ∧ (0 ≤ x1 * 8) ∧ (0 ≤ ((μ 5 1 - 1) - x1) * 8) ∧ ((x1 * 8) + 8 + (((μ 5 1 - 1) - x1) * 8) ≤ 256) ∧ (x1 * 8 + (((μ 5 1 - 1) - x1) * 8) ≤ 256) ∧ (Q (am_st (am_st μ 5 (am_up (μ 5) 1 (μ 5 1 - 1))) 6 (am_cp ((am_st μ 5 (am_up (μ 5) 1 (μ 5 1 - 1))) 6) ((am_st μ 5 (am_up (μ 5) 1 (μ 5 1 - 1))) 6) ((x1 * 8) + 8) (x1 * 8) (((μ 5 1 - 1) - x1) * 8)))))))))) : at_V kC 2 mX1_closeRow 0 [vR 5, vI x1, vU] [] μ Q := by
  refine s_iload_n dX1_closeRow_0 rfl rfl ?_
  refine s_bipush dX1_closeRow_1 (by decide) ?_
  obtain ⟨c, h⟩ := h
  refine s_imul dX1_closeRow_3 (am_w_id c) ?_
  refine s_istore_n dX1_closeRow_4 rfl (by decide) (L' := [vR 5, vI x1, vI (x1 * 8)]) rfl ?_
  refine s_aload_n dX1_closeRow_5 rfl rfl ?_
  refine s_dup dX1_closeRow_6 ?_
  refine s_getI (x := (μ 5 1)) dX1_closeRow_7 flX1_15 kn5 kk5 rfl rfl ?_
  refine s_iconst dX1_closeRow_10 (by decide) ?_
  obtain ⟨c, h⟩ := h
  refine s_isub dX1_closeRow_11 (am_w_id c) ?_
  refine s_putI dX1_closeRow_12 flX1_15 kn5 kk5 rfl rfl (Or.inl rfl) rfl ?_
  refine s_aload_n dX1_closeRow_15 rfl rfl ?_
  refine s_getR dX1_closeRow_16 flX1_9 kn5 kk5 rfl kr5_0 ?_
  refine s_iload_n dX1_closeRow_19 rfl rfl ?_
  refine s_bipush dX1_closeRow_20 (by decide) ?_
  obtain ⟨c, h⟩ := h
  refine s_iadd dX1_closeRow_22 (am_w_id c) ?_
  refine s_aload_n dX1_closeRow_23 rfl rfl ?_
  refine s_getR dX1_closeRow_24 flX1_9 kn5 kk5 rfl kr5_0 ?_
  refine s_iload_n dX1_closeRow_27 rfl rfl ?_
  refine s_aload_n dX1_closeRow_28 rfl rfl ?_
  refine s_getI (x := (μ 5 1 - 1)) dX1_closeRow_29 flX1_15 kn5 kk5 rfl rfl ?_
  refine s_iload_n dX1_closeRow_32 rfl rfl ?_
  obtain ⟨c, h⟩ := h
  refine s_isub dX1_closeRow_33 (am_w_id c) ?_
  refine s_bipush dX1_closeRow_34 (by decide) ?_
  obtain ⟨c, h⟩ := h
  refine s_imul dX1_closeRow_36 (am_w_id c) ?_
  obtain ⟨c1, c2, c3, c4, c5, h⟩ := h
  refine s_acopy dX1_closeRow_37 waX1_32 kn6 kk6 kl6 kn6 kk6 kl6 (Nat.le_of_ble_eq_true rfl) (by decide) c1 c2 c3 c4 c5 rfl ?_
  exact s_return dX1_closeRow_40 rfl ⟨⟨rfl, rfl⟩, rfl, h⟩
theorem ve_X1_closeRow {x1 : Int} {μ : am_M} {Q : am_M → Prop} (h : at_V kC 2 mX1_closeRow 0 [vR 5, vI x1, vU] [] μ Q) : cl_V kC 2 mX1_closeRow [vR 5, vI x1] μ Q := am_intro pmX1_closeRow (Nat.le_of_ble_eq_true rfl) rfl h
theorem sp_X1_closeRow {μ : am_M} {p : Int} (h1 : in_ 0 33 (μ 5 1)) (h0 : 0 ≤ p ∧ p < μ 5 1) : cl_V kC 2 mX1_closeRow [vR 5, vI p] μ (fun m => ck_ μ m (μ 5 1 - 1) (del_T (cg μ) p)) := by
  refine ve_X1_closeRow (vc_X1_closeRow_0 ⟨(by (try unfold am_in); (try unfold in_ at *); omega), (by (try unfold am_in); (try unfold in_ at *); omega), (by (try unfold am_in); (try unfold in_ at *); omega), (by (try unfold am_in); (try unfold in_ at *); omega), (by (try unfold am_in); (try unfold in_ at *); omega), (by (try unfold am_in); (try unfold in_ at *); omega), (by (try unfold am_in); (try unfold in_ at *); omega), (by (try unfold am_in); (try unfold in_ at *); omega), (by (try unfold am_in); (try unfold in_ at *); omega), (by (try unfold am_in); (try unfold in_ at *); omega), ?_, ?_, ?_⟩)
  · intro k hk
    rw [st_n (fun e => hk (by simp [e])), st_n (fun e => hk (by simp [e]))]
  · rw [st_n (by decide), st_s, up_s]
  · intro i k a1 a2 a3 a4
    unfold cg del_T
    rw [st_s, st_n (by decide)]
    unfold am_cp
    by_cases q : i < p
    · rw [if_neg (by omega), if_pos q]
    · rw [if_pos (by omega), if_neg q]
      congr 1
      omega
theorem vc_X1_copyRow_0 {x1 x2 : Int} {μ : am_M} {Q : am_M → Prop} (h : (am_in (x1 * 8)) ∧ ((am_in (x2 * 8)) ∧ ((0 ≤ x1 * 8) ∧ (0 ≤ x2 * 8) ∧ (x1 * 8 + 8 ≤ 256) ∧ (x2 * 8 + 8 ≤ 256) ∧ (Q (am_st μ 6 (am_cp (μ 6) (μ 6) (x1 * 8) (x2 * 8) 8)))))) : at_V kC 2 mX1_copyRow 0 [vR 5, vI x1, vI x2] [] μ Q := by
  refine s_aload_n dX1_copyRow_0 rfl rfl ?_
  refine s_getR dX1_copyRow_1 flX1_9 kn5 kk5 rfl kr5_0 ?_
  refine s_iload_n dX1_copyRow_4 rfl rfl ?_
  refine s_bipush dX1_copyRow_5 (by decide) ?_
  obtain ⟨c, h⟩ := h
  refine s_imul dX1_copyRow_7 (am_w_id c) ?_
  refine s_aload_n dX1_copyRow_8 rfl rfl ?_
  refine s_getR dX1_copyRow_9 flX1_9 kn5 kk5 rfl kr5_0 ?_
  refine s_iload_n dX1_copyRow_12 rfl rfl ?_
  refine s_bipush dX1_copyRow_13 (by decide) ?_
  obtain ⟨c, h⟩ := h
  refine s_imul dX1_copyRow_15 (am_w_id c) ?_
  refine s_bipush dX1_copyRow_16 (by decide) ?_
  obtain ⟨c1, c2, c3, c4, h⟩ := h
  refine s_acopy dX1_copyRow_18 waX1_32 kn6 kk6 kl6 kn6 kk6 kl6 (Nat.le_of_ble_eq_true rfl) (by decide) c1 c2 (by decide) c3 c4 rfl ?_
  exact s_return dX1_copyRow_21 rfl ⟨⟨rfl, rfl⟩, rfl, h⟩
theorem ve_X1_copyRow {x1 x2 : Int} {μ : am_M} {Q : am_M → Prop} (h : at_V kC 2 mX1_copyRow 0 [vR 5, vI x1, vI x2] [] μ Q) : cl_V kC 2 mX1_copyRow [vR 5, vI x1, vI x2] μ Q := am_intro pmX1_copyRow (Nat.le_of_ble_eq_true rfl) rfl h
theorem sp_X1_copyRow {μ : am_M} {a b : Int} (h0 : in_ 0 32 a) (h1 : in_ 0 32 b) : cl_V kC 2 mX1_copyRow [vR 5, vI a, vI b] μ (fun m => ck_ μ m (μ 5 1) (cpy_T (cg μ) a b)) := by
  refine ve_X1_copyRow (vc_X1_copyRow_0 ⟨(by (try unfold am_in); (try unfold in_ at *); omega), (by (try unfold am_in); (try unfold in_ at *); omega), (by (try unfold am_in); (try unfold in_ at *); omega), (by (try unfold am_in); (try unfold in_ at *); omega), (by (try unfold am_in); (try unfold in_ at *); omega), (by (try unfold am_in); (try unfold in_ at *); omega), ?_, ?_, ?_⟩)
  · intro k hk
    rw [st_n (fun e => hk (by simp [e]))]
  · rw [st_n (by decide)]
  · intro i k a1 a2 a3 a4
    unfold cg cpy_T in_ at *
    rw [st_s]
    unfold am_cp
    by_cases q : i = b
    · rw [if_pos (by omega), if_pos q]
      congr 1
      omega
    · rw [if_neg (by omega), if_neg q]
theorem sp_X1_putP {μ : am_M} {c w v : Int} (h0 : in_ 0 32 c) (h1 : in_ 0 8 w) (h2 : in_ 0 33 (μ 5 1)) : cl_V kC 1 mX1_put [vR 5, vI c, vI w, vI v] μ (fun m => ck_ μ m (μ 5 1) (up_T (cg μ) c w v)) := by
  refine sp_X1_put h0 h1 ⟨fun k hk => ?_, ?_, (cg_put h0.1 h1).le (by ((try unfold am_in); (try unfold in_ at *); omega))⟩
  · rw [st_n (fun e => hk (by simp [e]))]
  · rw [st_n (by decide)]
theorem vc_X1_copyTo_0 {x1 x2 x3 : Int} {μ : am_M} {Q : Int → am_M → Prop} (h : (ok_T (cg μ) (μ 5 1)) ∧ (∀ v1 : Int, v1 = cnt_ (ls_ (cg μ) x2 x3) (fun _ => 1) (μ 5 1) → (in_ 0 32 (μ 5 1)) ∧ (0 ≤ v1 ∧ v1 ≤ μ 5 1) ∧ (∀ m3 : am_M, ck_ μ m3 (μ 5 1 + 1) (opn_T (cg μ) v1) → ((v1 ≤ x1 → (am_in (x1 + 1)))) ∧ (∀ v4 : Int, v4 = (if x1 < v1 then x1 else x1 + 1) → (in_ 0 32 v4) ∧ (in_ 0 32 v1) ∧ (∀ m6 : am_M, ck_ m3 m6 (m3 5 1) (cpy_T (cg m3) v4 v1) → (in_ 0 32 v1) ∧ (in_ 0 8 0) ∧ (in_ 0 33 (m6 5 1)) ∧ (∀ m8 : am_M, ck_ m6 m8 (m6 5 1) (up_T (cg m6) v1 0 x2) → (in_ 0 32 v1) ∧ (in_ 0 8 1) ∧ (in_ 0 33 (m8 5 1)) ∧ (∀ m10 : am_M, ck_ m8 m10 (m8 5 1) (up_T (cg m8) v1 1 x3) → Q v1 m10))))))) : at_I kC 3 mX1_copyTo 0 [vR 5, vI x1, vI x2, vI x3, vU] [] μ Q := by
  refine s_aload_n dX1_copyTo_0 rfl rfl ?_
  refine s_iload_n dX1_copyTo_1 rfl rfl ?_
  refine s_iload_n dX1_copyTo_2 rfl rfl ?_
  obtain ⟨p0, h⟩ := h
  refine s_callV (As := [vI x2, vI x3]) (rest := []) (k := 5) dX1_copyTo_3 lkX1_61 kn5 ⟨by rw [kk5]; rfl, by rw [kk5]; decide⟩ lmX1_placeFor rfl rfl (Nat.le_of_ble_eq_true rfl) (by decide) (Nat.le_refl 0) (Nat.le_refl 0) (hC := sp_X1_placeFor (Q := fun z m => z = cnt_ (ls_ (cg μ) x2 x3) (fun _ => 1) (μ 5 1) ∧ μ = m) p0 ⟨rfl, rfl⟩) (fun r n2 S2 m2 hP => ?_)
  obtain ⟨⟨rfl, rfl⟩, v1, rfl, hz, rfl⟩ := hP
  have h := h v1 hz
  refine s_istore dX1_copyTo_6 (by decide) (L' := [vR 5, vI x1, vI x2, vI x3, vI v1]) rfl ?_
  refine s_aload_n dX1_copyTo_8 rfl rfl ?_
  refine s_iload dX1_copyTo_9 rfl ?_
  obtain ⟨p0, p1, h⟩ := h
  refine s_callV (As := [vI v1]) (rest := []) (k := 5) dX1_copyTo_11 lkX1_64 kn5 ⟨by rw [kk5]; rfl, by rw [kk5]; decide⟩ lmX1_openRow rfl rfl (Nat.le_of_ble_eq_true rfl) (by decide) (Nat.le_refl 0) (Nat.le_refl 0) (hC := sp_X1_openRow  p0 p1) (fun r n2 S2 m3 hP => ?_)
  obtain ⟨⟨rfl, rfl⟩, rfl, hq⟩ := hP
  have h := h m3 hq
  refine s_aload_n dX1_copyTo_14 rfl rfl ?_
  refine s_iload_n dX1_copyTo_15 rfl rfl ?_
  refine s_iload dX1_copyTo_16 rfl ?_
  obtain ⟨hsd, h⟩ := h
  have kj11 : ∀ (v4 : Int), ((in_ 0 32 v4) ∧ (in_ 0 32 v1) ∧ (∀ m6 : am_M, ck_ m3 m6 (m3 5 1) (cpy_T (cg m3) v4 v1) → (in_ 0 32 v1) ∧ (in_ 0 8 0) ∧ (in_ 0 33 (m6 5 1)) ∧ (∀ m8 : am_M, ck_ m6 m8 (m6 5 1) (up_T (cg m6) v1 0 x2) → (in_ 0 32 v1) ∧ (in_ 0 8 1) ∧ (in_ 0 33 (m8 5 1)) ∧ (∀ m10 : am_M, ck_ m8 m10 (m8 5 1) (up_T (cg m8) v1 1 x3) → Q v1 m10)))) → at_I kC 3 mX1_copyTo 28 [vR 5, vU, vI x2, vI x3, vI v1] [vI v4, vR 5] m3 Q := by
    intro v4 h
    refine s_iload dX1_copyTo_28 rfl ?_
    obtain ⟨p0, p1, h⟩ := h
    refine s_callV (As := [vI v4, vI v1]) (rest := []) (k := 5) dX1_copyTo_30 lkX1_67 kn5 ⟨by rw [kk5]; rfl, by rw [kk5]; decide⟩ lmX1_copyRow rfl rfl (Nat.le_of_ble_eq_true rfl) (by decide) (Nat.le_refl 0) (Nat.le_refl 0) (hC := sp_X1_copyRow  p0 p1) (fun r n2 S2 m6 hP => ?_)
    obtain ⟨⟨rfl, rfl⟩, rfl, hq⟩ := hP
    have h := h m6 hq
    refine s_aload_n dX1_copyTo_33 rfl rfl ?_
    refine s_iload dX1_copyTo_34 rfl ?_
    refine s_iconst dX1_copyTo_36 (by decide) ?_
    refine s_iload_n dX1_copyTo_37 rfl rfl ?_
    obtain ⟨p0, p1, p2, h⟩ := h
    refine s_callV (As := [vI v1, vI 0, vI x2]) (rest := []) (k := 5) dX1_copyTo_38 lkX1_42 kn5 ⟨by rw [kk5]; rfl, by rw [kk5]; decide⟩ lmX1_put rfl rfl (Nat.le_of_ble_eq_true rfl) (by decide) (Nat.le_refl 0) (Nat.le_refl 0) (hC := sp_X1_putP  p0 p1 p2) (fun r n2 S2 m8 hP => ?_)
    obtain ⟨⟨rfl, rfl⟩, rfl, hq⟩ := hP
    have h := h m8 hq
    refine s_aload_n dX1_copyTo_41 rfl rfl ?_
    refine s_iload dX1_copyTo_42 rfl ?_
    refine s_iconst dX1_copyTo_44 (by decide) ?_
    refine s_iload_n dX1_copyTo_45 rfl rfl ?_
    obtain ⟨p0, p1, p2, h⟩ := h
    refine s_callV (As := [vI v1, vI 1, vI x3]) (rest := []) (k := 5) dX1_copyTo_46 lkX1_42 kn5 ⟨by rw [kk5]; rfl, by rw [kk5]; decide⟩ lmX1_put rfl rfl (Nat.le_of_ble_eq_true rfl) (by decide) (Nat.le_refl 0) (Nat.le_refl 0) (hC := sp_X1_putP  p0 p1 p2) (fun r n2 S2 m10 hP => ?_)
    obtain ⟨⟨rfl, rfl⟩, rfl, hq⟩ := hP
    have h := h m10 hq
    refine s_iload dX1_copyTo_49 rfl ?_
    exact s_ireturn dX1_copyTo_51 (Or.inl rfl) ⟨⟨rfl, rfl⟩, _, rfl, h⟩
  refine s_icmp_ge dX1_copyTo_18 (tgt := 25) (by decide) (fun cc => ?_) (fun cc => ?_)
  · have hp0 := cc
    have hsd := hsd hp0
    refine s_iload_n dX1_copyTo_25 rfl rfl ?_
    refine s_iconst dX1_copyTo_26 (by decide) ?_
    have c := hsd
    refine s_iadd dX1_copyTo_27 (am_w_id c) ?_
    exact am_lesS (kj11 (x1 + 1) (h (x1 + 1) (by rw [if_neg (Int.not_lt.mpr hp0)]))) ⟨Or.inr rfl, Or.inl rfl, Or.inr rfl, Or.inr rfl, Or.inr rfl, trivial⟩
  · have hp0 := cc
    refine s_iload_n dX1_copyTo_21 rfl rfl ?_
    refine s_goto dX1_copyTo_22 (tgt := 28) (by decide) ?_
    exact am_lesS (kj11 x1 (h x1 (by rw [if_pos hp0]))) ⟨Or.inr rfl, Or.inl rfl, Or.inr rfl, Or.inr rfl, Or.inr rfl, trivial⟩
theorem ve_X1_copyTo {x1 x2 x3 : Int} {μ : am_M} {Q : Int → am_M → Prop} (h : at_I kC 3 mX1_copyTo 0 [vR 5, vI x1, vI x2, vI x3, vU] [] μ Q) : cl_I kC 3 mX1_copyTo [vR 5, vI x1, vI x2, vI x3] μ Q := am_intro pmX1_copyTo (Nat.le_of_ble_eq_true rfl) rfl h
/-- a row as another one, but on a track and with a start -/
def mv_R (g : Tb) (c t s : Int) : Int → Int := fun k => if k = 0 then t else if k = 1 then s else g c k
theorem cnt_le {p : Int → Bool} {n : Int} (hn : 0 ≤ n) : 0 ≤ cnt_ p (fun _ => 1) n ∧ cnt_ p (fun _ => 1) n ≤ n := by
  have := cnt_b (p := p) (v := fun _ => 1) (B := 1) hn (by omega) (fun i _ _ => by omega)
  omega
/-- where a track and a start come -/
def pos_ (g : Tb) (n t s : Int) : Int := cnt_ (ls_ g t s) (fun _ => 1) n
theorem sp_X1_copyTo {μ : am_M} {c t s : Int} (h1 : ok_T (cg μ) (μ 5 1)) (h2 : μ 5 1 < 32) (h0 : 0 ≤ c ∧ c < μ 5 1) : cl_I kC 3 mX1_copyTo [vR 5, vI c, vI t, vI s] μ (fun z m => z = pos_ (cg μ) (μ 5 1) t s ∧ ck_ μ m (μ 5 1 + 1) (ins_T (cg μ) (pos_ (cg μ) (μ 5 1) t s) (mv_R (cg μ) c t s))) := by
  have q1 := h1.1
  have q2 := cnt_le (p := ls_ (cg μ) t s) (n := μ 5 1) (by (try unfold am_in); (try unfold in_ at *); omega)
  refine ve_X1_copyTo (vc_X1_copyTo_0 ⟨h1, fun p hp => ?_⟩)
  rw [← hp] at q2
  refine ⟨(by (try unfold am_in); (try unfold in_ at *); omega), q2, fun m hm => ⟨fun _ => (by (try unfold am_in); (try unfold in_ at *); omega), fun v hv => ?_⟩⟩
  have hv2 : 0 ≤ v ∧ v ≤ μ 5 1 := by subst hv; split <;> omega
  obtain ⟨f1, f2, f3⟩ := hm
  refine ⟨(by (try unfold am_in); (try unfold in_ at *); omega), (by (try unfold am_in); (try unfold in_ at *); omega), fun m5 hm5 => ?_⟩
  obtain ⟨g1, g2, g3⟩ := hm5
  refine ⟨(by (try unfold am_in); (try unfold in_ at *); omega), (by (try unfold am_in); (try unfold in_ at *); omega), by rw [g2, f2]; ((try unfold am_in); (try unfold in_ at *); omega), fun m7 hm7 => ?_⟩
  obtain ⟨k1, k2, k3⟩ := hm7
  refine ⟨(by (try unfold am_in); (try unfold in_ at *); omega), (by (try unfold am_in); (try unfold in_ at *); omega), by rw [k2, g2, f2]; ((try unfold am_in); (try unfold in_ at *); omega), fun m9 hm9 => ?_⟩
  obtain ⟨j1, j2, j3⟩ := hm9
  have e : pos_ (cg μ) (μ 5 1) t s = p := hp.symm
  refine ⟨e.symm, ((fr_tr (fr_tr f1 g1) k1) |> fun h => fr_tr h j1), by rw [j2, k2, g2, f2], ?_⟩
  rw [k2, g2, f2] at j3
  rw [g2, f2] at k3
  rw [f2] at g3
  rw [e]
  intro i k a1 a2 a3 a4
  have e9 := j3 i k a1 a2 a3 a4
  have e7 := k3 i k a1 a2 a3 a4
  have e5 := g3 i k a1 a2 a3 a4
  unfold up_T at e9 e7
  unfold cpy_T at e5
  unfold ins_T mv_R
  by_cases qi : i = p
  · have fv := f3 v k (by omega) (by omega) a3 a4
    have gv : opn_T (cg μ) p v k = cg μ c k := by
      unfold opn_T
      subst hv
      split
      · rw [if_pos (by omega)]
      · rw [if_neg (by omega)]
        congr 1
        omega
    rw [gv] at fv
    simp only [qi, true_and, if_true, Int.lt_irrefl, if_false] at e9 e7 e5 ⊢
    rw [e9, e7, e5, fv]
    by_cases q1 : k = 1
    · simp [q1]
    · simp [q1]
  · simp only [qi, false_and, if_false] at e9 e7 e5 ⊢
    rw [e9, e7, e5, f3 i k a1 a2 a3 a4]
    unfold opn_T
    by_cases q : i < p
    · rw [if_pos (by omega), if_pos q]
    · rw [if_neg (by omega), if_neg q]
theorem vc_X1_fitFades_0 {x1 : Int} {μ : am_M} {Q : am_M → Prop} (h : (in_ 0 32 x1) ∧ (in_ 0 8 4) ∧ ((in_ 0 32 x1) ∧ (in_ 0 8 6) ∧ ((in_ 0 32 x1) ∧ (in_ 0 8 6) ∧ (in_ 0 33 (μ 5 1)) ∧ (∀ m2 : am_M, ck_ μ m2 (μ 5 1) (up_T (cg μ) x1 6 (if cg μ x1 4 < cg μ x1 6 then cg μ x1 4 else cg μ x1 6)) → (in_ 0 32 x1) ∧ (in_ 0 8 7) ∧ ((am_in (cg μ x1 4 - (if cg μ x1 4 < cg μ x1 6 then cg μ x1 4 else cg μ x1 6))) ∧ ((in_ 0 32 x1) ∧ (in_ 0 8 7) ∧ (in_ 0 33 (m2 5 1)) ∧ (∀ m4 : am_M, ck_ m2 m4 (m2 5 1) (up_T (cg m2) x1 7 (if cg μ x1 4 - (if cg μ x1 4 < cg μ x1 6 then cg μ x1 4 else cg μ x1 6) < cg m2 x1 7 then cg μ x1 4 - (if cg μ x1 4 < cg μ x1 6 then cg μ x1 4 else cg μ x1 6) else cg m2 x1 7)) → Q m4))))))) : at_V kC 2 mX1_fitFades 0 [vR 5, vI x1, vU, vU] [] μ Q := by
  refine s_aload_n dX1_fitFades_0 rfl rfl ?_
  refine s_iload_n dX1_fitFades_1 rfl rfl ?_
  refine s_iconst dX1_fitFades_2 (by decide) ?_
  obtain ⟨p0, p1, h⟩ := h
  refine s_callV (As := [vI x1, vI 4]) (rest := []) (k := 5) dX1_fitFades_3 lkX1_19 kn5 ⟨by rw [kk5]; rfl, by rw [kk5]; decide⟩ lmX1_get rfl rfl (Nat.le_of_ble_eq_true rfl) (by decide) (Nat.le_refl 0) (Nat.le_refl 0) (hC := sp_X1_get (Q := fun z m => cg μ x1 4 = z ∧ μ = m) p0 p1 ⟨rfl, rfl⟩) (fun r n2 S2 m2 hP => ?_)
  obtain ⟨⟨rfl, rfl⟩, z, rfl, rfl, rfl⟩ := hP
  refine s_istore_n dX1_fitFades_6 rfl (by decide) (L' := [vR 5, vI x1, vI (cg μ x1 4), vU]) rfl ?_
  refine s_aload_n dX1_fitFades_7 rfl rfl ?_
  refine s_iload_n dX1_fitFades_8 rfl rfl ?_
  refine s_bipush dX1_fitFades_9 (by decide) ?_
  obtain ⟨p0, p1, h⟩ := h
  refine s_callV (As := [vI x1, vI 6]) (rest := []) (k := 5) dX1_fitFades_11 lkX1_19 kn5 ⟨by rw [kk5]; rfl, by rw [kk5]; decide⟩ lmX1_get rfl rfl (Nat.le_of_ble_eq_true rfl) (by decide) (Nat.le_refl 0) (Nat.le_refl 0) (hC := sp_X1_get (Q := fun z m => cg μ x1 6 = z ∧ μ = m) p0 p1 ⟨rfl, rfl⟩) (fun r n2 S2 m2 hP => ?_)
  obtain ⟨⟨rfl, rfl⟩, z, rfl, rfl, rfl⟩ := hP
  refine s_iload_n dX1_fitFades_14 rfl rfl ?_
  refine s_min dX1_fitFades_15 wmX1_77 (Nat.le_of_ble_eq_true rfl) (by decide) rfl ?_
  refine s_istore_n dX1_fitFades_18 rfl (by decide) (L' := [vR 5, vI x1, vI (cg μ x1 4), vI (if cg μ x1 4 < cg μ x1 6 then cg μ x1 4 else cg μ x1 6)]) rfl ?_
  refine s_aload_n dX1_fitFades_19 rfl rfl ?_
  refine s_iload_n dX1_fitFades_20 rfl rfl ?_
  refine s_bipush dX1_fitFades_21 (by decide) ?_
  refine s_iload_n dX1_fitFades_23 rfl rfl ?_
  obtain ⟨p0, p1, p2, h⟩ := h
  refine s_callV (As := [vI x1, vI 6, vI (if cg μ x1 4 < cg μ x1 6 then cg μ x1 4 else cg μ x1 6)]) (rest := []) (k := 5) dX1_fitFades_24 lkX1_42 kn5 ⟨by rw [kk5]; rfl, by rw [kk5]; decide⟩ lmX1_put rfl rfl (Nat.le_of_ble_eq_true rfl) (by decide) (Nat.le_refl 0) (Nat.le_refl 0) (hC := sp_X1_putP  p0 p1 p2) (fun r n2 S2 m2 hP => ?_)
  obtain ⟨⟨rfl, rfl⟩, rfl, hq⟩ := hP
  have h := h m2 hq
  refine s_aload_n dX1_fitFades_27 rfl rfl ?_
  refine s_iload_n dX1_fitFades_28 rfl rfl ?_
  refine s_bipush dX1_fitFades_29 (by decide) ?_
  refine s_aload_n dX1_fitFades_31 rfl rfl ?_
  refine s_iload_n dX1_fitFades_32 rfl rfl ?_
  refine s_bipush dX1_fitFades_33 (by decide) ?_
  obtain ⟨p0, p1, h⟩ := h
  refine s_callV (As := [vI x1, vI 7]) (rest := [vI 7, vI x1, vR 5]) (k := 5) dX1_fitFades_35 lkX1_19 kn5 ⟨by rw [kk5]; rfl, by rw [kk5]; decide⟩ lmX1_get rfl rfl (Nat.le_of_ble_eq_true rfl) (by decide) (Nat.le_refl 0) (Nat.le_refl 0) (hC := sp_X1_get (Q := fun z m => cg m2 x1 7 = z ∧ m2 = m) p0 p1 ⟨rfl, rfl⟩) (fun r n2 S2 m2 hP => ?_)
  obtain ⟨⟨rfl, rfl⟩, z, rfl, rfl, rfl⟩ := hP
  refine s_iload_n dX1_fitFades_38 rfl rfl ?_
  refine s_iload_n dX1_fitFades_39 rfl rfl ?_
  obtain ⟨c, h⟩ := h
  refine s_isub dX1_fitFades_40 (am_w_id c) ?_
  refine s_min dX1_fitFades_41 wmX1_77 (Nat.le_of_ble_eq_true rfl) (by decide) rfl ?_
  obtain ⟨p0, p1, p2, h⟩ := h
  refine s_callV (As := [vI x1, vI 7, vI (if cg μ x1 4 - (if cg μ x1 4 < cg μ x1 6 then cg μ x1 4 else cg μ x1 6) < cg m2 x1 7 then cg μ x1 4 - (if cg μ x1 4 < cg μ x1 6 then cg μ x1 4 else cg μ x1 6) else cg m2 x1 7)]) (rest := []) (k := 5) dX1_fitFades_44 lkX1_42 kn5 ⟨by rw [kk5]; rfl, by rw [kk5]; decide⟩ lmX1_put rfl rfl (Nat.le_of_ble_eq_true rfl) (by decide) (Nat.le_refl 0) (Nat.le_refl 0) (hC := sp_X1_putP  p0 p1 p2) (fun r n2 S2 m4 hP => ?_)
  obtain ⟨⟨rfl, rfl⟩, rfl, hq⟩ := hP
  have h := h m4 hq
  exact s_return dX1_fitFades_47 rfl ⟨⟨rfl, rfl⟩, rfl, h⟩
theorem ve_X1_fitFades {x1 : Int} {μ : am_M} {Q : am_M → Prop} (h : at_V kC 2 mX1_fitFades 0 [vR 5, vI x1, vU, vU] [] μ Q) : cl_V kC 2 mX1_fitFades [vR 5, vI x1] μ Q := am_intro pmX1_fitFades (Nat.le_of_ble_eq_true rfl) rfl h
/-- the fades fitted into the length -/
def fit_T (g : Tb) (c : Int) : Tb := up_T (up_T g c 6 (if g c 4 < g c 6 then g c 4 else g c 6)) c 7 (if g c 4 - (if g c 4 < g c 6 then g c 4 else g c 6) < g c 7 then g c 4 - (if g c 4 < g c 6 then g c 4 else g c 6) else g c 7)
theorem eq_T.fit {n : Int} {g h : Tb} (e : eq_T n 8 g h) {c : Int} (hc : 0 ≤ c ∧ c < n) : eq_T n 8 (fit_T g c) (fit_T h c) := by
  have e4 := e c 4 hc.1 hc.2 (by omega) (by omega)
  have e6 := e c 6 hc.1 hc.2 (by omega) (by omega)
  have e7 := e c 7 hc.1 hc.2 (by omega) (by omega)
  unfold fit_T
  rw [e4, e6, e7]
  exact (e.up _ _ _).up _ _ _
theorem sp_X1_fitFades {μ : am_M} {c : Int} (h1 : in_ 0 33 (μ 5 1)) (h0 : 0 ≤ c ∧ c < μ 5 1) (h2 : in_ 0 601 (cg μ c 4) ∧ in_ 0 601 (cg μ c 6)) : cl_V kC 2 mX1_fitFades [vR 5, vI c] μ (fun m => ck_ μ m (μ 5 1) (fit_T (cg μ) c)) := by
  refine ve_X1_fitFades (vc_X1_fitFades_0 ⟨(by (try unfold am_in); (try unfold in_ at *); omega), (by (try unfold am_in); (try unfold in_ at *); omega), (by (try unfold am_in); (try unfold in_ at *); omega), (by (try unfold am_in); (try unfold in_ at *); omega), (by (try unfold am_in); (try unfold in_ at *); omega), (by (try unfold am_in); (try unfold in_ at *); omega), (by (try unfold am_in); (try unfold in_ at *); omega), fun m hm => ⟨(by (try unfold am_in); (try unfold in_ at *); omega), (by (try unfold am_in); (try unfold in_ at *); omega), by obtain ⟨a, b⟩ := h2; split <;> ((try unfold am_in); (try unfold in_ at *); omega), (by (try unfold am_in); (try unfold in_ at *); omega), (by (try unfold am_in); (try unfold in_ at *); omega), by rw [hm.2.1]; exact h1, fun m2 hm2 => ?_⟩⟩)
  obtain ⟨f1, f2, f3⟩ := hm
  obtain ⟨g1, g2, g3⟩ := hm2
  refine ⟨fr_tr f1 g1, g2.trans f2, ?_⟩
  rw [f2] at g3
  have e7 : cg m c 7 = cg μ c 7 := by
    rw [f3 c 7 h0.1 h0.2 (by omega) (by omega)]
    unfold up_T
    rw [if_neg (by omega)]
  rw [e7] at g3
  exact g3.tr (f3.up _ _ _)
theorem vc_X1_split_0 {x1 x2 : Int} {μ : am_M} {Q : am_M → Prop} (h : (am_in (x1 + 1)) ∧ ((in_ 0 32 (μ 5 1)) ∧ (0 ≤ (x1 + 1) ∧ (x1 + 1) ≤ μ 5 1) ∧ (∀ m2 : am_M, ck_ μ m2 (μ 5 1 + 1) (opn_T (cg μ) (x1 + 1)) → (in_ 0 32 x1) ∧ (in_ 0 32 (x1 + 1)) ∧ (∀ m4 : am_M, ck_ m2 m4 (m2 5 1) (cpy_T (cg m2) x1 (x1 + 1)) → (in_ 0 32 x1) ∧ (in_ 0 8 4) ∧ (in_ 0 33 (m4 5 1)) ∧ (∀ m6 : am_M, ck_ m4 m6 (m4 5 1) (up_T (cg m4) x1 4 x2) → (in_ 0 32 x1) ∧ (in_ 0 8 7) ∧ (in_ 0 33 (m6 5 1)) ∧ (∀ m8 : am_M, ck_ m6 m8 (m6 5 1) (up_T (cg m6) x1 7 0) → (in_ 0 33 (m8 5 1)) ∧ (0 ≤ x1 ∧ x1 < m8 5 1) ∧ (in_ 0 601 (cg m8 x1 4) ∧ in_ 0 601 (cg m8 x1 6)) ∧ (∀ m10 : am_M, ck_ m8 m10 (m8 5 1) (fit_T (cg m8) x1) → (in_ 0 32 (x1 + 1)) ∧ (in_ 0 8 1) ∧ ((am_in ((cg m10 (x1 + 1) 1) + x2)) ∧ ((in_ 0 32 (x1 + 1)) ∧ (in_ 0 8 1) ∧ (in_ 0 33 (m10 5 1)) ∧ (∀ m12 : am_M, ck_ m10 m12 (m10 5 1) (up_T (cg m10) (x1 + 1) 1 ((cg m10 (x1 + 1) 1) + x2)) → (in_ 0 32 (x1 + 1)) ∧ (in_ 0 8 3) ∧ ((am_in ((cg m12 (x1 + 1) 3) + x2)) ∧ ((in_ 0 32 (x1 + 1)) ∧ (in_ 0 8 3) ∧ (in_ 0 33 (m12 5 1)) ∧ (∀ m14 : am_M, ck_ m12 m14 (m12 5 1) (up_T (cg m12) (x1 + 1) 3 ((cg m12 (x1 + 1) 3) + x2)) → (in_ 0 32 (x1 + 1)) ∧ (in_ 0 8 4) ∧ ((am_in ((cg m14 (x1 + 1) 4) - x2)) ∧ ((in_ 0 32 (x1 + 1)) ∧ (in_ 0 8 4) ∧ (in_ 0 33 (m14 5 1)) ∧ (∀ m16 : am_M, ck_ m14 m16 (m14 5 1) (up_T (cg m14) (x1 + 1) 4 ((cg m14 (x1 + 1) 4) - x2)) → (in_ 0 32 (x1 + 1)) ∧ (in_ 0 8 6) ∧ (in_ 0 33 (m16 5 1)) ∧ (∀ m18 : am_M, ck_ m16 m18 (m16 5 1) (up_T (cg m16) (x1 + 1) 6 0) → (in_ 0 33 (m18 5 1)) ∧ (0 ≤ (x1 + 1) ∧ (x1 + 1) < m18 5 1) ∧ (in_ 0 601 (cg m18 (x1 + 1) 4) ∧ in_ 0 601 (cg m18 (x1 + 1) 6)) ∧ (∀ m20 : am_M, ck_ m18 m20 (m18 5 1) (fit_T (cg m18) (x1 + 1)) → Q m20)))))))))))))))))) : at_V kC 3 mX1_split 0 [vR 5, vI x1, vI x2, vU] [] μ Q := by
  refine s_iload_n dX1_split_0 rfl rfl ?_
  refine s_iconst dX1_split_1 (by decide) ?_
  obtain ⟨c, h⟩ := h
  refine s_iadd dX1_split_2 (am_w_id c) ?_
  refine s_istore_n dX1_split_3 rfl (by decide) (L' := [vR 5, vI x1, vI x2, vI (x1 + 1)]) rfl ?_
  refine s_aload_n dX1_split_4 rfl rfl ?_
  refine s_iload_n dX1_split_5 rfl rfl ?_
  obtain ⟨p0, p1, h⟩ := h
  refine s_callV (As := [vI (x1 + 1)]) (rest := []) (k := 5) dX1_split_6 lkX1_64 kn5 ⟨by rw [kk5]; rfl, by rw [kk5]; decide⟩ lmX1_openRow rfl rfl (Nat.le_of_ble_eq_true rfl) (by decide) (Nat.le_refl 0) (Nat.le_refl 0) (hC := sp_X1_openRow  p0 p1) (fun r n2 S2 m2 hP => ?_)
  obtain ⟨⟨rfl, rfl⟩, rfl, hq⟩ := hP
  have h := h m2 hq
  refine s_aload_n dX1_split_9 rfl rfl ?_
  refine s_iload_n dX1_split_10 rfl rfl ?_
  refine s_iload_n dX1_split_11 rfl rfl ?_
  obtain ⟨p0, p1, h⟩ := h
  refine s_callV (As := [vI x1, vI (x1 + 1)]) (rest := []) (k := 5) dX1_split_12 lkX1_67 kn5 ⟨by rw [kk5]; rfl, by rw [kk5]; decide⟩ lmX1_copyRow rfl rfl (Nat.le_of_ble_eq_true rfl) (by decide) (Nat.le_refl 0) (Nat.le_refl 0) (hC := sp_X1_copyRow  p0 p1) (fun r n2 S2 m4 hP => ?_)
  obtain ⟨⟨rfl, rfl⟩, rfl, hq⟩ := hP
  have h := h m4 hq
  refine s_aload_n dX1_split_15 rfl rfl ?_
  refine s_iload_n dX1_split_16 rfl rfl ?_
  refine s_iconst dX1_split_17 (by decide) ?_
  refine s_iload_n dX1_split_18 rfl rfl ?_
  obtain ⟨p0, p1, p2, h⟩ := h
  refine s_callV (As := [vI x1, vI 4, vI x2]) (rest := []) (k := 5) dX1_split_19 lkX1_42 kn5 ⟨by rw [kk5]; rfl, by rw [kk5]; decide⟩ lmX1_put rfl rfl (Nat.le_of_ble_eq_true rfl) (by decide) (Nat.le_refl 0) (Nat.le_refl 0) (hC := sp_X1_putP  p0 p1 p2) (fun r n2 S2 m6 hP => ?_)
  obtain ⟨⟨rfl, rfl⟩, rfl, hq⟩ := hP
  have h := h m6 hq
  refine s_aload_n dX1_split_22 rfl rfl ?_
  refine s_iload_n dX1_split_23 rfl rfl ?_
  refine s_bipush dX1_split_24 (by decide) ?_
  refine s_iconst dX1_split_26 (by decide) ?_
  obtain ⟨p0, p1, p2, h⟩ := h
  refine s_callV (As := [vI x1, vI 7, vI 0]) (rest := []) (k := 5) dX1_split_27 lkX1_42 kn5 ⟨by rw [kk5]; rfl, by rw [kk5]; decide⟩ lmX1_put rfl rfl (Nat.le_of_ble_eq_true rfl) (by decide) (Nat.le_refl 0) (Nat.le_refl 0) (hC := sp_X1_putP  p0 p1 p2) (fun r n2 S2 m8 hP => ?_)
  obtain ⟨⟨rfl, rfl⟩, rfl, hq⟩ := hP
  have h := h m8 hq
  refine s_aload_n dX1_split_30 rfl rfl ?_
  refine s_iload_n dX1_split_31 rfl rfl ?_
  obtain ⟨p0, p1, p2, h⟩ := h
  refine s_callV (As := [vI x1]) (rest := []) (k := 5) dX1_split_32 lkX1_74 kn5 ⟨by rw [kk5]; rfl, by rw [kk5]; decide⟩ lmX1_fitFades rfl rfl (Nat.le_of_ble_eq_true rfl) (by decide) (Nat.le_refl 0) (Nat.le_refl 0) (hC := sp_X1_fitFades  p0 p1 p2) (fun r n2 S2 m10 hP => ?_)
  obtain ⟨⟨rfl, rfl⟩, rfl, hq⟩ := hP
  have h := h m10 hq
  refine s_aload_n dX1_split_35 rfl rfl ?_
  refine s_iload_n dX1_split_36 rfl rfl ?_
  refine s_iconst dX1_split_37 (by decide) ?_
  refine s_aload_n dX1_split_38 rfl rfl ?_
  refine s_iload_n dX1_split_39 rfl rfl ?_
  refine s_iconst dX1_split_40 (by decide) ?_
  obtain ⟨p0, p1, h⟩ := h
  refine s_callV (As := [vI (x1 + 1), vI 1]) (rest := [vI 1, vI (x1 + 1), vR 5]) (k := 5) dX1_split_41 lkX1_19 kn5 ⟨by rw [kk5]; rfl, by rw [kk5]; decide⟩ lmX1_get rfl rfl (Nat.le_of_ble_eq_true rfl) (by decide) (Nat.le_refl 0) (Nat.le_refl 0) (hC := sp_X1_get (Q := fun z m => cg m10 (x1 + 1) 1 = z ∧ m10 = m) p0 p1 ⟨rfl, rfl⟩) (fun r n2 S2 m2 hP => ?_)
  obtain ⟨⟨rfl, rfl⟩, z, rfl, rfl, rfl⟩ := hP
  refine s_iload_n dX1_split_44 rfl rfl ?_
  obtain ⟨c, h⟩ := h
  refine s_iadd dX1_split_45 (am_w_id c) ?_
  obtain ⟨p0, p1, p2, h⟩ := h
  refine s_callV (As := [vI (x1 + 1), vI 1, vI ((cg m10 (x1 + 1) 1) + x2)]) (rest := []) (k := 5) dX1_split_46 lkX1_42 kn5 ⟨by rw [kk5]; rfl, by rw [kk5]; decide⟩ lmX1_put rfl rfl (Nat.le_of_ble_eq_true rfl) (by decide) (Nat.le_refl 0) (Nat.le_refl 0) (hC := sp_X1_putP  p0 p1 p2) (fun r n2 S2 m12 hP => ?_)
  obtain ⟨⟨rfl, rfl⟩, rfl, hq⟩ := hP
  have h := h m12 hq
  refine s_aload_n dX1_split_49 rfl rfl ?_
  refine s_iload_n dX1_split_50 rfl rfl ?_
  refine s_iconst dX1_split_51 (by decide) ?_
  refine s_aload_n dX1_split_52 rfl rfl ?_
  refine s_iload_n dX1_split_53 rfl rfl ?_
  refine s_iconst dX1_split_54 (by decide) ?_
  obtain ⟨p0, p1, h⟩ := h
  refine s_callV (As := [vI (x1 + 1), vI 3]) (rest := [vI 3, vI (x1 + 1), vR 5]) (k := 5) dX1_split_55 lkX1_19 kn5 ⟨by rw [kk5]; rfl, by rw [kk5]; decide⟩ lmX1_get rfl rfl (Nat.le_of_ble_eq_true rfl) (by decide) (Nat.le_refl 0) (Nat.le_refl 0) (hC := sp_X1_get (Q := fun z m => cg m12 (x1 + 1) 3 = z ∧ m12 = m) p0 p1 ⟨rfl, rfl⟩) (fun r n2 S2 m2 hP => ?_)
  obtain ⟨⟨rfl, rfl⟩, z, rfl, rfl, rfl⟩ := hP
  refine s_iload_n dX1_split_58 rfl rfl ?_
  obtain ⟨c, h⟩ := h
  refine s_iadd dX1_split_59 (am_w_id c) ?_
  obtain ⟨p0, p1, p2, h⟩ := h
  refine s_callV (As := [vI (x1 + 1), vI 3, vI ((cg m12 (x1 + 1) 3) + x2)]) (rest := []) (k := 5) dX1_split_60 lkX1_42 kn5 ⟨by rw [kk5]; rfl, by rw [kk5]; decide⟩ lmX1_put rfl rfl (Nat.le_of_ble_eq_true rfl) (by decide) (Nat.le_refl 0) (Nat.le_refl 0) (hC := sp_X1_putP  p0 p1 p2) (fun r n2 S2 m14 hP => ?_)
  obtain ⟨⟨rfl, rfl⟩, rfl, hq⟩ := hP
  have h := h m14 hq
  refine s_aload_n dX1_split_63 rfl rfl ?_
  refine s_iload_n dX1_split_64 rfl rfl ?_
  refine s_iconst dX1_split_65 (by decide) ?_
  refine s_aload_n dX1_split_66 rfl rfl ?_
  refine s_iload_n dX1_split_67 rfl rfl ?_
  refine s_iconst dX1_split_68 (by decide) ?_
  obtain ⟨p0, p1, h⟩ := h
  refine s_callV (As := [vI (x1 + 1), vI 4]) (rest := [vI 4, vI (x1 + 1), vR 5]) (k := 5) dX1_split_69 lkX1_19 kn5 ⟨by rw [kk5]; rfl, by rw [kk5]; decide⟩ lmX1_get rfl rfl (Nat.le_of_ble_eq_true rfl) (by decide) (Nat.le_refl 0) (Nat.le_refl 0) (hC := sp_X1_get (Q := fun z m => cg m14 (x1 + 1) 4 = z ∧ m14 = m) p0 p1 ⟨rfl, rfl⟩) (fun r n2 S2 m2 hP => ?_)
  obtain ⟨⟨rfl, rfl⟩, z, rfl, rfl, rfl⟩ := hP
  refine s_iload_n dX1_split_72 rfl rfl ?_
  obtain ⟨c, h⟩ := h
  refine s_isub dX1_split_73 (am_w_id c) ?_
  obtain ⟨p0, p1, p2, h⟩ := h
  refine s_callV (As := [vI (x1 + 1), vI 4, vI ((cg m14 (x1 + 1) 4) - x2)]) (rest := []) (k := 5) dX1_split_74 lkX1_42 kn5 ⟨by rw [kk5]; rfl, by rw [kk5]; decide⟩ lmX1_put rfl rfl (Nat.le_of_ble_eq_true rfl) (by decide) (Nat.le_refl 0) (Nat.le_refl 0) (hC := sp_X1_putP  p0 p1 p2) (fun r n2 S2 m16 hP => ?_)
  obtain ⟨⟨rfl, rfl⟩, rfl, hq⟩ := hP
  have h := h m16 hq
  refine s_aload_n dX1_split_77 rfl rfl ?_
  refine s_iload_n dX1_split_78 rfl rfl ?_
  refine s_bipush dX1_split_79 (by decide) ?_
  refine s_iconst dX1_split_81 (by decide) ?_
  obtain ⟨p0, p1, p2, h⟩ := h
  refine s_callV (As := [vI (x1 + 1), vI 6, vI 0]) (rest := []) (k := 5) dX1_split_82 lkX1_42 kn5 ⟨by rw [kk5]; rfl, by rw [kk5]; decide⟩ lmX1_put rfl rfl (Nat.le_of_ble_eq_true rfl) (by decide) (Nat.le_refl 0) (Nat.le_refl 0) (hC := sp_X1_putP  p0 p1 p2) (fun r n2 S2 m18 hP => ?_)
  obtain ⟨⟨rfl, rfl⟩, rfl, hq⟩ := hP
  have h := h m18 hq
  refine s_aload_n dX1_split_85 rfl rfl ?_
  refine s_iload_n dX1_split_86 rfl rfl ?_
  obtain ⟨p0, p1, p2, h⟩ := h
  refine s_callV (As := [vI (x1 + 1)]) (rest := []) (k := 5) dX1_split_87 lkX1_74 kn5 ⟨by rw [kk5]; rfl, by rw [kk5]; decide⟩ lmX1_fitFades rfl rfl (Nat.le_of_ble_eq_true rfl) (by decide) (Nat.le_refl 0) (Nat.le_refl 0) (hC := sp_X1_fitFades  p0 p1 p2) (fun r n2 S2 m20 hP => ?_)
  obtain ⟨⟨rfl, rfl⟩, rfl, hq⟩ := hP
  have h := h m20 hq
  exact s_return dX1_split_90 rfl ⟨⟨rfl, rfl⟩, rfl, h⟩
theorem ve_X1_split {x1 x2 : Int} {μ : am_M} {Q : am_M → Prop} (h : at_V kC 3 mX1_split 0 [vR 5, vI x1, vI x2, vU] [] μ Q) : cl_V kC 3 mX1_split [vR 5, vI x1, vI x2] μ Q := am_intro pmX1_split (Nat.le_of_ble_eq_true rfl) rfl h
/-- row c divided at a -/
def spl_T (g : Tb) (c a : Int) : Tb := fun i k =>
  if i < c then g i k
  else if i = c then (if k = 4 then a else if k = 6 then (if a < g c 6 then a else g c 6) else if k = 7 then 0 else g c k)
  else if i = c + 1 then (if k = 1 then g c 1 + a else if k = 3 then g c 3 + a else if k = 4 then g c 4 - a else if k = 6 then 0 else if k = 7 then (if g c 4 - a < g c 7 then g c 4 - a else g c 7) else g c k)
  else g (i - 1) k
theorem k8 {k : Int} (h0 : 0 ≤ k) (h1 : k < 8) : k = 0 ∨ k = 1 ∨ k = 2 ∨ k = 3 ∨ k = 4 ∨ k = 5 ∨ k = 6 ∨ k = 7 := by omega
theorem sp_X1_split {μ : am_M} {c a : Int} (h1 : ok_T (cg μ) (μ 5 1)) (h2 : μ 5 1 < 32) (h0 : 0 ≤ c ∧ c < μ 5 1) (ha : 0 < a ∧ a < cg μ c 4) : cl_V kC 3 mX1_split [vR 5, vI c, vI a] μ (fun m => ck_ μ m (μ 5 1 + 1) (spl_T (cg μ) c a)) := by
  have q1 := h1.1
  obtain ⟨b0, b1, b2, b3, b4, b5, b6, b7⟩ := h1.2 c h0.1 h0.2
  have z0 : 0 ≤ c ∧ c < μ 5 1 + 1 := by omega
  have z1 : 0 ≤ c + 1 ∧ c + 1 < μ 5 1 + 1 := by omega
  obtain ⟨n, hn⟩ : ∃ n, n = μ 5 1 + 1 := ⟨_, rfl⟩
  obtain ⟨g, hg⟩ : ∃ g, g = cg μ := ⟨_, rfl⟩
  rw [← hg] at b0 b1 b2 b3 b4 b5 b6 b7 ha
  rw [← hn] at z0 z1
  refine ve_X1_split (vc_X1_split_0 ⟨(by (try unfold am_in); (try unfold in_ at *); omega), (by (try unfold am_in); (try unfold in_ at *); omega), by omega, fun m1 c1 => ⟨(by (try unfold am_in); (try unfold in_ at *); omega), (by (try unfold am_in); (try unfold in_ at *); omega), fun m2 c2 => ?_⟩⟩)
  rw [← hg, ← hn] at c1
  rw [c1.2.1] at c2
  have d2 := ck_tr c1 c2 (fun e => e.cpy z0)
  refine ⟨(by (try unfold am_in); (try unfold in_ at *); omega), (by (try unfold am_in); (try unfold in_ at *); omega), by rw [d2.2.1]; ((try unfold am_in); (try unfold in_ at *); omega), fun m3 c3 => ?_⟩
  rw [d2.2.1] at c3
  have d3 := ck_tr d2 c3 (fun e => e.up _ _ _)
  refine ⟨(by (try unfold am_in); (try unfold in_ at *); omega), (by (try unfold am_in); (try unfold in_ at *); omega), by rw [d3.2.1]; ((try unfold am_in); (try unfold in_ at *); omega), fun m4 c4 => ?_⟩
  rw [d3.2.1] at c4
  have d4 := ck_tr d3 c4 (fun e => e.up _ _ _)
  have v4 : ∀ k, 0 ≤ k → k < 8 → cg m4 c k = if k = 4 then a else if k = 7 then 0 else g c k := fun k k0 k1 => by
    rw [ck_at d4 z0 ⟨k0, k1⟩]
    rcases k8 k0 k1 with rfl | rfl | rfl | rfl | rfl | rfl | rfl | rfl <;> simp [up_T, cpy_T, opn_T] <;> omega
  refine ⟨by rw [d4.2.1]; ((try unfold am_in); (try unfold in_ at *); omega), by rw [d4.2.1]; omega, ?_, fun m5 c5 => ?_⟩
  · rw [v4 4 (by omega) (by omega), v4 6 (by omega) (by omega)]
    simp
    ((try unfold am_in); (try unfold in_ at *); omega)
  rw [d4.2.1] at c5
  have d5 := ck_tr d4 c5 (fun e => e.fit z0)
  have v5 : ∀ k, 0 ≤ k → k < 8 → cg m5 (c + 1) k = g c k := fun k k0 k1 => by
    rw [ck_at d5 z1 ⟨k0, k1⟩]
    unfold fit_T up_T
    rw [if_neg (by omega), if_neg (by omega), if_neg (by omega), if_neg (by omega)]
    unfold cpy_T opn_T
    rw [if_pos rfl, if_pos (by omega)]
  refine ⟨(by (try unfold am_in); (try unfold in_ at *); omega), (by (try unfold am_in); (try unfold in_ at *); omega), by rw [v5 1 (by omega) (by omega)]; ((try unfold am_in); (try unfold in_ at *); omega), (by (try unfold am_in); (try unfold in_ at *); omega), (by (try unfold am_in); (try unfold in_ at *); omega), by rw [d5.2.1]; ((try unfold am_in); (try unfold in_ at *); omega), fun m6 c6 => ?_⟩
  rw [d5.2.1, v5 1 (by omega) (by omega)] at c6
  have d6 := ck_tr d5 c6 (fun e => e.up _ _ _)
  have v6 : ∀ k, 0 ≤ k → k < 8 → k ≠ 1 → cg m6 (c + 1) k = g c k := fun k k0 k1 kk => by
    rw [ck_at c6 z1 ⟨k0, k1⟩]
    unfold up_T
    rw [if_neg (by omega), v5 k k0 k1]
  refine ⟨(by (try unfold am_in); (try unfold in_ at *); omega), (by (try unfold am_in); (try unfold in_ at *); omega), by rw [v6 3 (by omega) (by omega) (by omega)]; ((try unfold am_in); (try unfold in_ at *); omega), (by (try unfold am_in); (try unfold in_ at *); omega), (by (try unfold am_in); (try unfold in_ at *); omega), by rw [d6.2.1]; ((try unfold am_in); (try unfold in_ at *); omega), fun m7 c7 => ?_⟩
  rw [d6.2.1, v6 3 (by omega) (by omega) (by omega)] at c7
  have d7 := ck_tr d6 c7 (fun e => e.up _ _ _)
  have v7 : ∀ k, 0 ≤ k → k < 8 → k ≠ 1 → k ≠ 3 → cg m7 (c + 1) k = g c k := fun k k0 k1 kk k3 => by
    rw [ck_at c7 z1 ⟨k0, k1⟩]
    unfold up_T
    rw [if_neg (by omega), v6 k k0 k1 kk]
  refine ⟨(by (try unfold am_in); (try unfold in_ at *); omega), (by (try unfold am_in); (try unfold in_ at *); omega), by rw [v7 4 (by omega) (by omega) (by omega) (by omega)]; ((try unfold am_in); (try unfold in_ at *); omega), (by (try unfold am_in); (try unfold in_ at *); omega), (by (try unfold am_in); (try unfold in_ at *); omega), by rw [d7.2.1]; ((try unfold am_in); (try unfold in_ at *); omega), fun m8 c8 => ?_⟩
  rw [d7.2.1, v7 4 (by omega) (by omega) (by omega) (by omega)] at c8
  have d8 := ck_tr d7 c8 (fun e => e.up _ _ _)
  refine ⟨(by (try unfold am_in); (try unfold in_ at *); omega), (by (try unfold am_in); (try unfold in_ at *); omega), by rw [d8.2.1]; ((try unfold am_in); (try unfold in_ at *); omega), fun m9 c9 => ?_⟩
  rw [d8.2.1] at c9
  have d9 := ck_tr d8 c9 (fun e => e.up _ _ _)
  have w4 : cg m9 (c + 1) 4 = g c 4 - a := by
    rw [ck_at d9 z1 (by omega)]
    simp [up_T]
  have w6 : cg m9 (c + 1) 6 = 0 := by
    rw [ck_at d9 z1 (by omega)]
    simp [up_T]
  refine ⟨by rw [d9.2.1]; ((try unfold am_in); (try unfold in_ at *); omega), by rw [d9.2.1]; omega, ⟨by rw [w4]; ((try unfold am_in); (try unfold in_ at *); omega), by rw [w6]; ((try unfold am_in); (try unfold in_ at *); omega)⟩, fun m10 c10 => ?_⟩
  rw [d9.2.1] at c10
  have d10 := ck_tr d9 c10 (fun e => e.fit z1)
  rw [← hg, ← hn]
  refine ⟨d10.1, d10.2.1, d10.2.2.tr (fun i k i0 i1 k0 k1 => ?_)⟩
  have s1 : ¬ c + 1 = c := by omega
  have s2 : ¬ c = c + 1 := by omega
  rcases Int.lt_trichotomy i c with q | q | q
  · have t1 : ¬ i = c := by omega
    have t2 : ¬ i = c + 1 := by omega
    have t3 : i ≤ c + 1 := by omega
    simp [fit_T, up_T, cpy_T, opn_T, spl_T, t1, t2, t3, q]
  · subst q
    have t3 : ¬ i < i := by omega
    rcases k8 k0 k1 with rfl | rfl | rfl | rfl | rfl | rfl | rfl | rfl <;> simp [fit_T, up_T, cpy_T, opn_T, spl_T, s1, s2] <;> (repeat' split) <;> omega
  · by_cases q' : i = c + 1
    · subst q'
      rcases k8 k0 k1 with rfl | rfl | rfl | rfl | rfl | rfl | rfl | rfl <;> simp [fit_T, up_T, cpy_T, opn_T, spl_T, s1, s2] <;> (repeat' split) <;> omega
    · have t1 : ¬ i = c := by omega
      have t3 : ¬ i ≤ c + 1 := by omega
      have t4 : ¬ i < c := by omega
      simp [fit_T, up_T, cpy_T, opn_T, spl_T, t1, q', t3, t4]

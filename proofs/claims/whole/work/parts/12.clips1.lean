/-! the class's clips: reads -/
theorem vc_X1_has_0 {x1 : Int} {μ : am_M} {Q : Int → am_M → Prop} (h : ∀ v1 : Int, v1 = (if x1 < 0 then 0 else (if x1 < μ 5 1 then 1 else 0)) → (v1 = 0 ∨ v1 = 1) ∧ Q v1 μ) : at_I kC 1 mX1_has 0 [vR 5, vI x1] [] μ Q := by
  refine s_iload_n dX1_has_0 rfl rfl ?_
  have kj2 : ∀ (v1 : Int), ((v1 = 0 ∨ v1 = 1) ∧ Q v1 μ) → at_I kC 1 mX1_has 17 [vU, vU] [vI v1] μ Q := by
    intro v1 h
    exact s_ireturn dX1_has_17 (Or.inr ⟨rfl, h.1⟩) ⟨⟨rfl, rfl⟩, _, rfl, h.2⟩
  refine s_if_lt dX1_has_1 (tgt := 16) (by decide) (fun cc => ?_) (fun cc => ?_)
  · have hp0 := cc
    refine s_iconst dX1_has_16 (by decide) ?_
    exact am_lesS (kj2 0 (h 0 (by rw [if_pos hp0]))) ⟨Or.inl rfl, Or.inl rfl, trivial⟩
  · have hp0 := cc
    refine s_iload_n dX1_has_4 rfl rfl ?_
    refine s_aload_n dX1_has_5 rfl rfl ?_
    refine s_getI (x := (μ 5 1)) dX1_has_6 flX1_15 kn5 kk5 rfl rfl ?_
    refine s_icmp_ge dX1_has_9 (tgt := 16) (by decide) (fun cc => ?_) (fun cc => ?_)
    · have hp1 := cc
      refine s_iconst dX1_has_16 (by decide) ?_
      exact am_lesS (kj2 0 (h 0 (by rw [if_neg (Int.not_lt.mpr hp0), if_neg (Int.not_lt.mpr hp1)]))) ⟨Or.inl rfl, Or.inl rfl, trivial⟩
    · have hp1 := cc
      refine s_iconst dX1_has_12 (by decide) ?_
      refine s_goto dX1_has_13 (tgt := 17) (by decide) ?_
      exact am_lesS (kj2 1 (h 1 (by rw [if_neg (Int.not_lt.mpr hp0), if_pos hp1]))) ⟨Or.inl rfl, Or.inl rfl, trivial⟩
theorem ve_X1_has {x1 : Int} {μ : am_M} {Q : Int → am_M → Prop} (h : at_I kC 1 mX1_has 0 [vR 5, vI x1] [] μ Q) : cl_I kC 1 mX1_has [vR 5, vI x1] μ Q := am_intro pmX1_has (Nat.le_of_ble_eq_true rfl) rfl h
theorem sp_X1_has {μ : am_M} {c : Int} {Q : Int → am_M → Prop} (hQ : Q (bI (0 ≤ c ∧ c < μ 5 1)) μ) : cl_I kC 1 mX1_has [vR 5, vI c] μ Q :=
  ve_X1_has (vc_X1_has_0 fun v1 e => ⟨by omega, by rw [show v1 = bI (0 ≤ c ∧ c < μ 5 1) from (by (try subst_vars); (repeat' split) <;> first | (exact bI_t (by (try unfold in_ at *); omega)) | (exact (bI_t (by (try unfold in_ at *); omega)).symm) | (exact bI_f (by (try unfold in_ at *); omega)) | (exact (bI_f (by (try unfold in_ at *); omega)).symm))]; exact hQ⟩)
theorem vc_X1_get_0 {x1 x2 : Int} {μ : am_M} {Q : Int → am_M → Prop} (h : (am_in (x1 * 8)) ∧ ((am_in ((x1 * 8) + x2)) ∧ ((0 ≤ (x1 * 8) + x2) ∧ ((x1 * 8) + x2 < 256) ∧ (Q (μ 6 (((x1 * 8) + x2).toNat)) μ)))) : at_I kC 1 mX1_get 0 [vR 5, vI x1, vI x2] [] μ Q := by
  refine s_aload_n dX1_get_0 rfl rfl ?_
  refine s_getR dX1_get_1 flX1_9 kn5 kk5 rfl kr5_0 ?_
  refine s_iload_n dX1_get_4 rfl rfl ?_
  refine s_bipush dX1_get_5 (by decide) ?_
  obtain ⟨c, h⟩ := h
  refine s_imul dX1_get_7 (am_w_id c) ?_
  refine s_iload_n dX1_get_8 rfl rfl ?_
  obtain ⟨c, h⟩ := h
  refine s_iadd dX1_get_9 (am_w_id c) ?_
  obtain ⟨c, c2, h⟩ := h
  refine s_iald (x := (μ 6 (((x1 * 8) + x2).toNat))) dX1_get_10 kn6 kk6 kl6 c c2 rfl ?_
  exact s_ireturn dX1_get_11 (Or.inl rfl) ⟨⟨rfl, rfl⟩, _, rfl, h⟩
theorem ve_X1_get {x1 x2 : Int} {μ : am_M} {Q : Int → am_M → Prop} (h : at_I kC 1 mX1_get 0 [vR 5, vI x1, vI x2] [] μ Q) : cl_I kC 1 mX1_get [vR 5, vI x1, vI x2] μ Q := am_intro pmX1_get (Nat.le_of_ble_eq_true rfl) rfl h
theorem sp_X1_get {μ : am_M} {c w : Int} {Q : Int → am_M → Prop} (h0 : in_ 0 32 c) (h1 : in_ 0 8 w) (hQ : Q (cg μ c w) μ) : cl_I kC 1 mX1_get [vR 5, vI c, vI w] μ Q :=
  ve_X1_get (vc_X1_get_0 ⟨(by (try unfold am_in); (try unfold in_ at *); omega), (by (try unfold am_in); (try unfold in_ at *); omega), (by (try unfold am_in); (try unfold in_ at *); omega), (by (try unfold am_in); (try unfold in_ at *); omega), hQ⟩)
theorem vc_X1_put_0 {x1 x2 x3 : Int} {μ : am_M} {Q : am_M → Prop} (h : (am_in (x1 * 8)) ∧ ((am_in ((x1 * 8) + x2)) ∧ ((0 ≤ (x1 * 8) + x2) ∧ ((x1 * 8) + x2 < 256) ∧ (Q (am_st μ 6 (am_up (μ 6) ((x1 * 8) + x2).toNat x3)))))) : at_V kC 1 mX1_put 0 [vR 5, vI x1, vI x2, vI x3] [] μ Q := by
  refine s_aload_n dX1_put_0 rfl rfl ?_
  refine s_getR dX1_put_1 flX1_9 kn5 kk5 rfl kr5_0 ?_
  refine s_iload_n dX1_put_4 rfl rfl ?_
  refine s_bipush dX1_put_5 (by decide) ?_
  obtain ⟨c, h⟩ := h
  refine s_imul dX1_put_7 (am_w_id c) ?_
  refine s_iload_n dX1_put_8 rfl rfl ?_
  obtain ⟨c, h⟩ := h
  refine s_iadd dX1_put_9 (am_w_id c) ?_
  refine s_iload_n dX1_put_10 rfl rfl ?_
  obtain ⟨c, c2, h⟩ := h
  refine s_iast dX1_put_11 kn6 kk6 kl6 c c2 rfl ?_
  exact s_return dX1_put_12 rfl ⟨⟨rfl, rfl⟩, rfl, h⟩
theorem ve_X1_put {x1 x2 x3 : Int} {μ : am_M} {Q : am_M → Prop} (h : at_V kC 1 mX1_put 0 [vR 5, vI x1, vI x2, vI x3] [] μ Q) : cl_V kC 1 mX1_put [vR 5, vI x1, vI x2, vI x3] μ Q := am_intro pmX1_put (Nat.le_of_ble_eq_true rfl) rfl h
theorem sp_X1_put {μ : am_M} {c w v : Int} {Q : am_M → Prop} (h0 : in_ 0 32 c) (h1 : in_ 0 8 w) (hQ : Q (am_st μ 6 (am_up (μ 6) (c * 8 + w).toNat v))) : cl_V kC 1 mX1_put [vR 5, vI c, vI w, vI v] μ Q :=
  ve_X1_put (vc_X1_put_0 ⟨(by (try unfold am_in); (try unfold in_ at *); omega), (by (try unfold am_in); (try unfold in_ at *); omega), (by (try unfold am_in); (try unfold in_ at *); omega), (by (try unfold am_in); (try unfold in_ at *); omega), hQ⟩)
/-- the end of a row of a table -/
def en_ (g : Tb) (i : Int) : Int := g i 1 + g i 4
theorem vc_X1_endOf_0 {x1 : Int} {μ : am_M} {Q : Int → am_M → Prop} (h : (in_ 0 32 x1) ∧ (in_ 0 8 1) ∧ ((in_ 0 32 x1) ∧ (in_ 0 8 4) ∧ ((am_in (cg μ x1 1 + (cg μ x1 4))) ∧ (Q (cg μ x1 1 + (cg μ x1 4)) μ)))) : at_I kC 2 mX1_endOf 0 [vR 5, vI x1] [] μ Q := by
  refine s_aload_n dX1_endOf_0 rfl rfl ?_
  refine s_iload_n dX1_endOf_1 rfl rfl ?_
  refine s_iconst dX1_endOf_2 (by decide) ?_
  obtain ⟨p0, p1, h⟩ := h
  refine s_callV (As := [vI x1, vI 1]) (rest := []) (k := 5) dX1_endOf_3 lkX1_19 kn5 ⟨by rw [kk5]; rfl, by rw [kk5]; decide⟩ lmX1_get rfl rfl (Nat.le_of_ble_eq_true rfl) (by decide) (Nat.le_refl 0) (Nat.le_refl 0) (hC := sp_X1_get (Q := fun z m => cg μ x1 1 = z ∧ μ = m) p0 p1 ⟨rfl, rfl⟩) (fun r n2 S2 m2 hP => ?_)
  obtain ⟨⟨rfl, rfl⟩, z, rfl, rfl, rfl⟩ := hP
  refine s_aload_n dX1_endOf_6 rfl rfl ?_
  refine s_iload_n dX1_endOf_7 rfl rfl ?_
  refine s_iconst dX1_endOf_8 (by decide) ?_
  obtain ⟨p0, p1, h⟩ := h
  refine s_callV (As := [vI x1, vI 4]) (rest := [vI (cg μ x1 1)]) (k := 5) dX1_endOf_9 lkX1_19 kn5 ⟨by rw [kk5]; rfl, by rw [kk5]; decide⟩ lmX1_get rfl rfl (Nat.le_of_ble_eq_true rfl) (by decide) (Nat.le_refl 0) (Nat.le_refl 0) (hC := sp_X1_get (Q := fun z m => cg μ x1 4 = z ∧ μ = m) p0 p1 ⟨rfl, rfl⟩) (fun r n2 S2 m2 hP => ?_)
  obtain ⟨⟨rfl, rfl⟩, z, rfl, rfl, rfl⟩ := hP
  obtain ⟨c, h⟩ := h
  refine s_iadd dX1_endOf_12 (am_w_id c) ?_
  exact s_ireturn dX1_endOf_13 (Or.inl rfl) ⟨⟨rfl, rfl⟩, _, rfl, h⟩
theorem ve_X1_endOf {x1 : Int} {μ : am_M} {Q : Int → am_M → Prop} (h : at_I kC 2 mX1_endOf 0 [vR 5, vI x1] [] μ Q) : cl_I kC 2 mX1_endOf [vR 5, vI x1] μ Q := am_intro pmX1_endOf (Nat.le_of_ble_eq_true rfl) rfl h
theorem sp_X1_endOf {μ : am_M} {c : Int} {Q : Int → am_M → Prop} (h0 : in_ 0 32 c) (h1 : am_in (en_ (cg μ) c)) (hQ : Q (en_ (cg μ) c) μ) : cl_I kC 2 mX1_endOf [vR 5, vI c] μ Q :=
  ve_X1_endOf (vc_X1_endOf_0 ⟨h0, (by (try unfold am_in); (try unfold in_ at *); omega), h0, (by (try unfold am_in); (try unfold in_ at *); omega), h1, hQ⟩)
/-- n rows, whose numbers are small -/
def ok_T (g : Tb) (n : Int) : Prop := in_ 0 33 n ∧ ∀ i, 0 ≤ i → i < n → in_ 0 4 (g i 0) ∧ in_ 0 601 (g i 1) ∧ in_ 0 6 (g i 2) ∧ in_ 0 201 (g i 3) ∧ in_ 0 601 (g i 4) ∧ in_ 0 201 (g i 5) ∧ in_ 0 601 (g i 6) ∧ in_ 0 601 (g i 7)
theorem ok_T.en {g : Tb} {n i : Int} (h : ok_T g n) (h0 : 0 ≤ i) (h1 : i < n) : am_in (en_ g i) := by
  obtain ⟨q0, q1, q2, q3, q4, -⟩ := h.2 i h0 h1
  unfold en_
  ((try unfold am_in); (try unfold in_ at *); omega)
theorem vc_X1_lastEnd_0 {μ : am_M} {Q : Int → am_M → Prop} (h : at_I kC 3 mX1_lastEnd 4 [vR 5, vI 0, vI 0] [] μ Q) : at_I kC 3 mX1_lastEnd 0 [vR 5, vU, vU] [] μ Q := by
  refine s_iconst dX1_lastEnd_0 (by decide) ?_
  refine s_istore_n dX1_lastEnd_1 rfl (by decide) (L' := [vR 5, vI 0, vU]) rfl ?_
  refine s_iconst dX1_lastEnd_2 (by decide) ?_
  refine s_istore_n dX1_lastEnd_3 rfl (by decide) (L' := [vR 5, vI 0, vI 0]) rfl ?_
  exact h
theorem vc_X1_lastEnd_4 {x1 x2 : Int} {μ : am_M} {Q : Int → am_M → Prop} (h : (μ 5 1 ≤ x2 → Q x1 μ) ∧ (x2 < μ 5 1 → (in_ 0 32 x2) ∧ (am_in (en_ (cg μ) x2)) ∧ ((am_in (x2 + 1)) ∧ (at_I kC 3 mX1_lastEnd 4 [vR 5, vI (if x1 < en_ (cg μ) x2 then en_ (cg μ) x2 else x1), vI (x2 + 1)] [] μ Q)))) : at_I kC 3 mX1_lastEnd 4 [vR 5, vI x1, vI x2] [] μ Q := by
  refine s_iload_n dX1_lastEnd_4 rfl rfl ?_
  refine s_aload_n dX1_lastEnd_5 rfl rfl ?_
  refine s_getI (x := (μ 5 1)) dX1_lastEnd_6 flX1_15 kn5 kk5 rfl rfl ?_
  refine s_icmp_ge dX1_lastEnd_9 (tgt := 28) (by decide) (fun cc => ?_) (fun cc => ?_)
  · have h := h.1 cc
    refine s_iload_n dX1_lastEnd_28 rfl rfl ?_
    exact s_ireturn dX1_lastEnd_29 (Or.inl rfl) ⟨⟨rfl, rfl⟩, _, rfl, h⟩
  · have h := h.2 cc
    refine s_iload_n dX1_lastEnd_12 rfl rfl ?_
    refine s_aload_n dX1_lastEnd_13 rfl rfl ?_
    refine s_iload_n dX1_lastEnd_14 rfl rfl ?_
    obtain ⟨p0, p1, h⟩ := h
    refine s_callV (As := [vI x2]) (rest := [vI x1]) (k := 5) dX1_lastEnd_15 lkX1_23 kn5 ⟨by rw [kk5]; rfl, by rw [kk5]; decide⟩ lmX1_endOf rfl rfl (Nat.le_of_ble_eq_true rfl) (by decide) (Nat.le_refl 0) (Nat.le_refl 0) (hC := sp_X1_endOf (Q := fun z m => en_ (cg μ) x2 = z ∧ μ = m) p0 p1 ⟨rfl, rfl⟩) (fun r n2 S2 m2 hP => ?_)
    obtain ⟨⟨rfl, rfl⟩, z, rfl, rfl, rfl⟩ := hP
    refine s_max dX1_lastEnd_18 wmX1_27 (Nat.le_of_ble_eq_true rfl) (by decide) rfl ?_
    refine s_istore_n dX1_lastEnd_21 rfl (by decide) (L' := [vR 5, vI (if x1 < en_ (cg μ) x2 then en_ (cg μ) x2 else x1), vI x2]) rfl ?_
    obtain ⟨c, h⟩ := h
    refine s_iinc dX1_lastEnd_22 rfl (am_w_id c) (by decide) (L' := [vR 5, vI (if x1 < en_ (cg μ) x2 then en_ (cg μ) x2 else x1), vI (x2 + 1)]) rfl ?_
    refine s_goto dX1_lastEnd_25 (tgt := 4) (by decide) ?_
    exact h
theorem ve_X1_lastEnd {μ : am_M} {Q : Int → am_M → Prop} (h : at_I kC 3 mX1_lastEnd 0 [vR 5, vU, vU] [] μ Q) : cl_I kC 3 mX1_lastEnd [vR 5] μ Q := am_intro pmX1_lastEnd (Nat.le_of_ble_eq_true rfl) rfl h
def la_ (g : Tb) (n : Int) : Int := fI (fun a i => if a < en_ g i then en_ g i else a) 0 n
theorem lp_X1_lastEnd {μ : am_M} {Q : Int → am_M → Prop} (hn : ok_T (cg μ) (μ 5 1)) (hQ : Q (la_ (cg μ) (μ 5 1)) μ) : ∀ (k : Nat) (x1 x2 : Int), x2 + k = μ 5 1 → 0 ≤ x2 → x1 = la_ (cg μ) x2 → at_I kC 3 mX1_lastEnd 4 [vR 5, vI x1, vI x2] [] μ Q := by
  intro k
  induction k with
  | zero =>
    intro x1 x2 h h0 e
    have h' : x2 = μ 5 1 := by omega
    exact vc_X1_lastEnd_4 ⟨fun _ => by rw [e, h']; exact hQ, fun q => by omega⟩
  | succ k ih =>
    intro x1 x2 h h0 e
    have q1 := hn.1
    refine vc_X1_lastEnd_4 ⟨fun q => by omega, fun q => ⟨(by (try unfold am_in); (try unfold in_ at *); omega), hn.en h0 q, (by (try unfold am_in); (try unfold in_ at *); omega), ih _ _ (by omega) (by omega) ?_⟩⟩
    unfold la_ at e ⊢
    rw [fI_s _ _ h0, e]
theorem sp_X1_lastEnd {μ : am_M} {Q : Int → am_M → Prop} (hn : ok_T (cg μ) (μ 5 1)) (hQ : Q (la_ (cg μ) (μ 5 1)) μ) : cl_I kC 3 mX1_lastEnd [vR 5] μ Q :=
  ve_X1_lastEnd (vc_X1_lastEnd_0 (lp_X1_lastEnd hn hQ (μ 5 1).toNat 0 0 (by have := hn.1; ((try unfold am_in); (try unfold in_ at *); omega)) (by omega) rfl))
/-- the row on a track that holds a frame -/
def on_p (g : Tb) (t f : Int) (i : Int) : Prop := g i 0 = t ∧ g i 1 ≤ f ∧ f < en_ g i
theorem vc_X1_on_0 {x1 x2 : Int} {μ : am_M} {Q : Int → am_M → Prop} (h : at_I kC 3 mX1_on 2 [vR 5, vI x1, vI x2, vI 0] [] μ Q) : at_I kC 3 mX1_on 0 [vR 5, vI x1, vI x2, vU] [] μ Q := by
  refine s_iconst dX1_on_0 (by decide) ?_
  refine s_istore_n dX1_on_1 rfl (by decide) (L' := [vR 5, vI x1, vI x2, vI 0]) rfl ?_
  exact h
theorem vc_X1_on_2 {x1 x2 x3 : Int} {μ : am_M} {Q : Int → am_M → Prop} (h : (μ 5 1 ≤ x3 → Q (-1) μ) ∧ (x3 < μ 5 1 → (in_ 0 32 x3) ∧ (in_ 0 8 0) ∧ ((cg μ x3 0 ≠ x1 → (am_in (x3 + 1)) ∧ (at_I kC 3 mX1_on 2 [vR 5, vI x1, vI x2, vI (x3 + 1)] [] μ Q)) ∧ (cg μ x3 0 = x1 → (in_ 0 32 x3) ∧ (in_ 0 8 1) ∧ ((x2 < cg μ x3 1 → (am_in (x3 + 1)) ∧ (at_I kC 3 mX1_on 2 [vR 5, vI x1, vI x2, vI (x3 + 1)] [] μ Q)) ∧ (cg μ x3 1 ≤ x2 → (in_ 0 32 x3) ∧ (am_in (en_ (cg μ) x3)) ∧ ((en_ (cg μ) x3 ≤ x2 → (am_in (x3 + 1)) ∧ (at_I kC 3 mX1_on 2 [vR 5, vI x1, vI x2, vI (x3 + 1)] [] μ Q)) ∧ (x2 < en_ (cg μ) x3 → Q x3 μ)))))))) : at_I kC 3 mX1_on 2 [vR 5, vI x1, vI x2, vI x3] [] μ Q := by
  refine s_iload_n dX1_on_2 rfl rfl ?_
  refine s_aload_n dX1_on_3 rfl rfl ?_
  refine s_getI (x := (μ 5 1)) dX1_on_4 flX1_15 kn5 kk5 rfl rfl ?_
  refine s_icmp_ge dX1_on_7 (tgt := 47) (by decide) (fun cc => ?_) (fun cc => ?_)
  · have h := h.1 cc
    refine s_iconst dX1_on_47 (by decide) ?_
    exact s_ireturn dX1_on_48 (Or.inl rfl) ⟨⟨rfl, rfl⟩, _, rfl, h⟩
  · have h := h.2 cc
    refine s_aload_n dX1_on_10 rfl rfl ?_
    refine s_iload_n dX1_on_11 rfl rfl ?_
    refine s_iconst dX1_on_12 (by decide) ?_
    obtain ⟨p0, p1, h⟩ := h
    refine s_callV (As := [vI x3, vI 0]) (rest := []) (k := 5) dX1_on_13 lkX1_19 kn5 ⟨by rw [kk5]; rfl, by rw [kk5]; decide⟩ lmX1_get rfl rfl (Nat.le_of_ble_eq_true rfl) (by decide) (Nat.le_refl 0) (Nat.le_refl 0) (hC := sp_X1_get (Q := fun z m => cg μ x3 0 = z ∧ μ = m) p0 p1 ⟨rfl, rfl⟩) (fun r n2 S2 m2 hP => ?_)
    obtain ⟨⟨rfl, rfl⟩, z, rfl, rfl, rfl⟩ := hP
    refine s_iload_n dX1_on_16 rfl rfl ?_
    refine s_icmp_ne dX1_on_17 (tgt := 41) (by decide) (fun cc => ?_) (fun cc => ?_)
    · have h := h.1 cc
      obtain ⟨c, h⟩ := h
      refine s_iinc dX1_on_41 rfl (am_w_id c) (by decide) (L' := [vR 5, vI x1, vI x2, vI (x3 + 1)]) rfl ?_
      refine s_goto dX1_on_44 (tgt := 2) (by decide) ?_
      exact h
    · have h := h.2 cc
      refine s_aload_n dX1_on_20 rfl rfl ?_
      refine s_iload_n dX1_on_21 rfl rfl ?_
      refine s_iconst dX1_on_22 (by decide) ?_
      obtain ⟨p0, p1, h⟩ := h
      refine s_callV (As := [vI x3, vI 1]) (rest := []) (k := 5) dX1_on_23 lkX1_19 kn5 ⟨by rw [kk5]; rfl, by rw [kk5]; decide⟩ lmX1_get rfl rfl (Nat.le_of_ble_eq_true rfl) (by decide) (Nat.le_refl 0) (Nat.le_refl 0) (hC := sp_X1_get (Q := fun z m => cg μ x3 1 = z ∧ μ = m) p0 p1 ⟨rfl, rfl⟩) (fun r n2 S2 m2 hP => ?_)
      obtain ⟨⟨rfl, rfl⟩, z, rfl, rfl, rfl⟩ := hP
      refine s_iload_n dX1_on_26 rfl rfl ?_
      refine s_icmp_gt dX1_on_27 (tgt := 41) (by decide) (fun cc => ?_) (fun cc => ?_)
      · have h := h.1 cc
        obtain ⟨c, h⟩ := h
        refine s_iinc dX1_on_41 rfl (am_w_id c) (by decide) (L' := [vR 5, vI x1, vI x2, vI (x3 + 1)]) rfl ?_
        refine s_goto dX1_on_44 (tgt := 2) (by decide) ?_
        exact h
      · have h := h.2 cc
        refine s_iload_n dX1_on_30 rfl rfl ?_
        refine s_aload_n dX1_on_31 rfl rfl ?_
        refine s_iload_n dX1_on_32 rfl rfl ?_
        obtain ⟨p0, p1, h⟩ := h
        refine s_callV (As := [vI x3]) (rest := [vI x2]) (k := 5) dX1_on_33 lkX1_23 kn5 ⟨by rw [kk5]; rfl, by rw [kk5]; decide⟩ lmX1_endOf rfl rfl (Nat.le_of_ble_eq_true rfl) (by decide) (Nat.le_refl 0) (Nat.le_refl 0) (hC := sp_X1_endOf (Q := fun z m => en_ (cg μ) x3 = z ∧ μ = m) p0 p1 ⟨rfl, rfl⟩) (fun r n2 S2 m2 hP => ?_)
        obtain ⟨⟨rfl, rfl⟩, z, rfl, rfl, rfl⟩ := hP
        refine s_icmp_ge dX1_on_36 (tgt := 41) (by decide) (fun cc => ?_) (fun cc => ?_)
        · have h := h.1 cc
          obtain ⟨c, h⟩ := h
          refine s_iinc dX1_on_41 rfl (am_w_id c) (by decide) (L' := [vR 5, vI x1, vI x2, vI (x3 + 1)]) rfl ?_
          refine s_goto dX1_on_44 (tgt := 2) (by decide) ?_
          exact h
        · have h := h.2 cc
          refine s_iload_n dX1_on_39 rfl rfl ?_
          exact s_ireturn dX1_on_40 (Or.inl rfl) ⟨⟨rfl, rfl⟩, _, rfl, h⟩
theorem ve_X1_on {x1 x2 : Int} {μ : am_M} {Q : Int → am_M → Prop} (h : at_I kC 3 mX1_on 0 [vR 5, vI x1, vI x2, vU] [] μ Q) : cl_I kC 3 mX1_on [vR 5, vI x1, vI x2] μ Q := am_intro pmX1_on (Nat.le_of_ble_eq_true rfl) rfl h
theorem lp_X1_on {μ : am_M} {t f : Int} {Q : Int → am_M → Prop} (hn : ok_T (cg μ) (μ 5 1)) (hQ : Q (fst_ (on_p (cg μ) t f) (μ 5 1) (-1)) μ) : ∀ (k : Nat) (x3 : Int), x3 + k = μ 5 1 → 0 ≤ x3 → no_ (on_p (cg μ) t f) x3 → at_I kC 3 mX1_on 2 [vR 5, vI t, vI f, vI x3] [] μ Q := by
  intro k
  induction k with
  | zero =>
    intro x3 h h0 e
    have h' : x3 = μ 5 1 := by omega
    exact vc_X1_on_2 ⟨fun _ => by rw [h'] at e; rw [no_f e] at hQ; exact hQ, fun q => by omega⟩
  | succ k ih =>
    intro x3 h h0 e
    have q1 := hn.1
    refine vc_X1_on_2 ⟨fun q => by omega, fun q => ⟨(by (try unfold am_in); (try unfold in_ at *); omega), (by (try unfold am_in); (try unfold in_ at *); omega), fun c => ⟨(by (try unfold am_in); (try unfold in_ at *); omega), ih _ (by omega) (by omega) (no_s e (fun z => c z.1))⟩, fun c => ⟨(by (try unfold am_in); (try unfold in_ at *); omega), (by (try unfold am_in); (try unfold in_ at *); omega), fun c2 => ⟨(by (try unfold am_in); (try unfold in_ at *); omega), ih _ (by omega) (by omega) (no_s e (fun z => by have := z.2.1; omega))⟩, fun c2 => ⟨(by (try unfold am_in); (try unfold in_ at *); omega), hn.en h0 q, fun c3 => ⟨(by (try unfold am_in); (try unfold in_ at *); omega), ih _ (by omega) (by omega) (no_s e (fun z => by have := z.2.2; omega))⟩, fun c3 => ?_⟩⟩⟩⟩
    rw [no_t e h0 q ⟨c, c2, c3⟩] at hQ
    exact hQ
theorem sp_X1_on {μ : am_M} {t f : Int} {Q : Int → am_M → Prop} (hn : ok_T (cg μ) (μ 5 1)) (hQ : Q (fst_ (on_p (cg μ) t f) (μ 5 1) (-1)) μ) : cl_I kC 3 mX1_on [vR 5, vI t, vI f] μ Q :=
  ve_X1_on (vc_X1_on_0 (lp_X1_on hn hQ (μ 5 1).toNat 0 (by have := hn.1; ((try unfold am_in); (try unfold in_ at *); omega)) (by omega) no_0))
theorem vc_X1_isFading_0 {x1 x2 : Int} {μ : am_M} {Q : Int → am_M → Prop} (h : (in_ 0 32 x1) ∧ (in_ 0 8 1) ∧ ((am_in (x2 - (cg μ x1 1))) ∧ ((in_ 0 32 x1) ∧ (in_ 0 8 6) ∧ (((cg μ x1 6 ≤ x2 - (cg μ x1 1) → (in_ 0 32 x1) ∧ (am_in (en_ (cg μ) x1)) ∧ ((am_in ((en_ (cg μ) x1) - x2)) ∧ ((in_ 0 32 x1) ∧ (in_ 0 8 7))))) ∧ (∀ v1 : Int, v1 = (if x2 - (cg μ x1 1) < cg μ x1 6 then 1 else (if cg μ x1 7 < (en_ (cg μ) x1) - x2 then 0 else 1)) → (v1 = 0 ∨ v1 = 1) ∧ Q v1 μ))))) : at_I kC 3 mX1_isFading 0 [vR 5, vI x1, vI x2] [] μ Q := by
  refine s_iload_n dX1_isFading_0 rfl rfl ?_
  refine s_aload_n dX1_isFading_1 rfl rfl ?_
  refine s_iload_n dX1_isFading_2 rfl rfl ?_
  refine s_iconst dX1_isFading_3 (by decide) ?_
  obtain ⟨p0, p1, h⟩ := h
  refine s_callV (As := [vI x1, vI 1]) (rest := [vI x2]) (k := 5) dX1_isFading_4 lkX1_19 kn5 ⟨by rw [kk5]; rfl, by rw [kk5]; decide⟩ lmX1_get rfl rfl (Nat.le_of_ble_eq_true rfl) (by decide) (Nat.le_refl 0) (Nat.le_refl 0) (hC := sp_X1_get (Q := fun z m => cg μ x1 1 = z ∧ μ = m) p0 p1 ⟨rfl, rfl⟩) (fun r n2 S2 m2 hP => ?_)
  obtain ⟨⟨rfl, rfl⟩, z, rfl, rfl, rfl⟩ := hP
  obtain ⟨c, h⟩ := h
  refine s_isub dX1_isFading_7 (am_w_id c) ?_
  refine s_aload_n dX1_isFading_8 rfl rfl ?_
  refine s_iload_n dX1_isFading_9 rfl rfl ?_
  refine s_bipush dX1_isFading_10 (by decide) ?_
  obtain ⟨p0, p1, h⟩ := h
  refine s_callV (As := [vI x1, vI 6]) (rest := [vI (x2 - (cg μ x1 1))]) (k := 5) dX1_isFading_12 lkX1_19 kn5 ⟨by rw [kk5]; rfl, by rw [kk5]; decide⟩ lmX1_get rfl rfl (Nat.le_of_ble_eq_true rfl) (by decide) (Nat.le_refl 0) (Nat.le_refl 0) (hC := sp_X1_get (Q := fun z m => cg μ x1 6 = z ∧ μ = m) p0 p1 ⟨rfl, rfl⟩) (fun r n2 S2 m2 hP => ?_)
  obtain ⟨⟨rfl, rfl⟩, z, rfl, rfl, rfl⟩ := hP
  obtain ⟨hsd, h⟩ := h
  have kj2 : ∀ (v1 : Int), ((v1 = 0 ∨ v1 = 1) ∧ Q v1 μ) → at_I kC 3 mX1_isFading 40 [vU, vU, vU] [vI v1] μ Q := by
    intro v1 h
    exact s_ireturn dX1_isFading_40 (Or.inr ⟨rfl, h.1⟩) ⟨⟨rfl, rfl⟩, _, rfl, h.2⟩
  refine s_icmp_lt dX1_isFading_15 (tgt := 35) (by decide) (fun cc => ?_) (fun cc => ?_)
  · have hp0 := cc
    refine s_iconst dX1_isFading_35 (by decide) ?_
    refine s_goto dX1_isFading_36 (tgt := 40) (by decide) ?_
    exact am_lesS (kj2 1 (h 1 (by rw [if_pos hp0]))) ⟨Or.inl rfl, Or.inl rfl, Or.inl rfl, trivial⟩
  · have hp0 := cc
    have hsd := hsd hp0
    refine s_aload_n dX1_isFading_18 rfl rfl ?_
    refine s_iload_n dX1_isFading_19 rfl rfl ?_
    obtain ⟨p0, p1, hsd⟩ := hsd
    refine s_callV (As := [vI x1]) (rest := []) (k := 5) dX1_isFading_20 lkX1_23 kn5 ⟨by rw [kk5]; rfl, by rw [kk5]; decide⟩ lmX1_endOf rfl rfl (Nat.le_of_ble_eq_true rfl) (by decide) (Nat.le_refl 0) (Nat.le_refl 0) (hC := sp_X1_endOf (Q := fun z m => en_ (cg μ) x1 = z ∧ μ = m) p0 p1 ⟨rfl, rfl⟩) (fun r n2 S2 m2 hP => ?_)
    obtain ⟨⟨rfl, rfl⟩, z, rfl, rfl, rfl⟩ := hP
    refine s_iload_n dX1_isFading_23 rfl rfl ?_
    obtain ⟨c, hsd⟩ := hsd
    refine s_isub dX1_isFading_24 (am_w_id c) ?_
    refine s_aload_n dX1_isFading_25 rfl rfl ?_
    refine s_iload_n dX1_isFading_26 rfl rfl ?_
    refine s_bipush dX1_isFading_27 (by decide) ?_
    obtain ⟨p0, p1⟩ := hsd
    refine s_callV (As := [vI x1, vI 7]) (rest := [vI ((en_ (cg μ) x1) - x2)]) (k := 5) dX1_isFading_29 lkX1_19 kn5 ⟨by rw [kk5]; rfl, by rw [kk5]; decide⟩ lmX1_get rfl rfl (Nat.le_of_ble_eq_true rfl) (by decide) (Nat.le_refl 0) (Nat.le_refl 0) (hC := sp_X1_get (Q := fun z m => cg μ x1 7 = z ∧ μ = m) p0 p1 ⟨rfl, rfl⟩) (fun r n2 S2 m2 hP => ?_)
    obtain ⟨⟨rfl, rfl⟩, z, rfl, rfl, rfl⟩ := hP
    refine s_icmp_gt dX1_isFading_32 (tgt := 39) (by decide) (fun cc => ?_) (fun cc => ?_)
    · have hp1 := cc
      refine s_iconst dX1_isFading_39 (by decide) ?_
      exact am_lesS (kj2 0 (h 0 (by rw [if_neg (Int.not_lt.mpr hp0), if_pos hp1]))) ⟨Or.inl rfl, Or.inl rfl, Or.inl rfl, trivial⟩
    · have hp1 := cc
      refine s_iconst dX1_isFading_35 (by decide) ?_
      refine s_goto dX1_isFading_36 (tgt := 40) (by decide) ?_
      exact am_lesS (kj2 1 (h 1 (by rw [if_neg (Int.not_lt.mpr hp0), if_neg (Int.not_lt.mpr hp1)]))) ⟨Or.inl rfl, Or.inl rfl, Or.inl rfl, trivial⟩
theorem ve_X1_isFading {x1 x2 : Int} {μ : am_M} {Q : Int → am_M → Prop} (h : at_I kC 3 mX1_isFading 0 [vR 5, vI x1, vI x2] [] μ Q) : cl_I kC 3 mX1_isFading [vR 5, vI x1, vI x2] μ Q := am_intro pmX1_isFading (Nat.le_of_ble_eq_true rfl) rfl h
def fad_p (g : Tb) (c f : Int) : Prop := f - g c 1 < g c 6 ∨ en_ g c - f ≤ g c 7
theorem sp_X1_isFading {μ : am_M} {c f n : Int} {Q : Int → am_M → Prop} (hn : ok_T (cg μ) n) (h0 : 0 ≤ c ∧ c < n) (h1 : in_ 0 600 f) (hQ : Q (bI (fad_p (cg μ) c f)) μ) : cl_I kC 3 mX1_isFading [vR 5, vI c, vI f] μ Q := by
  have q1 := hn.1
  have q2 := hn.en h0.1 h0.2
  obtain ⟨a0, a1, a2, a3, a4, a5, a6, a7⟩ := hn.2 c h0.1 h0.2
  have q3 : in_ 0 1202 (en_ (cg μ) c) := by unfold en_; ((try unfold am_in); (try unfold in_ at *); omega)
  refine ve_X1_isFading (vc_X1_isFading_0 ⟨(by (try unfold am_in); (try unfold in_ at *); omega), (by (try unfold am_in); (try unfold in_ at *); omega), (by (try unfold am_in); (try unfold in_ at *); omega), (by (try unfold am_in); (try unfold in_ at *); omega), (by (try unfold am_in); (try unfold in_ at *); omega), fun _ => ⟨(by (try unfold am_in); (try unfold in_ at *); omega), q2, (by (try unfold am_in); (try unfold in_ at *); omega), (by (try unfold am_in); (try unfold in_ at *); omega), (by (try unfold am_in); (try unfold in_ at *); omega)⟩, fun v1 e => ⟨by subst e; (repeat' split) <;> omega, ?_⟩⟩)
  rw [show v1 = bI (fad_p (cg μ) c f) from by
    unfold fad_p
    subst e
    (repeat' split) <;> first | (exact (bI_t (by omega)).symm) | (exact (bI_f (by omega)).symm)]
  exact hQ
theorem vc_X1_isFree_0 {x1 x2 x3 x4 : Int} {μ : am_M} {Q : Int → am_M → Prop} (h : at_I kC 3 mX1_isFree 3 [vR 5, vI x1, vI x2, vI x3, vI x4, vI 0] [] μ Q) : at_I kC 3 mX1_isFree 0 [vR 5, vI x1, vI x2, vI x3, vI x4, vU] [] μ Q := by
  refine s_iconst dX1_isFree_0 (by decide) ?_
  refine s_istore dX1_isFree_1 (by decide) (L' := [vR 5, vI x1, vI x2, vI x3, vI x4, vI 0]) rfl ?_
  exact h
theorem vc_X1_isFree_3 {x1 x2 x3 x4 x5 : Int} {μ : am_M} {Q : Int → am_M → Prop} (h : (μ 5 1 ≤ x5 → Q 1 μ) ∧ (x5 < μ 5 1 → (x5 = x4 → (am_in (x5 + 1)) ∧ (at_I kC 3 mX1_isFree 3 [vR 5, vI x1, vI x2, vI x3, vI x4, vI (x5 + 1)] [] μ Q)) ∧ (x5 ≠ x4 → (in_ 0 32 x5) ∧ (in_ 0 8 0) ∧ ((cg μ x5 0 ≠ x1 → (am_in (x5 + 1)) ∧ (at_I kC 3 mX1_isFree 3 [vR 5, vI x1, vI x2, vI x3, vI x4, vI (x5 + 1)] [] μ Q)) ∧ (cg μ x5 0 = x1 → (in_ 0 32 x5) ∧ (am_in (en_ (cg μ) x5)) ∧ ((en_ (cg μ) x5 ≤ x2 → (am_in (x5 + 1)) ∧ (at_I kC 3 mX1_isFree 3 [vR 5, vI x1, vI x2, vI x3, vI x4, vI (x5 + 1)] [] μ Q)) ∧ (x2 < en_ (cg μ) x5 → (in_ 0 32 x5) ∧ (in_ 0 8 1) ∧ ((am_in (x2 + x3)) ∧ ((x2 + x3 ≤ cg μ x5 1 → (am_in (x5 + 1)) ∧ (at_I kC 3 mX1_isFree 3 [vR 5, vI x1, vI x2, vI x3, vI x4, vI (x5 + 1)] [] μ Q)) ∧ (cg μ x5 1 < x2 + x3 → Q 0 μ)))))))))) : at_I kC 3 mX1_isFree 3 [vR 5, vI x1, vI x2, vI x3, vI x4, vI x5] [] μ Q := by
  refine s_iload dX1_isFree_3 rfl ?_
  refine s_aload_n dX1_isFree_5 rfl rfl ?_
  refine s_getI (x := (μ 5 1)) dX1_isFree_6 flX1_15 kn5 kk5 rfl rfl ?_
  refine s_icmp_ge dX1_isFree_9 (tgt := 61) (by decide) (fun cc => ?_) (fun cc => ?_)
  · have h := h.1 cc
    refine s_iconst dX1_isFree_61 (by decide) ?_
    exact s_ireturn dX1_isFree_62 (Or.inr ⟨rfl, by decide⟩) ⟨⟨rfl, rfl⟩, _, rfl, h⟩
  · have h := h.2 cc
    refine s_iload dX1_isFree_12 rfl ?_
    refine s_iload dX1_isFree_14 rfl ?_
    refine s_icmp_eq dX1_isFree_16 (tgt := 55) (by decide) (fun cc => ?_) (fun cc => ?_)
    · have h := h.1 cc
      obtain ⟨c, h⟩ := h
      refine s_iinc dX1_isFree_55 rfl (am_w_id c) (by decide) (L' := [vR 5, vI x1, vI x2, vI x3, vI x4, vI (x5 + 1)]) rfl ?_
      refine s_goto dX1_isFree_58 (tgt := 3) (by decide) ?_
      exact h
    · have h := h.2 cc
      refine s_aload_n dX1_isFree_19 rfl rfl ?_
      refine s_iload dX1_isFree_20 rfl ?_
      refine s_iconst dX1_isFree_22 (by decide) ?_
      obtain ⟨p0, p1, h⟩ := h
      refine s_callV (As := [vI x5, vI 0]) (rest := []) (k := 5) dX1_isFree_23 lkX1_19 kn5 ⟨by rw [kk5]; rfl, by rw [kk5]; decide⟩ lmX1_get rfl rfl (Nat.le_of_ble_eq_true rfl) (by decide) (Nat.le_refl 0) (Nat.le_refl 0) (hC := sp_X1_get (Q := fun z m => cg μ x5 0 = z ∧ μ = m) p0 p1 ⟨rfl, rfl⟩) (fun r n2 S2 m2 hP => ?_)
      obtain ⟨⟨rfl, rfl⟩, z, rfl, rfl, rfl⟩ := hP
      refine s_iload_n dX1_isFree_26 rfl rfl ?_
      refine s_icmp_ne dX1_isFree_27 (tgt := 55) (by decide) (fun cc => ?_) (fun cc => ?_)
      · have h := h.1 cc
        obtain ⟨c, h⟩ := h
        refine s_iinc dX1_isFree_55 rfl (am_w_id c) (by decide) (L' := [vR 5, vI x1, vI x2, vI x3, vI x4, vI (x5 + 1)]) rfl ?_
        refine s_goto dX1_isFree_58 (tgt := 3) (by decide) ?_
        exact h
      · have h := h.2 cc
        refine s_iload_n dX1_isFree_30 rfl rfl ?_
        refine s_aload_n dX1_isFree_31 rfl rfl ?_
        refine s_iload dX1_isFree_32 rfl ?_
        obtain ⟨p0, p1, h⟩ := h
        refine s_callV (As := [vI x5]) (rest := [vI x2]) (k := 5) dX1_isFree_34 lkX1_23 kn5 ⟨by rw [kk5]; rfl, by rw [kk5]; decide⟩ lmX1_endOf rfl rfl (Nat.le_of_ble_eq_true rfl) (by decide) (Nat.le_refl 0) (Nat.le_refl 0) (hC := sp_X1_endOf (Q := fun z m => en_ (cg μ) x5 = z ∧ μ = m) p0 p1 ⟨rfl, rfl⟩) (fun r n2 S2 m2 hP => ?_)
        obtain ⟨⟨rfl, rfl⟩, z, rfl, rfl, rfl⟩ := hP
        refine s_icmp_ge dX1_isFree_37 (tgt := 55) (by decide) (fun cc => ?_) (fun cc => ?_)
        · have h := h.1 cc
          obtain ⟨c, h⟩ := h
          refine s_iinc dX1_isFree_55 rfl (am_w_id c) (by decide) (L' := [vR 5, vI x1, vI x2, vI x3, vI x4, vI (x5 + 1)]) rfl ?_
          refine s_goto dX1_isFree_58 (tgt := 3) (by decide) ?_
          exact h
        · have h := h.2 cc
          refine s_aload_n dX1_isFree_40 rfl rfl ?_
          refine s_iload dX1_isFree_41 rfl ?_
          refine s_iconst dX1_isFree_43 (by decide) ?_
          obtain ⟨p0, p1, h⟩ := h
          refine s_callV (As := [vI x5, vI 1]) (rest := []) (k := 5) dX1_isFree_44 lkX1_19 kn5 ⟨by rw [kk5]; rfl, by rw [kk5]; decide⟩ lmX1_get rfl rfl (Nat.le_of_ble_eq_true rfl) (by decide) (Nat.le_refl 0) (Nat.le_refl 0) (hC := sp_X1_get (Q := fun z m => cg μ x5 1 = z ∧ μ = m) p0 p1 ⟨rfl, rfl⟩) (fun r n2 S2 m2 hP => ?_)
          obtain ⟨⟨rfl, rfl⟩, z, rfl, rfl, rfl⟩ := hP
          refine s_iload_n dX1_isFree_47 rfl rfl ?_
          refine s_iload_n dX1_isFree_48 rfl rfl ?_
          obtain ⟨c, h⟩ := h
          refine s_iadd dX1_isFree_49 (am_w_id c) ?_
          refine s_icmp_ge dX1_isFree_50 (tgt := 55) (by decide) (fun cc => ?_) (fun cc => ?_)
          · have h := h.1 cc
            obtain ⟨c, h⟩ := h
            refine s_iinc dX1_isFree_55 rfl (am_w_id c) (by decide) (L' := [vR 5, vI x1, vI x2, vI x3, vI x4, vI (x5 + 1)]) rfl ?_
            refine s_goto dX1_isFree_58 (tgt := 3) (by decide) ?_
            exact h
          · have h := h.2 cc
            refine s_iconst dX1_isFree_53 (by decide) ?_
            exact s_ireturn dX1_isFree_54 (Or.inr ⟨rfl, by decide⟩) ⟨⟨rfl, rfl⟩, _, rfl, h⟩
theorem ve_X1_isFree {x1 x2 x3 x4 : Int} {μ : am_M} {Q : Int → am_M → Prop} (h : at_I kC 3 mX1_isFree 0 [vR 5, vI x1, vI x2, vI x3, vI x4, vU] [] μ Q) : cl_I kC 3 mX1_isFree [vR 5, vI x1, vI x2, vI x3, vI x4] μ Q := am_intro pmX1_isFree (Nat.le_of_ble_eq_true rfl) rfl h
/-- the row on a track that has a frame in common -/
def ov_p (g : Tb) (t s l ex : Int) (i : Int) : Prop := i ≠ ex ∧ g i 0 = t ∧ s < en_ g i ∧ g i 1 < s + l
def fre_ (g : Tb) (n t s l ex : Int) : Prop := ∀ i, 0 ≤ i → i < n → ¬ ov_p g t s l ex i
theorem lp_X1_isFree {μ : am_M} {t s l ex : Int} {Q : Int → am_M → Prop} (hn : ok_T (cg μ) (μ 5 1)) (hl : am_in (s + l)) (hQ : Q (bI (fre_ (cg μ) (μ 5 1) t s l ex)) μ) : ∀ (k : Nat) (x : Int), x + k = μ 5 1 → 0 ≤ x → no_ (ov_p (cg μ) t s l ex) x → at_I kC 3 mX1_isFree 3 [vR 5, vI t, vI s, vI l, vI ex, vI x] [] μ Q := by
  intro k
  induction k with
  | zero =>
    intro x h h0 e
    have h' : x = μ 5 1 := by omega
    exact vc_X1_isFree_3 ⟨fun _ => by rw [h'] at e; rw [bI_t (p := fre_ (cg μ) (μ 5 1) t s l ex) e] at hQ; exact hQ, fun q => by omega⟩
  | succ k ih =>
    intro x h h0 e
    have q1 := hn.1
    have go : ∀ hh : ¬ ov_p (cg μ) t s l ex x, am_in (x + 1) ∧ at_I kC 3 mX1_isFree 3 [vR 5, vI t, vI s, vI l, vI ex, vI (x + 1)] [] μ Q := fun hh => ⟨(by (try unfold am_in); (try unfold in_ at *); omega), ih _ (by omega) (by omega) (no_s e hh)⟩
    refine vc_X1_isFree_3 ⟨fun q => by omega, fun q => ⟨fun c => go (fun z => z.1 c), fun c => ⟨(by (try unfold am_in); (try unfold in_ at *); omega), (by (try unfold am_in); (try unfold in_ at *); omega), fun c2 => go (fun z => c2 z.2.1), fun c2 => ⟨(by (try unfold am_in); (try unfold in_ at *); omega), hn.en h0 q, fun c3 => go (fun z => by have := z.2.2.1; omega), fun c3 => ⟨(by (try unfold am_in); (try unfold in_ at *); omega), (by (try unfold am_in); (try unfold in_ at *); omega), hl, fun c4 => go (fun z => by have := z.2.2.2; omega), fun c4 => ?_⟩⟩⟩⟩⟩
    rw [bI_f (fun z => z x h0 q ⟨c, c2, c3, c4⟩)] at hQ
    exact hQ
theorem sp_X1_isFree {μ : am_M} {t s l ex : Int} {Q : Int → am_M → Prop} (hn : ok_T (cg μ) (μ 5 1)) (hl : am_in (s + l)) (hQ : Q (bI (fre_ (cg μ) (μ 5 1) t s l ex)) μ) : cl_I kC 3 mX1_isFree [vR 5, vI t, vI s, vI l, vI ex] μ Q :=
  ve_X1_isFree (vc_X1_isFree_0 (lp_X1_isFree hn hl hQ (μ 5 1).toNat 0 (by have := hn.1; ((try unfold am_in); (try unfold in_ at *); omega)) (by omega) no_0))
/-- how many rows of n have p; the sum of v over those that have -/
def cnt_ (p : Int → Bool) (v : Int → Int) (n : Int) : Int := fI (fun a i => a + if p i = true then v i else 0) 0 n
theorem cnt_s {p : Int → Bool} {v : Int → Int} {x : Int} (h : 0 ≤ x) : cnt_ p v (x + 1) = cnt_ p v x + if p x = true then v x else 0 := fI_s _ _ h
theorem cnt_b {p : Int → Bool} {v : Int → Int} {n B : Int} (hn : 0 ≤ n) (hB : 0 ≤ B) (h : ∀ i, 0 ≤ i → i < n → 0 ≤ v i ∧ v i ≤ B) : 0 ≤ cnt_ p v n ∧ cnt_ p v n ≤ n * B := by
  refine fI_i (fun a i => 0 ≤ a ∧ a ≤ i * B) (by omega) hn (fun i b h0 h1 ⟨q0, q1⟩ => ?_)
  have := h i h0 h1
  rw [Int.add_mul]
  split <;> omega
theorem cnt_c {p q : Int → Bool} {v w : Int → Int} {n : Int} (h : ∀ i, 0 ≤ i → i < n → p i = q i ∧ v i = w i) : cnt_ p v n = cnt_ q w n := fI_c (fun i b h0 h1 => by rw [(h i h0 h1).1, (h i h0 h1).2])
theorem vc_X1_usersOf_0 {x1 : Int} {μ : am_M} {Q : Int → am_M → Prop} (h : at_I kC 2 mX1_usersOf 4 [vR 5, vI x1, vI 0, vI 0] [] μ Q) : at_I kC 2 mX1_usersOf 0 [vR 5, vI x1, vU, vU] [] μ Q := by
  refine s_iconst dX1_usersOf_0 (by decide) ?_
  refine s_istore_n dX1_usersOf_1 rfl (by decide) (L' := [vR 5, vI x1, vI 0, vU]) rfl ?_
  refine s_iconst dX1_usersOf_2 (by decide) ?_
  refine s_istore_n dX1_usersOf_3 rfl (by decide) (L' := [vR 5, vI x1, vI 0, vI 0]) rfl ?_
  exact h
theorem vc_X1_usersOf_4 {x1 x2 x3 : Int} {μ : am_M} {Q : Int → am_M → Prop} (h : (μ 5 1 ≤ x3 → Q x2 μ) ∧ (x3 < μ 5 1 → (in_ 0 32 x3) ∧ (in_ 0 8 2) ∧ (∀ v1 : Int, v1 = (if cg μ x3 2 = x1 then 1 else 0) → (am_in (x2 + v1)) ∧ ((am_in (x3 + 1)) ∧ (at_I kC 2 mX1_usersOf 4 [vR 5, vI x1, vI (x2 + v1), vI (x3 + 1)] [] μ Q))))) : at_I kC 2 mX1_usersOf 4 [vR 5, vI x1, vI x2, vI x3] [] μ Q := by
  refine s_iload_n dX1_usersOf_4 rfl rfl ?_
  refine s_aload_n dX1_usersOf_5 rfl rfl ?_
  refine s_getI (x := (μ 5 1)) dX1_usersOf_6 flX1_15 kn5 kk5 rfl rfl ?_
  refine s_icmp_ge dX1_usersOf_9 (tgt := 36) (by decide) (fun cc => ?_) (fun cc => ?_)
  · have h := h.1 cc
    refine s_iload_n dX1_usersOf_36 rfl rfl ?_
    exact s_ireturn dX1_usersOf_37 (Or.inl rfl) ⟨⟨rfl, rfl⟩, _, rfl, h⟩
  · have h := h.2 cc
    refine s_iload_n dX1_usersOf_12 rfl rfl ?_
    refine s_aload_n dX1_usersOf_13 rfl rfl ?_
    refine s_iload_n dX1_usersOf_14 rfl rfl ?_
    refine s_iconst dX1_usersOf_15 (by decide) ?_
    obtain ⟨p0, p1, h⟩ := h
    refine s_callV (As := [vI x3, vI 2]) (rest := [vI x2]) (k := 5) dX1_usersOf_16 lkX1_19 kn5 ⟨by rw [kk5]; rfl, by rw [kk5]; decide⟩ lmX1_get rfl rfl (Nat.le_of_ble_eq_true rfl) (by decide) (Nat.le_refl 0) (Nat.le_refl 0) (hC := sp_X1_get (Q := fun z m => cg μ x3 2 = z ∧ μ = m) p0 p1 ⟨rfl, rfl⟩) (fun r n2 S2 m2 hP => ?_)
    obtain ⟨⟨rfl, rfl⟩, z, rfl, rfl, rfl⟩ := hP
    refine s_iload_n dX1_usersOf_19 rfl rfl ?_
    have kj2 : ∀ (v1 : Int), ((am_in (x2 + v1)) ∧ ((am_in (x3 + 1)) ∧ (at_I kC 2 mX1_usersOf 4 [vR 5, vI x1, vI (x2 + v1), vI (x3 + 1)] [] μ Q))) → at_I kC 2 mX1_usersOf 28 [vR 5, vI x1, vU, vI x3] [vI v1, vI x2] μ Q := by
      intro v1 h
      obtain ⟨c, h⟩ := h
      refine s_iadd dX1_usersOf_28 (am_w_id c) ?_
      refine s_istore_n dX1_usersOf_29 rfl (by decide) (L' := [vR 5, vI x1, vI (x2 + v1), vI x3]) rfl ?_
      obtain ⟨c, h⟩ := h
      refine s_iinc dX1_usersOf_30 rfl (am_w_id c) (by decide) (L' := [vR 5, vI x1, vI (x2 + v1), vI (x3 + 1)]) rfl ?_
      refine s_goto dX1_usersOf_33 (tgt := 4) (by decide) ?_
      exact h
    refine s_icmp_ne dX1_usersOf_20 (tgt := 27) (by decide) (fun cc => ?_) (fun cc => ?_)
    · have hp0 := cc
      refine s_iconst dX1_usersOf_27 (by decide) ?_
      exact am_lesS (kj2 0 (h 0 (by rw [if_neg hp0]))) ⟨Or.inr rfl, Or.inr rfl, Or.inl rfl, Or.inr rfl, trivial⟩
    · have hp0 := cc
      refine s_iconst dX1_usersOf_23 (by decide) ?_
      refine s_goto dX1_usersOf_24 (tgt := 28) (by decide) ?_
      exact am_lesS (kj2 1 (h 1 (by rw [if_pos hp0]))) ⟨Or.inr rfl, Or.inr rfl, Or.inl rfl, Or.inr rfl, trivial⟩
theorem ve_X1_usersOf {x1 : Int} {μ : am_M} {Q : Int → am_M → Prop} (h : at_I kC 2 mX1_usersOf 0 [vR 5, vI x1, vU, vU] [] μ Q) : cl_I kC 2 mX1_usersOf [vR 5, vI x1] μ Q := am_intro pmX1_usersOf (Nat.le_of_ble_eq_true rfl) rfl h
theorem lp_X1_usersOf {μ : am_M} {t : Int} {Q : Int → am_M → Prop} (hn : ok_T (cg μ) (μ 5 1)) (hQ : Q (cnt_ (fun i => decide (cg μ i 2 = t)) (fun _ => 1) (μ 5 1)) μ) : ∀ (k : Nat) (x2 x3 : Int), x3 + k = μ 5 1 → 0 ≤ x3 → x2 = cnt_ (fun i => decide (cg μ i 2 = t)) (fun _ => 1) x3 → at_I kC 2 mX1_usersOf 4 [vR 5, vI t, vI x2, vI x3] [] μ Q := by
  intro k
  induction k with
  | zero =>
    intro x2 x3 h h0 e
    have h' : x3 = μ 5 1 := by omega
    exact vc_X1_usersOf_4 ⟨fun _ => by rw [e, h']; exact hQ, fun q => by omega⟩
  | succ k ih =>
    intro x2 x3 h h0 e
    have q1 := hn.1
    have q2 := cnt_b (p := fun i => decide (cg μ i 2 = t)) (v := fun _ => 1) (B := 1) h0 (by omega) (fun i _ _ => by omega)
    refine vc_X1_usersOf_4 ⟨fun q => by omega, fun q => ⟨(by (try unfold am_in); (try unfold in_ at *); omega), (by (try unfold am_in); (try unfold in_ at *); omega), fun v1 ev => ⟨by subst ev; split <;> ((try unfold am_in); (try unfold in_ at *); omega), (by (try unfold am_in); (try unfold in_ at *); omega), ih _ _ (by omega) (by omega) ?_⟩⟩⟩
    rw [cnt_s h0, e, ev]
    simp
theorem sp_X1_usersOf {μ : am_M} {t : Int} {Q : Int → am_M → Prop} (hn : ok_T (cg μ) (μ 5 1)) (hQ : Q (cnt_ (fun i => decide (cg μ i 2 = t)) (fun _ => 1) (μ 5 1)) μ) : cl_I kC 2 mX1_usersOf [vR 5, vI t] μ Q :=
  ve_X1_usersOf (vc_X1_usersOf_0 (lp_X1_usersOf hn hQ (μ 5 1).toNat 0 0 (by have := hn.1; ((try unfold am_in); (try unfold in_ at *); omega)) (by omega) rfl))
theorem vc_X1_clipsOn_0 {x1 : Int} {μ : am_M} {Q : Int → am_M → Prop} (h : at_I kC 2 mX1_clipsOn 4 [vR 5, vI x1, vI 0, vI 0] [] μ Q) : at_I kC 2 mX1_clipsOn 0 [vR 5, vI x1, vU, vU] [] μ Q := by
  refine s_iconst dX1_clipsOn_0 (by decide) ?_
  refine s_istore_n dX1_clipsOn_1 rfl (by decide) (L' := [vR 5, vI x1, vI 0, vU]) rfl ?_
  refine s_iconst dX1_clipsOn_2 (by decide) ?_
  refine s_istore_n dX1_clipsOn_3 rfl (by decide) (L' := [vR 5, vI x1, vI 0, vI 0]) rfl ?_
  exact h
theorem vc_X1_clipsOn_4 {x1 x2 x3 : Int} {μ : am_M} {Q : Int → am_M → Prop} (h : (μ 5 1 ≤ x3 → Q x2 μ) ∧ (x3 < μ 5 1 → (in_ 0 32 x3) ∧ (in_ 0 8 0) ∧ (∀ v1 : Int, v1 = (if cg μ x3 0 = x1 then 1 else 0) → (am_in (x2 + v1)) ∧ ((am_in (x3 + 1)) ∧ (at_I kC 2 mX1_clipsOn 4 [vR 5, vI x1, vI (x2 + v1), vI (x3 + 1)] [] μ Q))))) : at_I kC 2 mX1_clipsOn 4 [vR 5, vI x1, vI x2, vI x3] [] μ Q := by
  refine s_iload_n dX1_clipsOn_4 rfl rfl ?_
  refine s_aload_n dX1_clipsOn_5 rfl rfl ?_
  refine s_getI (x := (μ 5 1)) dX1_clipsOn_6 flX1_15 kn5 kk5 rfl rfl ?_
  refine s_icmp_ge dX1_clipsOn_9 (tgt := 36) (by decide) (fun cc => ?_) (fun cc => ?_)
  · have h := h.1 cc
    refine s_iload_n dX1_clipsOn_36 rfl rfl ?_
    exact s_ireturn dX1_clipsOn_37 (Or.inl rfl) ⟨⟨rfl, rfl⟩, _, rfl, h⟩
  · have h := h.2 cc
    refine s_iload_n dX1_clipsOn_12 rfl rfl ?_
    refine s_aload_n dX1_clipsOn_13 rfl rfl ?_
    refine s_iload_n dX1_clipsOn_14 rfl rfl ?_
    refine s_iconst dX1_clipsOn_15 (by decide) ?_
    obtain ⟨p0, p1, h⟩ := h
    refine s_callV (As := [vI x3, vI 0]) (rest := [vI x2]) (k := 5) dX1_clipsOn_16 lkX1_19 kn5 ⟨by rw [kk5]; rfl, by rw [kk5]; decide⟩ lmX1_get rfl rfl (Nat.le_of_ble_eq_true rfl) (by decide) (Nat.le_refl 0) (Nat.le_refl 0) (hC := sp_X1_get (Q := fun z m => cg μ x3 0 = z ∧ μ = m) p0 p1 ⟨rfl, rfl⟩) (fun r n2 S2 m2 hP => ?_)
    obtain ⟨⟨rfl, rfl⟩, z, rfl, rfl, rfl⟩ := hP
    refine s_iload_n dX1_clipsOn_19 rfl rfl ?_
    have kj2 : ∀ (v1 : Int), ((am_in (x2 + v1)) ∧ ((am_in (x3 + 1)) ∧ (at_I kC 2 mX1_clipsOn 4 [vR 5, vI x1, vI (x2 + v1), vI (x3 + 1)] [] μ Q))) → at_I kC 2 mX1_clipsOn 28 [vR 5, vI x1, vU, vI x3] [vI v1, vI x2] μ Q := by
      intro v1 h
      obtain ⟨c, h⟩ := h
      refine s_iadd dX1_clipsOn_28 (am_w_id c) ?_
      refine s_istore_n dX1_clipsOn_29 rfl (by decide) (L' := [vR 5, vI x1, vI (x2 + v1), vI x3]) rfl ?_
      obtain ⟨c, h⟩ := h
      refine s_iinc dX1_clipsOn_30 rfl (am_w_id c) (by decide) (L' := [vR 5, vI x1, vI (x2 + v1), vI (x3 + 1)]) rfl ?_
      refine s_goto dX1_clipsOn_33 (tgt := 4) (by decide) ?_
      exact h
    refine s_icmp_ne dX1_clipsOn_20 (tgt := 27) (by decide) (fun cc => ?_) (fun cc => ?_)
    · have hp0 := cc
      refine s_iconst dX1_clipsOn_27 (by decide) ?_
      exact am_lesS (kj2 0 (h 0 (by rw [if_neg hp0]))) ⟨Or.inr rfl, Or.inr rfl, Or.inl rfl, Or.inr rfl, trivial⟩
    · have hp0 := cc
      refine s_iconst dX1_clipsOn_23 (by decide) ?_
      refine s_goto dX1_clipsOn_24 (tgt := 28) (by decide) ?_
      exact am_lesS (kj2 1 (h 1 (by rw [if_pos hp0]))) ⟨Or.inr rfl, Or.inr rfl, Or.inl rfl, Or.inr rfl, trivial⟩
theorem ve_X1_clipsOn {x1 : Int} {μ : am_M} {Q : Int → am_M → Prop} (h : at_I kC 2 mX1_clipsOn 0 [vR 5, vI x1, vU, vU] [] μ Q) : cl_I kC 2 mX1_clipsOn [vR 5, vI x1] μ Q := am_intro pmX1_clipsOn (Nat.le_of_ble_eq_true rfl) rfl h
theorem lp_X1_clipsOn {μ : am_M} {t : Int} {Q : Int → am_M → Prop} (hn : ok_T (cg μ) (μ 5 1)) (hQ : Q (cnt_ (fun i => decide (cg μ i 0 = t)) (fun _ => 1) (μ 5 1)) μ) : ∀ (k : Nat) (x2 x3 : Int), x3 + k = μ 5 1 → 0 ≤ x3 → x2 = cnt_ (fun i => decide (cg μ i 0 = t)) (fun _ => 1) x3 → at_I kC 2 mX1_clipsOn 4 [vR 5, vI t, vI x2, vI x3] [] μ Q := by
  intro k
  induction k with
  | zero =>
    intro x2 x3 h h0 e
    have h' : x3 = μ 5 1 := by omega
    exact vc_X1_clipsOn_4 ⟨fun _ => by rw [e, h']; exact hQ, fun q => by omega⟩
  | succ k ih =>
    intro x2 x3 h h0 e
    have q1 := hn.1
    have q2 := cnt_b (p := fun i => decide (cg μ i 0 = t)) (v := fun _ => 1) (B := 1) h0 (by omega) (fun i _ _ => by omega)
    refine vc_X1_clipsOn_4 ⟨fun q => by omega, fun q => ⟨(by (try unfold am_in); (try unfold in_ at *); omega), (by (try unfold am_in); (try unfold in_ at *); omega), fun v1 ev => ⟨by subst ev; split <;> ((try unfold am_in); (try unfold in_ at *); omega), (by (try unfold am_in); (try unfold in_ at *); omega), ih _ _ (by omega) (by omega) ?_⟩⟩⟩
    rw [cnt_s h0, e, ev]
    simp
theorem sp_X1_clipsOn {μ : am_M} {t : Int} {Q : Int → am_M → Prop} (hn : ok_T (cg μ) (μ 5 1)) (hQ : Q (cnt_ (fun i => decide (cg μ i 0 = t)) (fun _ => 1) (μ 5 1)) μ) : cl_I kC 2 mX1_clipsOn [vR 5, vI t] μ Q :=
  ve_X1_clipsOn (vc_X1_clipsOn_0 (lp_X1_clipsOn hn hQ (μ 5 1).toNat 0 0 (by have := hn.1; ((try unfold am_in); (try unfold in_ at *); omega)) (by omega) rfl))
theorem vc_X1_framesOn_0 {x1 : Int} {μ : am_M} {Q : Int → am_M → Prop} (h : at_I kC 2 mX1_framesOn 4 [vR 5, vI x1, vI 0, vI 0] [] μ Q) : at_I kC 2 mX1_framesOn 0 [vR 5, vI x1, vU, vU] [] μ Q := by
  refine s_iconst dX1_framesOn_0 (by decide) ?_
  refine s_istore_n dX1_framesOn_1 rfl (by decide) (L' := [vR 5, vI x1, vI 0, vU]) rfl ?_
  refine s_iconst dX1_framesOn_2 (by decide) ?_
  refine s_istore_n dX1_framesOn_3 rfl (by decide) (L' := [vR 5, vI x1, vI 0, vI 0]) rfl ?_
  exact h
theorem vc_X1_framesOn_4 {x1 x2 x3 : Int} {μ : am_M} {Q : Int → am_M → Prop} (h : (μ 5 1 ≤ x3 → Q x2 μ) ∧ (x3 < μ 5 1 → (in_ 0 32 x3) ∧ (in_ 0 8 0) ∧ (((cg μ x3 0 = x1 → (in_ 0 32 x3) ∧ (in_ 0 8 4))) ∧ (∀ v1 : Int, v1 = (if cg μ x3 0 = x1 then cg μ x3 4 else 0) → (am_in (x2 + v1)) ∧ ((am_in (x3 + 1)) ∧ (at_I kC 2 mX1_framesOn 4 [vR 5, vI x1, vI (x2 + v1), vI (x3 + 1)] [] μ Q)))))) : at_I kC 2 mX1_framesOn 4 [vR 5, vI x1, vI x2, vI x3] [] μ Q := by
  refine s_iload_n dX1_framesOn_4 rfl rfl ?_
  refine s_aload_n dX1_framesOn_5 rfl rfl ?_
  refine s_getI (x := (μ 5 1)) dX1_framesOn_6 flX1_15 kn5 kk5 rfl rfl ?_
  refine s_icmp_ge dX1_framesOn_9 (tgt := 41) (by decide) (fun cc => ?_) (fun cc => ?_)
  · have h := h.1 cc
    refine s_iload_n dX1_framesOn_41 rfl rfl ?_
    exact s_ireturn dX1_framesOn_42 (Or.inl rfl) ⟨⟨rfl, rfl⟩, _, rfl, h⟩
  · have h := h.2 cc
    refine s_iload_n dX1_framesOn_12 rfl rfl ?_
    refine s_aload_n dX1_framesOn_13 rfl rfl ?_
    refine s_iload_n dX1_framesOn_14 rfl rfl ?_
    refine s_iconst dX1_framesOn_15 (by decide) ?_
    obtain ⟨p0, p1, h⟩ := h
    refine s_callV (As := [vI x3, vI 0]) (rest := [vI x2]) (k := 5) dX1_framesOn_16 lkX1_19 kn5 ⟨by rw [kk5]; rfl, by rw [kk5]; decide⟩ lmX1_get rfl rfl (Nat.le_of_ble_eq_true rfl) (by decide) (Nat.le_refl 0) (Nat.le_refl 0) (hC := sp_X1_get (Q := fun z m => cg μ x3 0 = z ∧ μ = m) p0 p1 ⟨rfl, rfl⟩) (fun r n2 S2 m2 hP => ?_)
    obtain ⟨⟨rfl, rfl⟩, z, rfl, rfl, rfl⟩ := hP
    refine s_iload_n dX1_framesOn_19 rfl rfl ?_
    obtain ⟨hsd, h⟩ := h
    have kj2 : ∀ (v1 : Int), ((am_in (x2 + v1)) ∧ ((am_in (x3 + 1)) ∧ (at_I kC 2 mX1_framesOn 4 [vR 5, vI x1, vI (x2 + v1), vI (x3 + 1)] [] μ Q))) → at_I kC 2 mX1_framesOn 33 [vR 5, vI x1, vU, vI x3] [vI v1, vI x2] μ Q := by
      intro v1 h
      obtain ⟨c, h⟩ := h
      refine s_iadd dX1_framesOn_33 (am_w_id c) ?_
      refine s_istore_n dX1_framesOn_34 rfl (by decide) (L' := [vR 5, vI x1, vI (x2 + v1), vI x3]) rfl ?_
      obtain ⟨c, h⟩ := h
      refine s_iinc dX1_framesOn_35 rfl (am_w_id c) (by decide) (L' := [vR 5, vI x1, vI (x2 + v1), vI (x3 + 1)]) rfl ?_
      refine s_goto dX1_framesOn_38 (tgt := 4) (by decide) ?_
      exact h
    refine s_icmp_ne dX1_framesOn_20 (tgt := 32) (by decide) (fun cc => ?_) (fun cc => ?_)
    · have hp0 := cc
      refine s_iconst dX1_framesOn_32 (by decide) ?_
      exact am_lesS (kj2 0 (h 0 (by rw [if_neg hp0]))) ⟨Or.inr rfl, Or.inr rfl, Or.inl rfl, Or.inr rfl, trivial⟩
    · have hp0 := cc
      have hsd := hsd hp0
      refine s_aload_n dX1_framesOn_23 rfl rfl ?_
      refine s_iload_n dX1_framesOn_24 rfl rfl ?_
      refine s_iconst dX1_framesOn_25 (by decide) ?_
      obtain ⟨p0, p1⟩ := hsd
      refine s_callV (As := [vI x3, vI 4]) (rest := [vI x2]) (k := 5) dX1_framesOn_26 lkX1_19 kn5 ⟨by rw [kk5]; rfl, by rw [kk5]; decide⟩ lmX1_get rfl rfl (Nat.le_of_ble_eq_true rfl) (by decide) (Nat.le_refl 0) (Nat.le_refl 0) (hC := sp_X1_get (Q := fun z m => cg μ x3 4 = z ∧ μ = m) p0 p1 ⟨rfl, rfl⟩) (fun r n2 S2 m2 hP => ?_)
      obtain ⟨⟨rfl, rfl⟩, z, rfl, rfl, rfl⟩ := hP
      refine s_goto dX1_framesOn_29 (tgt := 33) (by decide) ?_
      exact am_lesS (kj2 (cg μ x3 4) (h (cg μ x3 4) (by rw [if_pos hp0]))) ⟨Or.inr rfl, Or.inr rfl, Or.inl rfl, Or.inr rfl, trivial⟩
theorem ve_X1_framesOn {x1 : Int} {μ : am_M} {Q : Int → am_M → Prop} (h : at_I kC 2 mX1_framesOn 0 [vR 5, vI x1, vU, vU] [] μ Q) : cl_I kC 2 mX1_framesOn [vR 5, vI x1] μ Q := am_intro pmX1_framesOn (Nat.le_of_ble_eq_true rfl) rfl h
theorem lp_X1_framesOn {μ : am_M} {t : Int} {Q : Int → am_M → Prop} (hn : ok_T (cg μ) (μ 5 1)) (hQ : Q (cnt_ (fun i => decide (cg μ i 0 = t)) (fun i => cg μ i 4) (μ 5 1)) μ) : ∀ (k : Nat) (x2 x3 : Int), x3 + k = μ 5 1 → 0 ≤ x3 → x2 = cnt_ (fun i => decide (cg μ i 0 = t)) (fun i => cg μ i 4) x3 → at_I kC 2 mX1_framesOn 4 [vR 5, vI t, vI x2, vI x3] [] μ Q := by
  intro k
  induction k with
  | zero =>
    intro x2 x3 h h0 e
    have h' : x3 = μ 5 1 := by omega
    exact vc_X1_framesOn_4 ⟨fun _ => by rw [e, h']; exact hQ, fun q => by omega⟩
  | succ k ih =>
    intro x2 x3 h h0 e
    have q1 := hn.1
    have q2 := cnt_b (p := fun i => decide (cg μ i 0 = t)) (v := fun i => cg μ i 4) (n := x3) (B := 600) h0 (by omega) (fun i a b => by have := (hn.2 i a (by omega)).2.2.2.2.1; ((try unfold am_in); (try unfold in_ at *); omega))
    have q3 := (hn.2 x3 h0 (by omega)).2.2.2.2.1
    refine vc_X1_framesOn_4 ⟨fun q => by omega, fun q => ⟨(by (try unfold am_in); (try unfold in_ at *); omega), (by (try unfold am_in); (try unfold in_ at *); omega), fun _ => ⟨(by (try unfold am_in); (try unfold in_ at *); omega), (by (try unfold am_in); (try unfold in_ at *); omega)⟩, fun v1 ev => ⟨by subst ev; split <;> ((try unfold am_in); (try unfold in_ at *); omega), (by (try unfold am_in); (try unfold in_ at *); omega), ih _ _ (by omega) (by omega) ?_⟩⟩⟩
    rw [cnt_s h0, e, ev]
    simp
theorem sp_X1_framesOn {μ : am_M} {t : Int} {Q : Int → am_M → Prop} (hn : ok_T (cg μ) (μ 5 1)) (hQ : Q (cnt_ (fun i => decide (cg μ i 0 = t)) (fun i => cg μ i 4) (μ 5 1)) μ) : cl_I kC 2 mX1_framesOn [vR 5, vI t] μ Q :=
  ve_X1_framesOn (vc_X1_framesOn_0 (lp_X1_framesOn hn hQ (μ 5 1).toNat 0 0 (by have := hn.1; ((try unfold am_in); (try unfold in_ at *); omega)) (by omega) rfl))
/-- a row comes ahead of a track and start -/
def ls_ (g : Tb) (t s i : Int) : Bool := decide (g i 0 < t ∨ g i 0 = t ∧ g i 1 < s)
theorem vc_X1_placeFor_0 {x1 x2 : Int} {μ : am_M} {Q : Int → am_M → Prop} (h : at_I kC 2 mX1_placeFor 5 [vR 5, vI x1, vI x2, vI 0, vI 0, vU] [] μ Q) : at_I kC 2 mX1_placeFor 0 [vR 5, vI x1, vI x2, vU, vU, vU] [] μ Q := by
  refine s_iconst dX1_placeFor_0 (by decide) ?_
  refine s_istore_n dX1_placeFor_1 rfl (by decide) (L' := [vR 5, vI x1, vI x2, vI 0, vU, vU]) rfl ?_
  refine s_iconst dX1_placeFor_2 (by decide) ?_
  refine s_istore dX1_placeFor_3 (by decide) (L' := [vR 5, vI x1, vI x2, vI 0, vI 0, vU]) rfl ?_
  exact h
theorem vc_X1_placeFor_5 {x1 x2 x3 x4 : Int} {μ : am_M} {Q : Int → am_M → Prop} (h : (μ 5 1 ≤ x4 → Q x3 μ) ∧ (x4 < μ 5 1 → (in_ 0 32 x4) ∧ (in_ 0 8 0) ∧ (((cg μ x4 0 < x1 → (am_in (x3 + 1))) ∧ (x1 ≤ cg μ x4 0 → (cg μ x4 0 = x1 → (in_ 0 32 x4) ∧ (in_ 0 8 1) ∧ ((cg μ x4 1 < x2 → (am_in (x3 + 1))))))) ∧ (∀ v1 : Int, v1 = (if cg μ x4 0 < x1 then x3 + 1 else (if cg μ x4 0 = x1 then (if cg μ x4 1 < x2 then x3 + 1 else x3) else x3)) → (am_in (x4 + 1)) ∧ (at_I kC 2 mX1_placeFor 5 [vR 5, vI x1, vI x2, vI v1, vI (x4 + 1), vU] [] μ Q))))) : at_I kC 2 mX1_placeFor 5 [vR 5, vI x1, vI x2, vI x3, vI x4, vU] [] μ Q := by
  refine s_iload dX1_placeFor_5 rfl ?_
  refine s_aload_n dX1_placeFor_7 rfl rfl ?_
  refine s_getI (x := (μ 5 1)) dX1_placeFor_8 flX1_15 kn5 kk5 rfl rfl ?_
  refine s_icmp_ge dX1_placeFor_11 (tgt := 55) (by decide) (fun cc => ?_) (fun cc => ?_)
  · have h := h.1 cc
    refine s_iload_n dX1_placeFor_55 rfl rfl ?_
    exact s_ireturn dX1_placeFor_56 (Or.inl rfl) ⟨⟨rfl, rfl⟩, _, rfl, h⟩
  · have h := h.2 cc
    refine s_aload_n dX1_placeFor_14 rfl rfl ?_
    refine s_iload dX1_placeFor_15 rfl ?_
    refine s_iconst dX1_placeFor_17 (by decide) ?_
    obtain ⟨p0, p1, h⟩ := h
    refine s_callV (As := [vI x4, vI 0]) (rest := []) (k := 5) dX1_placeFor_18 lkX1_19 kn5 ⟨by rw [kk5]; rfl, by rw [kk5]; decide⟩ lmX1_get rfl rfl (Nat.le_of_ble_eq_true rfl) (by decide) (Nat.le_refl 0) (Nat.le_refl 0) (hC := sp_X1_get (Q := fun z m => cg μ x4 0 = z ∧ μ = m) p0 p1 ⟨rfl, rfl⟩) (fun r n2 S2 m2 hP => ?_)
    obtain ⟨⟨rfl, rfl⟩, z, rfl, rfl, rfl⟩ := hP
    refine s_istore dX1_placeFor_21 (by decide) (L' := [vR 5, vI x1, vI x2, vI x3, vI x4, vI (cg μ x4 0)]) rfl ?_
    refine s_iload dX1_placeFor_23 rfl ?_
    refine s_iload_n dX1_placeFor_25 rfl rfl ?_
    obtain ⟨hsd, h⟩ := h
    have kj2 : ∀ (v1 : Int), ((am_in (x4 + 1)) ∧ (at_I kC 2 mX1_placeFor 5 [vR 5, vI x1, vI x2, vI v1, vI (x4 + 1), vU] [] μ Q)) → at_I kC 2 mX1_placeFor 49 [vR 5, vI x1, vI x2, vI v1, vI x4, vU] [] μ Q := by
      intro v1 h
      obtain ⟨c, h⟩ := h
      refine s_iinc dX1_placeFor_49 rfl (am_w_id c) (by decide) (L' := [vR 5, vI x1, vI x2, vI v1, vI (x4 + 1), vU]) rfl ?_
      refine s_goto dX1_placeFor_52 (tgt := 5) (by decide) ?_
      exact h
    refine s_icmp_lt dX1_placeFor_26 (tgt := 46) (by decide) (fun cc => ?_) (fun cc => ?_)
    · have hp0 := cc
      have hsd := hsd.1 hp0
      have c := hsd
      refine s_iinc dX1_placeFor_46 rfl (am_w_id c) (by decide) (L' := [vR 5, vI x1, vI x2, vI (x3 + 1), vI x4, vI (cg μ x4 0)]) rfl ?_
      exact am_lesS (kj2 (x3 + 1) (h (x3 + 1) (by rw [if_pos hp0]))) ⟨Or.inr rfl, Or.inr rfl, Or.inr rfl, Or.inr rfl, Or.inr rfl, Or.inl rfl, trivial⟩
    · have hp0 := cc
      have hsd := hsd.2 hp0
      refine s_iload dX1_placeFor_29 rfl ?_
      refine s_iload_n dX1_placeFor_31 rfl rfl ?_
      refine s_icmp_ne dX1_placeFor_32 (tgt := 49) (by decide) (fun cc => ?_) (fun cc => ?_)
      · have hp1 := cc
        exact am_lesS (kj2 x3 (h x3 (by rw [if_neg (Int.not_lt.mpr hp0), if_neg hp1]))) ⟨Or.inr rfl, Or.inr rfl, Or.inr rfl, Or.inr rfl, Or.inr rfl, Or.inl rfl, trivial⟩
      · have hp1 := cc
        have hsd := hsd hp1
        refine s_aload_n dX1_placeFor_35 rfl rfl ?_
        refine s_iload dX1_placeFor_36 rfl ?_
        refine s_iconst dX1_placeFor_38 (by decide) ?_
        obtain ⟨p0, p1, hsd⟩ := hsd
        refine s_callV (As := [vI x4, vI 1]) (rest := []) (k := 5) dX1_placeFor_39 lkX1_19 kn5 ⟨by rw [kk5]; rfl, by rw [kk5]; decide⟩ lmX1_get rfl rfl (Nat.le_of_ble_eq_true rfl) (by decide) (Nat.le_refl 0) (Nat.le_refl 0) (hC := sp_X1_get (Q := fun z m => cg μ x4 1 = z ∧ μ = m) p0 p1 ⟨rfl, rfl⟩) (fun r n2 S2 m2 hP => ?_)
        obtain ⟨⟨rfl, rfl⟩, z, rfl, rfl, rfl⟩ := hP
        refine s_iload_n dX1_placeFor_42 rfl rfl ?_
        refine s_icmp_ge dX1_placeFor_43 (tgt := 49) (by decide) (fun cc => ?_) (fun cc => ?_)
        · have hp2 := cc
          exact am_lesS (kj2 x3 (h x3 (by rw [if_neg (Int.not_lt.mpr hp0), if_pos hp1, if_neg (Int.not_lt.mpr hp2)]))) ⟨Or.inr rfl, Or.inr rfl, Or.inr rfl, Or.inr rfl, Or.inr rfl, Or.inl rfl, trivial⟩
        · have hp2 := cc
          have hsd := hsd hp2
          have c := hsd
          refine s_iinc dX1_placeFor_46 rfl (am_w_id c) (by decide) (L' := [vR 5, vI x1, vI x2, vI (x3 + 1), vI x4, vI (cg μ x4 0)]) rfl ?_
          exact am_lesS (kj2 (x3 + 1) (h (x3 + 1) (by rw [if_neg (Int.not_lt.mpr hp0), if_pos hp1, if_pos hp2]))) ⟨Or.inr rfl, Or.inr rfl, Or.inr rfl, Or.inr rfl, Or.inr rfl, Or.inl rfl, trivial⟩
theorem ve_X1_placeFor {x1 x2 : Int} {μ : am_M} {Q : Int → am_M → Prop} (h : at_I kC 2 mX1_placeFor 0 [vR 5, vI x1, vI x2, vU, vU, vU] [] μ Q) : cl_I kC 2 mX1_placeFor [vR 5, vI x1, vI x2] μ Q := am_intro pmX1_placeFor (Nat.le_of_ble_eq_true rfl) rfl h
theorem lp_X1_placeFor {μ : am_M} {t s : Int} {Q : Int → am_M → Prop} (hn : ok_T (cg μ) (μ 5 1)) (hQ : Q (cnt_ (ls_ (cg μ) t s) (fun _ => 1) (μ 5 1)) μ) : ∀ (k : Nat) (x3 x4 : Int), x4 + k = μ 5 1 → 0 ≤ x4 → x3 = cnt_ (ls_ (cg μ) t s) (fun _ => 1) x4 → at_I kC 2 mX1_placeFor 5 [vR 5, vI t, vI s, vI x3, vI x4, vU] [] μ Q := by
  intro k
  induction k with
  | zero =>
    intro x3 x4 h h0 e
    have h' : x4 = μ 5 1 := by omega
    exact vc_X1_placeFor_5 ⟨fun _ => by rw [e, h']; exact hQ, fun q => by omega⟩
  | succ k ih =>
    intro x3 x4 h h0 e
    have q1 := hn.1
    have q2 := cnt_b (p := ls_ (cg μ) t s) (v := fun _ => 1) (B := 1) h0 (by omega) (fun i _ _ => by omega)
    refine vc_X1_placeFor_5 ⟨fun q => by omega, fun q => ⟨(by (try unfold am_in); (try unfold in_ at *); omega), (by (try unfold am_in); (try unfold in_ at *); omega), ⟨fun _ => (by (try unfold am_in); (try unfold in_ at *); omega), fun _ _ => ⟨(by (try unfold am_in); (try unfold in_ at *); omega), (by (try unfold am_in); (try unfold in_ at *); omega), fun _ => (by (try unfold am_in); (try unfold in_ at *); omega)⟩⟩, fun v1 ev => ⟨(by (try unfold am_in); (try unfold in_ at *); omega), ih _ _ (by omega) (by omega) ?_⟩⟩⟩
    rw [cnt_s h0, ← e, ev]
    unfold ls_
    simp only [decide_eq_true_eq]
    (repeat' split) <;> omega
theorem sp_X1_placeFor {μ : am_M} {t s : Int} {Q : Int → am_M → Prop} (hn : ok_T (cg μ) (μ 5 1)) (hQ : Q (cnt_ (ls_ (cg μ) t s) (fun _ => 1) (μ 5 1)) μ) : cl_I kC 2 mX1_placeFor [vR 5, vI t, vI s] μ Q :=
  ve_X1_placeFor (vc_X1_placeFor_0 (lp_X1_placeFor hn hQ (μ 5 1).toNat 0 0 (by have := hn.1; ((try unfold am_in); (try unfold in_ at *); omega)) (by omega) rfl))
/-- a row lies across a frame -/
def acr_ (g : Tb) (f i : Int) : Prop := g i 1 < f ∧ f < en_ g i
theorem vc_X1_isAcross_0 {x1 x2 : Int} {μ : am_M} {Q : Int → am_M → Prop} (h : (in_ 0 32 x1) ∧ (in_ 0 8 1) ∧ (((cg μ x1 1 < x2 → (in_ 0 32 x1) ∧ (am_in (en_ (cg μ) x1)))) ∧ (∀ v1 : Int, v1 = (if cg μ x1 1 < x2 then (if x2 < en_ (cg μ) x1 then 1 else 0) else 0) → (v1 = 0 ∨ v1 = 1) ∧ Q v1 μ))) : at_I kC 3 mX1_isAcross 0 [vR 5, vI x1, vI x2] [] μ Q := by
  refine s_aload_n dX1_isAcross_0 rfl rfl ?_
  refine s_iload_n dX1_isAcross_1 rfl rfl ?_
  refine s_iconst dX1_isAcross_2 (by decide) ?_
  obtain ⟨p0, p1, h⟩ := h
  refine s_callV (As := [vI x1, vI 1]) (rest := []) (k := 5) dX1_isAcross_3 lkX1_19 kn5 ⟨by rw [kk5]; rfl, by rw [kk5]; decide⟩ lmX1_get rfl rfl (Nat.le_of_ble_eq_true rfl) (by decide) (Nat.le_refl 0) (Nat.le_refl 0) (hC := sp_X1_get (Q := fun z m => cg μ x1 1 = z ∧ μ = m) p0 p1 ⟨rfl, rfl⟩) (fun r n2 S2 m2 hP => ?_)
  obtain ⟨⟨rfl, rfl⟩, z, rfl, rfl, rfl⟩ := hP
  refine s_iload_n dX1_isAcross_6 rfl rfl ?_
  obtain ⟨hsd, h⟩ := h
  have kj2 : ∀ (v1 : Int), ((v1 = 0 ∨ v1 = 1) ∧ Q v1 μ) → at_I kC 3 mX1_isAcross 24 [vU, vU, vU] [vI v1] μ Q := by
    intro v1 h
    exact s_ireturn dX1_isAcross_24 (Or.inr ⟨rfl, h.1⟩) ⟨⟨rfl, rfl⟩, _, rfl, h.2⟩
  refine s_icmp_ge dX1_isAcross_7 (tgt := 23) (by decide) (fun cc => ?_) (fun cc => ?_)
  · have hp0 := cc
    refine s_iconst dX1_isAcross_23 (by decide) ?_
    exact am_lesS (kj2 0 (h 0 (by rw [if_neg (Int.not_lt.mpr hp0)]))) ⟨Or.inl rfl, Or.inl rfl, Or.inl rfl, trivial⟩
  · have hp0 := cc
    have hsd := hsd hp0
    refine s_iload_n dX1_isAcross_10 rfl rfl ?_
    refine s_aload_n dX1_isAcross_11 rfl rfl ?_
    refine s_iload_n dX1_isAcross_12 rfl rfl ?_
    obtain ⟨p0, p1⟩ := hsd
    refine s_callV (As := [vI x1]) (rest := [vI x2]) (k := 5) dX1_isAcross_13 lkX1_23 kn5 ⟨by rw [kk5]; rfl, by rw [kk5]; decide⟩ lmX1_endOf rfl rfl (Nat.le_of_ble_eq_true rfl) (by decide) (Nat.le_refl 0) (Nat.le_refl 0) (hC := sp_X1_endOf (Q := fun z m => en_ (cg μ) x1 = z ∧ μ = m) p0 p1 ⟨rfl, rfl⟩) (fun r n2 S2 m2 hP => ?_)
    obtain ⟨⟨rfl, rfl⟩, z, rfl, rfl, rfl⟩ := hP
    refine s_icmp_ge dX1_isAcross_16 (tgt := 23) (by decide) (fun cc => ?_) (fun cc => ?_)
    · have hp1 := cc
      refine s_iconst dX1_isAcross_23 (by decide) ?_
      exact am_lesS (kj2 0 (h 0 (by rw [if_pos hp0, if_neg (Int.not_lt.mpr hp1)]))) ⟨Or.inl rfl, Or.inl rfl, Or.inl rfl, trivial⟩
    · have hp1 := cc
      refine s_iconst dX1_isAcross_19 (by decide) ?_
      refine s_goto dX1_isAcross_20 (tgt := 24) (by decide) ?_
      exact am_lesS (kj2 1 (h 1 (by rw [if_pos hp0, if_pos hp1]))) ⟨Or.inl rfl, Or.inl rfl, Or.inl rfl, trivial⟩
theorem ve_X1_isAcross {x1 x2 : Int} {μ : am_M} {Q : Int → am_M → Prop} (h : at_I kC 3 mX1_isAcross 0 [vR 5, vI x1, vI x2] [] μ Q) : cl_I kC 3 mX1_isAcross [vR 5, vI x1, vI x2] μ Q := am_intro pmX1_isAcross (Nat.le_of_ble_eq_true rfl) rfl h
theorem sp_X1_isAcross {μ : am_M} {c f : Int} {Q : Int → am_M → Prop} (h0 : in_ 0 32 c) (h1 : am_in (en_ (cg μ) c)) (hQ : Q (bI (acr_ (cg μ) f c)) μ) : cl_I kC 3 mX1_isAcross [vR 5, vI c, vI f] μ Q := by
  refine ve_X1_isAcross (vc_X1_isAcross_0 ⟨h0, (by (try unfold am_in); (try unfold in_ at *); omega), fun _ => ⟨h0, h1⟩, fun v1 e => ⟨by subst e; (repeat' split) <;> omega, ?_⟩⟩)
  rw [show v1 = bI (acr_ (cg μ) f c) from by
    unfold acr_
    subst e
    (repeat' split) <;> first | (exact (bI_t (by omega)).symm) | (exact (bI_f (by omega)).symm)]
  exact hQ

/-! the reference: its rows -/
theorem vc_X10_isIn_0 {x0 x1 x2 : Int} {μ : am_M} {Q : Int → am_M → Prop} (h : ∀ v1 : Int, v1 = (if x0 < x1 then 0 else (if x2 < x0 then 0 else 1)) → (v1 = 0 ∨ v1 = 1) ∧ Q v1 μ) : at_I kR 1 mX10_isIn 0 [vI x0, vI x1, vI x2] [] μ Q := by
  refine s_iload_n dX10_isIn_0 rfl rfl ?_
  refine s_iload_n dX10_isIn_1 rfl rfl ?_
  have kj2 : ∀ (v1 : Int), ((v1 = 0 ∨ v1 = 1) ∧ Q v1 μ) → at_I kR 1 mX10_isIn 15 [vU, vU, vU] [vI v1] μ Q := by
    intro v1 h
    exact s_ireturn dX10_isIn_15 (Or.inr ⟨rfl, h.1⟩) ⟨⟨rfl, rfl⟩, _, rfl, h.2⟩
  refine s_icmp_lt dX10_isIn_2 (tgt := 14) (by decide) (fun cc => ?_) (fun cc => ?_)
  · have hp0 := cc
    refine s_iconst dX10_isIn_14 (by decide) ?_
    exact am_lesS (kj2 0 (h 0 (by rw [if_pos hp0]))) ⟨Or.inl rfl, Or.inl rfl, Or.inl rfl, trivial⟩
  · have hp0 := cc
    refine s_iload_n dX10_isIn_5 rfl rfl ?_
    refine s_iload_n dX10_isIn_6 rfl rfl ?_
    refine s_icmp_gt dX10_isIn_7 (tgt := 14) (by decide) (fun cc => ?_) (fun cc => ?_)
    · have hp1 := cc
      refine s_iconst dX10_isIn_14 (by decide) ?_
      exact am_lesS (kj2 0 (h 0 (by rw [if_neg (Int.not_lt.mpr hp0), if_pos hp1]))) ⟨Or.inl rfl, Or.inl rfl, Or.inl rfl, trivial⟩
    · have hp1 := cc
      refine s_iconst dX10_isIn_10 (by decide) ?_
      refine s_goto dX10_isIn_11 (tgt := 15) (by decide) ?_
      exact am_lesS (kj2 1 (h 1 (by rw [if_neg (Int.not_lt.mpr hp0), if_neg (Int.not_lt.mpr hp1)]))) ⟨Or.inl rfl, Or.inl rfl, Or.inl rfl, trivial⟩
theorem ve_X10_isIn {x0 x1 x2 : Int} {μ : am_M} {Q : Int → am_M → Prop} (h : at_I kR 1 mX10_isIn 0 [vI x0, vI x1, vI x2] [] μ Q) : cl_I kR 1 mX10_isIn [vI x0, vI x1, vI x2] μ Q := am_intro pmX10_isIn (Nat.le_of_ble_eq_true rfl) rfl h
theorem sp_X10_isIn {μ : am_M} {x a b : Int} {Q : Int → am_M → Prop} (hQ : Q (bI (a ≤ x ∧ x ≤ b)) μ) : cl_I kR 1 mX10_isIn [vI x, vI a, vI b] μ Q :=
  ve_X10_isIn (vc_X10_isIn_0 fun v e => by
    have : v = bI (a ≤ x ∧ x ≤ b) := (by (try subst_vars); (repeat' split) <;> first | (exact bI_t (by (try unfold in_ at *); omega)) | (exact (bI_t (by (try unfold in_ at *); omega)).symm) | (exact bI_f (by (try unfold in_ at *); omega)) | (exact (bI_f (by (try unfold in_ at *); omega)).symm))
    rw [this]
    exact ⟨bI_01, hQ⟩)
/-- a row of the reference as a project's value -/
def hA (a : Nat → Int) : Hl := (List.range (a 438).toNat).map (fun i => (a (439 + 2 * i), a (439 + 2 * i + 1)))
def pA (a : Nat → Int) : Pj := (fun i => a (465 + i), fun t k => a ((410 + 7 * t) + k).toNat, a 0, fun s k => a ((1 + 4 * s) + k).toNat, a 25, fun c k => a ((26 + 8 * c) + k).toNat, hA a)
abbrev pR (ν : am_M) : Pj := pA (ν 1)
def rg (ν : am_M) : Tb := fun c k => ν 1 ((26 + 8 * c) + k).toNat
def rS (ν : am_M) : Tb := fun s k => ν 1 ((1 + 4 * s) + k).toNat
def rT (ν : am_M) : Tb := fun t k => ν 1 ((410 + 7 * t) + k).toNat
abbrev vR_ (ν : am_M) : Prop := vP (pR ν) ∧ 0 ≤ ν 1 438
theorem vc_X10_of_0 {x1 x2 : Int} {μ : am_M} {Q : Int → am_M → Prop} (h : (am_in (8 * x1)) ∧ ((am_in (26 + (8 * x1))) ∧ ((am_in ((26 + (8 * x1)) + x2)) ∧ ((0 ≤ (26 + (8 * x1)) + x2) ∧ ((26 + (8 * x1)) + x2 < 470) ∧ (Q (μ 1 (((26 + (8 * x1)) + x2).toNat)) μ))))) : at_I kR 1 mX10_of 0 [vR 0, vI x1, vI x2] [] μ Q := by
  refine s_aload_n dX10_of_0 rfl rfl ?_
  refine s_getR dX10_of_1 flX10_9 rn0 rk0 rfl rr0_0 ?_
  refine s_bipush dX10_of_4 (by decide) ?_
  refine s_bipush dX10_of_6 (by decide) ?_
  refine s_iload_n dX10_of_8 rfl rfl ?_
  obtain ⟨c, h⟩ := h
  refine s_imul dX10_of_9 (am_w_id c) ?_
  obtain ⟨c, h⟩ := h
  refine s_iadd dX10_of_10 (am_w_id c) ?_
  refine s_iload_n dX10_of_11 rfl rfl ?_
  obtain ⟨c, h⟩ := h
  refine s_iadd dX10_of_12 (am_w_id c) ?_
  obtain ⟨c, c2, h⟩ := h
  refine s_iald (x := (μ 1 (((26 + (8 * x1)) + x2).toNat))) dX10_of_13 rn1 rk1 rl1 c c2 rfl ?_
  exact s_ireturn dX10_of_14 (Or.inl rfl) ⟨⟨rfl, rfl⟩, _, rfl, h⟩
theorem ve_X10_of {x1 x2 : Int} {μ : am_M} {Q : Int → am_M → Prop} (h : at_I kR 1 mX10_of 0 [vR 0, vI x1, vI x2] [] μ Q) : cl_I kR 1 mX10_of [vR 0, vI x1, vI x2] μ Q := am_intro pmX10_of (Nat.le_of_ble_eq_true rfl) rfl h
theorem sp_X10_of {μ : am_M} {c w : Int} {Q : Int → am_M → Prop} (h0 : in_ 0 48 c) (h1 : in_ 0 8 w) (hQ : Q (rg μ c w) μ) : cl_I kR 1 mX10_of [vR 0, vI c, vI w] μ Q :=
  ve_X10_of (vc_X10_of_0 ⟨(by (try unfold am_in); (try unfold in_ at *); omega), (by (try unfold am_in); (try unfold in_ at *); omega), (by (try unfold am_in); (try unfold in_ at *); omega), (by (try unfold am_in); (try unfold in_ at *); omega), (by (try unfold am_in); (try unfold in_ at *); omega), hQ⟩)
theorem vc_X10_trackOf_0 {x1 x2 : Int} {μ : am_M} {Q : Int → am_M → Prop} (h : (am_in (7 * x1)) ∧ ((am_in (410 + (7 * x1))) ∧ ((am_in ((410 + (7 * x1)) + x2)) ∧ ((0 ≤ (410 + (7 * x1)) + x2) ∧ ((410 + (7 * x1)) + x2 < 470) ∧ (Q (μ 1 (((410 + (7 * x1)) + x2).toNat)) μ))))) : at_I kR 1 mX10_trackOf 0 [vR 0, vI x1, vI x2] [] μ Q := by
  refine s_aload_n dX10_trackOf_0 rfl rfl ?_
  refine s_getR dX10_trackOf_1 flX10_9 rn0 rk0 rfl rr0_0 ?_
  refine s_sipush dX10_trackOf_4 (by decide) ?_
  refine s_bipush dX10_trackOf_7 (by decide) ?_
  refine s_iload_n dX10_trackOf_9 rfl rfl ?_
  obtain ⟨c, h⟩ := h
  refine s_imul dX10_trackOf_10 (am_w_id c) ?_
  obtain ⟨c, h⟩ := h
  refine s_iadd dX10_trackOf_11 (am_w_id c) ?_
  refine s_iload_n dX10_trackOf_12 rfl rfl ?_
  obtain ⟨c, h⟩ := h
  refine s_iadd dX10_trackOf_13 (am_w_id c) ?_
  obtain ⟨c, c2, h⟩ := h
  refine s_iald (x := (μ 1 (((410 + (7 * x1)) + x2).toNat))) dX10_trackOf_14 rn1 rk1 rl1 c c2 rfl ?_
  exact s_ireturn dX10_trackOf_15 (Or.inl rfl) ⟨⟨rfl, rfl⟩, _, rfl, h⟩
theorem ve_X10_trackOf {x1 x2 : Int} {μ : am_M} {Q : Int → am_M → Prop} (h : at_I kR 1 mX10_trackOf 0 [vR 0, vI x1, vI x2] [] μ Q) : cl_I kR 1 mX10_trackOf [vR 0, vI x1, vI x2] μ Q := am_intro pmX10_trackOf (Nat.le_of_ble_eq_true rfl) rfl h
theorem sp_X10_trackOf {μ : am_M} {c w : Int} {Q : Int → am_M → Prop} (h0 : in_ 0 4 c) (h1 : in_ 0 7 w) (hQ : Q (rT μ c w) μ) : cl_I kR 1 mX10_trackOf [vR 0, vI c, vI w] μ Q :=
  ve_X10_trackOf (vc_X10_trackOf_0 ⟨(by (try unfold am_in); (try unfold in_ at *); omega), (by (try unfold am_in); (try unfold in_ at *); omega), (by (try unfold am_in); (try unfold in_ at *); omega), (by (try unfold am_in); (try unfold in_ at *); omega), (by (try unfold am_in); (try unfold in_ at *); omega), hQ⟩)
theorem vc_X10_sourceOf_0 {x1 x2 : Int} {μ : am_M} {Q : Int → am_M → Prop} (h : (am_in (4 * x1)) ∧ ((am_in (1 + (4 * x1))) ∧ ((am_in ((1 + (4 * x1)) + x2)) ∧ ((0 ≤ (1 + (4 * x1)) + x2) ∧ ((1 + (4 * x1)) + x2 < 470) ∧ (Q (μ 1 (((1 + (4 * x1)) + x2).toNat)) μ))))) : at_I kR 1 mX10_sourceOf 0 [vR 0, vI x1, vI x2] [] μ Q := by
  refine s_aload_n dX10_sourceOf_0 rfl rfl ?_
  refine s_getR dX10_sourceOf_1 flX10_9 rn0 rk0 rfl rr0_0 ?_
  refine s_iconst dX10_sourceOf_4 (by decide) ?_
  refine s_iconst dX10_sourceOf_5 (by decide) ?_
  refine s_iload_n dX10_sourceOf_6 rfl rfl ?_
  obtain ⟨c, h⟩ := h
  refine s_imul dX10_sourceOf_7 (am_w_id c) ?_
  obtain ⟨c, h⟩ := h
  refine s_iadd dX10_sourceOf_8 (am_w_id c) ?_
  refine s_iload_n dX10_sourceOf_9 rfl rfl ?_
  obtain ⟨c, h⟩ := h
  refine s_iadd dX10_sourceOf_10 (am_w_id c) ?_
  obtain ⟨c, c2, h⟩ := h
  refine s_iald (x := (μ 1 (((1 + (4 * x1)) + x2).toNat))) dX10_sourceOf_11 rn1 rk1 rl1 c c2 rfl ?_
  exact s_ireturn dX10_sourceOf_12 (Or.inl rfl) ⟨⟨rfl, rfl⟩, _, rfl, h⟩
theorem ve_X10_sourceOf {x1 x2 : Int} {μ : am_M} {Q : Int → am_M → Prop} (h : at_I kR 1 mX10_sourceOf 0 [vR 0, vI x1, vI x2] [] μ Q) : cl_I kR 1 mX10_sourceOf [vR 0, vI x1, vI x2] μ Q := am_intro pmX10_sourceOf (Nat.le_of_ble_eq_true rfl) rfl h
theorem sp_X10_sourceOf {μ : am_M} {c w : Int} {Q : Int → am_M → Prop} (h0 : in_ 0 6 c) (h1 : in_ 0 4 w) (hQ : Q (rS μ c w) μ) : cl_I kR 1 mX10_sourceOf [vR 0, vI c, vI w] μ Q :=
  ve_X10_sourceOf (vc_X10_sourceOf_0 ⟨(by (try unfold am_in); (try unfold in_ at *); omega), (by (try unfold am_in); (try unfold in_ at *); omega), (by (try unfold am_in); (try unfold in_ at *); omega), (by (try unfold am_in); (try unfold in_ at *); omega), (by (try unfold am_in); (try unfold in_ at *); omega), hQ⟩)
theorem vc_X10_isClip_0 {x1 : Int} {μ : am_M} {Q : Int → am_M → Prop} (h : (am_in (μ 1 25 - 1)) ∧ (Q (bI (0 ≤ x1 ∧ x1 ≤ (μ 1 25 - 1))) μ)) : at_I kR 2 mX10_isClip 0 [vR 0, vI x1] [] μ Q := by
  refine s_iload_n dX10_isClip_0 rfl rfl ?_
  refine s_iconst dX10_isClip_1 (by decide) ?_
  refine s_aload_n dX10_isClip_2 rfl rfl ?_
  refine s_getR dX10_isClip_3 flX10_9 rn0 rk0 rfl rr0_0 ?_
  refine s_bipush dX10_isClip_6 (by decide) ?_
  refine s_iald (x := (μ 1 25)) dX10_isClip_8 rn1 rk1 rl1 (by decide) (by decide) rfl ?_
  refine s_iconst dX10_isClip_9 (by decide) ?_
  obtain ⟨c, h⟩ := h
  refine s_isub dX10_isClip_10 (am_w_id c) ?_
  refine s_callS (As := [vI x1, vI 0, vI (μ 1 25 - 1)]) (rest := []) dX10_isClip_11 lkX10_103 lmX10_isIn rfl rfl (Nat.le_of_ble_eq_true rfl) (by decide) (Nat.le_refl 0) (Nat.le_refl 0) (hC := sp_X10_isIn (Q := fun z m => bI (0 ≤ x1 ∧ x1 ≤ (μ 1 25 - 1)) = z ∧ μ = m)  ⟨rfl, rfl⟩) (fun r n2 S2 m2 hP => ?_)
  obtain ⟨⟨rfl, rfl⟩, z, rfl, rfl, rfl⟩ := hP
  exact s_ireturn dX10_isClip_14 (Or.inr ⟨rfl, bI_01⟩) ⟨⟨rfl, rfl⟩, _, rfl, h⟩
theorem ve_X10_isClip {x1 : Int} {μ : am_M} {Q : Int → am_M → Prop} (h : at_I kR 2 mX10_isClip 0 [vR 0, vI x1] [] μ Q) : cl_I kR 2 mX10_isClip [vR 0, vI x1] μ Q := am_intro pmX10_isClip (Nat.le_of_ble_eq_true rfl) rfl h
theorem sp_X10_isClip {μ : am_M} {c : Int} {Q : Int → am_M → Prop} (h0 : in_ 0 49 (μ 1 25)) (hQ : Q (bI (0 ≤ c ∧ c < μ 1 25)) μ) : cl_I kR 2 mX10_isClip [vR 0, vI c] μ Q :=
  ve_X10_isClip (vc_X10_isClip_0 ⟨(by (try unfold am_in); (try unfold in_ at *); omega), by rw [bI_c (show (0 ≤ c ∧ c ≤ μ 1 25 - 1) ↔ (0 ≤ c ∧ c < μ 1 25) by omega)]; exact hQ⟩)
theorem vc_X10_isSource_0 {x1 : Int} {μ : am_M} {Q : Int → am_M → Prop} (h : (am_in (μ 1 0 - 1)) ∧ (Q (bI (0 ≤ x1 ∧ x1 ≤ (μ 1 0 - 1))) μ)) : at_I kR 2 mX10_isSource 0 [vR 0, vI x1] [] μ Q := by
  refine s_iload_n dX10_isSource_0 rfl rfl ?_
  refine s_iconst dX10_isSource_1 (by decide) ?_
  refine s_aload_n dX10_isSource_2 rfl rfl ?_
  refine s_getR dX10_isSource_3 flX10_9 rn0 rk0 rfl rr0_0 ?_
  refine s_iconst dX10_isSource_6 (by decide) ?_
  refine s_iald (x := (μ 1 0)) dX10_isSource_7 rn1 rk1 rl1 (by decide) (by decide) rfl ?_
  refine s_iconst dX10_isSource_8 (by decide) ?_
  obtain ⟨c, h⟩ := h
  refine s_isub dX10_isSource_9 (am_w_id c) ?_
  refine s_callS (As := [vI x1, vI 0, vI (μ 1 0 - 1)]) (rest := []) dX10_isSource_10 lkX10_103 lmX10_isIn rfl rfl (Nat.le_of_ble_eq_true rfl) (by decide) (Nat.le_refl 0) (Nat.le_refl 0) (hC := sp_X10_isIn (Q := fun z m => bI (0 ≤ x1 ∧ x1 ≤ (μ 1 0 - 1)) = z ∧ μ = m)  ⟨rfl, rfl⟩) (fun r n2 S2 m2 hP => ?_)
  obtain ⟨⟨rfl, rfl⟩, z, rfl, rfl, rfl⟩ := hP
  exact s_ireturn dX10_isSource_13 (Or.inr ⟨rfl, bI_01⟩) ⟨⟨rfl, rfl⟩, _, rfl, h⟩
theorem ve_X10_isSource {x1 : Int} {μ : am_M} {Q : Int → am_M → Prop} (h : at_I kR 2 mX10_isSource 0 [vR 0, vI x1] [] μ Q) : cl_I kR 2 mX10_isSource [vR 0, vI x1] μ Q := am_intro pmX10_isSource (Nat.le_of_ble_eq_true rfl) rfl h
theorem sp_X10_isSource {μ : am_M} {c : Int} {Q : Int → am_M → Prop} (h0 : in_ 0 7 (μ 1 0)) (hQ : Q (bI (0 ≤ c ∧ c < μ 1 0)) μ) : cl_I kR 2 mX10_isSource [vR 0, vI c] μ Q :=
  ve_X10_isSource (vc_X10_isSource_0 ⟨(by (try unfold am_in); (try unfold in_ at *); omega), by rw [bI_c (show (0 ≤ c ∧ c ≤ μ 1 0 - 1) ↔ (0 ≤ c ∧ c < μ 1 0) by omega)]; exact hQ⟩)
theorem vc_X10_isChapter_0 {x1 : Int} {μ : am_M} {Q : Int → am_M → Prop} (h : (am_in (μ 1 438 - 1)) ∧ (Q (bI (0 ≤ x1 ∧ x1 ≤ (μ 1 438 - 1))) μ)) : at_I kR 2 mX10_isChapter 0 [vR 0, vI x1] [] μ Q := by
  refine s_iload_n dX10_isChapter_0 rfl rfl ?_
  refine s_iconst dX10_isChapter_1 (by decide) ?_
  refine s_aload_n dX10_isChapter_2 rfl rfl ?_
  refine s_getR dX10_isChapter_3 flX10_9 rn0 rk0 rfl rr0_0 ?_
  refine s_sipush dX10_isChapter_6 (by decide) ?_
  refine s_iald (x := (μ 1 438)) dX10_isChapter_9 rn1 rk1 rl1 (by decide) (by decide) rfl ?_
  refine s_iconst dX10_isChapter_10 (by decide) ?_
  obtain ⟨c, h⟩ := h
  refine s_isub dX10_isChapter_11 (am_w_id c) ?_
  refine s_callS (As := [vI x1, vI 0, vI (μ 1 438 - 1)]) (rest := []) dX10_isChapter_12 lkX10_103 lmX10_isIn rfl rfl (Nat.le_of_ble_eq_true rfl) (by decide) (Nat.le_refl 0) (Nat.le_refl 0) (hC := sp_X10_isIn (Q := fun z m => bI (0 ≤ x1 ∧ x1 ≤ (μ 1 438 - 1)) = z ∧ μ = m)  ⟨rfl, rfl⟩) (fun r n2 S2 m2 hP => ?_)
  obtain ⟨⟨rfl, rfl⟩, z, rfl, rfl, rfl⟩ := hP
  exact s_ireturn dX10_isChapter_15 (Or.inr ⟨rfl, bI_01⟩) ⟨⟨rfl, rfl⟩, _, rfl, h⟩
theorem ve_X10_isChapter {x1 : Int} {μ : am_M} {Q : Int → am_M → Prop} (h : at_I kR 2 mX10_isChapter 0 [vR 0, vI x1] [] μ Q) : cl_I kR 2 mX10_isChapter [vR 0, vI x1] μ Q := am_intro pmX10_isChapter (Nat.le_of_ble_eq_true rfl) rfl h
theorem sp_X10_isChapter {μ : am_M} {c : Int} {Q : Int → am_M → Prop} (h0 : in_ 0 13 (μ 1 438)) (hQ : Q (bI (0 ≤ c ∧ c < μ 1 438)) μ) : cl_I kR 2 mX10_isChapter [vR 0, vI c] μ Q :=
  ve_X10_isChapter (vc_X10_isChapter_0 ⟨(by (try unfold am_in); (try unfold in_ at *); omega), by rw [bI_c (show (0 ≤ c ∧ c ≤ μ 1 438 - 1) ↔ (0 ≤ c ∧ c < μ 1 438) by omega)]; exact hQ⟩)
theorem vc_X10_isTrack_0 {x0 : Int} {μ : am_M} {Q : Int → am_M → Prop} (h : Q (bI (0 ≤ x0 ∧ x0 ≤ 3)) μ) : at_I kR 2 mX10_isTrack 0 [vI x0] [] μ Q := by
  refine s_iload_n dX10_isTrack_0 rfl rfl ?_
  refine s_iconst dX10_isTrack_1 (by decide) ?_
  refine s_iconst dX10_isTrack_2 (by decide) ?_
  refine s_callS (As := [vI x0, vI 0, vI 3]) (rest := []) dX10_isTrack_3 lkX10_103 lmX10_isIn rfl rfl (Nat.le_of_ble_eq_true rfl) (by decide) (Nat.le_refl 0) (Nat.le_refl 0) (hC := sp_X10_isIn (Q := fun z m => bI (0 ≤ x0 ∧ x0 ≤ 3) = z ∧ μ = m)  ⟨rfl, rfl⟩) (fun r n2 S2 m2 hP => ?_)
  obtain ⟨⟨rfl, rfl⟩, z, rfl, rfl, rfl⟩ := hP
  exact s_ireturn dX10_isTrack_6 (Or.inr ⟨rfl, bI_01⟩) ⟨⟨rfl, rfl⟩, _, rfl, h⟩
theorem ve_X10_isTrack {x0 : Int} {μ : am_M} {Q : Int → am_M → Prop} (h : at_I kR 2 mX10_isTrack 0 [vI x0] [] μ Q) : cl_I kR 2 mX10_isTrack [vI x0] μ Q := am_intro pmX10_isTrack (Nat.le_of_ble_eq_true rfl) rfl h
theorem sp_X10_isTrack {μ : am_M} {t : Int} {Q : Int → am_M → Prop} (hQ : Q (bI (0 ≤ t ∧ t < 4)) μ) : cl_I kR 2 mX10_isTrack [vI t] μ Q :=
  ve_X10_isTrack (vc_X10_isTrack_0 (by rw [bI_c (show (0 ≤ t ∧ t ≤ 3) ↔ (0 ≤ t ∧ t < 4) by omega)]; exact hQ))
theorem vc_X10_isFrame_0 {x0 : Int} {μ : am_M} {Q : Int → am_M → Prop} (h : Q (bI (0 ≤ x0 ∧ x0 ≤ 599)) μ) : at_I kR 2 mX10_isFrame 0 [vI x0] [] μ Q := by
  refine s_iload_n dX10_isFrame_0 rfl rfl ?_
  refine s_iconst dX10_isFrame_1 (by decide) ?_
  refine s_sipush dX10_isFrame_2 (by decide) ?_
  refine s_callS (As := [vI x0, vI 0, vI 599]) (rest := []) dX10_isFrame_5 lkX10_103 lmX10_isIn rfl rfl (Nat.le_of_ble_eq_true rfl) (by decide) (Nat.le_refl 0) (Nat.le_refl 0) (hC := sp_X10_isIn (Q := fun z m => bI (0 ≤ x0 ∧ x0 ≤ 599) = z ∧ μ = m)  ⟨rfl, rfl⟩) (fun r n2 S2 m2 hP => ?_)
  obtain ⟨⟨rfl, rfl⟩, z, rfl, rfl, rfl⟩ := hP
  exact s_ireturn dX10_isFrame_8 (Or.inr ⟨rfl, bI_01⟩) ⟨⟨rfl, rfl⟩, _, rfl, h⟩
theorem ve_X10_isFrame {x0 : Int} {μ : am_M} {Q : Int → am_M → Prop} (h : at_I kR 2 mX10_isFrame 0 [vI x0] [] μ Q) : cl_I kR 2 mX10_isFrame [vI x0] μ Q := am_intro pmX10_isFrame (Nat.le_of_ble_eq_true rfl) rfl h
theorem sp_X10_isFrame {μ : am_M} {t : Int} {Q : Int → am_M → Prop} (hQ : Q (bI (0 ≤ t ∧ t < 600)) μ) : cl_I kR 2 mX10_isFrame [vI t] μ Q :=
  ve_X10_isFrame (vc_X10_isFrame_0 (by rw [bI_c (show (0 ≤ t ∧ t ≤ 599) ↔ (0 ≤ t ∧ t < 600) by omega)]; exact hQ))
theorem vc_X10_copies_0 {a : Nat} (ha : a < kR.1 ∧ (kR.2 a).1 = 11 ∧ (kR.2 a).2.1 = 470) {b : Nat} (hb : b < kR.1 ∧ (kR.2 b).1 = 11 ∧ (kR.2 b).2.1 = 470) {μ : am_M} {Q : am_M → Prop} (h : at_V kR 1 mX10_copies 2 [vR a, vR b, vI 0] [] μ Q) : at_V kR 1 mX10_copies 0 [vR a, vR b, vU] [] μ Q := by
  refine s_iconst dX10_copies_0 (by decide) ?_
  refine s_istore_n dX10_copies_1 rfl (by decide) (L' := [vR a, vR b, vI 0]) rfl ?_
  exact h
theorem vc_X10_copies_2 {x2 : Int} {a : Nat} (ha : a < kR.1 ∧ (kR.2 a).1 = 11 ∧ (kR.2 a).2.1 = 470) {b : Nat} (hb : b < kR.1 ∧ (kR.2 b).1 = 11 ∧ (kR.2 b).2.1 = 470) {μ : am_M} {Q : am_M → Prop} (h : (470 ≤ x2 → Q μ) ∧ (x2 < 470 → (0 ≤ x2) ∧ (x2 < 470) ∧ ((0 ≤ x2) ∧ (x2 < 470) ∧ ((am_in (x2 + 1)) ∧ (at_V kR 1 mX10_copies 2 [vR a, vR b, vI (x2 + 1)] [] (am_st μ b (am_up (μ b) (x2).toNat (μ a ((x2).toNat)))) Q))))) : at_V kR 1 mX10_copies 2 [vR a, vR b, vI x2] [] μ Q := by
  refine s_iload_n dX10_copies_2 rfl rfl ?_
  refine s_sipush dX10_copies_3 (by decide) ?_
  refine s_icmp_ge dX10_copies_6 (tgt := 21) (by decide) (fun cc => ?_) (fun cc => ?_)
  · have h := h.1 cc
    exact s_return dX10_copies_21 rfl ⟨⟨rfl, rfl⟩, rfl, h⟩
  · have h := h.2 cc
    refine s_aload_n dX10_copies_9 rfl rfl ?_
    refine s_iload_n dX10_copies_10 rfl rfl ?_
    refine s_aload_n dX10_copies_11 rfl rfl ?_
    refine s_iload_n dX10_copies_12 rfl rfl ?_
    obtain ⟨c, c2, h⟩ := h
    refine s_iald (x := (μ a ((x2).toNat))) dX10_copies_13 ha.1 ha.2.1 ha.2.2 c c2 rfl ?_
    obtain ⟨c, c2, h⟩ := h
    refine s_iast dX10_copies_14 hb.1 hb.2.1 hb.2.2 c c2 rfl ?_
    obtain ⟨c, h⟩ := h
    refine s_iinc dX10_copies_15 rfl (am_w_id c) (by decide) (L' := [vR a, vR b, vI (x2 + 1)]) rfl ?_
    refine s_goto dX10_copies_18 (tgt := 2) (by decide) ?_
    exact h
theorem ve_X10_copies {a : Nat} (ha : a < kR.1 ∧ (kR.2 a).1 = 11 ∧ (kR.2 a).2.1 = 470) {b : Nat} (hb : b < kR.1 ∧ (kR.2 b).1 = 11 ∧ (kR.2 b).2.1 = 470) {μ : am_M} {Q : am_M → Prop} (h : at_V kR 1 mX10_copies 0 [vR a, vR b, vU] [] μ Q) : cl_V kR 1 mX10_copies [vR a, vR b] μ Q := am_intro pmX10_copies (Nat.le_of_ble_eq_true rfl) rfl h
theorem sp_X10_copies {a b : Nat} (ha : a < kR.1 ∧ (kR.2 a).1 = 11 ∧ (kR.2 a).2.1 = 470) (hb : b < kR.1 ∧ (kR.2 b).1 = 11 ∧ (kR.2 b).2.1 = 470) (hab : a ≠ b) {μ : am_M} : cl_V kR 1 mX10_copies [vR a, vR b] μ (fun m => fr_ [b] μ m ∧ ∀ i : Nat, i < 470 → m b i = μ a i) := by
  refine ve_X10_copies ha hb (vc_X10_copies_0 ha hb ?_)
  have : ∀ (j : Nat) (x : Int) (m : am_M), x + j = 470 → 0 ≤ x → fr_ [b] μ m → (∀ i : Nat, (i : Int) < x → m b i = μ a i) → at_V kR 1 mX10_copies 2 [vR a, vR b, vI x] [] m (fun m => fr_ [b] μ m ∧ ∀ i : Nat, i < 470 → m b i = μ a i) := by
    intro j
    induction j with
    | zero =>
      intro x m hx h0 hf hv
      exact vc_X10_copies_2 ha hb ⟨fun _ => ⟨hf, fun i hi => hv i (by omega)⟩, fun q => by omega⟩
    | succ j ih =>
      intro x m hx h0 hf hv
      refine vc_X10_copies_2 ha hb ⟨fun q => by omega, fun q => ⟨h0, q, h0, q, (by (try unfold am_in); (try unfold in_ at *); omega), ih (x + 1) _ (by omega) (by omega) (fr_tr hf (fr_st (by simp))) (fun i hi => ?_)⟩⟩
      rw [st_s]
      by_cases c : i = x.toNat
      · rw [c, up_s, hf a (by simp [hab])]
      · rw [up_n c]
        exact hv i (by omega)
  exact this 470 0 μ (by omega) (by omega) fr_rf (fun i hi => by omega)
theorem vc_X10_pushes_0 {x2 : Int} {a : Nat} (ha : a < kR.1 ∧ (kR.2 a).1 = 11 ∧ (kR.2 a).2.1 = 4700) {b : Nat} (hb : b < kR.1 ∧ (kR.2 b).1 = 11 ∧ (kR.2 b).2.1 = 470) {μ : am_M} {Q : am_M → Prop} (h : (x2 ≠ 10 → ∀ v1 : Int, v1 = (if x2 = 10 then 9 else x2) → at_V kR 1 mX10_pushes 52 [vU, vR a, vU, vR b, vI v1, vI 0] [] μ Q) ∧ (x2 = 10 → at_V kR 1 mX10_pushes 9 [vU, vR a, vI x2, vR b, vI 0, vU] [] μ Q)) : at_V kR 1 mX10_pushes 0 [vR 0, vR a, vI x2, vR b, vU, vU] [] μ Q := by
  refine s_iload_n dX10_pushes_0 rfl rfl ?_
  refine s_bipush dX10_pushes_1 (by decide) ?_
  refine s_icmp_ne dX10_pushes_3 (tgt := 35) (by decide) (fun cc => ?_) (fun cc => ?_)
  · have h := h.1 cc
    refine s_iload_n dX10_pushes_35 rfl rfl ?_
    refine s_bipush dX10_pushes_36 (by decide) ?_
    have kj2 : ∀ (v1 : Int), (at_V kR 1 mX10_pushes 52 [vU, vR a, vU, vR b, vI v1, vI 0] [] μ Q) → at_V kR 1 mX10_pushes 47 [vU, vR a, vU, vR b, vU, vU] [vI v1] μ Q := by
      intro v1 h
      refine s_istore dX10_pushes_47 (by decide) (L' := [vU, vR a, vU, vR b, vI v1, vU]) rfl ?_
      refine s_iconst dX10_pushes_49 (by decide) ?_
      refine s_istore dX10_pushes_50 (by decide) (L' := [vU, vR a, vU, vR b, vI v1, vI 0]) rfl ?_
      exact h
    refine s_icmp_ne dX10_pushes_38 (tgt := 46) (by decide) (fun cc => ?_) (fun cc => ?_)
    · have hp0 := cc
      refine s_iload_n dX10_pushes_46 rfl rfl ?_
      exact am_lesS (kj2 x2 (h x2 (by rw [if_neg hp0]))) ⟨Or.inl rfl, Or.inr rfl, Or.inl rfl, Or.inr rfl, Or.inl rfl, Or.inl rfl, trivial⟩
    · have hp0 := cc
      refine s_bipush dX10_pushes_41 (by decide) ?_
      refine s_goto dX10_pushes_43 (tgt := 47) (by decide) ?_
      exact am_lesS (kj2 9 (h 9 (by rw [if_pos hp0]))) ⟨Or.inl rfl, Or.inr rfl, Or.inl rfl, Or.inr rfl, Or.inl rfl, Or.inl rfl, trivial⟩
  · have h := h.2 cc
    refine s_iconst dX10_pushes_6 (by decide) ?_
    refine s_istore dX10_pushes_7 (by decide) (L' := [vR 0, vR a, vI x2, vR b, vI 0, vU]) rfl ?_
    exact am_lesS h ⟨Or.inl rfl, Or.inr rfl, Or.inr rfl, Or.inr rfl, Or.inr rfl, Or.inl rfl, trivial⟩
theorem vc_X10_pushes_9 {x2 x4 : Int} {a : Nat} (ha : a < kR.1 ∧ (kR.2 a).1 = 11 ∧ (kR.2 a).2.1 = 4700) {b : Nat} (hb : b < kR.1 ∧ (kR.2 b).1 = 11 ∧ (kR.2 b).2.1 = 470) {μ : am_M} {Q : am_M → Prop} (h : (4230 ≤ x4 → ∀ v1 : Int, v1 = (if x2 = 10 then 9 else x2) → at_V kR 1 mX10_pushes 52 [vU, vR a, vU, vR b, vI v1, vI 0] [] μ Q) ∧ (x4 < 4230 → (am_in (x4 + 470)) ∧ ((0 ≤ x4 + 470) ∧ (x4 + 470 < 4700) ∧ ((0 ≤ x4) ∧ (x4 < 4700) ∧ ((am_in (x4 + 1)) ∧ (at_V kR 1 mX10_pushes 9 [vU, vR a, vI x2, vR b, vI (x4 + 1), vU] [] (am_st μ a (am_up (μ a) (x4).toNat (μ a ((x4 + 470).toNat)))) Q)))))) : at_V kR 1 mX10_pushes 9 [vU, vR a, vI x2, vR b, vI x4, vU] [] μ Q := by
  refine s_iload dX10_pushes_9 rfl ?_
  refine s_sipush dX10_pushes_11 (by decide) ?_
  refine s_icmp_ge dX10_pushes_14 (tgt := 35) (by decide) (fun cc => ?_) (fun cc => ?_)
  · have h := h.1 cc
    refine s_iload_n dX10_pushes_35 rfl rfl ?_
    refine s_bipush dX10_pushes_36 (by decide) ?_
    have kj2 : ∀ (v1 : Int), (at_V kR 1 mX10_pushes 52 [vU, vR a, vU, vR b, vI v1, vI 0] [] μ Q) → at_V kR 1 mX10_pushes 47 [vU, vR a, vU, vR b, vU, vU] [vI v1] μ Q := by
      intro v1 h
      refine s_istore dX10_pushes_47 (by decide) (L' := [vU, vR a, vU, vR b, vI v1, vU]) rfl ?_
      refine s_iconst dX10_pushes_49 (by decide) ?_
      refine s_istore dX10_pushes_50 (by decide) (L' := [vU, vR a, vU, vR b, vI v1, vI 0]) rfl ?_
      exact h
    refine s_icmp_ne dX10_pushes_38 (tgt := 46) (by decide) (fun cc => ?_) (fun cc => ?_)
    · have hp0 := cc
      refine s_iload_n dX10_pushes_46 rfl rfl ?_
      exact am_lesS (kj2 x2 (h x2 (by rw [if_neg hp0]))) ⟨Or.inl rfl, Or.inr rfl, Or.inl rfl, Or.inr rfl, Or.inl rfl, Or.inl rfl, trivial⟩
    · have hp0 := cc
      refine s_bipush dX10_pushes_41 (by decide) ?_
      refine s_goto dX10_pushes_43 (tgt := 47) (by decide) ?_
      exact am_lesS (kj2 9 (h 9 (by rw [if_pos hp0]))) ⟨Or.inl rfl, Or.inr rfl, Or.inl rfl, Or.inr rfl, Or.inl rfl, Or.inl rfl, trivial⟩
  · have h := h.2 cc
    refine s_aload_n dX10_pushes_17 rfl rfl ?_
    refine s_iload dX10_pushes_18 rfl ?_
    refine s_aload_n dX10_pushes_20 rfl rfl ?_
    refine s_iload dX10_pushes_21 rfl ?_
    refine s_sipush dX10_pushes_23 (by decide) ?_
    obtain ⟨c, h⟩ := h
    refine s_iadd dX10_pushes_26 (am_w_id c) ?_
    obtain ⟨c, c2, h⟩ := h
    refine s_iald (x := (μ a ((x4 + 470).toNat))) dX10_pushes_27 ha.1 ha.2.1 ha.2.2 c c2 rfl ?_
    obtain ⟨c, c2, h⟩ := h
    refine s_iast dX10_pushes_28 ha.1 ha.2.1 ha.2.2 c c2 rfl ?_
    obtain ⟨c, h⟩ := h
    refine s_iinc dX10_pushes_29 rfl (am_w_id c) (by decide) (L' := [vU, vR a, vI x2, vR b, vI (x4 + 1), vU]) rfl ?_
    refine s_goto dX10_pushes_32 (tgt := 9) (by decide) ?_
    exact h
theorem vc_X10_pushes_52 {x4 x5 : Int} {a : Nat} (ha : a < kR.1 ∧ (kR.2 a).1 = 11 ∧ (kR.2 a).2.1 = 4700) {b : Nat} (hb : b < kR.1 ∧ (kR.2 b).1 = 11 ∧ (kR.2 b).2.1 = 470) {μ : am_M} {Q : am_M → Prop} (h : (470 ≤ x5 → Q μ) ∧ (x5 < 470 → (am_in (x4 * 470)) ∧ ((am_in ((x4 * 470) + x5)) ∧ ((0 ≤ x5) ∧ (x5 < 470) ∧ ((0 ≤ (x4 * 470) + x5) ∧ ((x4 * 470) + x5 < 4700) ∧ ((am_in (x5 + 1)) ∧ (at_V kR 1 mX10_pushes 52 [vU, vR a, vU, vR b, vI x4, vI (x5 + 1)] [] (am_st μ a (am_up (μ a) ((x4 * 470) + x5).toNat (μ b ((x5).toNat)))) Q))))))) : at_V kR 1 mX10_pushes 52 [vU, vR a, vU, vR b, vI x4, vI x5] [] μ Q := by
  refine s_iload dX10_pushes_52 rfl ?_
  refine s_sipush dX10_pushes_54 (by decide) ?_
  refine s_icmp_ge dX10_pushes_57 (tgt := 81) (by decide) (fun cc => ?_) (fun cc => ?_)
  · have h := h.1 cc
    exact s_return dX10_pushes_81 rfl ⟨⟨rfl, rfl⟩, rfl, h⟩
  · have h := h.2 cc
    refine s_aload_n dX10_pushes_60 rfl rfl ?_
    refine s_iload dX10_pushes_61 rfl ?_
    refine s_sipush dX10_pushes_63 (by decide) ?_
    obtain ⟨c, h⟩ := h
    refine s_imul dX10_pushes_66 (am_w_id c) ?_
    refine s_iload dX10_pushes_67 rfl ?_
    obtain ⟨c, h⟩ := h
    refine s_iadd dX10_pushes_69 (am_w_id c) ?_
    refine s_aload_n dX10_pushes_70 rfl rfl ?_
    refine s_iload dX10_pushes_71 rfl ?_
    obtain ⟨c, c2, h⟩ := h
    refine s_iald (x := (μ b ((x5).toNat))) dX10_pushes_73 hb.1 hb.2.1 hb.2.2 c c2 rfl ?_
    obtain ⟨c, c2, h⟩ := h
    refine s_iast dX10_pushes_74 ha.1 ha.2.1 ha.2.2 c c2 rfl ?_
    obtain ⟨c, h⟩ := h
    refine s_iinc dX10_pushes_75 rfl (am_w_id c) (by decide) (L' := [vU, vR a, vU, vR b, vI x4, vI (x5 + 1)]) rfl ?_
    refine s_goto dX10_pushes_78 (tgt := 52) (by decide) ?_
    exact h
theorem ve_X10_pushes {x2 : Int} {a : Nat} (ha : a < kR.1 ∧ (kR.2 a).1 = 11 ∧ (kR.2 a).2.1 = 4700) {b : Nat} (hb : b < kR.1 ∧ (kR.2 b).1 = 11 ∧ (kR.2 b).2.1 = 470) {μ : am_M} {Q : am_M → Prop} (h : at_V kR 1 mX10_pushes 0 [vR 0, vR a, vI x2, vR b, vU, vU] [] μ Q) : cl_V kR 1 mX10_pushes [vR 0, vR a, vI x2, vR b] μ Q := am_intro pmX10_pushes (Nat.le_of_ble_eq_true rfl) rfl h
theorem sp_X10_pushes {a b : Nat} (ha : a < kR.1 ∧ (kR.2 a).1 = 11 ∧ (kR.2 a).2.1 = 4700) (hb : b < kR.1 ∧ (kR.2 b).1 = 11 ∧ (kR.2 b).2.1 = 470) {μ : am_M} {n : Int} (hn : in_ 0 11 n) : cl_V kR 1 mX10_pushes [vR 0, vR a, vI n, vR b] μ (fun m => fr_ [a] μ m ∧ (n = 10 → (∀ i : Nat, i < 4230 → m a i = μ a (i + 470)) ∧ ∀ i : Nat, i < 470 → m a (4230 + i) = μ b i) ∧ (n ≠ 10 → (∀ i : Nat, i < 470 * n.toNat → m a i = μ a i) ∧ ∀ i : Nat, i < 470 → m a (470 * n.toNat + i) = μ b i)) := by
  have hab : b ≠ a := fun e => by
    have h1 := ha.2.2
    rw [← e, hb.2.2] at h1
    omega
  unfold in_ at hn
  have second : ∀ (j : Nat) (p x : Int) (m : am_M), x + j = 470 → 0 ≤ x → in_ 0 10 p → p = (if n = 10 then 9 else n) → fr_ [a] μ m → (n = 10 → (∀ i : Nat, i < 4230 → m a i = μ a (i + 470))) → (n ≠ 10 → ∀ i : Nat, i < 470 * n.toNat → m a i = μ a i) → (∀ i : Nat, (i : Int) < x → m a (470 * p.toNat + i) = μ b i) → at_V kR 1 mX10_pushes 52 [vU, vR a, vU, vR b, vI p, vI x] [] m (fun m => fr_ [a] μ m ∧ (n = 10 → (∀ i : Nat, i < 4230 → m a i = μ a (i + 470)) ∧ ∀ i : Nat, i < 470 → m a (4230 + i) = μ b i) ∧ (n ≠ 10 → (∀ i : Nat, i < 470 * n.toNat → m a i = μ a i) ∧ ∀ i : Nat, i < 470 → m a (470 * n.toNat + i) = μ b i)) := by
    intro j
    induction j with
    | zero =>
      intro p x m hx h0 hp ep hf h1 h2 hv
      refine vc_X10_pushes_52 ha hb ⟨fun _ => ⟨hf, fun c => ⟨h1 c, fun i hi => ?_⟩, fun c => ⟨h2 c, fun i hi => ?_⟩⟩, fun q => by omega⟩
      · rw [if_pos c] at ep
        subst ep
        exact hv i (by omega)
      · rw [if_neg c] at ep
        subst ep
        exact hv i (by omega)
    | succ j ih =>
      intro p x m hx h0 hp ep hf h1 h2 hv
      unfold in_ at hp
      refine vc_X10_pushes_52 ha hb ⟨fun q => by omega, fun q => ⟨(by (try unfold am_in); (try unfold in_ at *); omega), (by (try unfold am_in); (try unfold in_ at *); omega), h0, q, by omega, by omega, (by (try unfold am_in); (try unfold in_ at *); omega), ih p (x + 1) _ (by omega) (by omega) hp ep (fr_tr hf (fr_st (by simp))) (fun c i hi => ?_) (fun c i hi => ?_) (fun i hi => ?_)⟩⟩
      · rw [if_pos c] at ep
        rw [st_s, up_n (by omega)]
        exact h1 c i hi
      · rw [if_neg c] at ep
        rw [st_s, up_n (by omega)]
        exact h2 c i hi
      · rw [st_s]
        by_cases c : i = x.toNat
        · rw [show 470 * p.toNat + i = (p * 470 + x).toNat by omega, up_s, hf b (by simp [hab]), c]
        · rw [up_n (by omega)]
          exact hv i (by omega)
  refine ve_X10_pushes ha hb (vc_X10_pushes_0 ha hb ⟨fun c v e => second 470 v 0 μ (by omega) (by omega) (by rw [e, if_neg c]; ((try unfold am_in); (try unfold in_ at *); omega)) e fr_rf (fun c2 => absurd c2 c) (fun _ i _ => rfl) (fun i hi => by omega), fun c => ?_⟩)
  have first : ∀ (j : Nat) (x : Int) (m : am_M), x + j = 4230 → 0 ≤ x → fr_ [a] μ m → (∀ i : Nat, (i : Int) < x → m a i = μ a (i + 470)) → (∀ i : Nat, x ≤ i → m a i = μ a i) → at_V kR 1 mX10_pushes 9 [vU, vR a, vI n, vR b, vI x, vU] [] m (fun m => fr_ [a] μ m ∧ (n = 10 → (∀ i : Nat, i < 4230 → m a i = μ a (i + 470)) ∧ ∀ i : Nat, i < 470 → m a (4230 + i) = μ b i) ∧ (n ≠ 10 → (∀ i : Nat, i < 470 * n.toNat → m a i = μ a i) ∧ ∀ i : Nat, i < 470 → m a (470 * n.toNat + i) = μ b i)) := by
    intro j
    induction j with
    | zero =>
      intro x m hx h0 hf h1 h2
      refine vc_X10_pushes_9 ha hb ⟨fun _ v e => second 470 v 0 m (by omega) (by omega) (by rw [e, if_pos c]; ((try unfold am_in); (try unfold in_ at *); omega)) e hf (fun _ i hi => h1 i (by omega)) (fun c2 => absurd c c2) (fun i hi => by omega), fun q => by omega⟩
    | succ j ih =>
      intro x m hx h0 hf h1 h2
      refine vc_X10_pushes_9 ha hb ⟨fun q => by omega, fun q => ⟨(by (try unfold am_in); (try unfold in_ at *); omega), by omega, by omega, h0, by omega, (by (try unfold am_in); (try unfold in_ at *); omega), ih (x + 1) _ (by omega) (by omega) (fr_tr hf (fr_st (by simp))) (fun i hi => ?_) (fun i hi => ?_)⟩⟩
      · rw [st_s]
        by_cases c2 : i = x.toNat
        · rw [c2, up_s, h2 _ (by omega)]
          congr 1
          omega
        · rw [up_n c2]
          exact h1 i (by omega)
      · rw [st_s, up_n (by omega)]
        exact h2 i (by omega)
  exact first 4230 0 μ (by omega) (by omega) fr_rf (fun i hi => by omega) (fun i _ => rfl)

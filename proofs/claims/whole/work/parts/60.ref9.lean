/-! the reference's questions: chapters, mix, loudness -/
def hr_A (a : Nat → Int) (H : Hl) : Prop := a 438 = H.length ∧ ∀ (i : Nat) (p : Int × Int), H[i]? = some p → a (439 + 2 * i) = p.1 ∧ a (439 + 2 * i + 1) = p.2
theorem hr_hA {a : Nat → Int} (h : 0 ≤ a 438) : hr_A a (hA a) := by
  refine ⟨by simp [hA]; omega, fun i p hi => ?_⟩
  unfold hA at hi
  rw [List.getElem?_map] at hi
  by_cases q : i < (a 438).toNat
  · rw [List.getElem?_range q] at hi
    cases hi
    exact ⟨rfl, rfl⟩
  · rw [List.getElem?_eq_none (by simpa using q)] at hi
    cases hi
theorem hr_un {a : Nat → Int} {H : Hl} (h : hr_A a H) : hA a = H := by
  apply List.ext_getElem?
  intro i
  unfold hA
  rw [List.getElem?_map, h.1]
  by_cases q : i < H.length
  · rw [List.getElem?_range (by omega), List.getElem?_eq_getElem q]
    have := h.2 i _ (List.getElem?_eq_getElem q)
    simp [this]
  · rw [List.getElem?_eq_none (by simp; omega), List.getElem?_eq_none (by omega)]
    rfl
theorem hr_at {a : Nat → Int} {A B : Hl} {p : Int × Int} (h : hr_A a (A ++ p :: B)) {x : Int} (hx : x = A.length) : a (439 + 2 * x).toNat = p.1 ∧ a (439 + 2 * x + 1).toNat = p.2 := by
  have := h.2 A.length p (by simp)
  rw [show (439 + 2 * x).toNat = 439 + 2 * A.length by omega, show (439 + 2 * x + 1).toNat = 439 + 2 * A.length + 1 by omega]
  exact this
theorem hr_g {a : Nat → Int} {H : Hl} (h : hr_A a H) {c : Int} (h0 : 0 ≤ c) (h1 : c < H.length) : a (439 + 2 * c).toNat = (H.getD c.toNat (0, 0)).1 ∧ a (439 + 2 * c + 1).toNat = (H.getD c.toNat (0, 0)).2 := by
  have hl : c.toNat < H.length := by omega
  have := h.2 c.toNat _ (List.getElem?_eq_getElem hl)
  rw [List.getD_eq_getElem?_getD, List.getElem?_eq_getElem hl, show (439 + 2 * c).toNat = 439 + 2 * c.toNat by omega, show (439 + 2 * c + 1).toNat = 439 + 2 * c.toNat + 1 by omega]
  exact this
theorem vR_h {ν : am_M} (h : vR_ ν) : hr_A (ν 1) (pH (pR ν)) ∧ (pH (pR ν)).length ≤ 12 ∧ in_ 0 13 (ν 1 438) := by
  have a := hr_hA h.2
  have b : (hA (ν 1)).length ≤ 12 := h.1.hl
  refine ⟨a, b, ?_⟩
  have := a.1
  unfold in_
  omega
theorem vc_X10_chapterAt_0 {x1 : Int} {μ : am_M} {Q : Int → am_M → Prop} (h : (0 ≤ x1 ∧ x1 < 600 → at_I kR 3 mX10_chapterAt 11 [vR 0, vI x1, vI 0] [] μ Q) ∧ (¬ (0 ≤ x1 ∧ x1 < 600) → Q (-1) μ)) : at_I kR 3 mX10_chapterAt 0 [vR 0, vI x1, vU] [] μ Q := by
  refine s_iload_n dX10_chapterAt_0 rfl rfl ?_
  refine s_callS (As := [vI x1]) (rest := []) dX10_chapterAt_1 lkX10_175 lmX10_isFrame rfl rfl (Nat.le_of_ble_eq_true rfl) (by decide) (Nat.le_refl 0) (Nat.le_refl 0) (hC := sp_X10_isFrame (Q := fun z m => bI (0 ≤ x1 ∧ x1 < 600) = z ∧ μ = m)  ⟨rfl, rfl⟩) (fun r n2 S2 m2 hP => ?_)
  obtain ⟨⟨rfl, rfl⟩, z, rfl, rfl, rfl⟩ := hP
  refine s_if_ne dX10_chapterAt_4 (tgt := 9) (by decide) (fun cc => ?_) (fun cc => ?_)
  · have h := h.1 (bI_ne cc)
    refine s_iconst dX10_chapterAt_9 (by decide) ?_
    refine s_istore_n dX10_chapterAt_10 rfl (by decide) (L' := [vR 0, vI x1, vI 0]) rfl ?_
    exact h
  · have h := h.2 (bI_eq cc)
    refine s_iconst dX10_chapterAt_7 (by decide) ?_
    exact s_ireturn dX10_chapterAt_8 (Or.inl rfl) ⟨⟨rfl, rfl⟩, _, rfl, h⟩
theorem vc_X10_chapterAt_11 {x1 x2 : Int} {μ : am_M} {Q : Int → am_M → Prop} (h : (μ 1 438 ≤ x2 → ((x2 ≠ 0 → (am_in (x2 - 1)))) ∧ (∀ v1 : Int, v1 = (if x2 = 0 then (-6) else x2 - 1) → Q v1 μ)) ∧ (x2 < μ 1 438 → (am_in (2 * x2)) ∧ ((am_in (439 + (2 * x2))) ∧ ((0 ≤ 439 + (2 * x2)) ∧ (439 + (2 * x2) < 470) ∧ ((x1 < μ 1 ((439 + (2 * x2)).toNat) → ((x2 ≠ 0 → (am_in (x2 - 1)))) ∧ (∀ v3 : Int, v3 = (if x2 = 0 then (-6) else x2 - 1) → Q v3 μ)) ∧ (μ 1 ((439 + (2 * x2)).toNat) ≤ x1 → (am_in (x2 + 1)) ∧ (at_I kR 3 mX10_chapterAt 11 [vR 0, vI x1, vI (x2 + 1)] [] μ Q))))))) : at_I kR 3 mX10_chapterAt 11 [vR 0, vI x1, vI x2] [] μ Q := by
  refine s_iload_n dX10_chapterAt_11 rfl rfl ?_
  refine s_aload_n dX10_chapterAt_12 rfl rfl ?_
  refine s_getR dX10_chapterAt_13 flX10_9 rn0 rk0 rfl rr0_0 ?_
  refine s_sipush dX10_chapterAt_16 (by decide) ?_
  refine s_iald (x := (μ 1 438)) dX10_chapterAt_19 rn1 rk1 rl1 (by decide) (by decide) rfl ?_
  refine s_icmp_ge dX10_chapterAt_20 (tgt := 45) (by decide) (fun cc => ?_) (fun cc => ?_)
  · have h := h.1 cc
    refine s_iload_n dX10_chapterAt_45 rfl rfl ?_
    obtain ⟨hsd, h⟩ := h
    have kj2 : ∀ (v1 : Int), (Q v1 μ) → at_I kR 3 mX10_chapterAt 57 [vU, vU, vU] [vI v1] μ Q := by
      intro v1 h
      exact s_ireturn dX10_chapterAt_57 (Or.inl rfl) ⟨⟨rfl, rfl⟩, _, rfl, h⟩
    refine s_if_ne dX10_chapterAt_46 (tgt := 54) (by decide) (fun cc => ?_) (fun cc => ?_)
    · have hp0 := cc
      have hsd := hsd hp0
      refine s_iload_n dX10_chapterAt_54 rfl rfl ?_
      refine s_iconst dX10_chapterAt_55 (by decide) ?_
      have c := hsd
      refine s_isub dX10_chapterAt_56 (am_w_id c) ?_
      exact am_lesS (kj2 (x2 - 1) (h (x2 - 1) (by rw [if_neg hp0]))) ⟨Or.inl rfl, Or.inl rfl, Or.inl rfl, trivial⟩
    · have hp0 := cc
      refine s_bipush dX10_chapterAt_49 (by decide) ?_
      refine s_goto dX10_chapterAt_51 (tgt := 57) (by decide) ?_
      exact am_lesS (kj2 (-6) (h (-6) (by rw [if_pos hp0]))) ⟨Or.inl rfl, Or.inl rfl, Or.inl rfl, trivial⟩
  · have h := h.2 cc
    refine s_aload_n dX10_chapterAt_23 rfl rfl ?_
    refine s_getR dX10_chapterAt_24 flX10_9 rn0 rk0 rfl rr0_0 ?_
    refine s_sipush dX10_chapterAt_27 (by decide) ?_
    refine s_iconst dX10_chapterAt_30 (by decide) ?_
    refine s_iload_n dX10_chapterAt_31 rfl rfl ?_
    obtain ⟨c, h⟩ := h
    refine s_imul dX10_chapterAt_32 (am_w_id c) ?_
    obtain ⟨c, h⟩ := h
    refine s_iadd dX10_chapterAt_33 (am_w_id c) ?_
    obtain ⟨c, c2, h⟩ := h
    refine s_iald (x := (μ 1 ((439 + (2 * x2)).toNat))) dX10_chapterAt_34 rn1 rk1 rl1 c c2 rfl ?_
    refine s_iload_n dX10_chapterAt_35 rfl rfl ?_
    refine s_icmp_gt dX10_chapterAt_36 (tgt := 45) (by decide) (fun cc => ?_) (fun cc => ?_)
    · have h := h.1 cc
      refine s_iload_n dX10_chapterAt_45 rfl rfl ?_
      obtain ⟨hsd, h⟩ := h
      have kj4 : ∀ (v3 : Int), (Q v3 μ) → at_I kR 3 mX10_chapterAt 57 [vU, vU, vU] [vI v3] μ Q := by
        intro v3 h
        exact s_ireturn dX10_chapterAt_57 (Or.inl rfl) ⟨⟨rfl, rfl⟩, _, rfl, h⟩
      refine s_if_ne dX10_chapterAt_46 (tgt := 54) (by decide) (fun cc => ?_) (fun cc => ?_)
      · have hp0 := cc
        have hsd := hsd hp0
        refine s_iload_n dX10_chapterAt_54 rfl rfl ?_
        refine s_iconst dX10_chapterAt_55 (by decide) ?_
        have c := hsd
        refine s_isub dX10_chapterAt_56 (am_w_id c) ?_
        exact am_lesS (kj4 (x2 - 1) (h (x2 - 1) (by rw [if_neg hp0]))) ⟨Or.inl rfl, Or.inl rfl, Or.inl rfl, trivial⟩
      · have hp0 := cc
        refine s_bipush dX10_chapterAt_49 (by decide) ?_
        refine s_goto dX10_chapterAt_51 (tgt := 57) (by decide) ?_
        exact am_lesS (kj4 (-6) (h (-6) (by rw [if_pos hp0]))) ⟨Or.inl rfl, Or.inl rfl, Or.inl rfl, trivial⟩
    · have h := h.2 cc
      obtain ⟨c, h⟩ := h
      refine s_iinc dX10_chapterAt_39 rfl (am_w_id c) (by decide) (L' := [vR 0, vI x1, vI (x2 + 1)]) rfl ?_
      refine s_goto dX10_chapterAt_42 (tgt := 11) (by decide) ?_
      exact h
theorem ve_X10_chapterAt {x1 : Int} {μ : am_M} {Q : Int → am_M → Prop} (h : at_I kR 3 mX10_chapterAt 0 [vR 0, vI x1, vU] [] μ Q) : cl_I kR 3 mX10_chapterAt [vR 0, vI x1] μ Q := am_intro pmX10_chapterAt (Nat.le_of_ble_eq_true rfl) rfl h
theorem sp_X10_chapterAt {μ : am_M} {f : Int} (hR : vR_ μ) : cl_I kR 3 mX10_chapterAt [vR 0, vI f] μ (fun z m => z = q_chapterAt (pR μ) f ∧ rq_ μ m) := by
  obtain ⟨hr, hl, h13⟩ := vR_h hR
  have hlen := hr.1
  refine ve_X10_chapterAt (vc_X10_chapterAt_0 ⟨fun c => ?_, fun c => ⟨by unfold q_chapterAt; rw [if_neg c], rq_rf⟩⟩)
  have fin : ∀ x : Int, x = (bef_ (f + 1) (pH (pR μ))).length → ∀ v : Int, v = (if x = 0 then (-6) else x - 1) → v = q_chapterAt (pR μ) f ∧ rq_ μ μ := fun x hx v hv => by
    refine ⟨?_, rq_rf⟩
    rw [hv]
    unfold q_chapterAt
    rw [if_pos c]
    by_cases q : x = 0
    · rw [if_pos q, if_pos (by omega)]
    · rw [if_neg q, if_neg (by omega), hx]
  have : ∀ (B A : Hl) (x : Int), pH (pR μ) = A ++ B → x = A.length → bef_ (f + 1) (pH (pR μ)) = A ++ bef_ (f + 1) B → at_I kR 3 mX10_chapterAt 11 [vR 0, vI f, vI x] [] μ (fun z m => z = q_chapterAt (pR μ) f ∧ rq_ μ m) := by
    intro B
    induction B with
    | nil =>
      intro A x hA hx hb
      have hxl : x ≤ 12 := by rw [hA] at hl; simp at hl; omega
      refine vc_X10_chapterAt_11 ⟨fun _ => ⟨fun _ => (by (try unfold am_in); (try unfold in_ at *); omega), fin x (by rw [hb, hx]; simp [bef_])⟩, fun q => by rw [hlen, hA] at q; simp at q; omega⟩
    | cons p B ih =>
      intro A x hA hx hb
      have hll : (pH (pR μ)).length = A.length + 1 + B.length := by rw [hA]; simp; omega
      have hr2 := hr
      rw [hA] at hr2
      have v := (hr_at hr2 hx).1
      rw [bef_c] at hb
      refine vc_X10_chapterAt_11 ⟨fun q => by omega, fun q => ⟨(by (try unfold am_in); (try unfold in_ at *); omega), (by (try unfold am_in); (try unfold in_ at *); omega), by omega, by omega, fun c2 => ?_, fun c2 => ⟨(by (try unfold am_in); (try unfold in_ at *); omega), ?_⟩⟩⟩
      · rw [v] at c2
        rw [if_neg (by omega)] at hb
        exact ⟨fun _ => (by (try unfold am_in); (try unfold in_ at *); omega), fin x (by rw [hb, hx]; simp)⟩
      · rw [v] at c2
        rw [if_pos (by omega)] at hb
        exact ih (A ++ [p]) (x + 1) (by rw [hA]; simp) (by simp; omega) (by rw [hb]; simp)
  exact this (pH (pR μ)) [] 0 (by simp) rfl (by simp)
theorem vc_X10_ofChapter_0 {x1 x2 : Int} {μ : am_M} {Q : Int → am_M → Prop} (h : (in_ 0 13 (μ 1 438)) ∧ ((0 ≤ x1 ∧ x1 < μ 1 438 → (0 ≤ x2 ∧ x2 ≤ 3 → (am_in (2 * x1)) ∧ ((am_in (439 + (2 * x1))) ∧ ((0 ≤ 439 + (2 * x1)) ∧ (439 + (2 * x1) < 470) ∧ ((2 ≤ x2 → (am_in (x1 + 1)) ∧ (((μ 1 438 ≤ x1 + 1 → (ok_T (rg μ) (μ 1 25))) ∧ (x1 + 1 < μ 1 438 → (am_in (2 * x1)) ∧ ((am_in (439 + (2 * x1))) ∧ ((am_in ((439 + (2 * x1)) + 2)) ∧ ((0 ≤ (439 + (2 * x1)) + 2) ∧ ((439 + (2 * x1)) + 2 < 470)))))) ∧ (∀ v1 : Int, v1 = (if x1 + 1 < μ 1 438 then μ 1 (((439 + (2 * x1)) + 2).toNat) else la_ (rg μ) (μ 1 25)) → (x2 ≠ 2 → ∃ P : am_M → Prop, cl_V kR 3 mX10_works [vR 0] μ P ∧ (∀ m3 : am_M, P m3 → at_I kR 4 mX10_ofChapter 122 [vR 0, vU, vU, vU, vI v1, vI 0, vI (μ 1 ((439 + (2 * x1)).toNat))] [] m3 Q)) ∧ (x2 = 2 → ((μ 1 ((439 + (2 * x1)).toNat) < v1 → (am_in (v1 - (μ 1 ((439 + (2 * x1)).toNat)))))) ∧ (∀ v4 : Int, v4 = (if μ 1 ((439 + (2 * x1)).toNat) < v1 then v1 - (μ 1 ((439 + (2 * x1)).toNat)) else 0) → Q v4 μ))))) ∧ (x2 < 2 → (am_in (2 * x1)) ∧ ((am_in (439 + (2 * x1))) ∧ ((am_in ((439 + (2 * x1)) + x2)) ∧ ((0 ≤ (439 + (2 * x1)) + x2) ∧ ((439 + (2 * x1)) + x2 < 470) ∧ (Q (μ 1 (((439 + (2 * x1)) + x2).toNat)) μ))))))))) ∧ (¬ (0 ≤ x2 ∧ x2 ≤ 3) → Q (-2) μ)) ∧ (¬ (0 ≤ x1 ∧ x1 < μ 1 438) → Q (-1) μ))) : at_I kR 4 mX10_ofChapter 0 [vR 0, vI x1, vI x2, vU, vU, vU, vU] [] μ Q := by
  refine s_aload_n dX10_ofChapter_0 rfl rfl ?_
  refine s_iload_n dX10_ofChapter_1 rfl rfl ?_
  obtain ⟨p0, h⟩ := h
  refine s_callV (As := [vI x1]) (rest := []) (k := 0) dX10_ofChapter_2 lkX10_221 rn0 ⟨by rw [rk0]; rfl, by rw [rk0]; decide⟩ lmX10_isChapter rfl rfl (Nat.le_of_ble_eq_true rfl) (by decide) (Nat.le_refl 0) (Nat.le_refl 0) (hC := sp_X10_isChapter (Q := fun z m => bI (0 ≤ x1 ∧ x1 < μ 1 438) = z ∧ μ = m) p0 ⟨rfl, rfl⟩) (fun r n2 S2 m2 hP => ?_)
  obtain ⟨⟨rfl, rfl⟩, z, rfl, rfl, rfl⟩ := hP
  refine s_if_ne dX10_ofChapter_5 (tgt := 10) (by decide) (fun cc => ?_) (fun cc => ?_)
  · have h := h.1 (bI_ne cc)
    refine s_iload_n dX10_ofChapter_10 rfl rfl ?_
    refine s_iconst dX10_ofChapter_11 (by decide) ?_
    refine s_iconst dX10_ofChapter_12 (by decide) ?_
    refine s_callS (As := [vI x2, vI 0, vI 3]) (rest := []) dX10_ofChapter_13 lkX10_103 lmX10_isIn rfl rfl (Nat.le_of_ble_eq_true rfl) (by decide) (Nat.le_refl 0) (Nat.le_refl 0) (hC := sp_X10_isIn (Q := fun z m => bI (0 ≤ x2 ∧ x2 ≤ 3) = z ∧ μ = m)  ⟨rfl, rfl⟩) (fun r n2 S2 m2 hP => ?_)
    obtain ⟨⟨rfl, rfl⟩, z, rfl, rfl, rfl⟩ := hP
    refine s_if_ne dX10_ofChapter_16 (tgt := 22) (by decide) (fun cc => ?_) (fun cc => ?_)
    · have h := h.1 (bI_ne cc)
      refine s_aload_n dX10_ofChapter_22 rfl rfl ?_
      refine s_getR dX10_ofChapter_23 flX10_9 rn0 rk0 rfl rr0_0 ?_
      refine s_sipush dX10_ofChapter_26 (by decide) ?_
      refine s_iconst dX10_ofChapter_29 (by decide) ?_
      refine s_iload_n dX10_ofChapter_30 rfl rfl ?_
      obtain ⟨c, h⟩ := h
      refine s_imul dX10_ofChapter_31 (am_w_id c) ?_
      obtain ⟨c, h⟩ := h
      refine s_iadd dX10_ofChapter_32 (am_w_id c) ?_
      obtain ⟨c, c2, h⟩ := h
      refine s_iald (x := (μ 1 ((439 + (2 * x1)).toNat))) dX10_ofChapter_33 rn1 rk1 rl1 c c2 rfl ?_
      refine s_istore_n dX10_ofChapter_34 rfl (by decide) (L' := [vR 0, vI x1, vI x2, vI (μ 1 ((439 + (2 * x1)).toNat)), vU, vU, vU]) rfl ?_
      refine s_iload_n dX10_ofChapter_35 rfl rfl ?_
      refine s_iconst dX10_ofChapter_36 (by decide) ?_
      refine s_icmp_ge dX10_ofChapter_37 (tgt := 55) (by decide) (fun cc => ?_) (fun cc => ?_)
      · have h := h.1 cc
        refine s_iload_n dX10_ofChapter_55 rfl rfl ?_
        refine s_iconst dX10_ofChapter_56 (by decide) ?_
        obtain ⟨c, h⟩ := h
        refine s_iadd dX10_ofChapter_57 (am_w_id c) ?_
        refine s_aload_n dX10_ofChapter_58 rfl rfl ?_
        refine s_getR dX10_ofChapter_59 flX10_9 rn0 rk0 rfl rr0_0 ?_
        refine s_sipush dX10_ofChapter_62 (by decide) ?_
        refine s_iald (x := (μ 1 438)) dX10_ofChapter_65 rn1 rk1 rl1 (by decide) (by decide) rfl ?_
        obtain ⟨hsd, h⟩ := h
        have kj6 : ∀ (v1 : Int), ((x2 ≠ 2 → ∃ P : am_M → Prop, cl_V kR 3 mX10_works [vR 0] μ P ∧ (∀ m3 : am_M, P m3 → at_I kR 4 mX10_ofChapter 122 [vR 0, vU, vU, vU, vI v1, vI 0, vI (μ 1 ((439 + (2 * x1)).toNat))] [] m3 Q)) ∧ (x2 = 2 → ((μ 1 ((439 + (2 * x1)).toNat) < v1 → (am_in (v1 - (μ 1 ((439 + (2 * x1)).toNat)))))) ∧ (∀ v4 : Int, v4 = (if μ 1 ((439 + (2 * x1)).toNat) < v1 then v1 - (μ 1 ((439 + (2 * x1)).toNat)) else 0) → Q v4 μ))) → at_I kR 4 mX10_ofChapter 90 [vR 0, vU, vI x2, vI (μ 1 ((439 + (2 * x1)).toNat)), vU, vU, vU] [vI v1] μ Q := by
          intro v1 h
          refine s_istore dX10_ofChapter_90 (by decide) (L' := [vR 0, vU, vI x2, vI (μ 1 ((439 + (2 * x1)).toNat)), vI v1, vU, vU]) rfl ?_
          refine s_iload_n dX10_ofChapter_92 rfl rfl ?_
          refine s_iconst dX10_ofChapter_93 (by decide) ?_
          refine s_icmp_ne dX10_ofChapter_94 (tgt := 112) (by decide) (fun cc => ?_) (fun cc => ?_)
          · have h := h.1 cc
            refine s_aload_n dX10_ofChapter_112 rfl rfl ?_
            obtain ⟨P, hcl, h⟩ := h
            refine s_callV (As := []) (rest := []) (k := 0) dX10_ofChapter_113 lkX10_152 rn0 ⟨by rw [rk0]; rfl, by rw [rk0]; decide⟩ lmX10_works rfl rfl (Nat.le_of_ble_eq_true rfl) (by decide) (Nat.le_refl 0) (Nat.le_refl 0) (hC := hcl) (fun r n2 S2 m3 hP => ?_)
            obtain ⟨⟨rfl, rfl⟩, rfl, hq⟩ := hP
            have h := h m3 hq
            refine s_iconst dX10_ofChapter_116 (by decide) ?_
            refine s_istore dX10_ofChapter_117 (by decide) (L' := [vR 0, vU, vI x2, vI (μ 1 ((439 + (2 * x1)).toNat)), vI v1, vI 0, vU]) rfl ?_
            refine s_iload_n dX10_ofChapter_119 rfl rfl ?_
            refine s_istore dX10_ofChapter_120 (by decide) (L' := [vR 0, vU, vI x2, vI (μ 1 ((439 + (2 * x1)).toNat)), vI v1, vI 0, vI (μ 1 ((439 + (2 * x1)).toNat))]) rfl ?_
            exact am_lesS h ⟨Or.inr rfl, Or.inl rfl, Or.inl rfl, Or.inl rfl, Or.inr rfl, Or.inr rfl, Or.inr rfl, trivial⟩
          · have h := h.2 cc
            refine s_iload dX10_ofChapter_97 rfl ?_
            refine s_iload_n dX10_ofChapter_99 rfl rfl ?_
            obtain ⟨hsd, h⟩ := h
            have kj5 : ∀ (v4 : Int), (Q v4 μ) → at_I kR 4 mX10_ofChapter 111 [vU, vU, vU, vU, vU, vU, vU] [vI v4] μ Q := by
              intro v4 h
              exact s_ireturn dX10_ofChapter_111 (Or.inl rfl) ⟨⟨rfl, rfl⟩, _, rfl, h⟩
            refine s_icmp_le dX10_ofChapter_100 (tgt := 110) (by decide) (fun cc => ?_) (fun cc => ?_)
            · have hp0 := cc
              refine s_iconst dX10_ofChapter_110 (by decide) ?_
              exact am_lesS (kj5 0 (h 0 (by rw [if_neg (Int.not_lt.mpr hp0)]))) ⟨Or.inl rfl, Or.inl rfl, Or.inl rfl, Or.inl rfl, Or.inl rfl, Or.inl rfl, Or.inl rfl, trivial⟩
            · have hp0 := cc
              have hsd := hsd hp0
              refine s_iload dX10_ofChapter_103 rfl ?_
              refine s_iload_n dX10_ofChapter_105 rfl rfl ?_
              have c := hsd
              refine s_isub dX10_ofChapter_106 (am_w_id c) ?_
              refine s_goto dX10_ofChapter_107 (tgt := 111) (by decide) ?_
              exact am_lesS (kj5 (v1 - (μ 1 ((439 + (2 * x1)).toNat))) (h (v1 - (μ 1 ((439 + (2 * x1)).toNat))) (by rw [if_pos hp0]))) ⟨Or.inl rfl, Or.inl rfl, Or.inl rfl, Or.inl rfl, Or.inl rfl, Or.inl rfl, Or.inl rfl, trivial⟩
        refine s_icmp_ge dX10_ofChapter_66 (tgt := 86) (by decide) (fun cc => ?_) (fun cc => ?_)
        · have hp0 := cc
          have hsd := hsd.1 hp0
          refine s_aload_n dX10_ofChapter_86 rfl rfl ?_
          have p0 := hsd
          refine s_callV (As := []) (rest := []) (k := 0) dX10_ofChapter_87 lkX10_155 rn0 ⟨by rw [rk0]; rfl, by rw [rk0]; decide⟩ lmX10_last rfl rfl (Nat.le_of_ble_eq_true rfl) (by decide) (Nat.le_refl 0) (Nat.le_refl 0) (hC := sp_X10_last (Q := fun z m => la_ (rg μ) (μ 1 25) = z ∧ μ = m) p0 ⟨rfl, rfl⟩) (fun r n2 S2 m2 hP => ?_)
          obtain ⟨⟨rfl, rfl⟩, z, rfl, rfl, rfl⟩ := hP
          exact am_lesS (kj6 (la_ (rg μ) (μ 1 25)) (h (la_ (rg μ) (μ 1 25)) (by rw [if_neg (Int.not_lt.mpr hp0)]))) ⟨Or.inr rfl, Or.inl rfl, Or.inr rfl, Or.inr rfl, Or.inl rfl, Or.inl rfl, Or.inl rfl, trivial⟩
        · have hp0 := cc
          have hsd := hsd.2 hp0
          refine s_aload_n dX10_ofChapter_69 rfl rfl ?_
          refine s_getR dX10_ofChapter_70 flX10_9 rn0 rk0 rfl rr0_0 ?_
          refine s_sipush dX10_ofChapter_73 (by decide) ?_
          refine s_iconst dX10_ofChapter_76 (by decide) ?_
          refine s_iload_n dX10_ofChapter_77 rfl rfl ?_
          obtain ⟨c, hsd⟩ := hsd
          refine s_imul dX10_ofChapter_78 (am_w_id c) ?_
          obtain ⟨c, hsd⟩ := hsd
          refine s_iadd dX10_ofChapter_79 (am_w_id c) ?_
          refine s_iconst dX10_ofChapter_80 (by decide) ?_
          obtain ⟨c, hsd⟩ := hsd
          refine s_iadd dX10_ofChapter_81 (am_w_id c) ?_
          obtain ⟨c, c2⟩ := hsd
          refine s_iald (x := (μ 1 (((439 + (2 * x1)) + 2).toNat))) dX10_ofChapter_82 rn1 rk1 rl1 c c2 rfl ?_
          refine s_goto dX10_ofChapter_83 (tgt := 90) (by decide) ?_
          exact am_lesS (kj6 (μ 1 (((439 + (2 * x1)) + 2).toNat)) (h (μ 1 (((439 + (2 * x1)) + 2).toNat)) (by rw [if_pos hp0]))) ⟨Or.inr rfl, Or.inl rfl, Or.inr rfl, Or.inr rfl, Or.inl rfl, Or.inl rfl, Or.inl rfl, trivial⟩
      · have h := h.2 cc
        refine s_aload_n dX10_ofChapter_40 rfl rfl ?_
        refine s_getR dX10_ofChapter_41 flX10_9 rn0 rk0 rfl rr0_0 ?_
        refine s_sipush dX10_ofChapter_44 (by decide) ?_
        refine s_iconst dX10_ofChapter_47 (by decide) ?_
        refine s_iload_n dX10_ofChapter_48 rfl rfl ?_
        obtain ⟨c, h⟩ := h
        refine s_imul dX10_ofChapter_49 (am_w_id c) ?_
        obtain ⟨c, h⟩ := h
        refine s_iadd dX10_ofChapter_50 (am_w_id c) ?_
        refine s_iload_n dX10_ofChapter_51 rfl rfl ?_
        obtain ⟨c, h⟩ := h
        refine s_iadd dX10_ofChapter_52 (am_w_id c) ?_
        obtain ⟨c, c2, h⟩ := h
        refine s_iald (x := (μ 1 (((439 + (2 * x1)) + x2).toNat))) dX10_ofChapter_53 rn1 rk1 rl1 c c2 rfl ?_
        exact s_ireturn dX10_ofChapter_54 (Or.inl rfl) ⟨⟨rfl, rfl⟩, _, rfl, h⟩
    · have h := h.2 (bI_eq cc)
      refine s_bipush dX10_ofChapter_19 (by decide) ?_
      exact s_ireturn dX10_ofChapter_21 (Or.inl rfl) ⟨⟨rfl, rfl⟩, _, rfl, h⟩
  · have h := h.2 (bI_eq cc)
    refine s_iconst dX10_ofChapter_8 (by decide) ?_
    exact s_ireturn dX10_ofChapter_9 (Or.inl rfl) ⟨⟨rfl, rfl⟩, _, rfl, h⟩
theorem vc_X10_ofChapter_122 {x4 x5 x6 : Int} {μ : am_M} {Q : Int → am_M → Prop} (h : (x4 ≤ x6 → Q x5 μ) ∧ (x6 < x4 → (rsnd_ μ) ∧ (vP (pR μ)) ∧ (in_ 0 600 x6) ∧ (in_ 0 401 (μ 1 465)) ∧ (((x5 < mi_ (suP (pR μ) x6) (μ 1 465) → (rsnd_ μ) ∧ (vP (pR μ)) ∧ (in_ 0 600 x6) ∧ (in_ 0 401 (μ 1 465)))) ∧ (∀ v1 : Int, v1 = (if x5 < mi_ (suP (pR μ) x6) (μ 1 465) then mi_ (suP (pR μ) x6) (μ 1 465) else x5) → (am_in (x6 + 1)) ∧ (at_I kR 4 mX10_ofChapter 122 [vR 0, vU, vU, vU, vI x4, vI v1, vI (x6 + 1)] [] μ Q))))) : at_I kR 4 mX10_ofChapter 122 [vR 0, vU, vU, vU, vI x4, vI x5, vI x6] [] μ Q := by
  refine s_iload dX10_ofChapter_122 rfl ?_
  refine s_iload dX10_ofChapter_124 rfl ?_
  refine s_icmp_ge dX10_ofChapter_126 (tgt := 175) (by decide) (fun cc => ?_) (fun cc => ?_)
  · have h := h.1 cc
    refine s_iload dX10_ofChapter_175 rfl ?_
    exact s_ireturn dX10_ofChapter_177 (Or.inl rfl) ⟨⟨rfl, rfl⟩, _, rfl, h⟩
  · have h := h.2 cc
    refine s_aload_n dX10_ofChapter_129 rfl rfl ?_
    refine s_iload dX10_ofChapter_130 rfl ?_
    refine s_aload_n dX10_ofChapter_132 rfl rfl ?_
    refine s_getR dX10_ofChapter_133 flX10_9 rn0 rk0 rfl rr0_0 ?_
    refine s_sipush dX10_ofChapter_136 (by decide) ?_
    refine s_iald (x := (μ 1 465)) dX10_ofChapter_139 rn1 rk1 rl1 (by decide) (by decide) rfl ?_
    obtain ⟨p0, p1, p2, p3, h⟩ := h
    refine s_callV (As := [vI x6, vI (μ 1 465)]) (rest := []) (k := 0) dX10_ofChapter_140 lkX10_196 rn0 ⟨by rw [rk0]; rfl, by rw [rk0]; decide⟩ lmX10_mixOf rfl rfl (Nat.le_of_ble_eq_true rfl) (by decide) (Nat.le_refl 0) (Nat.le_refl 0) (hC := sp_X10_mixOf (Q := fun z m => mi_ (suP (pR μ) x6) (μ 1 465) = z ∧ μ = m) p0 p1 p2 p3 ⟨rfl, rfl⟩) (fun r n2 S2 m2 hP => ?_)
    obtain ⟨⟨rfl, rfl⟩, z, rfl, rfl, rfl⟩ := hP
    refine s_iload dX10_ofChapter_143 rfl ?_
    obtain ⟨hsd, h⟩ := h
    have kj2 : ∀ (v1 : Int), ((am_in (x6 + 1)) ∧ (at_I kR 4 mX10_ofChapter 122 [vR 0, vU, vU, vU, vI x4, vI v1, vI (x6 + 1)] [] μ Q)) → at_I kR 4 mX10_ofChapter 167 [vR 0, vU, vU, vU, vI x4, vU, vI x6] [vI v1] μ Q := by
      intro v1 h
      refine s_istore dX10_ofChapter_167 (by decide) (L' := [vR 0, vU, vU, vU, vI x4, vI v1, vI x6]) rfl ?_
      obtain ⟨c, h⟩ := h
      refine s_iinc dX10_ofChapter_169 rfl (am_w_id c) (by decide) (L' := [vR 0, vU, vU, vU, vI x4, vI v1, vI (x6 + 1)]) rfl ?_
      refine s_goto dX10_ofChapter_172 (tgt := 122) (by decide) ?_
      exact h
    refine s_icmp_le dX10_ofChapter_145 (tgt := 165) (by decide) (fun cc => ?_) (fun cc => ?_)
    · have hp0 := cc
      refine s_iload dX10_ofChapter_165 rfl ?_
      exact am_lesS (kj2 x5 (h x5 (by rw [if_neg (Int.not_lt.mpr hp0)]))) ⟨Or.inr rfl, Or.inl rfl, Or.inl rfl, Or.inl rfl, Or.inr rfl, Or.inl rfl, Or.inr rfl, trivial⟩
    · have hp0 := cc
      have hsd := hsd hp0
      refine s_aload_n dX10_ofChapter_148 rfl rfl ?_
      refine s_iload dX10_ofChapter_149 rfl ?_
      refine s_aload_n dX10_ofChapter_151 rfl rfl ?_
      refine s_getR dX10_ofChapter_152 flX10_9 rn0 rk0 rfl rr0_0 ?_
      refine s_sipush dX10_ofChapter_155 (by decide) ?_
      refine s_iald (x := (μ 1 465)) dX10_ofChapter_158 rn1 rk1 rl1 (by decide) (by decide) rfl ?_
      obtain ⟨p0, p1, p2, p3⟩ := hsd
      refine s_callV (As := [vI x6, vI (μ 1 465)]) (rest := []) (k := 0) dX10_ofChapter_159 lkX10_196 rn0 ⟨by rw [rk0]; rfl, by rw [rk0]; decide⟩ lmX10_mixOf rfl rfl (Nat.le_of_ble_eq_true rfl) (by decide) (Nat.le_refl 0) (Nat.le_refl 0) (hC := sp_X10_mixOf (Q := fun z m => mi_ (suP (pR μ) x6) (μ 1 465) = z ∧ μ = m) p0 p1 p2 p3 ⟨rfl, rfl⟩) (fun r n2 S2 m2 hP => ?_)
      obtain ⟨⟨rfl, rfl⟩, z, rfl, rfl, rfl⟩ := hP
      refine s_goto dX10_ofChapter_162 (tgt := 167) (by decide) ?_
      exact am_lesS (kj2 (mi_ (suP (pR μ) x6) (μ 1 465)) (h (mi_ (suP (pR μ) x6) (μ 1 465)) (by rw [if_pos hp0]))) ⟨Or.inr rfl, Or.inl rfl, Or.inl rfl, Or.inl rfl, Or.inr rfl, Or.inl rfl, Or.inr rfl, trivial⟩
theorem ve_X10_ofChapter {x1 x2 : Int} {μ : am_M} {Q : Int → am_M → Prop} (h : at_I kR 4 mX10_ofChapter 0 [vR 0, vI x1, vI x2, vU, vU, vU, vU] [] μ Q) : cl_I kR 4 mX10_ofChapter [vR 0, vI x1, vI x2] μ Q := am_intro pmX10_ofChapter (Nat.le_of_ble_eq_true rfl) rfl h
theorem sp_X10_ofChapter {μ : am_M} {c w : Int} (hR : vR_ μ) : cl_I kR 4 mX10_ofChapter [vR 0, vI c, vI w] μ (fun z m => z = q_ofChapter (pR μ) c w ∧ rq_ μ m) := by
  obtain ⟨hr, hl, h13⟩ := vR_h hR
  have hV := hR.1
  have hlen := hr.1
  have lb : in_ 0 601 (la_ (rg μ) (μ 1 25)) := la_b6 hV
  have hho := fun p hp => (hV.hh p hp).1
  refine ve_X10_ofChapter (vc_X10_ofChapter_0 ⟨h13, fun hc => ?_, fun hc => ⟨(cif_t (by rw [← hlen]; exact hc)).symm, rq_rf⟩⟩)
  rw [hlen] at hc
  have e1 : q_ofChapter (pR μ) c w = _ := cif_f (fun h => h hc)
  have hg := hr_g hr hc.1 hc.2
  have hb := h_frm_b hV hc.1 hc.2
  have o1 := ho_g hho (c + 1)
  have o0 := hb.2.2
  refine ⟨fun cw => ?_, fun cw => ⟨(e1.trans (cif_t (by omega))).symm, rq_rf⟩⟩
  have e2 := e1.trans (cif_f (by omega))
  refine ⟨(by (try unfold am_in); (try unfold in_ at *); omega), (by (try unfold am_in); (try unfold in_ at *); omega), by omega, by omega, fun w2 => ⟨(by (try unfold am_in); (try unfold in_ at *); omega), ⟨fun _ => hV.okT, fun _ => ⟨(by (try unfold am_in); (try unfold in_ at *); omega), (by (try unfold am_in); (try unfold in_ at *); omega), (by (try unfold am_in); (try unfold in_ at *); omega), by omega, by omega⟩⟩, fun v1 ev1 => ?_⟩, fun w2 => ⟨(by (try unfold am_in); (try unfold in_ at *); omega), (by (try unfold am_in); (try unfold in_ at *); omega), (by (try unfold am_in); (try unfold in_ at *); omega), by omega, by omega, ?_, rq_rf⟩⟩
  · have ev : v1 = if c + 1 < (pH (pR μ)).length then ((pH (pR μ)).getD (c + 1).toNat (0, 0)).1 else laP (pR μ) := by
      rw [ev1, hlen]
      by_cases q : c + 1 < (pH (pR μ)).length
      · rw [if_pos q, if_pos q, ← (hr_g hr (c := c + 1) (by omega) q).1, show 439 + 2 * c + 2 = 439 + 2 * (c + 1) by omega]
      · rw [if_neg q, if_neg q]; rfl
    have ef : h_frm (pN (pR μ)) (pG (pR μ)) (pH (pR μ)) c = if 0 < v1 - ((pH (pR μ)).getD c.toNat (0, 0)).1 then v1 - ((pH (pR μ)).getD c.toNat (0, 0)).1 else 0 := by
      unfold h_frm
      rw [ev]
    have vb : in_ 0 601 v1 := by rw [ev]; unfold in_ at *; split <;> omega
    unfold in_ at vb o0
    rw [hg.1]
    refine ⟨fun n2 => ⟨_, sp_X10_works hV, fun m3 ⟨h1, h2⟩ => ?_⟩, fun n2 => ⟨fun _ => (by (try unfold am_in); (try unfold in_ at *); omega), fun v4 e4 => ⟨?_, rq_rf⟩⟩⟩
    · have hq := rq_of h1 wk_sc
      have p3 := rq_P hq
      have e31 : m3 1 = μ 1 := rq_1 hq
      have : ∀ (j : Nat) (y x : Int), (v1 ≤ x ∨ x + j = v1) → ((pH (pR μ)).getD c.toNat (0, 0)).1 ≤ x → (x = ((pH (pR μ)).getD c.toNat (0, 0)).1 ∨ x ≤ v1) → y = mx_ (fun i => mixP (pR μ) (((pH (pR μ)).getD c.toNat (0, 0)).1 + i)) (x - ((pH (pR μ)).getD c.toNat (0, 0)).1) → at_I kR 4 mX10_ofChapter 122 [vR 0, vU, vU, vU, vI v1, vI y, vI x] [] m3 (fun z m => z = q_ofChapter (pR μ) c w ∧ rq_ μ m) := by
        intro j
        induction j with
        | zero =>
          intro y x hx x0 x1 hy
          refine vc_X10_ofChapter_122 ⟨fun _ => ⟨?_, hq⟩, fun q => by omega⟩
          rw [e2, if_neg (by omega), if_neg (by omega), if_neg n2, hy]
          congr 1
          rw [ef]
          split <;> omega
        | succ j ih =>
          intro y x hx x0 x1 hy
          refine vc_X10_ofChapter_122 ⟨fun q => ⟨?_, hq⟩, fun q => ?_⟩
          · rw [e2, if_neg (by omega), if_neg (by omega), if_neg n2, hy]
            congr 1
            rw [ef]
            split <;> omega
          · rw [p3, e31]
            refine ⟨h2, hV, ⟨by omega, by omega⟩, hV.hE.1, fun _ => ⟨h2, hV, ⟨by omega, by omega⟩, hV.hE.1⟩, fun v ev => ⟨(by (try unfold am_in); (try unfold in_ at *); omega), ih v (x + 1) (by omega) (by omega) (by omega) ?_⟩⟩
            rw [show x + 1 - ((pH (pR μ)).getD c.toNat (0, 0)).1 = (x - ((pH (pR μ)).getD c.toNat (0, 0)).1) + 1 by omega]
            unfold mx_ at hy ⊢
            rw [fI_s _ _ (by omega), ← hy, ev]
            show _ = if y < mixP (pR μ) (((pH (pR μ)).getD c.toNat (0, 0)).1 + (x - ((pH (pR μ)).getD c.toNat (0, 0)).1)) then mixP (pR μ) (((pH (pR μ)).getD c.toNat (0, 0)).1 + (x - ((pH (pR μ)).getD c.toNat (0, 0)).1)) else y
            rw [show ((pH (pR μ)).getD c.toNat (0, 0)).1 + (x - ((pH (pR μ)).getD c.toNat (0, 0)).1) = x by omega]
            rfl
      exact this (v1 - ((pH (pR μ)).getD c.toNat (0, 0)).1).toNat 0 _ (by omega) (by omega) (Or.inl rfl) (by rw [Int.sub_self]; rfl)
    · rw [e2, if_neg (by omega), if_neg (by omega), if_pos n2, ef, e4]
      (repeat' split) <;> omega
  · rw [e2]
    by_cases w0 : w = 0
    · rw [if_pos w0, w0, Int.add_zero, hg.1]
    · rw [if_neg w0, if_pos (by omega), show w = 1 by omega, hg.2]
theorem vc_X10_value_0 {x1 x2 x3 : Int} {μ : am_M} {Q : Int → am_M → Prop} (h : (¬ (0 ≤ x1 ∧ x1 < 4) → Q (-1) μ) ∧ (0 ≤ x1 ∧ x1 < 4 → (0 ≤ x2 ∧ x2 < 600 → (0 ≤ x3 ∧ x3 ≤ 3 → ∃ P : am_M → Prop, cl_V kR 3 mX10_works [vR 0] μ P ∧ (∀ m2 : am_M, P m2 → (am_in (600 * x1)) ∧ ((am_in ((600 * x1) + x2)) ∧ (((x3 ≠ 0 → (x3 ≠ 1 → (x3 ≠ 2 → (0 ≤ (600 * x1) + x2) ∧ ((600 * x1) + x2 < 2400)) ∧ (x3 = 2 → (0 ≤ (600 * x1) + x2) ∧ ((600 * x1) + x2 < 2400))) ∧ (x3 = 1 → (0 ≤ (600 * x1) + x2) ∧ ((600 * x1) + x2 < 2400))) ∧ (x3 = 0 → (0 ≤ (600 * x1) + x2) ∧ ((600 * x1) + x2 < 2400))) ∧ (∀ v3 : Int, v3 = (if x3 = 0 then m2 9 (((600 * x1) + x2).toNat) else (if x3 = 1 then m2 10 (((600 * x1) + x2).toNat) else (if x3 = 2 then m2 11 (((600 * x1) + x2).toNat) else (if m2 13 (((600 * x1) + x2).toNat) = 0 then 0 else 1)))) → Q v3 m2))))) ∧ (¬ (0 ≤ x3 ∧ x3 ≤ 3) → Q (-2) μ)) ∧ (¬ (0 ≤ x2 ∧ x2 < 600) → Q (-1) μ))) : at_I kR 4 mX10_value 0 [vR 0, vI x1, vI x2, vI x3, vU] [] μ Q := by
  refine s_iload_n dX10_value_0 rfl rfl ?_
  refine s_callS (As := [vI x1]) (rest := []) dX10_value_1 lkX10_133 lmX10_isTrack rfl rfl (Nat.le_of_ble_eq_true rfl) (by decide) (Nat.le_refl 0) (Nat.le_refl 0) (hC := sp_X10_isTrack (Q := fun z m => bI (0 ≤ x1 ∧ x1 < 4) = z ∧ μ = m)  ⟨rfl, rfl⟩) (fun r n2 S2 m2 hP => ?_)
  obtain ⟨⟨rfl, rfl⟩, z, rfl, rfl, rfl⟩ := hP
  refine s_if_eq dX10_value_4 (tgt := 14) (by decide) (fun cc => ?_) (fun cc => ?_)
  · have h := h.1 (bI_eq cc)
    refine s_iconst dX10_value_14 (by decide) ?_
    exact s_ireturn dX10_value_15 (Or.inl rfl) ⟨⟨rfl, rfl⟩, _, rfl, h⟩
  · have h := h.2 (bI_ne cc)
    refine s_iload_n dX10_value_7 rfl rfl ?_
    refine s_callS (As := [vI x2]) (rest := []) dX10_value_8 lkX10_175 lmX10_isFrame rfl rfl (Nat.le_of_ble_eq_true rfl) (by decide) (Nat.le_refl 0) (Nat.le_refl 0) (hC := sp_X10_isFrame (Q := fun z m => bI (0 ≤ x2 ∧ x2 < 600) = z ∧ μ = m)  ⟨rfl, rfl⟩) (fun r n2 S2 m2 hP => ?_)
    obtain ⟨⟨rfl, rfl⟩, z, rfl, rfl, rfl⟩ := hP
    refine s_if_ne dX10_value_11 (tgt := 16) (by decide) (fun cc => ?_) (fun cc => ?_)
    · have h := h.1 (bI_ne cc)
      refine s_iload_n dX10_value_16 rfl rfl ?_
      refine s_iconst dX10_value_17 (by decide) ?_
      refine s_iconst dX10_value_18 (by decide) ?_
      refine s_callS (As := [vI x3, vI 0, vI 3]) (rest := []) dX10_value_19 lkX10_103 lmX10_isIn rfl rfl (Nat.le_of_ble_eq_true rfl) (by decide) (Nat.le_refl 0) (Nat.le_refl 0) (hC := sp_X10_isIn (Q := fun z m => bI (0 ≤ x3 ∧ x3 ≤ 3) = z ∧ μ = m)  ⟨rfl, rfl⟩) (fun r n2 S2 m2 hP => ?_)
      obtain ⟨⟨rfl, rfl⟩, z, rfl, rfl, rfl⟩ := hP
      refine s_if_ne dX10_value_22 (tgt := 28) (by decide) (fun cc => ?_) (fun cc => ?_)
      · have h := h.1 (bI_ne cc)
        refine s_aload_n dX10_value_28 rfl rfl ?_
        obtain ⟨P, hcl, h⟩ := h
        refine s_callV (As := []) (rest := []) (k := 0) dX10_value_29 lkX10_152 rn0 ⟨by rw [rk0]; rfl, by rw [rk0]; decide⟩ lmX10_works rfl rfl (Nat.le_of_ble_eq_true rfl) (by decide) (Nat.le_refl 0) (Nat.le_refl 0) (hC := hcl) (fun r n2 S2 m2 hP => ?_)
        obtain ⟨⟨rfl, rfl⟩, rfl, hq⟩ := hP
        have h := h m2 hq
        refine s_sipush dX10_value_32 (by decide) ?_
        refine s_iload_n dX10_value_35 rfl rfl ?_
        obtain ⟨c, h⟩ := h
        refine s_imul dX10_value_36 (am_w_id c) ?_
        refine s_iload_n dX10_value_37 rfl rfl ?_
        obtain ⟨c, h⟩ := h
        refine s_iadd dX10_value_38 (am_w_id c) ?_
        refine s_istore dX10_value_39 (by decide) (L' := [vR 0, vI x1, vI x2, vI x3, vI ((600 * x1) + x2)]) rfl ?_
        refine s_iload_n dX10_value_41 rfl rfl ?_
        obtain ⟨hsd, h⟩ := h
        have kj4 : ∀ (v3 : Int), (Q v3 m2) → at_I kR 4 mX10_value 100 [vU, vU, vU, vU, vU] [vI v3] m2 Q := by
          intro v3 h
          exact s_ireturn dX10_value_100 (Or.inl rfl) ⟨⟨rfl, rfl⟩, _, rfl, h⟩
        refine s_if_ne dX10_value_42 (tgt := 55) (by decide) (fun cc => ?_) (fun cc => ?_)
        · have hp0 := cc
          have hsd := hsd.1 hp0
          refine s_iload_n dX10_value_55 rfl rfl ?_
          refine s_iconst dX10_value_56 (by decide) ?_
          refine s_icmp_ne dX10_value_57 (tgt := 70) (by decide) (fun cc => ?_) (fun cc => ?_)
          · have hp1 := cc
            have hsd := hsd.1 hp1
            refine s_iload_n dX10_value_70 rfl rfl ?_
            refine s_iconst dX10_value_71 (by decide) ?_
            refine s_icmp_ne dX10_value_72 (tgt := 85) (by decide) (fun cc => ?_) (fun cc => ?_)
            · have hp2 := cc
              have hsd := hsd.1 hp2
              refine s_aload_n dX10_value_85 rfl rfl ?_
              refine s_getR dX10_value_86 flX10_46 rn0 rk0 rfl rr0_17 ?_
              refine s_iload dX10_value_89 rfl ?_
              obtain ⟨c, c2⟩ := hsd
              refine s_bald (x := (m2 13 (((600 * x1) + x2).toNat))) dX10_value_91 rn13 rk13 rl13 c c2 rfl ?_
              refine s_if_eq dX10_value_92 (tgt := 99) (by decide) (fun cc => ?_) (fun cc => ?_)
              · have hp3 := cc
                refine s_iconst dX10_value_99 (by decide) ?_
                exact am_lesS (kj4 0 (h 0 (by rw [if_neg hp0, if_neg hp1, if_neg hp2, if_pos hp3]))) ⟨Or.inl rfl, Or.inl rfl, Or.inl rfl, Or.inl rfl, Or.inl rfl, trivial⟩
              · have hp3 := cc
                refine s_iconst dX10_value_95 (by decide) ?_
                refine s_goto dX10_value_96 (tgt := 100) (by decide) ?_
                exact am_lesS (kj4 1 (h 1 (by rw [if_neg hp0, if_neg hp1, if_neg hp2, if_neg hp3]))) ⟨Or.inl rfl, Or.inl rfl, Or.inl rfl, Or.inl rfl, Or.inl rfl, trivial⟩
            · have hp2 := cc
              have hsd := hsd.2 hp2
              refine s_aload_n dX10_value_75 rfl rfl ?_
              refine s_getR dX10_value_76 flX10_40 rn0 rk0 rfl rr0_15 ?_
              refine s_iload dX10_value_79 rfl ?_
              obtain ⟨c, c2⟩ := hsd
              refine s_iald (x := (m2 11 (((600 * x1) + x2).toNat))) dX10_value_81 rn11 rk11 rl11 c c2 rfl ?_
              refine s_goto dX10_value_82 (tgt := 100) (by decide) ?_
              exact am_lesS (kj4 (m2 11 (((600 * x1) + x2).toNat)) (h (m2 11 (((600 * x1) + x2).toNat)) (by rw [if_neg hp0, if_neg hp1, if_pos hp2]))) ⟨Or.inl rfl, Or.inl rfl, Or.inl rfl, Or.inl rfl, Or.inl rfl, trivial⟩
          · have hp1 := cc
            have hsd := hsd.2 hp1
            refine s_aload_n dX10_value_60 rfl rfl ?_
            refine s_getR dX10_value_61 flX10_37 rn0 rk0 rfl rr0_14 ?_
            refine s_iload dX10_value_64 rfl ?_
            obtain ⟨c, c2⟩ := hsd
            refine s_iald (x := (m2 10 (((600 * x1) + x2).toNat))) dX10_value_66 rn10 rk10 rl10 c c2 rfl ?_
            refine s_goto dX10_value_67 (tgt := 100) (by decide) ?_
            exact am_lesS (kj4 (m2 10 (((600 * x1) + x2).toNat)) (h (m2 10 (((600 * x1) + x2).toNat)) (by rw [if_neg hp0, if_pos hp1]))) ⟨Or.inl rfl, Or.inl rfl, Or.inl rfl, Or.inl rfl, Or.inl rfl, trivial⟩
        · have hp0 := cc
          have hsd := hsd.2 hp0
          refine s_aload_n dX10_value_45 rfl rfl ?_
          refine s_getR dX10_value_46 flX10_34 rn0 rk0 rfl rr0_13 ?_
          refine s_iload dX10_value_49 rfl ?_
          obtain ⟨c, c2⟩ := hsd
          refine s_iald (x := (m2 9 (((600 * x1) + x2).toNat))) dX10_value_51 rn9 rk9 rl9 c c2 rfl ?_
          refine s_goto dX10_value_52 (tgt := 100) (by decide) ?_
          exact am_lesS (kj4 (m2 9 (((600 * x1) + x2).toNat)) (h (m2 9 (((600 * x1) + x2).toNat)) (by rw [if_pos hp0]))) ⟨Or.inl rfl, Or.inl rfl, Or.inl rfl, Or.inl rfl, Or.inl rfl, trivial⟩
      · have h := h.2 (bI_eq cc)
        refine s_bipush dX10_value_25 (by decide) ?_
        exact s_ireturn dX10_value_27 (Or.inl rfl) ⟨⟨rfl, rfl⟩, _, rfl, h⟩
    · have h := h.2 (bI_eq cc)
      refine s_iconst dX10_value_14 (by decide) ?_
      exact s_ireturn dX10_value_15 (Or.inl rfl) ⟨⟨rfl, rfl⟩, _, rfl, h⟩
theorem ve_X10_value {x1 x2 x3 : Int} {μ : am_M} {Q : Int → am_M → Prop} (h : at_I kR 4 mX10_value 0 [vR 0, vI x1, vI x2, vI x3, vU] [] μ Q) : cl_I kR 4 mX10_value [vR 0, vI x1, vI x2, vI x3] μ Q := am_intro pmX10_value (Nat.le_of_ble_eq_true rfl) rfl h
theorem sp_X10_value {μ : am_M} {t f w : Int} (hV : vP (pR μ)) : cl_I kR 4 mX10_value [vR 0, vI t, vI f, vI w] μ (fun z m => z = q_value (pR μ) t f w ∧ rq_ μ m) := by
  refine ve_X10_value (vc_X10_value_0 ⟨fun c => ⟨(cif_t (by omega)).symm, rq_rf⟩, fun c => ⟨fun c1 => ?_, fun c1 => ⟨(cif_t (by omega)).symm, rq_rf⟩⟩⟩)
  have e0 : q_value (pR μ) t f w = _ := cif_f (fun h => h ⟨c, c1⟩)
  refine ⟨fun cw => ⟨_, sp_X10_works hV, fun m2 ⟨h1, h2⟩ => ?_⟩, fun cw => ⟨?_, rq_rf⟩⟩
  · have hq := rq_of h1 wk_sc
    have ib := ix_b (t := t) (f := f) c c1
    obtain ⟨-, h9, h10, h13, h11, -⟩ := h2
    have g9 := h9 t f c c1
    have g10 := h10 t f c c1
    have g13 := h13 t f c c1
    have g11 := h11 t f c c1
    refine ⟨(by (try unfold am_in); (try unfold in_ at *); omega), (by (try unfold am_in); (try unfold in_ at *); omega), ⟨fun _ => ⟨fun _ => ⟨fun _ => ib, fun _ => ib⟩, fun _ => ib⟩, fun _ => ib⟩, fun v ev => ⟨?_, hq⟩⟩
    change v = if w = 0 then m2 9 (ix t f) else if w = 1 then m2 10 (ix t f) else if w = 2 then m2 11 (ix t f) else if m2 13 (ix t f) = 0 then 0 else 1 at ev
    rw [g9, g10, g11, g13] at ev
    change v = if w = 0 then vt_ (pE (pR m2) 4) (pS (pR m2)) (pN (pR m2)) (pG (pR m2)) t f else if w = 1 then drP (pR m2) t f else if w = 2 then weP (pR m2) t f else if bI (dukP (pR m2) t f) = 0 then 0 else 1 at ev
    rw [rq_P hq] at ev
    rw [e0, ev]
    by_cases w0 : w = 0
    · rw [if_pos w0, if_pos w0]
    · by_cases w1 : w = 1
      · rw [if_neg w0, if_neg w0, if_pos w1, if_pos w1]
      · by_cases w2 : w = 2
        · rw [if_neg w0, if_neg w0, if_neg w1, if_neg w1, if_pos w2, if_pos w2]
        · rw [if_neg w0, if_neg w0, if_neg w1, if_neg w1, if_neg w2, if_neg w2, if_pos (show w = 3 by omega)]
          by_cases d : dukP (pR μ) t f
          · rw [bI_t d, if_neg (by decide)]
          · rw [bI_f d, if_pos rfl]
  · rw [e0, if_neg (by omega), if_neg (by omega), if_neg (by omega), if_neg (by omega)]
theorem vc_X10_mix_0 {x1 : Int} {μ : am_M} {Q : Int → am_M → Prop} (h : (0 ≤ x1 ∧ x1 < 600 → ∃ P : am_M → Prop, cl_V kR 3 mX10_works [vR 0] μ P ∧ (∀ m2 : am_M, P m2 → (rsnd_ m2) ∧ (vP (pR m2)) ∧ (in_ 0 600 x1) ∧ (in_ 0 401 (m2 1 465)) ∧ (∀ v3 : Int, v3 = mi_ (suP (pR m2) x1) (m2 1 465) → Q v3 m2))) ∧ (¬ (0 ≤ x1 ∧ x1 < 600) → Q (-1) μ)) : at_I kR 4 mX10_mix 0 [vR 0, vI x1] [] μ Q := by
  refine s_iload_n dX10_mix_0 rfl rfl ?_
  refine s_callS (As := [vI x1]) (rest := []) dX10_mix_1 lkX10_175 lmX10_isFrame rfl rfl (Nat.le_of_ble_eq_true rfl) (by decide) (Nat.le_refl 0) (Nat.le_refl 0) (hC := sp_X10_isFrame (Q := fun z m => bI (0 ≤ x1 ∧ x1 < 600) = z ∧ μ = m)  ⟨rfl, rfl⟩) (fun r n2 S2 m2 hP => ?_)
  obtain ⟨⟨rfl, rfl⟩, z, rfl, rfl, rfl⟩ := hP
  refine s_if_ne dX10_mix_4 (tgt := 9) (by decide) (fun cc => ?_) (fun cc => ?_)
  · have h := h.1 (bI_ne cc)
    refine s_aload_n dX10_mix_9 rfl rfl ?_
    obtain ⟨P, hcl, h⟩ := h
    refine s_callV (As := []) (rest := []) (k := 0) dX10_mix_10 lkX10_152 rn0 ⟨by rw [rk0]; rfl, by rw [rk0]; decide⟩ lmX10_works rfl rfl (Nat.le_of_ble_eq_true rfl) (by decide) (Nat.le_refl 0) (Nat.le_refl 0) (hC := hcl) (fun r n2 S2 m2 hP => ?_)
    obtain ⟨⟨rfl, rfl⟩, rfl, hq⟩ := hP
    have h := h m2 hq
    refine s_aload_n dX10_mix_13 rfl rfl ?_
    refine s_iload_n dX10_mix_14 rfl rfl ?_
    refine s_aload_n dX10_mix_15 rfl rfl ?_
    refine s_getR dX10_mix_16 flX10_9 rn0 rk0 rfl rr0_0 ?_
    refine s_sipush dX10_mix_19 (by decide) ?_
    refine s_iald (x := (m2 1 465)) dX10_mix_22 rn1 rk1 rl1 (by decide) (by decide) rfl ?_
    obtain ⟨p0, p1, p2, p3, h⟩ := h
    refine s_callV (As := [vI x1, vI (m2 1 465)]) (rest := []) (k := 0) dX10_mix_23 lkX10_196 rn0 ⟨by rw [rk0]; rfl, by rw [rk0]; decide⟩ lmX10_mixOf rfl rfl (Nat.le_of_ble_eq_true rfl) (by decide) (Nat.le_refl 0) (Nat.le_refl 0) (hC := sp_X10_mixOf (Q := fun z m => z = mi_ (suP (pR m2) x1) (m2 1 465) ∧ m2 = m) p0 p1 p2 p3 ⟨rfl, rfl⟩) (fun r n2 S2 m2 hP => ?_)
    obtain ⟨⟨rfl, rfl⟩, v3, rfl, hz, rfl⟩ := hP
    have h := h v3 hz
    exact s_ireturn dX10_mix_26 (Or.inl rfl) ⟨⟨rfl, rfl⟩, _, rfl, h⟩
  · have h := h.2 (bI_eq cc)
    refine s_iconst dX10_mix_7 (by decide) ?_
    exact s_ireturn dX10_mix_8 (Or.inl rfl) ⟨⟨rfl, rfl⟩, _, rfl, h⟩
theorem ve_X10_mix {x1 : Int} {μ : am_M} {Q : Int → am_M → Prop} (h : at_I kR 4 mX10_mix 0 [vR 0, vI x1] [] μ Q) : cl_I kR 4 mX10_mix [vR 0, vI x1] μ Q := am_intro pmX10_mix (Nat.le_of_ble_eq_true rfl) rfl h
theorem sp_X10_mix {μ : am_M} {f : Int} (hV : vP (pR μ)) : cl_I kR 4 mX10_mix [vR 0, vI f] μ (fun z m => z = q_mix (pR μ) f ∧ rq_ μ m) := by
  refine ve_X10_mix (vc_X10_mix_0 ⟨fun c => ⟨_, sp_X10_works hV, fun m2 ⟨h1, h2⟩ => ?_⟩, fun c => ⟨(cif_f c).symm, rq_rf⟩⟩)
  have hq := rq_of h1 wk_sc
  rw [rq_P hq, rq_1 hq]
  refine ⟨h2, hV, c, hV.hE.1, fun v ev => ⟨?_, hq⟩⟩
  rw [show q_mix (pR μ) f = _ from cif_t c, ev]
  rfl
theorem vc_X10_peak_0 {x1 : Int} {μ : am_M} {Q : Int → am_M → Prop} (h : (0 ≤ x1 ∧ x1 ≤ 4 → (x1 ≠ 0 → ∃ P : am_M → Prop, cl_V kR 3 mX10_works [vR 0] μ P ∧ (∀ m2 : am_M, P m2 → at_I kR 4 mX10_peak 38 [vR 0, vI x1, vI 0, vI 0, vI 0, vI 0, vI 0, vU] [] m2 Q)) ∧ (x1 = 0 → (ok_T (rg μ) (μ 1 25)) ∧ (Q (la_ (rg μ) (μ 1 25)) μ))) ∧ (¬ (0 ≤ x1 ∧ x1 ≤ 4) → Q (-2) μ)) : at_I kR 4 mX10_peak 0 [vR 0, vI x1, vU, vU, vU, vU, vU, vU] [] μ Q := by
  refine s_iload_n dX10_peak_0 rfl rfl ?_
  refine s_iconst dX10_peak_1 (by decide) ?_
  refine s_iconst dX10_peak_2 (by decide) ?_
  refine s_callS (As := [vI x1, vI 0, vI 4]) (rest := []) dX10_peak_3 lkX10_103 lmX10_isIn rfl rfl (Nat.le_of_ble_eq_true rfl) (by decide) (Nat.le_refl 0) (Nat.le_refl 0) (hC := sp_X10_isIn (Q := fun z m => bI (0 ≤ x1 ∧ x1 ≤ 4) = z ∧ μ = m)  ⟨rfl, rfl⟩) (fun r n2 S2 m2 hP => ?_)
  obtain ⟨⟨rfl, rfl⟩, z, rfl, rfl, rfl⟩ := hP
  refine s_if_ne dX10_peak_6 (tgt := 12) (by decide) (fun cc => ?_) (fun cc => ?_)
  · have h := h.1 (bI_ne cc)
    refine s_iload_n dX10_peak_12 rfl rfl ?_
    refine s_if_ne dX10_peak_13 (tgt := 21) (by decide) (fun cc => ?_) (fun cc => ?_)
    · have h := h.1 cc
      refine s_aload_n dX10_peak_21 rfl rfl ?_
      obtain ⟨P, hcl, h⟩ := h
      refine s_callV (As := []) (rest := []) (k := 0) dX10_peak_22 lkX10_152 rn0 ⟨by rw [rk0]; rfl, by rw [rk0]; decide⟩ lmX10_works rfl rfl (Nat.le_of_ble_eq_true rfl) (by decide) (Nat.le_refl 0) (Nat.le_refl 0) (hC := hcl) (fun r n2 S2 m2 hP => ?_)
      obtain ⟨⟨rfl, rfl⟩, rfl, hq⟩ := hP
      have h := h m2 hq
      refine s_iconst dX10_peak_25 (by decide) ?_
      refine s_istore_n dX10_peak_26 rfl (by decide) (L' := [vR 0, vI x1, vI 0, vU, vU, vU, vU, vU]) rfl ?_
      refine s_iconst dX10_peak_27 (by decide) ?_
      refine s_istore_n dX10_peak_28 rfl (by decide) (L' := [vR 0, vI x1, vI 0, vI 0, vU, vU, vU, vU]) rfl ?_
      refine s_iconst dX10_peak_29 (by decide) ?_
      refine s_istore dX10_peak_30 (by decide) (L' := [vR 0, vI x1, vI 0, vI 0, vI 0, vU, vU, vU]) rfl ?_
      refine s_iconst dX10_peak_32 (by decide) ?_
      refine s_istore dX10_peak_33 (by decide) (L' := [vR 0, vI x1, vI 0, vI 0, vI 0, vI 0, vU, vU]) rfl ?_
      refine s_iconst dX10_peak_35 (by decide) ?_
      refine s_istore dX10_peak_36 (by decide) (L' := [vR 0, vI x1, vI 0, vI 0, vI 0, vI 0, vI 0, vU]) rfl ?_
      exact h
    · have h := h.2 cc
      refine s_aload_n dX10_peak_16 rfl rfl ?_
      obtain ⟨p0, h⟩ := h
      refine s_callV (As := []) (rest := []) (k := 0) dX10_peak_17 lkX10_155 rn0 ⟨by rw [rk0]; rfl, by rw [rk0]; decide⟩ lmX10_last rfl rfl (Nat.le_of_ble_eq_true rfl) (by decide) (Nat.le_refl 0) (Nat.le_refl 0) (hC := sp_X10_last (Q := fun z m => la_ (rg μ) (μ 1 25) = z ∧ μ = m) p0 ⟨rfl, rfl⟩) (fun r n2 S2 m2 hP => ?_)
      obtain ⟨⟨rfl, rfl⟩, z, rfl, rfl, rfl⟩ := hP
      exact s_ireturn dX10_peak_20 (Or.inl rfl) ⟨⟨rfl, rfl⟩, _, rfl, h⟩
  · have h := h.2 (bI_eq cc)
    refine s_bipush dX10_peak_9 (by decide) ?_
    exact s_ireturn dX10_peak_11 (Or.inl rfl) ⟨⟨rfl, rfl⟩, _, rfl, h⟩
theorem vc_X10_peak_38 {x1 x2 x3 x4 x5 x6 : Int} {μ : am_M} {Q : Int → am_M → Prop} (h : (600 ≤ x6 → ∀ v1 : Int, v1 = (if x1 = 1 then x2 else (if x1 = 2 then x3 else (if x1 = 3 then x4 else x5))) → Q v1 μ) ∧ (x6 < 600 → (rsnd_ μ) ∧ (vP (pR μ)) ∧ (in_ 0 600 x6) ∧ (in_ 0 401 (μ 1 465)) ∧ (∀ v3 : Int, v3 = (if x2 < mi_ (suP (pR μ) x6) (μ 1 465) then x6 else x3) → ∀ v4 : Int, v4 = (if x2 < mi_ (suP (pR μ) x6) (μ 1 465) then mi_ (suP (pR μ) x6) (μ 1 465) else x2) → (0 ≤ x6) ∧ (x6 < 600) ∧ ((am_in ((μ 12 ((x6).toNat)) * (μ 1 465))) ∧ ((0 ≤ (μ 12 ((x6).toNat)) * (μ 1 465)) ∧ (∀ v5 : Int, v5 = (if 999 < ((μ 12 ((x6).toNat)) * (μ 1 465)) / 100 then 1 else 0) → (am_in (x4 + v5)) ∧ ((am_in (x5 + (mi_ (suP (pR μ) x6) (μ 1 465)))) ∧ ((am_in (x6 + 1)) ∧ (at_I kR 4 mX10_peak 38 [vR 0, vI x1, vI v4, vI v3, vI (x4 + v5), vI (x5 + (mi_ (suP (pR μ) x6) (μ 1 465))), vI (x6 + 1), vU] [] μ Q))))))))) : at_I kR 4 mX10_peak 38 [vR 0, vI x1, vI x2, vI x3, vI x4, vI x5, vI x6, vU] [] μ Q := by
  refine s_iload dX10_peak_38 rfl ?_
  refine s_sipush dX10_peak_40 (by decide) ?_
  refine s_icmp_ge dX10_peak_43 (tgt := 136) (by decide) (fun cc => ?_) (fun cc => ?_)
  · have h := h.1 cc
    refine s_iload_n dX10_peak_136 rfl rfl ?_
    refine s_iconst dX10_peak_137 (by decide) ?_
    have kj2 : ∀ (v1 : Int), (Q v1 μ) → at_I kR 4 mX10_peak 166 [vU, vU, vU, vU, vU, vU, vU, vU] [vI v1] μ Q := by
      intro v1 h
      exact s_ireturn dX10_peak_166 (Or.inl rfl) ⟨⟨rfl, rfl⟩, _, rfl, h⟩
    refine s_icmp_ne dX10_peak_138 (tgt := 145) (by decide) (fun cc => ?_) (fun cc => ?_)
    · have hp0 := cc
      refine s_iload_n dX10_peak_145 rfl rfl ?_
      refine s_iconst dX10_peak_146 (by decide) ?_
      refine s_icmp_ne dX10_peak_147 (tgt := 154) (by decide) (fun cc => ?_) (fun cc => ?_)
      · have hp1 := cc
        refine s_iload_n dX10_peak_154 rfl rfl ?_
        refine s_iconst dX10_peak_155 (by decide) ?_
        refine s_icmp_ne dX10_peak_156 (tgt := 164) (by decide) (fun cc => ?_) (fun cc => ?_)
        · have hp2 := cc
          refine s_iload dX10_peak_164 rfl ?_
          exact am_lesS (kj2 x5 (h x5 (by rw [if_neg hp0, if_neg hp1, if_neg hp2]))) ⟨Or.inl rfl, Or.inl rfl, Or.inl rfl, Or.inl rfl, Or.inl rfl, Or.inl rfl, Or.inl rfl, Or.inl rfl, trivial⟩
        · have hp2 := cc
          refine s_iload dX10_peak_159 rfl ?_
          refine s_goto dX10_peak_161 (tgt := 166) (by decide) ?_
          exact am_lesS (kj2 x4 (h x4 (by rw [if_neg hp0, if_neg hp1, if_pos hp2]))) ⟨Or.inl rfl, Or.inl rfl, Or.inl rfl, Or.inl rfl, Or.inl rfl, Or.inl rfl, Or.inl rfl, Or.inl rfl, trivial⟩
      · have hp1 := cc
        refine s_iload_n dX10_peak_150 rfl rfl ?_
        refine s_goto dX10_peak_151 (tgt := 166) (by decide) ?_
        exact am_lesS (kj2 x3 (h x3 (by rw [if_neg hp0, if_pos hp1]))) ⟨Or.inl rfl, Or.inl rfl, Or.inl rfl, Or.inl rfl, Or.inl rfl, Or.inl rfl, Or.inl rfl, Or.inl rfl, trivial⟩
    · have hp0 := cc
      refine s_iload_n dX10_peak_141 rfl rfl ?_
      refine s_goto dX10_peak_142 (tgt := 166) (by decide) ?_
      exact am_lesS (kj2 x2 (h x2 (by rw [if_pos hp0]))) ⟨Or.inl rfl, Or.inl rfl, Or.inl rfl, Or.inl rfl, Or.inl rfl, Or.inl rfl, Or.inl rfl, Or.inl rfl, trivial⟩
  · have h := h.2 cc
    refine s_aload_n dX10_peak_46 rfl rfl ?_
    refine s_iload dX10_peak_47 rfl ?_
    refine s_aload_n dX10_peak_49 rfl rfl ?_
    refine s_getR dX10_peak_50 flX10_9 rn0 rk0 rfl rr0_0 ?_
    refine s_sipush dX10_peak_53 (by decide) ?_
    refine s_iald (x := (μ 1 465)) dX10_peak_56 rn1 rk1 rl1 (by decide) (by decide) rfl ?_
    obtain ⟨p0, p1, p2, p3, h⟩ := h
    refine s_callV (As := [vI x6, vI (μ 1 465)]) (rest := []) (k := 0) dX10_peak_57 lkX10_196 rn0 ⟨by rw [rk0]; rfl, by rw [rk0]; decide⟩ lmX10_mixOf rfl rfl (Nat.le_of_ble_eq_true rfl) (by decide) (Nat.le_refl 0) (Nat.le_refl 0) (hC := sp_X10_mixOf (Q := fun z m => mi_ (suP (pR μ) x6) (μ 1 465) = z ∧ μ = m) p0 p1 p2 p3 ⟨rfl, rfl⟩) (fun r n2 S2 m2 hP => ?_)
    obtain ⟨⟨rfl, rfl⟩, z, rfl, rfl, rfl⟩ := hP
    refine s_istore dX10_peak_60 (by decide) (L' := [vR 0, vI x1, vI x2, vI x3, vI x4, vI x5, vI x6, vI (mi_ (suP (pR μ) x6) (μ 1 465))]) rfl ?_
    refine s_iload dX10_peak_62 rfl ?_
    refine s_iload_n dX10_peak_64 rfl rfl ?_
    have kj8 : ∀ (v3 : Int), (∀ v4 : Int, v4 = (if x2 < mi_ (suP (pR μ) x6) (μ 1 465) then mi_ (suP (pR μ) x6) (μ 1 465) else x2) → (0 ≤ x6) ∧ (x6 < 600) ∧ ((am_in ((μ 12 ((x6).toNat)) * (μ 1 465))) ∧ ((0 ≤ (μ 12 ((x6).toNat)) * (μ 1 465)) ∧ (∀ v5 : Int, v5 = (if 999 < ((μ 12 ((x6).toNat)) * (μ 1 465)) / 100 then 1 else 0) → (am_in (x4 + v5)) ∧ ((am_in (x5 + (mi_ (suP (pR μ) x6) (μ 1 465)))) ∧ ((am_in (x6 + 1)) ∧ (at_I kR 4 mX10_peak 38 [vR 0, vI x1, vI v4, vI v3, vI (x4 + v5), vI (x5 + (mi_ (suP (pR μ) x6) (μ 1 465))), vI (x6 + 1), vU] [] μ Q))))))) → at_I kR 4 mX10_peak 74 [vR 0, vI x1, vI x2, vU, vI x4, vI x5, vI x6, vI (mi_ (suP (pR μ) x6) (μ 1 465))] [vI v3] μ Q := by
      intro v3 h
      refine s_istore_n dX10_peak_74 rfl (by decide) (L' := [vR 0, vI x1, vI x2, vI v3, vI x4, vI x5, vI x6, vI (mi_ (suP (pR μ) x6) (μ 1 465))]) rfl ?_
      refine s_iload dX10_peak_75 rfl ?_
      refine s_iload_n dX10_peak_77 rfl rfl ?_
      have kj7 : ∀ (v4 : Int), ((0 ≤ x6) ∧ (x6 < 600) ∧ ((am_in ((μ 12 ((x6).toNat)) * (μ 1 465))) ∧ ((0 ≤ (μ 12 ((x6).toNat)) * (μ 1 465)) ∧ (∀ v5 : Int, v5 = (if 999 < ((μ 12 ((x6).toNat)) * (μ 1 465)) / 100 then 1 else 0) → (am_in (x4 + v5)) ∧ ((am_in (x5 + (mi_ (suP (pR μ) x6) (μ 1 465)))) ∧ ((am_in (x6 + 1)) ∧ (at_I kR 4 mX10_peak 38 [vR 0, vI x1, vI v4, vI v3, vI (x4 + v5), vI (x5 + (mi_ (suP (pR μ) x6) (μ 1 465))), vI (x6 + 1), vU] [] μ Q))))))) → at_I kR 4 mX10_peak 87 [vR 0, vI x1, vU, vI v3, vI x4, vI x5, vI x6, vI (mi_ (suP (pR μ) x6) (μ 1 465))] [vI v4] μ Q := by
        intro v4 h
        refine s_istore_n dX10_peak_87 rfl (by decide) (L' := [vR 0, vI x1, vI v4, vI v3, vI x4, vI x5, vI x6, vI (mi_ (suP (pR μ) x6) (μ 1 465))]) rfl ?_
        refine s_iload dX10_peak_88 rfl ?_
        refine s_aload_n dX10_peak_90 rfl rfl ?_
        refine s_getR dX10_peak_91 flX10_43 rn0 rk0 rfl rr0_16 ?_
        refine s_iload dX10_peak_94 rfl ?_
        obtain ⟨c, c2, h⟩ := h
        refine s_iald (x := (μ 12 ((x6).toNat))) dX10_peak_96 rn12 rk12 rl12 c c2 rfl ?_
        refine s_aload_n dX10_peak_97 rfl rfl ?_
        refine s_getR dX10_peak_98 flX10_9 rn0 rk0 rfl rr0_0 ?_
        refine s_sipush dX10_peak_101 (by decide) ?_
        refine s_iald (x := (μ 1 465)) dX10_peak_104 rn1 rk1 rl1 (by decide) (by decide) rfl ?_
        obtain ⟨c, h⟩ := h
        refine s_imul dX10_peak_105 (am_w_id c) ?_
        refine s_bipush dX10_peak_106 (by decide) ?_
        obtain ⟨c, h⟩ := h
        refine s_idivp dX10_peak_108 c (by decide) rfl ?_
        refine s_sipush dX10_peak_109 (by decide) ?_
        have kj6 : ∀ (v5 : Int), ((am_in (x4 + v5)) ∧ ((am_in (x5 + (mi_ (suP (pR μ) x6) (μ 1 465)))) ∧ ((am_in (x6 + 1)) ∧ (at_I kR 4 mX10_peak 38 [vR 0, vI x1, vI v4, vI v3, vI (x4 + v5), vI (x5 + (mi_ (suP (pR μ) x6) (μ 1 465))), vI (x6 + 1), vU] [] μ Q)))) → at_I kR 4 mX10_peak 120 [vR 0, vI x1, vI v4, vI v3, vU, vI x5, vI x6, vI (mi_ (suP (pR μ) x6) (μ 1 465))] [vI v5, vI x4] μ Q := by
          intro v5 h
          obtain ⟨c, h⟩ := h
          refine s_iadd dX10_peak_120 (am_w_id c) ?_
          refine s_istore dX10_peak_121 (by decide) (L' := [vR 0, vI x1, vI v4, vI v3, vI (x4 + v5), vI x5, vI x6, vI (mi_ (suP (pR μ) x6) (μ 1 465))]) rfl ?_
          refine s_iload dX10_peak_123 rfl ?_
          refine s_iload dX10_peak_125 rfl ?_
          obtain ⟨c, h⟩ := h
          refine s_iadd dX10_peak_127 (am_w_id c) ?_
          refine s_istore dX10_peak_128 (by decide) (L' := [vR 0, vI x1, vI v4, vI v3, vI (x4 + v5), vI (x5 + (mi_ (suP (pR μ) x6) (μ 1 465))), vI x6, vI (mi_ (suP (pR μ) x6) (μ 1 465))]) rfl ?_
          obtain ⟨c, h⟩ := h
          refine s_iinc dX10_peak_130 rfl (am_w_id c) (by decide) (L' := [vR 0, vI x1, vI v4, vI v3, vI (x4 + v5), vI (x5 + (mi_ (suP (pR μ) x6) (μ 1 465))), vI (x6 + 1), vI (mi_ (suP (pR μ) x6) (μ 1 465))]) rfl ?_
          refine s_goto dX10_peak_133 (tgt := 38) (by decide) ?_
          exact am_lesS h ⟨Or.inr rfl, Or.inr rfl, Or.inr rfl, Or.inr rfl, Or.inr rfl, Or.inr rfl, Or.inr rfl, Or.inl rfl, trivial⟩
        refine s_icmp_le dX10_peak_112 (tgt := 119) (by decide) (fun cc => ?_) (fun cc => ?_)
        · have hp0 := cc
          refine s_iconst dX10_peak_119 (by decide) ?_
          exact am_lesS (kj6 0 (h 0 (by rw [if_neg (Int.not_lt.mpr hp0)]))) ⟨Or.inr rfl, Or.inr rfl, Or.inr rfl, Or.inr rfl, Or.inl rfl, Or.inr rfl, Or.inr rfl, Or.inr rfl, trivial⟩
        · have hp0 := cc
          refine s_iconst dX10_peak_115 (by decide) ?_
          refine s_goto dX10_peak_116 (tgt := 120) (by decide) ?_
          exact am_lesS (kj6 1 (h 1 (by rw [if_pos hp0]))) ⟨Or.inr rfl, Or.inr rfl, Or.inr rfl, Or.inr rfl, Or.inl rfl, Or.inr rfl, Or.inr rfl, Or.inr rfl, trivial⟩
      refine s_icmp_le dX10_peak_78 (tgt := 86) (by decide) (fun cc => ?_) (fun cc => ?_)
      · have hp0 := cc
        refine s_iload_n dX10_peak_86 rfl rfl ?_
        exact am_lesS (kj7 x2 (h x2 (by rw [if_neg (Int.not_lt.mpr hp0)]))) ⟨Or.inr rfl, Or.inr rfl, Or.inl rfl, Or.inr rfl, Or.inr rfl, Or.inr rfl, Or.inr rfl, Or.inr rfl, trivial⟩
      · have hp0 := cc
        refine s_iload dX10_peak_81 rfl ?_
        refine s_goto dX10_peak_83 (tgt := 87) (by decide) ?_
        exact am_lesS (kj7 (mi_ (suP (pR μ) x6) (μ 1 465)) (h (mi_ (suP (pR μ) x6) (μ 1 465)) (by rw [if_pos hp0]))) ⟨Or.inr rfl, Or.inr rfl, Or.inl rfl, Or.inr rfl, Or.inr rfl, Or.inr rfl, Or.inr rfl, Or.inr rfl, trivial⟩
    refine s_icmp_le dX10_peak_65 (tgt := 73) (by decide) (fun cc => ?_) (fun cc => ?_)
    · have hp0 := cc
      refine s_iload_n dX10_peak_73 rfl rfl ?_
      exact am_lesS (kj8 x3 (h x3 (by rw [if_neg (Int.not_lt.mpr hp0)]))) ⟨Or.inr rfl, Or.inr rfl, Or.inr rfl, Or.inl rfl, Or.inr rfl, Or.inr rfl, Or.inr rfl, Or.inr rfl, trivial⟩
    · have hp0 := cc
      refine s_iload dX10_peak_68 rfl ?_
      refine s_goto dX10_peak_70 (tgt := 74) (by decide) ?_
      exact am_lesS (kj8 x6 (h x6 (by rw [if_pos hp0]))) ⟨Or.inr rfl, Or.inr rfl, Or.inr rfl, Or.inl rfl, Or.inr rfl, Or.inr rfl, Or.inr rfl, Or.inr rfl, trivial⟩
theorem ve_X10_peak {x1 : Int} {μ : am_M} {Q : Int → am_M → Prop} (h : at_I kR 4 mX10_peak 0 [vR 0, vI x1, vU, vU, vU, vU, vU, vU] [] μ Q) : cl_I kR 4 mX10_peak [vR 0, vI x1] μ Q := am_intro pmX10_peak (Nat.le_of_ble_eq_true rfl) rfl h
theorem fg_s {F : Int → Int} {x : Int} (h : 1 ≤ x) : fg_ F x = if F (fg_ F (x - 1)) < F x then x else fg_ F (x - 1) := by
  have e : x = (x - 1) + 1 := by omega
  unfold fg_
  rw [e, fI_s _ _ (by omega), show x - 1 + 1 - 1 = x - 1 by omega]
theorem sp_X10_peak {μ : am_M} {w : Int} (hV : vP (pR μ)) : cl_I kR 4 mX10_peak [vR 0, vI w] μ (fun z m => z = q_peak (pR μ) w ∧ rq_ μ m) := by
  have e0 : q_peak (pR μ) w = if w = 0 then laP (pR μ) else if w = 1 then mx_ (mixP (pR μ)) 600 else if w = 2 then fg_ (mixP (pR μ)) 599 else if w = 3 then sm_ (fun f => if 999 < suP (pR μ) f * pE (pR μ) 0 / 100 then 1 else 0) 600 else if w = 4 then sm_ (mixP (pR μ)) 600 else -2 := rfl
  refine ve_X10_peak (vc_X10_peak_0 ⟨fun cw => ⟨fun n0 => ⟨_, sp_X10_works hV, fun m2 ⟨h1, h2⟩ => ?_⟩, fun n0 => ⟨hV.okT, by rw [e0, if_pos n0]; rfl, rq_rf⟩⟩, fun cw => ⟨by rw [e0, if_neg (by omega), if_neg (by omega), if_neg (by omega), if_neg (by omega), if_neg (by omega)], rq_rf⟩⟩)
  have hq := rq_of h1 wk_sc
  have p2 := rq_P hq
  have e21 := rq_1 hq
  have hE0 : in_ 0 401 (μ 1 465) := hV.hE.1
  have mb : ∀ f, (0 ≤ suP (pR μ) f * μ 1 465 ∧ suP (pR μ) f * μ 1 465 ≤ 7999 * 400) ∧ in_ 0 1000 (mi_ (suP (pR μ) f) (μ 1 465)) := fun f => mi_b (suR_b hV f) hE0
  have : ∀ (j : Nat) (a b c d x : Int), x + j = 600 → 0 ≤ x → a = mx_ (mixP (pR μ)) x → ((x = 0 ∧ b = 0 ∧ a = 0) ∨ (1 ≤ x ∧ b = fg_ (mixP (pR μ)) (x - 1) ∧ a = mixP (pR μ) b)) → c = sm_ (fun f => if 999 < suP (pR μ) f * pE (pR μ) 0 / 100 then 1 else 0) x → d = sm_ (mixP (pR μ)) x → at_I kR 4 mX10_peak 38 [vR 0, vI w, vI a, vI b, vI c, vI d, vI x, vU] [] m2 (fun z m => z = q_peak (pR μ) w ∧ rq_ μ m) := by
    intro j
    induction j with
    | zero =>
      intro a b c d x hx x0 ha hb hc hd
      have ex : x = 600 := by omega
      subst ex
      refine vc_X10_peak_38 ⟨fun _ v ev => ⟨?_, hq⟩, fun q => by omega⟩
      rw [e0, ev, if_neg n0]
      by_cases w1 : w = 1
      · rw [if_pos w1, if_pos w1, ha]
      · rw [if_neg w1, if_neg w1]
        by_cases w2 : w = 2
        · rw [if_pos w2, if_pos w2]
          rcases hb with hb | hb
          · omega
          · rw [hb.2.1]
            rfl
        · rw [if_neg w2, if_neg w2]
          by_cases w3 : w = 3
          · rw [if_pos w3, if_pos w3, hc]
          · rw [if_neg w3, if_neg w3, if_pos (by omega), hd]
    | succ j ih =>
      intro a b c d x hx x0 ha hb hc hd
      have b1 := mb x
      have e12 : m2 12 x.toNat = suP (pR μ) x := by
        have : m2 12 x.toNat = suP (pR m2) x := h2.2.2.2.2.2 x ⟨x0, by omega⟩
        rw [p2] at this
        exact this
      have sc := sm_b (f := fun f => if 999 < suP (pR μ) f * pE (pR μ) 0 / 100 then 1 else 0) (n := x) (B := 1) x0 (by omega) (fun i _ _ => by split <;> omega)
      have sd := sm_b (f := mixP (pR μ)) (n := x) (B := 999) x0 (by omega) (fun i _ _ => by have : in_ 0 1000 (mixP (pR μ) i) := (mb i).2; ((try unfold am_in); (try unfold in_ at *); omega))
      rw [← hc] at sc
      rw [← hd] at sd
      refine vc_X10_peak_38 ⟨fun q => by omega, fun q => ?_⟩
      rw [p2, e21, e12]
      unfold in_ at b1
      refine ⟨h2, hV, ⟨x0, q⟩, hE0, fun v3 e3 v4 e4 => ⟨x0, q, (by (try unfold am_in); (try unfold in_ at *); omega), b1.1.1, fun v5 e5 => ⟨by rw [e5]; split <;> ((try unfold am_in); (try unfold in_ at *); omega), (by (try unfold am_in); (try unfold in_ at *); omega), (by (try unfold am_in); (try unfold in_ at *); omega), ih v4 v3 _ _ (x + 1) (by omega) (by omega) ?_ ?_ ?_ ?_⟩⟩⟩
      · unfold mx_ at ha ⊢
        rw [fI_s _ _ x0, ← ha, e4]
        rfl
      · right
        change v3 = if a < mixP (pR μ) x then x else b at e3
        change v4 = if a < mixP (pR μ) x then mixP (pR μ) x else a at e4
        refine ⟨by omega, ?_, ?_⟩
        · rw [e3]
          rcases hb with ⟨h0, hb, ha0⟩ | ⟨h1, hb, ha0⟩
          · rw [h0, hb, show (0 : Int) + 1 - 1 = 0 by omega]
            show _ = 0
            split <;> rfl
          · rw [show x + 1 - 1 = x by omega, fg_s h1, ← hb, ← ha0]
        · rw [e4, e3]
          by_cases cc : a < mixP (pR μ) x
          · rw [if_pos cc, if_pos cc]
          · rw [if_neg cc, if_neg cc]
            rcases hb with ⟨h0, hb, ha0⟩ | ⟨h1, hb, ha0⟩
            · rw [ha0, hb]
              have : 0 ≤ mixP (pR μ) x := b1.2.1
              rw [h0] at this cc
              omega
            · exact ha0
      · unfold sm_ at hc ⊢
        rw [fI_s _ _ x0, ← hc, e5]
        rfl
      · unfold sm_ at hd ⊢
        rw [fI_s _ _ x0, ← hd]
        rfl
  exact this 600 0 0 0 0 0 (by omega) (by omega) rfl (Or.inl ⟨rfl, rfl, rfl⟩) rfl rfl
theorem vc_X10_level_0 {x1 : Int} {μ : am_M} {Q : Int → am_M → Prop} (h : (vP (pR μ)) ∧ ((am_in ((winP (pR μ)) - 1)) ∧ ((0 ≤ x1 ∧ x1 ≤ ((winP (pR μ)) - 1) → ∃ P : am_M → Prop, cl_V kR 3 mX10_works [vR 0] μ P ∧ (∀ m2 : am_M, P m2 → (rsnd_ m2) ∧ (vP (pR m2)) ∧ (0 ≤ x1 ∧ x1 < winP (pR m2)) ∧ (in_ 0 401 (m2 1 465)) ∧ (Q (lvP (pR m2) (m2 1 465) x1) m2))) ∧ (¬ (0 ≤ x1 ∧ x1 ≤ ((winP (pR μ)) - 1)) → Q (-1) μ)))) : at_I kR 4 mX10_level 0 [vR 0, vI x1] [] μ Q := by
  refine s_iload_n dX10_level_0 rfl rfl ?_
  refine s_iconst dX10_level_1 (by decide) ?_
  refine s_aload_n dX10_level_2 rfl rfl ?_
  obtain ⟨p0, h⟩ := h
  refine s_callV (As := []) (rest := [vI 0, vI x1]) (k := 0) dX10_level_3 lkX10_224 rn0 ⟨by rw [rk0]; rfl, by rw [rk0]; decide⟩ lmX10_windows rfl rfl (Nat.le_of_ble_eq_true rfl) (by decide) (Nat.le_refl 0) (Nat.le_refl 0) (hC := sp_X10_windows (Q := fun z m => winP (pR μ) = z ∧ μ = m) p0 ⟨rfl, rfl⟩) (fun r n2 S2 m2 hP => ?_)
  obtain ⟨⟨rfl, rfl⟩, z, rfl, rfl, rfl⟩ := hP
  refine s_iconst dX10_level_6 (by decide) ?_
  obtain ⟨c, h⟩ := h
  refine s_isub dX10_level_7 (am_w_id c) ?_
  refine s_callS (As := [vI x1, vI 0, vI ((winP (pR μ)) - 1)]) (rest := []) dX10_level_8 lkX10_103 lmX10_isIn rfl rfl (Nat.le_of_ble_eq_true rfl) (by decide) (Nat.le_refl 0) (Nat.le_refl 0) (hC := sp_X10_isIn (Q := fun z m => bI (0 ≤ x1 ∧ x1 ≤ ((winP (pR μ)) - 1)) = z ∧ μ = m)  ⟨rfl, rfl⟩) (fun r n2 S2 m2 hP => ?_)
  obtain ⟨⟨rfl, rfl⟩, z, rfl, rfl, rfl⟩ := hP
  refine s_if_ne dX10_level_11 (tgt := 16) (by decide) (fun cc => ?_) (fun cc => ?_)
  · have h := h.1 (bI_ne cc)
    refine s_aload_n dX10_level_16 rfl rfl ?_
    obtain ⟨P, hcl, h⟩ := h
    refine s_callV (As := []) (rest := []) (k := 0) dX10_level_17 lkX10_152 rn0 ⟨by rw [rk0]; rfl, by rw [rk0]; decide⟩ lmX10_works rfl rfl (Nat.le_of_ble_eq_true rfl) (by decide) (Nat.le_refl 0) (Nat.le_refl 0) (hC := hcl) (fun r n2 S2 m2 hP => ?_)
    obtain ⟨⟨rfl, rfl⟩, rfl, hq⟩ := hP
    have h := h m2 hq
    refine s_aload_n dX10_level_20 rfl rfl ?_
    refine s_iload_n dX10_level_21 rfl rfl ?_
    refine s_aload_n dX10_level_22 rfl rfl ?_
    refine s_getR dX10_level_23 flX10_9 rn0 rk0 rfl rr0_0 ?_
    refine s_sipush dX10_level_26 (by decide) ?_
    refine s_iald (x := (m2 1 465)) dX10_level_29 rn1 rk1 rl1 (by decide) (by decide) rfl ?_
    obtain ⟨p0, p1, p2, p3, h⟩ := h
    refine s_callV (As := [vI x1, vI (m2 1 465)]) (rest := []) (k := 0) dX10_level_30 lkX10_227 rn0 ⟨by rw [rk0]; rfl, by rw [rk0]; decide⟩ lmX10_levelOf rfl rfl (Nat.le_of_ble_eq_true rfl) (by decide) (Nat.le_refl 0) (Nat.le_refl 0) (hC := sp_X10_levelOf (Q := fun z m => lvP (pR m2) (m2 1 465) x1 = z ∧ m2 = m) p0 p1 p2 p3 ⟨rfl, rfl⟩) (fun r n2 S2 m2 hP => ?_)
    obtain ⟨⟨rfl, rfl⟩, z, rfl, rfl, rfl⟩ := hP
    exact s_ireturn dX10_level_33 (Or.inl rfl) ⟨⟨rfl, rfl⟩, _, rfl, h⟩
  · have h := h.2 (bI_eq cc)
    refine s_iconst dX10_level_14 (by decide) ?_
    exact s_ireturn dX10_level_15 (Or.inl rfl) ⟨⟨rfl, rfl⟩, _, rfl, h⟩
theorem ve_X10_level {x1 : Int} {μ : am_M} {Q : Int → am_M → Prop} (h : at_I kR 4 mX10_level 0 [vR 0, vI x1] [] μ Q) : cl_I kR 4 mX10_level [vR 0, vI x1] μ Q := am_intro pmX10_level (Nat.le_of_ble_eq_true rfl) rfl h
theorem sp_X10_level {μ : am_M} {k : Int} (hV : vP (pR μ)) : cl_I kR 4 mX10_level [vR 0, vI k] μ (fun z m => z = q_level (pR μ) k ∧ rq_ μ m) := by
  have w1 := (lvP_b hV (ms := 0) (by (try unfold am_in); (try unfold in_ at *); omega)).1
  refine ve_X10_level (vc_X10_level_0 ⟨hV, (by (try unfold am_in); (try unfold in_ at *); omega), fun c => ⟨_, sp_X10_works hV, fun m2 ⟨h1, h2⟩ => ?_⟩, fun c => ⟨(cif_f (by omega)).symm, rq_rf⟩⟩)
  have hq := rq_of h1 wk_sc
  rw [rq_P hq, rq_1 hq]
  refine ⟨h2, hV, by omega, hV.hE.1, ?_, hq⟩
  rw [show q_level (pR μ) k = _ from cif_t (by omega)]
  rfl
theorem vc_X10_loudness_0 {x1 : Int} {μ : am_M} {Q : Int → am_M → Prop} (h : (0 ≤ x1 ∧ x1 ≤ 4 → ∃ P : am_M → Prop, cl_V kR 3 mX10_works [vR 0] μ P ∧ (∀ m2 : am_M, P m2 → ∃ P : Int → am_M → Prop, cl_I kR 4 mX10_loudnessOf [vR 0, vI x1, vI (m2 1 465)] m2 P ∧ (∀ (z3 : Int) (m4 : am_M), P z3 m4 → Q z3 m4))) ∧ (¬ (0 ≤ x1 ∧ x1 ≤ 4) → Q (-2) μ)) : at_I kR 5 mX10_loudness 0 [vR 0, vI x1] [] μ Q := by
  refine s_iload_n dX10_loudness_0 rfl rfl ?_
  refine s_iconst dX10_loudness_1 (by decide) ?_
  refine s_iconst dX10_loudness_2 (by decide) ?_
  refine s_callS (As := [vI x1, vI 0, vI 4]) (rest := []) dX10_loudness_3 lkX10_103 lmX10_isIn rfl rfl (Nat.le_of_ble_eq_true rfl) (by decide) (Nat.le_refl 0) (Nat.le_refl 0) (hC := sp_X10_isIn (Q := fun z m => bI (0 ≤ x1 ∧ x1 ≤ 4) = z ∧ μ = m)  ⟨rfl, rfl⟩) (fun r n2 S2 m2 hP => ?_)
  obtain ⟨⟨rfl, rfl⟩, z, rfl, rfl, rfl⟩ := hP
  refine s_if_ne dX10_loudness_6 (tgt := 12) (by decide) (fun cc => ?_) (fun cc => ?_)
  · have h := h.1 (bI_ne cc)
    refine s_aload_n dX10_loudness_12 rfl rfl ?_
    obtain ⟨P, hcl, h⟩ := h
    refine s_callV (As := []) (rest := []) (k := 0) dX10_loudness_13 lkX10_152 rn0 ⟨by rw [rk0]; rfl, by rw [rk0]; decide⟩ lmX10_works rfl rfl (Nat.le_of_ble_eq_true rfl) (by decide) (Nat.le_refl 0) (Nat.le_refl 0) (hC := hcl) (fun r n2 S2 m2 hP => ?_)
    obtain ⟨⟨rfl, rfl⟩, rfl, hq⟩ := hP
    have h := h m2 hq
    refine s_aload_n dX10_loudness_16 rfl rfl ?_
    refine s_iload_n dX10_loudness_17 rfl rfl ?_
    refine s_aload_n dX10_loudness_18 rfl rfl ?_
    refine s_getR dX10_loudness_19 flX10_9 rn0 rk0 rfl rr0_0 ?_
    refine s_sipush dX10_loudness_22 (by decide) ?_
    refine s_iald (x := (m2 1 465)) dX10_loudness_25 rn1 rk1 rl1 (by decide) (by decide) rfl ?_
    obtain ⟨P, hcl, h⟩ := h
    refine s_callV (As := [vI x1, vI (m2 1 465)]) (rest := []) (k := 0) dX10_loudness_26 lkX10_206 rn0 ⟨by rw [rk0]; rfl, by rw [rk0]; decide⟩ lmX10_loudnessOf rfl rfl (Nat.le_of_ble_eq_true rfl) (by decide) (Nat.le_refl 0) (Nat.le_refl 0) (hC := hcl) (fun r n2 S2 m4 hP => ?_)
    obtain ⟨⟨rfl, rfl⟩, z3, rfl, hq⟩ := hP
    have h := h z3 m4 hq
    exact s_ireturn dX10_loudness_29 (Or.inl rfl) ⟨⟨rfl, rfl⟩, _, rfl, h⟩
  · have h := h.2 (bI_eq cc)
    refine s_bipush dX10_loudness_9 (by decide) ?_
    exact s_ireturn dX10_loudness_11 (Or.inl rfl) ⟨⟨rfl, rfl⟩, _, rfl, h⟩
theorem ve_X10_loudness {x1 : Int} {μ : am_M} {Q : Int → am_M → Prop} (h : at_I kR 5 mX10_loudness 0 [vR 0, vI x1] [] μ Q) : cl_I kR 5 mX10_loudness [vR 0, vI x1] μ Q := am_intro pmX10_loudness (Nat.le_of_ble_eq_true rfl) rfl h
theorem sp_X10_loudness {μ : am_M} {w : Int} (hV : vP (pR μ)) : cl_I kR 5 mX10_loudness [vR 0, vI w] μ (fun z m => z = q_loudness (pR μ) w ∧ rq_ μ m) := by
  have e0 : q_loudness (pR μ) w = if w = 0 then winP (pR μ) else if w = 1 then lq_ (lvP (pR μ) (pE (pR μ) 0)) (winP (pR μ)) (gtP (pR μ)) else if w = 2 then ll_ (lvP (pR μ) (pE (pR μ) 0)) (winP (pR μ)) (gtP (pR μ)) (pE (pR μ) 3) else if w = 3 then lm_ (lvP (pR μ) (pE (pR μ) 0)) (winP (pR μ)) (gtP (pR μ)) else if w = 4 then loP (pR μ) (pE (pR μ) 0) else -2 := rfl
  refine ve_X10_loudness (vc_X10_loudness_0 ⟨fun cw => ⟨_, sp_X10_works hV, fun m2 ⟨h1, h2⟩ => ?_⟩, fun cw => ⟨by rw [e0, if_neg (by omega), if_neg (by omega), if_neg (by omega), if_neg (by omega), if_neg (by omega)], rq_rf⟩⟩)
  have hq := rq_of h1 wk_sc
  have p2 := rq_P hq
  rw [rq_1 hq]
  refine ⟨_, sp_X10_loudnessOf (by rw [p2]; exact hV) h2 hV.hE.1, fun z m ⟨hz, hf⟩ => ⟨?_, rq_tr hq (rq_of hf (by decide))⟩⟩
  rw [hz, p2, e0]
  show q_lo (pR μ) (pE (pR μ) 0) w = _
  unfold q_lo
  by_cases w4 : w = 4
  · rw [if_neg (by omega), if_neg (by omega), if_neg (by omega), if_neg (by omega), if_neg (by omega), if_neg (by omega), if_neg (by omega), if_neg (by omega), if_pos w4]
  · rw [if_neg w4]
    by_cases w0 : w = 0
    · rw [if_pos w0, if_pos w0]
    · rw [if_neg w0, if_neg w0]
      by_cases w1 : w = 1
      · rw [if_pos w1, if_pos w1]
      · rw [if_neg w1, if_neg w1]
        by_cases w2 : w = 2
        · rw [if_pos w2, if_pos w2]
        · rw [if_neg w2, if_neg w2, if_pos (by omega), if_pos (by omega)]
theorem vc_X10_loudnessAgain_0 {μ : am_M} {Q : Int → am_M → Prop} (h : ∃ P : Int → am_M → Prop, cl_I kR 5 mX10_loudness [vR 0, vI 4] μ P ∧ (∀ (z1 : Int) (m2 : am_M), P z1 m2 → Q z1 m2)) : at_I kR 6 mX10_loudnessAgain 0 [vR 0] [] μ Q := by
  refine s_aload_n dX10_loudnessAgain_0 rfl rfl ?_
  refine s_iconst dX10_loudnessAgain_1 (by decide) ?_
  obtain ⟨P, hcl, h⟩ := h
  refine s_callV (As := [vI 4]) (rest := []) (k := 0) dX10_loudnessAgain_2 lkX10_230 rn0 ⟨by rw [rk0]; rfl, by rw [rk0]; decide⟩ lmX10_loudness rfl rfl (Nat.le_of_ble_eq_true rfl) (by decide) (Nat.le_refl 0) (Nat.le_refl 0) (hC := hcl) (fun r n2 S2 m2 hP => ?_)
  obtain ⟨⟨rfl, rfl⟩, z1, rfl, hq⟩ := hP
  have h := h z1 m2 hq
  exact s_ireturn dX10_loudnessAgain_5 (Or.inl rfl) ⟨⟨rfl, rfl⟩, _, rfl, h⟩
theorem ve_X10_loudnessAgain {μ : am_M} {Q : Int → am_M → Prop} (h : at_I kR 6 mX10_loudnessAgain 0 [vR 0] [] μ Q) : cl_I kR 6 mX10_loudnessAgain [vR 0] μ Q := am_intro pmX10_loudnessAgain (Nat.le_of_ble_eq_true rfl) rfl h
theorem sp_X10_loudnessAgain {μ : am_M} (hV : vP (pR μ)) : cl_I kR 6 mX10_loudnessAgain [vR 0] μ (fun z m => z = loP (pR μ) (pE (pR μ) 0) ∧ rq_ μ m) :=
  ve_X10_loudnessAgain (vc_X10_loudnessAgain_0 ⟨_, sp_X10_loudness hV, fun z m h => h⟩)
theorem vc_X10_masterFor_0 {x1 : Int} {μ : am_M} {Q : Int → am_M → Prop} (h : (1 ≤ x1 ∧ x1 ≤ 999 → ∃ P : am_M → Prop, cl_V kR 3 mX10_works [vR 0] μ P ∧ (∀ m2 : am_M, P m2 → at_I kR 5 mX10_masterFor 22 [vR 0, vI x1, vI 400] [] m2 Q)) ∧ (¬ (1 ≤ x1 ∧ x1 ≤ 999) → Q (-2) μ)) : at_I kR 5 mX10_masterFor 0 [vR 0, vI x1, vU] [] μ Q := by
  refine s_iload_n dX10_masterFor_0 rfl rfl ?_
  refine s_iconst dX10_masterFor_1 (by decide) ?_
  refine s_sipush dX10_masterFor_2 (by decide) ?_
  refine s_callS (As := [vI x1, vI 1, vI 999]) (rest := []) dX10_masterFor_5 lkX10_103 lmX10_isIn rfl rfl (Nat.le_of_ble_eq_true rfl) (by decide) (Nat.le_refl 0) (Nat.le_refl 0) (hC := sp_X10_isIn (Q := fun z m => bI (1 ≤ x1 ∧ x1 ≤ 999) = z ∧ μ = m)  ⟨rfl, rfl⟩) (fun r n2 S2 m2 hP => ?_)
  obtain ⟨⟨rfl, rfl⟩, z, rfl, rfl, rfl⟩ := hP
  refine s_if_ne dX10_masterFor_8 (tgt := 14) (by decide) (fun cc => ?_) (fun cc => ?_)
  · have h := h.1 (bI_ne cc)
    refine s_aload_n dX10_masterFor_14 rfl rfl ?_
    obtain ⟨P, hcl, h⟩ := h
    refine s_callV (As := []) (rest := []) (k := 0) dX10_masterFor_15 lkX10_152 rn0 ⟨by rw [rk0]; rfl, by rw [rk0]; decide⟩ lmX10_works rfl rfl (Nat.le_of_ble_eq_true rfl) (by decide) (Nat.le_refl 0) (Nat.le_refl 0) (hC := hcl) (fun r n2 S2 m2 hP => ?_)
    obtain ⟨⟨rfl, rfl⟩, rfl, hq⟩ := hP
    have h := h m2 hq
    refine s_sipush dX10_masterFor_18 (by decide) ?_
    refine s_istore_n dX10_masterFor_21 rfl (by decide) (L' := [vR 0, vI x1, vI 400]) rfl ?_
    exact h
  · have h := h.2 (bI_eq cc)
    refine s_bipush dX10_masterFor_11 (by decide) ?_
    exact s_ireturn dX10_masterFor_13 (Or.inl rfl) ⟨⟨rfl, rfl⟩, _, rfl, h⟩
theorem vc_X10_masterFor_22 {x1 x2 : Int} {μ : am_M} {Q : Int → am_M → Prop} (h : (x2 ≤ 0 → Q (-6) μ) ∧ (0 < x2 → ∃ P : Int → am_M → Prop, cl_I kR 4 mX10_loudnessOf [vR 0, vI 4, vI x2] μ P ∧ (∀ (z1 : Int) (m2 : am_M), P z1 m2 → (am_in (x1 * x1)) ∧ ((x1 * x1 < z1 → (am_in (x2 - 1)) ∧ (at_I kR 5 mX10_masterFor 22 [vR 0, vI x1, vI (x2 - 1)] [] m2 Q)) ∧ (z1 ≤ x1 * x1 → Q x2 m2))))) : at_I kR 5 mX10_masterFor 22 [vR 0, vI x1, vI x2] [] μ Q := by
  refine s_iload_n dX10_masterFor_22 rfl rfl ?_
  refine s_if_le dX10_masterFor_23 (tgt := 46) (by decide) (fun cc => ?_) (fun cc => ?_)
  · have h := h.1 cc
    refine s_bipush dX10_masterFor_46 (by decide) ?_
    exact s_ireturn dX10_masterFor_48 (Or.inl rfl) ⟨⟨rfl, rfl⟩, _, rfl, h⟩
  · have h := h.2 cc
    refine s_aload_n dX10_masterFor_26 rfl rfl ?_
    refine s_iconst dX10_masterFor_27 (by decide) ?_
    refine s_iload_n dX10_masterFor_28 rfl rfl ?_
    obtain ⟨P, hcl, h⟩ := h
    refine s_callV (As := [vI 4, vI x2]) (rest := []) (k := 0) dX10_masterFor_29 lkX10_206 rn0 ⟨by rw [rk0]; rfl, by rw [rk0]; decide⟩ lmX10_loudnessOf rfl rfl (Nat.le_of_ble_eq_true rfl) (by decide) (Nat.le_refl 0) (Nat.le_refl 0) (hC := hcl) (fun r n2 S2 m2 hP => ?_)
    obtain ⟨⟨rfl, rfl⟩, z1, rfl, hq⟩ := hP
    have h := h z1 m2 hq
    refine s_iload_n dX10_masterFor_32 rfl rfl ?_
    refine s_iload_n dX10_masterFor_33 rfl rfl ?_
    obtain ⟨c, h⟩ := h
    refine s_imul dX10_masterFor_34 (am_w_id c) ?_
    refine s_icmp_gt dX10_masterFor_35 (tgt := 40) (by decide) (fun cc => ?_) (fun cc => ?_)
    · have h := h.1 cc
      obtain ⟨c, h⟩ := h
      refine s_iinc dX10_masterFor_40 rfl (am_w_id c) (by decide) (L' := [vR 0, vI x1, vI (x2 - 1)]) rfl ?_
      refine s_goto dX10_masterFor_43 (tgt := 22) (by decide) ?_
      exact h
    · have h := h.2 cc
      refine s_iload_n dX10_masterFor_38 rfl rfl ?_
      exact s_ireturn dX10_masterFor_39 (Or.inl rfl) ⟨⟨rfl, rfl⟩, _, rfl, h⟩
theorem ve_X10_masterFor {x1 : Int} {μ : am_M} {Q : Int → am_M → Prop} (h : at_I kR 5 mX10_masterFor 0 [vR 0, vI x1, vU] [] μ Q) : cl_I kR 5 mX10_masterFor [vR 0, vI x1] μ Q := am_intro pmX10_masterFor (Nat.le_of_ble_eq_true rfl) rfl h
theorem sp_X10_masterFor {μ : am_M} {t : Int} (hV : vP (pR μ)) : cl_I kR 5 mX10_masterFor [vR 0, vI t] μ (fun z m => z = q_master (pR μ) t ∧ rq_ μ m) := by
  refine ve_X10_masterFor (vc_X10_masterFor_0 ⟨fun c => ⟨_, sp_X10_works hV, fun m2 ⟨h1, h2⟩ => ?_⟩, fun c => ⟨(cif_t (by omega)).symm, rq_rf⟩⟩)
  rw [show q_master (pR μ) t = _ from cif_f (by omega)]
  have tt := mulb (x := t) (y := t) (A := 999) (B := 999) (by omega) (by omega) (by omega) (by omega)
  have : ∀ (k : Nat) (x : Int) (m : am_M), x = k → k ≤ 400 → rq_ μ m → rsnd_ m → gm_ (loP (pR μ)) (t * t) 400 = gm_ (loP (pR μ)) (t * t) k → at_I kR 5 mX10_masterFor 22 [vR 0, vI t, vI x] [] m (fun z m => z = gm_ (loP (pR μ)) (t * t) 400 ∧ rq_ μ m) := by
    intro k
    induction k with
    | zero =>
      intro x m hx hk hq hs hg
      exact vc_X10_masterFor_22 ⟨fun _ => ⟨by rw [hg]; rfl, hq⟩, fun q => by omega⟩
    | succ k ih =>
      intro x m hx hk hq hs hg
      have pm := rq_P hq
      refine vc_X10_masterFor_22 ⟨fun q => by omega, fun q => ⟨_, sp_X10_loudnessOf (by rw [pm]; exact hV) hs (by ((try unfold am_in); (try unfold in_ at *); omega)), fun z m4 ⟨hz, hf⟩ => ?_⟩⟩
      have e : z = loP (pR μ) (k + 1) := by
        rw [hz, pm, hx]
        rfl
      have q4 : rq_ μ m4 := rq_tr hq (rq_of hf (by decide))
      rw [e]
      refine ⟨(by (try unfold am_in); (try unfold in_ at *); omega), fun c => ⟨(by (try unfold am_in); (try unfold in_ at *); omega), ih (x - 1) m4 (by omega) (by omega) q4 (rsnd_fr hf (by decide) (by decide) hs) ?_⟩, fun c => ⟨?_, q4⟩⟩
      · rw [hg]
        show (if _ then _ else _) = _
        rw [if_pos c]
      · rw [hg, hx]
        show _ = (if _ then _ else _)
        rw [if_neg (by omega)]
        omega
  exact this 400 400 m2 rfl (by omega) (rq_of h1 wk_sc) h2 rfl

/-! the reference's chapters -/
/-- the chapters of v are H -/
def hz_ (ν : am_M) (H : Hl) : Prop := hl_ (ν 1 438) (fun i => ν 1 (439 + 2 * i)) (fun i => ν 1 (439 + 2 * i + 1)) H
/-- in v, chapters alone have changed -/
def fh_ (ν m : am_M) : Prop := ∀ i : Nat, i ≠ 438 → (i < 439 ∨ 463 ≤ i) → m 1 i = ν 1 i
theorem fh_rf {ν : am_M} : fh_ ν ν := fun _ _ _ => rfl
theorem fh_tr {a b c : am_M} (h : fh_ a b) (g : fh_ b c) : fh_ a c := fun i a1 a2 => (g i a1 a2).trans (h i a1 a2)
theorem fh_e {ν m : am_M} (h : m 1 = ν 1) : fh_ ν m := fun i _ _ => by rw [h]
theorem hz_e {ν m : am_M} {H : Hl} (h : m 1 = ν 1) (t : hz_ ν H) : hz_ m H := by
  unfold hz_ at *
  rw [h]
  exact t
/-- changes of clips leave the chapters, and the other way round -/
theorem hz_fv {ν m : am_M} {H : Hl} (h : fv_ ν m) (hl : H.length ≤ 12) (t : hz_ ν H) : hz_ m H := by
  refine ⟨by rw [h 438 (by omega) (by omega)]; exact t.1, fun i p hi => ?_⟩
  have il := (List.getElem?_eq_some_iff.mp hi).1
  have := t.2 i p hi
  show m 1 (439 + 2 * i) = p.1 ∧ m 1 (439 + 2 * i + 1) = p.2
  rw [h _ (by omega) (by omega), h _ (by omega) (by omega)]
  exact this
theorem tr_fh {ν m : am_M} {L : List Rw} (h : fh_ ν m) (hl : L.length ≤ 48) (t : tr_ ν L) : tr_ m L := by
  refine ⟨by rw [h 25 (by omega) (by omega)]; exact t.1, fun i r hi k k0 k1 => ?_⟩
  have il := (List.getElem?_eq_some_iff.mp hi).1
  have := t.2 i r hi k k0 k1
  rw [← this]
  exact h _ (by omega) (by omega)
theorem hz_at {ν : am_M} {A B : Hl} {p : Int × Int} {x : Int} (h : hz_ ν (A ++ p :: B)) (hx : x = A.length) : ν 1 ((439 + (2 * x)).toNat) = p.1 ∧ ν 1 (((439 + (2 * x)) + 1).toNat) = p.2 := by
  have := hl_at h hx
  rw [show (439 + (2 * x)).toNat = 439 + 2 * x.toNat by omega, show ((439 + (2 * x)) + 1).toNat = 439 + 2 * x.toNat + 1 by omega]
  exact this
theorem hz_len {ν : am_M} {A B : Hl} {p : Int × Int} (h : hz_ ν (A ++ p :: B)) : ν 1 438 = A.length + 1 + B.length := by
  rw [h.1]; simp; omega
/-- a chapter's frame changes -/
theorem hz_up {ν m : am_M} {A B : Hl} {p : Int × Int} {c x : Int} (h : hz_ ν (A ++ p :: B)) (hc : c = A.length) (hl : (A ++ p :: B).length ≤ 12) (e : m = am_st ν 1 (am_up (ν 1) (439 + (2 * c)).toNat x)) : fr_ [1] ν m ∧ fh_ ν m ∧ hz_ m (A ++ (x, p.2) :: B) := by
  have hll : (A ++ p :: B).length = A.length + 1 + B.length := by simp; omega
  rw [hll] at hl
  refine ⟨by rw [e]; exact fr_st (by simp), fun i i0 i1 => by rw [e, st_s, up_n (by omega)], by rw [e, st_s, up_n (by omega), h.1]; simp, fun i q hi => ?_⟩
  show m 1 (439 + 2 * i) = q.1 ∧ m 1 (439 + 2 * i + 1) = q.2
  by_cases c1 : i = A.length
  · subst c1
    simp at hi
    subst hi
    have := h.2 A.length p (by simp)
    rw [e, st_s, up_n (i := 439 + 2 * A.length + 1) (by omega), show 439 + 2 * A.length = (439 + (2 * c)).toNat by omega, up_s]
    refine ⟨rfl, ?_⟩
    rw [show (439 + (2 * c)).toNat = 439 + 2 * A.length by omega]
    exact this.2
  · rw [e, st_s, up_n (by omega), up_n (by omega)]
    refine h.2 i q ?_
    by_cases q2 : i < A.length
    · rw [List.getElem?_append_left q2] at hi ⊢
      exact hi
    · rw [List.getElem?_append_right (by omega), show i - A.length = (i - A.length - 1) + 1 by omega, List.getElem?_cons_succ] at hi ⊢
      exact hi
theorem vc_X10_dropsChapter_0 {x1 : Int} {μ : am_M} {Q : am_M → Prop} (h : (am_in (μ 1 438 - 1)) ∧ (∀ m1 : am_M, m1 = am_st μ 1 (am_up (μ 1) 438 (μ 1 438 - 1)) → at_V kR 1 mX10_dropsChapter 14 [vR 0, vU, vI x1] [] m1 Q)) : at_V kR 1 mX10_dropsChapter 0 [vR 0, vI x1, vU] [] μ Q := by
  refine s_aload_n dX10_dropsChapter_0 rfl rfl ?_
  refine s_getR dX10_dropsChapter_1 flX10_9 rn0 rk0 rfl rr0_0 ?_
  refine s_sipush dX10_dropsChapter_4 (by decide) ?_
  refine s_dup2 dX10_dropsChapter_7 ?_
  refine s_iald (x := (μ 1 438)) dX10_dropsChapter_8 rn1 rk1 rl1 (by decide) (by decide) rfl ?_
  refine s_iconst dX10_dropsChapter_9 (by decide) ?_
  obtain ⟨c, h⟩ := h
  refine s_isub dX10_dropsChapter_10 (am_w_id c) ?_
  obtain ⟨m1, hm1⟩ : ∃ x : am_M, x = am_st μ 1 (am_up (μ 1) 438 (μ 1 438 - 1)) := ⟨_, rfl⟩
  have h := h m1 hm1
  refine s_iast dX10_dropsChapter_11 rn1 rk1 rl1 (by decide) (by decide) hm1.symm ?_
  refine s_iload_n dX10_dropsChapter_12 rfl rfl ?_
  refine s_istore_n dX10_dropsChapter_13 rfl (by decide) (L' := [vR 0, vI x1, vI x1]) rfl ?_
  exact am_lesS h ⟨Or.inr rfl, Or.inl rfl, Or.inr rfl, trivial⟩
theorem vc_X10_dropsChapter_14 {x2 : Int} {μ : am_M} {Q : am_M → Prop} (h : (μ 1 438 ≤ x2 → Q μ) ∧ (x2 < μ 1 438 → (am_in (2 * x2)) ∧ ((am_in (439 + (2 * x2))) ∧ ((am_in (2 * x2)) ∧ ((am_in (439 + (2 * x2))) ∧ ((am_in ((439 + (2 * x2)) + 2)) ∧ ((0 ≤ (439 + (2 * x2)) + 2) ∧ ((439 + (2 * x2)) + 2 < 470) ∧ ((0 ≤ 439 + (2 * x2)) ∧ (439 + (2 * x2) < 470) ∧ (∀ m1 : am_M, m1 = am_st μ 1 (am_up (μ 1) (439 + (2 * x2)).toNat (μ 1 (((439 + (2 * x2)) + 2).toNat))) → (am_in (2 * x2)) ∧ ((am_in (439 + (2 * x2))) ∧ ((am_in ((439 + (2 * x2)) + 1)) ∧ ((am_in (2 * x2)) ∧ ((am_in (439 + (2 * x2))) ∧ ((am_in ((439 + (2 * x2)) + 3)) ∧ ((0 ≤ (439 + (2 * x2)) + 3) ∧ ((439 + (2 * x2)) + 3 < 470) ∧ ((0 ≤ (439 + (2 * x2)) + 1) ∧ ((439 + (2 * x2)) + 1 < 470) ∧ (∀ m2 : am_M, m2 = am_st m1 1 (am_up (m1 1) ((439 + (2 * x2)) + 1).toNat (m1 1 (((439 + (2 * x2)) + 3).toNat))) → (am_in (x2 + 1)) ∧ (at_V kR 1 mX10_dropsChapter 14 [vR 0, vU, vI (x2 + 1)] [] m2 Q)))))))))))))))))) : at_V kR 1 mX10_dropsChapter 14 [vR 0, vU, vI x2] [] μ Q := by
  refine s_iload_n dX10_dropsChapter_14 rfl rfl ?_
  refine s_aload_n dX10_dropsChapter_15 rfl rfl ?_
  refine s_getR dX10_dropsChapter_16 flX10_9 rn0 rk0 rfl rr0_0 ?_
  refine s_sipush dX10_dropsChapter_19 (by decide) ?_
  refine s_iald (x := (μ 1 438)) dX10_dropsChapter_22 rn1 rk1 rl1 (by decide) (by decide) rfl ?_
  refine s_icmp_ge dX10_dropsChapter_23 (tgt := 86) (by decide) (fun cc => ?_) (fun cc => ?_)
  · have h := h.1 cc
    exact s_return dX10_dropsChapter_86 rfl ⟨⟨rfl, rfl⟩, rfl, h⟩
  · have h := h.2 cc
    refine s_aload_n dX10_dropsChapter_26 rfl rfl ?_
    refine s_getR dX10_dropsChapter_27 flX10_9 rn0 rk0 rfl rr0_0 ?_
    refine s_sipush dX10_dropsChapter_30 (by decide) ?_
    refine s_iconst dX10_dropsChapter_33 (by decide) ?_
    refine s_iload_n dX10_dropsChapter_34 rfl rfl ?_
    obtain ⟨c, h⟩ := h
    refine s_imul dX10_dropsChapter_35 (am_w_id c) ?_
    obtain ⟨c, h⟩ := h
    refine s_iadd dX10_dropsChapter_36 (am_w_id c) ?_
    refine s_aload_n dX10_dropsChapter_37 rfl rfl ?_
    refine s_getR dX10_dropsChapter_38 flX10_9 rn0 rk0 rfl rr0_0 ?_
    refine s_sipush dX10_dropsChapter_41 (by decide) ?_
    refine s_iconst dX10_dropsChapter_44 (by decide) ?_
    refine s_iload_n dX10_dropsChapter_45 rfl rfl ?_
    obtain ⟨c, h⟩ := h
    refine s_imul dX10_dropsChapter_46 (am_w_id c) ?_
    obtain ⟨c, h⟩ := h
    refine s_iadd dX10_dropsChapter_47 (am_w_id c) ?_
    refine s_iconst dX10_dropsChapter_48 (by decide) ?_
    obtain ⟨c, h⟩ := h
    refine s_iadd dX10_dropsChapter_49 (am_w_id c) ?_
    obtain ⟨c, c2, h⟩ := h
    refine s_iald (x := (μ 1 (((439 + (2 * x2)) + 2).toNat))) dX10_dropsChapter_50 rn1 rk1 rl1 c c2 rfl ?_
    obtain ⟨c, c2, h⟩ := h
    obtain ⟨m1, hm1⟩ : ∃ x : am_M, x = am_st μ 1 (am_up (μ 1) (439 + (2 * x2)).toNat (μ 1 (((439 + (2 * x2)) + 2).toNat))) := ⟨_, rfl⟩
    have h := h m1 hm1
    refine s_iast dX10_dropsChapter_51 rn1 rk1 rl1 c c2 hm1.symm ?_
    refine s_aload_n dX10_dropsChapter_52 rfl rfl ?_
    refine s_getR dX10_dropsChapter_53 flX10_9 rn0 rk0 rfl rr0_0 ?_
    refine s_sipush dX10_dropsChapter_56 (by decide) ?_
    refine s_iconst dX10_dropsChapter_59 (by decide) ?_
    refine s_iload_n dX10_dropsChapter_60 rfl rfl ?_
    obtain ⟨c, h⟩ := h
    refine s_imul dX10_dropsChapter_61 (am_w_id c) ?_
    obtain ⟨c, h⟩ := h
    refine s_iadd dX10_dropsChapter_62 (am_w_id c) ?_
    refine s_iconst dX10_dropsChapter_63 (by decide) ?_
    obtain ⟨c, h⟩ := h
    refine s_iadd dX10_dropsChapter_64 (am_w_id c) ?_
    refine s_aload_n dX10_dropsChapter_65 rfl rfl ?_
    refine s_getR dX10_dropsChapter_66 flX10_9 rn0 rk0 rfl rr0_0 ?_
    refine s_sipush dX10_dropsChapter_69 (by decide) ?_
    refine s_iconst dX10_dropsChapter_72 (by decide) ?_
    refine s_iload_n dX10_dropsChapter_73 rfl rfl ?_
    obtain ⟨c, h⟩ := h
    refine s_imul dX10_dropsChapter_74 (am_w_id c) ?_
    obtain ⟨c, h⟩ := h
    refine s_iadd dX10_dropsChapter_75 (am_w_id c) ?_
    refine s_iconst dX10_dropsChapter_76 (by decide) ?_
    obtain ⟨c, h⟩ := h
    refine s_iadd dX10_dropsChapter_77 (am_w_id c) ?_
    obtain ⟨c, c2, h⟩ := h
    refine s_iald (x := (m1 1 (((439 + (2 * x2)) + 3).toNat))) dX10_dropsChapter_78 rn1 rk1 rl1 c c2 rfl ?_
    obtain ⟨c, c2, h⟩ := h
    obtain ⟨m2, hm2⟩ : ∃ x : am_M, x = am_st m1 1 (am_up (m1 1) ((439 + (2 * x2)) + 1).toNat (m1 1 (((439 + (2 * x2)) + 3).toNat))) := ⟨_, rfl⟩
    have h := h m2 hm2
    refine s_iast dX10_dropsChapter_79 rn1 rk1 rl1 c c2 hm2.symm ?_
    obtain ⟨c, h⟩ := h
    refine s_iinc dX10_dropsChapter_80 rfl (am_w_id c) (by decide) (L' := [vR 0, vU, vI (x2 + 1)]) rfl ?_
    refine s_goto dX10_dropsChapter_83 (tgt := 14) (by decide) ?_
    exact h
theorem ve_X10_dropsChapter {x1 : Int} {μ : am_M} {Q : am_M → Prop} (h : at_V kR 1 mX10_dropsChapter 0 [vR 0, vI x1, vU] [] μ Q) : cl_V kR 1 mX10_dropsChapter [vR 0, vI x1] μ Q := am_intro pmX10_dropsChapter (Nat.le_of_ble_eq_true rfl) rfl h
theorem sp_X10_dropsChapter {μ : am_M} {A B : Hl} {p : Int × Int} {c : Int} (h : hz_ μ (A ++ p :: B)) (hc : c = A.length) (hl : (A ++ p :: B).length ≤ 12) : cl_V kR 1 mX10_dropsChapter [vR 0, vI c] μ (fun m => fr_ [1] μ m ∧ fh_ μ m ∧ hz_ m (A ++ B)) := by
  have hn := hz_len h
  have hll : (A ++ p :: B).length = A.length + 1 + B.length := by simp; omega
  rw [hll] at hl
  refine ve_X10_dropsChapter (vc_X10_dropsChapter_0 ⟨(by (try unfold am_in); (try unfold in_ at *); omega), fun m1 e1 => ?_⟩)
  have f1 : fr_ [1] μ m1 := by rw [e1]; exact fr_st (by simp)
  have an : m1 1 438 = μ 1 438 - 1 := by rw [e1, st_s, up_s]
  have aj : ∀ j, j ≠ 438 → m1 1 j = μ 1 j := fun j hj => by rw [e1, st_s, up_n hj]
  have : ∀ (j : Nat) (x : Int) (m : am_M), x + j = μ 1 438 - 1 → c ≤ x → fr_ [1] μ m → m 1 438 = μ 1 438 - 1 → (∀ i : Nat, i ≠ 438 → ((i : Int) < 439 + 2 * c ∨ 439 + 2 * x ≤ i) → m 1 i = μ 1 i) → (∀ i : Nat, 439 + 2 * c ≤ (i : Int) → (i : Int) < 439 + 2 * x → m 1 i = μ 1 (i + 2)) → at_V kR 1 mX10_dropsChapter 14 [vR 0, vU, vI x] [] m (fun m => fr_ [1] μ m ∧ fh_ μ m ∧ hz_ m (A ++ B)) := by
    intro j
    induction j with
    | zero =>
      intro x m hx xc hf h0 h1 h2
      refine vc_X10_dropsChapter_14 ⟨fun _ => ⟨hf, fun i i0 hi => h1 i i0 (by omega), by rw [h0, hn]; simp; omega, fun i q hi => ?_⟩, fun q => by omega⟩
      have il := (List.getElem?_eq_some_iff.mp hi).1
      rw [List.length_append] at il
      show m 1 (439 + 2 * i) = q.1 ∧ m 1 (439 + 2 * i + 1) = q.2
      by_cases q2 : i < A.length
      · rw [List.getElem?_append_left q2] at hi
        rw [h1 _ (by omega) (by omega), h1 _ (by omega) (by omega)]
        exact h.2 i q (by rw [List.getElem?_append_left q2]; exact hi)
      · rw [List.getElem?_append_right (by omega)] at hi
        have := h.2 (i + 1) q (by rw [List.getElem?_append_right (by omega), show i + 1 - A.length = (i - A.length) + 1 by omega, List.getElem?_cons_succ]; exact hi)
        rw [h2 _ (by omega) (by omega), h2 _ (by omega) (by omega)]
        exact this
    | succ j ih =>
      intro x m hx xc hf h0 h1 h2
      refine vc_X10_dropsChapter_14 ⟨fun q => by omega, fun q => ⟨(by (try unfold am_in); (try unfold in_ at *); omega), (by (try unfold am_in); (try unfold in_ at *); omega), (by (try unfold am_in); (try unfold in_ at *); omega), (by (try unfold am_in); (try unfold in_ at *); omega), (by (try unfold am_in); (try unfold in_ at *); omega), by omega, by omega, by omega, by omega, fun m2 e2 => ⟨(by (try unfold am_in); (try unfold in_ at *); omega), (by (try unfold am_in); (try unfold in_ at *); omega), (by (try unfold am_in); (try unfold in_ at *); omega), (by (try unfold am_in); (try unfold in_ at *); omega), (by (try unfold am_in); (try unfold in_ at *); omega), (by (try unfold am_in); (try unfold in_ at *); omega), by omega, by omega, by omega, by omega, fun m3 e3 => ⟨(by (try unfold am_in); (try unfold in_ at *); omega), ih (x + 1) m3 (by omega) (by omega) ?_ ?_ (fun i i0 hi => ?_) (fun i i0 i1 => ?_)⟩⟩⟩⟩
      · rw [e3, e2]; exact fr_tr hf (fr_tr (fr_st (by simp)) (fr_st (by simp)))
      · rw [e3, st_s, up_n (by omega), e2, st_s, up_n (by omega), h0]
      · rw [e3, st_s, up_n (by omega), e2, st_s, up_n (by omega)]
        exact h1 i i0 (by omega)
      · have g1 := h1 ((439 + (2 * x)) + 2).toNat (by omega) (by omega)
        have g2 := h1 ((439 + (2 * x)) + 3).toNat (by omega) (by omega)
        have g2' : m2 1 ((439 + (2 * x)) + 3).toNat = μ 1 ((439 + (2 * x)) + 3).toNat := by rw [e2, st_s, up_n (by omega), g2]
        rw [e3, st_s]
        by_cases c2 : i = ((439 + (2 * x)) + 1).toNat
        · rw [c2, up_s, g2']
          congr 1
          omega
        · rw [up_n c2, e2, st_s]
          by_cases c3 : i = (439 + (2 * x)).toNat
          · rw [c3, up_s, g1]
            congr 1
            omega
          · rw [up_n c3]
            exact h2 i i0 (by omega)
  exact this (μ 1 438 - 1 - c).toNat c m1 (by omega) (by omega) f1 an (fun i i0 _ => aj i i0) (fun i i0 i1 => by omega)
theorem vc_X10_laysChapter_0 {x1 x2 : Int} {μ : am_M} {Q : Int → am_M → Prop} (h : (¬ (0 ≤ x1 ∧ x1 ≤ 599) → Q (-2) μ) ∧ (0 ≤ x1 ∧ x1 ≤ 599 → (0 ≤ x2 ∧ x2 ≤ 99 → at_I kR 2 mX10_laysChapter 26 [vR 0, vI x1, vI x2, vI 0, vU, vU] [] μ Q) ∧ (¬ (0 ≤ x2 ∧ x2 ≤ 99) → Q (-2) μ))) : at_I kR 2 mX10_laysChapter 0 [vR 0, vI x1, vI x2, vU, vU, vU] [] μ Q := by
  refine s_iload_n dX10_laysChapter_0 rfl rfl ?_
  refine s_iconst dX10_laysChapter_1 (by decide) ?_
  refine s_sipush dX10_laysChapter_2 (by decide) ?_
  refine s_callS (As := [vI x1, vI 0, vI 599]) (rest := []) dX10_laysChapter_5 lkX10_103 lmX10_isIn rfl rfl (Nat.le_of_ble_eq_true rfl) (by decide) (Nat.le_refl 0) (Nat.le_refl 0) (hC := sp_X10_isIn (Q := fun z m => bI (0 ≤ x1 ∧ x1 ≤ 599) = z ∧ μ = m)  ⟨rfl, rfl⟩) (fun r n2 S2 m2 hP => ?_)
  obtain ⟨⟨rfl, rfl⟩, z, rfl, rfl, rfl⟩ := hP
  refine s_if_eq dX10_laysChapter_8 (tgt := 21) (by decide) (fun cc => ?_) (fun cc => ?_)
  · have h := h.1 (bI_eq cc)
    refine s_bipush dX10_laysChapter_21 (by decide) ?_
    exact s_ireturn dX10_laysChapter_23 (Or.inl rfl) ⟨⟨rfl, rfl⟩, _, rfl, h⟩
  · have h := h.2 (bI_ne cc)
    refine s_iload_n dX10_laysChapter_11 rfl rfl ?_
    refine s_iconst dX10_laysChapter_12 (by decide) ?_
    refine s_bipush dX10_laysChapter_13 (by decide) ?_
    refine s_callS (As := [vI x2, vI 0, vI 99]) (rest := []) dX10_laysChapter_15 lkX10_103 lmX10_isIn rfl rfl (Nat.le_of_ble_eq_true rfl) (by decide) (Nat.le_refl 0) (Nat.le_refl 0) (hC := sp_X10_isIn (Q := fun z m => bI (0 ≤ x2 ∧ x2 ≤ 99) = z ∧ μ = m)  ⟨rfl, rfl⟩) (fun r n2 S2 m2 hP => ?_)
    obtain ⟨⟨rfl, rfl⟩, z, rfl, rfl, rfl⟩ := hP
    refine s_if_ne dX10_laysChapter_18 (tgt := 24) (by decide) (fun cc => ?_) (fun cc => ?_)
    · have h := h.1 (bI_ne cc)
      refine s_iconst dX10_laysChapter_24 (by decide) ?_
      refine s_istore_n dX10_laysChapter_25 rfl (by decide) (L' := [vR 0, vI x1, vI x2, vI 0, vU, vU]) rfl ?_
      exact h
    · have h := h.2 (bI_eq cc)
      refine s_bipush dX10_laysChapter_21 (by decide) ?_
      exact s_ireturn dX10_laysChapter_23 (Or.inl rfl) ⟨⟨rfl, rfl⟩, _, rfl, h⟩
theorem vc_X10_laysChapter_26 {x1 x2 x3 : Int} {μ : am_M} {Q : Int → am_M → Prop} (h : (μ 1 438 ≤ x3 → ((x3 < μ 1 438 → (am_in (2 * x3)) ∧ ((am_in (439 + (2 * x3))) ∧ ((0 ≤ 439 + (2 * x3)) ∧ (439 + (2 * x3) < 470))))) ∧ (∀ v1 : Int, v1 = (if x3 < μ 1 438 then (if μ 1 ((439 + (2 * x3)).toNat) = x1 then 1 else 0) else 0) → (v1 ≠ 0 → (v1 ≠ 0 → (am_in (2 * x3)) ∧ ((am_in (439 + (2 * x3))) ∧ ((am_in ((439 + (2 * x3)) + 1)) ∧ ((0 ≤ (439 + (2 * x3)) + 1) ∧ ((439 + (2 * x3)) + 1 < 470) ∧ (∀ m2 : am_M, m2 = am_st μ 1 (am_up (μ 1) ((439 + (2 * x3)) + 1).toNat x2) → Q x3 m2))))) ∧ (v1 = 0 → at_I kR 2 mX10_laysChapter 131 [vR 0, vI x1, vI x2, vI x3, vU, vI (μ 1 438)] [] μ Q)) ∧ (v1 = 0 → (μ 1 438 ≠ 12 → (v1 ≠ 0 → (am_in (2 * x3)) ∧ ((am_in (439 + (2 * x3))) ∧ ((am_in ((439 + (2 * x3)) + 1)) ∧ ((0 ≤ (439 + (2 * x3)) + 1) ∧ ((439 + (2 * x3)) + 1 < 470) ∧ (∀ m3 : am_M, m3 = am_st μ 1 (am_up (μ 1) ((439 + (2 * x3)) + 1).toNat x2) → Q x3 m3))))) ∧ (v1 = 0 → at_I kR 2 mX10_laysChapter 131 [vR 0, vI x1, vI x2, vI x3, vU, vI (μ 1 438)] [] μ Q)) ∧ (μ 1 438 = 12 → Q (-3) μ)))) ∧ (x3 < μ 1 438 → (am_in (2 * x3)) ∧ ((am_in (439 + (2 * x3))) ∧ ((0 ≤ 439 + (2 * x3)) ∧ (439 + (2 * x3) < 470) ∧ ((x1 ≤ μ 1 ((439 + (2 * x3)).toNat) → ((x3 < μ 1 438 → (am_in (2 * x3)) ∧ ((am_in (439 + (2 * x3))) ∧ ((0 ≤ 439 + (2 * x3)) ∧ (439 + (2 * x3) < 470))))) ∧ (∀ v5 : Int, v5 = (if x3 < μ 1 438 then (if μ 1 ((439 + (2 * x3)).toNat) = x1 then 1 else 0) else 0) → (v5 ≠ 0 → (v5 ≠ 0 → (am_in (2 * x3)) ∧ ((am_in (439 + (2 * x3))) ∧ ((am_in ((439 + (2 * x3)) + 1)) ∧ ((0 ≤ (439 + (2 * x3)) + 1) ∧ ((439 + (2 * x3)) + 1 < 470) ∧ (∀ m6 : am_M, m6 = am_st μ 1 (am_up (μ 1) ((439 + (2 * x3)) + 1).toNat x2) → Q x3 m6))))) ∧ (v5 = 0 → at_I kR 2 mX10_laysChapter 131 [vR 0, vI x1, vI x2, vI x3, vU, vI (μ 1 438)] [] μ Q)) ∧ (v5 = 0 → (μ 1 438 ≠ 12 → (v5 ≠ 0 → (am_in (2 * x3)) ∧ ((am_in (439 + (2 * x3))) ∧ ((am_in ((439 + (2 * x3)) + 1)) ∧ ((0 ≤ (439 + (2 * x3)) + 1) ∧ ((439 + (2 * x3)) + 1 < 470) ∧ (∀ m7 : am_M, m7 = am_st μ 1 (am_up (μ 1) ((439 + (2 * x3)) + 1).toNat x2) → Q x3 m7))))) ∧ (v5 = 0 → at_I kR 2 mX10_laysChapter 131 [vR 0, vI x1, vI x2, vI x3, vU, vI (μ 1 438)] [] μ Q)) ∧ (μ 1 438 = 12 → Q (-3) μ)))) ∧ (μ 1 ((439 + (2 * x3)).toNat) < x1 → (am_in (x3 + 1)) ∧ (at_I kR 2 mX10_laysChapter 26 [vR 0, vI x1, vI x2, vI (x3 + 1), vU, vU] [] μ Q))))))) : at_I kR 2 mX10_laysChapter 26 [vR 0, vI x1, vI x2, vI x3, vU, vU] [] μ Q := by
  refine s_iload_n dX10_laysChapter_26 rfl rfl ?_
  refine s_aload_n dX10_laysChapter_27 rfl rfl ?_
  refine s_getR dX10_laysChapter_28 flX10_9 rn0 rk0 rfl rr0_0 ?_
  refine s_sipush dX10_laysChapter_31 (by decide) ?_
  refine s_iald (x := (μ 1 438)) dX10_laysChapter_34 rn1 rk1 rl1 (by decide) (by decide) rfl ?_
  refine s_icmp_ge dX10_laysChapter_35 (tgt := 60) (by decide) (fun cc => ?_) (fun cc => ?_)
  · have h := h.1 cc
    refine s_iload_n dX10_laysChapter_60 rfl rfl ?_
    refine s_aload_n dX10_laysChapter_61 rfl rfl ?_
    refine s_getR dX10_laysChapter_62 flX10_9 rn0 rk0 rfl rr0_0 ?_
    refine s_sipush dX10_laysChapter_65 (by decide) ?_
    refine s_iald (x := (μ 1 438)) dX10_laysChapter_68 rn1 rk1 rl1 (by decide) (by decide) rfl ?_
    obtain ⟨hsd, h⟩ := h
    have kj4 : ∀ (v1 : Int), ((v1 ≠ 0 → (v1 ≠ 0 → (am_in (2 * x3)) ∧ ((am_in (439 + (2 * x3))) ∧ ((am_in ((439 + (2 * x3)) + 1)) ∧ ((0 ≤ (439 + (2 * x3)) + 1) ∧ ((439 + (2 * x3)) + 1 < 470) ∧ (∀ m2 : am_M, m2 = am_st μ 1 (am_up (μ 1) ((439 + (2 * x3)) + 1).toNat x2) → Q x3 m2))))) ∧ (v1 = 0 → at_I kR 2 mX10_laysChapter 131 [vR 0, vI x1, vI x2, vI x3, vU, vI (μ 1 438)] [] μ Q)) ∧ (v1 = 0 → (μ 1 438 ≠ 12 → (v1 ≠ 0 → (am_in (2 * x3)) ∧ ((am_in (439 + (2 * x3))) ∧ ((am_in ((439 + (2 * x3)) + 1)) ∧ ((0 ≤ (439 + (2 * x3)) + 1) ∧ ((439 + (2 * x3)) + 1 < 470) ∧ (∀ m3 : am_M, m3 = am_st μ 1 (am_up (μ 1) ((439 + (2 * x3)) + 1).toNat x2) → Q x3 m3))))) ∧ (v1 = 0 → at_I kR 2 mX10_laysChapter 131 [vR 0, vI x1, vI x2, vI x3, vU, vI (μ 1 438)] [] μ Q)) ∧ (μ 1 438 = 12 → Q (-3) μ))) → at_I kR 2 mX10_laysChapter 93 [vR 0, vI x1, vI x2, vI x3, vU, vU] [vI v1] μ Q := by
      intro v1 h
      refine s_istore dX10_laysChapter_93 (by decide) (L' := [vR 0, vI x1, vI x2, vI x3, vI v1, vU]) rfl ?_
      refine s_iload dX10_laysChapter_95 rfl ?_
      refine s_if_ne dX10_laysChapter_97 (tgt := 116) (by decide) (fun cc => ?_) (fun cc => ?_)
      · have h := h.1 cc
        refine s_iload dX10_laysChapter_116 rfl ?_
        refine s_if_ne dX10_laysChapter_118 (tgt := 226) (by decide) (fun cc => ?_) (fun cc => ?_)
        · have h := h.1 cc
          refine s_aload_n dX10_laysChapter_226 rfl rfl ?_
          refine s_getR dX10_laysChapter_227 flX10_9 rn0 rk0 rfl rr0_0 ?_
          refine s_sipush dX10_laysChapter_230 (by decide) ?_
          refine s_iconst dX10_laysChapter_233 (by decide) ?_
          refine s_iload_n dX10_laysChapter_234 rfl rfl ?_
          obtain ⟨c, h⟩ := h
          refine s_imul dX10_laysChapter_235 (am_w_id c) ?_
          obtain ⟨c, h⟩ := h
          refine s_iadd dX10_laysChapter_236 (am_w_id c) ?_
          refine s_iconst dX10_laysChapter_237 (by decide) ?_
          obtain ⟨c, h⟩ := h
          refine s_iadd dX10_laysChapter_238 (am_w_id c) ?_
          refine s_iload_n dX10_laysChapter_239 rfl rfl ?_
          obtain ⟨c, c2, h⟩ := h
          obtain ⟨m2, hm2⟩ : ∃ x : am_M, x = am_st μ 1 (am_up (μ 1) ((439 + (2 * x3)) + 1).toNat x2) := ⟨_, rfl⟩
          have h := h m2 hm2
          refine s_iast dX10_laysChapter_240 rn1 rk1 rl1 c c2 hm2.symm ?_
          refine s_iload_n dX10_laysChapter_241 rfl rfl ?_
          exact s_ireturn dX10_laysChapter_242 (Or.inl rfl) ⟨⟨rfl, rfl⟩, _, rfl, h⟩
        · have h := h.2 cc
          refine s_aload_n dX10_laysChapter_121 rfl rfl ?_
          refine s_getR dX10_laysChapter_122 flX10_9 rn0 rk0 rfl rr0_0 ?_
          refine s_sipush dX10_laysChapter_125 (by decide) ?_
          refine s_iald (x := (μ 1 438)) dX10_laysChapter_128 rn1 rk1 rl1 (by decide) (by decide) rfl ?_
          refine s_istore dX10_laysChapter_129 (by decide) (L' := [vR 0, vI x1, vI x2, vI x3, vI v1, vI (μ 1 438)]) rfl ?_
          exact am_lesS h ⟨Or.inr rfl, Or.inr rfl, Or.inr rfl, Or.inr rfl, Or.inl rfl, Or.inr rfl, trivial⟩
      · have h := h.2 cc
        refine s_aload_n dX10_laysChapter_100 rfl rfl ?_
        refine s_getR dX10_laysChapter_101 flX10_9 rn0 rk0 rfl rr0_0 ?_
        refine s_sipush dX10_laysChapter_104 (by decide) ?_
        refine s_iald (x := (μ 1 438)) dX10_laysChapter_107 rn1 rk1 rl1 (by decide) (by decide) rfl ?_
        refine s_bipush dX10_laysChapter_108 (by decide) ?_
        refine s_icmp_ne dX10_laysChapter_110 (tgt := 116) (by decide) (fun cc => ?_) (fun cc => ?_)
        · have h := h.1 cc
          refine s_iload dX10_laysChapter_116 rfl ?_
          refine s_if_ne dX10_laysChapter_118 (tgt := 226) (by decide) (fun cc => ?_) (fun cc => ?_)
          · have h := h.1 cc
            refine s_aload_n dX10_laysChapter_226 rfl rfl ?_
            refine s_getR dX10_laysChapter_227 flX10_9 rn0 rk0 rfl rr0_0 ?_
            refine s_sipush dX10_laysChapter_230 (by decide) ?_
            refine s_iconst dX10_laysChapter_233 (by decide) ?_
            refine s_iload_n dX10_laysChapter_234 rfl rfl ?_
            obtain ⟨c, h⟩ := h
            refine s_imul dX10_laysChapter_235 (am_w_id c) ?_
            obtain ⟨c, h⟩ := h
            refine s_iadd dX10_laysChapter_236 (am_w_id c) ?_
            refine s_iconst dX10_laysChapter_237 (by decide) ?_
            obtain ⟨c, h⟩ := h
            refine s_iadd dX10_laysChapter_238 (am_w_id c) ?_
            refine s_iload_n dX10_laysChapter_239 rfl rfl ?_
            obtain ⟨c, c2, h⟩ := h
            obtain ⟨m3, hm3⟩ : ∃ x : am_M, x = am_st μ 1 (am_up (μ 1) ((439 + (2 * x3)) + 1).toNat x2) := ⟨_, rfl⟩
            have h := h m3 hm3
            refine s_iast dX10_laysChapter_240 rn1 rk1 rl1 c c2 hm3.symm ?_
            refine s_iload_n dX10_laysChapter_241 rfl rfl ?_
            exact s_ireturn dX10_laysChapter_242 (Or.inl rfl) ⟨⟨rfl, rfl⟩, _, rfl, h⟩
          · have h := h.2 cc
            refine s_aload_n dX10_laysChapter_121 rfl rfl ?_
            refine s_getR dX10_laysChapter_122 flX10_9 rn0 rk0 rfl rr0_0 ?_
            refine s_sipush dX10_laysChapter_125 (by decide) ?_
            refine s_iald (x := (μ 1 438)) dX10_laysChapter_128 rn1 rk1 rl1 (by decide) (by decide) rfl ?_
            refine s_istore dX10_laysChapter_129 (by decide) (L' := [vR 0, vI x1, vI x2, vI x3, vI v1, vI (μ 1 438)]) rfl ?_
            exact am_lesS h ⟨Or.inr rfl, Or.inr rfl, Or.inr rfl, Or.inr rfl, Or.inl rfl, Or.inr rfl, trivial⟩
        · have h := h.2 cc
          refine s_bipush dX10_laysChapter_113 (by decide) ?_
          exact s_ireturn dX10_laysChapter_115 (Or.inl rfl) ⟨⟨rfl, rfl⟩, _, rfl, h⟩
    refine s_icmp_ge dX10_laysChapter_69 (tgt := 92) (by decide) (fun cc => ?_) (fun cc => ?_)
    · have hp0 := cc
      refine s_iconst dX10_laysChapter_92 (by decide) ?_
      exact kj4 0 (h 0 (by rw [if_neg (Int.not_lt.mpr hp0)]))
    · have hp0 := cc
      have hsd := hsd hp0
      refine s_aload_n dX10_laysChapter_72 rfl rfl ?_
      refine s_getR dX10_laysChapter_73 flX10_9 rn0 rk0 rfl rr0_0 ?_
      refine s_sipush dX10_laysChapter_76 (by decide) ?_
      refine s_iconst dX10_laysChapter_79 (by decide) ?_
      refine s_iload_n dX10_laysChapter_80 rfl rfl ?_
      obtain ⟨c, hsd⟩ := hsd
      refine s_imul dX10_laysChapter_81 (am_w_id c) ?_
      obtain ⟨c, hsd⟩ := hsd
      refine s_iadd dX10_laysChapter_82 (am_w_id c) ?_
      obtain ⟨c, c2⟩ := hsd
      refine s_iald (x := (μ 1 ((439 + (2 * x3)).toNat))) dX10_laysChapter_83 rn1 rk1 rl1 c c2 rfl ?_
      refine s_iload_n dX10_laysChapter_84 rfl rfl ?_
      refine s_icmp_ne dX10_laysChapter_85 (tgt := 92) (by decide) (fun cc => ?_) (fun cc => ?_)
      · have hp1 := cc
        refine s_iconst dX10_laysChapter_92 (by decide) ?_
        exact kj4 0 (h 0 (by rw [if_pos hp0, if_neg hp1]))
      · have hp1 := cc
        refine s_iconst dX10_laysChapter_88 (by decide) ?_
        refine s_goto dX10_laysChapter_89 (tgt := 93) (by decide) ?_
        exact kj4 1 (h 1 (by rw [if_pos hp0, if_pos hp1]))
  · have h := h.2 cc
    refine s_aload_n dX10_laysChapter_38 rfl rfl ?_
    refine s_getR dX10_laysChapter_39 flX10_9 rn0 rk0 rfl rr0_0 ?_
    refine s_sipush dX10_laysChapter_42 (by decide) ?_
    refine s_iconst dX10_laysChapter_45 (by decide) ?_
    refine s_iload_n dX10_laysChapter_46 rfl rfl ?_
    obtain ⟨c, h⟩ := h
    refine s_imul dX10_laysChapter_47 (am_w_id c) ?_
    obtain ⟨c, h⟩ := h
    refine s_iadd dX10_laysChapter_48 (am_w_id c) ?_
    obtain ⟨c, c2, h⟩ := h
    refine s_iald (x := (μ 1 ((439 + (2 * x3)).toNat))) dX10_laysChapter_49 rn1 rk1 rl1 c c2 rfl ?_
    refine s_iload_n dX10_laysChapter_50 rfl rfl ?_
    refine s_icmp_ge dX10_laysChapter_51 (tgt := 60) (by decide) (fun cc => ?_) (fun cc => ?_)
    · have h := h.1 cc
      refine s_iload_n dX10_laysChapter_60 rfl rfl ?_
      refine s_aload_n dX10_laysChapter_61 rfl rfl ?_
      refine s_getR dX10_laysChapter_62 flX10_9 rn0 rk0 rfl rr0_0 ?_
      refine s_sipush dX10_laysChapter_65 (by decide) ?_
      refine s_iald (x := (μ 1 438)) dX10_laysChapter_68 rn1 rk1 rl1 (by decide) (by decide) rfl ?_
      obtain ⟨hsd, h⟩ := h
      have kj8 : ∀ (v5 : Int), ((v5 ≠ 0 → (v5 ≠ 0 → (am_in (2 * x3)) ∧ ((am_in (439 + (2 * x3))) ∧ ((am_in ((439 + (2 * x3)) + 1)) ∧ ((0 ≤ (439 + (2 * x3)) + 1) ∧ ((439 + (2 * x3)) + 1 < 470) ∧ (∀ m6 : am_M, m6 = am_st μ 1 (am_up (μ 1) ((439 + (2 * x3)) + 1).toNat x2) → Q x3 m6))))) ∧ (v5 = 0 → at_I kR 2 mX10_laysChapter 131 [vR 0, vI x1, vI x2, vI x3, vU, vI (μ 1 438)] [] μ Q)) ∧ (v5 = 0 → (μ 1 438 ≠ 12 → (v5 ≠ 0 → (am_in (2 * x3)) ∧ ((am_in (439 + (2 * x3))) ∧ ((am_in ((439 + (2 * x3)) + 1)) ∧ ((0 ≤ (439 + (2 * x3)) + 1) ∧ ((439 + (2 * x3)) + 1 < 470) ∧ (∀ m7 : am_M, m7 = am_st μ 1 (am_up (μ 1) ((439 + (2 * x3)) + 1).toNat x2) → Q x3 m7))))) ∧ (v5 = 0 → at_I kR 2 mX10_laysChapter 131 [vR 0, vI x1, vI x2, vI x3, vU, vI (μ 1 438)] [] μ Q)) ∧ (μ 1 438 = 12 → Q (-3) μ))) → at_I kR 2 mX10_laysChapter 93 [vR 0, vI x1, vI x2, vI x3, vU, vU] [vI v5] μ Q := by
        intro v5 h
        refine s_istore dX10_laysChapter_93 (by decide) (L' := [vR 0, vI x1, vI x2, vI x3, vI v5, vU]) rfl ?_
        refine s_iload dX10_laysChapter_95 rfl ?_
        refine s_if_ne dX10_laysChapter_97 (tgt := 116) (by decide) (fun cc => ?_) (fun cc => ?_)
        · have h := h.1 cc
          refine s_iload dX10_laysChapter_116 rfl ?_
          refine s_if_ne dX10_laysChapter_118 (tgt := 226) (by decide) (fun cc => ?_) (fun cc => ?_)
          · have h := h.1 cc
            refine s_aload_n dX10_laysChapter_226 rfl rfl ?_
            refine s_getR dX10_laysChapter_227 flX10_9 rn0 rk0 rfl rr0_0 ?_
            refine s_sipush dX10_laysChapter_230 (by decide) ?_
            refine s_iconst dX10_laysChapter_233 (by decide) ?_
            refine s_iload_n dX10_laysChapter_234 rfl rfl ?_
            obtain ⟨c, h⟩ := h
            refine s_imul dX10_laysChapter_235 (am_w_id c) ?_
            obtain ⟨c, h⟩ := h
            refine s_iadd dX10_laysChapter_236 (am_w_id c) ?_
            refine s_iconst dX10_laysChapter_237 (by decide) ?_
            obtain ⟨c, h⟩ := h
            refine s_iadd dX10_laysChapter_238 (am_w_id c) ?_
            refine s_iload_n dX10_laysChapter_239 rfl rfl ?_
            obtain ⟨c, c2, h⟩ := h
            obtain ⟨m6, hm6⟩ : ∃ x : am_M, x = am_st μ 1 (am_up (μ 1) ((439 + (2 * x3)) + 1).toNat x2) := ⟨_, rfl⟩
            have h := h m6 hm6
            refine s_iast dX10_laysChapter_240 rn1 rk1 rl1 c c2 hm6.symm ?_
            refine s_iload_n dX10_laysChapter_241 rfl rfl ?_
            exact s_ireturn dX10_laysChapter_242 (Or.inl rfl) ⟨⟨rfl, rfl⟩, _, rfl, h⟩
          · have h := h.2 cc
            refine s_aload_n dX10_laysChapter_121 rfl rfl ?_
            refine s_getR dX10_laysChapter_122 flX10_9 rn0 rk0 rfl rr0_0 ?_
            refine s_sipush dX10_laysChapter_125 (by decide) ?_
            refine s_iald (x := (μ 1 438)) dX10_laysChapter_128 rn1 rk1 rl1 (by decide) (by decide) rfl ?_
            refine s_istore dX10_laysChapter_129 (by decide) (L' := [vR 0, vI x1, vI x2, vI x3, vI v5, vI (μ 1 438)]) rfl ?_
            exact am_lesS h ⟨Or.inr rfl, Or.inr rfl, Or.inr rfl, Or.inr rfl, Or.inl rfl, Or.inr rfl, trivial⟩
        · have h := h.2 cc
          refine s_aload_n dX10_laysChapter_100 rfl rfl ?_
          refine s_getR dX10_laysChapter_101 flX10_9 rn0 rk0 rfl rr0_0 ?_
          refine s_sipush dX10_laysChapter_104 (by decide) ?_
          refine s_iald (x := (μ 1 438)) dX10_laysChapter_107 rn1 rk1 rl1 (by decide) (by decide) rfl ?_
          refine s_bipush dX10_laysChapter_108 (by decide) ?_
          refine s_icmp_ne dX10_laysChapter_110 (tgt := 116) (by decide) (fun cc => ?_) (fun cc => ?_)
          · have h := h.1 cc
            refine s_iload dX10_laysChapter_116 rfl ?_
            refine s_if_ne dX10_laysChapter_118 (tgt := 226) (by decide) (fun cc => ?_) (fun cc => ?_)
            · have h := h.1 cc
              refine s_aload_n dX10_laysChapter_226 rfl rfl ?_
              refine s_getR dX10_laysChapter_227 flX10_9 rn0 rk0 rfl rr0_0 ?_
              refine s_sipush dX10_laysChapter_230 (by decide) ?_
              refine s_iconst dX10_laysChapter_233 (by decide) ?_
              refine s_iload_n dX10_laysChapter_234 rfl rfl ?_
              obtain ⟨c, h⟩ := h
              refine s_imul dX10_laysChapter_235 (am_w_id c) ?_
              obtain ⟨c, h⟩ := h
              refine s_iadd dX10_laysChapter_236 (am_w_id c) ?_
              refine s_iconst dX10_laysChapter_237 (by decide) ?_
              obtain ⟨c, h⟩ := h
              refine s_iadd dX10_laysChapter_238 (am_w_id c) ?_
              refine s_iload_n dX10_laysChapter_239 rfl rfl ?_
              obtain ⟨c, c2, h⟩ := h
              obtain ⟨m7, hm7⟩ : ∃ x : am_M, x = am_st μ 1 (am_up (μ 1) ((439 + (2 * x3)) + 1).toNat x2) := ⟨_, rfl⟩
              have h := h m7 hm7
              refine s_iast dX10_laysChapter_240 rn1 rk1 rl1 c c2 hm7.symm ?_
              refine s_iload_n dX10_laysChapter_241 rfl rfl ?_
              exact s_ireturn dX10_laysChapter_242 (Or.inl rfl) ⟨⟨rfl, rfl⟩, _, rfl, h⟩
            · have h := h.2 cc
              refine s_aload_n dX10_laysChapter_121 rfl rfl ?_
              refine s_getR dX10_laysChapter_122 flX10_9 rn0 rk0 rfl rr0_0 ?_
              refine s_sipush dX10_laysChapter_125 (by decide) ?_
              refine s_iald (x := (μ 1 438)) dX10_laysChapter_128 rn1 rk1 rl1 (by decide) (by decide) rfl ?_
              refine s_istore dX10_laysChapter_129 (by decide) (L' := [vR 0, vI x1, vI x2, vI x3, vI v5, vI (μ 1 438)]) rfl ?_
              exact am_lesS h ⟨Or.inr rfl, Or.inr rfl, Or.inr rfl, Or.inr rfl, Or.inl rfl, Or.inr rfl, trivial⟩
          · have h := h.2 cc
            refine s_bipush dX10_laysChapter_113 (by decide) ?_
            exact s_ireturn dX10_laysChapter_115 (Or.inl rfl) ⟨⟨rfl, rfl⟩, _, rfl, h⟩
      refine s_icmp_ge dX10_laysChapter_69 (tgt := 92) (by decide) (fun cc => ?_) (fun cc => ?_)
      · have hp0 := cc
        refine s_iconst dX10_laysChapter_92 (by decide) ?_
        exact kj8 0 (h 0 (by rw [if_neg (Int.not_lt.mpr hp0)]))
      · have hp0 := cc
        have hsd := hsd hp0
        refine s_aload_n dX10_laysChapter_72 rfl rfl ?_
        refine s_getR dX10_laysChapter_73 flX10_9 rn0 rk0 rfl rr0_0 ?_
        refine s_sipush dX10_laysChapter_76 (by decide) ?_
        refine s_iconst dX10_laysChapter_79 (by decide) ?_
        refine s_iload_n dX10_laysChapter_80 rfl rfl ?_
        obtain ⟨c, hsd⟩ := hsd
        refine s_imul dX10_laysChapter_81 (am_w_id c) ?_
        obtain ⟨c, hsd⟩ := hsd
        refine s_iadd dX10_laysChapter_82 (am_w_id c) ?_
        obtain ⟨c, c2⟩ := hsd
        refine s_iald (x := (μ 1 ((439 + (2 * x3)).toNat))) dX10_laysChapter_83 rn1 rk1 rl1 c c2 rfl ?_
        refine s_iload_n dX10_laysChapter_84 rfl rfl ?_
        refine s_icmp_ne dX10_laysChapter_85 (tgt := 92) (by decide) (fun cc => ?_) (fun cc => ?_)
        · have hp1 := cc
          refine s_iconst dX10_laysChapter_92 (by decide) ?_
          exact kj8 0 (h 0 (by rw [if_pos hp0, if_neg hp1]))
        · have hp1 := cc
          refine s_iconst dX10_laysChapter_88 (by decide) ?_
          refine s_goto dX10_laysChapter_89 (tgt := 93) (by decide) ?_
          exact kj8 1 (h 1 (by rw [if_pos hp0, if_pos hp1]))
    · have h := h.2 cc
      obtain ⟨c, h⟩ := h
      refine s_iinc dX10_laysChapter_54 rfl (am_w_id c) (by decide) (L' := [vR 0, vI x1, vI x2, vI (x3 + 1), vU, vU]) rfl ?_
      refine s_goto dX10_laysChapter_57 (tgt := 26) (by decide) ?_
      exact h
theorem vc_X10_laysChapter_131 {x1 x2 x3 x5 : Int} {μ : am_M} {Q : Int → am_M → Prop} (h : (x5 ≤ x3 → (am_in (μ 1 438 + 1)) ∧ (∀ m1 : am_M, m1 = am_st μ 1 (am_up (μ 1) 438 (μ 1 438 + 1)) → (am_in (2 * x3)) ∧ ((am_in (439 + (2 * x3))) ∧ ((0 ≤ 439 + (2 * x3)) ∧ (439 + (2 * x3) < 470) ∧ (∀ m2 : am_M, m2 = am_st m1 1 (am_up (m1 1) (439 + (2 * x3)).toNat x1) → (am_in (2 * x3)) ∧ ((am_in (439 + (2 * x3))) ∧ ((am_in ((439 + (2 * x3)) + 1)) ∧ ((0 ≤ (439 + (2 * x3)) + 1) ∧ ((439 + (2 * x3)) + 1 < 470) ∧ (∀ m3 : am_M, m3 = am_st m2 1 (am_up (m2 1) ((439 + (2 * x3)) + 1).toNat x2) → Q x3 m3))))))))) ∧ (x3 < x5 → (am_in (2 * x5)) ∧ ((am_in (439 + (2 * x5))) ∧ ((am_in (2 * x5)) ∧ ((am_in (439 + (2 * x5))) ∧ ((am_in ((439 + (2 * x5)) - 2)) ∧ ((0 ≤ (439 + (2 * x5)) - 2) ∧ ((439 + (2 * x5)) - 2 < 470) ∧ ((0 ≤ 439 + (2 * x5)) ∧ (439 + (2 * x5) < 470) ∧ (∀ m4 : am_M, m4 = am_st μ 1 (am_up (μ 1) (439 + (2 * x5)).toNat (μ 1 (((439 + (2 * x5)) - 2).toNat))) → (am_in (2 * x5)) ∧ ((am_in (439 + (2 * x5))) ∧ ((am_in ((439 + (2 * x5)) + 1)) ∧ ((am_in (2 * x5)) ∧ ((am_in (439 + (2 * x5))) ∧ ((am_in ((439 + (2 * x5)) - 1)) ∧ ((0 ≤ (439 + (2 * x5)) - 1) ∧ ((439 + (2 * x5)) - 1 < 470) ∧ ((0 ≤ (439 + (2 * x5)) + 1) ∧ ((439 + (2 * x5)) + 1 < 470) ∧ (∀ m5 : am_M, m5 = am_st m4 1 (am_up (m4 1) ((439 + (2 * x5)) + 1).toNat (m4 1 (((439 + (2 * x5)) - 1).toNat))) → (am_in (x5 - 1)) ∧ (at_I kR 2 mX10_laysChapter 131 [vR 0, vI x1, vI x2, vI x3, vU, vI (x5 - 1)] [] m5 Q)))))))))))))))))) : at_I kR 2 mX10_laysChapter 131 [vR 0, vI x1, vI x2, vI x3, vU, vI x5] [] μ Q := by
  refine s_iload dX10_laysChapter_131 rfl ?_
  refine s_iload_n dX10_laysChapter_133 rfl rfl ?_
  refine s_icmp_le dX10_laysChapter_134 (tgt := 201) (by decide) (fun cc => ?_) (fun cc => ?_)
  · have h := h.1 cc
    refine s_aload_n dX10_laysChapter_201 rfl rfl ?_
    refine s_getR dX10_laysChapter_202 flX10_9 rn0 rk0 rfl rr0_0 ?_
    refine s_sipush dX10_laysChapter_205 (by decide) ?_
    refine s_dup2 dX10_laysChapter_208 ?_
    refine s_iald (x := (μ 1 438)) dX10_laysChapter_209 rn1 rk1 rl1 (by decide) (by decide) rfl ?_
    refine s_iconst dX10_laysChapter_210 (by decide) ?_
    obtain ⟨c, h⟩ := h
    refine s_iadd dX10_laysChapter_211 (am_w_id c) ?_
    obtain ⟨m1, hm1⟩ : ∃ x : am_M, x = am_st μ 1 (am_up (μ 1) 438 (μ 1 438 + 1)) := ⟨_, rfl⟩
    have h := h m1 hm1
    refine s_iast dX10_laysChapter_212 rn1 rk1 rl1 (by decide) (by decide) hm1.symm ?_
    refine s_aload_n dX10_laysChapter_213 rfl rfl ?_
    refine s_getR dX10_laysChapter_214 flX10_9 rn0 rk0 rfl rr0_0 ?_
    refine s_sipush dX10_laysChapter_217 (by decide) ?_
    refine s_iconst dX10_laysChapter_220 (by decide) ?_
    refine s_iload_n dX10_laysChapter_221 rfl rfl ?_
    obtain ⟨c, h⟩ := h
    refine s_imul dX10_laysChapter_222 (am_w_id c) ?_
    obtain ⟨c, h⟩ := h
    refine s_iadd dX10_laysChapter_223 (am_w_id c) ?_
    refine s_iload_n dX10_laysChapter_224 rfl rfl ?_
    obtain ⟨c, c2, h⟩ := h
    obtain ⟨m2, hm2⟩ : ∃ x : am_M, x = am_st m1 1 (am_up (m1 1) (439 + (2 * x3)).toNat x1) := ⟨_, rfl⟩
    have h := h m2 hm2
    refine s_iast dX10_laysChapter_225 rn1 rk1 rl1 c c2 hm2.symm ?_
    refine s_aload_n dX10_laysChapter_226 rfl rfl ?_
    refine s_getR dX10_laysChapter_227 flX10_9 rn0 rk0 rfl rr0_0 ?_
    refine s_sipush dX10_laysChapter_230 (by decide) ?_
    refine s_iconst dX10_laysChapter_233 (by decide) ?_
    refine s_iload_n dX10_laysChapter_234 rfl rfl ?_
    obtain ⟨c, h⟩ := h
    refine s_imul dX10_laysChapter_235 (am_w_id c) ?_
    obtain ⟨c, h⟩ := h
    refine s_iadd dX10_laysChapter_236 (am_w_id c) ?_
    refine s_iconst dX10_laysChapter_237 (by decide) ?_
    obtain ⟨c, h⟩ := h
    refine s_iadd dX10_laysChapter_238 (am_w_id c) ?_
    refine s_iload_n dX10_laysChapter_239 rfl rfl ?_
    obtain ⟨c, c2, h⟩ := h
    obtain ⟨m3, hm3⟩ : ∃ x : am_M, x = am_st m2 1 (am_up (m2 1) ((439 + (2 * x3)) + 1).toNat x2) := ⟨_, rfl⟩
    have h := h m3 hm3
    refine s_iast dX10_laysChapter_240 rn1 rk1 rl1 c c2 hm3.symm ?_
    refine s_iload_n dX10_laysChapter_241 rfl rfl ?_
    exact s_ireturn dX10_laysChapter_242 (Or.inl rfl) ⟨⟨rfl, rfl⟩, _, rfl, h⟩
  · have h := h.2 cc
    refine s_aload_n dX10_laysChapter_137 rfl rfl ?_
    refine s_getR dX10_laysChapter_138 flX10_9 rn0 rk0 rfl rr0_0 ?_
    refine s_sipush dX10_laysChapter_141 (by decide) ?_
    refine s_iconst dX10_laysChapter_144 (by decide) ?_
    refine s_iload dX10_laysChapter_145 rfl ?_
    obtain ⟨c, h⟩ := h
    refine s_imul dX10_laysChapter_147 (am_w_id c) ?_
    obtain ⟨c, h⟩ := h
    refine s_iadd dX10_laysChapter_148 (am_w_id c) ?_
    refine s_aload_n dX10_laysChapter_149 rfl rfl ?_
    refine s_getR dX10_laysChapter_150 flX10_9 rn0 rk0 rfl rr0_0 ?_
    refine s_sipush dX10_laysChapter_153 (by decide) ?_
    refine s_iconst dX10_laysChapter_156 (by decide) ?_
    refine s_iload dX10_laysChapter_157 rfl ?_
    obtain ⟨c, h⟩ := h
    refine s_imul dX10_laysChapter_159 (am_w_id c) ?_
    obtain ⟨c, h⟩ := h
    refine s_iadd dX10_laysChapter_160 (am_w_id c) ?_
    refine s_iconst dX10_laysChapter_161 (by decide) ?_
    obtain ⟨c, h⟩ := h
    refine s_isub dX10_laysChapter_162 (am_w_id c) ?_
    obtain ⟨c, c2, h⟩ := h
    refine s_iald (x := (μ 1 (((439 + (2 * x5)) - 2).toNat))) dX10_laysChapter_163 rn1 rk1 rl1 c c2 rfl ?_
    obtain ⟨c, c2, h⟩ := h
    obtain ⟨m4, hm4⟩ : ∃ x : am_M, x = am_st μ 1 (am_up (μ 1) (439 + (2 * x5)).toNat (μ 1 (((439 + (2 * x5)) - 2).toNat))) := ⟨_, rfl⟩
    have h := h m4 hm4
    refine s_iast dX10_laysChapter_164 rn1 rk1 rl1 c c2 hm4.symm ?_
    refine s_aload_n dX10_laysChapter_165 rfl rfl ?_
    refine s_getR dX10_laysChapter_166 flX10_9 rn0 rk0 rfl rr0_0 ?_
    refine s_sipush dX10_laysChapter_169 (by decide) ?_
    refine s_iconst dX10_laysChapter_172 (by decide) ?_
    refine s_iload dX10_laysChapter_173 rfl ?_
    obtain ⟨c, h⟩ := h
    refine s_imul dX10_laysChapter_175 (am_w_id c) ?_
    obtain ⟨c, h⟩ := h
    refine s_iadd dX10_laysChapter_176 (am_w_id c) ?_
    refine s_iconst dX10_laysChapter_177 (by decide) ?_
    obtain ⟨c, h⟩ := h
    refine s_iadd dX10_laysChapter_178 (am_w_id c) ?_
    refine s_aload_n dX10_laysChapter_179 rfl rfl ?_
    refine s_getR dX10_laysChapter_180 flX10_9 rn0 rk0 rfl rr0_0 ?_
    refine s_sipush dX10_laysChapter_183 (by decide) ?_
    refine s_iconst dX10_laysChapter_186 (by decide) ?_
    refine s_iload dX10_laysChapter_187 rfl ?_
    obtain ⟨c, h⟩ := h
    refine s_imul dX10_laysChapter_189 (am_w_id c) ?_
    obtain ⟨c, h⟩ := h
    refine s_iadd dX10_laysChapter_190 (am_w_id c) ?_
    refine s_iconst dX10_laysChapter_191 (by decide) ?_
    obtain ⟨c, h⟩ := h
    refine s_isub dX10_laysChapter_192 (am_w_id c) ?_
    obtain ⟨c, c2, h⟩ := h
    refine s_iald (x := (m4 1 (((439 + (2 * x5)) - 1).toNat))) dX10_laysChapter_193 rn1 rk1 rl1 c c2 rfl ?_
    obtain ⟨c, c2, h⟩ := h
    obtain ⟨m5, hm5⟩ : ∃ x : am_M, x = am_st m4 1 (am_up (m4 1) ((439 + (2 * x5)) + 1).toNat (m4 1 (((439 + (2 * x5)) - 1).toNat))) := ⟨_, rfl⟩
    have h := h m5 hm5
    refine s_iast dX10_laysChapter_194 rn1 rk1 rl1 c c2 hm5.symm ?_
    obtain ⟨c, h⟩ := h
    refine s_iinc dX10_laysChapter_195 rfl (am_w_id c) (by decide) (L' := [vR 0, vI x1, vI x2, vI x3, vU, vI (x5 - 1)]) rfl ?_
    refine s_goto dX10_laysChapter_198 (tgt := 131) (by decide) ?_
    exact h
theorem ve_X10_laysChapter {x1 x2 : Int} {μ : am_M} {Q : Int → am_M → Prop} (h : at_I kR 2 mX10_laysChapter 0 [vR 0, vI x1, vI x2, vU, vU, vU] [] μ Q) : cl_I kR 2 mX10_laysChapter [vR 0, vI x1, vI x2] μ Q := am_intro pmX10_laysChapter (Nat.le_of_ble_eq_true rfl) rfl h
theorem sp_X10_laysChapter {f t : Int} {μ : am_M} (H : Hl) (h : hz_ μ H) (hl : H.length ≤ 12) : cl_I kR 2 mX10_laysChapter [vR 0, vI f, vI t] μ (fun z m => z = (h_ent H f t).1 ∧ fr_ [1] μ m ∧ fh_ μ m ∧ hz_ m (h_ent H f t).2) := by
  have hb := bef_aft f H
  have hlen : H.length = (bef_ f H).length + (aft_ f H).length := by rw [← congrArg List.length hb]; simp
  have hn := h.1
  have bad : ∀ z, (f < 0 ∨ 600 ≤ f ∨ t < 0 ∨ 99 < t) → z = (-2 : Int) → z = (h_ent H f t).1 ∧ fr_ [1] μ μ ∧ fh_ μ μ ∧ hz_ μ (h_ent H f t).2 := fun z h1 h2 => by
    rw [show h_ent H f t = (-2, H) from cif_t h1]
    exact ⟨h2, fr_rf, fh_rf, h⟩
  refine ve_X10_laysChapter (vc_X10_laysChapter_0 ⟨fun c => bad _ (by omega) rfl, fun c1 => ⟨fun c2 => ?_, fun c => bad _ (by omega) rfl⟩⟩)
  have ee : h_ent H f t = _ := cif_f (by omega)
  -- a new chapter
  have new : H.length < 12 → (∀ p B, aft_ f H = p :: B → p.1 ≠ f) → at_I kR 2 mX10_laysChapter 131 [vR 0, vI f, vI t, vI (bef_ f H).length, vU, vI (μ 1 438)] [] μ (fun z m => z = (h_ent H f t).1 ∧ fr_ [1] μ m ∧ fh_ μ m ∧ hz_ m (h_ent H f t).2) := by
    intro h12 hne
    have eR : h_ent H f t = (((bef_ f H).length : Int), bef_ f H ++ (f, t) :: aft_ f H) := by
      rw [ee]
      cases hc : aft_ f H with
      | nil => simp only; rw [if_neg (by omega)]
      | cons p B => simp only; rw [if_neg (hne p B hc), if_neg (by omega)]
    rw [eR]
    have : ∀ (j : Nat) (x : Int) (m : am_M), x - j = (bef_ f H).length → x ≤ μ 1 438 → fr_ [1] μ m → (∀ i : Nat, ((i : Int) < 439 + 2 * (x + 1) ∨ 439 + 2 * (μ 1 438 + 1) ≤ i) → m 1 i = μ 1 i) → (∀ i : Nat, 439 + 2 * (x + 1) ≤ (i : Int) → (i : Int) < 439 + 2 * (μ 1 438 + 1) → m 1 i = μ 1 (i - 2)) → at_I kR 2 mX10_laysChapter 131 [vR 0, vI f, vI t, vI (bef_ f H).length, vU, vI x] [] m (fun z m => z = ((bef_ f H).length : Int) ∧ fr_ [1] μ m ∧ fh_ μ m ∧ hz_ m (bef_ f H ++ (f, t) :: aft_ f H)) := by
      intro j
      induction j with
      | zero =>
        intro x m hx xn hf h1 h2
        have e438 : m 1 438 = μ 1 438 := h1 438 (by omega)
        refine vc_X10_laysChapter_131 ⟨fun _ => ⟨(by (try unfold am_in); (try unfold in_ at *); omega), fun m1 e1 => ⟨(by (try unfold am_in); (try unfold in_ at *); omega), (by (try unfold am_in); (try unfold in_ at *); omega), by omega, by omega, fun m2 e2 => ⟨(by (try unfold am_in); (try unfold in_ at *); omega), (by (try unfold am_in); (try unfold in_ at *); omega), (by (try unfold am_in); (try unfold in_ at *); omega), by omega, by omega, fun m3 e3 => ⟨rfl, ?_, fun i i0 hi => ?_, ?_, fun i q hi => ?_⟩⟩⟩⟩, fun q => by omega⟩
        · rw [e3, e2, e1]; exact fr_tr hf (fr_tr (fr_st (by simp)) (fr_tr (fr_st (by simp)) (fr_st (by simp))))
        · rw [e3, st_s, up_n (by omega), e2, st_s, up_n (by omega), e1, st_s, up_n i0]
          exact h1 i (by omega)
        · rw [e3, st_s, up_n (by omega), e2, st_s, up_n (by omega), e1, st_s, up_s, e438, List.length_append, List.length_cons]
          omega
        · have il := (List.getElem?_eq_some_iff.mp hi).1
          rw [List.length_append, List.length_cons] at il
          show m3 1 (439 + 2 * i) = q.1 ∧ m3 1 (439 + 2 * i + 1) = q.2
          by_cases q1 : i = (bef_ f H).length
          · subst q1
            simp at hi
            subst hi
            refine ⟨?_, ?_⟩
            · rw [e3, st_s, up_n (by omega), e2, st_s, show (439 + (2 * ((bef_ f H).length : Int))).toNat = 439 + 2 * (bef_ f H).length by omega, up_s]
            · rw [e3, st_s, show ((439 + (2 * ((bef_ f H).length : Int))) + 1).toNat = 439 + 2 * (bef_ f H).length + 1 by omega, up_s]
          · rw [e3, st_s, up_n (by omega), up_n (by omega), e2, st_s, up_n (by omega), up_n (by omega), e1, st_s, up_n (by omega), up_n (by omega)]
            by_cases q2 : i < (bef_ f H).length
            · rw [List.getElem?_append_left q2] at hi
              rw [h1 _ (by omega), h1 _ (by omega)]
              exact h.2 i q (by rw [← hb, List.getElem?_append_left q2]; exact hi)
            · rw [List.getElem?_append_right (by omega), show i - (bef_ f H).length = (i - 1 - (bef_ f H).length) + 1 by omega, List.getElem?_cons_succ] at hi
              rw [h2 _ (by omega) (by omega), h2 _ (by omega) (by omega)]
              have := h.2 (i - 1) q (by rw [← hb, List.getElem?_append_right (by omega)]; exact hi)
              rw [show 439 + 2 * i - 2 = 439 + 2 * (i - 1) by omega, show 439 + 2 * i + 1 - 2 = 439 + 2 * (i - 1) + 1 by omega]
              exact this
      | succ j ih =>
        intro x m hx xn hf h1 h2
        refine vc_X10_laysChapter_131 ⟨fun q => by omega, fun q => ⟨(by (try unfold am_in); (try unfold in_ at *); omega), (by (try unfold am_in); (try unfold in_ at *); omega), (by (try unfold am_in); (try unfold in_ at *); omega), (by (try unfold am_in); (try unfold in_ at *); omega), (by (try unfold am_in); (try unfold in_ at *); omega), by omega, by omega, by omega, by omega, fun m2 e2 => ⟨(by (try unfold am_in); (try unfold in_ at *); omega), (by (try unfold am_in); (try unfold in_ at *); omega), (by (try unfold am_in); (try unfold in_ at *); omega), (by (try unfold am_in); (try unfold in_ at *); omega), (by (try unfold am_in); (try unfold in_ at *); omega), (by (try unfold am_in); (try unfold in_ at *); omega), by omega, by omega, by omega, by omega, fun m3 e3 => ⟨(by (try unfold am_in); (try unfold in_ at *); omega), ih (x - 1) m3 (by omega) (by omega) ?_ (fun i hi => ?_) (fun i i0 i1 => ?_)⟩⟩⟩⟩
        · rw [e3, e2]; exact fr_tr hf (fr_tr (fr_st (by simp)) (fr_st (by simp)))
        · rw [e3, st_s, up_n (by omega), e2, st_s, up_n (by omega)]
          exact h1 i (by omega)
        · have g1 := h1 ((439 + (2 * x)) - 2).toNat (by omega)
          have g2 := h1 ((439 + (2 * x)) - 1).toNat (by omega)
          have g2' : m2 1 ((439 + (2 * x)) - 1).toNat = μ 1 ((439 + (2 * x)) - 1).toNat := by rw [e2, st_s, up_n (by omega), g2]
          rw [e3, st_s]
          by_cases c2 : i = ((439 + (2 * x)) + 1).toNat
          · rw [c2, up_s, g2']
            congr 1
            omega
          · rw [up_n c2, e2, st_s]
            by_cases c3 : i = (439 + (2 * x)).toNat
            · rw [c3, up_s, g1]
              congr 1
              omega
            · rw [up_n c3]
              exact h2 i (by omega) i1
    exact this (μ 1 438 - (bef_ f H).length).toNat (μ 1 438) μ (by omega) (by omega) fr_rf (fun i _ => rfl) (fun i i0 i1 => by omega)
  have old : ∀ (p : Int × Int) (B : Hl) (m : am_M), aft_ f H = p :: B → p.1 = f → m = am_st μ 1 (am_up (μ 1) ((439 + (2 * ((bef_ f H).length : Int))) + 1).toNat t) → ((bef_ f H).length : Int) = (h_ent H f t).1 ∧ fr_ [1] μ m ∧ fh_ μ m ∧ hz_ m (h_ent H f t).2 := fun p B m hp hpf e => by
    have eR : h_ent H f t = (((bef_ f H).length : Int), bef_ f H ++ (f, t) :: B) := by
      rw [ee, hp]
      simp only
      rw [if_pos hpf]
    rw [hp] at hb hlen
    rw [eR]
    simp at hlen
    refine ⟨rfl, by rw [e]; exact fr_st (by simp), fun i i0 i1 => by rw [e, st_s, up_n (by omega)], by rw [e, st_s, up_n (by omega), hn, hlen]; simp, fun i q hi => ?_⟩
    show m 1 (439 + 2 * i) = q.1 ∧ m 1 (439 + 2 * i + 1) = q.2
    by_cases q1 : i = (bef_ f H).length
    · subst q1
      simp at hi
      subst hi
      have h' : hz_ μ (bef_ f H ++ p :: B) := by rw [hb]; exact h
      have := h'.2 (bef_ f H).length p (by simp)
      rw [e, st_s, up_n (by omega), show ((439 + (2 * ((bef_ f H).length : Int))) + 1).toNat = 439 + 2 * (bef_ f H).length + 1 by omega, up_s]
      exact ⟨this.1.trans hpf, rfl⟩
    · rw [e, st_s, up_n (by omega), up_n (by omega)]
      refine h.2 i q ?_
      rw [← hb]
      by_cases q2 : i < (bef_ f H).length
      · rw [List.getElem?_append_left q2] at hi ⊢
        exact hi
      · rw [List.getElem?_append_right (by omega), show i - (bef_ f H).length = (i - (bef_ f H).length - 1) + 1 by omega, List.getElem?_cons_succ] at hi ⊢
        exact hi
  have full : 12 ≤ H.length → (∀ p B, aft_ f H = p :: B → p.1 ≠ f) → (-3 : Int) = (h_ent H f t).1 ∧ fr_ [1] μ μ ∧ fh_ μ μ ∧ hz_ μ (h_ent H f t).2 := fun h12 hne => by
    have eR : h_ent H f t = (-3, H) := by
      rw [ee]
      cases hc : aft_ f H with
      | nil => simp only; rw [if_pos h12]
      | cons p B => simp only; rw [if_neg (hne p B hc), if_pos h12]
    rw [eR]
    exact ⟨rfl, fr_rf, fh_rf, h⟩
  have : ∀ (B A : Hl) (x : Int), H = A ++ B → x = A.length → bef_ f H = A ++ bef_ f B → aft_ f H = aft_ f B → at_I kR 2 mX10_laysChapter 26 [vR 0, vI f, vI t, vI x, vU, vU] [] μ (fun z m => z = (h_ent H f t).1 ∧ fr_ [1] μ m ∧ fh_ μ m ∧ hz_ m (h_ent H f t).2) := by
    intro B
    induction B with
    | nil =>
      intro A x hA hx h1 h2
      have h2' : aft_ f H = [] := h2
      have h1' : bef_ f H = A := by rw [h1]; simp [bef_]
      have ex : x = (bef_ f H).length := by rw [h1', hx]
      have nm : μ 1 438 = x := by rw [hn, hA, hx]; simp
      have ne : ∀ p B, aft_ f H = p :: B → p.1 ≠ f := fun p B e => by rw [h2'] at e; exact absurd e (by simp)
      refine vc_X10_laysChapter_26 ⟨fun _ => ⟨fun q => by omega, fun v1 hv => ?_⟩, fun q => by omega⟩
      rw [if_neg (by omega)] at hv
      refine ⟨fun q => absurd hv q, fun _ => ⟨fun q => ⟨fun w => absurd hv w, fun _ => ?_⟩, fun q => full (by omega) ne⟩⟩
      rw [ex]
      exact new (by omega) ne
    | cons p B ih =>
      intro A x hA hx h1 h2
      have h' := h
      rw [hA] at h'
      have v := hz_at h' hx
      have nn := hz_len h'
      rw [bef_c] at h1
      rw [aft_c] at h2
      refine vc_X10_laysChapter_26 ⟨fun q => by omega, fun q => ⟨(by (try unfold am_in); (try unfold in_ at *); omega), (by (try unfold am_in); (try unfold in_ at *); omega), by omega, by omega, ?_⟩⟩
      rw [v.1]
      refine ⟨fun c => ⟨fun _ => ⟨(by (try unfold am_in); (try unfold in_ at *); omega), (by (try unfold am_in); (try unfold in_ at *); omega), by omega, by omega⟩, fun v5 hv => ?_⟩, fun c => ⟨(by (try unfold am_in); (try unfold in_ at *); omega), ?_⟩⟩
      · rw [if_neg (by omega)] at h1 h2
        have ex : x = (bef_ f H).length := by rw [h1, hx]; simp
        rw [if_pos q] at hv
        by_cases cf : p.1 = f
        · rw [if_pos cf] at hv
          refine ⟨fun _ => ⟨fun _ => ⟨(by (try unfold am_in); (try unfold in_ at *); omega), (by (try unfold am_in); (try unfold in_ at *); omega), (by (try unfold am_in); (try unfold in_ at *); omega), by omega, by omega, fun m6 e6 => ?_⟩, fun w => by omega⟩, fun w => by omega⟩
          rw [ex] at e6 ⊢
          exact old p B m6 h2 cf e6
        · rw [if_neg cf] at hv
          have ne : ∀ p B, aft_ f H = p :: B → p.1 ≠ f := fun p' B' e => by
            rw [h2] at e
            cases e
            exact cf
          refine ⟨fun w => absurd hv w, fun _ => ⟨fun w => ⟨fun w2 => absurd hv w2, fun _ => ?_⟩, fun w => full (by omega) ne⟩⟩
          rw [ex]
          exact new (by omega) ne
      · rw [if_pos c] at h1 h2
        exact ih (A ++ [p]) (x + 1) (by rw [hA]; simp) (by simp; omega) (by rw [h1]; simp) h2
  exact this H [] 0 (by simp) rfl (by simp) rfl

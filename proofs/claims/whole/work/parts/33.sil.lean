/-! the class's silences -/
abbrev Sl : Type := List (Int × Int)
def ss_ (F : Int → Int) (v n : Int) (a : Int × Sl) (f : Int) : Int × Sl := if F f < v then (a.1 + 1, a.2) else (0, if n ≤ a.1 then a.2 ++ [(f - a.1, a.1)] else a.2)
def sl_ (F : Int → Int) (v n k : Int) : Int × Sl := fI (ss_ F v n) (0, []) k
/-- the silences before an end -/
def sil_ (F : Int → Int) (v n e : Int) : Sl := if n ≤ (sl_ F v n e).1 then (sl_ F v n e).2 ++ [(e - (sl_ F v n e).1, (sl_ F v n e).1)] else (sl_ F v n e).2
theorem sl_b {F : Int → Int} {v n k : Int} (hn : 1 ≤ n) (hk : 0 ≤ k) : 2 * ((sl_ F v n k).2.length : Int) + (sl_ F v n k).1 ≤ k ∧ 0 ≤ (sl_ F v n k).1 ∧ ∀ p ∈ (sl_ F v n k).2, 0 ≤ p.1 ∧ n ≤ p.2 ∧ p.1 + p.2 ≤ k := by
  refine fI_i (fun (a : Int × Sl) i => 2 * (a.2.length : Int) + a.1 ≤ i ∧ 0 ≤ a.1 ∧ ∀ p ∈ a.2, 0 ≤ p.1 ∧ n ≤ p.2 ∧ p.1 + p.2 ≤ i) ⟨by simp, by simp, by simp⟩ hk (fun i a i0 i1 ⟨h1, h2, h3⟩ => ?_)
  unfold ss_
  split
  · exact ⟨by simp only; omega, by simp only; omega, fun p hp => by have := h3 p hp; omega⟩
  · refine ⟨?_, by simp, fun p hp => ?_⟩
    · simp only
      split
      · rw [List.length_append]; simp only [List.length_cons, List.length_nil]; omega
      · omega
    · simp only at hp
      split at hp
      · rcases List.mem_append.mp hp with h | h
        · have := h3 p h; omega
        · have : p = (i - a.1, a.1) := by simpa using h
          subst this
          simp only
          omega
      · have := h3 p hp; omega
/-- what was found stands -/
def fo6_ (m : am_M) (L : Sl) : Prop := m 148 4 = L.length ∧ ∀ (i : Nat) (p : Int × Int), L[i]? = some p → m 149 i = p.1 ∧ m 150 i = p.2
theorem vc_X6_add_0 {x1 x2 x3 : Int} {μ : am_M} {Q : am_M → Prop} (h : (x2 < x3 → Q μ) ∧ (x3 ≤ x2 → (300 ≤ μ 148 4 → Q μ) ∧ (μ 148 4 < 300 → (0 ≤ μ 148 4) ∧ (μ 148 4 < 300) ∧ (∀ m1 : am_M, m1 = am_st μ 149 (am_up (μ 149) (μ 148 4).toNat x1) → (0 ≤ μ 148 4) ∧ (μ 148 4 < 300) ∧ (∀ m2 : am_M, m2 = am_st m1 150 (am_up (m1 150) (μ 148 4).toNat x2) → (am_in (μ 148 4 + 1)) ∧ (∀ m3 : am_M, m3 = am_st m2 148 (am_up (m2 148) 4 (μ 148 4 + 1)) → Q m3)))))) : at_V kC 1 mX6_add 0 [vR 148, vI x1, vI x2, vI x3] [] μ Q := by
  refine s_iload_n dX6_add_0 rfl rfl ?_
  refine s_iload_n dX6_add_1 rfl rfl ?_
  refine s_icmp_lt dX6_add_2 (tgt := 45) (by decide) (fun cc => ?_) (fun cc => ?_)
  · have h := h.1 cc
    exact s_return dX6_add_45 rfl ⟨⟨rfl, rfl⟩, rfl, h⟩
  · have h := h.2 cc
    refine s_aload_n dX6_add_5 rfl rfl ?_
    refine s_getI (x := (μ 148 4)) dX6_add_6 flX6_38 kn148 kk148 rfl rfl ?_
    refine s_sipush dX6_add_9 (by decide) ?_
    refine s_icmp_ge dX6_add_12 (tgt := 45) (by decide) (fun cc => ?_) (fun cc => ?_)
    · have h := h.1 cc
      exact s_return dX6_add_45 rfl ⟨⟨rfl, rfl⟩, rfl, h⟩
    · have h := h.2 cc
      refine s_aload_n dX6_add_15 rfl rfl ?_
      refine s_getR dX6_add_16 flX6_9 kn148 kk148 rfl kr148_2 ?_
      refine s_aload_n dX6_add_19 rfl rfl ?_
      refine s_getI (x := (μ 148 4)) dX6_add_20 flX6_38 kn148 kk148 rfl rfl ?_
      refine s_iload_n dX6_add_23 rfl rfl ?_
      obtain ⟨c, c2, h⟩ := h
      obtain ⟨m1, hm1⟩ : ∃ x : am_M, x = am_st μ 149 (am_up (μ 149) (μ 148 4).toNat x1) := ⟨_, rfl⟩
      have h := h m1 hm1
      refine s_iast dX6_add_24 kn149 kk149 kl149 c c2 hm1.symm ?_
      refine s_aload_n dX6_add_25 rfl rfl ?_
      refine s_getR dX6_add_26 flX6_15 kn148 kk148 rfl kr148_3 ?_
      refine s_aload_n dX6_add_29 rfl rfl ?_
      refine s_getI (x := (μ 148 4)) dX6_add_30 flX6_38 kn148 kk148 rfl (by subst hm1; rfl) ?_
      refine s_iload_n dX6_add_33 rfl rfl ?_
      obtain ⟨c, c2, h⟩ := h
      obtain ⟨m2, hm2⟩ : ∃ x : am_M, x = am_st m1 150 (am_up (m1 150) (μ 148 4).toNat x2) := ⟨_, rfl⟩
      have h := h m2 hm2
      refine s_iast dX6_add_34 kn150 kk150 kl150 c c2 hm2.symm ?_
      refine s_aload_n dX6_add_35 rfl rfl ?_
      refine s_dup dX6_add_36 ?_
      refine s_getI (x := (μ 148 4)) dX6_add_37 flX6_38 kn148 kk148 rfl (by subst hm2; subst hm1; rfl) ?_
      refine s_iconst dX6_add_40 (by decide) ?_
      obtain ⟨c, h⟩ := h
      refine s_iadd dX6_add_41 (am_w_id c) ?_
      obtain ⟨m3, hm3⟩ : ∃ x : am_M, x = am_st m2 148 (am_up (m2 148) 4 (μ 148 4 + 1)) := ⟨_, rfl⟩
      have h := h m3 hm3
      refine s_putI dX6_add_42 flX6_38 kn148 kk148 rfl rfl (Or.inl rfl) hm3.symm ?_
      exact s_return dX6_add_45 rfl ⟨⟨rfl, rfl⟩, rfl, h⟩
theorem ve_X6_add {x1 x2 x3 : Int} {μ : am_M} {Q : am_M → Prop} (h : at_V kC 1 mX6_add 0 [vR 148, vI x1, vI x2, vI x3] [] μ Q) : cl_V kC 1 mX6_add [vR 148, vI x1, vI x2, vI x3] μ Q := am_intro pmX6_add (Nat.le_of_ble_eq_true rfl) rfl h
theorem sp_X6_add {μ : am_M} {a l n : Int} (L : Sl) (h : fo6_ μ L) (hl : n ≤ l → L.length < 300) : cl_V kC 1 mX6_add [vR 148, vI a, vI l, vI n] μ (fun m => fr_ [148, 149, 150] μ m ∧ fo6_ m (if n ≤ l then L ++ [(a, l)] else L)) := by
  have h1 := h.1
  refine ve_X6_add (vc_X6_add_0 ⟨fun q => ⟨fr_rf, by rw [if_neg (by omega)]; exact h⟩, fun q => ⟨fun q2 => by have := hl q; omega, fun q2 => ⟨by omega, q2, fun m1 e1 => ⟨by omega, q2, fun m2 e2 => ⟨(by (try unfold am_in); (try unfold in_ at *); omega), fun m3 e3 => ⟨?_, ?_⟩⟩⟩⟩⟩⟩)
  · rw [e3, e2, e1]; exact fr_tr (fr_tr (fr_st (by simp)) (fr_st (by simp))) (fr_st (by simp))
  · rw [if_pos q]
    refine ⟨by rw [e3, st_s, up_s, h1]; simp, fun i p hi => ?_⟩
    have x9 : m3 149 = am_up (μ 149) L.length a := by rw [e3, st_n (by decide), e2, st_n (by decide), e1, st_s, h1]; rfl
    have x0 : m3 150 = am_up (μ 150) L.length l := by rw [e3, st_n (by decide), e2, st_s, e1, st_n (by decide), h1]; rfl
    rw [x9, x0]
    by_cases q1 : i < L.length
    · rw [up_n (by omega), up_n (by omega)]
      rw [List.getElem?_append_left q1] at hi
      exact h.2 i p hi
    · have hl2 := (List.getElem?_eq_some_iff.mp hi).1
      simp at hl2
      have : i = L.length := by omega
      subst this
      simp at hi
      subst hi
      rw [up_s, up_s]
      exact ⟨rfl, rfl⟩
theorem vc_X6_find_0 {x1 x2 : Int} {μ : am_M} {Q : am_M → Prop} (h : (ok_T (cg μ) (μ 5 1)) ∧ (∀ m1 : am_M, m1 = am_st μ 148 (am_up (μ 148) 4 0) → at_V kC 4 mX6_find 22 [vR 148, vI x1, vI x2, vI (la_ (cg μ) (μ 5 1)), vI 0, vI 0] [] m1 Q)) : at_V kC 4 mX6_find 0 [vR 148, vI x1, vI x2, vU, vU, vU] [] μ Q := by
  refine s_aload_n dX6_find_0 rfl rfl ?_
  refine s_getR dX6_find_1 flX6_18 kn148 kk148 rfl kr148_0 ?_
  refine s_getR dX6_find_4 flX6_26 kn1 kk1 rfl kr1_3 ?_
  obtain ⟨p0, h⟩ := h
  refine s_callV (As := []) (rest := []) (k := 5) dX6_find_7 lkX6_32 kn5 ⟨by rw [kk5]; rfl, by rw [kk5]; decide⟩ lmX1_lastEnd rfl rfl (Nat.le_of_ble_eq_true rfl) (by decide) (Nat.le_refl 0) (Nat.le_refl 0) (hC := sp_X1_lastEnd (Q := fun z m => la_ (cg μ) (μ 5 1) = z ∧ μ = m) p0 ⟨rfl, rfl⟩) (fun r n2 S2 m2 hP => ?_)
  obtain ⟨⟨rfl, rfl⟩, z, rfl, rfl, rfl⟩ := hP
  refine s_istore_n dX6_find_10 rfl (by decide) (L' := [vR 148, vI x1, vI x2, vI (la_ (cg μ) (μ 5 1)), vU, vU]) rfl ?_
  refine s_iconst dX6_find_11 (by decide) ?_
  refine s_istore dX6_find_12 (by decide) (L' := [vR 148, vI x1, vI x2, vI (la_ (cg μ) (μ 5 1)), vI 0, vU]) rfl ?_
  refine s_aload_n dX6_find_14 rfl rfl ?_
  refine s_iconst dX6_find_15 (by decide) ?_
  obtain ⟨m1, hm1⟩ : ∃ x : am_M, x = am_st μ 148 (am_up (μ 148) 4 0) := ⟨_, rfl⟩
  have h := h m1 hm1
  refine s_putI dX6_find_16 flX6_38 kn148 kk148 rfl rfl (Or.inl rfl) hm1.symm ?_
  refine s_iconst dX6_find_19 (by decide) ?_
  refine s_istore dX6_find_20 (by decide) (L' := [vR 148, vI x1, vI x2, vI (la_ (cg μ) (μ 5 1)), vI 0, vI 0]) rfl ?_
  exact h
theorem vc_X6_find_22 {x1 x2 x3 x4 x5 : Int} {μ : am_M} {Q : am_M → Prop} (h : (x3 ≤ x5 → (am_in (x3 - x4)) ∧ (∃ P : am_M → Prop, cl_V kC 1 mX6_add [vR 148, vI (x3 - x4), vI x4, vI x2] μ P ∧ (∀ m2 : am_M, P m2 → Q m2))) ∧ (x5 < x3 → (vC μ) ∧ (sk_ μ (fun f => suC μ f 4)) ∧ (in_ 0 600 x5) ∧ ((x1 ≤ mixC μ x5 → (am_in (x5 - x4)) ∧ (∃ P : am_M → Prop, cl_V kC 1 mX6_add [vR 148, vI (x5 - x4), vI x4, vI x2] μ P ∧ (∀ m4 : am_M, P m4 → (am_in (x5 + 1)) ∧ (at_V kC 4 mX6_find 22 [vR 148, vI x1, vI x2, vI x3, vI 0, vI (x5 + 1)] [] m4 Q)))) ∧ (mixC μ x5 < x1 → (am_in (x4 + 1)) ∧ ((am_in (x5 + 1)) ∧ (at_V kC 4 mX6_find 22 [vR 148, vI x1, vI x2, vI x3, vI (x4 + 1), vI (x5 + 1)] [] μ Q)))))) : at_V kC 4 mX6_find 22 [vR 148, vI x1, vI x2, vI x3, vI x4, vI x5] [] μ Q := by
  refine s_iload dX6_find_22 rfl ?_
  refine s_iload_n dX6_find_24 rfl rfl ?_
  refine s_icmp_ge dX6_find_25 (tgt := 68) (by decide) (fun cc => ?_) (fun cc => ?_)
  · have h := h.1 cc
    refine s_aload_n dX6_find_68 rfl rfl ?_
    refine s_iload_n dX6_find_69 rfl rfl ?_
    refine s_iload dX6_find_70 rfl ?_
    obtain ⟨c, h⟩ := h
    refine s_isub dX6_find_72 (am_w_id c) ?_
    refine s_iload dX6_find_73 rfl ?_
    refine s_iload_n dX6_find_75 rfl rfl ?_
    obtain ⟨P, hcl, h⟩ := h
    refine s_callV (As := [vI (x3 - x4), vI x4, vI x2]) (rest := []) (k := 148) dX6_find_76 lkX6_48 kn148 ⟨by rw [kk148]; rfl, by rw [kk148]; decide⟩ lmX6_add rfl rfl (Nat.le_of_ble_eq_true rfl) (by decide) (Nat.le_refl 0) (Nat.le_refl 0) (hC := hcl) (fun r n2 S2 m2 hP => ?_)
    obtain ⟨⟨rfl, rfl⟩, rfl, hq⟩ := hP
    have h := h m2 hq
    exact s_return dX6_find_79 rfl ⟨⟨rfl, rfl⟩, rfl, h⟩
  · have h := h.2 cc
    refine s_aload_n dX6_find_28 rfl rfl ?_
    refine s_getR dX6_find_29 flX6_22 kn148 kk148 rfl kr148_1 ?_
    refine s_iload dX6_find_32 rfl ?_
    obtain ⟨p0, p1, p2, h⟩ := h
    refine s_callV (As := [vI x5]) (rest := []) (k := 129) dX6_find_34 lkX6_42 kn129 ⟨by rw [kk129]; rfl, by rw [kk129]; decide⟩ lmX7_mixAt rfl rfl (Nat.le_of_ble_eq_true rfl) (by decide) (Nat.le_refl 0) (Nat.le_refl 0) (hC := sp_X7_mixAt (Q := fun z m => mixC μ x5 = z ∧ μ = m) p0 p1 p2 ⟨rfl, rfl⟩) (fun r n2 S2 m2 hP => ?_)
    obtain ⟨⟨rfl, rfl⟩, z, rfl, rfl, rfl⟩ := hP
    refine s_iload_n dX6_find_37 rfl rfl ?_
    refine s_icmp_ge dX6_find_38 (tgt := 47) (by decide) (fun cc => ?_) (fun cc => ?_)
    · have h := h.1 cc
      refine s_aload_n dX6_find_47 rfl rfl ?_
      refine s_iload dX6_find_48 rfl ?_
      refine s_iload dX6_find_50 rfl ?_
      obtain ⟨c, h⟩ := h
      refine s_isub dX6_find_52 (am_w_id c) ?_
      refine s_iload dX6_find_53 rfl ?_
      refine s_iload_n dX6_find_55 rfl rfl ?_
      obtain ⟨P, hcl, h⟩ := h
      refine s_callV (As := [vI (x5 - x4), vI x4, vI x2]) (rest := []) (k := 148) dX6_find_56 lkX6_48 kn148 ⟨by rw [kk148]; rfl, by rw [kk148]; decide⟩ lmX6_add rfl rfl (Nat.le_of_ble_eq_true rfl) (by decide) (Nat.le_refl 0) (Nat.le_refl 0) (hC := hcl) (fun r n2 S2 m4 hP => ?_)
      obtain ⟨⟨rfl, rfl⟩, rfl, hq⟩ := hP
      have h := h m4 hq
      refine s_iconst dX6_find_59 (by decide) ?_
      refine s_istore dX6_find_60 (by decide) (L' := [vR 148, vI x1, vI x2, vI x3, vI 0, vI x5]) rfl ?_
      obtain ⟨c, h⟩ := h
      refine s_iinc dX6_find_62 rfl (am_w_id c) (by decide) (L' := [vR 148, vI x1, vI x2, vI x3, vI 0, vI (x5 + 1)]) rfl ?_
      refine s_goto dX6_find_65 (tgt := 22) (by decide) ?_
      exact h
    · have h := h.2 cc
      obtain ⟨c, h⟩ := h
      refine s_iinc dX6_find_41 rfl (am_w_id c) (by decide) (L' := [vR 148, vI x1, vI x2, vI x3, vI (x4 + 1), vI x5]) rfl ?_
      refine s_goto dX6_find_44 (tgt := 62) (by decide) ?_
      obtain ⟨c, h⟩ := h
      refine s_iinc dX6_find_62 rfl (am_w_id c) (by decide) (L' := [vR 148, vI x1, vI x2, vI x3, vI (x4 + 1), vI (x5 + 1)]) rfl ?_
      refine s_goto dX6_find_65 (tgt := 22) (by decide) ?_
      exact h
theorem ve_X6_find {x1 x2 : Int} {μ : am_M} {Q : am_M → Prop} (h : at_V kC 4 mX6_find 0 [vR 148, vI x1, vI x2, vU, vU, vU] [] μ Q) : cl_V kC 4 mX6_find [vR 148, vI x1, vI x2] μ Q := am_intro pmX6_find (Nat.le_of_ble_eq_true rfl) rfl h
theorem sp_X6_find {μ : am_M} {v n : Int} (hV : vC μ) (hs : sk_ μ (fun f => suC μ f 4)) (hn : in_ 1 601 n) : cl_V kC 4 mX6_find [vR 148, vI v, vI n] μ (fun m => fr_ [148, 149, 150] μ m ∧ fo6_ m (sil_ (mixC μ) v n (la_ (cg μ) (μ 5 1)))) := by
  have lb := la_b6 hV
  refine ve_X6_find (vc_X6_find_0 ⟨hV.okT, fun m1 e1 => ?_⟩)
  have : ∀ (j : Nat) (l x : Int) (m : am_M), x + j = la_ (cg μ) (μ 5 1) → 0 ≤ x → fr_ [148, 149, 150] μ m → l = (sl_ (mixC μ) v n x).1 → fo6_ m (sl_ (mixC μ) v n x).2 → at_V kC 4 mX6_find 22 [vR 148, vI v, vI n, vI (la_ (cg μ) (μ 5 1)), vI l, vI x] [] m (fun m => fr_ [148, 149, 150] μ m ∧ fo6_ m (sil_ (mixC μ) v n (la_ (cg μ) (μ 5 1)))) := by
    intro j
    induction j with
    | zero =>
      intro l x m hx h0 hf hl hL
      have b := sl_b (F := mixC μ) (v := v) (n := n) (k := x) hn.1 h0
      rw [← hl] at b
      refine vc_X6_find_22 ⟨fun _ => ⟨(by (try unfold am_in); (try unfold in_ at *); omega), _, sp_X6_add _ hL (fun q => by have := hn.1; ((try unfold am_in); (try unfold in_ at *); omega)), fun m2 k2 => ⟨fr_tr hf k2.1, ?_⟩⟩, fun q => by omega⟩
      have k := k2.2
      unfold sil_
      rw [show x = la_ (cg μ) (μ 5 1) by omega] at hl k
      rw [hl] at k
      exact k
    | succ j ih =>
      intro l x m hx h0 hf hl hL
      have b := sl_b (F := mixC μ) (v := v) (n := n) (k := x) hn.1 h0
      rw [← hl] at b
      obtain ⟨c1, c2, c3, c4⟩ := pC_fr hf (by simp)
      have em : mixC m x = mixC μ x := by
        show mi_ (suC m x 4) (m 2 0) = mi_ (suC μ x 4) (μ 2 0)
        rw [c4, hf 2 (by decide)]
      have st : sl_ (mixC μ) v n (x + 1) = ss_ (mixC μ) v n (sl_ (mixC μ) v n x) x := fI_s _ _ h0
      refine vc_X6_find_22 ⟨fun q => by omega, fun q => ⟨vC_fr hf (by simp) hV, ?_, (by (try unfold am_in); (try unfold in_ at *); omega), fun c => ⟨(by (try unfold am_in); (try unfold in_ at *); omega), _, sp_X6_add _ hL (fun q => by have := hn.1; ((try unfold am_in); (try unfold in_ at *); omega)), fun m4 k4 => ⟨(by (try unfold am_in); (try unfold in_ at *); omega), ih 0 (x + 1) m4 (by omega) (by omega) (fr_tr hf k4.1) ?_ ?_⟩⟩, fun c => ⟨(by (try unfold am_in); (try unfold in_ at *); omega), (by (try unfold am_in); (try unfold in_ at *); omega), ih (l + 1) (x + 1) m (by omega) (by omega) hf ?_ ?_⟩⟩⟩
      · intro f hf2
        rw [hf 143 (by decide), c4]
        exact hs f hf2
      · rw [em] at c
        rw [st]
        unfold ss_
        rw [if_neg (by omega)]
      · rw [em] at c
        rw [st]
        unfold ss_
        rw [if_neg (by omega)]
        have k := k4.2
        rw [hl] at k
        exact k
      · rw [em] at c
        rw [st]
        unfold ss_
        rw [if_pos c, hl]
      · rw [em] at c
        rw [st]
        unfold ss_
        rw [if_pos c]
        exact hL
  refine this (la_ (cg μ) (μ 5 1)).toNat 0 0 m1 (by ((try unfold am_in); (try unfold in_ at *); omega)) (by omega) (by rw [e1]; exact fr_st (by simp)) rfl ⟨by rw [e1, st_s, up_s]; rfl, fun i p hi => by simp [sl_, fI_0] at hi⟩

/-! the class's chapters, as a list of frames and titles -/
abbrev Hl : Type := List (Int × Int)
def hl_ (n : Int) (f t : Nat → Int) (H : Hl) : Prop := n = H.length ∧ ∀ (i : Nat) (p : Int × Int), H[i]? = some p → f i = p.1 ∧ t i = p.2
theorem hl_at {n : Int} {f t : Nat → Int} {A B : Hl} {p : Int × Int} (h : hl_ n f t (A ++ p :: B)) {x : Int} (hx : x = A.length) : f x.toNat = p.1 ∧ t x.toNat = p.2 := by
  subst hx
  exact h.2 A.length p (by simp)
def bef_ (x : Int) (H : Hl) : Hl := H.takeWhile (fun p => decide (p.1 < x))
def aft_ (x : Int) (H : Hl) : Hl := H.dropWhile (fun p => decide (p.1 < x))
theorem bef_aft (x : Int) (H : Hl) : bef_ x H ++ aft_ x H = H := List.takeWhile_append_dropWhile
theorem bef_c (x : Int) (p : Int × Int) (H : Hl) : bef_ x (p :: H) = if p.1 < x then p :: bef_ x H else [] := by
  unfold bef_
  rw [List.takeWhile_cons]
  by_cases h : p.1 < x
  · simp [h]
  · simp [h]
theorem aft_c (x : Int) (p : Int × Int) (H : Hl) : aft_ x (p :: H) = if p.1 < x then aft_ x H else p :: H := by
  unfold aft_
  rw [List.dropWhile_cons]
  by_cases h : p.1 < x
  · simp [h]
  · simp [h]
theorem vc_X0_has_0 {x1 : Int} {μ : am_M} {Q : Int → am_M → Prop} (h : ∀ v1 : Int, v1 = (if x1 < 0 then 0 else (if x1 < μ 7 2 then 1 else 0)) → (v1 = 0 ∨ v1 = 1) ∧ Q v1 μ) : at_I kC 1 mX0_has 0 [vR 7, vI x1] [] μ Q := by
  refine s_iload_n dX0_has_0 rfl rfl ?_
  have kj2 : ∀ (v1 : Int), ((v1 = 0 ∨ v1 = 1) ∧ Q v1 μ) → at_I kC 1 mX0_has 17 [vU, vU] [vI v1] μ Q := by
    intro v1 h
    exact s_ireturn dX0_has_17 (Or.inr ⟨rfl, h.1⟩) ⟨⟨rfl, rfl⟩, _, rfl, h.2⟩
  refine s_if_lt dX0_has_1 (tgt := 16) (by decide) (fun cc => ?_) (fun cc => ?_)
  · have hp0 := cc
    refine s_iconst dX0_has_16 (by decide) ?_
    exact am_lesS (kj2 0 (h 0 (by rw [if_pos hp0]))) ⟨Or.inl rfl, Or.inl rfl, trivial⟩
  · have hp0 := cc
    refine s_iload_n dX0_has_4 rfl rfl ?_
    refine s_aload_n dX0_has_5 rfl rfl ?_
    refine s_getI (x := (μ 7 2)) dX0_has_6 flX0_18 kn7 kk7 rfl rfl ?_
    refine s_icmp_ge dX0_has_9 (tgt := 16) (by decide) (fun cc => ?_) (fun cc => ?_)
    · have hp1 := cc
      refine s_iconst dX0_has_16 (by decide) ?_
      exact am_lesS (kj2 0 (h 0 (by rw [if_neg (Int.not_lt.mpr hp0), if_neg (Int.not_lt.mpr hp1)]))) ⟨Or.inl rfl, Or.inl rfl, trivial⟩
    · have hp1 := cc
      refine s_iconst dX0_has_12 (by decide) ?_
      refine s_goto dX0_has_13 (tgt := 17) (by decide) ?_
      exact am_lesS (kj2 1 (h 1 (by rw [if_neg (Int.not_lt.mpr hp0), if_pos hp1]))) ⟨Or.inl rfl, Or.inl rfl, trivial⟩
theorem ve_X0_has {x1 : Int} {μ : am_M} {Q : Int → am_M → Prop} (h : at_I kC 1 mX0_has 0 [vR 7, vI x1] [] μ Q) : cl_I kC 1 mX0_has [vR 7, vI x1] μ Q := am_intro pmX0_has (Nat.le_of_ble_eq_true rfl) rfl h
theorem sp_X0_has {μ : am_M} {c : Int} {Q : Int → am_M → Prop} (hQ : Q (bI (0 ≤ c ∧ c < μ 7 2)) μ) : cl_I kC 1 mX0_has [vR 7, vI c] μ Q :=
  ve_X0_has (vc_X0_has_0 fun v1 e => ⟨by omega, by rw [show v1 = bI (0 ≤ c ∧ c < μ 7 2) from (by (try subst_vars); (repeat' split) <;> first | (exact bI_t (by (try unfold in_ at *); omega)) | (exact (bI_t (by (try unfold in_ at *); omega)).symm) | (exact bI_f (by (try unfold in_ at *); omega)) | (exact (bI_f (by (try unfold in_ at *); omega)).symm))]; exact hQ⟩)
theorem vc_X0_firstFrom_0 {x1 : Int} {μ : am_M} {Q : Int → am_M → Prop} (h : at_I kC 1 mX0_firstFrom 2 [vR 7, vI x1, vI 0] [] μ Q) : at_I kC 1 mX0_firstFrom 0 [vR 7, vI x1, vU] [] μ Q := by
  refine s_iconst dX0_firstFrom_0 (by decide) ?_
  refine s_istore_n dX0_firstFrom_1 rfl (by decide) (L' := [vR 7, vI x1, vI 0]) rfl ?_
  exact h
theorem vc_X0_firstFrom_2 {x1 x2 : Int} {μ : am_M} {Q : Int → am_M → Prop} (h : (μ 7 2 ≤ x2 → Q x2 μ) ∧ (x2 < μ 7 2 → (0 ≤ x2) ∧ (x2 < 12) ∧ ((x1 ≤ μ 8 ((x2).toNat) → Q x2 μ) ∧ (μ 8 ((x2).toNat) < x1 → (am_in (x2 + 1)) ∧ (at_I kC 1 mX0_firstFrom 2 [vR 7, vI x1, vI (x2 + 1)] [] μ Q))))) : at_I kC 1 mX0_firstFrom 2 [vR 7, vI x1, vI x2] [] μ Q := by
  refine s_iload_n dX0_firstFrom_2 rfl rfl ?_
  refine s_aload_n dX0_firstFrom_3 rfl rfl ?_
  refine s_getI (x := (μ 7 2)) dX0_firstFrom_4 flX0_18 kn7 kk7 rfl rfl ?_
  refine s_icmp_ge dX0_firstFrom_7 (tgt := 26) (by decide) (fun cc => ?_) (fun cc => ?_)
  · have h := h.1 cc
    refine s_iload_n dX0_firstFrom_26 rfl rfl ?_
    exact s_ireturn dX0_firstFrom_27 (Or.inl rfl) ⟨⟨rfl, rfl⟩, _, rfl, h⟩
  · have h := h.2 cc
    refine s_aload_n dX0_firstFrom_10 rfl rfl ?_
    refine s_getR dX0_firstFrom_11 flX0_9 kn7 kk7 rfl kr7_0 ?_
    refine s_iload_n dX0_firstFrom_14 rfl rfl ?_
    obtain ⟨c, c2, h⟩ := h
    refine s_iald (x := (μ 8 ((x2).toNat))) dX0_firstFrom_15 kn8 kk8 kl8 c c2 rfl ?_
    refine s_iload_n dX0_firstFrom_16 rfl rfl ?_
    refine s_icmp_ge dX0_firstFrom_17 (tgt := 26) (by decide) (fun cc => ?_) (fun cc => ?_)
    · have h := h.1 cc
      refine s_iload_n dX0_firstFrom_26 rfl rfl ?_
      exact s_ireturn dX0_firstFrom_27 (Or.inl rfl) ⟨⟨rfl, rfl⟩, _, rfl, h⟩
    · have h := h.2 cc
      obtain ⟨c, h⟩ := h
      refine s_iinc dX0_firstFrom_20 rfl (am_w_id c) (by decide) (L' := [vR 7, vI x1, vI (x2 + 1)]) rfl ?_
      refine s_goto dX0_firstFrom_23 (tgt := 2) (by decide) ?_
      exact h
theorem ve_X0_firstFrom {x1 : Int} {μ : am_M} {Q : Int → am_M → Prop} (h : at_I kC 1 mX0_firstFrom 0 [vR 7, vI x1, vU] [] μ Q) : cl_I kC 1 mX0_firstFrom [vR 7, vI x1] μ Q := am_intro pmX0_firstFrom (Nat.le_of_ble_eq_true rfl) rfl h
theorem lp_X0_firstFrom {f : Int} {μ : am_M} {H : Hl} (ht : hl_ (μ 7 2) (μ 8) (μ 9) H) (hl : H.length ≤ 12) {Q : Int → am_M → Prop} (hQ : Q ((bef_ f H).length) μ) : ∀ (B A : Hl) (x : Int), H = A ++ B → x = A.length → bef_ f H = A ++ bef_ f B → at_I kC 1 mX0_firstFrom 2 [vR 7, vI f, vI x] [] μ Q := by
  intro B
  induction B with
  | nil =>
    intro A x hL hx hb
    simp [bef_] at hb
    refine vc_X0_firstFrom_2 ⟨fun _ => ?_, fun q => by rw [ht.1, hL] at q; simp at q; omega⟩
    rw [hx, ← show (bef_ f H).length = A.length by rw [← hb]; rfl]
    exact hQ
  | cons p B ih =>
    intro A x hL hx hb
    have ht2 := ht
    rw [hL] at ht2
    have v := hl_at ht2 hx
    have hll : H.length = A.length + 1 + B.length := by rw [hL]; simp; omega
    rw [bef_c] at hb
    refine vc_X0_firstFrom_2 ⟨fun q => by rw [ht.1] at q; omega, fun q => ⟨by omega, by omega, fun h => ?_, fun h => ⟨(by (try unfold am_in); (try unfold in_ at *); omega), ?_⟩⟩⟩
    · rw [v.1] at h
      rw [if_neg (by omega)] at hb
      rw [hb] at hQ
      simp at hQ
      rw [hx]
      exact hQ
    · rw [v.1] at h
      rw [if_pos h] at hb
      exact ih (A ++ [p]) (x + 1) (by rw [hL]; simp) (by simp; omega) (by rw [hb]; simp)
theorem sp_X0_firstFrom {f : Int} {μ : am_M} (H : Hl) {Q : Int → am_M → Prop} (ht : hl_ (μ 7 2) (μ 8) (μ 9) H) (hl : H.length ≤ 12) (hQ : Q ((bef_ f H).length) μ) : cl_I kC 1 mX0_firstFrom [vR 7, vI f] μ Q :=
  ve_X0_firstFrom (vc_X0_firstFrom_0 (lp_X0_firstFrom ht hl hQ H [] 0 (by simp) rfl (by simp)))
/-- the chapters in a memory -/
def hC (μ : am_M) : Hl := (List.range (μ 7 2).toNat).map (fun i => (μ 8 i, μ 9 i))
theorem hl_hC {μ : am_M} (h : 0 ≤ μ 7 2) : hl_ (μ 7 2) (μ 8) (μ 9) (hC μ) := by
  refine ⟨by simp [hC]; omega, fun i p hi => ?_⟩
  unfold hC at hi
  rw [List.getElem?_map] at hi
  by_cases q : i < (μ 7 2).toNat
  · rw [List.getElem?_range q] at hi
    cases hi
    exact ⟨rfl, rfl⟩
  · rw [List.getElem?_eq_none (by simpa using q)] at hi
    cases hi
theorem hl_un {μ : am_M} {H : Hl} (h : hl_ (μ 7 2) (μ 8) (μ 9) H) : hC μ = H := by
  apply List.ext_getElem?
  intro i
  unfold hC
  rw [List.getElem?_map, h.1]
  by_cases q : i < H.length
  · rw [List.getElem?_range (by omega), List.getElem?_eq_getElem q]
    have := h.2 i _ (List.getElem?_eq_getElem q)
    simp [this]
  · rw [List.getElem?_eq_none (by simp; omega), List.getElem?_eq_none (by omega)]
    rfl
theorem sp_X0_firstFromC {f : Int} {μ : am_M} {Q : Int → am_M → Prop} (hn : in_ 0 13 (μ 7 2)) (hQ : Q ((bef_ f (hC μ)).length) μ) : cl_I kC 1 mX0_firstFrom [vR 7, vI f] μ Q :=
  sp_X0_firstFrom (hC μ) (hl_hC hn.1) (by simp [hC]; ((try unfold am_in); (try unfold in_ at *); omega)) hQ
/-- the chapters alone have changed -/
def hk_ (μ m : am_M) (H : Hl) : Prop := fr_ [7, 8, 9] μ m ∧ hl_ (m 7 2) (m 8) (m 9) H
theorem hk_rf {μ : am_M} {H : Hl} (h : hl_ (μ 7 2) (μ 8) (μ 9) H) : hk_ μ μ H := ⟨fr_rf, h⟩
theorem vc_X0_titleAt_0 {x1 : Int} {μ : am_M} {Q : Int → am_M → Prop} (h : (in_ 0 13 (μ 7 2)) ∧ (∀ v1 : Int, v1 = ((bef_ x1 (hC μ)).length : Int) → ((0 ≤ v1 ∧ v1 < μ 7 2 → (0 ≤ v1) ∧ (v1 < 12))) ∧ (∀ v2 : Int, v2 = (cif (0 ≤ v1 ∧ v1 < μ 7 2) (μ 9 ((v1).toNat)) (-6)) → Q v2 μ))) : at_I kC 2 mX0_titleAt 0 [vR 7, vI x1, vU] [] μ Q := by
  refine s_aload_n dX0_titleAt_0 rfl rfl ?_
  refine s_iload_n dX0_titleAt_1 rfl rfl ?_
  obtain ⟨p0, h⟩ := h
  refine s_callV (As := [vI x1]) (rest := []) (k := 7) dX0_titleAt_2 lkX0_22 kn7 ⟨by rw [kk7]; rfl, by rw [kk7]; decide⟩ lmX0_firstFrom rfl rfl (Nat.le_of_ble_eq_true rfl) (by decide) (Nat.le_refl 0) (Nat.le_refl 0) (hC := sp_X0_firstFromC (Q := fun z m => z = ((bef_ x1 (hC μ)).length : Int) ∧ μ = m) p0 ⟨rfl, rfl⟩) (fun r n2 S2 m2 hP => ?_)
  obtain ⟨⟨rfl, rfl⟩, v1, rfl, hz, rfl⟩ := hP
  have h := h v1 hz
  refine s_istore_n dX0_titleAt_5 rfl (by decide) (L' := [vR 7, vI x1, vI v1]) rfl ?_
  refine s_aload_n dX0_titleAt_6 rfl rfl ?_
  refine s_iload_n dX0_titleAt_7 rfl rfl ?_
  refine s_callV (As := [vI v1]) (rest := []) (k := 7) dX0_titleAt_8 lkX0_26 kn7 ⟨by rw [kk7]; rfl, by rw [kk7]; decide⟩ lmX0_has rfl rfl (Nat.le_of_ble_eq_true rfl) (by decide) (Nat.le_refl 0) (Nat.le_refl 0) (hC := sp_X0_has (Q := fun z m => bI (0 ≤ v1 ∧ v1 < μ 7 2) = z ∧ μ = m)  ⟨rfl, rfl⟩) (fun r n2 S2 m2 hP => ?_)
  obtain ⟨⟨rfl, rfl⟩, z, rfl, rfl, rfl⟩ := hP
  obtain ⟨hsd, h⟩ := h
  have kj3 : ∀ (v2 : Int), (Q v2 μ) → at_I kC 2 mX0_titleAt 25 [vU, vU, vU] [vI v2] μ Q := by
    intro v2 h
    exact s_ireturn dX0_titleAt_25 (Or.inl rfl) ⟨⟨rfl, rfl⟩, _, rfl, h⟩
  refine s_if_eq dX0_titleAt_11 (tgt := 23) (by decide) (fun cc => ?_) (fun cc => ?_)
  · have hp0 := (bI_eq cc)
    refine s_bipush dX0_titleAt_23 (by decide) ?_
    exact am_lesS (kj3 (-6) (h (-6) (by rw [cif_f hp0]))) ⟨Or.inl rfl, Or.inl rfl, Or.inl rfl, trivial⟩
  · have hp0 := (bI_ne cc)
    have hsd := hsd hp0
    refine s_aload_n dX0_titleAt_14 rfl rfl ?_
    refine s_getR dX0_titleAt_15 flX0_15 kn7 kk7 rfl kr7_1 ?_
    refine s_iload_n dX0_titleAt_18 rfl rfl ?_
    obtain ⟨c, c2⟩ := hsd
    refine s_iald (x := (μ 9 ((v1).toNat))) dX0_titleAt_19 kn9 kk9 kl9 c c2 rfl ?_
    refine s_goto dX0_titleAt_20 (tgt := 25) (by decide) ?_
    exact am_lesS (kj3 (μ 9 ((v1).toNat)) (h (μ 9 ((v1).toNat)) (by rw [cif_t hp0]))) ⟨Or.inl rfl, Or.inl rfl, Or.inl rfl, trivial⟩
theorem ve_X0_titleAt {x1 : Int} {μ : am_M} {Q : Int → am_M → Prop} (h : at_I kC 2 mX0_titleAt 0 [vR 7, vI x1, vU] [] μ Q) : cl_I kC 2 mX0_titleAt [vR 7, vI x1] μ Q := am_intro pmX0_titleAt (Nat.le_of_ble_eq_true rfl) rfl h
/-- the title at a frame -/
def h_tit (x : Int) (H : Hl) : Int := match aft_ x H with
  | [] => -6
  | p :: _ => p.2
theorem sp_X0_titleAt {f : Int} {μ : am_M} (H : Hl) {Q : Int → am_M → Prop} (ht : hl_ (μ 7 2) (μ 8) (μ 9) H) (hl : H.length ≤ 12) (hQ : Q (h_tit f H) μ) : cl_I kC 2 mX0_titleAt [vR 7, vI f] μ Q := by
  refine ve_X0_titleAt (vc_X0_titleAt_0 ⟨by rw [ht.1]; ((try unfold am_in); (try unfold in_ at *); omega), fun v1 e1 => ⟨fun h => by rw [ht.1] at h; omega, fun v2 e2 => ?_⟩⟩)
  rw [hl_un ht] at e1
  have hb := bef_aft f H
  have e3 : v2 = h_tit f H := by
    rw [e2]
    unfold h_tit
    have ht2 := ht
    rw [← hb] at ht2
    cases ha : aft_ f H with
    | nil =>
      rw [ha] at hb ht2
      have : H.length = (bef_ f H).length := by rw [← congrArg List.length hb]; simp
      rw [cif_f (by rw [ht.1]; omega)]
    | cons p B =>
      rw [ha] at hb ht2
      have : H.length = (bef_ f H).length + 1 + B.length := by rw [← congrArg List.length hb]; simp; omega
      rw [cif_t (by rw [ht.1]; omega), (hl_at ht2 e1).2]
  rw [e3]
  exact hQ
theorem am_cpi {g : Nat → Int} {v n : Int} (h0 : 0 ≤ v) {i : Nat} (hi : (i : Int) ≤ n) : am_cp g g v (v + 1) (n - v) i = if (i : Int) ≤ v then g i else g (i - 1) := by
  unfold am_cp
  by_cases q : (i : Int) ≤ v
  · rw [if_neg (by omega), if_pos q]
  · rw [if_pos (by omega), if_neg q]
    congr 1
    omega
theorem hl_insM {μ m2 m3 m4 m5 m6 : am_M} {A B : Hl} {v f t : Int} (h : hl_ (μ 7 2) (μ 8) (μ 9) (A ++ B)) (hv : v = A.length) (h2 : m2 = am_st μ 8 (am_cp (μ 8) (μ 8) v (v + 1) (μ 7 2 - v))) (h3 : m3 = am_st m2 9 (am_cp (m2 9) (m2 9) v (v + 1) (μ 7 2 - v))) (h4 : m4 = am_st m3 7 (am_up (m3 7) 2 (μ 7 2 + 1))) (h5 : m5 = am_st m4 8 (am_up (m4 8) v.toNat f)) (h6 : m6 = am_st m5 9 (am_up (m5 9) v.toNat t)) : hk_ μ m6 (A ++ (f, t) :: B) := by
  have e8 : m6 8 = am_up (am_cp (μ 8) (μ 8) v (v + 1) (μ 7 2 - v)) v.toNat f := by
    rw [h6, st_n (by decide), h5, st_s, h4, st_n (by decide), h3, st_n (by decide), h2, st_s]
  have e9 : m6 9 = am_up (am_cp (μ 9) (μ 9) v (v + 1) (μ 7 2 - v)) v.toNat t := by
    rw [h6, st_s, h5, st_n (by decide), h4, st_n (by decide), h3, st_s, h2, st_n (by decide)]
  have e7 : m6 7 2 = μ 7 2 + 1 := by
    rw [h6, st_n (by decide), h5, st_n (by decide), h4, st_s, up_s]
  refine ⟨?_, ?_, fun i p hi => ?_⟩
  · rw [h6, h5, h4, h3, h2]
    intro k hk
    have k7 : k ≠ 7 := fun e => hk (by simp [e])
    have k8' : k ≠ 8 := fun e => hk (by simp [e])
    have k9 : k ≠ 9 := fun e => hk (by simp [e])
    rw [st_n k9, st_n k8', st_n k7, st_n k9, st_n k8']
  · rw [e7, h.1]; simp; omega
  · rw [e8, e9]
    have hl : i < A.length + 1 + B.length := by
      have := (List.getElem?_eq_some_iff.mp hi).1
      simp at this
      omega
    have hn : μ 7 2 = A.length + B.length := by rw [h.1]; simp
    by_cases q : i = A.length
    · subst q
      simp at hi
      subst hi
      have : v.toNat = A.length := by omega
      rw [this, up_s, up_s]
      exact ⟨rfl, rfl⟩
    · rw [up_n (by omega), up_n (by omega), am_cpi (by omega) (by omega), am_cpi (by omega) (by omega)]
      by_cases q2 : i < A.length
      · rw [if_pos (by omega), if_pos (by omega)]
        rw [List.getElem?_append_left q2] at hi
        exact h.2 i p (by rw [List.getElem?_append_left q2]; exact hi)
      · rw [if_neg (by omega), if_neg (by omega)]
        rw [List.getElem?_append_right (by omega), show i - A.length = (i - 1 - A.length) + 1 by omega, List.getElem?_cons_succ] at hi
        exact h.2 (i - 1) p (by rw [List.getElem?_append_right (by omega)]; exact hi)
/-- set a chapter -/
noncomputable def h_ent (H : Hl) (f t : Int) : Int × Hl :=
  cif (f < 0 ∨ 600 ≤ f ∨ t < 0 ∨ 99 < t) (-2, H) (match aft_ f H with
    | [] => if 12 ≤ H.length then (-3, H) else ((bef_ f H).length, bef_ f H ++ [(f, t)])
    | p :: B => if p.1 = f then ((bef_ f H).length, bef_ f H ++ (f, t) :: B) else if 12 ≤ H.length then (-3, H) else ((bef_ f H).length, bef_ f H ++ (f, t) :: p :: B))
theorem vc_X0_enter_0 {x1 x2 : Int} {μ : am_M} {Q : Int → am_M → Prop} (h : (¬ (0 ≤ x1 ∧ x1 < 600) → Q (-2) μ) ∧ (0 ≤ x1 ∧ x1 < 600 → (x2 < 0 → Q (-2) μ) ∧ (0 ≤ x2 → (x2 ≤ 99 → (in_ 0 13 (μ 7 2)) ∧ (∀ v1 : Int, v1 = ((bef_ x1 (hC μ)).length : Int) → (¬ (0 ≤ v1 ∧ v1 < μ 7 2) → (μ 7 2 < 12 → (am_in (v1 + 1)) ∧ ((am_in (μ 7 2 - v1)) ∧ ((0 ≤ v1) ∧ (0 ≤ v1 + 1) ∧ (0 ≤ μ 7 2 - v1) ∧ (v1 + (μ 7 2 - v1) ≤ 12) ∧ (v1 + 1 + (μ 7 2 - v1) ≤ 12) ∧ (∀ m2 : am_M, m2 = am_st μ 8 (am_cp (μ 8) (μ 8) v1 (v1 + 1) (μ 7 2 - v1)) → (am_in (v1 + 1)) ∧ ((am_in (μ 7 2 - v1)) ∧ ((0 ≤ v1) ∧ (0 ≤ v1 + 1) ∧ (0 ≤ μ 7 2 - v1) ∧ (v1 + (μ 7 2 - v1) ≤ 12) ∧ (v1 + 1 + (μ 7 2 - v1) ≤ 12) ∧ (∀ m3 : am_M, m3 = am_st m2 9 (am_cp (m2 9) (m2 9) v1 (v1 + 1) (μ 7 2 - v1)) → (am_in (μ 7 2 + 1)) ∧ (∀ m4 : am_M, m4 = am_st m3 7 (am_up (m3 7) 2 (μ 7 2 + 1)) → (0 ≤ v1) ∧ (v1 < 12) ∧ (∀ m5 : am_M, m5 = am_st m4 8 (am_up (m4 8) (v1).toNat x1) → (0 ≤ v1) ∧ (v1 < 12) ∧ (∀ m6 : am_M, m6 = am_st m5 9 (am_up (m5 9) (v1).toNat x2) → Q v1 m6)))))))))) ∧ (12 ≤ μ 7 2 → Q (-3) μ)) ∧ (0 ≤ v1 ∧ v1 < μ 7 2 → (0 ≤ v1) ∧ (v1 < 12) ∧ ((μ 8 ((v1).toNat) = x1 → (0 ≤ v1) ∧ (v1 < 12) ∧ (∀ m7 : am_M, m7 = am_st μ 9 (am_up (μ 9) (v1).toNat x2) → Q v1 m7)) ∧ (μ 8 ((v1).toNat) ≠ x1 → (μ 7 2 < 12 → (am_in (v1 + 1)) ∧ ((am_in (μ 7 2 - v1)) ∧ ((0 ≤ v1) ∧ (0 ≤ v1 + 1) ∧ (0 ≤ μ 7 2 - v1) ∧ (v1 + (μ 7 2 - v1) ≤ 12) ∧ (v1 + 1 + (μ 7 2 - v1) ≤ 12) ∧ (∀ m8 : am_M, m8 = am_st μ 8 (am_cp (μ 8) (μ 8) v1 (v1 + 1) (μ 7 2 - v1)) → (am_in (v1 + 1)) ∧ ((am_in (μ 7 2 - v1)) ∧ ((0 ≤ v1) ∧ (0 ≤ v1 + 1) ∧ (0 ≤ μ 7 2 - v1) ∧ (v1 + (μ 7 2 - v1) ≤ 12) ∧ (v1 + 1 + (μ 7 2 - v1) ≤ 12) ∧ (∀ m9 : am_M, m9 = am_st m8 9 (am_cp (m8 9) (m8 9) v1 (v1 + 1) (μ 7 2 - v1)) → (am_in (μ 7 2 + 1)) ∧ (∀ m10 : am_M, m10 = am_st m9 7 (am_up (m9 7) 2 (μ 7 2 + 1)) → (0 ≤ v1) ∧ (v1 < 12) ∧ (∀ m11 : am_M, m11 = am_st m10 8 (am_up (m10 8) (v1).toNat x1) → (0 ≤ v1) ∧ (v1 < 12) ∧ (∀ m12 : am_M, m12 = am_st m11 9 (am_up (m11 9) (v1).toNat x2) → Q v1 m12)))))))))) ∧ (12 ≤ μ 7 2 → Q (-3) μ)))))) ∧ (99 < x2 → Q (-2) μ)))) : at_I kC 2 mX0_enter 0 [vR 7, vI x1, vI x2, vU] [] μ Q := by
  refine s_iload_n dX0_enter_0 rfl rfl ?_
  refine s_callSN (As := [vI x1]) (rest := []) dX0_enter_1 lkX0_30 lmX9_isFrame rfl rfl (Nat.le_of_ble_eq_true rfl) (by decide) (Nat.le_refl 0) (Nat.le_refl 0) (hC := sp_X9_isFrame (Q := fun z m => bI (0 ≤ x1 ∧ x1 < 600) = z ∧ μ = m)  ⟨rfl, rfl⟩) (fun r n2 S2 m2 hP => ?_)
  obtain ⟨⟨rfl, rfl⟩, z, rfl, rfl, rfl⟩ := hP
  refine s_if_eq dX0_enter_4 (tgt := 17) (by decide) (fun cc => ?_) (fun cc => ?_)
  · have h := h.1 (bI_eq cc)
    refine s_bipush dX0_enter_17 (by decide) ?_
    exact s_ireturn dX0_enter_19 (Or.inl rfl) ⟨⟨rfl, rfl⟩, _, rfl, h⟩
  · have h := h.2 (bI_ne cc)
    refine s_iload_n dX0_enter_7 rfl rfl ?_
    refine s_if_lt dX0_enter_8 (tgt := 17) (by decide) (fun cc => ?_) (fun cc => ?_)
    · have h := h.1 cc
      refine s_bipush dX0_enter_17 (by decide) ?_
      exact s_ireturn dX0_enter_19 (Or.inl rfl) ⟨⟨rfl, rfl⟩, _, rfl, h⟩
    · have h := h.2 cc
      refine s_iload_n dX0_enter_11 rfl rfl ?_
      refine s_bipush dX0_enter_12 (by decide) ?_
      refine s_icmp_le dX0_enter_14 (tgt := 20) (by decide) (fun cc => ?_) (fun cc => ?_)
      · have h := h.1 cc
        refine s_aload_n dX0_enter_20 rfl rfl ?_
        refine s_iload_n dX0_enter_21 rfl rfl ?_
        obtain ⟨p0, h⟩ := h
        refine s_callV (As := [vI x1]) (rest := []) (k := 7) dX0_enter_22 lkX0_22 kn7 ⟨by rw [kk7]; rfl, by rw [kk7]; decide⟩ lmX0_firstFrom rfl rfl (Nat.le_of_ble_eq_true rfl) (by decide) (Nat.le_refl 0) (Nat.le_refl 0) (hC := sp_X0_firstFromC (Q := fun z m => z = ((bef_ x1 (hC μ)).length : Int) ∧ μ = m) p0 ⟨rfl, rfl⟩) (fun r n2 S2 m2 hP => ?_)
        obtain ⟨⟨rfl, rfl⟩, v1, rfl, hz, rfl⟩ := hP
        have h := h v1 hz
        refine s_istore_n dX0_enter_25 rfl (by decide) (L' := [vR 7, vI x1, vI x2, vI v1]) rfl ?_
        refine s_aload_n dX0_enter_26 rfl rfl ?_
        refine s_iload_n dX0_enter_27 rfl rfl ?_
        refine s_callV (As := [vI v1]) (rest := []) (k := 7) dX0_enter_28 lkX0_26 kn7 ⟨by rw [kk7]; rfl, by rw [kk7]; decide⟩ lmX0_has rfl rfl (Nat.le_of_ble_eq_true rfl) (by decide) (Nat.le_refl 0) (Nat.le_refl 0) (hC := sp_X0_has (Q := fun z m => bI (0 ≤ v1 ∧ v1 < μ 7 2) = z ∧ μ = m)  ⟨rfl, rfl⟩) (fun r n2 S2 m2 hP => ?_)
        obtain ⟨⟨rfl, rfl⟩, z, rfl, rfl, rfl⟩ := hP
        refine s_if_eq dX0_enter_31 (tgt := 44) (by decide) (fun cc => ?_) (fun cc => ?_)
        · have h := h.1 (bI_eq cc)
          refine s_aload_n dX0_enter_44 rfl rfl ?_
          refine s_getI (x := (μ 7 2)) dX0_enter_45 flX0_18 kn7 kk7 rfl rfl ?_
          refine s_bipush dX0_enter_48 (by decide) ?_
          refine s_icmp_lt dX0_enter_50 (tgt := 56) (by decide) (fun cc => ?_) (fun cc => ?_)
          · have h := h.1 cc
            refine s_aload_n dX0_enter_56 rfl rfl ?_
            refine s_getR dX0_enter_57 flX0_9 kn7 kk7 rfl kr7_0 ?_
            refine s_iload_n dX0_enter_60 rfl rfl ?_
            refine s_aload_n dX0_enter_61 rfl rfl ?_
            refine s_getR dX0_enter_62 flX0_9 kn7 kk7 rfl kr7_0 ?_
            refine s_iload_n dX0_enter_65 rfl rfl ?_
            refine s_iconst dX0_enter_66 (by decide) ?_
            obtain ⟨c, h⟩ := h
            refine s_iadd dX0_enter_67 (am_w_id c) ?_
            refine s_aload_n dX0_enter_68 rfl rfl ?_
            refine s_getI (x := (μ 7 2)) dX0_enter_69 flX0_18 kn7 kk7 rfl rfl ?_
            refine s_iload_n dX0_enter_72 rfl rfl ?_
            obtain ⟨c, h⟩ := h
            refine s_isub dX0_enter_73 (am_w_id c) ?_
            obtain ⟨c1, c2, c3, c4, c5, h⟩ := h
            obtain ⟨m2, hm2⟩ : ∃ x : am_M, x = am_st μ 8 (am_cp (μ 8) (μ 8) v1 (v1 + 1) (μ 7 2 - v1)) := ⟨_, rfl⟩
            have h := h m2 hm2
            refine s_acopy dX0_enter_74 waX0_33 kn8 kk8 kl8 kn8 kk8 kl8 (Nat.le_of_ble_eq_true rfl) (by decide) c1 c2 c3 c4 c5 hm2.symm ?_
            refine s_aload_n dX0_enter_77 rfl rfl ?_
            refine s_getR dX0_enter_78 flX0_15 kn7 kk7 rfl kr7_1 ?_
            refine s_iload_n dX0_enter_81 rfl rfl ?_
            refine s_aload_n dX0_enter_82 rfl rfl ?_
            refine s_getR dX0_enter_83 flX0_15 kn7 kk7 rfl kr7_1 ?_
            refine s_iload_n dX0_enter_86 rfl rfl ?_
            refine s_iconst dX0_enter_87 (by decide) ?_
            obtain ⟨c, h⟩ := h
            refine s_iadd dX0_enter_88 (am_w_id c) ?_
            refine s_aload_n dX0_enter_89 rfl rfl ?_
            refine s_getI (x := (μ 7 2)) dX0_enter_90 flX0_18 kn7 kk7 rfl (by subst hm2; rfl) ?_
            refine s_iload_n dX0_enter_93 rfl rfl ?_
            obtain ⟨c, h⟩ := h
            refine s_isub dX0_enter_94 (am_w_id c) ?_
            obtain ⟨c1, c2, c3, c4, c5, h⟩ := h
            obtain ⟨m3, hm3⟩ : ∃ x : am_M, x = am_st m2 9 (am_cp (m2 9) (m2 9) v1 (v1 + 1) (μ 7 2 - v1)) := ⟨_, rfl⟩
            have h := h m3 hm3
            refine s_acopy dX0_enter_95 waX0_33 kn9 kk9 kl9 kn9 kk9 kl9 (Nat.le_of_ble_eq_true rfl) (by decide) c1 c2 c3 c4 c5 hm3.symm ?_
            refine s_aload_n dX0_enter_98 rfl rfl ?_
            refine s_dup dX0_enter_99 ?_
            refine s_getI (x := (μ 7 2)) dX0_enter_100 flX0_18 kn7 kk7 rfl (by subst hm3; subst hm2; rfl) ?_
            refine s_iconst dX0_enter_103 (by decide) ?_
            obtain ⟨c, h⟩ := h
            refine s_iadd dX0_enter_104 (am_w_id c) ?_
            obtain ⟨m4, hm4⟩ : ∃ x : am_M, x = am_st m3 7 (am_up (m3 7) 2 (μ 7 2 + 1)) := ⟨_, rfl⟩
            have h := h m4 hm4
            refine s_putI dX0_enter_105 flX0_18 kn7 kk7 rfl rfl (Or.inl rfl) hm4.symm ?_
            refine s_aload_n dX0_enter_108 rfl rfl ?_
            refine s_getR dX0_enter_109 flX0_9 kn7 kk7 rfl kr7_0 ?_
            refine s_iload_n dX0_enter_112 rfl rfl ?_
            refine s_iload_n dX0_enter_113 rfl rfl ?_
            obtain ⟨c, c2, h⟩ := h
            obtain ⟨m5, hm5⟩ : ∃ x : am_M, x = am_st m4 8 (am_up (m4 8) (v1).toNat x1) := ⟨_, rfl⟩
            have h := h m5 hm5
            refine s_iast dX0_enter_114 kn8 kk8 kl8 c c2 hm5.symm ?_
            refine s_aload_n dX0_enter_115 rfl rfl ?_
            refine s_getR dX0_enter_116 flX0_15 kn7 kk7 rfl kr7_1 ?_
            refine s_iload_n dX0_enter_119 rfl rfl ?_
            refine s_iload_n dX0_enter_120 rfl rfl ?_
            obtain ⟨c, c2, h⟩ := h
            obtain ⟨m6, hm6⟩ : ∃ x : am_M, x = am_st m5 9 (am_up (m5 9) (v1).toNat x2) := ⟨_, rfl⟩
            have h := h m6 hm6
            refine s_iast dX0_enter_121 kn9 kk9 kl9 c c2 hm6.symm ?_
            refine s_iload_n dX0_enter_122 rfl rfl ?_
            exact s_ireturn dX0_enter_123 (Or.inl rfl) ⟨⟨rfl, rfl⟩, _, rfl, h⟩
          · have h := h.2 cc
            refine s_bipush dX0_enter_53 (by decide) ?_
            exact s_ireturn dX0_enter_55 (Or.inl rfl) ⟨⟨rfl, rfl⟩, _, rfl, h⟩
        · have h := h.2 (bI_ne cc)
          refine s_aload_n dX0_enter_34 rfl rfl ?_
          refine s_getR dX0_enter_35 flX0_9 kn7 kk7 rfl kr7_0 ?_
          refine s_iload_n dX0_enter_38 rfl rfl ?_
          obtain ⟨c, c2, h⟩ := h
          refine s_iald (x := (μ 8 ((v1).toNat))) dX0_enter_39 kn8 kk8 kl8 c c2 rfl ?_
          refine s_iload_n dX0_enter_40 rfl rfl ?_
          refine s_icmp_eq dX0_enter_41 (tgt := 115) (by decide) (fun cc => ?_) (fun cc => ?_)
          · have h := h.1 cc
            refine s_aload_n dX0_enter_115 rfl rfl ?_
            refine s_getR dX0_enter_116 flX0_15 kn7 kk7 rfl kr7_1 ?_
            refine s_iload_n dX0_enter_119 rfl rfl ?_
            refine s_iload_n dX0_enter_120 rfl rfl ?_
            obtain ⟨c, c2, h⟩ := h
            obtain ⟨m7, hm7⟩ : ∃ x : am_M, x = am_st μ 9 (am_up (μ 9) (v1).toNat x2) := ⟨_, rfl⟩
            have h := h m7 hm7
            refine s_iast dX0_enter_121 kn9 kk9 kl9 c c2 hm7.symm ?_
            refine s_iload_n dX0_enter_122 rfl rfl ?_
            exact s_ireturn dX0_enter_123 (Or.inl rfl) ⟨⟨rfl, rfl⟩, _, rfl, h⟩
          · have h := h.2 cc
            refine s_aload_n dX0_enter_44 rfl rfl ?_
            refine s_getI (x := (μ 7 2)) dX0_enter_45 flX0_18 kn7 kk7 rfl rfl ?_
            refine s_bipush dX0_enter_48 (by decide) ?_
            refine s_icmp_lt dX0_enter_50 (tgt := 56) (by decide) (fun cc => ?_) (fun cc => ?_)
            · have h := h.1 cc
              refine s_aload_n dX0_enter_56 rfl rfl ?_
              refine s_getR dX0_enter_57 flX0_9 kn7 kk7 rfl kr7_0 ?_
              refine s_iload_n dX0_enter_60 rfl rfl ?_
              refine s_aload_n dX0_enter_61 rfl rfl ?_
              refine s_getR dX0_enter_62 flX0_9 kn7 kk7 rfl kr7_0 ?_
              refine s_iload_n dX0_enter_65 rfl rfl ?_
              refine s_iconst dX0_enter_66 (by decide) ?_
              obtain ⟨c, h⟩ := h
              refine s_iadd dX0_enter_67 (am_w_id c) ?_
              refine s_aload_n dX0_enter_68 rfl rfl ?_
              refine s_getI (x := (μ 7 2)) dX0_enter_69 flX0_18 kn7 kk7 rfl rfl ?_
              refine s_iload_n dX0_enter_72 rfl rfl ?_
              obtain ⟨c, h⟩ := h
              refine s_isub dX0_enter_73 (am_w_id c) ?_
              obtain ⟨c1, c2, c3, c4, c5, h⟩ := h
              obtain ⟨m8, hm8⟩ : ∃ x : am_M, x = am_st μ 8 (am_cp (μ 8) (μ 8) v1 (v1 + 1) (μ 7 2 - v1)) := ⟨_, rfl⟩
              have h := h m8 hm8
              refine s_acopy dX0_enter_74 waX0_33 kn8 kk8 kl8 kn8 kk8 kl8 (Nat.le_of_ble_eq_true rfl) (by decide) c1 c2 c3 c4 c5 hm8.symm ?_
              refine s_aload_n dX0_enter_77 rfl rfl ?_
              refine s_getR dX0_enter_78 flX0_15 kn7 kk7 rfl kr7_1 ?_
              refine s_iload_n dX0_enter_81 rfl rfl ?_
              refine s_aload_n dX0_enter_82 rfl rfl ?_
              refine s_getR dX0_enter_83 flX0_15 kn7 kk7 rfl kr7_1 ?_
              refine s_iload_n dX0_enter_86 rfl rfl ?_
              refine s_iconst dX0_enter_87 (by decide) ?_
              obtain ⟨c, h⟩ := h
              refine s_iadd dX0_enter_88 (am_w_id c) ?_
              refine s_aload_n dX0_enter_89 rfl rfl ?_
              refine s_getI (x := (μ 7 2)) dX0_enter_90 flX0_18 kn7 kk7 rfl (by subst hm8; rfl) ?_
              refine s_iload_n dX0_enter_93 rfl rfl ?_
              obtain ⟨c, h⟩ := h
              refine s_isub dX0_enter_94 (am_w_id c) ?_
              obtain ⟨c1, c2, c3, c4, c5, h⟩ := h
              obtain ⟨m9, hm9⟩ : ∃ x : am_M, x = am_st m8 9 (am_cp (m8 9) (m8 9) v1 (v1 + 1) (μ 7 2 - v1)) := ⟨_, rfl⟩
              have h := h m9 hm9
              refine s_acopy dX0_enter_95 waX0_33 kn9 kk9 kl9 kn9 kk9 kl9 (Nat.le_of_ble_eq_true rfl) (by decide) c1 c2 c3 c4 c5 hm9.symm ?_
              refine s_aload_n dX0_enter_98 rfl rfl ?_
              refine s_dup dX0_enter_99 ?_
              refine s_getI (x := (μ 7 2)) dX0_enter_100 flX0_18 kn7 kk7 rfl (by subst hm9; subst hm8; rfl) ?_
              refine s_iconst dX0_enter_103 (by decide) ?_
              obtain ⟨c, h⟩ := h
              refine s_iadd dX0_enter_104 (am_w_id c) ?_
              obtain ⟨m10, hm10⟩ : ∃ x : am_M, x = am_st m9 7 (am_up (m9 7) 2 (μ 7 2 + 1)) := ⟨_, rfl⟩
              have h := h m10 hm10
              refine s_putI dX0_enter_105 flX0_18 kn7 kk7 rfl rfl (Or.inl rfl) hm10.symm ?_
              refine s_aload_n dX0_enter_108 rfl rfl ?_
              refine s_getR dX0_enter_109 flX0_9 kn7 kk7 rfl kr7_0 ?_
              refine s_iload_n dX0_enter_112 rfl rfl ?_
              refine s_iload_n dX0_enter_113 rfl rfl ?_
              obtain ⟨c, c2, h⟩ := h
              obtain ⟨m11, hm11⟩ : ∃ x : am_M, x = am_st m10 8 (am_up (m10 8) (v1).toNat x1) := ⟨_, rfl⟩
              have h := h m11 hm11
              refine s_iast dX0_enter_114 kn8 kk8 kl8 c c2 hm11.symm ?_
              refine s_aload_n dX0_enter_115 rfl rfl ?_
              refine s_getR dX0_enter_116 flX0_15 kn7 kk7 rfl kr7_1 ?_
              refine s_iload_n dX0_enter_119 rfl rfl ?_
              refine s_iload_n dX0_enter_120 rfl rfl ?_
              obtain ⟨c, c2, h⟩ := h
              obtain ⟨m12, hm12⟩ : ∃ x : am_M, x = am_st m11 9 (am_up (m11 9) (v1).toNat x2) := ⟨_, rfl⟩
              have h := h m12 hm12
              refine s_iast dX0_enter_121 kn9 kk9 kl9 c c2 hm12.symm ?_
              refine s_iload_n dX0_enter_122 rfl rfl ?_
              exact s_ireturn dX0_enter_123 (Or.inl rfl) ⟨⟨rfl, rfl⟩, _, rfl, h⟩
            · have h := h.2 cc
              refine s_bipush dX0_enter_53 (by decide) ?_
              exact s_ireturn dX0_enter_55 (Or.inl rfl) ⟨⟨rfl, rfl⟩, _, rfl, h⟩
      · have h := h.2 cc
        refine s_bipush dX0_enter_17 (by decide) ?_
        exact s_ireturn dX0_enter_19 (Or.inl rfl) ⟨⟨rfl, rfl⟩, _, rfl, h⟩
theorem ve_X0_enter {x1 x2 : Int} {μ : am_M} {Q : Int → am_M → Prop} (h : at_I kC 2 mX0_enter 0 [vR 7, vI x1, vI x2, vU] [] μ Q) : cl_I kC 2 mX0_enter [vR 7, vI x1, vI x2] μ Q := am_intro pmX0_enter (Nat.le_of_ble_eq_true rfl) rfl h
theorem sp_X0_enter {f t : Int} {μ : am_M} (H : Hl) (ht : hl_ (μ 7 2) (μ 8) (μ 9) H) (hl : H.length ≤ 12) : cl_I kC 2 mX0_enter [vR 7, vI f, vI t] μ (fun z m => z = (h_ent H f t).1 ∧ hk_ μ m (h_ent H f t).2) := by
  have hb := bef_aft f H
  have ht2 := ht
  rw [← hb] at ht2
  have hlen : H.length = (bef_ f H).length + (aft_ f H).length := by rw [← congrArg List.length hb]; simp
  have bad : ∀ z, (f < 0 ∨ 600 ≤ f ∨ t < 0 ∨ 99 < t) → z = (-2 : Int) → z = (h_ent H f t).1 ∧ hk_ μ μ (h_ent H f t).2 := fun z h1 h2 => by
    rw [show h_ent H f t = (-2, H) from cif_t h1]
    exact ⟨h2, hk_rf ht⟩
  refine ve_X0_enter (vc_X0_enter_0 ⟨fun h => bad _ (by omega) rfl, fun h1 => ⟨fun h => bad _ (by omega) rfl, fun h2 => ⟨fun h3 => ⟨by rw [ht.1]; ((try unfold am_in); (try unfold in_ at *); omega), fun v e => ?_⟩, fun h => bad _ (by omega) rfl⟩⟩⟩)
  rw [hl_un ht] at e
  have e0 : h_ent H f t = _ := cif_f (by omega)
  have hn := ht.1
  cases ha : aft_ f H with
  | nil =>
    rw [ha] at hlen ht2 e0
    simp at hlen
    refine ⟨fun _ => ⟨fun h4 => ⟨(by (try unfold am_in); (try unfold in_ at *); omega), (by (try unfold am_in); (try unfold in_ at *); omega), (by (try unfold am_in); (try unfold in_ at *); omega), (by (try unfold am_in); (try unfold in_ at *); omega), (by (try unfold am_in); (try unfold in_ at *); omega), (by (try unfold am_in); (try unfold in_ at *); omega), (by (try unfold am_in); (try unfold in_ at *); omega), fun m2 e2 => ⟨(by (try unfold am_in); (try unfold in_ at *); omega), (by (try unfold am_in); (try unfold in_ at *); omega), (by (try unfold am_in); (try unfold in_ at *); omega), (by (try unfold am_in); (try unfold in_ at *); omega), (by (try unfold am_in); (try unfold in_ at *); omega), (by (try unfold am_in); (try unfold in_ at *); omega), (by (try unfold am_in); (try unfold in_ at *); omega), fun m3 e3 => ⟨(by (try unfold am_in); (try unfold in_ at *); omega), fun m4 e4 => ⟨(by (try unfold am_in); (try unfold in_ at *); omega), (by (try unfold am_in); (try unfold in_ at *); omega), fun m5 e5 => ⟨(by (try unfold am_in); (try unfold in_ at *); omega), (by (try unfold am_in); (try unfold in_ at *); omega), fun m6 e6 => ?_⟩⟩⟩⟩⟩, fun h4 => ?_⟩, fun h4 => by omega⟩
    · rw [e0]
      simp only
      rw [if_neg (by omega)]
      exact ⟨e, hl_insM ht2 e e2 e3 e4 e5 e6⟩
    · rw [e0]
      simp only
      rw [if_pos (by omega)]
      exact ⟨rfl, hk_rf ht⟩
  | cons p B =>
    rw [ha] at hlen ht2 e0
    simp at hlen
    have v8 := hl_at ht2 e
    refine ⟨fun h4 => by omega, fun h4 => ⟨(by (try unfold am_in); (try unfold in_ at *); omega), (by (try unfold am_in); (try unfold in_ at *); omega), fun h5 => ⟨(by (try unfold am_in); (try unfold in_ at *); omega), (by (try unfold am_in); (try unfold in_ at *); omega), fun m e2 => ?_⟩, fun h5 => ⟨fun h4 => ⟨(by (try unfold am_in); (try unfold in_ at *); omega), (by (try unfold am_in); (try unfold in_ at *); omega), (by (try unfold am_in); (try unfold in_ at *); omega), (by (try unfold am_in); (try unfold in_ at *); omega), (by (try unfold am_in); (try unfold in_ at *); omega), (by (try unfold am_in); (try unfold in_ at *); omega), (by (try unfold am_in); (try unfold in_ at *); omega), fun m2 e2 => ⟨(by (try unfold am_in); (try unfold in_ at *); omega), (by (try unfold am_in); (try unfold in_ at *); omega), (by (try unfold am_in); (try unfold in_ at *); omega), (by (try unfold am_in); (try unfold in_ at *); omega), (by (try unfold am_in); (try unfold in_ at *); omega), (by (try unfold am_in); (try unfold in_ at *); omega), (by (try unfold am_in); (try unfold in_ at *); omega), fun m3 e3 => ⟨(by (try unfold am_in); (try unfold in_ at *); omega), fun m4 e4 => ⟨(by (try unfold am_in); (try unfold in_ at *); omega), (by (try unfold am_in); (try unfold in_ at *); omega), fun m5 e5 => ⟨(by (try unfold am_in); (try unfold in_ at *); omega), (by (try unfold am_in); (try unfold in_ at *); omega), fun m6 e6 => ?_⟩⟩⟩⟩⟩, fun h4 => ?_⟩⟩⟩
    · rw [v8.1] at h5
      rw [e0]
      simp only
      rw [if_pos h5]
      refine ⟨e, ?_, ?_, fun i q hi => ?_⟩
      · rw [e2]; exact fr_st (by simp)
      · rw [e2, st_n (by decide), hn, hlen]; simp
      · rw [e2, st_n (by decide), st_s]
        by_cases q1 : i = (bef_ f H).length
        · subst q1
          simp at hi
          subst hi
          have ev : v.toNat = (bef_ f H).length := by omega
          have := ht2.2 (bef_ f H).length p (by simp)
          rw [ev, up_s]
          exact ⟨this.1.trans h5, rfl⟩
        · rw [up_n (by omega)]
          refine ht2.2 i q ?_
          by_cases q2 : i < (bef_ f H).length
          · rw [List.getElem?_append_left q2] at hi ⊢
            exact hi
          · rw [List.getElem?_append_right (by omega), show i - (bef_ f H).length = (i - 1 - (bef_ f H).length) + 1 by omega, List.getElem?_cons_succ] at hi ⊢
            exact hi
    · rw [v8.1] at h5
      rw [e0]
      simp only
      rw [if_neg h5, if_neg (by omega)]
      exact ⟨e, hl_insM ht2 e e2 e3 e4 e5 e6⟩
    · rw [v8.1] at h5
      rw [e0]
      simp only
      rw [if_neg h5, if_pos (by omega)]
      exact ⟨rfl, hk_rf ht⟩
/-- drop a chapter -/
noncomputable def h_out (H : Hl) (c : Int) : Int × Hl := cif (¬ (0 ≤ c ∧ c < H.length)) (-1, H) ((H.length : Int) - 1, H.eraseIdx c.toNat)
theorem am_cpd {g : Nat → Int} {v n : Int} (h0 : 0 ≤ v) {i : Nat} (hi : (i : Int) < n - 1) : am_cp g g (v + 1) v ((n - 1) - v) i = if (i : Int) < v then g i else g (i + 1) := by
  unfold am_cp
  by_cases q : (i : Int) < v
  · rw [if_neg (by omega), if_pos q]
  · rw [if_pos (by omega), if_neg q]
    congr 1
    omega
theorem vc_X0_takeOut_0 {x1 : Int} {μ : am_M} {Q : Int → am_M → Prop} (h : (0 ≤ x1 ∧ x1 < μ 7 2 → (am_in (μ 7 2 - 1)) ∧ (∀ m1 : am_M, m1 = am_st μ 7 (am_up (μ 7) 2 (μ 7 2 - 1)) → (am_in (x1 + 1)) ∧ ((am_in ((μ 7 2 - 1) - x1)) ∧ ((0 ≤ x1 + 1) ∧ (0 ≤ x1) ∧ (0 ≤ (μ 7 2 - 1) - x1) ∧ (x1 + 1 + ((μ 7 2 - 1) - x1) ≤ 12) ∧ (x1 + ((μ 7 2 - 1) - x1) ≤ 12) ∧ (∀ m2 : am_M, m2 = am_st m1 8 (am_cp (m1 8) (m1 8) (x1 + 1) x1 ((μ 7 2 - 1) - x1)) → (am_in (x1 + 1)) ∧ ((am_in ((μ 7 2 - 1) - x1)) ∧ ((0 ≤ x1 + 1) ∧ (0 ≤ x1) ∧ (0 ≤ (μ 7 2 - 1) - x1) ∧ (x1 + 1 + ((μ 7 2 - 1) - x1) ≤ 12) ∧ (x1 + ((μ 7 2 - 1) - x1) ≤ 12) ∧ (∀ m3 : am_M, m3 = am_st m2 9 (am_cp (m2 9) (m2 9) (x1 + 1) x1 ((μ 7 2 - 1) - x1)) → Q (μ 7 2 - 1) m3)))))))) ∧ (¬ (0 ≤ x1 ∧ x1 < μ 7 2) → Q (-1) μ)) : at_I kC 2 mX0_takeOut 0 [vR 7, vI x1] [] μ Q := by
  refine s_aload_n dX0_takeOut_0 rfl rfl ?_
  refine s_iload_n dX0_takeOut_1 rfl rfl ?_
  refine s_callV (As := [vI x1]) (rest := []) (k := 7) dX0_takeOut_2 lkX0_26 kn7 ⟨by rw [kk7]; rfl, by rw [kk7]; decide⟩ lmX0_has rfl rfl (Nat.le_of_ble_eq_true rfl) (by decide) (Nat.le_refl 0) (Nat.le_refl 0) (hC := sp_X0_has (Q := fun z m => bI (0 ≤ x1 ∧ x1 < μ 7 2) = z ∧ μ = m)  ⟨rfl, rfl⟩) (fun r n2 S2 m2 hP => ?_)
  obtain ⟨⟨rfl, rfl⟩, z, rfl, rfl, rfl⟩ := hP
  refine s_if_ne dX0_takeOut_5 (tgt := 10) (by decide) (fun cc => ?_) (fun cc => ?_)
  · have h := h.1 (bI_ne cc)
    refine s_aload_n dX0_takeOut_10 rfl rfl ?_
    refine s_dup dX0_takeOut_11 ?_
    refine s_getI (x := (μ 7 2)) dX0_takeOut_12 flX0_18 kn7 kk7 rfl rfl ?_
    refine s_iconst dX0_takeOut_15 (by decide) ?_
    obtain ⟨c, h⟩ := h
    refine s_isub dX0_takeOut_16 (am_w_id c) ?_
    obtain ⟨m1, hm1⟩ : ∃ x : am_M, x = am_st μ 7 (am_up (μ 7) 2 (μ 7 2 - 1)) := ⟨_, rfl⟩
    have h := h m1 hm1
    refine s_putI dX0_takeOut_17 flX0_18 kn7 kk7 rfl rfl (Or.inl rfl) hm1.symm ?_
    refine s_aload_n dX0_takeOut_20 rfl rfl ?_
    refine s_getR dX0_takeOut_21 flX0_9 kn7 kk7 rfl kr7_0 ?_
    refine s_iload_n dX0_takeOut_24 rfl rfl ?_
    refine s_iconst dX0_takeOut_25 (by decide) ?_
    obtain ⟨c, h⟩ := h
    refine s_iadd dX0_takeOut_26 (am_w_id c) ?_
    refine s_aload_n dX0_takeOut_27 rfl rfl ?_
    refine s_getR dX0_takeOut_28 flX0_9 kn7 kk7 rfl kr7_0 ?_
    refine s_iload_n dX0_takeOut_31 rfl rfl ?_
    refine s_aload_n dX0_takeOut_32 rfl rfl ?_
    refine s_getI (x := (μ 7 2 - 1)) dX0_takeOut_33 flX0_18 kn7 kk7 rfl (by subst hm1; rfl) ?_
    refine s_iload_n dX0_takeOut_36 rfl rfl ?_
    obtain ⟨c, h⟩ := h
    refine s_isub dX0_takeOut_37 (am_w_id c) ?_
    obtain ⟨c1, c2, c3, c4, c5, h⟩ := h
    obtain ⟨m2, hm2⟩ : ∃ x : am_M, x = am_st m1 8 (am_cp (m1 8) (m1 8) (x1 + 1) x1 ((μ 7 2 - 1) - x1)) := ⟨_, rfl⟩
    have h := h m2 hm2
    refine s_acopy dX0_takeOut_38 waX0_33 kn8 kk8 kl8 kn8 kk8 kl8 (Nat.le_of_ble_eq_true rfl) (by decide) c1 c2 c3 c4 c5 hm2.symm ?_
    refine s_aload_n dX0_takeOut_41 rfl rfl ?_
    refine s_getR dX0_takeOut_42 flX0_15 kn7 kk7 rfl kr7_1 ?_
    refine s_iload_n dX0_takeOut_45 rfl rfl ?_
    refine s_iconst dX0_takeOut_46 (by decide) ?_
    obtain ⟨c, h⟩ := h
    refine s_iadd dX0_takeOut_47 (am_w_id c) ?_
    refine s_aload_n dX0_takeOut_48 rfl rfl ?_
    refine s_getR dX0_takeOut_49 flX0_15 kn7 kk7 rfl kr7_1 ?_
    refine s_iload_n dX0_takeOut_52 rfl rfl ?_
    refine s_aload_n dX0_takeOut_53 rfl rfl ?_
    refine s_getI (x := (μ 7 2 - 1)) dX0_takeOut_54 flX0_18 kn7 kk7 rfl (by subst hm2; subst hm1; rfl) ?_
    refine s_iload_n dX0_takeOut_57 rfl rfl ?_
    obtain ⟨c, h⟩ := h
    refine s_isub dX0_takeOut_58 (am_w_id c) ?_
    obtain ⟨c1, c2, c3, c4, c5, h⟩ := h
    obtain ⟨m3, hm3⟩ : ∃ x : am_M, x = am_st m2 9 (am_cp (m2 9) (m2 9) (x1 + 1) x1 ((μ 7 2 - 1) - x1)) := ⟨_, rfl⟩
    have h := h m3 hm3
    refine s_acopy dX0_takeOut_59 waX0_33 kn9 kk9 kl9 kn9 kk9 kl9 (Nat.le_of_ble_eq_true rfl) (by decide) c1 c2 c3 c4 c5 hm3.symm ?_
    refine s_aload_n dX0_takeOut_62 rfl rfl ?_
    refine s_getI (x := (μ 7 2 - 1)) dX0_takeOut_63 flX0_18 kn7 kk7 rfl (by subst hm3; subst hm2; subst hm1; rfl) ?_
    exact s_ireturn dX0_takeOut_66 (Or.inl rfl) ⟨⟨rfl, rfl⟩, _, rfl, h⟩
  · have h := h.2 (bI_eq cc)
    refine s_iconst dX0_takeOut_8 (by decide) ?_
    exact s_ireturn dX0_takeOut_9 (Or.inl rfl) ⟨⟨rfl, rfl⟩, _, rfl, h⟩
theorem ve_X0_takeOut {x1 : Int} {μ : am_M} {Q : Int → am_M → Prop} (h : at_I kC 2 mX0_takeOut 0 [vR 7, vI x1] [] μ Q) : cl_I kC 2 mX0_takeOut [vR 7, vI x1] μ Q := am_intro pmX0_takeOut (Nat.le_of_ble_eq_true rfl) rfl h
theorem sp_X0_takeOut {c : Int} {μ : am_M} (H : Hl) (ht : hl_ (μ 7 2) (μ 8) (μ 9) H) (hl : H.length ≤ 12) : cl_I kC 2 mX0_takeOut [vR 7, vI c] μ (fun z m => z = (h_out H c).1 ∧ hk_ μ m (h_out H c).2) := by
  have hn := ht.1
  refine ve_X0_takeOut (vc_X0_takeOut_0 ⟨fun hc => ⟨(by (try unfold am_in); (try unfold in_ at *); omega), fun m1 e1 => ⟨(by (try unfold am_in); (try unfold in_ at *); omega), (by (try unfold am_in); (try unfold in_ at *); omega), (by (try unfold am_in); (try unfold in_ at *); omega), (by (try unfold am_in); (try unfold in_ at *); omega), (by (try unfold am_in); (try unfold in_ at *); omega), (by (try unfold am_in); (try unfold in_ at *); omega), (by (try unfold am_in); (try unfold in_ at *); omega), fun m2 e2 => ⟨(by (try unfold am_in); (try unfold in_ at *); omega), (by (try unfold am_in); (try unfold in_ at *); omega), (by (try unfold am_in); (try unfold in_ at *); omega), (by (try unfold am_in); (try unfold in_ at *); omega), (by (try unfold am_in); (try unfold in_ at *); omega), (by (try unfold am_in); (try unfold in_ at *); omega), (by (try unfold am_in); (try unfold in_ at *); omega), fun m3 e3 => ?_⟩⟩⟩, fun hc => ?_⟩)
  · rw [show h_out H c = ((H.length : Int) - 1, H.eraseIdx c.toNat) from cif_f (by omega)]
    refine ⟨by rw [hn], ?_, ?_, fun i p hi => ?_⟩
    · rw [e3, e2, e1]
      intro k hk
      rw [st_n (fun e => hk (by simp [e])), st_n (fun e => hk (by simp [e])), st_n (fun e => hk (by simp [e]))]
    · rw [e3, st_n (by decide), e2, st_n (by decide), e1, st_s, up_s, hn]
      simp only
      rw [List.length_eraseIdx, if_pos (by omega)]
      omega
    · have hi2 : i < H.length - 1 := by
        have := (List.getElem?_eq_some_iff.mp hi).1
        rw [List.length_eraseIdx, if_pos (by omega)] at this
        exact this
      have e8 : m3 8 = am_cp (μ 8) (μ 8) (c + 1) c ((μ 7 2 - 1) - c) := by rw [e3, st_n (by decide), e2, st_s, e1, st_n (by decide)]
      have e9 : m3 9 = am_cp (μ 9) (μ 9) (c + 1) c ((μ 7 2 - 1) - c) := by rw [e3, st_s, e2, st_n (by decide), e1, st_n (by decide)]
      rw [e8, e9, am_cpd hc.1 (by omega), am_cpd hc.1 (by omega)]
      simp only at hi
      rw [List.getElem?_eraseIdx] at hi
      by_cases q : (i : Int) < c
      · rw [if_pos q, if_pos q]
        rw [if_pos (by omega)] at hi
        exact ht.2 i p hi
      · rw [if_neg q, if_neg q]
        rw [if_neg (by omega)] at hi
        exact ht.2 (i + 1) p hi
  · rw [show h_out H c = (-1, H) from cif_t (by rw [← hn]; exact hc)]
    exact ⟨rfl, hk_rf ht⟩
/-- where a cut brings a chapter; of those at one frame the first stays -/
def mvF (a b : Int) (p : Int × Int) : Int × Int := (if p.1 < b then (if a < p.1 then a else p.1) else p.1 - (b - a), p.2)
def h_ded : Option Int → Hl → Hl
  | _, [] => []
  | l, p :: H => if l = some p.1 then h_ded l H else p :: h_ded (some p.1) H
def h_cut (a b : Int) (H : Hl) : Hl := h_ded none (H.map (mvF a b))
def lastF (K : Hl) : Option Int := K.getLast?.map (fun p => p.1)
theorem lastF_app (K : Hl) (p : Int × Int) : lastF (K ++ [p]) = some p.1 := by simp [lastF]
theorem vc_X0_takeFrames_0 {x1 x2 : Int} {μ : am_M} {Q : am_M → Prop} (h : at_V kC 1 mX0_takeFrames 5 [vR 7, vI x1, vI x2, vI 0, vI 0, vU] [] μ Q) : at_V kC 1 mX0_takeFrames 0 [vR 7, vI x1, vI x2, vU, vU, vU] [] μ Q := by
  refine s_iconst dX0_takeFrames_0 (by decide) ?_
  refine s_istore_n dX0_takeFrames_1 rfl (by decide) (L' := [vR 7, vI x1, vI x2, vI 0, vU, vU]) rfl ?_
  refine s_iconst dX0_takeFrames_2 (by decide) ?_
  refine s_istore dX0_takeFrames_3 (by decide) (L' := [vR 7, vI x1, vI x2, vI 0, vI 0, vU]) rfl ?_
  exact h
theorem vc_X0_takeFrames_5 {x1 x2 x3 x4 : Int} {μ : am_M} {Q : am_M → Prop} (h : (μ 7 2 ≤ x4 → ∀ m1 : am_M, m1 = am_st μ 7 (am_up (μ 7) 2 x3) → Q m1) ∧ (x4 < μ 7 2 → (0 ≤ x4) ∧ (x4 < 12) ∧ (((x2 ≤ μ 8 ((x4).toNat) → (am_in (x2 - x1)) ∧ ((am_in ((μ 8 ((x4).toNat)) - (x2 - x1)))))) ∧ (∀ v2 : Int, v2 = (if μ 8 ((x4).toNat) < x2 then (if x1 < μ 8 ((x4).toNat) then x1 else μ 8 ((x4).toNat)) else (μ 8 ((x4).toNat)) - (x2 - x1)) → (x3 = 0 → (0 ≤ x3) ∧ (x3 < 12) ∧ (∀ m3 : am_M, m3 = am_st μ 8 (am_up (μ 8) (x3).toNat v2) → (0 ≤ x4) ∧ (x4 < 12) ∧ ((0 ≤ x3) ∧ (x3 < 12) ∧ (∀ m4 : am_M, m4 = am_st m3 9 (am_up (m3 9) (x3).toNat (μ 9 ((x4).toNat))) → (am_in (x3 + 1)) ∧ ((am_in (x4 + 1)) ∧ (at_V kC 1 mX0_takeFrames 5 [vR 7, vI x1, vI x2, vI (x3 + 1), vI (x4 + 1), vU] [] m4 Q)))))) ∧ (x3 ≠ 0 → (am_in (x3 - 1)) ∧ ((0 ≤ x3 - 1) ∧ (x3 - 1 < 12) ∧ ((μ 8 ((x3 - 1).toNat) = v2 → (am_in (x4 + 1)) ∧ (at_V kC 1 mX0_takeFrames 5 [vR 7, vI x1, vI x2, vI x3, vI (x4 + 1), vU] [] μ Q)) ∧ (μ 8 ((x3 - 1).toNat) ≠ v2 → (0 ≤ x3) ∧ (x3 < 12) ∧ (∀ m5 : am_M, m5 = am_st μ 8 (am_up (μ 8) (x3).toNat v2) → (0 ≤ x4) ∧ (x4 < 12) ∧ ((0 ≤ x3) ∧ (x3 < 12) ∧ (∀ m6 : am_M, m6 = am_st m5 9 (am_up (m5 9) (x3).toNat (μ 9 ((x4).toNat))) → (am_in (x3 + 1)) ∧ ((am_in (x4 + 1)) ∧ (at_V kC 1 mX0_takeFrames 5 [vR 7, vI x1, vI x2, vI (x3 + 1), vI (x4 + 1), vU] [] m6 Q))))))))))))) : at_V kC 1 mX0_takeFrames 5 [vR 7, vI x1, vI x2, vI x3, vI x4, vU] [] μ Q := by
  refine s_iload dX0_takeFrames_5 rfl ?_
  refine s_aload_n dX0_takeFrames_7 rfl rfl ?_
  refine s_getI (x := (μ 7 2)) dX0_takeFrames_8 flX0_18 kn7 kk7 rfl rfl ?_
  refine s_icmp_ge dX0_takeFrames_11 (tgt := 96) (by decide) (fun cc => ?_) (fun cc => ?_)
  · have h := h.1 cc
    refine s_aload_n dX0_takeFrames_96 rfl rfl ?_
    refine s_iload_n dX0_takeFrames_97 rfl rfl ?_
    obtain ⟨m1, hm1⟩ : ∃ x : am_M, x = am_st μ 7 (am_up (μ 7) 2 x3) := ⟨_, rfl⟩
    have h := h m1 hm1
    refine s_putI dX0_takeFrames_98 flX0_18 kn7 kk7 rfl rfl (Or.inl rfl) hm1.symm ?_
    exact s_return dX0_takeFrames_101 rfl ⟨⟨rfl, rfl⟩, rfl, h⟩
  · have h := h.2 cc
    refine s_aload_n dX0_takeFrames_14 rfl rfl ?_
    refine s_getR dX0_takeFrames_15 flX0_9 kn7 kk7 rfl kr7_0 ?_
    refine s_iload dX0_takeFrames_18 rfl ?_
    obtain ⟨c, c2, h⟩ := h
    refine s_iald (x := (μ 8 ((x4).toNat))) dX0_takeFrames_20 kn8 kk8 kl8 c c2 rfl ?_
    refine s_istore dX0_takeFrames_21 (by decide) (L' := [vR 7, vI x1, vI x2, vI x3, vI x4, vI (μ 8 ((x4).toNat))]) rfl ?_
    refine s_iload dX0_takeFrames_23 rfl ?_
    refine s_iload_n dX0_takeFrames_25 rfl rfl ?_
    obtain ⟨hsd, h⟩ := h
    have kj7 : ∀ (v2 : Int), ((x3 = 0 → (0 ≤ x3) ∧ (x3 < 12) ∧ (∀ m3 : am_M, m3 = am_st μ 8 (am_up (μ 8) (x3).toNat v2) → (0 ≤ x4) ∧ (x4 < 12) ∧ ((0 ≤ x3) ∧ (x3 < 12) ∧ (∀ m4 : am_M, m4 = am_st m3 9 (am_up (m3 9) (x3).toNat (μ 9 ((x4).toNat))) → (am_in (x3 + 1)) ∧ ((am_in (x4 + 1)) ∧ (at_V kC 1 mX0_takeFrames 5 [vR 7, vI x1, vI x2, vI (x3 + 1), vI (x4 + 1), vU] [] m4 Q)))))) ∧ (x3 ≠ 0 → (am_in (x3 - 1)) ∧ ((0 ≤ x3 - 1) ∧ (x3 - 1 < 12) ∧ ((μ 8 ((x3 - 1).toNat) = v2 → (am_in (x4 + 1)) ∧ (at_V kC 1 mX0_takeFrames 5 [vR 7, vI x1, vI x2, vI x3, vI (x4 + 1), vU] [] μ Q)) ∧ (μ 8 ((x3 - 1).toNat) ≠ v2 → (0 ≤ x3) ∧ (x3 < 12) ∧ (∀ m5 : am_M, m5 = am_st μ 8 (am_up (μ 8) (x3).toNat v2) → (0 ≤ x4) ∧ (x4 < 12) ∧ ((0 ≤ x3) ∧ (x3 < 12) ∧ (∀ m6 : am_M, m6 = am_st m5 9 (am_up (m5 9) (x3).toNat (μ 9 ((x4).toNat))) → (am_in (x3 + 1)) ∧ ((am_in (x4 + 1)) ∧ (at_V kC 1 mX0_takeFrames 5 [vR 7, vI x1, vI x2, vI (x3 + 1), vI (x4 + 1), vU] [] m6 Q)))))))))) → at_V kC 1 mX0_takeFrames 49 [vR 7, vI x1, vI x2, vI x3, vI x4, vI v2] [] μ Q := by
      intro v2 h
      refine s_iload_n dX0_takeFrames_49 rfl rfl ?_
      refine s_if_eq dX0_takeFrames_50 (tgt := 66) (by decide) (fun cc => ?_) (fun cc => ?_)
      · have h := h.1 cc
        refine s_aload_n dX0_takeFrames_66 rfl rfl ?_
        refine s_getR dX0_takeFrames_67 flX0_9 kn7 kk7 rfl kr7_0 ?_
        refine s_iload_n dX0_takeFrames_70 rfl rfl ?_
        refine s_iload dX0_takeFrames_71 rfl ?_
        obtain ⟨c, c2, h⟩ := h
        obtain ⟨m3, hm3⟩ : ∃ x : am_M, x = am_st μ 8 (am_up (μ 8) (x3).toNat v2) := ⟨_, rfl⟩
        have h := h m3 hm3
        refine s_iast dX0_takeFrames_73 kn8 kk8 kl8 c c2 hm3.symm ?_
        refine s_aload_n dX0_takeFrames_74 rfl rfl ?_
        refine s_getR dX0_takeFrames_75 flX0_15 kn7 kk7 rfl kr7_1 ?_
        refine s_iload_n dX0_takeFrames_78 rfl rfl ?_
        refine s_aload_n dX0_takeFrames_79 rfl rfl ?_
        refine s_getR dX0_takeFrames_80 flX0_15 kn7 kk7 rfl kr7_1 ?_
        refine s_iload dX0_takeFrames_83 rfl ?_
        obtain ⟨c, c2, h⟩ := h
        refine s_iald (x := (μ 9 ((x4).toNat))) dX0_takeFrames_85 kn9 kk9 kl9 c c2 (by subst hm3; rfl) ?_
        obtain ⟨c, c2, h⟩ := h
        obtain ⟨m4, hm4⟩ : ∃ x : am_M, x = am_st m3 9 (am_up (m3 9) (x3).toNat (μ 9 ((x4).toNat))) := ⟨_, rfl⟩
        have h := h m4 hm4
        refine s_iast dX0_takeFrames_86 kn9 kk9 kl9 c c2 hm4.symm ?_
        obtain ⟨c, h⟩ := h
        refine s_iinc dX0_takeFrames_87 rfl (am_w_id c) (by decide) (L' := [vR 7, vI x1, vI x2, vI (x3 + 1), vI x4, vI v2]) rfl ?_
        obtain ⟨c, h⟩ := h
        refine s_iinc dX0_takeFrames_90 rfl (am_w_id c) (by decide) (L' := [vR 7, vI x1, vI x2, vI (x3 + 1), vI (x4 + 1), vI v2]) rfl ?_
        refine s_goto dX0_takeFrames_93 (tgt := 5) (by decide) ?_
        exact am_lesS h ⟨Or.inr rfl, Or.inr rfl, Or.inr rfl, Or.inr rfl, Or.inr rfl, Or.inl rfl, trivial⟩
      · have h := h.2 cc
        refine s_aload_n dX0_takeFrames_53 rfl rfl ?_
        refine s_getR dX0_takeFrames_54 flX0_9 kn7 kk7 rfl kr7_0 ?_
        refine s_iload_n dX0_takeFrames_57 rfl rfl ?_
        refine s_iconst dX0_takeFrames_58 (by decide) ?_
        obtain ⟨c, h⟩ := h
        refine s_isub dX0_takeFrames_59 (am_w_id c) ?_
        obtain ⟨c, c2, h⟩ := h
        refine s_iald (x := (μ 8 ((x3 - 1).toNat))) dX0_takeFrames_60 kn8 kk8 kl8 c c2 rfl ?_
        refine s_iload dX0_takeFrames_61 rfl ?_
        refine s_icmp_eq dX0_takeFrames_63 (tgt := 90) (by decide) (fun cc => ?_) (fun cc => ?_)
        · have h := h.1 cc
          obtain ⟨c, h⟩ := h
          refine s_iinc dX0_takeFrames_90 rfl (am_w_id c) (by decide) (L' := [vR 7, vI x1, vI x2, vI x3, vI (x4 + 1), vI v2]) rfl ?_
          refine s_goto dX0_takeFrames_93 (tgt := 5) (by decide) ?_
          exact am_lesS h ⟨Or.inr rfl, Or.inr rfl, Or.inr rfl, Or.inr rfl, Or.inr rfl, Or.inl rfl, trivial⟩
        · have h := h.2 cc
          refine s_aload_n dX0_takeFrames_66 rfl rfl ?_
          refine s_getR dX0_takeFrames_67 flX0_9 kn7 kk7 rfl kr7_0 ?_
          refine s_iload_n dX0_takeFrames_70 rfl rfl ?_
          refine s_iload dX0_takeFrames_71 rfl ?_
          obtain ⟨c, c2, h⟩ := h
          obtain ⟨m5, hm5⟩ : ∃ x : am_M, x = am_st μ 8 (am_up (μ 8) (x3).toNat v2) := ⟨_, rfl⟩
          have h := h m5 hm5
          refine s_iast dX0_takeFrames_73 kn8 kk8 kl8 c c2 hm5.symm ?_
          refine s_aload_n dX0_takeFrames_74 rfl rfl ?_
          refine s_getR dX0_takeFrames_75 flX0_15 kn7 kk7 rfl kr7_1 ?_
          refine s_iload_n dX0_takeFrames_78 rfl rfl ?_
          refine s_aload_n dX0_takeFrames_79 rfl rfl ?_
          refine s_getR dX0_takeFrames_80 flX0_15 kn7 kk7 rfl kr7_1 ?_
          refine s_iload dX0_takeFrames_83 rfl ?_
          obtain ⟨c, c2, h⟩ := h
          refine s_iald (x := (μ 9 ((x4).toNat))) dX0_takeFrames_85 kn9 kk9 kl9 c c2 (by subst hm5; rfl) ?_
          obtain ⟨c, c2, h⟩ := h
          obtain ⟨m6, hm6⟩ : ∃ x : am_M, x = am_st m5 9 (am_up (m5 9) (x3).toNat (μ 9 ((x4).toNat))) := ⟨_, rfl⟩
          have h := h m6 hm6
          refine s_iast dX0_takeFrames_86 kn9 kk9 kl9 c c2 hm6.symm ?_
          obtain ⟨c, h⟩ := h
          refine s_iinc dX0_takeFrames_87 rfl (am_w_id c) (by decide) (L' := [vR 7, vI x1, vI x2, vI (x3 + 1), vI x4, vI v2]) rfl ?_
          obtain ⟨c, h⟩ := h
          refine s_iinc dX0_takeFrames_90 rfl (am_w_id c) (by decide) (L' := [vR 7, vI x1, vI x2, vI (x3 + 1), vI (x4 + 1), vI v2]) rfl ?_
          refine s_goto dX0_takeFrames_93 (tgt := 5) (by decide) ?_
          exact am_lesS h ⟨Or.inr rfl, Or.inr rfl, Or.inr rfl, Or.inr rfl, Or.inr rfl, Or.inl rfl, trivial⟩
    refine s_icmp_lt dX0_takeFrames_26 (tgt := 40) (by decide) (fun cc => ?_) (fun cc => ?_)
    · have hp0 := cc
      refine s_iload dX0_takeFrames_40 rfl ?_
      refine s_iload_n dX0_takeFrames_42 rfl rfl ?_
      refine s_icmp_le dX0_takeFrames_43 (tgt := 49) (by decide) (fun cc => ?_) (fun cc => ?_)
      · have hp1 := cc
        exact kj7 (μ 8 ((x4).toNat)) (h (μ 8 ((x4).toNat)) (by rw [if_pos hp0, if_neg (Int.not_lt.mpr hp1)]))
      · have hp1 := cc
        refine s_iload_n dX0_takeFrames_46 rfl rfl ?_
        refine s_istore dX0_takeFrames_47 (by decide) (L' := [vR 7, vI x1, vI x2, vI x3, vI x4, vI x1]) rfl ?_
        exact kj7 x1 (h x1 (by rw [if_pos hp0, if_pos hp1]))
    · have hp0 := cc
      have hsd := hsd hp0
      refine s_iload dX0_takeFrames_29 rfl ?_
      refine s_iload_n dX0_takeFrames_31 rfl rfl ?_
      refine s_iload_n dX0_takeFrames_32 rfl rfl ?_
      obtain ⟨c, hsd⟩ := hsd
      refine s_isub dX0_takeFrames_33 (am_w_id c) ?_
      have c := hsd
      refine s_isub dX0_takeFrames_34 (am_w_id c) ?_
      refine s_istore dX0_takeFrames_35 (by decide) (L' := [vR 7, vI x1, vI x2, vI x3, vI x4, vI ((μ 8 ((x4).toNat)) - (x2 - x1))]) rfl ?_
      refine s_goto dX0_takeFrames_37 (tgt := 49) (by decide) ?_
      exact kj7 ((μ 8 ((x4).toNat)) - (x2 - x1)) (h ((μ 8 ((x4).toNat)) - (x2 - x1)) (by rw [if_neg (Int.not_lt.mpr hp0)]))
theorem ve_X0_takeFrames {x1 x2 : Int} {μ : am_M} {Q : am_M → Prop} (h : at_V kC 1 mX0_takeFrames 0 [vR 7, vI x1, vI x2, vU, vU, vU] [] μ Q) : cl_V kC 1 mX0_takeFrames [vR 7, vI x1, vI x2] μ Q := am_intro pmX0_takeFrames (Nat.le_of_ble_eq_true rfl) rfl h
theorem lp_X0_takeFrames {a b : Int} (hab : 0 ≤ a ∧ a < b ∧ b ≤ 600) {μ0 : am_M} {H : Hl} (hl : H.length ≤ 12) (hok : ∀ p ∈ H, in_ 0 600 p.1) {Q : am_M → Prop} (hQ : ∀ m, hk_ μ0 m (h_cut a b H) → Q m) : ∀ (B A K : Hl) (x3 x4 : Int) (μ : am_M), H = A ++ B → x4 = A.length → x3 = K.length → K.length ≤ A.length → h_cut a b H = K ++ h_ded (lastF K) (B.map (mvF a b)) → fr_ [7, 8, 9] μ0 μ → μ 7 2 = H.length → (∀ (i : Nat) (p : Int × Int), K[i]? = some p → μ 8 i = p.1 ∧ μ 9 i = p.2) → (∀ (i : Nat) (p : Int × Int), B[i]? = some p → μ 8 (A.length + i) = p.1 ∧ μ 9 (A.length + i) = p.2) → at_V kC 1 mX0_takeFrames 5 [vR 7, vI a, vI b, vI x3, vI x4, vU] [] μ Q := by
  intro B
  induction B with
  | nil =>
    intro A K x3 x4 μ hL hx4 hx3 hK hc hfr hn hk hb
    simp at hL
    subst hL
    refine vc_X0_takeFrames_5 ⟨fun _ m e => hQ m ⟨?_, ?_, fun i p hi => ?_⟩, fun q => by rw [hn] at q; omega⟩
    · rw [e]
      exact fr_tr hfr (fr_st (by simp))
    · rw [e, st_s, up_s, hc, hx3]
      simp [h_ded]
    · rw [e, st_n (by decide), st_n (by decide)]
      rw [hc] at hi
      simp [h_ded] at hi
      exact hk i p hi
  | cons p B ih =>
    intro A K x3 x4 μ hL hx4 hx3 hK hc hfr hn hk hb
    have hll : H.length = A.length + 1 + B.length := by rw [hL]; simp; omega
    have hp := hb 0 p rfl
    simp at hp
    have e4 : x4.toNat = A.length := by omega
    have hpo := hok p (by rw [hL]; simp)
    rw [← e4] at hp
    have hbn : ∀ (m : am_M), (∀ j : Nat, A.length < j → m 8 j = μ 8 j ∧ m 9 j = μ 9 j) → ∀ (i : Nat) (q : Int × Int), B[i]? = some q → m 8 ((A ++ [p]).length + i) = q.1 ∧ m 9 ((A ++ [p]).length + i) = q.2 := fun m hm i q hi => by
      have := hb (i + 1) q (by simpa using hi)
      have h2 := hm ((A ++ [p]).length + i) (by simp; omega)
      rw [h2.1, h2.2, show (A ++ [p]).length + i = A.length + (i + 1) by simp; omega]
      exact this
    refine vc_X0_takeFrames_5 ⟨fun q => by rw [hn] at q; omega, fun q => ⟨by omega, by omega, fun _ => ⟨(by (try unfold am_in); (try unfold in_ at *); omega), by rw [hp.1]; ((try unfold am_in); (try unfold in_ at *); omega)⟩, fun v ev => ?_⟩⟩
    rw [hp.1] at ev
    have evp : v = (mvF a b p).1 := by rw [ev]; rfl
    have hmv : mvF a b p = (v, p.2) := by rw [evp]; rfl
    have ins : ∀ m3 m4 : am_M, lastF K ≠ some v → m3 = am_st μ 8 (am_up (μ 8) x3.toNat v) → m4 = am_st m3 9 (am_up (m3 9) x3.toNat (μ 9 x4.toNat)) → at_V kC 1 mX0_takeFrames 5 [vR 7, vI a, vI b, vI (x3 + 1), vI (x4 + 1), vU] [] m4 Q := fun m3 m4 hne e3 e4' => by
      have w8 : m4 8 = am_up (μ 8) x3.toNat v := by rw [e4', st_n (by decide), e3, st_s]
      have w9 : m4 9 = am_up (μ 9) x3.toNat p.2 := by rw [e4', st_s, hp.2, e3, st_n (by decide)]
      refine ih (A ++ [p]) (K ++ [(v, p.2)]) (x3 + 1) (x4 + 1) m4 (by rw [hL]; simp) (by simp; omega) (by simp; omega) (by simp; omega) ?_ ?_ ?_ (fun i s hi => ?_) (hbn m4 (fun j hj => ?_))
      · rw [hc, List.map_cons, hmv, lastF_app]
        show K ++ (if lastF K = some v then _ else _) = _
        rw [if_neg hne]
        simp
      · rw [e4', e3]
        exact fr_tr hfr (fr_tr (fr_st (by simp)) (fr_st (by simp)))
      · rw [e4', st_n (by decide), e3, st_n (by decide), hn]
      · rw [w8, w9]
        by_cases q1 : i = K.length
        · subst q1
          simp at hi
          subst hi
          rw [show x3.toNat = K.length by omega, up_s, up_s]
          exact ⟨rfl, rfl⟩
        · have : i < K.length := by
            have := (List.getElem?_eq_some_iff.mp hi).1
            simp at this
            omega
          rw [up_n (by omega), up_n (by omega)]
          rw [List.getElem?_append_left this] at hi
          exact hk i s hi
      · rw [w8, w9, up_n (by omega), up_n (by omega)]
        exact ⟨rfl, rfl⟩
    have hlast : x3 ≠ 0 → lastF K = some (μ 8 (x3 - 1).toNat) := fun h => by
      have hk0 : K.length - 1 < K.length := by omega
      have h1 := hk (K.length - 1) _ (List.getElem?_eq_getElem hk0)
      unfold lastF
      rw [List.getLast?_eq_getElem?, List.getElem?_eq_getElem hk0]
      rw [show (x3 - 1).toNat = K.length - 1 by omega, h1.1]
      rfl
    refine ⟨fun h0 => ⟨by omega, by omega, fun m3 e3 => ⟨by omega, by omega, by omega, by omega, fun m4 e4' => ⟨(by (try unfold am_in); (try unfold in_ at *); omega), (by (try unfold am_in); (try unfold in_ at *); omega), ins m3 m4 ?_ e3 e4'⟩⟩⟩, fun h0 => ⟨(by (try unfold am_in); (try unfold in_ at *); omega), by omega, by omega, fun h1 => ⟨(by (try unfold am_in); (try unfold in_ at *); omega), ?_⟩, fun h1 => ⟨by omega, by omega, fun m3 e3 => ⟨by omega, by omega, by omega, by omega, fun m4 e4' => ⟨(by (try unfold am_in); (try unfold in_ at *); omega), (by (try unfold am_in); (try unfold in_ at *); omega), ins m3 m4 ?_ e3 e4'⟩⟩⟩⟩⟩
    · have : K = [] := List.eq_nil_of_length_eq_zero (by omega)
      subst this
      simp [lastF]
    · refine ih (A ++ [p]) K x3 (x4 + 1) μ (by rw [hL]; simp) (by simp; omega) hx3 (by simp; omega) ?_ hfr hn hk (hbn μ (fun j _ => ⟨rfl, rfl⟩))
      rw [hc, List.map_cons, hmv]
      show K ++ (if lastF K = some v then _ else _) = _
      rw [if_pos (by rw [hlast h0, h1])]
    · rw [hlast h0]
      intro h
      exact h1 (Option.some.inj h)
theorem sp_X0_takeFrames {a b : Int} {μ : am_M} (H : Hl) (hab : 0 ≤ a ∧ a < b ∧ b ≤ 600) (ht : hl_ (μ 7 2) (μ 8) (μ 9) H) (hl : H.length ≤ 12) (hok : ∀ p ∈ H, in_ 0 600 p.1) : cl_V kC 1 mX0_takeFrames [vR 7, vI a, vI b] μ (fun m => hk_ μ m (h_cut a b H)) :=
  ve_X0_takeFrames (vc_X0_takeFrames_0 (lp_X0_takeFrames hab (μ0 := μ) hl hok (fun m h => h) H [] [] 0 0 μ (by simp) rfl rfl (by simp) rfl fr_rf ht.1 (fun i p h => by simp at h) (fun i p h => by simpa using ht.2 i p h)))
/-- chapters from a frame on go back -/
def h_giv (l : Int) (A B : Hl) : Hl := A ++ B.map (fun p => (p.1 + l, p.2))
theorem vc_X0_giveFrames_0 {x1 x2 : Int} {μ : am_M} {Q : am_M → Prop} (h : (in_ 0 13 (μ 7 2)) ∧ (∀ v1 : Int, v1 = ((bef_ x1 (hC μ)).length : Int) → at_V kC 2 mX0_giveFrames 6 [vR 7, vU, vI x2, vI v1] [] μ Q)) : at_V kC 2 mX0_giveFrames 0 [vR 7, vI x1, vI x2, vU] [] μ Q := by
  refine s_aload_n dX0_giveFrames_0 rfl rfl ?_
  refine s_iload_n dX0_giveFrames_1 rfl rfl ?_
  obtain ⟨p0, h⟩ := h
  refine s_callV (As := [vI x1]) (rest := []) (k := 7) dX0_giveFrames_2 lkX0_22 kn7 ⟨by rw [kk7]; rfl, by rw [kk7]; decide⟩ lmX0_firstFrom rfl rfl (Nat.le_of_ble_eq_true rfl) (by decide) (Nat.le_refl 0) (Nat.le_refl 0) (hC := sp_X0_firstFromC (Q := fun z m => z = ((bef_ x1 (hC μ)).length : Int) ∧ μ = m) p0 ⟨rfl, rfl⟩) (fun r n2 S2 m2 hP => ?_)
  obtain ⟨⟨rfl, rfl⟩, v1, rfl, hz, rfl⟩ := hP
  have h := h v1 hz
  refine s_istore_n dX0_giveFrames_5 rfl (by decide) (L' := [vR 7, vI x1, vI x2, vI v1]) rfl ?_
  exact am_lesS h ⟨Or.inr rfl, Or.inl rfl, Or.inr rfl, Or.inr rfl, trivial⟩
theorem vc_X0_giveFrames_6 {x2 x3 : Int} {μ : am_M} {Q : am_M → Prop} (h : (μ 7 2 ≤ x3 → Q μ) ∧ (x3 < μ 7 2 → (0 ≤ x3) ∧ (x3 < 12) ∧ ((am_in ((μ 8 ((x3).toNat)) + x2)) ∧ ((0 ≤ x3) ∧ (x3 < 12) ∧ (∀ m1 : am_M, m1 = am_st μ 8 (am_up (μ 8) (x3).toNat ((μ 8 ((x3).toNat)) + x2)) → (am_in (x3 + 1)) ∧ (at_V kC 2 mX0_giveFrames 6 [vR 7, vU, vI x2, vI (x3 + 1)] [] m1 Q)))))) : at_V kC 2 mX0_giveFrames 6 [vR 7, vU, vI x2, vI x3] [] μ Q := by
  refine s_iload_n dX0_giveFrames_6 rfl rfl ?_
  refine s_aload_n dX0_giveFrames_7 rfl rfl ?_
  refine s_getI (x := (μ 7 2)) dX0_giveFrames_8 flX0_18 kn7 kk7 rfl rfl ?_
  refine s_icmp_ge dX0_giveFrames_11 (tgt := 30) (by decide) (fun cc => ?_) (fun cc => ?_)
  · have h := h.1 cc
    exact s_return dX0_giveFrames_30 rfl ⟨⟨rfl, rfl⟩, rfl, h⟩
  · have h := h.2 cc
    refine s_aload_n dX0_giveFrames_14 rfl rfl ?_
    refine s_getR dX0_giveFrames_15 flX0_9 kn7 kk7 rfl kr7_0 ?_
    refine s_iload_n dX0_giveFrames_18 rfl rfl ?_
    refine s_dup2 dX0_giveFrames_19 ?_
    obtain ⟨c, c2, h⟩ := h
    refine s_iald (x := (μ 8 ((x3).toNat))) dX0_giveFrames_20 kn8 kk8 kl8 c c2 rfl ?_
    refine s_iload_n dX0_giveFrames_21 rfl rfl ?_
    obtain ⟨c, h⟩ := h
    refine s_iadd dX0_giveFrames_22 (am_w_id c) ?_
    obtain ⟨c, c2, h⟩ := h
    obtain ⟨m1, hm1⟩ : ∃ x : am_M, x = am_st μ 8 (am_up (μ 8) (x3).toNat ((μ 8 ((x3).toNat)) + x2)) := ⟨_, rfl⟩
    have h := h m1 hm1
    refine s_iast dX0_giveFrames_23 kn8 kk8 kl8 c c2 hm1.symm ?_
    obtain ⟨c, h⟩ := h
    refine s_iinc dX0_giveFrames_24 rfl (am_w_id c) (by decide) (L' := [vR 7, vU, vI x2, vI (x3 + 1)]) rfl ?_
    refine s_goto dX0_giveFrames_27 (tgt := 6) (by decide) ?_
    exact h
theorem ve_X0_giveFrames {x1 x2 : Int} {μ : am_M} {Q : am_M → Prop} (h : at_V kC 2 mX0_giveFrames 0 [vR 7, vI x1, vI x2, vU] [] μ Q) : cl_V kC 2 mX0_giveFrames [vR 7, vI x1, vI x2] μ Q := am_intro pmX0_giveFrames (Nat.le_of_ble_eq_true rfl) rfl h
theorem lp_X0_giveFrames {l : Int} (hll : 0 ≤ l ∧ l ≤ 600) {μ0 : am_M} {A0 B0 : Hl} (hl : (A0 ++ B0).length ≤ 12) (hok : ∀ p ∈ B0, in_ 0 600 p.1) {Q : am_M → Prop} (hQ : ∀ m, hk_ μ0 m (h_giv l A0 B0) → Q m) : ∀ (B A : Hl) (x : Int) (μ : am_M), B0 = A ++ B → x = A0.length + A.length → fr_ [7, 8, 9] μ0 μ → hl_ (μ 7 2) (μ 8) (μ 9) (A0 ++ (A.map (fun p => (p.1 + l, p.2)) ++ B)) → at_V kC 2 mX0_giveFrames 6 [vR 7, vU, vI l, vI x] [] μ Q := by
  intro B
  induction B with
  | nil =>
    intro A x μ hB hx hfr ht
    simp at hB
    subst hB
    refine vc_X0_giveFrames_6 ⟨fun _ => hQ μ ⟨hfr, by simpa [h_giv] using ht⟩, fun q => ?_⟩
    have := ht.1
    simp at this
    omega
  | cons p B ih =>
    intro A x μ hB hx hfr ht
    have ht2 : hl_ (μ 7 2) (μ 8) (μ 9) ((A0 ++ A.map (fun p => (p.1 + l, p.2))) ++ p :: B) := by simpa using ht
    have hx2 : x = (A0 ++ A.map (fun p => (p.1 + l, p.2))).length := by simp; omega
    have v := hl_at ht2 hx2
    have hn : μ 7 2 = A0.length + A.length + 1 + B.length := by rw [ht2.1]; simp; omega
    have hpo := hok p (by rw [hB]; simp)
    have hlen : A0.length + A.length + 1 + B.length ≤ 12 := by
      rw [hB] at hl
      simp at hl
      omega
    refine vc_X0_giveFrames_6 ⟨fun q => by omega, fun q => ⟨by omega, by omega, by rw [v.1]; ((try unfold am_in); (try unfold in_ at *); omega), by omega, by omega, fun m e => ⟨(by (try unfold am_in); (try unfold in_ at *); omega), ?_⟩⟩⟩
    rw [v.1] at e
    refine ih (A ++ [p]) (x + 1) m (by rw [hB]; simp) (by simp; omega) (by rw [e]; exact fr_tr hfr (fr_st (by simp))) ?_
    have hgoal : hl_ (m 7 2) (m 8) (m 9) ((A0 ++ A.map (fun p => (p.1 + l, p.2))) ++ (p.1 + l, p.2) :: B) := by
      refine ⟨by rw [e, st_n (by decide), hn]; simp; omega, fun i s hi => ?_⟩
      rw [e, st_s, st_n (by decide)]
      by_cases q1 : i = (A0 ++ A.map (fun p => (p.1 + l, p.2))).length
      · subst q1
        simp at hi
        subst hi
        rw [show x.toNat = (A0 ++ A.map (fun p => (p.1 + l, p.2))).length by omega, up_s]
        rw [show x.toNat = (A0 ++ A.map (fun p => (p.1 + l, p.2))).length by omega] at v
        exact ⟨rfl, v.2⟩
      · rw [up_n (by omega)]
        refine ht2.2 i s ?_
        by_cases q2 : i < (A0 ++ A.map (fun p => (p.1 + l, p.2))).length
        · rw [List.getElem?_append_left q2] at hi ⊢
          exact hi
        · rw [List.getElem?_append_right (by omega), show i - (A0 ++ A.map (fun p => (p.1 + l, p.2))).length = (i - 1 - (A0 ++ A.map (fun p => (p.1 + l, p.2))).length) + 1 by omega, List.getElem?_cons_succ] at hi ⊢
          exact hi
    simpa using hgoal
theorem sp_X0_giveFrames {a l : Int} {μ : am_M} (H : Hl) (hll : 0 ≤ l ∧ l ≤ 600) (ht : hl_ (μ 7 2) (μ 8) (μ 9) H) (hl : H.length ≤ 12) (hok : ∀ p ∈ H, in_ 0 600 p.1) : cl_V kC 2 mX0_giveFrames [vR 7, vI a, vI l] μ (fun m => hk_ μ m (h_giv l (bef_ a H) (aft_ a H))) := by
  have hb := bef_aft a H
  refine ve_X0_giveFrames (vc_X0_giveFrames_0 ⟨by rw [ht.1]; ((try unfold am_in); (try unfold in_ at *); omega), fun v e => ?_⟩)
  rw [hl_un ht] at e
  exact lp_X0_giveFrames hll (μ0 := μ) (by rw [hb]; exact hl) (fun p hp => hok p (by rw [← hb]; exact List.mem_append_right _ hp)) (fun m h => h) (aft_ a H) [] v μ (by simp) (by rw [e]; simp) fr_rf (by simpa [hb] using ht)

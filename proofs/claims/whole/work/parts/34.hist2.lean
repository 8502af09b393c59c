/-! levels with how often they are: a second way -/
def ih_ (x : Int) (H : Hl) : Hl := bef_ x H ++ (match aft_ x H with
  | [] => [(x, 1)]
  | p :: B => if p.1 = x then (p.1, p.2 + 1) :: B else (x, 1) :: p :: B)
def hw_ (p : Int → Bool) (H : Hl) : Int := (H.map (fun q => if p q.1 = true then q.2 else 0)).sum
def hv_ (p : Int → Bool) (H : Hl) : Int := (H.map (fun q => if p q.1 = true then q.1 * q.2 else 0)).sum
theorem hw_app {p : Int → Bool} {A B : Hl} : hw_ p (A ++ B) = hw_ p A + hw_ p B := by simp [hw_]
theorem hv_app {p : Int → Bool} {A B : Hl} : hv_ p (A ++ B) = hv_ p A + hv_ p B := by simp [hv_]
theorem hw_c {p : Int → Bool} {q : Int × Int} {B : Hl} : hw_ p (q :: B) = (if p q.1 = true then q.2 else 0) + hw_ p B := by simp [hw_]
theorem hv_c {p : Int → Bool} {q : Int × Int} {B : Hl} : hv_ p (q :: B) = (if p q.1 = true then q.1 * q.2 else 0) + hv_ p B := by simp [hv_]
theorem ih_w {p : Int → Bool} {x : Int} {H : Hl} : hw_ p (ih_ x H) = hw_ p H + if p x = true then 1 else 0 := by
  have hb := bef_aft x H
  unfold ih_
  rw [hw_app]
  cases ha : aft_ x H with
  | nil =>
    rw [ha] at hb
    simp at hb
    simp only
    rw [hw_c, hb]
    simp [hw_]
  | cons q B =>
    rw [ha] at hb
    have e : hw_ p H = hw_ p (bef_ x H) + ((if p q.1 = true then q.2 else 0) + hw_ p B) := by rw [← hw_c, ← hw_app, hb]
    rw [e]
    simp only
    split
    · rename_i q1
      rw [hw_c]
      simp only [q1]
      split <;> omega
    · rw [hw_c, hw_c]
      simp only
      omega
theorem ih_v {p : Int → Bool} {x : Int} {H : Hl} : hv_ p (ih_ x H) = hv_ p H + if p x = true then x else 0 := by
  have hb := bef_aft x H
  unfold ih_
  rw [hv_app]
  cases ha : aft_ x H with
  | nil =>
    rw [ha] at hb
    simp at hb
    simp only
    rw [hv_c, hb]
    simp [hv_]
  | cons q B =>
    rw [ha] at hb
    have e : hv_ p H = hv_ p (bef_ x H) + ((if p q.1 = true then q.1 * q.2 else 0) + hv_ p B) := by rw [← hv_c, ← hv_app, hb]
    rw [e]
    simp only
    split
    · rename_i q1
      rw [hv_c]
      simp only [q1, Int.mul_add, Int.mul_one]
      split <;> omega
    · rw [hv_c, hv_c]
      simp only [Int.mul_one]
      omega
theorem ih_l {x : Int} {H : Hl} : (ih_ x H).length ≤ H.length + 1 ∧ H.length ≤ (ih_ x H).length := by
  have hb := congrArg List.length (bef_aft x H)
  unfold ih_
  rw [List.length_append] at hb ⊢
  cases ha : aft_ x H with
  | nil => rw [ha] at hb; simp at hb ⊢; omega
  | cons q B =>
    rw [ha] at hb
    simp only [List.length_cons] at hb ⊢
    split <;> simp only [List.length_cons] <;> omega
def up_H (H : Hl) : Prop := H.Pairwise (fun p q => p.1 < q.1)
theorem bef_lt {x : Int} {H : Hl} : ∀ p ∈ bef_ x H, p.1 < x := fun p hp => by
  have : decide (p.1 < x) = true := by
    unfold bef_ at hp
    induction H with
    | nil => simp at hp
    | cons q H ih =>
      rw [List.takeWhile_cons] at hp
      split at hp
      · rename_i h
        rcases List.mem_cons.mp hp with e | e
        · rw [e]; exact h
        · exact ih e
      · simp at hp
  exact of_decide_eq_true this
theorem aft_ge {x : Int} {H : Hl} (h : up_H H) : ∀ p ∈ aft_ x H, x ≤ p.1 := by
  induction H with
  | nil => intro p hp; simp [aft_] at hp
  | cons q H ih =>
    intro p hp
    rw [aft_c] at hp
    have h2 := List.pairwise_cons.mp h
    split at hp
    · exact ih h2.2 p hp
    · rcases List.mem_cons.mp hp with e | e
      · rw [e]; omega
      · have := h2.1 p e; omega
theorem ih_up {x : Int} {H : Hl} (h : up_H H) : up_H (ih_ x H) := by
  have hb := bef_aft x H
  have hge := aft_ge (x := x) h
  have h' := h
  unfold up_H at h' ⊢
  rw [← hb, List.pairwise_append] at h'
  obtain ⟨h1, h2, h3⟩ := h'
  unfold ih_
  rw [List.pairwise_append]
  refine ⟨h1, ?_, ?_⟩
  · cases ha : aft_ x H with
    | nil => simp
    | cons q B =>
      rw [ha] at h2 hge
      have h4 := List.pairwise_cons.mp h2
      simp only
      split
      · exact List.pairwise_cons.mpr ⟨fun p hp => h4.1 p hp, h4.2⟩
      · rename_i ne
        refine List.pairwise_cons.mpr ⟨fun p hp => ?_, h2⟩
        have hq := hge q List.mem_cons_self
        rcases List.mem_cons.mp hp with e | e
        · rw [e]; simp only; omega
        · have := h4.1 p e
          simp only
          omega
  · intro p hp r hr
    have := bef_lt p hp
    cases ha : aft_ x H with
    | nil => rw [ha] at hr; simp at hr; rw [hr]; exact this
    | cons q B =>
      rw [ha] at hr hge
      simp only at hr
      have : x ≤ r.1 := by
        split at hr
        · rcases List.mem_cons.mp hr with e | e
          · rw [e]; simp only; omega
          · exact hge r (List.mem_cons_of_mem _ e)
        · rcases List.mem_cons.mp hr with e | e
          · rw [e]
            exact Int.le_refl _
          · exact hge r e
      omega
def hi_ (L : Int → Int) (k : Int) : Hl := fI (fun H i => ih_ (L i) H) [] k
theorem hi_s {L : Int → Int} {k : Int} (h : 0 ≤ k) : hi_ L (k + 1) = ih_ (L k) (hi_ L k) := fI_s _ _ h
theorem hi_up {L : Int → Int} {k : Int} (h : 0 ≤ k) : up_H (hi_ L k) ∧ ((hi_ L k).length : Int) ≤ k := by
  refine fI_i (fun (H : Hl) i => up_H H ∧ (H.length : Int) ≤ i) ⟨List.Pairwise.nil, by simp⟩ h (fun i H i0 i1 ⟨h1, h2⟩ => ⟨ih_up h1, ?_⟩)
  have := (ih_l (x := L i) (H := H)).1
  omega
theorem hi_w {L : Int → Int} {p : Int → Bool} : ∀ k : Nat, hw_ p (hi_ L k) = cnt_ (fun i => p (L i)) (fun _ => 1) k ∧ hv_ p (hi_ L k) = cnt_ (fun i => p (L i)) L k
  | 0 => ⟨rfl, rfl⟩
  | k + 1 => by
    have := hi_w (L := L) (p := p) k
    rw [show ((k + 1 : Nat) : Int) = (k : Int) + 1 by omega, hi_s (by omega), ih_w, ih_v, cnt_s (by omega), cnt_s (by omega), this.1, this.2]
    exact ⟨rfl, rfl⟩
/-- what stands from a level on, for an upward property -/
theorem hw_aft {p : Int → Bool} {A B : Hl} (ha : ∀ q ∈ A, p q.1 = false) (hb : ∀ q ∈ B, p q.1 = true) : hw_ p (A ++ B) = hw_ (fun _ => true) B ∧ hv_ p (A ++ B) = hv_ (fun _ => true) B := by
  have a0 : hw_ p A = 0 ∧ hv_ p A = 0 := by
    induction A with
    | nil => exact ⟨rfl, rfl⟩
    | cons q A ih =>
      have := ih (fun r hr => ha r (List.mem_cons_of_mem _ hr))
      have h1 := ha q List.mem_cons_self
      rw [hw_c, hv_c, this.1, this.2]
      simp [h1]
  have b1 : hw_ p B = hw_ (fun _ => true) B ∧ hv_ p B = hv_ (fun _ => true) B := by
    clear a0 ha
    induction B with
    | nil => exact ⟨rfl, rfl⟩
    | cons q B ih =>
      have := ih (fun r hr => hb r (List.mem_cons_of_mem _ hr))
      have h1 := hb q List.mem_cons_self
      rw [hw_c, hv_c, hw_c, hv_c, this.1, this.2]
      simp [h1]
  rw [hw_app, hv_app, a0.1, a0.2, b1.1, b1.2]
  omega
abbrev tt_ : Int → Bool := fun _ => true
def okH (H : Hl) : Prop := ∀ q ∈ H, 0 ≤ q.1 ∧ q.1 ≤ 998001 ∧ 1 ≤ q.2
theorem ww_b {H : Hl} (h : okH H) : (H.length : Int) ≤ hw_ tt_ H ∧ 0 ≤ hv_ tt_ H ∧ hv_ tt_ H ≤ 998001 * hw_ tt_ H := by
  induction H with
  | nil => exact ⟨by simp [hw_], by simp [hv_], by simp [hv_, hw_]⟩
  | cons q B ih =>
    have i2 := ih (fun r hr => h r (List.mem_cons_of_mem _ hr))
    have hq := h q List.mem_cons_self
    rw [hw_c, hv_c]
    simp only [if_true]
    have m1 : 0 ≤ q.1 * q.2 := Int.mul_nonneg hq.1 (by omega)
    have m2 : q.1 * q.2 ≤ 998001 * q.2 := Int.mul_le_mul_of_nonneg_right hq.2.1 (by omega)
    rw [List.length_cons, Int.mul_add]
    refine ⟨?_, by omega, by omega⟩
    have := i2.1
    omega
/-- the mean of what is counted -/
def mn_ (B : Hl) : Int := if 0 < hw_ tt_ B then hv_ tt_ B / hw_ tt_ B else 0
theorem vc_X3_meanFrom_0 {x1 x2 : Int} {μ : am_M} {Q : Int → am_M → Prop} (h : at_I kC 1 mX3_meanFrom 8 [vR 144, vU, vI x2, vI 0, vI 0, vI x1] [] μ Q) : at_I kC 1 mX3_meanFrom 0 [vR 144, vI x1, vI x2, vU, vU, vU] [] μ Q := by
  refine s_iconst dX3_meanFrom_0 (by decide) ?_
  refine s_istore_n dX3_meanFrom_1 rfl (by decide) (L' := [vR 144, vI x1, vI x2, vI 0, vU, vU]) rfl ?_
  refine s_iconst dX3_meanFrom_2 (by decide) ?_
  refine s_istore dX3_meanFrom_3 (by decide) (L' := [vR 144, vI x1, vI x2, vI 0, vI 0, vU]) rfl ?_
  refine s_iload_n dX3_meanFrom_5 rfl rfl ?_
  refine s_istore dX3_meanFrom_6 (by decide) (L' := [vR 144, vI x1, vI x2, vI 0, vI 0, vI x1]) rfl ?_
  exact am_lesS h ⟨Or.inr rfl, Or.inl rfl, Or.inr rfl, Or.inr rfl, Or.inr rfl, Or.inr rfl, trivial⟩
theorem vc_X3_meanFrom_8 {x2 x3 x4 x5 : Int} {μ : am_M} {Q : Int → am_M → Prop} (h : (x2 ≤ x5 → ((0 < x4 → (0 ≤ x3) ∧ (0 < x4))) ∧ (∀ v1 : Int, v1 = (if 0 < x4 then x3 / x4 else 0) → Q v1 μ)) ∧ (x5 < x2 → (0 ≤ x5) ∧ (x5 < 150) ∧ ((0 ≤ x5) ∧ (x5 < 150) ∧ ((am_in ((μ 145 ((x5).toNat)) * (μ 146 ((x5).toNat)))) ∧ ((am_in (x3 + ((μ 145 ((x5).toNat)) * (μ 146 ((x5).toNat))))) ∧ ((0 ≤ x5) ∧ (x5 < 150) ∧ ((am_in (x4 + (μ 146 ((x5).toNat)))) ∧ ((am_in (x5 + 1)) ∧ (at_I kC 1 mX3_meanFrom 8 [vR 144, vU, vI x2, vI (x3 + ((μ 145 ((x5).toNat)) * (μ 146 ((x5).toNat)))), vI (x4 + (μ 146 ((x5).toNat))), vI (x5 + 1)] [] μ Q))))))))) : at_I kC 1 mX3_meanFrom 8 [vR 144, vU, vI x2, vI x3, vI x4, vI x5] [] μ Q := by
  refine s_iload dX3_meanFrom_8 rfl ?_
  refine s_iload_n dX3_meanFrom_10 rfl rfl ?_
  refine s_icmp_ge dX3_meanFrom_11 (tgt := 50) (by decide) (fun cc => ?_) (fun cc => ?_)
  · have h := h.1 cc
    refine s_iload dX3_meanFrom_50 rfl ?_
    obtain ⟨hsd, h⟩ := h
    have kj2 : ∀ (v1 : Int), (Q v1 μ) → at_I kC 1 mX3_meanFrom 63 [vU, vU, vU, vU, vU, vU] [vI v1] μ Q := by
      intro v1 h
      exact s_ireturn dX3_meanFrom_63 (Or.inl rfl) ⟨⟨rfl, rfl⟩, _, rfl, h⟩
    refine s_if_le dX3_meanFrom_52 (tgt := 62) (by decide) (fun cc => ?_) (fun cc => ?_)
    · have hp0 := cc
      refine s_iconst dX3_meanFrom_62 (by decide) ?_
      exact am_lesS (kj2 0 (h 0 (by rw [if_neg (Int.not_lt.mpr hp0)]))) ⟨Or.inl rfl, Or.inl rfl, Or.inl rfl, Or.inl rfl, Or.inl rfl, Or.inl rfl, trivial⟩
    · have hp0 := cc
      have hsd := hsd hp0
      refine s_iload_n dX3_meanFrom_55 rfl rfl ?_
      refine s_iload dX3_meanFrom_56 rfl ?_
      obtain ⟨c, c2⟩ := hsd
      refine s_idivp dX3_meanFrom_58 c c2 rfl ?_
      refine s_goto dX3_meanFrom_59 (tgt := 63) (by decide) ?_
      exact am_lesS (kj2 (x3 / x4) (h (x3 / x4) (by rw [if_pos hp0]))) ⟨Or.inl rfl, Or.inl rfl, Or.inl rfl, Or.inl rfl, Or.inl rfl, Or.inl rfl, trivial⟩
  · have h := h.2 cc
    refine s_iload_n dX3_meanFrom_14 rfl rfl ?_
    refine s_aload_n dX3_meanFrom_15 rfl rfl ?_
    refine s_getR dX3_meanFrom_16 flX3_9 kn144 kk144 rfl kr144_2 ?_
    refine s_iload dX3_meanFrom_19 rfl ?_
    obtain ⟨c, c2, h⟩ := h
    refine s_iald (x := (μ 145 ((x5).toNat))) dX3_meanFrom_21 kn145 kk145 kl145 c c2 rfl ?_
    refine s_aload_n dX3_meanFrom_22 rfl rfl ?_
    refine s_getR dX3_meanFrom_23 flX3_15 kn144 kk144 rfl kr144_3 ?_
    refine s_iload dX3_meanFrom_26 rfl ?_
    obtain ⟨c, c2, h⟩ := h
    refine s_iald (x := (μ 146 ((x5).toNat))) dX3_meanFrom_28 kn146 kk146 kl146 c c2 rfl ?_
    obtain ⟨c, h⟩ := h
    refine s_imul dX3_meanFrom_29 (am_w_id c) ?_
    obtain ⟨c, h⟩ := h
    refine s_iadd dX3_meanFrom_30 (am_w_id c) ?_
    refine s_istore_n dX3_meanFrom_31 rfl (by decide) (L' := [vR 144, vU, vI x2, vI (x3 + ((μ 145 ((x5).toNat)) * (μ 146 ((x5).toNat)))), vI x4, vI x5]) rfl ?_
    refine s_iload dX3_meanFrom_32 rfl ?_
    refine s_aload_n dX3_meanFrom_34 rfl rfl ?_
    refine s_getR dX3_meanFrom_35 flX3_15 kn144 kk144 rfl kr144_3 ?_
    refine s_iload dX3_meanFrom_38 rfl ?_
    obtain ⟨c, c2, h⟩ := h
    refine s_iald (x := (μ 146 ((x5).toNat))) dX3_meanFrom_40 kn146 kk146 kl146 c c2 rfl ?_
    obtain ⟨c, h⟩ := h
    refine s_iadd dX3_meanFrom_41 (am_w_id c) ?_
    refine s_istore dX3_meanFrom_42 (by decide) (L' := [vR 144, vU, vI x2, vI (x3 + ((μ 145 ((x5).toNat)) * (μ 146 ((x5).toNat)))), vI (x4 + (μ 146 ((x5).toNat))), vI x5]) rfl ?_
    obtain ⟨c, h⟩ := h
    refine s_iinc dX3_meanFrom_44 rfl (am_w_id c) (by decide) (L' := [vR 144, vU, vI x2, vI (x3 + ((μ 145 ((x5).toNat)) * (μ 146 ((x5).toNat)))), vI (x4 + (μ 146 ((x5).toNat))), vI (x5 + 1)]) rfl ?_
    refine s_goto dX3_meanFrom_47 (tgt := 8) (by decide) ?_
    exact h
theorem ve_X3_meanFrom {x1 x2 : Int} {μ : am_M} {Q : Int → am_M → Prop} (h : at_I kC 1 mX3_meanFrom 0 [vR 144, vI x1, vI x2, vU, vU, vU] [] μ Q) : cl_I kC 1 mX3_meanFrom [vR 144, vI x1, vI x2] μ Q := am_intro pmX3_meanFrom (Nat.le_of_ble_eq_true rfl) rfl h
theorem sp_X3_meanFrom {μ : am_M} {a n : Int} {Q : Int → am_M → Prop} (A B : Hl) (h : hl_ n (μ 145) (μ 146) (A ++ B)) (ha : a = A.length) (ho : okH (A ++ B)) (hw : hw_ tt_ (A ++ B) ≤ 150) (hQ : Q (mn_ B) μ) : cl_I kC 1 mX3_meanFrom [vR 144, vI a, vI n] μ Q := by
  have hwA := ww_b (H := A) (fun q hq => ho q (List.mem_append_left _ hq))
  have hwB := ww_b (H := B) (fun q hq => ho q (List.mem_append_right _ hq))
  have hn := h.1
  rw [hw_app] at hw
  rw [List.length_append] at hn
  refine ve_X3_meanFrom (vc_X3_meanFrom_0 ?_)
  have : ∀ (C D : Hl) (s k x : Int), B = D ++ C → x = a + D.length → s = hv_ tt_ D → k = hw_ tt_ D → at_I kC 1 mX3_meanFrom 8 [vR 144, vU, vI n, vI s, vI k, vI x] [] μ Q := by
    intro C
    induction C with
    | nil =>
      intro D s k x hB hx hs hk
      simp at hB
      subst hB
      refine vc_X3_meanFrom_8 ⟨fun _ => ⟨fun q => ⟨by rw [hs]; exact hwB.2.1, q⟩, fun v e => ?_⟩, fun q => by omega⟩
      rw [show v = mn_ B by rw [e, hs, hk]; rfl]
      exact hQ
    | cons q C ih =>
      intro D s k x hB hx hs hk
      have hlen : B.length = D.length + 1 + C.length := by rw [hB]; simp; omega
      have h2 := h
      rw [hB, ← List.append_assoc] at h2
      have v := hl_at h2 (x := x) (by rw [hx, ha]; simp)
      have hq := ho q (by rw [hB]; simp)
      have e1 : hw_ tt_ B = hw_ tt_ D + (q.2 + hw_ tt_ C) := by rw [hB, hw_app, hw_c]; rfl
      have hwD := ww_b (H := D) (fun r hr => ho r (by rw [hB]; simp [hr]))
      have hwC := ww_b (H := C) (fun r hr => ho r (by rw [hB]; simp [hr]))
      have m := mulb (x := q.1) (y := q.2) (A := 998001) (B := 150) hq.1 hq.2.1 (by omega) (by omega)
      refine vc_X3_meanFrom_8 ⟨fun q => by omega, fun _ => ⟨by omega, by omega, by omega, by omega, by rw [v.1, v.2]; ((try unfold am_in); (try unfold in_ at *); omega), by rw [v.1, v.2]; ((try unfold am_in); (try unfold in_ at *); omega), by omega, by omega, by rw [v.2]; ((try unfold am_in); (try unfold in_ at *); omega), by ((try unfold am_in); (try unfold in_ at *); omega), ?_⟩⟩
      rw [v.1, v.2]
      refine ih (D ++ [q]) _ _ _ (by rw [hB]; simp) (by simp; omega) ?_ ?_
      · rw [hv_app, hv_c, hs]; simp [hv_]
      · rw [hw_app, hw_c, hk]; simp [hw_]
  exact this B [] 0 0 a (by simp) (by simp) rfl rfl
theorem vc_X3_sortLevels_0 {μ : am_M} {Q : Int → am_M → Prop} (h : (ok_E (μ 2)) ∧ ((ok_T (cg μ) (μ 5 1)) ∧ (at_I kC 4 mX3_sortLevels 21 [vR 144, vI (μ 2 1), vI (la_ (cg μ) (μ 5 1)), vI 0, vI 0, vU, vU, vU] [] μ Q))) : at_I kC 4 mX3_sortLevels 0 [vR 144, vU, vU, vU, vU, vU, vU, vU] [] μ Q := by
  refine s_aload_n dX3_sortLevels_0 rfl rfl ?_
  obtain ⟨p0, h⟩ := h
  refine s_callV (As := []) (rest := []) (k := 144) dX3_sortLevels_1 lkX3_60 kn144 ⟨by rw [kk144]; rfl, by rw [kk144]; decide⟩ lmX3_window rfl rfl (Nat.le_of_ble_eq_true rfl) (by decide) (Nat.le_refl 0) (Nat.le_refl 0) (hC := sp_X3_window (Q := fun z m => μ 2 1 = z ∧ μ = m) p0 ⟨rfl, rfl⟩) (fun r n2 S2 m2 hP => ?_)
  obtain ⟨⟨rfl, rfl⟩, z, rfl, rfl, rfl⟩ := hP
  refine s_istore_n dX3_sortLevels_4 rfl (by decide) (L' := [vR 144, vI (μ 2 1), vU, vU, vU, vU, vU, vU]) rfl ?_
  refine s_aload_n dX3_sortLevels_5 rfl rfl ?_
  refine s_getR dX3_sortLevels_6 flX3_21 kn144 kk144 rfl kr144_0 ?_
  refine s_getR dX3_sortLevels_9 flX3_64 kn1 kk1 rfl kr1_3 ?_
  obtain ⟨p0, h⟩ := h
  refine s_callV (As := []) (rest := []) (k := 5) dX3_sortLevels_12 lkX3_68 kn5 ⟨by rw [kk5]; rfl, by rw [kk5]; decide⟩ lmX1_lastEnd rfl rfl (Nat.le_of_ble_eq_true rfl) (by decide) (Nat.le_refl 0) (Nat.le_refl 0) (hC := sp_X1_lastEnd (Q := fun z m => la_ (cg μ) (μ 5 1) = z ∧ μ = m) p0 ⟨rfl, rfl⟩) (fun r n2 S2 m2 hP => ?_)
  obtain ⟨⟨rfl, rfl⟩, z, rfl, rfl, rfl⟩ := hP
  refine s_istore_n dX3_sortLevels_15 rfl (by decide) (L' := [vR 144, vI (μ 2 1), vI (la_ (cg μ) (μ 5 1)), vU, vU, vU, vU, vU]) rfl ?_
  refine s_iconst dX3_sortLevels_16 (by decide) ?_
  refine s_istore_n dX3_sortLevels_17 rfl (by decide) (L' := [vR 144, vI (μ 2 1), vI (la_ (cg μ) (μ 5 1)), vI 0, vU, vU, vU, vU]) rfl ?_
  refine s_iconst dX3_sortLevels_18 (by decide) ?_
  refine s_istore dX3_sortLevels_19 (by decide) (L' := [vR 144, vI (μ 2 1), vI (la_ (cg μ) (μ 5 1)), vI 0, vI 0, vU, vU, vU]) rfl ?_
  exact h
theorem vc_X3_sortLevels_21 {x1 x2 x3 x4 : Int} {μ : am_M} {Q : Int → am_M → Prop} (h : (x2 ≤ x4 → Q x3 μ) ∧ (x4 < x2 → (am_in (x4 + x1)) ∧ ((0 ≤ (if x4 + x1 < 600 then x4 + x1 else 600)) ∧ ((if x4 + x1 < 600 then x4 + x1 else 600) < 601) ∧ ((0 ≤ x4) ∧ (x4 < 601) ∧ ((am_in ((μ 147 (((if x4 + x1 < 600 then x4 + x1 else 600)).toNat)) - (μ 147 ((x4).toNat)))) ∧ ((0 ≤ (μ 147 (((if x4 + x1 < 600 then x4 + x1 else 600)).toNat)) - (μ 147 ((x4).toNat))) ∧ (0 < x1) ∧ (at_I kC 4 mX3_sortLevels 61 [vR 144, vI x1, vI x2, vI x3, vI x4, vU, vI (((μ 147 (((if x4 + x1 < 600 then x4 + x1 else 600)).toNat)) - (μ 147 ((x4).toNat))) / x1), vI 0] [] μ Q))))))) : at_I kC 4 mX3_sortLevels 21 [vR 144, vI x1, vI x2, vI x3, vI x4, vU, vU, vU] [] μ Q := by
  refine s_iload dX3_sortLevels_21 rfl ?_
  refine s_iload_n dX3_sortLevels_23 rfl rfl ?_
  refine s_icmp_ge dX3_sortLevels_24 (tgt := 188) (by decide) (fun cc => ?_) (fun cc => ?_)
  · have h := h.1 cc
    refine s_iload_n dX3_sortLevels_188 rfl rfl ?_
    exact s_ireturn dX3_sortLevels_189 (Or.inl rfl) ⟨⟨rfl, rfl⟩, _, rfl, h⟩
  · have h := h.2 cc
    refine s_sipush dX3_sortLevels_27 (by decide) ?_
    refine s_iload dX3_sortLevels_30 rfl ?_
    refine s_iload_n dX3_sortLevels_32 rfl rfl ?_
    obtain ⟨c, h⟩ := h
    refine s_iadd dX3_sortLevels_33 (am_w_id c) ?_
    refine s_min dX3_sortLevels_34 wmX3_73 (Nat.le_of_ble_eq_true rfl) (by decide) rfl ?_
    refine s_istore dX3_sortLevels_37 (by decide) (L' := [vR 144, vI x1, vI x2, vI x3, vI x4, vI (if x4 + x1 < 600 then x4 + x1 else 600), vU, vU]) rfl ?_
    refine s_aload_n dX3_sortLevels_39 rfl rfl ?_
    refine s_getR dX3_sortLevels_40 flX3_18 kn144 kk144 rfl kr144_4 ?_
    refine s_iload dX3_sortLevels_43 rfl ?_
    obtain ⟨c, c2, h⟩ := h
    refine s_iald (x := (μ 147 (((if x4 + x1 < 600 then x4 + x1 else 600)).toNat))) dX3_sortLevels_45 kn147 kk147 kl147 c c2 rfl ?_
    refine s_aload_n dX3_sortLevels_46 rfl rfl ?_
    refine s_getR dX3_sortLevels_47 flX3_18 kn144 kk144 rfl kr144_4 ?_
    refine s_iload dX3_sortLevels_50 rfl ?_
    obtain ⟨c, c2, h⟩ := h
    refine s_iald (x := (μ 147 ((x4).toNat))) dX3_sortLevels_52 kn147 kk147 kl147 c c2 rfl ?_
    obtain ⟨c, h⟩ := h
    refine s_isub dX3_sortLevels_53 (am_w_id c) ?_
    refine s_iload_n dX3_sortLevels_54 rfl rfl ?_
    obtain ⟨c, c2, h⟩ := h
    refine s_idivp dX3_sortLevels_55 c c2 rfl ?_
    refine s_istore dX3_sortLevels_56 (by decide) (L' := [vR 144, vI x1, vI x2, vI x3, vI x4, vI (if x4 + x1 < 600 then x4 + x1 else 600), vI (((μ 147 (((if x4 + x1 < 600 then x4 + x1 else 600)).toNat)) - (μ 147 ((x4).toNat))) / x1), vU]) rfl ?_
    refine s_iconst dX3_sortLevels_58 (by decide) ?_
    refine s_istore dX3_sortLevels_59 (by decide) (L' := [vR 144, vI x1, vI x2, vI x3, vI x4, vI (if x4 + x1 < 600 then x4 + x1 else 600), vI (((μ 147 (((if x4 + x1 < 600 then x4 + x1 else 600)).toNat)) - (μ 147 ((x4).toNat))) / x1), vI 0]) rfl ?_
    exact am_lesS h ⟨Or.inr rfl, Or.inr rfl, Or.inr rfl, Or.inr rfl, Or.inr rfl, Or.inl rfl, Or.inr rfl, Or.inr rfl, trivial⟩
theorem vc_X3_sortLevels_61 {x1 x2 x3 x4 x6 x7 : Int} {μ : am_M} {Q : Int → am_M → Prop} (h : (x3 ≤ x7 → at_I kC 4 mX3_sortLevels 85 [vR 144, vI x1, vI x2, vI x3, vI x4, vU, vI x6, vI x7] [] μ Q) ∧ (x7 < x3 → (0 ≤ x7) ∧ (x7 < 150) ∧ ((x6 ≤ μ 145 ((x7).toNat) → at_I kC 4 mX3_sortLevels 85 [vR 144, vI x1, vI x2, vI x3, vI x4, vU, vI x6, vI x7] [] μ Q) ∧ (μ 145 ((x7).toNat) < x6 → (am_in (x7 + 1)) ∧ (at_I kC 4 mX3_sortLevels 61 [vR 144, vI x1, vI x2, vI x3, vI x4, vU, vI x6, vI (x7 + 1)] [] μ Q))))) : at_I kC 4 mX3_sortLevels 61 [vR 144, vI x1, vI x2, vI x3, vI x4, vU, vI x6, vI x7] [] μ Q := by
  refine s_iload dX3_sortLevels_61 rfl ?_
  refine s_iload_n dX3_sortLevels_63 rfl rfl ?_
  refine s_icmp_ge dX3_sortLevels_64 (tgt := 85) (by decide) (fun cc => ?_) (fun cc => ?_)
  · have h := h.1 cc
    exact h
  · have h := h.2 cc
    refine s_aload_n dX3_sortLevels_67 rfl rfl ?_
    refine s_getR dX3_sortLevels_68 flX3_9 kn144 kk144 rfl kr144_2 ?_
    refine s_iload dX3_sortLevels_71 rfl ?_
    obtain ⟨c, c2, h⟩ := h
    refine s_iald (x := (μ 145 ((x7).toNat))) dX3_sortLevels_73 kn145 kk145 kl145 c c2 rfl ?_
    refine s_iload dX3_sortLevels_74 rfl ?_
    refine s_icmp_ge dX3_sortLevels_76 (tgt := 85) (by decide) (fun cc => ?_) (fun cc => ?_)
    · have h := h.1 cc
      exact h
    · have h := h.2 cc
      obtain ⟨c, h⟩ := h
      refine s_iinc dX3_sortLevels_79 rfl (am_w_id c) (by decide) (L' := [vR 144, vI x1, vI x2, vI x3, vI x4, vU, vI x6, vI (x7 + 1)]) rfl ?_
      refine s_goto dX3_sortLevels_82 (tgt := 61) (by decide) ?_
      exact h
theorem vc_X3_sortLevels_85 {x1 x2 x3 x4 x6 x7 : Int} {μ : am_M} {Q : Int → am_M → Prop} (h : (x3 ≤ x7 → at_I kC 4 mX3_sortLevels 117 [vR 144, vI x1, vI x2, vI x3, vI x4, vU, vI x6, vI x7] [] μ Q) ∧ (x7 < x3 → (0 ≤ x7) ∧ (x7 < 150) ∧ ((μ 145 ((x7).toNat) ≠ x6 → at_I kC 4 mX3_sortLevels 117 [vR 144, vI x1, vI x2, vI x3, vI x4, vU, vI x6, vI x7] [] μ Q) ∧ (μ 145 ((x7).toNat) = x6 → (0 ≤ x7) ∧ (x7 < 150) ∧ ((am_in ((μ 146 ((x7).toNat)) + 1)) ∧ ((0 ≤ x7) ∧ (x7 < 150) ∧ (∀ m1 : am_M, m1 = am_st μ 146 (am_up (μ 146) (x7).toNat ((μ 146 ((x7).toNat)) + 1)) → (am_in (x4 + x1)) ∧ (at_I kC 4 mX3_sortLevels 21 [vR 144, vI x1, vI x2, vI x3, vI (x4 + x1), vU, vU, vU] [] m1 Q)))))))) : at_I kC 4 mX3_sortLevels 85 [vR 144, vI x1, vI x2, vI x3, vI x4, vU, vI x6, vI x7] [] μ Q := by
  refine s_iload dX3_sortLevels_85 rfl ?_
  refine s_iload_n dX3_sortLevels_87 rfl rfl ?_
  refine s_icmp_ge dX3_sortLevels_88 (tgt := 117) (by decide) (fun cc => ?_) (fun cc => ?_)
  · have h := h.1 cc
    exact h
  · have h := h.2 cc
    refine s_aload_n dX3_sortLevels_91 rfl rfl ?_
    refine s_getR dX3_sortLevels_92 flX3_9 kn144 kk144 rfl kr144_2 ?_
    refine s_iload dX3_sortLevels_95 rfl ?_
    obtain ⟨c, c2, h⟩ := h
    refine s_iald (x := (μ 145 ((x7).toNat))) dX3_sortLevels_97 kn145 kk145 kl145 c c2 rfl ?_
    refine s_iload dX3_sortLevels_98 rfl ?_
    refine s_icmp_ne dX3_sortLevels_100 (tgt := 117) (by decide) (fun cc => ?_) (fun cc => ?_)
    · have h := h.1 cc
      exact h
    · have h := h.2 cc
      refine s_aload_n dX3_sortLevels_103 rfl rfl ?_
      refine s_getR dX3_sortLevels_104 flX3_15 kn144 kk144 rfl kr144_3 ?_
      refine s_iload dX3_sortLevels_107 rfl ?_
      refine s_dup2 dX3_sortLevels_109 ?_
      obtain ⟨c, c2, h⟩ := h
      refine s_iald (x := (μ 146 ((x7).toNat))) dX3_sortLevels_110 kn146 kk146 kl146 c c2 rfl ?_
      refine s_iconst dX3_sortLevels_111 (by decide) ?_
      obtain ⟨c, h⟩ := h
      refine s_iadd dX3_sortLevels_112 (am_w_id c) ?_
      obtain ⟨c, c2, h⟩ := h
      obtain ⟨m1, hm1⟩ : ∃ x : am_M, x = am_st μ 146 (am_up (μ 146) (x7).toNat ((μ 146 ((x7).toNat)) + 1)) := ⟨_, rfl⟩
      have h := h m1 hm1
      refine s_iast dX3_sortLevels_113 kn146 kk146 kl146 c c2 hm1.symm ?_
      refine s_goto dX3_sortLevels_114 (tgt := 179) (by decide) ?_
      refine s_iload dX3_sortLevels_179 rfl ?_
      refine s_iload_n dX3_sortLevels_181 rfl rfl ?_
      obtain ⟨c, h⟩ := h
      refine s_iadd dX3_sortLevels_182 (am_w_id c) ?_
      refine s_istore dX3_sortLevels_183 (by decide) (L' := [vR 144, vI x1, vI x2, vI x3, vI (x4 + x1), vU, vI x6, vI x7]) rfl ?_
      refine s_goto dX3_sortLevels_185 (tgt := 21) (by decide) ?_
      exact am_lesS h ⟨Or.inr rfl, Or.inr rfl, Or.inr rfl, Or.inr rfl, Or.inr rfl, Or.inl rfl, Or.inl rfl, Or.inl rfl, trivial⟩
theorem vc_X3_sortLevels_117 {x1 x2 x3 x4 x6 x7 : Int} {μ : am_M} {Q : Int → am_M → Prop} (h : (am_in (x7 + 1)) ∧ ((am_in (x3 - x7)) ∧ ((0 ≤ x7) ∧ (0 ≤ x7 + 1) ∧ (0 ≤ x3 - x7) ∧ (x7 + (x3 - x7) ≤ 150) ∧ (x7 + 1 + (x3 - x7) ≤ 150) ∧ (∀ m1 : am_M, m1 = am_st μ 145 (am_cp (μ 145) (μ 145) x7 (x7 + 1) (x3 - x7)) → (am_in (x7 + 1)) ∧ ((am_in (x3 - x7)) ∧ ((0 ≤ x7) ∧ (0 ≤ x7 + 1) ∧ (0 ≤ x3 - x7) ∧ (x7 + (x3 - x7) ≤ 150) ∧ (x7 + 1 + (x3 - x7) ≤ 150) ∧ (∀ m2 : am_M, m2 = am_st m1 146 (am_cp (m1 146) (m1 146) x7 (x7 + 1) (x3 - x7)) → (0 ≤ x7) ∧ (x7 < 150) ∧ (∀ m3 : am_M, m3 = am_st m2 145 (am_up (m2 145) (x7).toNat x6) → (0 ≤ x7) ∧ (x7 < 150) ∧ (∀ m4 : am_M, m4 = am_st m3 146 (am_up (m3 146) (x7).toNat 1) → (am_in (x3 + 1)) ∧ ((am_in (x4 + x1)) ∧ (at_I kC 4 mX3_sortLevels 21 [vR 144, vI x1, vI x2, vI (x3 + 1), vI (x4 + x1), vU, vU, vU] [] m4 Q))))))))))) : at_I kC 4 mX3_sortLevels 117 [vR 144, vI x1, vI x2, vI x3, vI x4, vU, vI x6, vI x7] [] μ Q := by
  refine s_aload_n dX3_sortLevels_117 rfl rfl ?_
  refine s_getR dX3_sortLevels_118 flX3_9 kn144 kk144 rfl kr144_2 ?_
  refine s_iload dX3_sortLevels_121 rfl ?_
  refine s_aload_n dX3_sortLevels_123 rfl rfl ?_
  refine s_getR dX3_sortLevels_124 flX3_9 kn144 kk144 rfl kr144_2 ?_
  refine s_iload dX3_sortLevels_127 rfl ?_
  refine s_iconst dX3_sortLevels_129 (by decide) ?_
  obtain ⟨c, h⟩ := h
  refine s_iadd dX3_sortLevels_130 (am_w_id c) ?_
  refine s_iload_n dX3_sortLevels_131 rfl rfl ?_
  refine s_iload dX3_sortLevels_132 rfl ?_
  obtain ⟨c, h⟩ := h
  refine s_isub dX3_sortLevels_134 (am_w_id c) ?_
  obtain ⟨c1, c2, c3, c4, c5, h⟩ := h
  obtain ⟨m1, hm1⟩ : ∃ x : am_M, x = am_st μ 145 (am_cp (μ 145) (μ 145) x7 (x7 + 1) (x3 - x7)) := ⟨_, rfl⟩
  have h := h m1 hm1
  refine s_acopy dX3_sortLevels_135 waX3_91 kn145 kk145 kl145 kn145 kk145 kl145 (Nat.le_of_ble_eq_true rfl) (by decide) c1 c2 c3 c4 c5 hm1.symm ?_
  refine s_aload_n dX3_sortLevels_138 rfl rfl ?_
  refine s_getR dX3_sortLevels_139 flX3_15 kn144 kk144 rfl kr144_3 ?_
  refine s_iload dX3_sortLevels_142 rfl ?_
  refine s_aload_n dX3_sortLevels_144 rfl rfl ?_
  refine s_getR dX3_sortLevels_145 flX3_15 kn144 kk144 rfl kr144_3 ?_
  refine s_iload dX3_sortLevels_148 rfl ?_
  refine s_iconst dX3_sortLevels_150 (by decide) ?_
  obtain ⟨c, h⟩ := h
  refine s_iadd dX3_sortLevels_151 (am_w_id c) ?_
  refine s_iload_n dX3_sortLevels_152 rfl rfl ?_
  refine s_iload dX3_sortLevels_153 rfl ?_
  obtain ⟨c, h⟩ := h
  refine s_isub dX3_sortLevels_155 (am_w_id c) ?_
  obtain ⟨c1, c2, c3, c4, c5, h⟩ := h
  obtain ⟨m2, hm2⟩ : ∃ x : am_M, x = am_st m1 146 (am_cp (m1 146) (m1 146) x7 (x7 + 1) (x3 - x7)) := ⟨_, rfl⟩
  have h := h m2 hm2
  refine s_acopy dX3_sortLevels_156 waX3_91 kn146 kk146 kl146 kn146 kk146 kl146 (Nat.le_of_ble_eq_true rfl) (by decide) c1 c2 c3 c4 c5 hm2.symm ?_
  refine s_aload_n dX3_sortLevels_159 rfl rfl ?_
  refine s_getR dX3_sortLevels_160 flX3_9 kn144 kk144 rfl kr144_2 ?_
  refine s_iload dX3_sortLevels_163 rfl ?_
  refine s_iload dX3_sortLevels_165 rfl ?_
  obtain ⟨c, c2, h⟩ := h
  obtain ⟨m3, hm3⟩ : ∃ x : am_M, x = am_st m2 145 (am_up (m2 145) (x7).toNat x6) := ⟨_, rfl⟩
  have h := h m3 hm3
  refine s_iast dX3_sortLevels_167 kn145 kk145 kl145 c c2 hm3.symm ?_
  refine s_aload_n dX3_sortLevels_168 rfl rfl ?_
  refine s_getR dX3_sortLevels_169 flX3_15 kn144 kk144 rfl kr144_3 ?_
  refine s_iload dX3_sortLevels_172 rfl ?_
  refine s_iconst dX3_sortLevels_174 (by decide) ?_
  obtain ⟨c, c2, h⟩ := h
  obtain ⟨m4, hm4⟩ : ∃ x : am_M, x = am_st m3 146 (am_up (m3 146) (x7).toNat 1) := ⟨_, rfl⟩
  have h := h m4 hm4
  refine s_iast dX3_sortLevels_175 kn146 kk146 kl146 c c2 hm4.symm ?_
  obtain ⟨c, h⟩ := h
  refine s_iinc dX3_sortLevels_176 rfl (am_w_id c) (by decide) (L' := [vR 144, vI x1, vI x2, vI (x3 + 1), vI x4, vU, vI x6, vI x7]) rfl ?_
  refine s_iload dX3_sortLevels_179 rfl ?_
  refine s_iload_n dX3_sortLevels_181 rfl rfl ?_
  obtain ⟨c, h⟩ := h
  refine s_iadd dX3_sortLevels_182 (am_w_id c) ?_
  refine s_istore dX3_sortLevels_183 (by decide) (L' := [vR 144, vI x1, vI x2, vI (x3 + 1), vI (x4 + x1), vU, vI x6, vI x7]) rfl ?_
  refine s_goto dX3_sortLevels_185 (tgt := 21) (by decide) ?_
  exact am_lesS h ⟨Or.inr rfl, Or.inr rfl, Or.inr rfl, Or.inr rfl, Or.inr rfl, Or.inl rfl, Or.inl rfl, Or.inl rfl, trivial⟩
theorem ve_X3_sortLevels {μ : am_M} {Q : Int → am_M → Prop} (h : at_I kC 4 mX3_sortLevels 0 [vR 144, vU, vU, vU, vU, vU, vU, vU] [] μ Q) : cl_I kC 4 mX3_sortLevels [vR 144] μ Q := am_intro pmX3_sortLevels (Nat.le_of_ble_eq_true rfl) rfl h

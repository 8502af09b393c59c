/-! the reference's clips -/
/-- the clips of v are L -/
def tr_ (ν : am_M) (L : List Rw) : Prop := tl_ (ν 1 25) (rg ν) L
/-- in v, clips alone have changed -/
def fv_ (ν m : am_M) : Prop := ∀ i : Nat, i ≠ 25 → (i < 26 ∨ 410 ≤ i) → m 1 i = ν 1 i
theorem fv_rf {ν : am_M} : fv_ ν ν := fun _ _ _ => rfl
theorem fv_tr {a b c : am_M} (h : fv_ a b) (g : fv_ b c) : fv_ a c := fun i a1 a2 => (g i a1 a2).trans (h i a1 a2)
theorem fv_e {ν m : am_M} (h : m 1 = ν 1) : fv_ ν m := fun i _ _ => by rw [h]
/-- what is made is R -/
def em_ (ν : am_M) (R : Rw) : Prop := ∀ k : Int, 0 ≤ k → k < 8 → ν 14 k.toNat = R k
theorem em_0 {ν : am_M} {R : Rw} (h : em_ ν R) : ν 14 0 = R 0 ∧ ν 14 1 = R 1 ∧ ν 14 2 = R 2 ∧ ν 14 3 = R 3 ∧ ν 14 4 = R 4 ∧ ν 14 5 = R 5 ∧ ν 14 6 = R 6 ∧ ν 14 7 = R 7 := ⟨h 0 (by omega) (by omega), h 1 (by omega) (by omega), h 2 (by omega) (by omega), h 3 (by omega) (by omega), h 4 (by omega) (by omega), h 5 (by omega) (by omega), h 6 (by omega) (by omega), h 7 (by omega) (by omega)⟩
theorem em_fr {ks : List Nat} {ν m : am_M} {R : Rw} (h : fr_ ks ν m) (hk : 14 ∉ ks) (e : em_ ν R) : em_ m R := fun k k0 k1 => by
  rw [h 14 hk]
  exact e k k0 k1
theorem em_up {ν m : am_M} {R S : Rw} {j : Nat} {x : Int} (e : em_ ν R) (h : m 14 = am_up (ν 14) j x) (hS : ∀ k : Int, 0 ≤ k → k < 8 → S k = if k = j then x else R k) : em_ m S := fun k k0 k1 => by
  rw [h, hS k k0 k1]
  by_cases c : k = j
  · rw [if_pos c, show k.toNat = j by omega, up_s]
  · rw [if_neg c, up_n (by omega)]
    exact e k k0 k1
theorem tr_r1 {ν m : am_M} {L : List Rw} (h : m 1 = ν 1) (t : tr_ ν L) : tr_ m L := by
  unfold tr_ at *
  rw [(r1_e h).2.1, h]
  exact t
theorem vc_X10_takes_0 {x1 : Int} {μ : am_M} {Q : am_M → Prop} (h : at_V kR 2 mX10_takes 2 [vR 0, vI x1, vI 0] [] μ Q) : at_V kR 2 mX10_takes 0 [vR 0, vI x1, vU] [] μ Q := by
  refine s_iconst dX10_takes_0 (by decide) ?_
  refine s_istore_n dX10_takes_1 rfl (by decide) (L' := [vR 0, vI x1, vI 0]) rfl ?_
  exact h
theorem vc_X10_takes_2 {x1 x2 : Int} {μ : am_M} {Q : am_M → Prop} (h : (8 ≤ x2 → Q μ) ∧ (x2 < 8 → (in_ 0 48 x1) ∧ (in_ 0 8 x2) ∧ ((0 ≤ x2) ∧ (x2 < 8) ∧ (∀ m1 : am_M, m1 = am_st μ 14 (am_up (μ 14) (x2).toNat (rg μ x1 x2)) → (am_in (x2 + 1)) ∧ (at_V kR 2 mX10_takes 2 [vR 0, vI x1, vI (x2 + 1)] [] m1 Q))))) : at_V kR 2 mX10_takes 2 [vR 0, vI x1, vI x2] [] μ Q := by
  refine s_iload_n dX10_takes_2 rfl rfl ?_
  refine s_bipush dX10_takes_3 (by decide) ?_
  refine s_icmp_ge dX10_takes_5 (tgt := 26) (by decide) (fun cc => ?_) (fun cc => ?_)
  · have h := h.1 cc
    exact s_return dX10_takes_26 rfl ⟨⟨rfl, rfl⟩, rfl, h⟩
  · have h := h.2 cc
    refine s_aload_n dX10_takes_8 rfl rfl ?_
    refine s_getR dX10_takes_9 flX10_50 rn0 rk0 rfl rr0_18 ?_
    refine s_iload_n dX10_takes_12 rfl rfl ?_
    refine s_aload_n dX10_takes_13 rfl rfl ?_
    refine s_iload_n dX10_takes_14 rfl rfl ?_
    refine s_iload_n dX10_takes_15 rfl rfl ?_
    obtain ⟨p0, p1, h⟩ := h
    refine s_callV (As := [vI x1, vI x2]) (rest := [vI x2, vR 14]) (k := 0) dX10_takes_16 lkX10_126 rn0 ⟨by rw [rk0]; rfl, by rw [rk0]; decide⟩ lmX10_of rfl rfl (Nat.le_of_ble_eq_true rfl) (by decide) (Nat.le_refl 0) (Nat.le_refl 0) (hC := sp_X10_of (Q := fun z m => rg μ x1 x2 = z ∧ μ = m) p0 p1 ⟨rfl, rfl⟩) (fun r n2 S2 m2 hP => ?_)
    obtain ⟨⟨rfl, rfl⟩, z, rfl, rfl, rfl⟩ := hP
    obtain ⟨c, c2, h⟩ := h
    obtain ⟨m1, hm1⟩ : ∃ x : am_M, x = am_st μ 14 (am_up (μ 14) (x2).toNat (rg μ x1 x2)) := ⟨_, rfl⟩
    have h := h m1 hm1
    refine s_iast dX10_takes_19 rn14 rk14 rl14 c c2 hm1.symm ?_
    obtain ⟨c, h⟩ := h
    refine s_iinc dX10_takes_20 rfl (am_w_id c) (by decide) (L' := [vR 0, vI x1, vI (x2 + 1)]) rfl ?_
    refine s_goto dX10_takes_23 (tgt := 2) (by decide) ?_
    exact h
theorem ve_X10_takes {x1 : Int} {μ : am_M} {Q : am_M → Prop} (h : at_V kR 2 mX10_takes 0 [vR 0, vI x1, vU] [] μ Q) : cl_V kR 2 mX10_takes [vR 0, vI x1] μ Q := am_intro pmX10_takes (Nat.le_of_ble_eq_true rfl) rfl h
theorem sp_X10_takes {μ : am_M} {c : Int} (hc : in_ 0 48 c) : cl_V kR 2 mX10_takes [vR 0, vI c] μ (fun m => fr_ [14] μ m ∧ em_ m (rg μ c)) := by
  refine ve_X10_takes (vc_X10_takes_0 ?_)
  have : ∀ (j : Nat) (x : Int) (m : am_M), x + j = 8 → 0 ≤ x → fr_ [14] μ m → (∀ k : Int, 0 ≤ k → k < x → m 14 k.toNat = rg μ c k) → at_V kR 2 mX10_takes 2 [vR 0, vI c, vI x] [] m (fun m => fr_ [14] μ m ∧ em_ m (rg μ c)) := by
    intro j
    induction j with
    | zero =>
      intro x m hx x0 hf hv
      exact vc_X10_takes_2 ⟨fun _ => ⟨hf, fun k k0 k1 => hv k k0 (by omega)⟩, fun q => by omega⟩
    | succ j ih =>
      intro x m hx x0 hf hv
      have eg := (r1_e (hf 1 (by decide))).2.1
      refine vc_X10_takes_2 ⟨fun q => by omega, fun q => ⟨hc, ⟨x0, q⟩, x0, q, fun m1 e1 => ⟨(by (try unfold am_in); (try unfold in_ at *); omega), ih (x + 1) m1 (by omega) (by omega) (by rw [e1]; exact fr_tr hf (fr_st (by simp))) (fun k k0 k1 => ?_)⟩⟩⟩
      rw [e1, st_s, eg]
      by_cases c2 : k = x
      · rw [c2, up_s]
      · rw [up_n (by omega)]
        exact hv k k0 (by omega)
  exact this 8 0 μ (by omega) (by omega) fr_rf (fun k k0 k1 => by omega)
/-- fades shortened as the reference does it -/
def shR (r : Rw) : Rw := fun k => if k = 6 then (if r 4 < r 6 then r 4 else r 6) else if k = 7 then (if r 4 < r 6 + r 7 then (if r 6 < r 4 then r 4 - r 6 else 0) else r 7) else r k
theorem vc_X10_shortens_0 {μ : am_M} {Q : am_M → Prop} (h : (am_in (μ 14 6 + (μ 14 7))) ∧ ((μ 14 6 + (μ 14 7) ≤ μ 14 4 → (μ 14 6 ≤ μ 14 4 → Q μ) ∧ (μ 14 4 < μ 14 6 → ∀ m1 : am_M, m1 = am_st μ 14 (am_up (μ 14) 6 (μ 14 4)) → Q m1)) ∧ (μ 14 4 < μ 14 6 + (μ 14 7) → ((μ 14 6 < μ 14 4 → (am_in (μ 14 4 - (μ 14 6))))) ∧ (∀ v2 : Int, v2 = (if μ 14 6 < μ 14 4 then μ 14 4 - (μ 14 6) else 0) → ∀ m3 : am_M, m3 = am_st μ 14 (am_up (μ 14) 7 v2) → (μ 14 6 ≤ μ 14 4 → Q m3) ∧ (μ 14 4 < μ 14 6 → ∀ m4 : am_M, m4 = am_st m3 14 (am_up (m3 14) 6 (μ 14 4)) → Q m4))))) : at_V kR 1 mX10_shortens 0 [vR 0] [] μ Q := by
  refine s_aload_n dX10_shortens_0 rfl rfl ?_
  refine s_getR dX10_shortens_1 flX10_50 rn0 rk0 rfl rr0_18 ?_
  refine s_bipush dX10_shortens_4 (by decide) ?_
  refine s_iald (x := (μ 14 6)) dX10_shortens_6 rn14 rk14 rl14 (by decide) (by decide) rfl ?_
  refine s_aload_n dX10_shortens_7 rfl rfl ?_
  refine s_getR dX10_shortens_8 flX10_50 rn0 rk0 rfl rr0_18 ?_
  refine s_bipush dX10_shortens_11 (by decide) ?_
  refine s_iald (x := (μ 14 7)) dX10_shortens_13 rn14 rk14 rl14 (by decide) (by decide) rfl ?_
  obtain ⟨c, h⟩ := h
  refine s_iadd dX10_shortens_14 (am_w_id c) ?_
  refine s_aload_n dX10_shortens_15 rfl rfl ?_
  refine s_getR dX10_shortens_16 flX10_50 rn0 rk0 rfl rr0_18 ?_
  refine s_iconst dX10_shortens_19 (by decide) ?_
  refine s_iald (x := (μ 14 4)) dX10_shortens_20 rn14 rk14 rl14 (by decide) (by decide) rfl ?_
  refine s_icmp_le dX10_shortens_21 (tgt := 65) (by decide) (fun cc => ?_) (fun cc => ?_)
  · have h := h.1 cc
    refine s_aload_n dX10_shortens_65 rfl rfl ?_
    refine s_getR dX10_shortens_66 flX10_50 rn0 rk0 rfl rr0_18 ?_
    refine s_bipush dX10_shortens_69 (by decide) ?_
    refine s_iald (x := (μ 14 6)) dX10_shortens_71 rn14 rk14 rl14 (by decide) (by decide) rfl ?_
    refine s_aload_n dX10_shortens_72 rfl rfl ?_
    refine s_getR dX10_shortens_73 flX10_50 rn0 rk0 rfl rr0_18 ?_
    refine s_iconst dX10_shortens_76 (by decide) ?_
    refine s_iald (x := (μ 14 4)) dX10_shortens_77 rn14 rk14 rl14 (by decide) (by decide) rfl ?_
    refine s_icmp_le dX10_shortens_78 (tgt := 94) (by decide) (fun cc => ?_) (fun cc => ?_)
    · have h := h.1 cc
      exact s_return dX10_shortens_94 rfl ⟨⟨rfl, rfl⟩, rfl, h⟩
    · have h := h.2 cc
      refine s_aload_n dX10_shortens_81 rfl rfl ?_
      refine s_getR dX10_shortens_82 flX10_50 rn0 rk0 rfl rr0_18 ?_
      refine s_bipush dX10_shortens_85 (by decide) ?_
      refine s_aload_n dX10_shortens_87 rfl rfl ?_
      refine s_getR dX10_shortens_88 flX10_50 rn0 rk0 rfl rr0_18 ?_
      refine s_iconst dX10_shortens_91 (by decide) ?_
      refine s_iald (x := (μ 14 4)) dX10_shortens_92 rn14 rk14 rl14 (by decide) (by decide) rfl ?_
      obtain ⟨m1, hm1⟩ : ∃ x : am_M, x = am_st μ 14 (am_up (μ 14) 6 (μ 14 4)) := ⟨_, rfl⟩
      have h := h m1 hm1
      refine s_iast dX10_shortens_93 rn14 rk14 rl14 (by decide) (by decide) hm1.symm ?_
      exact s_return dX10_shortens_94 rfl ⟨⟨rfl, rfl⟩, rfl, h⟩
  · have h := h.2 cc
    refine s_aload_n dX10_shortens_24 rfl rfl ?_
    refine s_getR dX10_shortens_25 flX10_50 rn0 rk0 rfl rr0_18 ?_
    refine s_bipush dX10_shortens_28 (by decide) ?_
    refine s_aload_n dX10_shortens_30 rfl rfl ?_
    refine s_getR dX10_shortens_31 flX10_50 rn0 rk0 rfl rr0_18 ?_
    refine s_iconst dX10_shortens_34 (by decide) ?_
    refine s_iald (x := (μ 14 4)) dX10_shortens_35 rn14 rk14 rl14 (by decide) (by decide) rfl ?_
    refine s_aload_n dX10_shortens_36 rfl rfl ?_
    refine s_getR dX10_shortens_37 flX10_50 rn0 rk0 rfl rr0_18 ?_
    refine s_bipush dX10_shortens_40 (by decide) ?_
    refine s_iald (x := (μ 14 6)) dX10_shortens_42 rn14 rk14 rl14 (by decide) (by decide) rfl ?_
    obtain ⟨hsd, h⟩ := h
    have kj5 : ∀ (v2 : Int), (∀ m3 : am_M, m3 = am_st μ 14 (am_up (μ 14) 7 v2) → (μ 14 6 ≤ μ 14 4 → Q m3) ∧ (μ 14 4 < μ 14 6 → ∀ m4 : am_M, m4 = am_st m3 14 (am_up (m3 14) 6 (μ 14 4)) → Q m4)) → at_V kR 1 mX10_shortens 64 [vR 0] [vI v2, vI 7, vR 14] μ Q := by
      intro v2 h
      obtain ⟨m3, hm3⟩ : ∃ x : am_M, x = am_st μ 14 (am_up (μ 14) 7 v2) := ⟨_, rfl⟩
      have h := h m3 hm3
      refine s_iast dX10_shortens_64 rn14 rk14 rl14 (by decide) (by decide) hm3.symm ?_
      refine s_aload_n dX10_shortens_65 rfl rfl ?_
      refine s_getR dX10_shortens_66 flX10_50 rn0 rk0 rfl rr0_18 ?_
      refine s_bipush dX10_shortens_69 (by decide) ?_
      refine s_iald (x := (μ 14 6)) dX10_shortens_71 rn14 rk14 rl14 (by decide) (by decide) (by subst hm3; rfl) ?_
      refine s_aload_n dX10_shortens_72 rfl rfl ?_
      refine s_getR dX10_shortens_73 flX10_50 rn0 rk0 rfl rr0_18 ?_
      refine s_iconst dX10_shortens_76 (by decide) ?_
      refine s_iald (x := (μ 14 4)) dX10_shortens_77 rn14 rk14 rl14 (by decide) (by decide) (by subst hm3; rfl) ?_
      refine s_icmp_le dX10_shortens_78 (tgt := 94) (by decide) (fun cc => ?_) (fun cc => ?_)
      · have h := h.1 cc
        exact s_return dX10_shortens_94 rfl ⟨⟨rfl, rfl⟩, rfl, h⟩
      · have h := h.2 cc
        refine s_aload_n dX10_shortens_81 rfl rfl ?_
        refine s_getR dX10_shortens_82 flX10_50 rn0 rk0 rfl rr0_18 ?_
        refine s_bipush dX10_shortens_85 (by decide) ?_
        refine s_aload_n dX10_shortens_87 rfl rfl ?_
        refine s_getR dX10_shortens_88 flX10_50 rn0 rk0 rfl rr0_18 ?_
        refine s_iconst dX10_shortens_91 (by decide) ?_
        refine s_iald (x := (μ 14 4)) dX10_shortens_92 rn14 rk14 rl14 (by decide) (by decide) (by subst hm3; rfl) ?_
        obtain ⟨m4, hm4⟩ : ∃ x : am_M, x = am_st m3 14 (am_up (m3 14) 6 (μ 14 4)) := ⟨_, rfl⟩
        have h := h m4 hm4
        refine s_iast dX10_shortens_93 rn14 rk14 rl14 (by decide) (by decide) hm4.symm ?_
        exact s_return dX10_shortens_94 rfl ⟨⟨rfl, rfl⟩, rfl, h⟩
    refine s_icmp_le dX10_shortens_43 (tgt := 63) (by decide) (fun cc => ?_) (fun cc => ?_)
    · have hp0 := cc
      refine s_iconst dX10_shortens_63 (by decide) ?_
      exact kj5 0 (h 0 (by rw [if_neg (Int.not_lt.mpr hp0)]))
    · have hp0 := cc
      have hsd := hsd hp0
      refine s_aload_n dX10_shortens_46 rfl rfl ?_
      refine s_getR dX10_shortens_47 flX10_50 rn0 rk0 rfl rr0_18 ?_
      refine s_iconst dX10_shortens_50 (by decide) ?_
      refine s_iald (x := (μ 14 4)) dX10_shortens_51 rn14 rk14 rl14 (by decide) (by decide) rfl ?_
      refine s_aload_n dX10_shortens_52 rfl rfl ?_
      refine s_getR dX10_shortens_53 flX10_50 rn0 rk0 rfl rr0_18 ?_
      refine s_bipush dX10_shortens_56 (by decide) ?_
      refine s_iald (x := (μ 14 6)) dX10_shortens_58 rn14 rk14 rl14 (by decide) (by decide) rfl ?_
      have c := hsd
      refine s_isub dX10_shortens_59 (am_w_id c) ?_
      refine s_goto dX10_shortens_60 (tgt := 64) (by decide) ?_
      exact kj5 (μ 14 4 - (μ 14 6)) (h (μ 14 4 - (μ 14 6)) (by rw [if_pos hp0]))
theorem ve_X10_shortens {μ : am_M} {Q : am_M → Prop} (h : at_V kR 1 mX10_shortens 0 [vR 0] [] μ Q) : cl_V kR 1 mX10_shortens [vR 0] μ Q := am_intro pmX10_shortens (Nat.le_of_ble_eq_true rfl) rfl h
theorem sp_X10_shortens {μ : am_M} {R : Rw} (he : em_ μ R) (h4 : in_ (-1000) 2000 (R 4)) (h6 : in_ 0 2000 (R 6)) (h7 : in_ 0 2000 (R 7)) : cl_V kR 1 mX10_shortens [vR 0] μ (fun m => fr_ [14] μ m ∧ em_ m (shR R)) := by
  obtain ⟨e0, e1, e2, e3, e4, e5, e6, e7⟩ := em_0 he
  have k8 : ∀ k : Int, 0 ≤ k → k < 8 → k = 0 ∨ k = 1 ∨ k = 2 ∨ k = 3 ∨ k = 4 ∨ k = 5 ∨ k = 6 ∨ k = 7 := fun k _ _ => by omega
  refine ve_X10_shortens (vc_X10_shortens_0 ?_)
  rw [e4, e6, e7]
  refine ⟨(by (try unfold am_in); (try unfold in_ at *); omega), fun c1 => ⟨fun c2 => ⟨fr_rf, fun k k0 k1 => ?_⟩, fun c2 m1 h1 => ⟨by rw [h1]; exact fr_st (by simp), em_up (j := 6) (x := R 4) he (by rw [h1, st_s]) (fun k k0 k1 => ?_)⟩⟩, fun c1 => ⟨fun _ => (by (try unfold am_in); (try unfold in_ at *); omega), fun v2 hv2 m3 h3 => ?_⟩⟩
  · rw [he k k0 k1]
    rcases k8 k k0 k1 with rfl | rfl | rfl | rfl | rfl | rfl | rfl | rfl <;> simp [shR] <;> omega
  · rcases k8 k k0 k1 with rfl | rfl | rfl | rfl | rfl | rfl | rfl | rfl <;> simp [shR] <;> omega
  · have a14 : m3 14 = am_up (μ 14) 7 v2 := by rw [h3, st_s]
    have em3 : em_ m3 (fun k => if k = 7 then v2 else R k) := em_up (j := 7) he a14 (fun k k0 k1 => by rcases k8 k k0 k1 with rfl | rfl | rfl | rfl | rfl | rfl | rfl | rfl <;> simp)
    have f3 : fr_ [14] μ m3 := by rw [h3]; exact fr_st (by simp)
    refine ⟨fun c2 => ⟨f3, fun k k0 k1 => ?_⟩, fun c2 m4 h4' => ⟨by rw [h4']; exact fr_tr f3 (fr_st (by simp)), em_up (j := 6) (x := R 4) em3 (by rw [h4', st_s]) (fun k k0 k1 => ?_)⟩⟩
    · rw [em3 k k0 k1]
      rcases k8 k k0 k1 with rfl | rfl | rfl | rfl | rfl | rfl | rfl | rfl <;> simp [shR] <;> (repeat' split at *) <;> omega
    · rcases k8 k k0 k1 with rfl | rfl | rfl | rfl | rfl | rfl | rfl | rfl <;> simp [shR] <;> (repeat' split at *) <;> omega
theorem vc_X10_drops_0 {x1 : Int} {μ : am_M} {Q : am_M → Prop} (h : (am_in (μ 1 25 - 1)) ∧ (∀ m1 : am_M, m1 = am_st μ 1 (am_up (μ 1) 25 (μ 1 25 - 1)) → (am_in (8 * x1)) ∧ ((am_in (26 + (8 * x1))) ∧ (at_V kR 1 mX10_drops 19 [vR 0, vU, vI (26 + (8 * x1))] [] m1 Q)))) : at_V kR 1 mX10_drops 0 [vR 0, vI x1, vU] [] μ Q := by
  refine s_aload_n dX10_drops_0 rfl rfl ?_
  refine s_getR dX10_drops_1 flX10_9 rn0 rk0 rfl rr0_0 ?_
  refine s_bipush dX10_drops_4 (by decide) ?_
  refine s_dup2 dX10_drops_6 ?_
  refine s_iald (x := (μ 1 25)) dX10_drops_7 rn1 rk1 rl1 (by decide) (by decide) rfl ?_
  refine s_iconst dX10_drops_8 (by decide) ?_
  obtain ⟨c, h⟩ := h
  refine s_isub dX10_drops_9 (am_w_id c) ?_
  obtain ⟨m1, hm1⟩ : ∃ x : am_M, x = am_st μ 1 (am_up (μ 1) 25 (μ 1 25 - 1)) := ⟨_, rfl⟩
  have h := h m1 hm1
  refine s_iast dX10_drops_10 rn1 rk1 rl1 (by decide) (by decide) hm1.symm ?_
  refine s_bipush dX10_drops_11 (by decide) ?_
  refine s_bipush dX10_drops_13 (by decide) ?_
  refine s_iload_n dX10_drops_15 rfl rfl ?_
  obtain ⟨c, h⟩ := h
  refine s_imul dX10_drops_16 (am_w_id c) ?_
  obtain ⟨c, h⟩ := h
  refine s_iadd dX10_drops_17 (am_w_id c) ?_
  refine s_istore_n dX10_drops_18 rfl (by decide) (L' := [vR 0, vI x1, vI (26 + (8 * x1))]) rfl ?_
  exact am_lesS h ⟨Or.inr rfl, Or.inl rfl, Or.inr rfl, trivial⟩
theorem vc_X10_drops_19 {x2 : Int} {μ : am_M} {Q : am_M → Prop} (h : (am_in (8 * (μ 1 25))) ∧ ((am_in (26 + (8 * (μ 1 25)))) ∧ ((26 + (8 * (μ 1 25)) ≤ x2 → Q μ) ∧ (x2 < 26 + (8 * (μ 1 25)) → (am_in (x2 + 8)) ∧ ((0 ≤ x2 + 8) ∧ (x2 + 8 < 470) ∧ ((0 ≤ x2) ∧ (x2 < 470) ∧ (∀ m1 : am_M, m1 = am_st μ 1 (am_up (μ 1) (x2).toNat (μ 1 ((x2 + 8).toNat))) → (am_in (x2 + 1)) ∧ (at_V kR 1 mX10_drops 19 [vR 0, vU, vI (x2 + 1)] [] m1 Q)))))))) : at_V kR 1 mX10_drops 19 [vR 0, vU, vI x2] [] μ Q := by
  refine s_iload_n dX10_drops_19 rfl rfl ?_
  refine s_bipush dX10_drops_20 (by decide) ?_
  refine s_bipush dX10_drops_22 (by decide) ?_
  refine s_aload_n dX10_drops_24 rfl rfl ?_
  refine s_getR dX10_drops_25 flX10_9 rn0 rk0 rfl rr0_0 ?_
  refine s_bipush dX10_drops_28 (by decide) ?_
  refine s_iald (x := (μ 1 25)) dX10_drops_30 rn1 rk1 rl1 (by decide) (by decide) rfl ?_
  obtain ⟨c, h⟩ := h
  refine s_imul dX10_drops_31 (am_w_id c) ?_
  obtain ⟨c, h⟩ := h
  refine s_iadd dX10_drops_32 (am_w_id c) ?_
  refine s_icmp_ge dX10_drops_33 (tgt := 57) (by decide) (fun cc => ?_) (fun cc => ?_)
  · have h := h.1 cc
    exact s_return dX10_drops_57 rfl ⟨⟨rfl, rfl⟩, rfl, h⟩
  · have h := h.2 cc
    refine s_aload_n dX10_drops_36 rfl rfl ?_
    refine s_getR dX10_drops_37 flX10_9 rn0 rk0 rfl rr0_0 ?_
    refine s_iload_n dX10_drops_40 rfl rfl ?_
    refine s_aload_n dX10_drops_41 rfl rfl ?_
    refine s_getR dX10_drops_42 flX10_9 rn0 rk0 rfl rr0_0 ?_
    refine s_iload_n dX10_drops_45 rfl rfl ?_
    refine s_bipush dX10_drops_46 (by decide) ?_
    obtain ⟨c, h⟩ := h
    refine s_iadd dX10_drops_48 (am_w_id c) ?_
    obtain ⟨c, c2, h⟩ := h
    refine s_iald (x := (μ 1 ((x2 + 8).toNat))) dX10_drops_49 rn1 rk1 rl1 c c2 rfl ?_
    obtain ⟨c, c2, h⟩ := h
    obtain ⟨m1, hm1⟩ : ∃ x : am_M, x = am_st μ 1 (am_up (μ 1) (x2).toNat (μ 1 ((x2 + 8).toNat))) := ⟨_, rfl⟩
    have h := h m1 hm1
    refine s_iast dX10_drops_50 rn1 rk1 rl1 c c2 hm1.symm ?_
    obtain ⟨c, h⟩ := h
    refine s_iinc dX10_drops_51 rfl (am_w_id c) (by decide) (L' := [vR 0, vU, vI (x2 + 1)]) rfl ?_
    refine s_goto dX10_drops_54 (tgt := 19) (by decide) ?_
    exact h
theorem ve_X10_drops {x1 : Int} {μ : am_M} {Q : am_M → Prop} (h : at_V kR 1 mX10_drops 0 [vR 0, vI x1, vU] [] μ Q) : cl_V kR 1 mX10_drops [vR 0, vI x1] μ Q := am_intro pmX10_drops (Nat.le_of_ble_eq_true rfl) rfl h
theorem sp_X10_drops {μ : am_M} {A B : List Rw} {r : Rw} {c : Int} (ht : tr_ μ (A ++ r :: B)) (hc : c = A.length) (hl : (A ++ r :: B).length ≤ 48) : cl_V kR 1 mX10_drops [vR 0, vI c] μ (fun m => fr_ [1] μ m ∧ fv_ μ m ∧ tr_ m (A ++ B)) := by
  have hn := ht.1
  have hll : (A ++ r :: B).length = A.length + 1 + B.length := by simp; omega
  rw [hll] at hn hl
  refine ve_X10_drops (vc_X10_drops_0 ⟨(by (try unfold am_in); (try unfold in_ at *); omega), fun m1 e1 => ⟨(by (try unfold am_in); (try unfold in_ at *); omega), (by (try unfold am_in); (try unfold in_ at *); omega), ?_⟩⟩)
  have f1 : fr_ [1] μ m1 := by rw [e1]; exact fr_st (by simp)
  have a25 : m1 1 25 = μ 1 25 - 1 := by rw [e1, st_s, up_s]
  have aj : ∀ j, j ≠ 25 → m1 1 j = μ 1 j := fun j hj => by rw [e1, st_s, up_n hj]
  have : ∀ (j : Nat) (x : Int) (m : am_M), x + j = 26 + 8 * (μ 1 25 - 1) → 26 + 8 * c ≤ x → fr_ [1] μ m → m 1 25 = μ 1 25 - 1 → (∀ i : Nat, i ≠ 25 → ((i : Int) < 26 + 8 * c ∨ x ≤ i) → m 1 i = μ 1 i) → (∀ i : Nat, 26 + 8 * c ≤ (i : Int) → (i : Int) < x → m 1 i = μ 1 (i + 8)) → at_V kR 1 mX10_drops 19 [vR 0, vU, vI x] [] m (fun m => fr_ [1] μ m ∧ fv_ μ m ∧ tr_ m (A ++ B)) := by
    intro j
    induction j with
    | zero =>
      intro x m hx xc hf h25 h1 h2
      refine vc_X10_drops_19 ⟨(by (try unfold am_in); (try unfold in_ at *); omega), (by (try unfold am_in); (try unfold in_ at *); omega), fun _ => ⟨hf, fun i i25 hi => h1 i i25 (by omega), ?_⟩, fun q => by omega⟩
      have td := tl_del ht hc
      refine ⟨by rw [h25, hn]; simp; omega, fun i s hi k k0 k1 => ?_⟩
      have hil := (List.getElem?_eq_some_iff.mp hi).1
      rw [List.length_append] at hil
      rw [← td.2 i s hi k k0 k1]
      show m 1 ((26 + 8 * (i : Int)) + k).toNat = if (i : Int) < c then μ 1 ((26 + 8 * (i : Int)) + k).toNat else μ 1 ((26 + 8 * ((i : Int) + 1)) + k).toNat
      by_cases q : (i : Int) < c
      · rw [if_pos q, h1 _ (by omega) (by omega)]
      · rw [if_neg q, h2 _ (by omega) (by omega)]
        congr 1
        omega
    | succ j ih =>
      intro x m hx xc hf h25 h1 h2
      refine vc_X10_drops_19 ⟨(by (try unfold am_in); (try unfold in_ at *); omega), (by (try unfold am_in); (try unfold in_ at *); omega), fun q => by omega, fun q => ⟨(by (try unfold am_in); (try unfold in_ at *); omega), by omega, by omega, by omega, by omega, fun m2 e2 => ⟨(by (try unfold am_in); (try unfold in_ at *); omega), ih (x + 1) m2 (by omega) (by omega) (by rw [e2]; exact fr_tr hf (fr_st (by simp))) ?_ (fun i i25 hi => ?_) (fun i i0 i1 => ?_)⟩⟩⟩
      · rw [e2, st_s, up_n (by omega), h25]
      · rw [e2, st_s, up_n (by omega)]
        exact h1 i i25 (by omega)
      · rw [e2, st_s]
        by_cases c2 : i = x.toNat
        · rw [c2, up_s, h1 _ (by omega) (by omega)]
          congr 1
          omega
        · rw [up_n c2]
          exact h2 i i0 (by omega)
  exact this (26 + 8 * (μ 1 25 - 1) - (26 + 8 * c)).toNat (26 + 8 * c) m1 (by omega) (by omega) f1 a25 (fun i i25 _ => aj i i25) (fun i i0 i1 => by omega)
theorem vc_X10_lays_0 {μ : am_M} {Q : Int → am_M → Prop} (h : at_I kR 2 mX10_lays 2 [vR 0, vI 0, vU] [] μ Q) : at_I kR 2 mX10_lays 0 [vR 0, vU, vU] [] μ Q := by
  refine s_iconst dX10_lays_0 (by decide) ?_
  refine s_istore_n dX10_lays_1 rfl (by decide) (L' := [vR 0, vI 0, vU]) rfl ?_
  exact h
theorem vc_X10_lays_2 {x1 : Int} {μ : am_M} {Q : Int → am_M → Prop} (h : (μ 1 25 ≤ x1 → (am_in (μ 1 25 + 1)) ∧ ((am_in (8 * (μ 1 25 + 1))) ∧ ((am_in (26 + (8 * (μ 1 25 + 1)))) ∧ ((am_in ((26 + (8 * (μ 1 25 + 1))) - 1)) ∧ (at_I kR 2 mX10_lays 82 [vR 0, vI x1, vI ((26 + (8 * (μ 1 25 + 1))) - 1)] [] μ Q))))) ∧ (x1 < μ 1 25 → (in_ 0 48 x1) ∧ (in_ 0 8 0) ∧ ((rg μ x1 0 < μ 14 0 → (am_in (x1 + 1)) ∧ (at_I kR 2 mX10_lays 2 [vR 0, vI (x1 + 1), vU] [] μ Q)) ∧ (μ 14 0 ≤ rg μ x1 0 → (in_ 0 48 x1) ∧ (in_ 0 8 0) ∧ ((rg μ x1 0 ≠ μ 14 0 → (am_in (μ 1 25 + 1)) ∧ ((am_in (8 * (μ 1 25 + 1))) ∧ ((am_in (26 + (8 * (μ 1 25 + 1)))) ∧ ((am_in ((26 + (8 * (μ 1 25 + 1))) - 1)) ∧ (at_I kR 2 mX10_lays 82 [vR 0, vI x1, vI ((26 + (8 * (μ 1 25 + 1))) - 1)] [] μ Q))))) ∧ (rg μ x1 0 = μ 14 0 → (in_ 0 48 x1) ∧ (in_ 0 8 1) ∧ ((μ 14 1 ≤ rg μ x1 1 → (am_in (μ 1 25 + 1)) ∧ ((am_in (8 * (μ 1 25 + 1))) ∧ ((am_in (26 + (8 * (μ 1 25 + 1)))) ∧ ((am_in ((26 + (8 * (μ 1 25 + 1))) - 1)) ∧ (at_I kR 2 mX10_lays 82 [vR 0, vI x1, vI ((26 + (8 * (μ 1 25 + 1))) - 1)] [] μ Q))))) ∧ (rg μ x1 1 < μ 14 1 → (am_in (x1 + 1)) ∧ (at_I kR 2 mX10_lays 2 [vR 0, vI (x1 + 1), vU] [] μ Q))))))))) : at_I kR 2 mX10_lays 2 [vR 0, vI x1, vU] [] μ Q := by
  refine s_iload_n dX10_lays_2 rfl rfl ?_
  refine s_aload_n dX10_lays_3 rfl rfl ?_
  refine s_getR dX10_lays_4 flX10_9 rn0 rk0 rfl rr0_0 ?_
  refine s_bipush dX10_lays_7 (by decide) ?_
  refine s_iald (x := (μ 1 25)) dX10_lays_9 rn1 rk1 rl1 (by decide) (by decide) rfl ?_
  refine s_icmp_ge dX10_lays_10 (tgt := 64) (by decide) (fun cc => ?_) (fun cc => ?_)
  · have h := h.1 cc
    refine s_bipush dX10_lays_64 (by decide) ?_
    refine s_bipush dX10_lays_66 (by decide) ?_
    refine s_aload_n dX10_lays_68 rfl rfl ?_
    refine s_getR dX10_lays_69 flX10_9 rn0 rk0 rfl rr0_0 ?_
    refine s_bipush dX10_lays_72 (by decide) ?_
    refine s_iald (x := (μ 1 25)) dX10_lays_74 rn1 rk1 rl1 (by decide) (by decide) rfl ?_
    refine s_iconst dX10_lays_75 (by decide) ?_
    obtain ⟨c, h⟩ := h
    refine s_iadd dX10_lays_76 (am_w_id c) ?_
    obtain ⟨c, h⟩ := h
    refine s_imul dX10_lays_77 (am_w_id c) ?_
    obtain ⟨c, h⟩ := h
    refine s_iadd dX10_lays_78 (am_w_id c) ?_
    refine s_iconst dX10_lays_79 (by decide) ?_
    obtain ⟨c, h⟩ := h
    refine s_isub dX10_lays_80 (am_w_id c) ?_
    refine s_istore_n dX10_lays_81 rfl (by decide) (L' := [vR 0, vI x1, vI ((26 + (8 * (μ 1 25 + 1))) - 1)]) rfl ?_
    exact h
  · have h := h.2 cc
    refine s_aload_n dX10_lays_13 rfl rfl ?_
    refine s_iload_n dX10_lays_14 rfl rfl ?_
    refine s_iconst dX10_lays_15 (by decide) ?_
    obtain ⟨p0, p1, h⟩ := h
    refine s_callV (As := [vI x1, vI 0]) (rest := []) (k := 0) dX10_lays_16 lkX10_126 rn0 ⟨by rw [rk0]; rfl, by rw [rk0]; decide⟩ lmX10_of rfl rfl (Nat.le_of_ble_eq_true rfl) (by decide) (Nat.le_refl 0) (Nat.le_refl 0) (hC := sp_X10_of (Q := fun z m => rg μ x1 0 = z ∧ μ = m) p0 p1 ⟨rfl, rfl⟩) (fun r n2 S2 m2 hP => ?_)
    obtain ⟨⟨rfl, rfl⟩, z, rfl, rfl, rfl⟩ := hP
    refine s_aload_n dX10_lays_19 rfl rfl ?_
    refine s_getR dX10_lays_20 flX10_50 rn0 rk0 rfl rr0_18 ?_
    refine s_iconst dX10_lays_23 (by decide) ?_
    refine s_iald (x := (μ 14 0)) dX10_lays_24 rn14 rk14 rl14 (by decide) (by decide) rfl ?_
    refine s_icmp_lt dX10_lays_25 (tgt := 58) (by decide) (fun cc => ?_) (fun cc => ?_)
    · have h := h.1 cc
      obtain ⟨c, h⟩ := h
      refine s_iinc dX10_lays_58 rfl (am_w_id c) (by decide) (L' := [vR 0, vI (x1 + 1), vU]) rfl ?_
      refine s_goto dX10_lays_61 (tgt := 2) (by decide) ?_
      exact h
    · have h := h.2 cc
      refine s_aload_n dX10_lays_28 rfl rfl ?_
      refine s_iload_n dX10_lays_29 rfl rfl ?_
      refine s_iconst dX10_lays_30 (by decide) ?_
      obtain ⟨p0, p1, h⟩ := h
      refine s_callV (As := [vI x1, vI 0]) (rest := []) (k := 0) dX10_lays_31 lkX10_126 rn0 ⟨by rw [rk0]; rfl, by rw [rk0]; decide⟩ lmX10_of rfl rfl (Nat.le_of_ble_eq_true rfl) (by decide) (Nat.le_refl 0) (Nat.le_refl 0) (hC := sp_X10_of (Q := fun z m => rg μ x1 0 = z ∧ μ = m) p0 p1 ⟨rfl, rfl⟩) (fun r n2 S2 m2 hP => ?_)
      obtain ⟨⟨rfl, rfl⟩, z, rfl, rfl, rfl⟩ := hP
      refine s_aload_n dX10_lays_34 rfl rfl ?_
      refine s_getR dX10_lays_35 flX10_50 rn0 rk0 rfl rr0_18 ?_
      refine s_iconst dX10_lays_38 (by decide) ?_
      refine s_iald (x := (μ 14 0)) dX10_lays_39 rn14 rk14 rl14 (by decide) (by decide) rfl ?_
      refine s_icmp_ne dX10_lays_40 (tgt := 64) (by decide) (fun cc => ?_) (fun cc => ?_)
      · have h := h.1 cc
        refine s_bipush dX10_lays_64 (by decide) ?_
        refine s_bipush dX10_lays_66 (by decide) ?_
        refine s_aload_n dX10_lays_68 rfl rfl ?_
        refine s_getR dX10_lays_69 flX10_9 rn0 rk0 rfl rr0_0 ?_
        refine s_bipush dX10_lays_72 (by decide) ?_
        refine s_iald (x := (μ 1 25)) dX10_lays_74 rn1 rk1 rl1 (by decide) (by decide) rfl ?_
        refine s_iconst dX10_lays_75 (by decide) ?_
        obtain ⟨c, h⟩ := h
        refine s_iadd dX10_lays_76 (am_w_id c) ?_
        obtain ⟨c, h⟩ := h
        refine s_imul dX10_lays_77 (am_w_id c) ?_
        obtain ⟨c, h⟩ := h
        refine s_iadd dX10_lays_78 (am_w_id c) ?_
        refine s_iconst dX10_lays_79 (by decide) ?_
        obtain ⟨c, h⟩ := h
        refine s_isub dX10_lays_80 (am_w_id c) ?_
        refine s_istore_n dX10_lays_81 rfl (by decide) (L' := [vR 0, vI x1, vI ((26 + (8 * (μ 1 25 + 1))) - 1)]) rfl ?_
        exact h
      · have h := h.2 cc
        refine s_aload_n dX10_lays_43 rfl rfl ?_
        refine s_iload_n dX10_lays_44 rfl rfl ?_
        refine s_iconst dX10_lays_45 (by decide) ?_
        obtain ⟨p0, p1, h⟩ := h
        refine s_callV (As := [vI x1, vI 1]) (rest := []) (k := 0) dX10_lays_46 lkX10_126 rn0 ⟨by rw [rk0]; rfl, by rw [rk0]; decide⟩ lmX10_of rfl rfl (Nat.le_of_ble_eq_true rfl) (by decide) (Nat.le_refl 0) (Nat.le_refl 0) (hC := sp_X10_of (Q := fun z m => rg μ x1 1 = z ∧ μ = m) p0 p1 ⟨rfl, rfl⟩) (fun r n2 S2 m2 hP => ?_)
        obtain ⟨⟨rfl, rfl⟩, z, rfl, rfl, rfl⟩ := hP
        refine s_aload_n dX10_lays_49 rfl rfl ?_
        refine s_getR dX10_lays_50 flX10_50 rn0 rk0 rfl rr0_18 ?_
        refine s_iconst dX10_lays_53 (by decide) ?_
        refine s_iald (x := (μ 14 1)) dX10_lays_54 rn14 rk14 rl14 (by decide) (by decide) rfl ?_
        refine s_icmp_ge dX10_lays_55 (tgt := 64) (by decide) (fun cc => ?_) (fun cc => ?_)
        · have h := h.1 cc
          refine s_bipush dX10_lays_64 (by decide) ?_
          refine s_bipush dX10_lays_66 (by decide) ?_
          refine s_aload_n dX10_lays_68 rfl rfl ?_
          refine s_getR dX10_lays_69 flX10_9 rn0 rk0 rfl rr0_0 ?_
          refine s_bipush dX10_lays_72 (by decide) ?_
          refine s_iald (x := (μ 1 25)) dX10_lays_74 rn1 rk1 rl1 (by decide) (by decide) rfl ?_
          refine s_iconst dX10_lays_75 (by decide) ?_
          obtain ⟨c, h⟩ := h
          refine s_iadd dX10_lays_76 (am_w_id c) ?_
          obtain ⟨c, h⟩ := h
          refine s_imul dX10_lays_77 (am_w_id c) ?_
          obtain ⟨c, h⟩ := h
          refine s_iadd dX10_lays_78 (am_w_id c) ?_
          refine s_iconst dX10_lays_79 (by decide) ?_
          obtain ⟨c, h⟩ := h
          refine s_isub dX10_lays_80 (am_w_id c) ?_
          refine s_istore_n dX10_lays_81 rfl (by decide) (L' := [vR 0, vI x1, vI ((26 + (8 * (μ 1 25 + 1))) - 1)]) rfl ?_
          exact h
        · have h := h.2 cc
          obtain ⟨c, h⟩ := h
          refine s_iinc dX10_lays_58 rfl (am_w_id c) (by decide) (L' := [vR 0, vI (x1 + 1), vU]) rfl ?_
          refine s_goto dX10_lays_61 (tgt := 2) (by decide) ?_
          exact h
theorem vc_X10_lays_82 {x1 x2 : Int} {μ : am_M} {Q : Int → am_M → Prop} (h : (am_in (x1 + 1)) ∧ ((am_in (8 * (x1 + 1))) ∧ ((am_in (26 + (8 * (x1 + 1)))) ∧ ((x2 < 26 + (8 * (x1 + 1)) → at_I kR 2 mX10_lays 118 [vR 0, vI x1, vI 0] [] μ Q) ∧ (26 + (8 * (x1 + 1)) ≤ x2 → (am_in (x2 - 8)) ∧ ((0 ≤ x2 - 8) ∧ (x2 - 8 < 470) ∧ ((0 ≤ x2) ∧ (x2 < 470) ∧ (∀ m1 : am_M, m1 = am_st μ 1 (am_up (μ 1) (x2).toNat (μ 1 ((x2 - 8).toNat))) → (am_in (x2 - 1)) ∧ (at_I kR 2 mX10_lays 82 [vR 0, vI x1, vI (x2 - 1)] [] m1 Q))))))))) : at_I kR 2 mX10_lays 82 [vR 0, vI x1, vI x2] [] μ Q := by
  refine s_iload_n dX10_lays_82 rfl rfl ?_
  refine s_bipush dX10_lays_83 (by decide) ?_
  refine s_bipush dX10_lays_85 (by decide) ?_
  refine s_iload_n dX10_lays_87 rfl rfl ?_
  refine s_iconst dX10_lays_88 (by decide) ?_
  obtain ⟨c, h⟩ := h
  refine s_iadd dX10_lays_89 (am_w_id c) ?_
  obtain ⟨c, h⟩ := h
  refine s_imul dX10_lays_90 (am_w_id c) ?_
  obtain ⟨c, h⟩ := h
  refine s_iadd dX10_lays_91 (am_w_id c) ?_
  refine s_icmp_lt dX10_lays_92 (tgt := 116) (by decide) (fun cc => ?_) (fun cc => ?_)
  · have h := h.1 cc
    refine s_iconst dX10_lays_116 (by decide) ?_
    refine s_istore_n dX10_lays_117 rfl (by decide) (L' := [vR 0, vI x1, vI 0]) rfl ?_
    exact h
  · have h := h.2 cc
    refine s_aload_n dX10_lays_95 rfl rfl ?_
    refine s_getR dX10_lays_96 flX10_9 rn0 rk0 rfl rr0_0 ?_
    refine s_iload_n dX10_lays_99 rfl rfl ?_
    refine s_aload_n dX10_lays_100 rfl rfl ?_
    refine s_getR dX10_lays_101 flX10_9 rn0 rk0 rfl rr0_0 ?_
    refine s_iload_n dX10_lays_104 rfl rfl ?_
    refine s_bipush dX10_lays_105 (by decide) ?_
    obtain ⟨c, h⟩ := h
    refine s_isub dX10_lays_107 (am_w_id c) ?_
    obtain ⟨c, c2, h⟩ := h
    refine s_iald (x := (μ 1 ((x2 - 8).toNat))) dX10_lays_108 rn1 rk1 rl1 c c2 rfl ?_
    obtain ⟨c, c2, h⟩ := h
    obtain ⟨m1, hm1⟩ : ∃ x : am_M, x = am_st μ 1 (am_up (μ 1) (x2).toNat (μ 1 ((x2 - 8).toNat))) := ⟨_, rfl⟩
    have h := h m1 hm1
    refine s_iast dX10_lays_109 rn1 rk1 rl1 c c2 hm1.symm ?_
    obtain ⟨c, h⟩ := h
    refine s_iinc dX10_lays_110 rfl (am_w_id c) (by decide) (L' := [vR 0, vI x1, vI (x2 - 1)]) rfl ?_
    refine s_goto dX10_lays_113 (tgt := 82) (by decide) ?_
    exact h
theorem vc_X10_lays_118 {x1 x2 : Int} {μ : am_M} {Q : Int → am_M → Prop} (h : (8 ≤ x2 → (am_in (μ 1 25 + 1)) ∧ (∀ m1 : am_M, m1 = am_st μ 1 (am_up (μ 1) 25 (μ 1 25 + 1)) → Q x1 m1)) ∧ (x2 < 8 → (am_in (8 * x1)) ∧ ((am_in (26 + (8 * x1))) ∧ ((am_in ((26 + (8 * x1)) + x2)) ∧ ((0 ≤ x2) ∧ (x2 < 8) ∧ ((0 ≤ (26 + (8 * x1)) + x2) ∧ ((26 + (8 * x1)) + x2 < 470) ∧ (∀ m2 : am_M, m2 = am_st μ 1 (am_up (μ 1) ((26 + (8 * x1)) + x2).toNat (μ 14 ((x2).toNat))) → (am_in (x2 + 1)) ∧ (at_I kR 2 mX10_lays 118 [vR 0, vI x1, vI (x2 + 1)] [] m2 Q)))))))) : at_I kR 2 mX10_lays 118 [vR 0, vI x1, vI x2] [] μ Q := by
  refine s_iload_n dX10_lays_118 rfl rfl ?_
  refine s_bipush dX10_lays_119 (by decide) ?_
  refine s_icmp_ge dX10_lays_121 (tgt := 150) (by decide) (fun cc => ?_) (fun cc => ?_)
  · have h := h.1 cc
    refine s_aload_n dX10_lays_150 rfl rfl ?_
    refine s_getR dX10_lays_151 flX10_9 rn0 rk0 rfl rr0_0 ?_
    refine s_bipush dX10_lays_154 (by decide) ?_
    refine s_dup2 dX10_lays_156 ?_
    refine s_iald (x := (μ 1 25)) dX10_lays_157 rn1 rk1 rl1 (by decide) (by decide) rfl ?_
    refine s_iconst dX10_lays_158 (by decide) ?_
    obtain ⟨c, h⟩ := h
    refine s_iadd dX10_lays_159 (am_w_id c) ?_
    obtain ⟨m1, hm1⟩ : ∃ x : am_M, x = am_st μ 1 (am_up (μ 1) 25 (μ 1 25 + 1)) := ⟨_, rfl⟩
    have h := h m1 hm1
    refine s_iast dX10_lays_160 rn1 rk1 rl1 (by decide) (by decide) hm1.symm ?_
    refine s_iload_n dX10_lays_161 rfl rfl ?_
    exact s_ireturn dX10_lays_162 (Or.inl rfl) ⟨⟨rfl, rfl⟩, _, rfl, h⟩
  · have h := h.2 cc
    refine s_aload_n dX10_lays_124 rfl rfl ?_
    refine s_getR dX10_lays_125 flX10_9 rn0 rk0 rfl rr0_0 ?_
    refine s_bipush dX10_lays_128 (by decide) ?_
    refine s_bipush dX10_lays_130 (by decide) ?_
    refine s_iload_n dX10_lays_132 rfl rfl ?_
    obtain ⟨c, h⟩ := h
    refine s_imul dX10_lays_133 (am_w_id c) ?_
    obtain ⟨c, h⟩ := h
    refine s_iadd dX10_lays_134 (am_w_id c) ?_
    refine s_iload_n dX10_lays_135 rfl rfl ?_
    obtain ⟨c, h⟩ := h
    refine s_iadd dX10_lays_136 (am_w_id c) ?_
    refine s_aload_n dX10_lays_137 rfl rfl ?_
    refine s_getR dX10_lays_138 flX10_50 rn0 rk0 rfl rr0_18 ?_
    refine s_iload_n dX10_lays_141 rfl rfl ?_
    obtain ⟨c, c2, h⟩ := h
    refine s_iald (x := (μ 14 ((x2).toNat))) dX10_lays_142 rn14 rk14 rl14 c c2 rfl ?_
    obtain ⟨c, c2, h⟩ := h
    obtain ⟨m2, hm2⟩ : ∃ x : am_M, x = am_st μ 1 (am_up (μ 1) ((26 + (8 * x1)) + x2).toNat (μ 14 ((x2).toNat))) := ⟨_, rfl⟩
    have h := h m2 hm2
    refine s_iast dX10_lays_143 rn1 rk1 rl1 c c2 hm2.symm ?_
    obtain ⟨c, h⟩ := h
    refine s_iinc dX10_lays_144 rfl (am_w_id c) (by decide) (L' := [vR 0, vI x1, vI (x2 + 1)]) rfl ?_
    refine s_goto dX10_lays_147 (tgt := 118) (by decide) ?_
    exact h
theorem ve_X10_lays {μ : am_M} {Q : Int → am_M → Prop} (h : at_I kR 2 mX10_lays 0 [vR 0, vU, vU] [] μ Q) : cl_I kR 2 mX10_lays [vR 0] μ Q := am_intro pmX10_lays (Nat.le_of_ble_eq_true rfl) rfl h
theorem sp_X10_lays {μ : am_M} {L : List Rw} {R : Rw} (ht : tr_ μ L) (he : em_ μ R) (hl : L.length ≤ 47) : cl_I kR 2 mX10_lays [vR 0] μ (fun z m => z = insN R L ∧ fr_ [1] μ m ∧ fv_ μ m ∧ tr_ m (insR R L)) := by
  have hn := ht.1
  obtain ⟨r0, r1, -⟩ := em_0 he
  have htd : L.takeWhile (lsR R) ++ L.dropWhile (lsR R) = L := List.takeWhile_append_dropWhile
  have hlen := congrArg List.length htd
  rw [List.length_append] at hlen
  have hN : insN R L = ((L.takeWhile (lsR R)).length : Int) := rfl
  have hN0 : 0 ≤ insN R L ∧ insN R L ≤ μ 1 25 := by rw [hN, hn]; omega
  refine ve_X10_lays (vc_X10_lays_0 ?_)
  have third : ∀ (j : Nat) (x : Int) (m : am_M), x + j = 8 → 0 ≤ x → fr_ [1] μ m → m 1 25 = μ 1 25 → (∀ i : Nat, ((i : Int) < 26 + 8 * insN R L ∨ 26 + 8 * (μ 1 25 + 1) ≤ i) → m 1 i = μ 1 i) → (∀ i : Nat, 26 + 8 * (insN R L + 1) ≤ (i : Int) → (i : Int) < 26 + 8 * (μ 1 25 + 1) → m 1 i = μ 1 (i - 8)) → (∀ k : Int, 0 ≤ k → k < x → m 1 ((26 + 8 * insN R L) + k).toNat = R k) → at_I kR 2 mX10_lays 118 [vR 0, vI (insN R L), vI x] [] m (fun z m => z = insN R L ∧ fr_ [1] μ m ∧ fv_ μ m ∧ tr_ m (insR R L)) := by
    intro j
    induction j with
    | zero =>
      intro x m hx x0 hf h25 h1 h2 h3
      refine vc_X10_lays_118 ⟨fun _ => ⟨(by (try unfold am_in); (try unfold in_ at *); omega), fun m1 e1 => ⟨rfl, ?_, fun i i25 hi => ?_, ?_, fun i s hi k k0 k1 => ?_⟩⟩, fun q => by omega⟩
      · rw [e1]; exact fr_tr hf (fr_st (by simp))
      · rw [e1, st_s, up_n i25]
        exact h1 i (by omega)
      · rw [e1, st_s, up_s, h25, hn]
        unfold insR
        rw [List.length_append, List.length_cons]
        omega
      · have hil := (List.getElem?_eq_some_iff.mp hi).1
        unfold insR at hi hil
        rw [List.length_append, List.length_cons] at hil
        show m1 1 ((26 + 8 * (i : Int)) + k).toNat = s k
        rw [e1, st_s, up_n (by omega)]
        by_cases q : i < (L.takeWhile (lsR R)).length
        · rw [List.getElem?_append_left q] at hi
          rw [h1 _ (by omega)]
          have := ht.2 i s (by rw [← htd, List.getElem?_append_left q]; exact hi) k k0 k1
          exact this
        · rw [List.getElem?_append_right (by omega)] at hi
          by_cases q2 : i = (L.takeWhile (lsR R)).length
          · rw [q2, Nat.sub_self] at hi
            simp at hi
            have e26 : (26 + 8 * (i : Int)) + k = (26 + 8 * insN R L) + k := by omega
            rw [e26, h3 k k0 (by omega), hi]
          · rw [show i - (L.takeWhile (lsR R)).length = (i - 1 - (L.takeWhile (lsR R)).length) + 1 by omega, List.getElem?_cons_succ] at hi
            rw [h2 _ (by omega) (by omega)]
            have := ht.2 (i - 1) s (by rw [← htd, List.getElem?_append_right (by omega)]; exact hi) k k0 k1
            have e2 : rg μ (i - 1 : Nat) k = μ 1 ((26 + 8 * ((i - 1 : Nat) : Int)) + k).toNat := rfl
            rw [e2] at this
            rw [← this]
            congr 1
            omega
    | succ j ih =>
      intro x m hx x0 hf h25 h1 h2 h3
      have e14 : m 14 x.toNat = R x := by rw [hf 14 (by decide)]; exact he x x0 (by omega)
      refine vc_X10_lays_118 ⟨fun q => by omega, fun q => ⟨(by (try unfold am_in); (try unfold in_ at *); omega), (by (try unfold am_in); (try unfold in_ at *); omega), (by (try unfold am_in); (try unfold in_ at *); omega), x0, q, by omega, by omega, fun m2 e2 => ⟨(by (try unfold am_in); (try unfold in_ at *); omega), ih (x + 1) m2 (by omega) (by omega) (by rw [e2]; exact fr_tr hf (fr_st (by simp))) ?_ (fun i hi => ?_) (fun i i0 i1 => ?_) (fun k k0 k1 => ?_)⟩⟩⟩
      · rw [e2, st_s, up_n (by omega), h25]
      · rw [e2, st_s, up_n (by omega)]
        exact h1 i hi
      · rw [e2, st_s, up_n (by omega)]
        exact h2 i i0 i1
      · rw [e2, st_s]
        by_cases c2 : k = x
        · rw [c2, up_s, e14]
        · rw [up_n (by omega)]
          exact h3 k k0 (by omega)
  have second : ∀ (j : Nat) (x : Int) (m : am_M), x - j = 26 + 8 * (insN R L + 1) - 1 → x < 26 + 8 * (μ 1 25 + 1) → fr_ [1] μ m → (∀ i : Nat, ((i : Int) ≤ x ∨ 26 + 8 * (μ 1 25 + 1) ≤ i) → m 1 i = μ 1 i) → (∀ i : Nat, x < (i : Int) → (i : Int) < 26 + 8 * (μ 1 25 + 1) → m 1 i = μ 1 (i - 8)) → at_I kR 2 mX10_lays 82 [vR 0, vI (insN R L), vI x] [] m (fun z m => z = insN R L ∧ fr_ [1] μ m ∧ fv_ μ m ∧ tr_ m (insR R L)) := by
    intro j
    induction j with
    | zero =>
      intro x m hx x1 hf h1 h2
      refine vc_X10_lays_82 ⟨(by (try unfold am_in); (try unfold in_ at *); omega), (by (try unfold am_in); (try unfold in_ at *); omega), (by (try unfold am_in); (try unfold in_ at *); omega), fun _ => third 8 0 m (by omega) (by omega) hf (h1 25 (by omega)) (fun i hi => h1 i (by omega)) (fun i i0 i1 => h2 i (by omega) i1) (fun k k0 k1 => by omega), fun q => by omega⟩
    | succ j ih =>
      intro x m hx x1 hf h1 h2
      refine vc_X10_lays_82 ⟨(by (try unfold am_in); (try unfold in_ at *); omega), (by (try unfold am_in); (try unfold in_ at *); omega), (by (try unfold am_in); (try unfold in_ at *); omega), fun q => by omega, fun q => ⟨(by (try unfold am_in); (try unfold in_ at *); omega), by omega, by omega, by omega, by omega, fun m1 e1 => ⟨(by (try unfold am_in); (try unfold in_ at *); omega), ih (x - 1) m1 (by omega) (by omega) (by rw [e1]; exact fr_tr hf (fr_st (by simp))) (fun i hi => ?_) (fun i i0 i1 => ?_)⟩⟩⟩
      · rw [e1, st_s, up_n (by omega)]
        exact h1 i (by omega)
      · rw [e1, st_s]
        by_cases c2 : i = x.toNat
        · rw [c2, up_s, h1 _ (by omega)]
          congr 1
          omega
        · rw [up_n c2]
          exact h2 i (by omega) i1
  have start : at_I kR 2 mX10_lays 82 [vR 0, vI (insN R L), vI ((26 + (8 * (μ 1 25 + 1))) - 1)] [] μ (fun z m => z = insN R L ∧ fr_ [1] μ m ∧ fv_ μ m ∧ tr_ m (insR R L)) :=
    second (8 * (μ 1 25 - insN R L)).toNat _ μ (by omega) (by omega) fr_rf (fun i _ => rfl) (fun i i0 i1 => by omega)
  have first : ∀ (B A : List Rw) (x : Int), L = A ++ B → x = A.length → L.takeWhile (lsR R) = A ++ B.takeWhile (lsR R) → at_I kR 2 mX10_lays 2 [vR 0, vI x, vU] [] μ (fun z m => z = insN R L ∧ fr_ [1] μ m ∧ fv_ μ m ∧ tr_ m (insR R L)) := by
    intro B
    induction B with
    | nil =>
      intro A x hA hx hw
      have ex : x = insN R L := by rw [hN, hw, hx]; simp
      have exl : x = μ 1 25 := by rw [hn, hx, hA]; simp
      subst ex
      exact vc_X10_lays_2 ⟨fun _ => ⟨(by (try unfold am_in); (try unfold in_ at *); omega), (by (try unfold am_in); (try unfold in_ at *); omega), (by (try unfold am_in); (try unfold in_ at *); omega), (by (try unfold am_in); (try unfold in_ at *); omega), start⟩, fun q => by omega⟩
    | cons b B ih =>
      intro A x hA hx hw
      have hll : L.length = A.length + 1 + B.length := by rw [hA]; simp; omega
      have ht2 := ht
      rw [hA] at ht2
      have g0 : rg μ x 0 = b 0 := tl_at ht2 hx (by omega) (by omega)
      have g1 : rg μ x 1 = b 1 := tl_at ht2 hx (by omega) (by omega)
      have stop : ¬ (b 0 < R 0 ∨ b 0 = R 0 ∧ b 1 < R 1) → x = insN R L := fun h => by
        have hb : lsR R b = false := by unfold lsR; simp only [decide_eq_false_iff_not]; exact h
        rw [hN, hw, hx]
        simp [hb]
      have goon : (b 0 < R 0 ∨ b 0 = R 0 ∧ b 1 < R 1) → at_I kR 2 mX10_lays 2 [vR 0, vI (x + 1), vU] [] μ (fun z m => z = insN R L ∧ fr_ [1] μ m ∧ fv_ μ m ∧ tr_ m (insR R L)) := fun h => by
        have hb : lsR R b = true := by unfold lsR; simp only [decide_eq_true_eq]; exact h
        exact ih (A ++ [b]) (x + 1) (by rw [hA]; simp) (by simp; omega) (by rw [hw]; simp [hb])
      refine vc_X10_lays_2 ⟨fun q => by omega, fun q => ?_⟩
      rw [g0, g1, r0, r1]
      have st2 : ¬ (b 0 < R 0 ∨ b 0 = R 0 ∧ b 1 < R 1) → at_I kR 2 mX10_lays 82 [vR 0, vI x, vI ((26 + (8 * (μ 1 25 + 1))) - 1)] [] μ (fun z m => z = insN R L ∧ fr_ [1] μ m ∧ fv_ μ m ∧ tr_ m (insR R L)) := fun h => by
        rw [stop h]
        exact start
      refine ⟨(by (try unfold am_in); (try unfold in_ at *); omega), (by (try unfold am_in); (try unfold in_ at *); omega), fun c => ⟨(by (try unfold am_in); (try unfold in_ at *); omega), goon (Or.inl c)⟩, fun c => ⟨(by (try unfold am_in); (try unfold in_ at *); omega), (by (try unfold am_in); (try unfold in_ at *); omega), fun c2 => ⟨(by (try unfold am_in); (try unfold in_ at *); omega), (by (try unfold am_in); (try unfold in_ at *); omega), (by (try unfold am_in); (try unfold in_ at *); omega), (by (try unfold am_in); (try unfold in_ at *); omega), st2 (by omega)⟩, fun c2 => ⟨(by (try unfold am_in); (try unfold in_ at *); omega), (by (try unfold am_in); (try unfold in_ at *); omega), fun c3 => ⟨(by (try unfold am_in); (try unfold in_ at *); omega), (by (try unfold am_in); (try unfold in_ at *); omega), (by (try unfold am_in); (try unfold in_ at *); omega), (by (try unfold am_in); (try unfold in_ at *); omega), st2 (by omega)⟩, fun c3 => ⟨(by (try unfold am_in); (try unfold in_ at *); omega), goon (Or.inr ⟨c2, c3⟩)⟩⟩⟩⟩
  exact first L [] 0 (by simp) rfl (by simp)

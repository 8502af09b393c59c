/-! the class's steps -/
theorem kx29A : ∀ j : Nat, j < 11 → (kC.2 29).2.2 j = (30 + 9 * j) + 1 ∧ (kC.2 (30 + 9 * j)).1 = 4 ∧ (30 + 9 * j) < kC.1 ∧ (kC.2 (30 + 9 * j)).2.1 = 0 := by decide +kernel
theorem kx29 {i : Int} (h0 : 0 ≤ i) (h1 : i < 11) : (kC.2 29).2.2 i.toNat = (30 + 9 * i.toNat) + 1 ∧ (kC.2 (30 + 9 * i.toNat)).1 = 4 ∧ (30 + 9 * i.toNat) < kC.1 ∧ (kC.2 (30 + 9 * i.toNat)).2.1 = 0 := kx29A i.toNat (by omega)
theorem kx130A : ∀ j : Nat, j < 6 → (kC.2 130).2.2 j = (131 + j) + 1 ∧ (kC.2 (131 + j)).1 = 11 ∧ (131 + j) < kC.1 ∧ (kC.2 (131 + j)).2.1 = 200 := by decide +kernel
theorem kx130 {i : Int} (h0 : 0 ≤ i) (h1 : i < 6) : (kC.2 130).2.2 i.toNat = (131 + i.toNat) + 1 ∧ (kC.2 (131 + i.toNat)).1 = 11 ∧ (131 + i.toNat) < kC.1 ∧ (kC.2 (131 + i.toNat)).2.1 = 200 := kx130A i.toNat (by omega)
theorem kx137A : ∀ j : Nat, j < 4 → (kC.2 137).2.2 j = (138 + j) + 1 ∧ (kC.2 (138 + j)).1 = 11 ∧ (138 + j) < kC.1 ∧ (kC.2 (138 + j)).2.1 = 600 := by decide +kernel
theorem kx137 {i : Int} (h0 : 0 ≤ i) (h1 : i < 4) : (kC.2 137).2.2 i.toNat = (138 + i.toNat) + 1 ∧ (kC.2 (138 + i.toNat)).1 = 11 ∧ (138 + i.toNat) < kC.1 ∧ (kC.2 (138 + i.toNat)).2.1 = 600 := kx137A i.toNat (by omega)
/-- the project behind so many steps -/
def rg_ (o x : Int) : Nat := 30 + 9 * ((o + x) % 11).toNat
theorem rg_in (o x : Int) : rg_ o x ∈ pjL := by
  have h : ∀ i : Nat, i < 11 → 30 + 9 * i ∈ pjL := by decide
  exact h _ (by omega)
theorem rg_ne {o x y : Int} (h : x % 11 ≠ y % 11) : rg_ o x ≠ rg_ o y := by
  unfold rg_
  omega
theorem vc_X2_behind_0 {x1 : Int} {μ : am_M} {Q : Nat → am_M → Prop} (h : (am_in (μ 28 1 + x1)) ∧ ((0 ≤ μ 28 1 + x1) ∧ ((0 ≤ (μ 28 1 + x1) % 11) ∧ ((μ 28 1 + x1) % 11 < 11) ∧ (Q (30 + 9 * ((μ 28 1 + x1) % 11).toNat) μ)))) : at_R kC 1 mX2_behind 0 [vR 28, vI x1] [] μ Q := by
  refine s_aload_n dX2_behind_0 rfl rfl ?_
  refine s_getR dX2_behind_1 flX2_11 kn28 kk28 rfl kr28_0 ?_
  refine s_aload_n dX2_behind_4 rfl rfl ?_
  refine s_getI (x := (μ 28 1)) dX2_behind_5 flX2_18 kn28 kk28 rfl rfl ?_
  refine s_iload_n dX2_behind_8 rfl rfl ?_
  obtain ⟨c, h⟩ := h
  refine s_iadd dX2_behind_9 (am_w_id c) ?_
  refine s_bipush dX2_behind_10 (by decide) ?_
  obtain ⟨c, h⟩ := h
  refine s_iremp dX2_behind_12 c (by decide) rfl ?_
  obtain ⟨c, c2, h⟩ := h
  obtain ⟨rx1r, rx1k, rx1n, rx1l⟩ := kx29 c c2
  refine s_aald dX2_behind_13 kn29 kk29 (by decide) kl29 c c2 rx1r ?_
  exact s_areturn dX2_behind_14 ⟨_, rfl⟩ ⟨⟨rfl, rfl⟩, _, rfl, h⟩
theorem ve_X2_behind {x1 : Int} {μ : am_M} {Q : Nat → am_M → Prop} (h : at_R kC 1 mX2_behind 0 [vR 28, vI x1] [] μ Q) : cl_R kC 1 mX2_behind [vR 28, vI x1] μ Q := am_intro pmX2_behind (Nat.le_of_ble_eq_true rfl) rfl h
theorem sp_X2_behind {μ : am_M} {x : Int} {Q : Nat → am_M → Prop} (h0 : in_ 0 11 (μ 28 1)) (h1 : in_ 0 11 x) (hQ : Q (rg_ (μ 28 1) x) μ) : cl_R kC 1 mX2_behind [vR 28, vI x] μ Q :=
  ve_X2_behind (vc_X2_behind_0 ⟨(by (try unfold am_in); (try unfold in_ at *); omega), (by (try unfold am_in); (try unfold in_ at *); omega), (by (try unfold am_in); (try unfold in_ at *); omega), (by (try unfold am_in); (try unfold in_ at *); omega), hQ⟩)
/-- the steps alone and the project b: o u r -/
def hs_ (ks : List Nat) (μ m : am_M) (o u r : Int) : Prop := fr_ (28 :: ks) μ m ∧ m 28 1 = o ∧ m 28 2 = u ∧ m 28 3 = r ∧ m 28 4 = μ 28 4 ∧ m 28 5 = μ 28 5
theorem vc_X2_keep_0 {μ : am_M} {Q : am_M → Prop} (h : (μ 28 2 ≠ 10 → (am_in (μ 28 2 + 1)) ∧ (∀ m1 : am_M, m1 = am_st μ 28 (am_up (μ 28) 2 (μ 28 2 + 1)) → (in_ 0 11 (m1 28 1)) ∧ (in_ 0 11 (μ 28 2 + 1)) ∧ (∃ P : am_M → Prop, cl_V kC 1 mX4_copy [vR 1, vR (rg_ (m1 28 1) (μ 28 2 + 1))] m1 P ∧ (∀ m3 : am_M, P m3 → Q m3)))) ∧ (μ 28 2 = 10 → (am_in (μ 28 1 + 1)) ∧ ((0 ≤ μ 28 1 + 1) ∧ (∀ m4 : am_M, m4 = am_st μ 28 (am_up (μ 28) 1 ((μ 28 1 + 1) % 11)) → (in_ 0 11 (m4 28 1)) ∧ (in_ 0 11 (μ 28 2)) ∧ (∃ P : am_M → Prop, cl_V kC 1 mX4_copy [vR 1, vR (rg_ (m4 28 1) (μ 28 2))] m4 P ∧ (∀ m6 : am_M, P m6 → Q m6)))))) : at_V kC 3 mX2_keep 0 [vR 28, vR 1] [] μ Q := by
  refine s_aload_n dX2_keep_0 rfl rfl ?_
  refine s_getI (x := (μ 28 2)) dX2_keep_1 flX2_36 kn28 kk28 rfl rfl ?_
  refine s_bipush dX2_keep_4 (by decide) ?_
  refine s_icmp_ne dX2_keep_6 (tgt := 25) (by decide) (fun cc => ?_) (fun cc => ?_)
  · have h := h.1 cc
    refine s_aload_n dX2_keep_25 rfl rfl ?_
    refine s_dup dX2_keep_26 ?_
    refine s_getI (x := (μ 28 2)) dX2_keep_27 flX2_36 kn28 kk28 rfl rfl ?_
    refine s_iconst dX2_keep_30 (by decide) ?_
    obtain ⟨c, h⟩ := h
    refine s_iadd dX2_keep_31 (am_w_id c) ?_
    obtain ⟨m1, hm1⟩ : ∃ x : am_M, x = am_st μ 28 (am_up (μ 28) 2 (μ 28 2 + 1)) := ⟨_, rfl⟩
    have h := h m1 hm1
    refine s_putI dX2_keep_32 flX2_36 kn28 kk28 rfl rfl (Or.inl rfl) hm1.symm ?_
    refine s_aload_n dX2_keep_35 rfl rfl ?_
    refine s_aload_n dX2_keep_36 rfl rfl ?_
    refine s_aload_n dX2_keep_37 rfl rfl ?_
    refine s_getI (x := (μ 28 2 + 1)) dX2_keep_38 flX2_36 kn28 kk28 rfl (by subst hm1; rfl) ?_
    obtain ⟨p0, p1, h⟩ := h
    refine s_callV (As := [vI (μ 28 2 + 1)]) (rest := [vR 1]) (k := 28) dX2_keep_41 lkX2_39 kn28 ⟨by rw [kk28]; rfl, by rw [kk28]; decide⟩ lmX2_behind rfl rfl (Nat.le_of_ble_eq_true rfl) (by decide) (Nat.le_refl 0) (Nat.le_refl 0) (hC := sp_X2_behind (Q := fun z m => (rg_ (m1 28 1) (μ 28 2 + 1)) = z ∧ m1 = m) p0 p1 ⟨rfl, rfl⟩) (fun r n2 S2 m2 hP => ?_)
    obtain ⟨⟨rfl, rfl⟩, z, rfl, rfl, rfl⟩ := hP
    obtain ⟨P, hcl, h⟩ := h
    refine s_callS (As := [vR 1, vR (rg_ (m1 28 1) (μ 28 2 + 1))]) (rest := []) dX2_keep_44 lkX2_43 lmX4_copy rfl rfl (Nat.le_of_ble_eq_true rfl) (by decide) (Nat.le_refl 0) (Nat.le_refl 0) (hC := hcl) (fun r n2 S2 m3 hP => ?_)
    obtain ⟨⟨rfl, rfl⟩, rfl, hq⟩ := hP
    have h := h m3 hq
    exact s_return dX2_keep_47 rfl ⟨⟨rfl, rfl⟩, rfl, h⟩
  · have h := h.2 cc
    refine s_aload_n dX2_keep_9 rfl rfl ?_
    refine s_aload_n dX2_keep_10 rfl rfl ?_
    refine s_getI (x := (μ 28 1)) dX2_keep_11 flX2_18 kn28 kk28 rfl rfl ?_
    refine s_iconst dX2_keep_14 (by decide) ?_
    obtain ⟨c, h⟩ := h
    refine s_iadd dX2_keep_15 (am_w_id c) ?_
    refine s_bipush dX2_keep_16 (by decide) ?_
    obtain ⟨c, h⟩ := h
    refine s_iremp dX2_keep_18 c (by decide) rfl ?_
    obtain ⟨m4, hm4⟩ : ∃ x : am_M, x = am_st μ 28 (am_up (μ 28) 1 ((μ 28 1 + 1) % 11)) := ⟨_, rfl⟩
    have h := h m4 hm4
    refine s_putI dX2_keep_19 flX2_18 kn28 kk28 rfl rfl (Or.inl rfl) hm4.symm ?_
    refine s_goto dX2_keep_22 (tgt := 35) (by decide) ?_
    refine s_aload_n dX2_keep_35 rfl rfl ?_
    refine s_aload_n dX2_keep_36 rfl rfl ?_
    refine s_aload_n dX2_keep_37 rfl rfl ?_
    refine s_getI (x := (μ 28 2)) dX2_keep_38 flX2_36 kn28 kk28 rfl (by subst hm4; rfl) ?_
    obtain ⟨p0, p1, h⟩ := h
    refine s_callV (As := [vI (μ 28 2)]) (rest := [vR 1]) (k := 28) dX2_keep_41 lkX2_39 kn28 ⟨by rw [kk28]; rfl, by rw [kk28]; decide⟩ lmX2_behind rfl rfl (Nat.le_of_ble_eq_true rfl) (by decide) (Nat.le_refl 0) (Nat.le_refl 0) (hC := sp_X2_behind (Q := fun z m => (rg_ (m4 28 1) (μ 28 2)) = z ∧ m4 = m) p0 p1 ⟨rfl, rfl⟩) (fun r n2 S2 m2 hP => ?_)
    obtain ⟨⟨rfl, rfl⟩, z, rfl, rfl, rfl⟩ := hP
    obtain ⟨P, hcl, h⟩ := h
    refine s_callS (As := [vR 1, vR (rg_ (m4 28 1) (μ 28 2))]) (rest := []) dX2_keep_44 lkX2_43 lmX4_copy rfl rfl (Nat.le_of_ble_eq_true rfl) (by decide) (Nat.le_refl 0) (Nat.le_refl 0) (hC := hcl) (fun r n2 S2 m6 hP => ?_)
    obtain ⟨⟨rfl, rfl⟩, rfl, hq⟩ := hP
    have h := h m6 hq
    exact s_return dX2_keep_47 rfl ⟨⟨rfl, rfl⟩, rfl, h⟩
theorem ve_X2_keep {μ : am_M} {Q : am_M → Prop} (h : at_V kC 3 mX2_keep 0 [vR 28, vR 1] [] μ Q) : cl_V kC 3 mX2_keep [vR 28, vR 1] μ Q := am_intro pmX2_keep (Nat.le_of_ble_eq_true rfl) rfl h
theorem sp_X2_keep {μ : am_M} (h0 : in_ 0 11 (μ 28 1)) (h1 : in_ 0 11 (μ 28 2)) : cl_V kC 3 mX2_keep [vR 28, vR 1] μ (fun m => ∃ o u, ((μ 28 2 = 10 ∧ o = (μ 28 1 + 1) % 11 ∧ u = 10) ∨ (μ 28 2 ≠ 10 ∧ o = μ 28 1 ∧ u = μ 28 2 + 1)) ∧ hs_ (pjC (rg_ o u)) μ m o u (μ 28 3) ∧ pq_ μ 1 m (rg_ o u)) := by
  refine ve_X2_keep (vc_X2_keep_0 ⟨fun c => ⟨(by (try unfold am_in); (try unfold in_ at *); omega), fun m1 e1 => ?_⟩, fun c => ⟨(by (try unfold am_in); (try unfold in_ at *); omega), (by (try unfold am_in); (try unfold in_ at *); omega), fun m1 e1 => ?_⟩⟩)
  · have z1 : m1 28 1 = μ 28 1 := by rw [e1, st_s, up_n (by decide)]
    refine ⟨by rw [z1]; exact h0, (by (try unfold am_in); (try unfold in_ at *); omega), _, sp_X4_copy (by decide) (rg_in _ _) (by unfold rg_; omega), fun m3 k3 => ?_⟩
    rw [z1] at k3
    refine ⟨μ 28 1, μ 28 2 + 1, Or.inr ⟨c, rfl, rfl⟩, ?_, ?_⟩
    · have q : ∀ j, m3 28 j = m1 28 j := fun j => by
        rw [k3.1 28 (by unfold pjC rg_; simp; omega)]
      refine ⟨fr_tr (b := m1) (by rw [e1]; exact fr_st (by simp)) (fr_up k3.1 (fun k hk => List.mem_cons_of_mem _ hk)), ?_, ?_, ?_, ?_, ?_⟩
      · rw [q, z1]
      · rw [q, e1, st_s, up_s]
      · rw [q, e1, st_s, up_n (by decide)]
      · rw [q, e1, st_s, up_n (by decide)]
      · rw [q, e1, st_s, up_n (by decide)]
    · refine pq_tr (pq_fr (ks := [28]) (by rw [e1]; exact fr_st (by simp)) (by simp)) k3.2
  · have z1 : m1 28 1 = (μ 28 1 + 1) % 11 := by rw [e1, st_s, up_s]
    refine ⟨by rw [z1]; ((try unfold am_in); (try unfold in_ at *); omega), (by (try unfold am_in); (try unfold in_ at *); omega), _, sp_X4_copy (by decide) (rg_in _ _) (by unfold rg_; omega), fun m3 k3 => ?_⟩
    rw [z1, c] at k3
    refine ⟨(μ 28 1 + 1) % 11, 10, Or.inl ⟨c, rfl, rfl⟩, ?_, ?_⟩
    · have q : ∀ j, m3 28 j = m1 28 j := fun j => by
        rw [k3.1 28 (by unfold pjC rg_; simp; omega)]
      refine ⟨fr_tr (b := m1) (by rw [e1]; exact fr_st (by simp)) (fr_up k3.1 (fun k hk => List.mem_cons_of_mem _ hk)), ?_, ?_, ?_, ?_, ?_⟩
      · rw [q, z1]
      · rw [q, e1, st_s, up_n (by decide), c]
      · rw [q, e1, st_s, up_n (by decide)]
      · rw [q, e1, st_s, up_n (by decide)]
      · rw [q, e1, st_s, up_n (by decide)]
    · refine pq_tr (pq_fr (ks := [28]) (by rw [e1]; exact fr_st (by simp)) (by simp)) k3.2
theorem vc_X2_goBack_0 {μ : am_M} {Q : am_M → Prop} (h : (am_in (μ 28 2 - 1)) ∧ (∀ m1 : am_M, m1 = am_st μ 28 (am_up (μ 28) 2 (μ 28 2 - 1)) → (am_in (μ 28 3 + 1)) ∧ (∀ m2 : am_M, m2 = am_st m1 28 (am_up (m1 28) 3 (μ 28 3 + 1)) → (in_ 0 11 (m2 28 1)) ∧ (in_ 0 11 (μ 28 2 - 1)) ∧ (∃ P : am_M → Prop, cl_V kC 1 mX4_copy [vR (rg_ (m2 28 1) (μ 28 2 - 1)), vR 1] m2 P ∧ (∀ m4 : am_M, P m4 → Q m4))))) : at_V kC 3 mX2_goBack 0 [vR 28, vR 1] [] μ Q := by
  refine s_aload_n dX2_goBack_0 rfl rfl ?_
  refine s_dup dX2_goBack_1 ?_
  refine s_getI (x := (μ 28 2)) dX2_goBack_2 flX2_36 kn28 kk28 rfl rfl ?_
  refine s_iconst dX2_goBack_5 (by decide) ?_
  obtain ⟨c, h⟩ := h
  refine s_isub dX2_goBack_6 (am_w_id c) ?_
  obtain ⟨m1, hm1⟩ : ∃ x : am_M, x = am_st μ 28 (am_up (μ 28) 2 (μ 28 2 - 1)) := ⟨_, rfl⟩
  have h := h m1 hm1
  refine s_putI dX2_goBack_7 flX2_36 kn28 kk28 rfl rfl (Or.inl rfl) hm1.symm ?_
  refine s_aload_n dX2_goBack_10 rfl rfl ?_
  refine s_dup dX2_goBack_11 ?_
  refine s_getI (x := (μ 28 3)) dX2_goBack_12 flX2_22 kn28 kk28 rfl (by subst hm1; rfl) ?_
  refine s_iconst dX2_goBack_15 (by decide) ?_
  obtain ⟨c, h⟩ := h
  refine s_iadd dX2_goBack_16 (am_w_id c) ?_
  obtain ⟨m2, hm2⟩ : ∃ x : am_M, x = am_st m1 28 (am_up (m1 28) 3 (μ 28 3 + 1)) := ⟨_, rfl⟩
  have h := h m2 hm2
  refine s_putI dX2_goBack_17 flX2_22 kn28 kk28 rfl rfl (Or.inl rfl) hm2.symm ?_
  refine s_aload_n dX2_goBack_20 rfl rfl ?_
  refine s_aload_n dX2_goBack_21 rfl rfl ?_
  refine s_getI (x := (μ 28 2 - 1)) dX2_goBack_22 flX2_36 kn28 kk28 rfl (by subst hm2; subst hm1; rfl) ?_
  obtain ⟨p0, p1, h⟩ := h
  refine s_callV (As := [vI (μ 28 2 - 1)]) (rest := []) (k := 28) dX2_goBack_25 lkX2_39 kn28 ⟨by rw [kk28]; rfl, by rw [kk28]; decide⟩ lmX2_behind rfl rfl (Nat.le_of_ble_eq_true rfl) (by decide) (Nat.le_refl 0) (Nat.le_refl 0) (hC := sp_X2_behind (Q := fun z m => (rg_ (m2 28 1) (μ 28 2 - 1)) = z ∧ m2 = m) p0 p1 ⟨rfl, rfl⟩) (fun r n2 S2 m2 hP => ?_)
  obtain ⟨⟨rfl, rfl⟩, z, rfl, rfl, rfl⟩ := hP
  refine s_aload_n dX2_goBack_28 rfl rfl ?_
  obtain ⟨P, hcl, h⟩ := h
  refine s_callS (As := [vR (rg_ (m2 28 1) (μ 28 2 - 1)), vR 1]) (rest := []) dX2_goBack_29 lkX2_43 lmX4_copy rfl rfl (Nat.le_of_ble_eq_true rfl) (by decide) (Nat.le_refl 0) (Nat.le_refl 0) (hC := hcl) (fun r n2 S2 m4 hP => ?_)
  obtain ⟨⟨rfl, rfl⟩, rfl, hq⟩ := hP
  have h := h m4 hq
  exact s_return dX2_goBack_32 rfl ⟨⟨rfl, rfl⟩, rfl, h⟩
theorem ve_X2_goBack {μ : am_M} {Q : am_M → Prop} (h : at_V kC 3 mX2_goBack 0 [vR 28, vR 1] [] μ Q) : cl_V kC 3 mX2_goBack [vR 28, vR 1] μ Q := am_intro pmX2_goBack (Nat.le_of_ble_eq_true rfl) rfl h
theorem sp_X2_goBack {μ : am_M} (h0 : in_ 0 11 (μ 28 1)) (h1 : in_ 1 11 (μ 28 2)) (h2 : in_ 0 11 (μ 28 3)) : cl_V kC 3 mX2_goBack [vR 28, vR 1] μ (fun m => hs_ (pjC 1) μ m (μ 28 1) (μ 28 2 - 1) (μ 28 3 + 1) ∧ pq_ μ (rg_ (μ 28 1) (μ 28 2 - 1)) m 1) := by
  refine ve_X2_goBack (vc_X2_goBack_0 ⟨(by (try unfold am_in); (try unfold in_ at *); omega), fun m1 e1 => ⟨(by (try unfold am_in); (try unfold in_ at *); omega), fun m2 e2 => ?_⟩⟩)
  have z1 : m2 28 1 = μ 28 1 := by rw [e2, st_s, up_n (by decide), e1, st_s, up_n (by decide)]
  have f2 : fr_ [28] μ m2 := by rw [e2, e1]; exact fr_tr (fr_st (by simp)) (fr_st (by simp))
  refine ⟨by rw [z1]; exact h0, (by (try unfold am_in); (try unfold in_ at *); omega), _, sp_X4_copy (rg_in _ _) (by decide) (by unfold rg_; omega), fun m3 k3 => ?_⟩
  rw [z1] at k3
  have q : ∀ j, m3 28 j = m2 28 j := fun j => by rw [k3.1 28 (by decide)]
  refine ⟨⟨fr_tr (fr_up f2 (by simp)) (fr_up k3.1 (fun k hk => List.mem_cons_of_mem _ hk)), ?_, ?_, ?_, ?_, ?_⟩, ?_⟩
  · rw [q, z1]
  · rw [q, e2, st_s, up_n (by decide), e1, st_s, up_s]
  · rw [q, e2, st_s, up_s]
  · rw [q, e2, st_s, up_n (by decide), e1, st_s, up_n (by decide)]
  · rw [q, e2, st_s, up_n (by decide), e1, st_s, up_n (by decide)]
  · exact pq_tr (pq_fr f2 (by unfold rg_; simp; omega)) k3.2
theorem vc_X2_goOn_0 {μ : am_M} {Q : am_M → Prop} (h : (am_in (μ 28 2 + 1)) ∧ (∀ m1 : am_M, m1 = am_st μ 28 (am_up (μ 28) 2 (μ 28 2 + 1)) → (am_in (μ 28 3 - 1)) ∧ (∀ m2 : am_M, m2 = am_st m1 28 (am_up (m1 28) 3 (μ 28 3 - 1)) → (in_ 0 11 (m2 28 1)) ∧ (in_ 0 11 (μ 28 2 + 1)) ∧ (∃ P : am_M → Prop, cl_V kC 1 mX4_copy [vR (rg_ (m2 28 1) (μ 28 2 + 1)), vR 1] m2 P ∧ (∀ m4 : am_M, P m4 → Q m4))))) : at_V kC 3 mX2_goOn 0 [vR 28, vR 1] [] μ Q := by
  refine s_aload_n dX2_goOn_0 rfl rfl ?_
  refine s_dup dX2_goOn_1 ?_
  refine s_getI (x := (μ 28 2)) dX2_goOn_2 flX2_36 kn28 kk28 rfl rfl ?_
  refine s_iconst dX2_goOn_5 (by decide) ?_
  obtain ⟨c, h⟩ := h
  refine s_iadd dX2_goOn_6 (am_w_id c) ?_
  obtain ⟨m1, hm1⟩ : ∃ x : am_M, x = am_st μ 28 (am_up (μ 28) 2 (μ 28 2 + 1)) := ⟨_, rfl⟩
  have h := h m1 hm1
  refine s_putI dX2_goOn_7 flX2_36 kn28 kk28 rfl rfl (Or.inl rfl) hm1.symm ?_
  refine s_aload_n dX2_goOn_10 rfl rfl ?_
  refine s_dup dX2_goOn_11 ?_
  refine s_getI (x := (μ 28 3)) dX2_goOn_12 flX2_22 kn28 kk28 rfl (by subst hm1; rfl) ?_
  refine s_iconst dX2_goOn_15 (by decide) ?_
  obtain ⟨c, h⟩ := h
  refine s_isub dX2_goOn_16 (am_w_id c) ?_
  obtain ⟨m2, hm2⟩ : ∃ x : am_M, x = am_st m1 28 (am_up (m1 28) 3 (μ 28 3 - 1)) := ⟨_, rfl⟩
  have h := h m2 hm2
  refine s_putI dX2_goOn_17 flX2_22 kn28 kk28 rfl rfl (Or.inl rfl) hm2.symm ?_
  refine s_aload_n dX2_goOn_20 rfl rfl ?_
  refine s_aload_n dX2_goOn_21 rfl rfl ?_
  refine s_getI (x := (μ 28 2 + 1)) dX2_goOn_22 flX2_36 kn28 kk28 rfl (by subst hm2; subst hm1; rfl) ?_
  obtain ⟨p0, p1, h⟩ := h
  refine s_callV (As := [vI (μ 28 2 + 1)]) (rest := []) (k := 28) dX2_goOn_25 lkX2_39 kn28 ⟨by rw [kk28]; rfl, by rw [kk28]; decide⟩ lmX2_behind rfl rfl (Nat.le_of_ble_eq_true rfl) (by decide) (Nat.le_refl 0) (Nat.le_refl 0) (hC := sp_X2_behind (Q := fun z m => (rg_ (m2 28 1) (μ 28 2 + 1)) = z ∧ m2 = m) p0 p1 ⟨rfl, rfl⟩) (fun r n2 S2 m2 hP => ?_)
  obtain ⟨⟨rfl, rfl⟩, z, rfl, rfl, rfl⟩ := hP
  refine s_aload_n dX2_goOn_28 rfl rfl ?_
  obtain ⟨P, hcl, h⟩ := h
  refine s_callS (As := [vR (rg_ (m2 28 1) (μ 28 2 + 1)), vR 1]) (rest := []) dX2_goOn_29 lkX2_43 lmX4_copy rfl rfl (Nat.le_of_ble_eq_true rfl) (by decide) (Nat.le_refl 0) (Nat.le_refl 0) (hC := hcl) (fun r n2 S2 m4 hP => ?_)
  obtain ⟨⟨rfl, rfl⟩, rfl, hq⟩ := hP
  have h := h m4 hq
  exact s_return dX2_goOn_32 rfl ⟨⟨rfl, rfl⟩, rfl, h⟩
theorem ve_X2_goOn {μ : am_M} {Q : am_M → Prop} (h : at_V kC 3 mX2_goOn 0 [vR 28, vR 1] [] μ Q) : cl_V kC 3 mX2_goOn [vR 28, vR 1] μ Q := am_intro pmX2_goOn (Nat.le_of_ble_eq_true rfl) rfl h
theorem sp_X2_goOn {μ : am_M} (h0 : in_ 0 11 (μ 28 1)) (h1 : in_ 0 10 (μ 28 2)) (h2 : in_ 0 11 (μ 28 3)) : cl_V kC 3 mX2_goOn [vR 28, vR 1] μ (fun m => hs_ (pjC 1) μ m (μ 28 1) (μ 28 2 + 1) (μ 28 3 - 1) ∧ pq_ μ (rg_ (μ 28 1) (μ 28 2 + 1)) m 1) := by
  refine ve_X2_goOn (vc_X2_goOn_0 ⟨(by (try unfold am_in); (try unfold in_ at *); omega), fun m1 e1 => ⟨(by (try unfold am_in); (try unfold in_ at *); omega), fun m2 e2 => ?_⟩⟩)
  have z1 : m2 28 1 = μ 28 1 := by rw [e2, st_s, up_n (by decide), e1, st_s, up_n (by decide)]
  have f2 : fr_ [28] μ m2 := by rw [e2, e1]; exact fr_tr (fr_st (by simp)) (fr_st (by simp))
  refine ⟨by rw [z1]; exact h0, (by (try unfold am_in); (try unfold in_ at *); omega), _, sp_X4_copy (rg_in _ _) (by decide) (by unfold rg_; omega), fun m3 k3 => ?_⟩
  rw [z1] at k3
  have q : ∀ j, m3 28 j = m2 28 j := fun j => by rw [k3.1 28 (by decide)]
  refine ⟨⟨fr_tr (fr_up f2 (by simp)) (fr_up k3.1 (fun k hk => List.mem_cons_of_mem _ hk)), ?_, ?_, ?_, ?_, ?_⟩, ?_⟩
  · rw [q, z1]
  · rw [q, e2, st_s, up_n (by decide), e1, st_s, up_s]
  · rw [q, e2, st_s, up_s]
  · rw [q, e2, st_s, up_n (by decide), e1, st_s, up_n (by decide)]
  · rw [q, e2, st_s, up_n (by decide), e1, st_s, up_n (by decide)]
  · exact pq_tr (pq_fr f2 (by unfold rg_; simp; omega)) k3.2
theorem vc_X2_startFrom_0 {μ : am_M} {Q : am_M → Prop} (h : ∀ m1 : am_M, m1 = am_st μ 28 (am_up (μ 28) 2 0) → ∀ m2 : am_M, m2 = am_st m1 28 (am_up (m1 28) 3 0) → (in_ 0 11 (m2 28 1)) ∧ (in_ 0 11 0) ∧ (∃ P : am_M → Prop, cl_V kC 1 mX4_copy [vR 1, vR (rg_ (m2 28 1) 0)] m2 P ∧ (∀ m4 : am_M, P m4 → Q m4))) : at_V kC 3 mX2_startFrom 0 [vR 28, vR 1] [] μ Q := by
  refine s_aload_n dX2_startFrom_0 rfl rfl ?_
  refine s_iconst dX2_startFrom_1 (by decide) ?_
  obtain ⟨m1, hm1⟩ : ∃ x : am_M, x = am_st μ 28 (am_up (μ 28) 2 0) := ⟨_, rfl⟩
  have h := h m1 hm1
  refine s_putI dX2_startFrom_2 flX2_36 kn28 kk28 rfl rfl (Or.inl rfl) hm1.symm ?_
  refine s_aload_n dX2_startFrom_5 rfl rfl ?_
  refine s_iconst dX2_startFrom_6 (by decide) ?_
  obtain ⟨m2, hm2⟩ : ∃ x : am_M, x = am_st m1 28 (am_up (m1 28) 3 0) := ⟨_, rfl⟩
  have h := h m2 hm2
  refine s_putI dX2_startFrom_7 flX2_22 kn28 kk28 rfl rfl (Or.inl rfl) hm2.symm ?_
  refine s_aload_n dX2_startFrom_10 rfl rfl ?_
  refine s_aload_n dX2_startFrom_11 rfl rfl ?_
  refine s_iconst dX2_startFrom_12 (by decide) ?_
  obtain ⟨p0, p1, h⟩ := h
  refine s_callV (As := [vI 0]) (rest := [vR 1]) (k := 28) dX2_startFrom_13 lkX2_39 kn28 ⟨by rw [kk28]; rfl, by rw [kk28]; decide⟩ lmX2_behind rfl rfl (Nat.le_of_ble_eq_true rfl) (by decide) (Nat.le_refl 0) (Nat.le_refl 0) (hC := sp_X2_behind (Q := fun z m => (rg_ (m2 28 1) 0) = z ∧ m2 = m) p0 p1 ⟨rfl, rfl⟩) (fun r n2 S2 m2 hP => ?_)
  obtain ⟨⟨rfl, rfl⟩, z, rfl, rfl, rfl⟩ := hP
  obtain ⟨P, hcl, h⟩ := h
  refine s_callS (As := [vR 1, vR (rg_ (m2 28 1) 0)]) (rest := []) dX2_startFrom_16 lkX2_43 lmX4_copy rfl rfl (Nat.le_of_ble_eq_true rfl) (by decide) (Nat.le_refl 0) (Nat.le_refl 0) (hC := hcl) (fun r n2 S2 m4 hP => ?_)
  obtain ⟨⟨rfl, rfl⟩, rfl, hq⟩ := hP
  have h := h m4 hq
  exact s_return dX2_startFrom_19 rfl ⟨⟨rfl, rfl⟩, rfl, h⟩
theorem ve_X2_startFrom {μ : am_M} {Q : am_M → Prop} (h : at_V kC 3 mX2_startFrom 0 [vR 28, vR 1] [] μ Q) : cl_V kC 3 mX2_startFrom [vR 28, vR 1] μ Q := am_intro pmX2_startFrom (Nat.le_of_ble_eq_true rfl) rfl h
theorem sp_X2_startFrom {μ : am_M} (h0 : in_ 0 11 (μ 28 1)) : cl_V kC 3 mX2_startFrom [vR 28, vR 1] μ (fun m => hs_ (pjC (rg_ (μ 28 1) 0)) μ m (μ 28 1) 0 0 ∧ pq_ μ 1 m (rg_ (μ 28 1) 0)) := by
  refine ve_X2_startFrom (vc_X2_startFrom_0 (fun m1 e1 m2 e2 => ?_))
  have z1 : m2 28 1 = μ 28 1 := by rw [e2, st_s, up_n (by decide), e1, st_s, up_n (by decide)]
  have f2 : fr_ [28] μ m2 := by rw [e2, e1]; exact fr_tr (fr_st (by simp)) (fr_st (by simp))
  refine ⟨by rw [z1]; exact h0, (by (try unfold am_in); (try unfold in_ at *); omega), _, sp_X4_copy (by decide) (rg_in _ _) (by unfold rg_; omega), fun m3 k3 => ?_⟩
  rw [z1] at k3
  have q : ∀ j, m3 28 j = m2 28 j := fun j => by rw [k3.1 28 (by unfold pjC rg_; simp; omega)]
  refine ⟨⟨fr_tr (fr_up f2 (by simp)) (fr_up k3.1 (fun k hk => List.mem_cons_of_mem _ hk)), ?_, ?_, ?_, ?_, ?_⟩, ?_⟩
  · rw [q, z1]
  · rw [q, e2, st_s, up_n (by decide), e1, st_s, up_s]
  · rw [q, e2, st_s, up_s]
  · rw [q, e2, st_s, up_n (by decide), e1, st_s, up_n (by decide)]
  · rw [q, e2, st_s, up_n (by decide), e1, st_s, up_n (by decide)]
  · exact pq_tr (pq_fr f2 (by simp)) k3.2
theorem vc_X2_note_0 {μ : am_M} {Q : am_M → Prop} (h : ∀ m1 : am_M, m1 = am_st μ 28 (am_up (μ 28) 3 0) → (μ 28 5 = 0 → ∃ P : am_M → Prop, cl_V kC 3 mX2_keep [vR 28, vR 1] m1 P ∧ (∀ m3 : am_M, P m3 → Q m3)) ∧ (μ 28 5 ≠ 0 → (am_in (μ 28 4 + 1)) ∧ (∀ m4 : am_M, m4 = am_st m1 28 (am_up (m1 28) 4 (μ 28 4 + 1)) → Q m4))) : at_V kC 4 mX2_note 0 [vR 28, vR 1] [] μ Q := by
  refine s_aload_n dX2_note_0 rfl rfl ?_
  refine s_iconst dX2_note_1 (by decide) ?_
  obtain ⟨m1, hm1⟩ : ∃ x : am_M, x = am_st μ 28 (am_up (μ 28) 3 0) := ⟨_, rfl⟩
  have h := h m1 hm1
  refine s_putI dX2_note_2 flX2_22 kn28 kk28 rfl rfl (Or.inl rfl) hm1.symm ?_
  refine s_aload_n dX2_note_5 rfl rfl ?_
  refine s_getI (x := (μ 28 5)) dX2_note_6 flX2_25 kn28 kk28 rfl (by subst hm1; rfl) ?_
  refine s_if_eq dX2_note_9 (tgt := 25) (by decide) (fun cc => ?_) (fun cc => ?_)
  · have h := h.1 cc
    refine s_aload_n dX2_note_25 rfl rfl ?_
    refine s_aload_n dX2_note_26 rfl rfl ?_
    obtain ⟨P, hcl, h⟩ := h
    refine s_callV (As := [vR 1]) (rest := []) (k := 28) dX2_note_27 lkX2_32 kn28 ⟨by rw [kk28]; rfl, by rw [kk28]; decide⟩ lmX2_keep rfl rfl (Nat.le_of_ble_eq_true rfl) (by decide) (Nat.le_refl 0) (Nat.le_refl 0) (hC := hcl) (fun r n2 S2 m3 hP => ?_)
    obtain ⟨⟨rfl, rfl⟩, rfl, hq⟩ := hP
    have h := h m3 hq
    exact s_return dX2_note_30 rfl ⟨⟨rfl, rfl⟩, rfl, h⟩
  · have h := h.2 cc
    refine s_aload_n dX2_note_12 rfl rfl ?_
    refine s_dup dX2_note_13 ?_
    refine s_getI (x := (μ 28 4)) dX2_note_14 flX2_29 kn28 kk28 rfl (by subst hm1; rfl) ?_
    refine s_iconst dX2_note_17 (by decide) ?_
    obtain ⟨c, h⟩ := h
    refine s_iadd dX2_note_18 (am_w_id c) ?_
    obtain ⟨m4, hm4⟩ : ∃ x : am_M, x = am_st m1 28 (am_up (m1 28) 4 (μ 28 4 + 1)) := ⟨_, rfl⟩
    have h := h m4 hm4
    refine s_putI dX2_note_19 flX2_29 kn28 kk28 rfl rfl (Or.inl rfl) hm4.symm ?_
    refine s_goto dX2_note_22 (tgt := 30) (by decide) ?_
    exact s_return dX2_note_30 rfl ⟨⟨rfl, rfl⟩, rfl, h⟩
theorem ve_X2_note {μ : am_M} {Q : am_M → Prop} (h : at_V kC 4 mX2_note 0 [vR 28, vR 1] [] μ Q) : cl_V kC 4 mX2_note [vR 28, vR 1] μ Q := am_intro pmX2_note (Nat.le_of_ble_eq_true rfl) rfl h
/-- a change is noted -/
theorem sp_X2_note {μ : am_M} (h0 : in_ 0 11 (μ 28 1)) (h1 : in_ 0 11 (μ 28 2)) (h2 : in_ 0 100000 (μ 28 4)) : cl_V kC 4 mX2_note [vR 28, vR 1] μ (fun m => (μ 28 5 ≠ 0 ∧ fr_ [28] μ m ∧ m 28 1 = μ 28 1 ∧ m 28 2 = μ 28 2 ∧ m 28 3 = 0 ∧ m 28 4 = μ 28 4 + 1 ∧ m 28 5 = μ 28 5) ∨ (μ 28 5 = 0 ∧ ∃ o u, ((μ 28 2 = 10 ∧ o = (μ 28 1 + 1) % 11 ∧ u = 10) ∨ (μ 28 2 ≠ 10 ∧ o = μ 28 1 ∧ u = μ 28 2 + 1)) ∧ hs_ (pjC (rg_ o u)) μ m o u 0 ∧ pq_ μ 1 m (rg_ o u))) := by
  refine ve_X2_note (vc_X2_note_0 (fun m1 e1 => ?_))
  have a1 : m1 28 1 = μ 28 1 := by rw [e1, st_s, up_n (by decide)]
  have a2 : m1 28 2 = μ 28 2 := by rw [e1, st_s, up_n (by decide)]
  have a3 : m1 28 3 = 0 := by rw [e1, st_s, up_s]
  have a4 : m1 28 4 = μ 28 4 := by rw [e1, st_s, up_n (by decide)]
  have a5 : m1 28 5 = μ 28 5 := by rw [e1, st_s, up_n (by decide)]
  have f1 : fr_ [28] μ m1 := by rw [e1]; exact fr_st (by simp)
  refine ⟨fun c => ⟨_, sp_X2_keep (by rw [a1]; exact h0) (by rw [a2]; exact h1), fun m3 k3 => Or.inr ⟨c, ?_⟩⟩, fun c => ⟨(by (try unfold am_in); (try unfold in_ at *); omega), fun m4 e4 => Or.inl ⟨c, ?_⟩⟩⟩
  · rw [a1, a2, a3] at k3
    obtain ⟨o, u, g1, ⟨g2, g3, g4, g5, g6, g7⟩, g8⟩ := k3
    exact ⟨o, u, g1, ⟨fr_tr (fr_up f1 (by simp)) g2, g3, g4, g5, by rw [g6, a4], by rw [g7, a5]⟩, pq_tr (pq_fr f1 (by simp)) g8⟩
  · refine ⟨by rw [e4]; exact fr_tr f1 (fr_st (by simp)), ?_, ?_, ?_, ?_, ?_⟩
    · rw [e4, st_s, up_n (by decide), a1]
    · rw [e4, st_s, up_n (by decide), a2]
    · rw [e4, st_s, up_n (by decide), a3]
    · rw [e4, st_s, up_s]
    · rw [e4, st_s, up_n (by decide), a5]

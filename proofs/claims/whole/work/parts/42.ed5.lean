/-! the editor's questions: events -/
theorem vc_X9_event_0 {x1 x2 : Int} {μ : am_M} {Q : Int → am_M → Prop} (h : (x1 < 0 → Q (-1) μ) ∧ (0 ≤ x1 → (in_ 0 33 (μ 5 1)) ∧ (in_ 0 13 (μ 7 2)) ∧ ((x1 < 2 * μ 5 1 + μ 7 2 → (x2 < 0 → Q (-2) μ) ∧ (0 ≤ x2 → (x2 ≤ 2 → at_I kC 4 mX9_event 34 [vR 0, vI x1, vI x2, vI (-1), vI 0, vU] [] μ Q) ∧ (2 < x2 → Q (-2) μ))) ∧ (2 * μ 5 1 + μ 7 2 ≤ x1 → Q (-1) μ)))) : at_I kC 4 mX9_event 0 [vR 0, vI x1, vI x2, vU, vU, vU] [] μ Q := by
  refine s_iload_n dX9_event_0 rfl rfl ?_
  refine s_if_lt dX9_event_1 (tgt := 15) (by decide) (fun cc => ?_) (fun cc => ?_)
  · have h := h.1 cc
    refine s_iconst dX9_event_15 (by decide) ?_
    exact s_ireturn dX9_event_16 (Or.inl rfl) ⟨⟨rfl, rfl⟩, _, rfl, h⟩
  · have h := h.2 cc
    refine s_iload_n dX9_event_4 rfl rfl ?_
    refine s_aload_n dX9_event_5 rfl rfl ?_
    refine s_getR dX9_event_6 flX9_12 kn0 kk0 rfl kr0_0 ?_
    obtain ⟨p0, p1, h⟩ := h
    refine s_callV (As := []) (rest := [vI x1]) (k := 1) dX9_event_9 lkX9_311 kn1 ⟨by rw [kk1]; rfl, by rw [kk1]; decide⟩ lmX4_events rfl rfl (Nat.le_of_ble_eq_true rfl) (by decide) (Nat.le_refl 0) (Nat.le_refl 0) (hC := sp_X4_events (Q := fun z m => 2 * μ 5 1 + μ 7 2 = z ∧ μ = m) p0 p1 ⟨rfl, rfl⟩) (fun r n2 S2 m2 hP => ?_)
    obtain ⟨⟨rfl, rfl⟩, z, rfl, rfl, rfl⟩ := hP
    refine s_icmp_lt dX9_event_12 (tgt := 17) (by decide) (fun cc => ?_) (fun cc => ?_)
    · have h := h.1 cc
      refine s_iload_n dX9_event_17 rfl rfl ?_
      refine s_if_lt dX9_event_18 (tgt := 26) (by decide) (fun cc => ?_) (fun cc => ?_)
      · have h := h.1 cc
        refine s_bipush dX9_event_26 (by decide) ?_
        exact s_ireturn dX9_event_28 (Or.inl rfl) ⟨⟨rfl, rfl⟩, _, rfl, h⟩
      · have h := h.2 cc
        refine s_iload_n dX9_event_21 rfl rfl ?_
        refine s_iconst dX9_event_22 (by decide) ?_
        refine s_icmp_le dX9_event_23 (tgt := 29) (by decide) (fun cc => ?_) (fun cc => ?_)
        · have h := h.1 cc
          refine s_iconst dX9_event_29 (by decide) ?_
          refine s_istore_n dX9_event_30 rfl (by decide) (L' := [vR 0, vI x1, vI x2, vI (-1), vU, vU]) rfl ?_
          refine s_iconst dX9_event_31 (by decide) ?_
          refine s_istore dX9_event_32 (by decide) (L' := [vR 0, vI x1, vI x2, vI (-1), vI 0, vU]) rfl ?_
          exact h
        · have h := h.2 cc
          refine s_bipush dX9_event_26 (by decide) ?_
          exact s_ireturn dX9_event_28 (Or.inl rfl) ⟨⟨rfl, rfl⟩, _, rfl, h⟩
    · have h := h.2 cc
      refine s_iconst dX9_event_15 (by decide) ?_
      exact s_ireturn dX9_event_16 (Or.inl rfl) ⟨⟨rfl, rfl⟩, _, rfl, h⟩
theorem vc_X9_event_34 {x1 x2 x3 x4 : Int} {μ : am_M} {Q : Int → am_M → Prop} (h : (x1 < x4 → (0 ≤ x3) ∧ ((0 ≤ x3) ∧ ((0 ≤ x3 / 4) ∧ ((x2 ≠ 0 → (x2 ≠ 1 → ((x3 / 4) % 3 ≠ 1 → (0 ≤ x3) ∧ (Q (x3 % 4) μ)) ∧ ((x3 / 4) % 3 = 1 → ∃ P : Int → am_M → Prop, cl_I kC 2 mX0_titleAt [vR 7, vI (x3 / 12)] μ P ∧ (∀ (z1 : Int) (m2 : am_M), P z1 m2 → Q z1 m2))) ∧ (x2 = 1 → Q ((x3 / 4) % 3) μ)) ∧ (x2 = 0 → Q (x3 / 12) μ))))) ∧ (x4 ≤ x1 → ∃ P : Int → am_M → Prop, cl_I kC 3 mX4_nextEvent [vR 1, vI x3] μ P ∧ (∀ (z3 : Int) (m4 : am_M), P z3 m4 → (am_in (x4 + 1)) ∧ (at_I kC 4 mX9_event 34 [vR 0, vI x1, vI x2, vI z3, vI (x4 + 1), vU] [] m4 Q)))) : at_I kC 4 mX9_event 34 [vR 0, vI x1, vI x2, vI x3, vI x4, vU] [] μ Q := by
  refine s_iload dX9_event_34 rfl ?_
  refine s_iload_n dX9_event_36 rfl rfl ?_
  refine s_icmp_gt dX9_event_37 (tgt := 55) (by decide) (fun cc => ?_) (fun cc => ?_)
  · have h := h.1 cc
    refine s_iload_n dX9_event_55 rfl rfl ?_
    refine s_bipush dX9_event_56 (by decide) ?_
    obtain ⟨c, h⟩ := h
    refine s_idivp dX9_event_58 c (by decide) rfl ?_
    refine s_istore dX9_event_59 (by decide) (L' := [vR 0, vI x1, vI x2, vI x3, vI (x3 / 12), vU]) rfl ?_
    refine s_iload_n dX9_event_61 rfl rfl ?_
    refine s_iconst dX9_event_62 (by decide) ?_
    obtain ⟨c, h⟩ := h
    refine s_idivp dX9_event_63 c (by decide) rfl ?_
    refine s_iconst dX9_event_64 (by decide) ?_
    obtain ⟨c, h⟩ := h
    refine s_iremp dX9_event_65 c (by decide) rfl ?_
    refine s_istore dX9_event_66 (by decide) (L' := [vR 0, vI x1, vI x2, vI x3, vI (x3 / 12), vI ((x3 / 4) % 3)]) rfl ?_
    refine s_iload_n dX9_event_68 rfl rfl ?_
    refine s_if_ne dX9_event_69 (tgt := 75) (by decide) (fun cc => ?_) (fun cc => ?_)
    · have h := h.1 cc
      refine s_iload_n dX9_event_75 rfl rfl ?_
      refine s_iconst dX9_event_76 (by decide) ?_
      refine s_icmp_ne dX9_event_77 (tgt := 83) (by decide) (fun cc => ?_) (fun cc => ?_)
      · have h := h.1 cc
        refine s_iload dX9_event_83 rfl ?_
        refine s_iconst dX9_event_85 (by decide) ?_
        refine s_icmp_ne dX9_event_86 (tgt := 104) (by decide) (fun cc => ?_) (fun cc => ?_)
        · have h := h.1 cc
          refine s_iload_n dX9_event_104 rfl rfl ?_
          refine s_iconst dX9_event_105 (by decide) ?_
          obtain ⟨c, h⟩ := h
          refine s_iremp dX9_event_106 c (by decide) rfl ?_
          exact s_ireturn dX9_event_107 (Or.inl rfl) ⟨⟨rfl, rfl⟩, _, rfl, h⟩
        · have h := h.2 cc
          refine s_aload_n dX9_event_89 rfl rfl ?_
          refine s_getR dX9_event_90 flX9_12 kn0 kk0 rfl kr0_0 ?_
          refine s_getR dX9_event_93 flX9_199 kn1 kk1 rfl kr1_4 ?_
          refine s_iload dX9_event_96 rfl ?_
          obtain ⟨P, hcl, h⟩ := h
          refine s_callV (As := [vI (x3 / 12)]) (rest := []) (k := 7) dX9_event_98 lkX9_317 kn7 ⟨by rw [kk7]; rfl, by rw [kk7]; decide⟩ lmX0_titleAt rfl rfl (Nat.le_of_ble_eq_true rfl) (by decide) (Nat.le_refl 0) (Nat.le_refl 0) (hC := hcl) (fun r n2 S2 m2 hP => ?_)
          obtain ⟨⟨rfl, rfl⟩, z1, rfl, hq⟩ := hP
          have h := h z1 m2 hq
          refine s_goto dX9_event_101 (tgt := 107) (by decide) ?_
          exact s_ireturn dX9_event_107 (Or.inl rfl) ⟨⟨rfl, rfl⟩, _, rfl, h⟩
      · have h := h.2 cc
        refine s_iload dX9_event_80 rfl ?_
        exact s_ireturn dX9_event_82 (Or.inl rfl) ⟨⟨rfl, rfl⟩, _, rfl, h⟩
    · have h := h.2 cc
      refine s_iload dX9_event_72 rfl ?_
      exact s_ireturn dX9_event_74 (Or.inl rfl) ⟨⟨rfl, rfl⟩, _, rfl, h⟩
  · have h := h.2 cc
    refine s_aload_n dX9_event_40 rfl rfl ?_
    refine s_getR dX9_event_41 flX9_12 kn0 kk0 rfl kr0_0 ?_
    refine s_iload_n dX9_event_44 rfl rfl ?_
    obtain ⟨P, hcl, h⟩ := h
    refine s_callV (As := [vI x3]) (rest := []) (k := 1) dX9_event_45 lkX9_314 kn1 ⟨by rw [kk1]; rfl, by rw [kk1]; decide⟩ lmX4_nextEvent rfl rfl (Nat.le_of_ble_eq_true rfl) (by decide) (Nat.le_refl 0) (Nat.le_refl 0) (hC := hcl) (fun r n2 S2 m4 hP => ?_)
    obtain ⟨⟨rfl, rfl⟩, z3, rfl, hq⟩ := hP
    have h := h z3 m4 hq
    refine s_istore_n dX9_event_48 rfl (by decide) (L' := [vR 0, vI x1, vI x2, vI z3, vI x4, vU]) rfl ?_
    obtain ⟨c, h⟩ := h
    refine s_iinc dX9_event_49 rfl (am_w_id c) (by decide) (L' := [vR 0, vI x1, vI x2, vI z3, vI (x4 + 1), vU]) rfl ?_
    refine s_goto dX9_event_52 (tgt := 34) (by decide) ?_
    exact h
theorem ve_X9_event {x1 x2 : Int} {μ : am_M} {Q : Int → am_M → Prop} (h : at_I kC 4 mX9_event 0 [vR 0, vI x1, vI x2, vU, vU, vU] [] μ Q) : cl_I kC 4 mX9_event [vR 0, vI x1, vI x2] μ Q := am_intro pmX9_event (Nat.le_of_ble_eq_true rfl) rfl h
noncomputable def nxP (P : Pj) (k : Int) : Int := nxt_ (pN P) (pG P) (pH P) k
/-- the key behind so many steps -/
noncomputable def ev_ (P : Pj) : Nat → Int
  | 0 => -1
  | k + 1 => nxP P (ev_ P k)
theorem nea_g {k n o : Int} (h : 0 ≤ n) (hk : -1 ≤ k) : 0 ≤ nea_ k n o := by
  unfold nea_
  (repeat' split) <;> omega
theorem nxP_0 {P : Pj} {k : Int} (hk : -1 ≤ k) : 0 ≤ nxP P k := by
  have h1 : ∀ (L : List Int) (a : Int), 0 ≤ a → 0 ≤ L.foldl (nea_ k) a := by
    intro L
    induction L with
    | nil => intro a h; exact h
    | cons x L ih => intro a h; exact ih _ (nea_g h hk)
  unfold nxP nxt_
  refine h1 _ _ ?_
  have : ∀ n : Nat, 0 ≤ fo (fun a i => nea_ k (nea_ k a ((en_ (pG P) i * 3) * 4 + pG P i 0)) ((pG P i 1 * 3 + 2) * 4 + pG P i 0)) 2147483647 n := by
    intro n
    induction n with
    | zero => show (0 : Int) ≤ 2147483647; omega
    | succ n ih => exact nea_g (nea_g ih hk) hk
  exact this _
theorem ev_g {P : Pj} : ∀ k : Nat, -1 ≤ ev_ P k
  | 0 => by show (-1 : Int) ≤ -1; omega
  | k + 1 => by
    have := nxP_0 (P := P) (ev_g (P := P) k)
    show -1 ≤ nxP P (ev_ P k)
    omega
noncomputable def q_event (P : Pj) (e w : Int) : Int := cif (e < 0 ∨ 2 * pN P + (pH P).length ≤ e) (-1) (cif (w < 0 ∨ 2 < w) (-2) (if w = 0 then ev_ P (e.toNat + 1) / 12 else if w = 1 then ev_ P (e.toNat + 1) / 4 % 3 else if ev_ P (e.toNat + 1) / 4 % 3 = 1 then h_tit (ev_ P (e.toNat + 1) / 12) (pH P) else ev_ P (e.toNat + 1) % 4))
theorem sp_X9_event {K : Int} {μ : am_M} {e w : Int} (hI : CI K μ) : cl_I kC 4 mX9_event [vR 0, vI e, vI w] μ (fun z m => z = q_event (pC μ 1) e w ∧ cq_ μ m) := by
  have hr := cq_rf hI
  have hn := hI.v.hn
  have hl := hl_hC hI.h7
  have hlen := hl.1
  have hmx := hI.v.hl
  have hho := fun p hp => (hI.v.hh p hp).1
  unfold in_ at hn
  refine ve_X9_event (vc_X9_event_0 ⟨fun c => ⟨(cif_t (Or.inl c)).symm, hr⟩, fun c0 => ⟨(by (try unfold am_in); (try unfold in_ at *); omega), (by (try unfold am_in); (try unfold in_ at *); omega), fun c1 => ?_, fun c1 => ⟨(cif_t (Or.inr (by show 2 * μ 5 1 + ((hC μ).length : Int) ≤ e; omega))).symm, hr⟩⟩⟩)
  have e1 : q_event (pC μ 1) e w = _ := cif_f (fun h => by
    rcases h with h | h
    · omega
    · have h' : 2 * μ 5 1 + ((hC μ).length : Int) ≤ e := h
      omega)
  refine ⟨fun q => ⟨(e1.trans (cif_t (by omega))).symm, hr⟩, fun q0 => ⟨fun q1 => ?_, fun q => ⟨(e1.trans (cif_t (by omega))).symm, hr⟩⟩⟩
  have e2 := e1.trans (cif_f (by omega))
  have : ∀ (j i : Nat), i + j = e.toNat + 1 → at_I kC 4 mX9_event 34 [vR 0, vI e, vI w, vI (ev_ (pC μ 1) i), vI i, vU] [] μ (fun z m => z = q_event (pC μ 1) e w ∧ cq_ μ m) := by
    intro j
    induction j with
    | zero =>
      intro i hi
      have hi2 : i = e.toNat + 1 := by omega
      subst hi2
      have g0 : 0 ≤ ev_ (pC μ 1) (e.toNat + 1) := nxP_0 (ev_g _)
      refine vc_X9_event_34 ⟨fun _ => ⟨g0, g0, by omega, ⟨fun w0 => ⟨fun w1 => ⟨fun k1 => ⟨g0, ?_, hr⟩, fun k1 => ⟨_, sp_X0_titleAt (Q := fun z m => z = h_tit (ev_ (pC μ 1) (e.toNat + 1) / 12) (hC μ) ∧ m = μ) (hC μ) hl hmx ⟨rfl, rfl⟩, ?_⟩⟩, fun w1 => ⟨?_, hr⟩⟩, fun w0 => ⟨?_, hr⟩⟩⟩, fun q => by omega⟩
      · rw [e2, if_neg w0, if_neg w1, if_neg k1]
      · rintro z m ⟨h1, rfl⟩
        refine ⟨?_, hr⟩
        rw [e2, if_neg w0, if_neg w1, if_pos k1, h1]
        rfl
      · rw [e2, if_neg w0, if_pos w1]
      · rw [e2, if_pos w0]
    | succ j ih =>
      intro i hi
      refine vc_X9_event_34 ⟨fun q => by omega, fun q => ⟨_, sp_X4_nextEvent (Q := fun z m => z = nxt_ (μ 5 1) (cg μ) (hC μ) (ev_ (pC μ 1) i) ∧ m = μ) (hC μ) hI.v.okT hl hmx hho ⟨rfl, rfl⟩, ?_⟩⟩
      rintro z m ⟨h1, rfl⟩
      refine ⟨(by (try unfold am_in); (try unfold in_ at *); omega), ?_⟩
      have := ih (i + 1) (by omega)
      rw [h1]
      exact this
  exact this (e.toNat + 1) 0 (by omega)

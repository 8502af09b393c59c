/-! a row filled -/
theorem s_alen {al : Bool} {d bc bs : Nat} {M : am_T} {n : Nat} {S : Nat → am_C} {μ : am_M} {pc : Nat} {L st : List am_V} {Q : am_P} {k N : Nat} {x : Int} (hd : decode M.2.1 pc = .ok (.arraylength, 1)) (hk : k < n) (hSk : (S k).1 = 11) (hN : (S k).2.1 = N) (hx : (N : Int) = x) (hb : N < 1000000) (kk : am_Ag al d bc bs M n S μ (pc + 1) L (vI x :: st) Q) : am_Ag al d bc bs M n S μ pc L (vR k :: st) Q := by
  intro G p l e R s m args below meth c H locs cells slots nb ls X hc hs hnb hS hR hz hL oL os om
  obtain ⟨hx', hb', hml, hown, hts, hret, hlk, hnm, hfr, hlo, hF⟩ := id X
  have he := am_wl_at (G := G) (S := S) (μ := μ) hk
  rw [am_e_arr hSk (Or.inl rfl), hN] at he
  refine va_alen hx' hb' hF.1 hR.1 k 0 he (am_tys_at G).1 (v := Int32.ofInt x) (by rw [← hx]; rfl) hd ?_
  exact kk G p l e R s m args below meth c H locs cells slots nb ls X hc hs hnb hS hR hz hL oL (am_oks_cons (by show am_in x; unfold am_in; omega) (am_oks_tl os)) om
theorem vc_J7_fill_53178_0 {x1 : Int} {a : Nat} (ha : a < kC.1 ∧ (kC.2 a).1 = 11 ∧ (kC.2 a).2.1 = 600) {μ : am_M} {Q : am_M → Prop} (h : at_V kC 1 mJ7_fill_53178 5 [vR a, vI x1, vI 0, vI 600] [] μ Q) : at_V kC 1 mJ7_fill_53178 0 [vR a, vI x1, vU, vU] [] μ Q := by
  refine s_iconst dJ7_fill_53178_0 (by decide) ?_
  refine s_istore_n dJ7_fill_53178_1 rfl (by decide) (L' := [vR a, vI x1, vI 0, vU]) rfl ?_
  refine s_aload_n dJ7_fill_53178_2 rfl rfl ?_
  refine s_alen (x := 600) dJ7_fill_53178_3 ha.1 ha.2.1 ha.2.2 (by decide) (by decide) ?_
  refine s_istore_n dJ7_fill_53178_4 rfl (by decide) (L' := [vR a, vI x1, vI 0, vI 600]) rfl ?_
  exact h
theorem vc_J7_fill_53178_5 {x1 x2 x3 : Int} {a : Nat} (ha : a < kC.1 ∧ (kC.2 a).1 = 11 ∧ (kC.2 a).2.1 = 600) {μ : am_M} {Q : am_M → Prop} (h : (x3 ≤ x2 → Q μ) ∧ (x2 < x3 → (0 ≤ x2) ∧ (x2 < 600) ∧ ((am_in (x2 + 1)) ∧ (at_V kC 1 mJ7_fill_53178 5 [vR a, vI x1, vI (x2 + 1), vI x3] [] (am_st μ a (am_up (μ a) (x2).toNat x1)) Q)))) : at_V kC 1 mJ7_fill_53178 5 [vR a, vI x1, vI x2, vI x3] [] μ Q := by
  refine s_iload_n dJ7_fill_53178_5 rfl rfl ?_
  refine s_iload_n dJ7_fill_53178_6 rfl rfl ?_
  refine s_icmp_ge dJ7_fill_53178_7 (tgt := 20) (by decide) (fun cc => ?_) (fun cc => ?_)
  · have h := h.1 cc
    exact s_return dJ7_fill_53178_20 rfl ⟨⟨rfl, rfl⟩, rfl, h⟩
  · have h := h.2 cc
    refine s_aload_n dJ7_fill_53178_10 rfl rfl ?_
    refine s_iload_n dJ7_fill_53178_11 rfl rfl ?_
    refine s_iload_n dJ7_fill_53178_12 rfl rfl ?_
    obtain ⟨c, c2, h⟩ := h
    refine s_iast dJ7_fill_53178_13 ha.1 ha.2.1 ha.2.2 c c2 rfl ?_
    obtain ⟨c, h⟩ := h
    refine s_iinc dJ7_fill_53178_14 rfl (am_w_id c) (by decide) (L' := [vR a, vI x1, vI (x2 + 1), vI x3]) rfl ?_
    refine s_goto dJ7_fill_53178_17 (tgt := 5) (by decide) ?_
    exact h
theorem ve_J7_fill_53178 {x1 : Int} {a : Nat} (ha : a < kC.1 ∧ (kC.2 a).1 = 11 ∧ (kC.2 a).2.1 = 600) {μ : am_M} {Q : am_M → Prop} (h : at_V kC 1 mJ7_fill_53178 0 [vR a, vI x1, vU, vU] [] μ Q) : cl_V kC 1 mJ7_fill_53178 [vR a, vI x1] μ Q := am_intro pmJ7_fill_53178 (Nat.le_of_ble_eq_true rfl) rfl h
theorem sp_J7_fill {a : Nat} (ha : a < kC.1 ∧ (kC.2 a).1 = 11 ∧ (kC.2 a).2.1 = 600) {μ : am_M} {v : Int} : cl_V kC 1 mJ7_fill_53178 [vR a, vI v] μ (fun m => fr_ [a] μ m ∧ ∀ i : Nat, i < 600 → m a i = v) := by
  refine ve_J7_fill_53178 ha (vc_J7_fill_53178_0 ha ?_)
  have : ∀ (j : Nat) (x : Int) (m : am_M), x + j = 600 → 0 ≤ x → fr_ [a] μ m → (∀ i : Nat, (i : Int) < x → m a i = v) → at_V kC 1 mJ7_fill_53178 5 [vR a, vI v, vI x, vI 600] [] m (fun m => fr_ [a] μ m ∧ ∀ i : Nat, i < 600 → m a i = v) := by
    intro j
    induction j with
    | zero =>
      intro x m hx h0 hf hv
      exact vc_J7_fill_53178_5 ha ⟨fun _ => ⟨hf, fun i hi => hv i (by omega)⟩, fun q => by omega⟩
    | succ j ih =>
      intro x m hx h0 hf hv
      refine vc_J7_fill_53178_5 ha ⟨fun q => by omega, fun q => ⟨h0, q, (by (try unfold am_in); (try unfold in_ at *); omega), ih (x + 1) _ (by omega) (by omega) (fr_tr hf (fr_st (by simp))) (fun i hi => ?_)⟩⟩
      rw [st_s]
      by_cases c : i = x.toNat
      · rw [c, up_s]
      · rw [up_n c]
        exact hv i (by omega)
  exact this 600 0 μ (by omega) (by omega) fr_rf (fun i hi => by omega)

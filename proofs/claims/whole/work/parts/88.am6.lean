/-- rows of ints, one for each place of a row of rows -/
def am_mS (S : Nat → am_C) (n N K : Nat) : Nat → am_C := fun k => if k = n then (14, N, fun i => if i < N then n + 1 + i + 1 else 0) else if n < k ∧ k ≤ n + N then (11, K, fun _ => 0) else S k
def am_mM (μ : am_M) (n N : Nat) : am_M := fun k => if n ≤ k ∧ k ≤ n + N then am_m0 else μ k
theorem am_outer (c : ClassId) (N h0 : Nat) (i : Nat) : Jvm.Free.Multi.outerC c N h0 i = arrV c N (fun j => va_rf (if j < i then some (h0 + 1 + j) else none)) := by
  induction i with
  | zero =>
    refine (arrV_new c N .null).trans (congrArg (arrV c N) (funext fun j => ?_))
    rw [if_neg (Nat.not_lt_zero j)]
    rfl
  | succ i ih =>
    show (Jvm.Free.Multi.outerC c N h0 i).setSlot i (.ref (h0 + 1 + i)) = _
    rw [ih, arrV_store]
    refine congrArg (arrV c N) (funext fun j => ?_)
    by_cases e : j = i
    · subst e
      simp [updV, va_rf]
    · by_cases h : j < i
      · simp [updV, e, h, Nat.lt_succ_of_lt h]
      · simp [updV, e, h, show ¬ j < i + 1 by omega]
theorem s_mna {d bc bs : Nat} {M : am_T} {n : Nat} {S : Nat → am_C} {μ : am_M} {pc : Nat} {L st : List am_V} {Q : am_P} {N K idx : Nat} (hd : decode M.2.1 pc = .ok (.multianewarray idx 2, 4)) (hw : Cond.classLink M.1.cls idx "[[I" ∈ am_gd) (hwi : Cond.arrayClass .int ∈ am_gd) (hN : N ≤ 5000) (hK : K ≤ 5000) (hbc : 1 + N ≤ bc) (hbs : N + N * K ≤ bs) (kk : am_Ag true d (bc - (1 + N)) (bs - (N + N * K)) M (n + 1 + N) (am_mS S n N K) (am_mM μ n N) (pc + 4) L (vR n :: st) Q) : am_Ag true d bc bs M n S μ pc L (vI (K : Int) :: vI (N : Int) :: st) Q := by
  intro G p l e R s m args below meth c H locs cells slots nb ls X hc hs hnb hS hR hz hL oL os om
  obtain ⟨hx, hb, hml, hown, hts, hret, hlk, hnm, hfr, hlo, hF⟩ := id X
  obtain ⟨hz1, hz2⟩ := hz rfl
  have o1 : am_in (K : Int) := am_oks_hd os
  have o2 : am_in (N : Int) := am_oks_hd (am_oks_tl os)
  have eN : (Int32.ofInt (N : Int)).toNatClampNeg = N := by rw [am_cl o2]; omega
  have eK : (Int32.ofInt (K : Int)).toNatClampNeg = K := by rw [am_cl o1]; omega
  intro T hT Y
  obtain ⟨vm₁, cA, comp, -, fA, fC, hO, -, X', step⟩ := Y.multianewarray2F hx hown (ty := .int) (index := idx) (hts _ (am_gd_ws hw)) (show (Cond.arrayOver (.array .int)).before args s = true from hF.2.2.2.2) (hts _ (am_gd_ws hwi)) (g := F0 m pc ls ((vI (K : Int) :: vI (N : Int) :: st).map (am_cv G))) (n := Int32.ofInt (N : Int)) (k := Int32.ofInt (K : Int)) (rest := st.map (am_cv G)) rfl (by rw [hb]; exact hd) rfl (fun q => by have := (am_ltI o2 am_in0).mp q; omega) (fun q => by have := (am_ltI o1 am_in0).mp q; omega) (by rw [eN]; omega) (by rw [eK]; show K * 4 ≤ _; omega) (by rw [eK]; omega) rfl rfl (by rw [eN]; omega) (by rw [eN, eK]; omega)
  rw [eN, eK] at X' step
  have ec : comp = G.2.2 11 := Option.some.inj (fC.symm.trans (hF.1.2 0 _ (am_tys_at G).1).2)
  have ea : cA = G.2.2 14 := Option.some.inj (fA.symm.trans (hF.1.2 3 _ (am_tys_at G).2.2.2).2)
  subst ec
  subst ea
  have hTh : (T.setVm vm₁).heap = H := hT
  generalize hFF : Jvm.Free.Multi.fill (T.setVm vm₁) (G.2.2 14) (G.2.2 11) N K (defaultValue .int) N = F at X' step
  obtain ⟨f1, f2, -, -⟩ := Jvm.Free.Multi.fill_facts (T.setVm vm₁) (G.2.2 14) (G.2.2 11) N K (defaultValue .int) N
  rw [hFF, hTh] at f1 f2
  have hold : ∀ x : Nat, x < H.size → F.heap[x]? = H[x]? := fun x hx => by
    have := Jvm.Free.Multi.fill_old (T.setVm vm₁) (G.2.2 14) (G.2.2 11) N K (defaultValue .int) (a := x) (by rw [hTh]; exact hx) N
    rw [hFF, hTh] at this
    exact this
  have hrow : ∀ j : Nat, j < N → F.heap[H.size + 1 + j]? = some (arrV (G.2.2 11) K (fun _ => .int 0)) := fun j hj => by
    have := Jvm.Free.Multi.fill_inner (T.setVm vm₁) (G.2.2 14) (G.2.2 11) N K (defaultValue .int) N j hj
    rw [hFF, hTh] at this
    rw [this]
    exact congrArg some (arrV_new _ _ _)
  have hout : Jvm.Free.Multi.outerC (G.2.2 14) N H.size N = arrV (G.2.2 14) N (fun i => va_rf (if i < N then some (H.size + 1 + i) else none)) := am_outer (G.2.2 14) N H.size N
  rw [hout] at f2
  have hR1 : am_Rep G (n + 1 + N) (am_mS S n N K) (am_mM μ n N) F.heap := by
    refine ⟨fun k q hq => ?_, by omega⟩
    have hk : k < n + 1 + N := by
      have := (List.getElem?_eq_some_iff.mp hq).1
      simpa [am_wl] using this
    rw [am_wl_at hk] at hq
    cases hq
    by_cases h1 : k = n
    · subst h1
      have e1 : am_mS S k N K k = (14, N, fun i => if i < N then k + 1 + i + 1 else 0) := if_pos rfl
      rw [e1, am_e_refs rfl (Or.inr rfl)]
      show F.heap[G.1.1 + k]? = some (vp_cell _ _)
      rw [vp_cell_q, ← hz1, f2, hz1]
      congr 2
      funext i
      by_cases hi : i < N
      · simp only [hi, if_true, am_rf]
        rw [if_neg (by omega)]
        exact congrArg Value.ref (show G.1.1 + k + 1 + i = G.1.1 + (k + 1 + i + 1 - 1) by omega)
      · simp [hi, am_rf]
    · by_cases h2 : n < k
      · have e1 : am_mS S n N K k = (11, K, fun _ => 0) := by
          unfold am_mS
          rw [if_neg h1, if_pos ⟨h2, by omega⟩]
        have e2 : am_mM μ n N k = am_m0 := if_pos ⟨by omega, by omega⟩
        rw [e1, e2, am_e_arr rfl (Or.inl rfl)]
        show F.heap[G.1.1 + k]? = some (vp_cell _ _)
        rw [vp_cell_i]
        have := hrow (k - n - 1) (by omega)
        rw [show H.size + 1 + (k - n - 1) = G.1.1 + k by omega] at this
        exact this
      · have e1 : am_mS S n N K k = S k := by
          unfold am_mS
          rw [if_neg h1, if_neg (by omega)]
        have e2 : am_mM μ n N k = μ k := if_neg (by omega)
        rw [e1, e2]
        have hkn : k < n := by omega
        exact (hR.1.kept (fun k9 x hx => hold x.1 ((hR.1 k9 x hx).lt))) k _ (am_wl_at hkn)
  obtain ⟨t2, a1, b1⟩ := kk G p l e R s m args below meth c F.heap locs (cells + 1 + N) (slots + N + N * K) nb ls X (by omega) (by omega) (by omega) (am_sizes hS (by omega) hold) hR1 (fun _ => ⟨by omega, hz2⟩) hL oL (am_oks_cons trivial (am_oks_tl (am_oks_tl os))) (fun k j => by
    unfold am_mM
    split
    · exact am_in0
    · exact om _ _) F rfl X'
  refine ⟨t2, step t2 ?_, b1⟩
  have e0 : T.heap.size = G.1.1 + n := by rw [← hz1, ← hT]
  rw [e0]
  exact a1

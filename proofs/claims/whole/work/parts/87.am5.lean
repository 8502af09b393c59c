/-! rows that make cells -/
theorem am_sizes {G : am_G} {H H1 : Heap} {s : State} {locs : List Loc} (hS : va_S (am_A G) s.heap H locs) (hz : H.size ≤ H1.size) (ho : ∀ q, q < H.size → H1[q]? = H[q]?) : va_S (am_A G) s.heap H1 locs := ⟨Nat.le_trans hS.1 hz, fun x h1 h2 => (ho x (Nat.lt_of_lt_of_le h1 hS.1)).trans (hS.2.1 x h1 h2), hS.2.2⟩
theorem am_Rep_push {G : am_G} {n : Nat} {S : Nat → am_C} {μ : am_M} {H H1 : Heap} {c : am_C} {f : Nat → Int} (hR : am_Rep G n S μ H) (hcap : n + 1 ≤ G.1.2.1) (ho : ∀ q, q < H.size → H1[q]? = H[q]?) (hat : va_at G.2.1 vwCl (G.1.1 + n, am_e G c f) H1) : am_Rep G (n + 1) (am_sS S n c) (am_st μ n f) H1 := by
  refine ⟨?_, hcap⟩
  rw [← am_wl_push (G := G) (n := n) (S := S) (μ := μ) (c := c) (f := f) rfl]
  refine (hR.1.kept (fun k x hx => ho x.1 ((hR.1 k x hx).lt))).app (fun k x hx => ?_)
  have hk : k < 1 := (List.getElem?_eq_some_iff.mp hx).1
  rw [show k = 0 by omega] at hx
  cases hx
  exact hat
theorem am_dv : ∀ ci, ci < 11 → ∀ j, j < am_nf ci → defaultValue (am_ft ci j) = if am_isI (am_ft ci j) = true then .int 0 else .null := by
  intro ci h
  match ci, h with
  | 0, _ => decide +kernel
  | 1, _ => decide +kernel
  | 2, _ => decide +kernel
  | 3, _ => decide +kernel
  | 4, _ => decide +kernel
  | 5, _ => decide +kernel
  | 6, _ => decide +kernel
  | 7, _ => decide +kernel
  | 8, _ => decide +kernel
  | 9, _ => decide +kernel
  | 10, _ => decide +kernel
/-- a new object's, a new row's shape -/
abbrev am_c0 (ci len : Nat) : am_C := (ci, len, fun _ => 0)
abbrev am_m0 : Nat → Int := fun _ => 0
/-- the words of 'new' -/
def am_nw (own : String) (idx ci : Nat) : Prop := Cond.classLink own idx (am_rn ci) ∈ am_gd ∧ Cond.instantiable (am_rn ci) (am_nf ci) ∈ am_gd ∧ Cond.initialized (am_rn ci) ∈ am_gd ∧ ci < 11
theorem s_new {d bc bs : Nat} {M : am_T} {n : Nat} {S : Nat → am_C} {μ : am_M} {pc : Nat} {L st : List am_V} {Q : am_P} {idx ci : Nat} (hd : decode M.2.1 pc = .ok (.new idx, 3)) (hw : am_nw M.1.cls idx ci) (hbc : 1 ≤ bc) (hbs : am_nf ci ≤ bs) (kk : am_Ag true d (bc - 1) (bs - am_nf ci) M (n + 1) (am_sS S n (am_c0 ci 0)) (am_st μ n am_m0) (pc + 3) L (vR n :: st) Q) : am_Ag true d bc bs M n S μ pc L st Q := by
  intro G p l e R s m args below meth c H locs cells slots nb ls X hc hs hnb hS hR hz hL oL os om
  obtain ⟨hx, hb, hml, hown, hts, hret, hlk, hnm, hfr, hlo, hF⟩ := id X
  obtain ⟨hz1, hz2⟩ := hz rfl
  obtain ⟨w1, w2, w3, w4⟩ := hw
  have hKn := hF.1.1 ci _ (am_cl_at ci w4)
  refine W.newcK hx hb hown (hts _ (am_gd_ws w1)) (hts _ (am_gd_ws w2)) (hts _ (am_gd_ws w3)) rfl hd (by omega) (by omega) hKn.2.1 hz1 fun H1 kC hkC e1 z1 o1 => ?_
  have o1' : ∀ q, q < H.size → H1[q]? = H[q]? := fun q hq => o1 q (by omega)
  have hR1 : am_Rep G (n + 1) (am_sS S n (am_c0 ci 0)) (am_st μ n am_m0) H1 := am_Rep_push hR (by omega) o1' (by
    rw [am_e_obj (s := am_c0 ci 0) rfl w4]
    refine ⟨_, am_cl_at ci w4, (u_born (am_ft ci) hts (fun w h => am_gd_ws (am_inws ci w4 w h)) hKn hkC e1 (am_ty_ok ci w4)).to (fun j hj => ?_)⟩
    show _ = ((List.range (am_nf ci)).map (am_fv G (am_c0 ci 0) am_m0)).getD j .null
    rw [am_dv ci w4 j hj, List.getD_eq_getElem?_getD, List.getElem?_map, List.getElem?_range hj]
    show _ = am_fv G (am_c0 ci 0) am_m0 j
    unfold am_fv
    rfl)
  exact kk G p l e R s m args below meth c H1 locs (cells + 1) (slots + am_nf ci) nb ls X (by omega) (by omega) (by omega) (am_sizes hS (by omega) o1') hR1 (fun _ => ⟨by omega, hz2⟩) hL oL (am_oks_cons trivial os) (am_okm_st om (fun _ => am_in0))
theorem s_newI {d bc bs : Nat} {M : am_T} {n : Nat} {S : Nat → am_C} {μ : am_M} {pc : Nat} {L st : List am_V} {Q : am_P} {N : Nat} (hd : decode M.2.1 pc = .ok (.newarray .int, 2)) (hw : Cond.arrayClass .int ∈ am_gd) (hN : N ≤ 5000) (hbc : 1 ≤ bc) (hbs : N ≤ bs) (kk : am_Ag true d (bc - 1) (bs - N) M (n + 1) (am_sS S n (am_c0 11 N)) (am_st μ n am_m0) (pc + 2) L (vR n :: st) Q) : am_Ag true d bc bs M n S μ pc L (vI (N : Int) :: st) Q := by
  intro G p l e R s m args below meth c H locs cells slots nb ls X hc hs hnb hS hR hz hL oL os om
  obtain ⟨hx, hb, hml, hown, hts, hret, hlk, hnm, hfr, hlo, hF⟩ := id X
  obtain ⟨hz1, hz2⟩ := hz rfl
  have o1 : am_in (N : Int) := am_oks_hd os
  refine va_newaK (atype := .int) (N := N) hx hb (hts _ (am_gd_ws hw)) rfl hd rfl (fun q => by have := (am_ltI o1 am_in0).mp q; omega) (by rw [am_cl o1]; omega) (by show N * 4 ≤ _; omega) (by omega) (by omega) hz1 fun H1 cA e1 z1 o1 hAr hNm => ?_
  have o1' : ∀ q, q < H.size → H1[q]? = H[q]? := fun q hq => o1 q (by omega)
  have hcA : cA = G.2.2 11 := Option.some.inj (hNm.symm.trans (hF.1.2 0 _ (am_tys_at G).1).2)
  subst hcA
  have hR1 : am_Rep G (n + 1) (am_sS S n (am_c0 11 N)) (am_st μ n am_m0) H1 := am_Rep_push hR (by omega) o1' (by
    rw [am_e_arr (s := am_c0 11 N) rfl (Or.inl rfl)]
    show H1[_]? = some (vp_cell _ _)
    rw [vp_cell_i]
    exact e1)
  exact kk G p l e R s m args below meth c H1 locs (cells + 1) (slots + N) nb ls X (by omega) (by omega) (by omega) (am_sizes hS (by omega) o1') hR1 (fun _ => ⟨by omega, hz2⟩) hL oL (am_oks_cons trivial (am_oks_tl os)) (am_okm_st om (fun _ => am_in0))
theorem s_newZ {d bc bs : Nat} {M : am_T} {n : Nat} {S : Nat → am_C} {μ : am_M} {pc : Nat} {L st : List am_V} {Q : am_P} {N : Nat} (hd : decode M.2.1 pc = .ok (.newarray .boolean, 2)) (hw : Cond.arrayClass .boolean ∈ am_gd) (hN : N ≤ 5000) (hbc : 1 ≤ bc) (hbs : N ≤ bs) (kk : am_Ag true d (bc - 1) (bs - N) M (n + 1) (am_sS S n (am_c0 12 N)) (am_st μ n am_m0) (pc + 2) L (vR n :: st) Q) : am_Ag true d bc bs M n S μ pc L (vI (N : Int) :: st) Q := by
  intro G p l e R s m args below meth c H locs cells slots nb ls X hc hs hnb hS hR hz hL oL os om
  obtain ⟨hx, hb, hml, hown, hts, hret, hlk, hnm, hfr, hlo, hF⟩ := id X
  obtain ⟨hz1, hz2⟩ := hz rfl
  have o1 : am_in (N : Int) := am_oks_hd os
  refine va_newaK (atype := .boolean) (N := N) hx hb (hts _ (am_gd_ws hw)) rfl hd rfl (fun q => by have := (am_ltI o1 am_in0).mp q; omega) (by rw [am_cl o1]; omega) (by show N * 1 ≤ _; omega) (by omega) (by omega) hz1 fun H1 cA e1 z1 o1 hAr hNm => ?_
  have o1' : ∀ q, q < H.size → H1[q]? = H[q]? := fun q hq => o1 q (by omega)
  have hcA : cA = G.2.2 12 := Option.some.inj (hNm.symm.trans (hF.1.2 1 _ (am_tys_at G).2.1).2)
  subst hcA
  have hR1 : am_Rep G (n + 1) (am_sS S n (am_c0 12 N)) (am_st μ n am_m0) H1 := am_Rep_push hR (by omega) o1' (by
    rw [am_e_arr (s := am_c0 12 N) rfl (Or.inr rfl)]
    show H1[_]? = some (vp_cell _ _)
    rw [vp_cell_i]
    exact e1)
  exact kk G p l e R s m args below meth c H1 locs (cells + 1) (slots + N) nb ls X (by omega) (by omega) (by omega) (am_sizes hS (by omega) o1') hR1 (fun _ => ⟨by omega, hz2⟩) hL oL (am_oks_cons trivial (am_oks_tl os)) (am_okm_st om (fun _ => am_in0))
theorem s_newP {d bc bs : Nat} {M : am_T} {n : Nat} {S : Nat → am_C} {μ : am_M} {pc : Nat} {L st : List am_V} {Q : am_P} {N idx : Nat} (hd : decode M.2.1 pc = .ok (.anewarray idx, 3)) (hw : Cond.classLink M.1.cls idx RX4 ∈ am_gd) (hN : N ≤ 5000) (hbc : 1 ≤ bc) (hbs : N ≤ bs) (kk : am_Ag true d (bc - 1) (bs - N) M (n + 1) (am_sS S n (am_c0 13 N)) (am_st μ n am_m0) (pc + 3) L (vR n :: st) Q) : am_Ag true d bc bs M n S μ pc L (vI (N : Int) :: st) Q := by
  intro G p l e R s m args below meth c H locs cells slots nb ls X hc hs hnb hS hR hz hL oL os om
  obtain ⟨hx, hb, hml, hown, hts, hret, hlk, hnm, hfr, hlo, hF⟩ := id X
  obtain ⟨hz1, hz2⟩ := hz rfl
  have o1 : am_in (N : Int) := am_oks_hd os
  have eN : (Int32.ofInt (N : Int)).toNatClampNeg = N := by rw [am_cl o1]; omega
  refine W.anew (C := RX4) hx hb hown (hts _ (am_gd_ws hw)) (va_AO.use hF.2.2.2.1) rfl hd rfl (fun q => by have := (am_ltI o1 am_in0).mp q; omega) (by rw [eN]; omega) (by omega) (by rw [eN]; omega) fun cA kA comp f1 f2 f3 f4 => ?_
  rw [eN]
  have ho : ∀ (x : Cell) (q : Nat), q < H.size → (H.push x)[q]? = H[q]? := fun x q hq => by rw [Array.getElem?_push, if_neg (Nat.ne_of_lt hq)]
  have hcA : cA = G.2.2 13 := by
    obtain ⟨kA', comp', -, -, -, g4⟩ := (hF.1.2 2 _ (am_tys_at G).2.2.1).2
    exact Option.some.inj (f1.symm.trans g4)
  subst hcA
  have hR1 : am_Rep G (n + 1) (am_sS S n (am_c0 13 N)) (am_st μ n am_m0) (H.push ({ cls := G.2.2 13, slots := Array.replicate N .null, vm := .none } : Cell)) := am_Rep_push hR (by omega) (ho _) (by
    rw [am_e_refs (s := am_c0 13 N) rfl (Or.inl rfl)]
    show (H.push _)[G.1.1 + n]? = some (vp_cell _ _)
    rw [vp_cell_q, ← hz1, Array.getElem?_push_size]
    exact congrArg some (arrV_new _ _ _))
  have kk' := kk G p l e R s m args below meth c _ locs (cells + 1) (slots + N) nb ls X (by omega) (by omega) (by omega) (am_sizes hS (by rw [Array.size_push]; omega) (ho _)) hR1 (fun _ => ⟨by rw [Array.size_push]; omega, hz2⟩) hL oL (am_oks_cons trivial (am_oks_tl os)) (am_okm_st om (fun _ => am_in0))
  rw [List.map_cons, show am_cv G (vR n) = Value.ref H.size from congrArg Value.ref hz1.symm] at kk'
  exact kk'
theorem s_aast {d bc bs : Nat} {M : am_T} {n : Nat} {S : Nat → am_C} {μ : am_M} {pc : Nat} {L st : List am_V} {Q : am_P} {k N r : Nat} {i : Int} {S' : Nat → am_C} (hd : decode M.2.1 pc = .ok (.aastore, 1)) (hk : k < n) (hSk : (S k).1 = 13) (hN : (S k).2.1 = N) (hr : r < n) (hSr : (S r).1 = 4) (h0 : 0 ≤ i) (h1 : i < N) (hS' : am_sS S k ((S k).1, (S k).2.1, fun j => if j = i.toNat then r + 1 else (S k).2.2 j) = S') (kk : am_Ag true d bc bs M n S' μ (pc + 1) L st Q) : am_Ag true d bc bs M n S μ pc L (vR r :: vI i :: vR k :: st) Q := by
  intro G p l e R s m args below meth c H locs cells slots nb ls X hc hs hnb hS hR hz hL oL os om
  obtain ⟨hx, hb, hml, hown, hts, hret, hlk, hnm, hfr, hlo, hF⟩ := id X
  obtain ⟨hz1, hz2⟩ := hz rfl
  subst hS'
  have o1 : am_in i := am_oks_hd (am_oks_tl os)
  have he := am_wl_at (G := G) (S := S) (μ := μ) hk
  rw [am_e_refs hSk (Or.inl rfl), hN] at he
  have her := am_wl_at (G := G) (S := S) (μ := μ) hr
  rw [am_e_obj hSr (by omega)] at her

  obtain ⟨r', hr', cellV, g1, g2, g3, -⟩ := hR.1 r _ her
  have hcls := (hF.1.1 4 _ (am_cl_at 4 (by omega))).2
  obtain ⟨kA, comp, k1, k2, k3, -⟩ := (hF.1.2 2 _ (am_tys_at G).2.2.1).2
  have hcomp : comp = G.2.1.1 4 := Option.some.inj (k3.symm.trans hcls.1)
  subst hcomp
  obtain ⟨kC, hkC, -⟩ := hcls.2
  have hin : vp_in (Int32.ofInt i) N := am_vp o1 h0 h1
  have hlt : (Int32.ofInt i).toNatClampNeg < N := Nat.not_le.mp fun q => hin (Or.inr q)
  refine W.aast hx hb (hR.1 k _ he) (fun q h => by cases h) (fun h => by cases h) k1 k2 rfl hkC ⟨fun q => hin (Or.inl q), by show _ < (arrV _ _ _).slots.size; rw [arrV_size]; exact hlt⟩ g1 (fun q h => by rw [g3] at h; cases h) (by rw [g2]; exact hkC) (by rw [g2]; exact va_assign hcls) rfl rfl hd fun H1 e1 z1 o1' => ?_
  have hP1 := hR.1.set (am_wl_D hR.2) he (e := am_e G ((S k).1, (S k).2.1, fun j => if j = i.toNat then r + 1 else (S k).2.2 j) (μ k)) (by
    rw [am_e_refs (s := ((S k).1, (S k).2.1, fun j => if j = i.toNat then r + 1 else (S k).2.2 j)) hSk (Or.inl rfl)]
    show H1[_]? = some (vp_cell _ _)
    rw [e1, vp_cell_q, vp_cell_q, arrV_store, hN, am_cl o1]
    congr 2
    funext q
    by_cases hq : q = i.toNat
    · subst hq
      simp [updV, am_rf, va_rf]
    · simp [updV, hq]) o1'
  rw [am_wl_setS hk rfl] at hP1
  exact kk G p l e R s m args below meth c H1 _ cells slots nb ls X hc hs hnb (hS.put z1 o1' ((am_wl_D (G := G) (S := S) (μ := μ) hR.2).2 k _ he)) ⟨hP1, hR.2⟩ (fun h => ⟨by rw [z1]; exact (hz h).1, (hz h).2⟩) hL oL (am_oks_tl (am_oks_tl (am_oks_tl os))) om
theorem am_woi : Cond.instanceMethod objectInit ∈ am_gd ∧ Cond.code objectInit ⟨#[0xb1]⟩ 1 none ∈ am_gd := ⟨am_in_gd 70 (by decide +kernel) (by decide +kernel), am_in_gd 71 rfl rfl⟩
theorem s_objI {d bc bs : Nat} {M : am_T} {n : Nat} {S : Nat → am_C} {μ : am_M} {pc : Nat} {L st : List am_V} {Q : am_P} {idx k : Nat} (hd : decode M.2.1 pc = .ok (.invokespecial idx, 3)) (hw : Cond.methodLink M.1.cls idx objectInit ∈ am_gd) (hst : st.length ≤ 8) (hdd : 1 ≤ d) (kk : am_Ag true d bc bs M n S μ (pc + 3) L st Q) : am_Ag true d bc bs M n S μ pc L (vR k :: st) Q := by
  intro G p l e R s m args below meth c H locs cells slots nb ls X hc hs hnb hS hR hz hL oL os om
  obtain ⟨hx, hb, hml, hown, hts, hret, hlk, hnm, hfr, hlo, hF⟩ := id X
  refine W.objInit hx hb hown (hts _ (am_gd_ws hw)) (hts _ (am_gd_ws am_woi.1)) (hts _ (am_gd_ws am_woi.2)) rfl (by rw [hml]; exact hL.1) rfl hd (by omega) (by show 2 * 0 + _ + 12 ≤ _; rw [am_cats]; omega) ?_
  exact kk G p l e R s m args below meth c H locs cells slots nb ls X hc hs hnb hS hR hz hL oL (am_oks_tl os) om
def am_cpS (t : Nat) (g : Nat → Int) (sp dp len : Int) : Nat → Int := fun j => if dp ≤ j ∧ (j : Int) < dp + len then (am_sv t).getD (sp + (j - dp)).toNat 0 else g j
theorem s_acopyS {d bc bs : Nat} {M : am_T} {n : Nat} {S : Nat → am_C} {μ : am_M} {pc : Nat} {L st : List am_V} {Q : am_P} {idx t k1 N1 : Nat} {sp dp len : Int} {μ2 : am_M} (hd : decode M.2.1 pc = .ok (.invokestatic idx, 3)) (hw : Cond.methodLink M.1.cls idx arraycopyName ∈ am_gd) (ht : t < 8) (hk1 : k1 < n) (hS1 : (S k1).1 = 11) (hN1 : (S k1).2.1 = N1) (hst : st.length ≤ 1) (hdd : 1 ≤ d) (h1 : 0 ≤ sp) (h2 : 0 ≤ dp) (h3 : 0 ≤ len) (h4 : sp + len ≤ (am_sv t).length) (h5 : dp + len ≤ N1) (hμ : am_st μ k1 (am_cpS t (μ k1) sp dp len) = μ2) (kk : am_Ag true d bc bs M n S μ2 (pc + 3) L st Q) : am_Ag true d bc bs M n S μ pc L (vI len :: vI dp :: vR k1 :: vI sp :: vS t :: st) Q := by
  intro G p l e R s m args below meth c H locs cells slots nb ls X hc hs hnb hS hR hz hL oL os om
  obtain ⟨hx, hb, hml, hown, hts, hret, hlk, hnm, hfr, hlo, hF⟩ := id X
  subst hμ
  have o1 : am_in len := am_oks_hd os
  have o2 : am_in dp := am_oks_hd (am_oks_tl os)
  have o3 : am_in sp := am_oks_hd (am_oks_tl (am_oks_tl (am_oks_tl os)))
  obtain ⟨cell, t1, t2, t3, t4, -, t6, t7⟩ := (hF.2.2.1 t ht).2
  have he1 := am_wl_at (G := G) (S := S) (μ := μ) hk1
  rw [am_e_arr hS1 (Or.inl rfl), hN1] at he1
  have hc1 : H[G.1.1 + k1]? = some (vp_cell (G.2.2 11) (N1, .inl (fun j => Int32.ofInt (μ k1 j)))) := hR.1 k1 _ he1
  have hc0 : H[G.1.2.2 t]? = some cell := by rw [hS.2.1 _ (Array.getElem?_eq_some_iff.mp t1).1 t7]; exact t1
  obtain ⟨j0, ks, hks, sc, hsk⟩ := t2
  obtain ⟨-, kd, hkd, dc, hdk⟩ := (hF.1.2 0 _ (am_tys_at G).1).1 N1 (fun j => .int (Int32.ofInt (μ k1 j)))
  have nl : ∀ z : Int, am_in z → 0 ≤ z → ¬ Int32.ofInt z < 0 := fun z hz h0 h => by
    have := (am_ltI hz am_in0).mp h
    omega
  have hget : ∀ i : Nat, i < len.toNat → cell.slots.getD (sp.toNat + i) .null = .int (Int32.ofInt ((am_sv t).getD (sp.toNat + i) 0)) := fun i hi => by
    rw [Array.getD_eq_getD_getElem?, t6 _ (by omega)]
    rfl
  intro T hT Y
  obtain ⟨vm', X', step⟩ := Y.arraycopy hx hown (hts _ (am_gd_ws hw)) (hts _ (am_gd_ws am_wcopy.1)) (hts _ (am_gd_ws am_wcopy.2.1)) (hts _ (am_gd_ws am_wcopy.2.2)) (src := G.1.2.2 t) (dst := G.1.1 + k1) (cs := cell) (cd := vp_cell (G.2.2 11) (N1, .inl (fun j => Int32.ofInt (μ k1 j)))) (srcPos := Int32.ofInt sp) (destPos := Int32.ofInt dp) (n := Int32.ofInt len) (by rw [hT]; exact hc0) (by rw [hT]; exact hc1)
    j0 (fun _ h => by cases h) t3 (fun h => by cases h) hks hkd hsk hdk rfl (nl sp o3 h1) (nl dp o2 h2) (nl len o1 h3)
    (by rw [am_oi o3, am_oi o1]; omega)
    (by rw [am_oi o2, am_oi o1]; show ¬ _ > ((arrV _ N1 _).slots.size : Int); rw [arrV_size]; omega)
    (fun vm₁ _ i hi => by
      rw [am_cl o1] at hi
      rw [am_cl o3, hget i hi]
      exact ⟨rfl, trivial⟩)
    (g := F0 m pc ls ((vI len :: vI dp :: vR k1 :: vI sp :: vS t :: st).map (am_cv G))) rfl (by rw [hml]; exact hL.1) (rest := st.map (am_cv G)) rfl (by rw [hb]; exact hd) (by omega) (by show 2 * 0 + _ + _ ≤ _; rw [am_cats]; have := am_nfw; omega)
  have e1 : copied cell (vp_cell (G.2.2 11) (N1, .inl (fun j => Int32.ofInt (μ k1 j)))) (Int32.ofInt sp) (Int32.ofInt dp) (Int32.ofInt len) = vp_cell (G.2.2 11) (N1, .inl (fun j => Int32.ofInt (am_cpS t (μ k1) sp dp len j))) := by
    have q := va_copied (fun z : Int32 => Value.int z) (G.2.2 11) (G.2.2 11) (n0 := (am_sv t).length) (n1 := N1) (sp := sp.toNat) (dp := dp.toNat) (n := len.toNat) (fun j => Int32.ofInt ((am_sv t).getD j 0)) (fun j => Int32.ofInt (μ k1 j)) (by omega)
    have es : cell.stretch sp.toNat len.toNat = (arrV (G.2.2 11) (am_sv t).length (fun j => Value.int (Int32.ofInt ((am_sv t).getD j 0)))).stretch sp.toNat len.toNat := by
      unfold Cell.stretch
      apply List.map_congr_left
      intro i hi
      have hi' := List.mem_range.mp hi
      rw [hget i hi', Array.getD_eq_getD_getElem?, arrV_read _ _ (by omega)]
      rfl
    show (vp_cell _ _).storeRun (Int32.ofInt dp).toNatClampNeg (cell.stretch (Int32.ofInt sp).toNatClampNeg (Int32.ofInt len).toNatClampNeg) = _
    rw [am_cl o1, am_cl o2, am_cl o3, es]
    refine q.trans ?_
    rw [vp_cell_i]
    congr 1
    funext j
    unfold va_cpy am_cpS
    by_cases h : dp ≤ j ∧ (j : Int) < dp + len
    · rw [if_pos (by omega), if_pos h]
      congr 3
      omega
    · rw [if_neg (by omega), if_neg h]
  rw [e1] at X' step
  have hl : G.1.1 + k1 < H.size := (Array.getElem?_eq_some_iff.mp hc1).1
  generalize hC : vp_cell (G.2.2 11) (N1, .inl (fun j => Int32.ofInt (am_cpS t (μ k1) sp dp len j))) = C at X' step
  have hheap : ((T.setVm vm').setCell (G.1.1 + k1) C).heap = H.setIfInBounds (G.1.1 + k1) C := by rw [← hT]; rfl
  have oq : ∀ q : Nat, q ≠ G.1.1 + k1 → (H.setIfInBounds (G.1.1 + k1) C)[q]? = H[q]? := fun q hq => by simp [Array.getElem?_setIfInBounds, Ne.symm hq]
  have hA1 := (am_wl_D (G := G) (S := S) (μ := μ) hR.2).2 k1 _ he1
  have hP1 := hR.1.set (am_wl_D hR.2) he1 (e := am_e G (S k1) (am_cpS t (μ k1) sp dp len)) (H1 := H.setIfInBounds (G.1.1 + k1) C) (by
    rw [am_e_arr hS1 (Or.inl rfl), hN1]
    show _ = some (vp_cell _ _)
    rw [hC]
    simp [Array.getElem?_setIfInBounds, hl]) oq
  rw [am_wl_set hk1 rfl] at hP1
  obtain ⟨t2, a1, b1⟩ := kk G p l e R s m args below meth c _ _ cells slots nb ls X hc hs hnb ⟨by simp; exact hS.1, fun q g1 g2 => by
      rw [oq q (fun e => g2 (by rw [e]; exact hA1))]
      exact hS.2.1 q g1 g2, fun q hq => by
      rcases List.mem_append.mp hq with h | h
      · exact hS.2.2 q h
      · obtain ⟨z, -, hz⟩ := List.mem_map.mp h
        rw [← hz]
        exact hA1⟩ ⟨hP1, hR.2⟩ (fun h => ⟨by simp; exact (hz h).1, (hz h).2⟩) hL oL (am_oks_tl (am_oks_tl (am_oks_tl (am_oks_tl (am_oks_tl os))))) (am_okm_st om (fun j => by
      unfold am_cpS
      split
      · exact am_sv_in _ _
      · exact om _ _)) _ hheap X'
  exact ⟨t2, step t2 a1, b1⟩

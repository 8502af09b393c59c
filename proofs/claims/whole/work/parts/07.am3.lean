theorem am_inws : ∀ ci, ci < 11 → ∀ w ∈ u_ws (am_rn ci) (am_tt ci) (am_nf ci), w ∈ am_gd := by
  intro ci h
  match ci, h with
  | 0, _ => decide +kernel
  | 1, _ => decide +kernel
  | 2, _ => decide +kernel
  | 3, _ => decide +kernel
  | 4, _ => decide +kernel
  | 5, _ => decide +kernel
  | 6, _ => decide +kernel
  | 7, _ => decide +kernel
  | 8, _ => decide +kernel
  | 9, _ => decide +kernel
  | 10, _ => decide +kernel
theorem am_decl (ci : Nat) (h : ci < 11) : ∀ j, j < am_nf ci → (am_tt ci j).1 = am_rn ci := by
  match ci, h with
  | 0, _ => decide +kernel
  | 1, _ => decide +kernel
  | 2, _ => decide +kernel
  | 3, _ => decide +kernel
  | 4, _ => decide +kernel
  | 5, _ => decide +kernel
  | 6, _ => decide +kernel
  | 7, _ => decide +kernel
  | 8, _ => decide +kernel
  | 9, _ => decide +kernel
  | 10, _ => decide +kernel
/-- a field of an object, as an instruction names it -/
def am_fl (own : String) (idx ci j : Nat) : Prop := Cond.fieldLink own idx (am_rn ci) (am_tt ci j).2.1 (am_tt ci j).2.2.1 ∈ am_gd ∧ ci < 11 ∧ j < am_nf ci
theorem am_e_obj {G : am_G} {s : am_C} {m : Nat → Int} {ci : Nat} (h : s.1 = ci) (hc : ci < 11) : am_e G s m = .inr (ci, (List.range (am_nf ci)).map (am_fv G s m)) := by
  subst h
  unfold am_e
  rw [if_pos hc]
theorem am_e_arr {G : am_G} {s : am_C} {m : Nat → Int} {ci : Nat} (h : s.1 = ci) (hc : ci = 11 ∨ ci = 12) : am_e G s m = .inl (G.2.2 ci, (s.2.1, .inl (fun j => Int32.ofInt (m j)))) := by
  subst h
  unfold am_e
  rw [if_neg (by omega), if_pos (by omega)]
theorem am_e_refs {G : am_G} {s : am_C} {m : Nat → Int} {ci : Nat} (h : s.1 = ci) (hc : ci = 13 ∨ ci = 14) : am_e G s m = .inl (G.2.2 ci, (s.2.1, .inr (.inr (.inr (.inr (fun j => am_rf G (s.2.2 j))))))) := by
  subst h
  unfold am_e
  rw [if_neg (by omega), if_neg (by omega)]
theorem am_rf_s (G : am_G) (r : Nat) : va_rf (am_rf G (r + 1)) = .ref (G.1.1 + r) := rfl
theorem am_fv_set {G : am_G} {s : am_C} {m : Nat → Int} {ci j : Nat} {x : Int} (h : s.1 = ci) (hi : am_isI (am_ft ci j) = true) : ((List.range (am_nf ci)).map (am_fv G s m)).set j (.int (Int32.ofInt x)) = (List.range (am_nf ci)).map (am_fv G s (am_up m j x)) := by
  apply List.ext_getElem?
  intro i
  rw [List.getElem?_set]
  by_cases hij : j = i
  · subst hij
    rw [if_pos rfl]
    by_cases hl : j < am_nf ci
    · rw [if_pos (by simpa using hl)]
      simp [hl, am_fv, am_up, h, hi]
    · rw [if_neg (by simpa using hl)]
      rw [List.getElem?_eq_none (by simpa using hl)]
  · rw [if_neg hij]
    by_cases hl : i < am_nf ci
    · simp [hl, am_fv, am_up, Ne.symm hij]
    · simp [hl]
theorem am_fv_setR {G : am_G} {s : am_C} {m : Nat → Int} {ci j r : Nat} (h : s.1 = ci) (hi : am_isI (am_ft ci j) = false) : ((List.range (am_nf ci)).map (am_fv G s m)).set j (.ref (G.1.1 + r)) = (List.range (am_nf ci)).map (am_fv G (s.1, s.2.1, fun i => if i = j then r + 1 else s.2.2 i) m) := by
  apply List.ext_getElem?
  intro i
  rw [List.getElem?_set]
  by_cases hij : j = i
  · subst hij
    rw [if_pos rfl]
    by_cases hl : j < am_nf ci
    · rw [if_pos (by simpa using hl)]
      simp [hl, am_fv, h, hi, am_rf, va_rf]
    · rw [if_neg (by simpa using hl)]
      rw [List.getElem?_eq_none (by simpa using hl)]
  · rw [if_neg hij]
    by_cases hl : i < am_nf ci
    · simp [hl, am_fv, Ne.symm hij]
    · simp [hl]
theorem am_wmax : Cond.static Lib.Math.max.name ∈ am_gd ∧ Cond.initialized "java/lang/Math" ∈ am_gd ∧ Cond.code Lib.Math.max.name Lib.Math.max.code 2 (some .int) ∈ am_gd := by decide +kernel
theorem am_wmin : Cond.static Lib.Math.min.name ∈ am_gd ∧ Cond.code Lib.Math.min.name Lib.Math.min.code 2 (some .int) ∈ am_gd := by decide +kernel
theorem am_wcopy : Cond.native arraycopyName ∈ am_gd ∧ Cond.static arraycopyName ∈ am_gd ∧ Cond.initialized "java/lang/System" ∈ am_gd := by decide +kernel
theorem am_nfw : nativeFrameWords "java/lang/System" "arraycopy" 5 ≤ 23 := by decide +kernel
theorem am_cats (G : am_G) (l : List am_V) : ((l.map (am_cv G)).map fun v => v.category).sum = l.length := by
  induction l with
  | nil => rfl
  | cons a l ih =>
    rw [List.map_cons, List.map_cons, List.sum_cons, ih, am_cat, List.length_cons]
    omega
theorem s_getI {al : Bool} {d bc bs : Nat} {M : am_T} {n : Nat} {S : Nat → am_C} {μ : am_M} {pc : Nat} {L st : List am_V} {Q : am_P} {k j idx ci : Nat} {x : Int} (hd : decode M.2.1 pc = .ok (.getfield idx, 3)) (hf : am_fl M.1.cls idx ci j) (hk : k < n) (hSk : (S k).1 = ci) (hi : am_isI (am_ft ci j) = true) (hxx : μ k j = x) (kk : am_Ag al d bc bs M n S μ (pc + 3) L (vI x :: st) Q) : am_Ag al d bc bs M n S μ pc L (vR k :: st) Q := by
  intro G p l e R s m args below meth c H locs cells slots nb ls X hc hs hnb hS hR hz hL oL os om
  obtain ⟨hx, hb, hml, hown, hts, hret, hlk, hnm, hfr, hlo, hF⟩ := id X
  obtain ⟨f1, f2, f3⟩ := hf
  have he := am_wl_at (G := G) (S := S) (μ := μ) hk
  rw [am_e_obj hSk f2] at he
  refine va_get hx hb hts (fun w h => am_gd_ws (am_inws ci f2 w h)) hown hF.1 hR.1 k he (am_cl_at ci f2) j f3 (hts _ (am_gd_ws f1)) (fun x h => by rw [am_decl ci f2 j f3] at h; exact h) (v := .int (Int32.ofInt x)) ?_ hd (kk G p l e R s m args below meth c H locs cells slots nb ls X hc hs hnb hS hR hz hL oL (am_oks_cons (by rw [← hxx]; exact om k j) (am_oks_tl os)) om)
  rw [List.getElem?_map, List.getElem?_range f3]
  simp [am_fv, hSk, hi, hxx]
theorem s_getR {al : Bool} {d bc bs : Nat} {M : am_T} {n : Nat} {S : Nat → am_C} {μ : am_M} {pc : Nat} {L st : List am_V} {Q : am_P} {k j idx ci r : Nat} (hd : decode M.2.1 pc = .ok (.getfield idx, 3)) (hf : am_fl M.1.cls idx ci j) (hk : k < n) (hSk : (S k).1 = ci) (hi : am_isI (am_ft ci j) = false) (hr : (S k).2.2 j = r + 1) (kk : am_Ag al d bc bs M n S μ (pc + 3) L (vR r :: st) Q) : am_Ag al d bc bs M n S μ pc L (vR k :: st) Q := by
  intro G p l e R s m args below meth c H locs cells slots nb ls X hc hs hnb hS hR hz hL oL os om
  obtain ⟨hx, hb, hml, hown, hts, hret, hlk, hnm, hfr, hlo, hF⟩ := id X
  obtain ⟨f1, f2, f3⟩ := hf
  have he := am_wl_at (G := G) (S := S) (μ := μ) hk
  rw [am_e_obj hSk f2] at he
  refine va_get hx hb hts (fun w h => am_gd_ws (am_inws ci f2 w h)) hown hF.1 hR.1 k he (am_cl_at ci f2) j f3 (hts _ (am_gd_ws f1)) (fun x h => by rw [am_decl ci f2 j f3] at h; exact h) (v := .ref (G.1.1 + r)) ?_ hd (kk G p l e R s m args below meth c H locs cells slots nb ls X hc hs hnb hS hR hz hL oL (am_oks_cons trivial (am_oks_tl os)) om)
  rw [List.getElem?_map, List.getElem?_range f3]
  simp [am_fv, hSk, hi, hr, am_rf, va_rf]
theorem am_nrw {ty : FieldType} {x : Int} (hi : am_isI ty = true) (hb : ty = .int ∨ x = 0 ∨ x = 1) : narrow ty (.int (Int32.ofInt x)) = .int (Int32.ofInt x) ∧ fits ty (.int (Int32.ofInt x)) = true := by
  rcases hb with rfl | rfl | rfl
  · exact ⟨rfl, rfl⟩
  · cases ty <;> first | (cases hi; done) | exact ⟨by decide, by decide⟩
  · cases ty <;> first | (cases hi; done) | exact ⟨by decide, by decide⟩
theorem s_putI {al : Bool} {d bc bs : Nat} {M : am_T} {n : Nat} {S : Nat → am_C} {μ : am_M} {pc : Nat} {L st : List am_V} {Q : am_P} {k j idx ci : Nat} {x : Int} {μ' : am_M} (hd : decode M.2.1 pc = .ok (.putfield idx, 3)) (hf : am_fl M.1.cls idx ci j) (hk : k < n) (hSk : (S k).1 = ci) (hi : am_isI (am_ft ci j) = true) (hfin : (am_tt ci j).2.2.2 = false) (hbx : am_ft ci j = .int ∨ x = 0 ∨ x = 1) (hμ : am_st μ k (am_up (μ k) j x) = μ') (kk : am_Ag al d bc bs M n S μ' (pc + 3) L st Q) : am_Ag al d bc bs M n S μ pc L (vI x :: vR k :: st) Q := by
  intro G p l e R s m args below meth c H locs cells slots nb ls X hc hs hnb hS hR hz hL oL os om
  obtain ⟨hx, hb, hml, hown, hts, hret, hlk, hnm, hfr, hlo, hF⟩ := id X
  subst hμ
  obtain ⟨f1, f2, f3⟩ := hf
  have he := am_wl_at (G := G) (S := S) (μ := μ) hk
  rw [am_e_obj hSk f2] at he
  obtain ⟨r0, h1, cell, q1, q2, q3, q4⟩ := hR.1 k _ he
  have hr0 : r0 = (am_rn ci, am_tt ci, am_nf ci) := Option.some.inj (h1.symm.trans (am_cl_at ci f2))
  subst hr0
  obtain ⟨hSl, hfc, kC, hkC, hkind⟩ := hF.1.1 ci _ (am_cl_at ci f2)
  obtain ⟨cf, kf, fi, f, hi0, hsl⟩ := hSl j f3
  have hin := fun w h => am_gd_ws (M := M) (am_inws ci f2 w h)
  have hlay := hts _ (hin _ (u_in_lay f3))
  unfold u_lay at hlay
  rw [if_neg (by rw [hfin]; decide)] at hlay
  have hst := (u_facts hfc hkC (u_lays hts hin f3) hi0).1
  have h6 := u_store hfc hkC hkind hlay hi0 (am_ty_ok ci f2 j f3) (am_nrw hi hbx).1 (am_nrw hi hbx).2
  have hsame : s.fieldFound? (am_rn ci) (am_tt ci j).2.1 (am_tt ci j).2.2.1 = some (cf, kf, fi, f) := by
    have h := hi0
    rw [am_decl ci f2 j f3] at h
    exact h
  refine W.putK hx hb (f := f) ⟨hown, hts _ (am_gd_ws f1), ⟨_, _, _, hsame⟩, hst⟩ (by rw [q2]; exact h6) q1 q3 (by rw [hsl]; exact k2_hasslot (q4 j f3)) rfl rfl hd fun H1 e1 hz1 e3 => ?_
  rw [hsl] at e1 ⊢
  have hap := va_apart (own := M.1.cls) hts hin (am_ft ci) (am_ty_ok ci f2) (am_nm_ok ci f2) hF.1 (am_cl_at ci f2)
  have hP1 := hR.1.set (am_wl_D hR.2) he (e := .inr (ci, ((List.range (am_nf ci)).map (am_fv G (S k) (μ k))).set j (.int (Int32.ofInt x)))) ⟨_, am_cl_at ci f2, t_OB.to (V := updV (vp_V ((List.range (am_nf ci)).map (am_fv G (S k) (μ k)))) j (.int (Int32.ofInt x))) ⟨_, e1, q2, q3, t_set q4 hap f3 _⟩ (fun i _ => vp_updV_set (by simpa using f3) _ i)⟩ e3
  rw [am_fv_set hSk hi, am_wl_set hk (am_e_obj hSk f2).symm] at hP1
  have hS1 := hS.put (k := (G.2.1.2 ci j)) hz1 e3 ((am_wl_D (G := G) (S := S) (μ := μ) hR.2).2 k _ he)
  exact kk G p l e R s m args below meth c H1 _ cells slots nb ls X hc hs hnb hS1 ⟨hP1, hR.2⟩ (fun h => ⟨by rw [hz1]; exact (hz h).1, (hz h).2⟩) hL oL (am_oks_tl (am_oks_tl os)) (am_okm_st om (am_ok_up (om k) (am_oks_hd os)))
theorem s_putF {al : Bool} {d bc bs : Nat} {M : am_T} {n : Nat} {S : Nat → am_C} {μ : am_M} {pc : Nat} {L st : List am_V} {Q : am_P} {k j idx ci r : Nat} {S' : Nat → am_C} (hd : decode M.2.1 pc = .ok (.putfield idx, 3)) (hf : am_fl M.1.cls idx ci j) (hk : k < n) (hSk : (S k).1 = ci) (hi : am_isI (am_ft ci j) = false) (hfin : (am_tt ci j).2.2.2 = true) (hfit : ∀ a, narrow (am_ft ci j) (.ref a) = .ref a ∧ fits (am_ft ci j) (.ref a) = true) (hini : M.1.name = "<init>") (hcls : M.1.cls = am_rn ci) (hS' : am_sS S k ((S k).1, (S k).2.1, fun i => if i = j then r + 1 else (S k).2.2 i) = S') (kk : am_Ag al d bc bs M n S' μ (pc + 3) L st Q) : am_Ag al d bc bs M n S μ pc L (vR r :: vR k :: st) Q := by
  intro G p l e R s m args below meth c H locs cells slots nb ls X hc hs hnb hS hR hz hL oL os om
  obtain ⟨hx, hb, hml, hown, hts, hret, hlk, hnm, hfr, hlo, hF⟩ := id X
  subst hS'
  obtain ⟨f1, f2, f3⟩ := hf
  have he := am_wl_at (G := G) (S := S) (μ := μ) hk
  rw [am_e_obj hSk f2] at he
  obtain ⟨r0, h1, cell, q1, q2, q3, q4⟩ := hR.1 k _ he
  have hr0 : r0 = (am_rn ci, am_tt ci, am_nf ci) := Option.some.inj (h1.symm.trans (am_cl_at ci f2))
  subst hr0
  obtain ⟨hSl, hfc, kC, hkC, hkind⟩ := hF.1.1 ci _ (am_cl_at ci f2)
  obtain ⟨cf, kf, fi, f, hi0, hsl⟩ := hSl j f3
  have hin := fun w h => am_gd_ws (M := M) (am_inws ci f2 w h)
  have hlay := hts _ (hin _ (u_in_lay f3))
  unfold u_lay at hlay
  rw [if_pos hfin] at hlay
  have hst := (u_facts hfc hkC (u_lays hts hin f3) hi0).1
  have hcf : m.cls = cf := by
    obtain ⟨_, _, c', _, _, _, -, -, hf', -, -, -, hown2, -⟩ := Cond.laysFinal_spec hlay
    have e1 : c' = cf := by have := hi0.symm.trans hf'; simp at this; exact this.1.symm
    rw [am_decl ci f2 j f3, ← hcls] at hown2
    rw [← e1]; exact Option.some.inj (hown.symm.trans hown2)
  have h6 := u_fits hfc hkC hkind (Or.inr hlay) hi0 (am_ty_ok ci f2 j f3) (hfit (G.1.1 + r)).1 (hfit (G.1.1 + r)).2
  have hsame : s.fieldFound? (am_rn ci) (am_tt ci j).2.1 (am_tt ci j).2.2.1 = some (cf, kf, fi, f) := by
    have h := hi0
    rw [am_decl ci f2 j f3] at h
    exact h
  refine W.putFinK hx hb hown (hts _ (am_gd_ws f1)) hsame hst hcf (hnm.trans hini) (by rw [q2]; exact h6) q1 q3 (by rw [hsl]; exact k2_hasslot (q4 j f3)) rfl rfl hd fun H1 e1 hz1 e3 => ?_
  rw [hsl] at e1 ⊢
  have hap := va_apart (own := M.1.cls) hts hin (am_ft ci) (am_ty_ok ci f2) (am_nm_ok ci f2) hF.1 (am_cl_at ci f2)
  have hP1 := hR.1.set (am_wl_D hR.2) he (e := .inr (ci, ((List.range (am_nf ci)).map (am_fv G (S k) (μ k))).set j (.ref (G.1.1 + r)))) ⟨_, am_cl_at ci f2, t_OB.to (V := updV (vp_V ((List.range (am_nf ci)).map (am_fv G (S k) (μ k)))) j (.ref (G.1.1 + r))) ⟨_, e1, q2, q3, t_set q4 hap f3 _⟩ (fun i _ => vp_updV_set (by simpa using f3) _ i)⟩ e3
  have hSk' : ((S k).1, (S k).2.1, fun i => if i = j then r + 1 else (S k).2.2 i).1 = ci := hSk
  rw [am_fv_setR hSk hi, am_wl_setS hk (am_e_obj hSk' f2).symm] at hP1
  have hS1 := hS.put (k := (G.2.1.2 ci j)) hz1 e3 ((am_wl_D (G := G) (S := S) (μ := μ) hR.2).2 k _ he)
  exact kk G p l e R s m args below meth c H1 _ cells slots nb ls X hc hs hnb hS1 ⟨hP1, hR.2⟩ (fun h => ⟨by rw [hz1]; exact (hz h).1, (hz h).2⟩) hL oL (am_oks_tl (am_oks_tl os)) om
theorem am_tys_at (G : am_G) : (am_tys G)[0]? = some (G.2.2 11, .int) ∧ (am_tys G)[1]? = some (G.2.2 12, .boolean) ∧ (am_tys G)[2]? = some (G.2.2 13, .object RX4) ∧ (am_tys G)[3]? = some (G.2.2 14, .array .int) := ⟨rfl, rfl, rfl, rfl⟩
theorem s_iald {al : Bool} {d bc bs : Nat} {M : am_T} {n : Nat} {S : Nat → am_C} {μ : am_M} {pc : Nat} {L st : List am_V} {Q : am_P} {k N : Nat} {i x : Int} (hd : decode M.2.1 pc = .ok (.iaload, 1)) (hk : k < n) (hSk : (S k).1 = 11) (hN : (S k).2.1 = N) (h0 : 0 ≤ i) (h1 : i < N) (hxx : μ k i.toNat = x) (kk : am_Ag al d bc bs M n S μ (pc + 1) L (vI x :: st) Q) : am_Ag al d bc bs M n S μ pc L (vI i :: vR k :: st) Q := by
  intro G p l e R s m args below meth c H locs cells slots nb ls X hc hs hnb hS hR hz hL oL os om
  obtain ⟨hx, hb, hml, hown, hts, hret, hlk, hnm, hfr, hlo, hF⟩ := id X
  subst hxx
  have he := am_wl_at (G := G) (S := S) (μ := μ) hk
  rw [am_e_arr hSk (Or.inl rfl), hN] at he
  refine va_iald hx hb hF.1 hR.1 k 0 he (am_tys_at G).1 (am_vp (am_oks_hd os) h0 h1) hd ?_
  have hh := kk G p l e R s m args below meth c H locs cells slots nb ls X hc hs hnb hS hR hz hL oL (am_oks_cons (om k i.toNat) (am_oks_tl (am_oks_tl os))) om
  rw [am_cl (am_oks_hd os)]
  exact hh
theorem s_bald {al : Bool} {d bc bs : Nat} {M : am_T} {n : Nat} {S : Nat → am_C} {μ : am_M} {pc : Nat} {L st : List am_V} {Q : am_P} {k N : Nat} {i x : Int} (hd : decode M.2.1 pc = .ok (.baload, 1)) (hk : k < n) (hSk : (S k).1 = 12) (hN : (S k).2.1 = N) (h0 : 0 ≤ i) (h1 : i < N) (hxx : μ k i.toNat = x) (kk : am_Ag al d bc bs M n S μ (pc + 1) L (vI x :: st) Q) : am_Ag al d bc bs M n S μ pc L (vI i :: vR k :: st) Q := by
  intro G p l e R s m args below meth c H locs cells slots nb ls X hc hs hnb hS hR hz hL oL os om
  obtain ⟨hx, hb, hml, hown, hts, hret, hlk, hnm, hfr, hlo, hF⟩ := id X
  subst hxx
  have he := am_wl_at (G := G) (S := S) (μ := μ) hk
  rw [am_e_arr hSk (Or.inr rfl), hN] at he
  refine va_zald hx hb hF.1 hR.1 k 1 he (am_tys_at G).2.1 (am_vp (am_oks_hd os) h0 h1) hd ?_
  have hh := kk G p l e R s m args below meth c H locs cells slots nb ls X hc hs hnb hS hR hz hL oL (am_oks_cons (om k i.toNat) (am_oks_tl (am_oks_tl os))) om
  rw [am_cl (am_oks_hd os)]
  exact hh
theorem s_iald_s {al : Bool} {d bc bs : Nat} {M : am_T} {n : Nat} {S : Nat → am_C} {μ : am_M} {pc : Nat} {L st : List am_V} {Q : am_P} {t : Nat} {i x : Int} (hd : decode M.2.1 pc = .ok (.iaload, 1)) (ht : t < 8) (h0 : 0 ≤ i) (h1 : i < (am_sv t).length) (hxx : (am_sv t).getD i.toNat 0 = x) (kk : am_Ag al d bc bs M n S μ (pc + 1) L (vI x :: st) Q) : am_Ag al d bc bs M n S μ pc L (vI i :: vS t :: st) Q := by
  intro G p l e R s m args below meth c H locs cells slots nb ls X hc hs hnb hS hR hz hL oL os om
  obtain ⟨hx, hb, hml, hown, hts, hret, hlk, hnm, hfr, hlo, hF⟩ := id X
  subst hxx
  have o1 : am_in i := am_oks_hd os
  refine va_ti hx hb (hF.2.2.1 t ht).2 hS (am_vp o1 h0 h1) (v := .int (Int32.ofInt ((am_sv t).getD i.toNat 0))) (by rw [am_cl o1]) hd ?_
  exact kk G p l e R s m args below meth c H locs cells slots nb ls X hc hs hnb hS hR hz hL oL (am_oks_cons (am_sv_in t i.toNat) (am_oks_tl (am_oks_tl os))) om
theorem s_gets {al : Bool} {d bc bs : Nat} {M : am_T} {n : Nat} {S : Nat → am_C} {μ : am_M} {pc : Nat} {L st : List am_V} {Q : am_P} {t idx : Nat} (hd : decode M.2.1 pc = .ok (.getstatic idx, 3)) (ht : t < 8) (hw : Cond.fieldLinkNest M.1.cls idx RX9 (am_sn t) "[I" RX9 ∈ lw_tbl) (kk : am_Ag al d bc bs M n S μ (pc + 3) L (vS t :: st) Q) : am_Ag al d bc bs M n S μ pc L st Q := by
  intro G p l e R s m args below meth c H locs cells slots nb ls X hc hs hnb hS hR hz hL oL os om
  obtain ⟨hx, hb, hml, hown, hts, hret, hlk, hnm, hfr, hlo, hF⟩ := id X
  exact va_getsN hx hb (hF.2.2.1 t ht).1 hS hown (va_Nw.use rfl (hF.2.1 _ hw rfl)) (fun x h => h) hd (kk G p l e R s m args below meth c H locs cells slots nb ls X hc hs hnb hS hR hz hL oL (am_oks_cons trivial os) om)
theorem s_iast {al : Bool} {d bc bs : Nat} {M : am_T} {n : Nat} {S : Nat → am_C} {μ : am_M} {pc : Nat} {L st : List am_V} {Q : am_P} {k N : Nat} {i x : Int} {μ' : am_M} (hd : decode M.2.1 pc = .ok (.iastore, 1)) (hk : k < n) (hSk : (S k).1 = 11) (hN : (S k).2.1 = N) (h0 : 0 ≤ i) (h1 : i < N) (hμ : am_st μ k (am_up (μ k) i.toNat x) = μ') (kk : am_Ag al d bc bs M n S μ' (pc + 1) L st Q) : am_Ag al d bc bs M n S μ pc L (vI x :: vI i :: vR k :: st) Q := by
  intro G p l e R s m args below meth c H locs cells slots nb ls X hc hs hnb hS hR hz hL oL os om
  obtain ⟨hx, hb, hml, hown, hts, hret, hlk, hnm, hfr, hlo, hF⟩ := id X
  subst hμ
  have o1 : am_in x := am_oks_hd os
  have o2 : am_in i := am_oks_hd (am_oks_tl os)
  have he := am_wl_at (G := G) (S := S) (μ := μ) hk
  rw [am_e_arr hSk (Or.inl rfl), hN] at he
  have hvp : vp_in (Int32.ofInt i) N := am_vp o2 h0 h1
  refine W.iast hx hb (hR.1 k _ he) ((hF.1.2 0 _ (am_tys_at G).1).1 N (fun j => .int (Int32.ofInt (μ k j)))) (fun q => by cases q) (by show ¬ (_ ∨ (arrV _ _ _).slots.size ≤ _); rw [arrV_size]; exact hvp) rfl rfl hd fun H1 ee hz1 oq => ?_
  have hD := am_wl_D (G := G) (S := S) (μ := μ) hR.2
  have hP1 := hR.1.set hD he (e := am_e G (S k) (am_up (μ k) i.toNat x)) (by
    rw [am_e_arr hSk (Or.inl rfl), hN]
    show H1[_]? = some (vp_cell _ _)
    rw [ee, vp_cell_i, vp_cell_i, arrV_store]
    congr 2
    funext q
    rw [am_cl o2]
    by_cases hq : q = i.toNat
    · subst hq
      simp [updV, am_up]
    · simp [updV, am_up, hq]) oq
  rw [am_wl_set hk rfl] at hP1
  have hS1 := hS.put (k := (Int32.ofInt i).toNatClampNeg) hz1 oq (hD.2 k _ he)
  exact kk G p l e R s m args below meth c H1 _ cells slots nb ls X hc hs hnb hS1 ⟨hP1, hR.2⟩ (fun h => ⟨by rw [hz1]; exact (hz h).1, (hz h).2⟩) hL oL (am_oks_tl (am_oks_tl (am_oks_tl os))) (am_okm_st om (am_ok_up (om k) o1))
theorem s_bast {d bc bs : Nat} {M : am_T} {n : Nat} {S : Nat → am_C} {μ : am_M} {pc : Nat} {L st : List am_V} {Q : am_P} {k N : Nat} {i x : Int} {μ' : am_M} (hd : decode M.2.1 pc = .ok (.bastore, 1)) (hk : k < n) (hSk : (S k).1 = 12) (hN : (S k).2.1 = N) (h0 : 0 ≤ i) (h1 : i < N) (hb01 : x = 0 ∨ x = 1) (hμ : am_st μ k (am_up (μ k) i.toNat x) = μ') (kk : am_Ag false d bc bs M n S μ' (pc + 1) L st Q) : am_Ag false d bc bs M n S μ pc L (vI x :: vI i :: vR k :: st) Q := by
  intro G p l e R s m args below meth c H locs cells slots nb ls X hc hs hnb hS hR hz hL oL os om
  obtain ⟨hx, hb, hml, hown, hts, hret, hlk, hnm, hfr, hlo, hF⟩ := id X
  subst hμ
  have o1 : am_in x := am_oks_hd os
  have o2 : am_in i := am_oks_hd (am_oks_tl os)
  have he := am_wl_at (G := G) (S := S) (μ := μ) hk
  rw [am_e_arr hSk (Or.inr rfl), hN] at he
  refine va_zast hx hb hF.1 hR.1 (am_wl_D hR.2) hS k 1 he (am_tys_at G).2.1 (am_vp o2 h0 h1) hd (fun H1 locs1 hP1 hD1 hS1 => ?_)
  have e2 : (Sum.inl (G.2.2 12, (N, .inl (upd (fun j => Int32.ofInt (μ k j)) (Int32.ofInt i).toNatClampNeg (vp_nar .boolean (Int32.ofInt x))))) : va_E) = am_e G (S k) (am_up (μ k) i.toNat x) := by
    rw [am_e_arr hSk (Or.inr rfl), hN, am_cl o2]
    congr 4
    funext q
    have hn : vp_nar .boolean (Int32.ofInt x) = Int32.ofInt x := by
      rcases hb01 with rfl | rfl <;> decide
    by_cases hq : q = i.toNat
    · subst hq
      simp [upd, am_up, hn]
    · simp [upd, am_up, hq]
  rw [am_wl_set hk e2] at hP1
  exact kk G p l e R s m args below meth c H1 locs1 cells slots nb ls X hc hs hnb hS1 ⟨hP1, hR.2⟩ (fun h => by cases h) hL oL (am_oks_tl (am_oks_tl (am_oks_tl os))) (am_okm_st om (am_ok_up (om k) o1))
theorem s_aald {al : Bool} {d bc bs : Nat} {M : am_T} {n : Nat} {S : Nat → am_C} {μ : am_M} {pc : Nat} {L st : List am_V} {Q : am_P} {k N r ci : Nat} {i : Int} (hd : decode M.2.1 pc = .ok (.aaload, 1)) (hk : k < n) (hSk : (S k).1 = ci) (hci : ci = 13 ∨ ci = 14) (hN : (S k).2.1 = N) (h0 : 0 ≤ i) (h1 : i < N) (hr : (S k).2.2 i.toNat = r + 1) (kk : am_Ag al d bc bs M n S μ (pc + 1) L (vR r :: st) Q) : am_Ag al d bc bs M n S μ pc L (vI i :: vR k :: st) Q := by
  intro G p l e R s m args below meth c H locs cells slots nb ls X hc hs hnb hS hR hz hL oL os om
  obtain ⟨hx, hb, hml, hown, hts, hret, hlk, hnm, hfr, hlo, hF⟩ := id X
  have o2 : am_in i := am_oks_hd os
  have he := am_wl_at (G := G) (S := S) (μ := μ) hk
  rw [am_e_refs hSk hci, hN] at he
  have hvp : vp_in (Int32.ofInt i) N := am_vp o2 h0 h1
  have hlt : (Int32.ofInt i).toNatClampNeg < N := by rw [am_cl o2]; omega
  have hty : ∃ (t0 : Nat) (ty : FieldType), (am_tys G)[t0]? = some (G.2.2 ci, ty) ∧ ty.isReference = true := by
    rcases hci with rfl | rfl
    · exact ⟨2, _, rfl, rfl⟩
    · exact ⟨3, _, rfl, rfl⟩
  obtain ⟨t0, ty, ht0, hrefty⟩ := hty
  refine W.aald (v := .ref (G.1.1 + r)) (ty := ty) hx hb (hR.1 k _ he) ((hF.1.2 t0 _ ht0).1 N (fun j => va_rf (am_rf G ((S k).2.2 j)))) hrefty (fun q => by cases q) (by show ¬ (_ ∨ (arrV _ _ _).slots.size ≤ _); rw [arrV_size]; exact hvp) (by show (arrV _ _ _).slots[_]? = _; rw [arrV_read _ _ hlt, am_cl o2]; exact congrArg (fun z => some (va_rf (am_rf G z))) hr) rfl rfl hd ?_
  exact kk G p l e R s m args below meth c H locs cells slots nb ls X hc hs hnb hS hR hz hL oL (am_oks_cons trivial (am_oks_tl (am_oks_tl os))) om
/-- the end of a method -/
theorem s_ireturn {al : Bool} {d bc bs : Nat} {M : am_T} {n : Nat} {S : Nat → am_C} {μ : am_M} {pc : Nat} {L : List am_V} {Q : am_P} {x : Int} (hd : decode M.2.1 pc = .ok (.ireturn, 1)) (hr : M.2.2.2 = some .int ∨ (M.2.2.2 = some .boolean ∧ (x = 0 ∨ x = 1))) (hQ : Q (some (vI x)) n S μ) : am_Ag al d bc bs M n S μ pc L [vI x] Q := by
  intro G p l e R s m args below meth c H locs cells slots nb ls X hc hs hnb hS hR hz hL oL os om
  obtain ⟨hx, hb, hml, hown, hts, hret, hlk, hnm, hfr, hlo, hF⟩ := id X
  have hnar : ∃ ty, M.2.2.2 = some ty ∧ narrow ty (.int (Int32.ofInt x)) = .int (Int32.ofInt x) := by
    rcases hr with h | ⟨h, rfl | rfl⟩
    · exact ⟨_, h, rfl⟩
    · exact ⟨_, h, by decide⟩
    · exact ⟨_, h, by decide⟩
  obtain ⟨ty, hty, hn⟩ := hnar
  refine W.widen (k := R.cells) (n := R.slots) (by omega) (by omega) ?_
  exact W.zret hx hb (hret.trans hty) hn (fun t ht hW => ⟨⟨some (vI x), n, S, μ, rfl, hQ, ⟨by rw [ht]; exact hR.1, hR.2⟩, (fun v h => by cases h; exact am_oks_hd os), om, by omega, fun h => by rw [ht]; exact (hz h).1⟩, hS.F ht⟩) (fun q hq => hS.2.2 q hq) hd hlk
theorem s_return {al : Bool} {d bc bs : Nat} {M : am_T} {n : Nat} {S : Nat → am_C} {μ : am_M} {pc : Nat} {L : List am_V} {Q : am_P} (hd : decode M.2.1 pc = .ok (.return_, 1)) (hr : M.2.2.2 = none) (hQ : Q none n S μ) : am_Ag al d bc bs M n S μ pc L [] Q := by
  intro G p l e R s m args below meth c H locs cells slots nb ls X hc hs hnb hS hR hz hL oL os om
  obtain ⟨hx, hb, hml, hown, hts, hret, hlk, hnm, hfr, hlo, hF⟩ := id X
  refine W.widen (k := R.cells) (n := R.slots) (by omega) (by omega) ?_
  exact W.vret hx hb (hret.trans hr) (fun t ht hW => ⟨⟨none, n, S, μ, rfl, hQ, ⟨by rw [ht]; exact hR.1, hR.2⟩, (fun v h => by cases h), om, by omega, fun h => by rw [ht]; exact (hz h).1⟩, hS.F ht⟩) (fun q hq => hS.2.2 q hq) hd hlk
theorem s_areturn {al : Bool} {d bc bs : Nat} {M : am_T} {n : Nat} {S : Nat → am_C} {μ : am_M} {pc : Nat} {L : List am_V} {Q : am_P} {k : Nat} (hd : decode M.2.1 pc = .ok (.areturn, 1)) (hr : ∃ nm, M.2.2.2 = some (.object nm)) (hQ : Q (some (vR k)) n S μ) : am_Ag al d bc bs M n S μ pc L [vR k] Q := by
  intro G p l e R s m args below meth c H locs cells slots nb ls X hc hs hnb hS hR hz hL oL os om
  obtain ⟨hx, hb, hml, hown, hts, hret, hlk, hnm, hfr, hlo, hF⟩ := id X
  obtain ⟨nm, hr⟩ := hr
  refine W.widen (k := R.cells) (n := R.slots) (by omega) (by omega) ?_
  exact W.aret hx hb (hret.trans hr) (Or.inl ⟨nm, rfl⟩) (Or.inr ⟨_, rfl⟩) (fun t ht hW => ⟨⟨some (vR k), n, S, μ, rfl, hQ, ⟨by rw [ht]; exact hR.1, hR.2⟩, (fun v h => by cases h; exact trivial), om, by omega, fun h => by rw [ht]; exact (hz h).1⟩, hS.F ht⟩) (fun q hq => hS.2.2 q hq) hd hlk
/-- Math.max, Math.min -/
theorem s_max {al : Bool} {d bc bs : Nat} {M : am_T} {n : Nat} {S : Nat → am_C} {μ : am_M} {pc : Nat} {L st : List am_V} {Q : am_P} {idx : Nat} {x y z : Int} (hd : decode M.2.1 pc = .ok (.invokestatic idx, 3)) (hw : Cond.methodLink M.1.cls idx Lib.Math.max.name ∈ am_gd) (hst : st.length ≤ 8) (hdd : 1 ≤ d) (hzz : (if x < y then y else x) = z) (k : am_Ag al d bc bs M n S μ (pc + 3) L (vI z :: st) Q) : am_Ag al d bc bs M n S μ pc L (vI y :: vI x :: st) Q := by
  intro G p l e R s m args below meth c H locs cells slots nb ls X hc hs hnb hS hR hz hL oL os om
  obtain ⟨hx, hb, hml, hown, hts, hret, hlk, hnm, hfr, hlo, hF⟩ := id X
  subst hzz
  have o1 : am_in y := am_oks_hd os
  have o2 : am_in x := am_oks_hd (am_oks_tl os)
  refine va_mmax hx hb (by rw [hml]; exact hL.1.symm) hown (hts _ (am_gd_ws hw)) (hts _ (am_gd_ws am_wmax.1)) (hts _ (am_gd_ws am_wmax.2.1)) (hts _ (am_gd_ws am_wmax.2.2)) (by omega) (by rw [am_cats]; omega) (by omega) (by omega) hd ?_
  have hh := k G p l e R s m args below meth c H locs cells slots nb ls X hc hs hnb hS hR hz hL oL (am_oks_cons (v := vI (if x < y then y else x)) (by show am_in _; split <;> assumption) (am_oks_tl (am_oks_tl os))) om
  have e : am_cv G (vI (if x < y then y else x)) = .int (if Int32.ofInt x < Int32.ofInt y then Int32.ofInt y else Int32.ofInt x) := by
    show Value.int _ = _
    by_cases h : x < y
    · rw [if_pos h, if_pos ((am_ltI o2 o1).mpr h)]
    · rw [if_neg h, if_neg (fun q => h ((am_ltI o2 o1).mp q))]
  rw [List.map_cons, e] at hh
  exact hh
theorem s_min {al : Bool} {d bc bs : Nat} {M : am_T} {n : Nat} {S : Nat → am_C} {μ : am_M} {pc : Nat} {L st : List am_V} {Q : am_P} {idx : Nat} {x y z : Int} (hd : decode M.2.1 pc = .ok (.invokestatic idx, 3)) (hw : Cond.methodLink M.1.cls idx Lib.Math.min.name ∈ am_gd) (hst : st.length ≤ 8) (hdd : 1 ≤ d) (hzz : (if y < x then y else x) = z) (k : am_Ag al d bc bs M n S μ (pc + 3) L (vI z :: st) Q) : am_Ag al d bc bs M n S μ pc L (vI y :: vI x :: st) Q := by
  intro G p l e R s m args below meth c H locs cells slots nb ls X hc hs hnb hS hR hz hL oL os om
  obtain ⟨hx, hb, hml, hown, hts, hret, hlk, hnm, hfr, hlo, hF⟩ := id X
  subst hzz
  have o1 : am_in y := am_oks_hd os
  have o2 : am_in x := am_oks_hd (am_oks_tl os)
  refine va_mmin hx hb (by rw [hml]; exact hL.1.symm) hown (hts _ (am_gd_ws hw)) (hts _ (am_gd_ws am_wmin.1)) (hts _ (am_gd_ws am_wmax.2.1)) (hts _ (am_gd_ws am_wmin.2)) (by omega) (by rw [am_cats]; omega) (by omega) (by omega) hd ?_
  have hh := k G p l e R s m args below meth c H locs cells slots nb ls X hc hs hnb hS hR hz hL oL (am_oks_cons (v := vI (if y < x then y else x)) (by show am_in _; split <;> assumption) (am_oks_tl (am_oks_tl os))) om
  have e : am_cv G (vI (if y < x then y else x)) = .int (if Int32.ofInt y < Int32.ofInt x then Int32.ofInt y else Int32.ofInt x) := by
    show Value.int _ = _
    by_cases h : y < x
    · rw [if_pos h, if_pos ((am_ltI o1 o2).mpr h)]
    · rw [if_neg h, if_neg (fun q => h ((am_ltI o1 o2).mp q))]
  rw [List.map_cons, e] at hh
  exact hh
def am_cp (f g : Nat → Int) (sp dp len : Int) : Nat → Int := fun j => if dp ≤ j ∧ (j : Int) < dp + len then f (sp + (j - dp)).toNat else g j
theorem s_acopy {d bc bs : Nat} {M : am_T} {n : Nat} {S : Nat → am_C} {μ : am_M} {pc : Nat} {L st : List am_V} {Q : am_P} {idx k0 k1 N0 N1 : Nat} {sp dp len : Int} {μ' : am_M} (hd : decode M.2.1 pc = .ok (.invokestatic idx, 3)) (hw : Cond.methodLink M.1.cls idx arraycopyName ∈ am_gd) (hk0 : k0 < n) (hS0 : (S k0).1 = 11) (hN0 : (S k0).2.1 = N0) (hk1 : k1 < n) (hS1 : (S k1).1 = 11) (hN1 : (S k1).2.1 = N1) (hst : st.length ≤ 1) (hdd : 1 ≤ d) (h1 : 0 ≤ sp) (h2 : 0 ≤ dp) (h3 : 0 ≤ len) (h4 : sp + len ≤ N0) (h5 : dp + len ≤ N1) (hμ : am_st μ k1 (am_cp (μ k0) (μ k1) sp dp len) = μ') (k : am_Ag false d bc bs M n S μ' (pc + 3) L st Q) : am_Ag false d bc bs M n S μ pc L (vI len :: vI dp :: vR k1 :: vI sp :: vR k0 :: st) Q := by
  intro G p l e R s m args below meth c H locs cells slots nb ls X hc hs hnb hS hR hz hL oL os om
  obtain ⟨hx, hb, hml, hown, hts, hret, hlk, hnm, hfr, hlo, hF⟩ := id X
  subst hμ
  have o1 : am_in len := am_oks_hd os
  have o2 : am_in dp := am_oks_hd (am_oks_tl os)
  have o3 : am_in sp := am_oks_hd (am_oks_tl (am_oks_tl (am_oks_tl os)))
  have he0 := am_wl_at (G := G) (S := S) (μ := μ) hk0
  rw [am_e_arr hS0 (Or.inl rfl), hN0] at he0
  have he1 := am_wl_at (G := G) (S := S) (μ := μ) hk1
  rw [am_e_arr hS1 (Or.inl rfl), hN1] at he1
  have nl : ∀ z : Int, am_in z → 0 ≤ z → ¬ Int32.ofInt z < 0 := fun z hz h0 h => by
    have := (am_ltI hz am_in0).mp h
    omega
  refine va_copyi hx hb (by rw [hml]; exact hL.1.symm) hown (hts _ (am_gd_ws hw)) (hts _ (am_gd_ws am_wcopy.1)) (hts _ (am_gd_ws am_wcopy.2.1)) (hts _ (am_gd_ws am_wcopy.2.2)) hF.1 hR.1 (am_wl_D hR.2) hS k0 k1 0 0 he0 he1 (am_tys_at G).1 (am_tys_at G).1 rfl (nl sp o3 h1) (nl dp o2 h2) (nl len o1 h3) (by rw [am_cl o3, am_cl o1]; omega) (by rw [am_cl o2, am_cl o1]; omega) (fun _ _ => rfl) (by omega) (by rw [am_cats]; have := am_nfw; omega) hd (fun H1 locs1 hP1 hD1 hS1' => ?_)
  have e2 : (Sum.inl (G.2.2 11, (N1, .inl (va_cpy (fun j => Int32.ofInt (μ k0 j)) (fun j => Int32.ofInt (μ k1 j)) (Int32.ofInt sp).toNatClampNeg (Int32.ofInt dp).toNatClampNeg (Int32.ofInt len).toNatClampNeg))) : va_E) = am_e G (S k1) (am_cp (μ k0) (μ k1) sp dp len) := by
    rw [am_e_arr hS1 (Or.inl rfl), hN1, am_cl o1, am_cl o2, am_cl o3]
    congr 4
    funext j
    unfold va_cpy am_cp
    by_cases h : dp ≤ j ∧ (j : Int) < dp + len
    · rw [if_pos (by omega), if_pos h]
      congr 2
      omega
    · rw [if_neg (by omega), if_neg h]
  rw [am_wl_set hk1 e2] at hP1
  refine k G p l e R s m args below meth c H1 locs1 cells slots nb ls X hc hs hnb hS1' ⟨hP1, hR.2⟩ (fun h => by cases h) hL oL (am_oks_tl (am_oks_tl (am_oks_tl (am_oks_tl (am_oks_tl os))))) (am_okm_st om (fun j => ?_))
  unfold am_cp
  split
  · exact om _ _
  · exact om _ _

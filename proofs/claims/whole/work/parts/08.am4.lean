/-! calls -/
def am_lM (M' : am_T) (nA : Nat) : Prop := Cond.initialized M'.1.cls ∈ am_gd ∧ Cond.code M'.1 M'.2.1 M'.2.2.1 M'.2.2.2 ∈ am_gd ∧ (M'.1.cls ≠ "java/lang/invoke/MethodHandle" ∧ M'.1.cls ≠ "java/lang/invoke/VarHandle" ∧ (parseMethodDescriptor M'.1.desc).map (fun d => d.parameters.length) = some nA) ∧ M'.2.2.1 ≤ 16
def am_rm (d bc bs : Nat) : Room := { frames := d, cells := bc, slots := bs, locals := 35 * d }
def am_Pc (G : am_G) (al : Bool) (bc n : Nat) (S : Nat → am_C) (μ : am_M) (As : List am_V) : Array Value → State → Prop := va_Pc (As.map (am_cv G)) (fun U => am_F G U ∧ am_Rep G n S μ U.heap ∧ (al = true → U.heap.size = G.1.1 + n ∧ n + bc ≤ G.1.2.1))
/-- the method, called with these values in this world, comes to its end with Q -/
def am_Cg (al : Bool) (d bc bs : Nat) (M : am_T) (n : Nat) (S : Nat → am_C) (μ : am_M) (As : List am_V) (Q : am_P) : Prop :=
  am_oks As → am_okm μ → ∀ (l : Launch) (G : am_G), Met l M.1 (am_ws M) (am_rm d bc bs) (am_Pc G al bc n S μ As) (am_Q G al (n + bc) Q) bc bs (am_A G)
theorem am_F_to {G : am_G} {u U : State} (hvm : u.vm.Alike U.vm) (hn : ∀ w, am_nst w = true → va_Nw w u → va_Nw w U) (hk : ∀ a : Nat, a < u.heap.size → ¬ am_A G a → U.heap[a]? = u.heap[a]?) (h : am_F G u) : am_F G U := by
  obtain ⟨h1, h2, h3, h4, h5⟩ := h
  exact ⟨h1.moved hvm, fun w hw hn' => hn w hn' (h2 w hw hn'), fun i hi => ⟨((h3 i hi).1.moved hvm).kept hk, ((h3 i hi).2.moved hvm).kept hk⟩, h4.moved hvm, h5.moved hvm⟩
theorem am_F_warm {G : am_G} {u U : State} (hW : u.WarmedH U.vm) (hk : ∀ a : Nat, a < u.heap.size → ¬ am_A G a → U.heap[a]? = u.heap[a]?) (h : am_F G u) : am_F G U := by
  refine am_F_to hW.alike (fun w hw hz => ?_) hk h
  cases w <;> first | (exact va_Nw.warmF hW hz) | (exact va_Nw.warmM hW hz) | (cases hw; done)
theorem am_F_vm {G : am_G} {u U : State} (hvm : u.vm = U.vm) (hh : U.heap = u.heap) (h : am_F G u) : am_F G U := by
  refine am_F_to (by rw [hvm]; exact Vm.Alike.refl U.vm) (fun w hw hz => ?_) (fun a _ _ => by rw [hh]) h
  cases w <;> first | (exact va_Nw.same rfl hvm hz) | (cases hw; done)
theorem am_Pc_blind {G : am_G} {al : Bool} {bc n : Nat} {S : Nat → am_C} {μ : am_M} {As : List am_V} : FrameBlind (am_Pc G al bc n S μ As) := by
  intro a U g mk h
  exact ⟨h.1, am_F_vm (u := U) (U := U.calling g mk a) rfl rfl h.2.1, h.2.2.1, h.2.2.2⟩
theorem am_args_in (vs : List Value) : ∀ (a i : Nat) (v : Value), vs[i]? = some v → (∀ w ∈ vs, w.category = 1) → (a + i, v) ∈ lv_args a vs := by
  induction vs with
  | nil => intro a i v h; simp at h
  | cons x xs ih =>
    intro a i v h hc
    have hx : ¬ x.category = 2 := by have := hc x List.mem_cons_self; omega
    show _ ∈ (a, x) :: lv_args (if x.category = 2 then a + 2 else a + 1) xs
    rw [if_neg hx]
    cases i with
    | zero =>
      have e : x = v := by simpa using h
      subst e
      exact List.mem_cons_self
    | succ i =>
      have := ih (a + 1) i v (by simpa using h) (fun w hw => hc w (List.mem_cons_of_mem _ hw))
      rw [show a + (i + 1) = a + 1 + i by omega]
      exact List.mem_cons_of_mem _ this
theorem am_sl_len (G : am_G) (As : List am_V) : (lg_sl (As.map (am_cv G))).length = As.length := by
  unfold lg_sl
  induction As with
  | nil => rfl
  | cons a l ih =>
    rw [List.map_cons, List.flatMap_cons, List.length_append, ih, if_neg (by have := am_cat G a; omega), List.length_cons]
    simp
    omega
/-- a method's contract out of a walk of its text -/
theorem am_intro {al : Bool} {d bc bs : Nat} {M : am_T} {n : Nat} {S : Nat → am_C} {μ : am_M} {As L : List am_V} {Q : am_P} (hp : plainName M.1.cls = true) (hn : As.length ≤ M.2.2.1) (hLe : As ++ List.replicate (M.2.2.1 - As.length) vU = L) (h : am_Ag al d bc bs M n S μ 0 L [] Q) : am_Cg al d bc bs M n S μ As Q := by
  intro oA om l G
  refine Met.ofW (cc := M.2.1) (maxL := M.2.2.1) (ret := M.2.2.2) hp rfl ?_
  intro p e s m args below meth c s₁ B hml hv
  obtain ⟨rfl, hF, hR, hz⟩ := hv
  have hX : am_X d M G p (am_rm d bc bs) s m (As.map (am_cv G)).toArray meth c := ⟨B.exec, B.bytes, hml, findClass_of_methodNamed B.named, atoms_spec (ws := am_ws M) B.pre, B.returns, B.notSynchronized, (name_of_methodNamed B.named B.method).1, Nat.le_refl _, Nat.le_refl _, hF⟩
  have hl := lv_entry (As.map (am_cv G)) (n := M.2.2.1) (by rw [am_sl_len]; exact hn)
  rw [lg_entry_eq]
  generalize (lg_sl (As.map (am_cv G)) ++ List.replicate (M.2.2.1 - (lg_sl (As.map (am_cv G))).length) Slot.unset).toArray = ls at hl ⊢
  have hL : am_L G M.2.2.1 ls L := by
    refine ⟨hl.1, hl.2.1, by rw [← hLe]; simp; omega, fun i v hi hv => ?_⟩
    rw [← hLe] at hi
    by_cases hlt : i < As.length
    · rw [List.getElem?_append_left hlt] at hi
      have h1 := am_args_in (As.map (am_cv G)) 0 i (am_cv G v) (by rw [List.getElem?_map, hi]; rfl) (fun w hw => by
        obtain ⟨x, -, rfl⟩ := List.mem_map.mp hw
        exact am_cat G x)
      have h2 := hl.2.2 _ h1
      simpa using h2
    · rw [List.getElem?_append_right (by omega)] at hi
      exact absurd (List.eq_of_mem_replicate (List.mem_of_getElem? hi)) hv
  have oL : am_oks L := by
    intro v hv
    rw [← hLe] at hv
    rcases List.mem_append.mp hv with h1 | h1
    · exact oA v h1
    · rw [List.eq_of_mem_replicate h1]; exact trivial
  exact h G p l e (am_rm d bc bs) s m _ below meth c s.heap [] 0 0 (n + bc) ls hX (by show 0 + bc ≤ bc; omega) (by show 0 + bs ≤ bs; omega) (Nat.le_refl _) va_S.rf hR hz hL oL (fun v hv => by cases hv) om
section AMC
variable {p : Program} {l : Launch} {e : Env} {R : Room} {s : State} {m : MethodId} {args : Array Value} {below : List Frame} {meth : Method} {c : Code} {H : Heap} {locs : List Loc} {cells slots : Nat} {Z : State → Prop}
theorem am_go {G : am_G} {al : Bool} {mc ms nb pc : Nat} {ls : Array Slot} {st0 : List Value} {rest : List am_V} {P : am_P} {a : Array Value} (hr : va_Run p l e R s m args below meth c H locs cells slots mc ms (F0 m pc ls st0) (rest.map (am_cv G)) (am_Q G al nb P a) (am_A G)) (hS : va_S (am_A G) s.heap H locs)
    (kk : ∀ (r : Option am_V) (n' : Nat) (S' : Nat → am_C) (μ' : am_M) (H1 : Heap) (locs1 : List Loc), P r n' S' μ' → am_Rep G n' S' μ' H1 → (∀ v, r = some v → am_ok v) → am_okm μ' → n' ≤ nb → (al = true → H1.size = G.1.1 + n') → va_S (am_A G) s.heap H1 locs1 → W p l e R s m args below meth c H1 locs1 (cells + mc) (slots + ms) Z (F0 m (pc + 3) ls ((r.toList ++ rest).map (am_cv G)))) : W p l e R s m args below meth c H locs cells slots Z (F0 m pc ls st0) := by
  intro T hT X
  obtain ⟨v, st₀, t, T', L, h0, X', hL, e1, e2, ⟨⟨r, n', S', μ', hv, hp, hR', hok, hom, hnn, hsz⟩, hz, hk⟩, st⟩ := hr T hT X
  cases hv
  rw [h0] at hz hk
  obtain ⟨t2, a1, b1⟩ := kk r n' S' μ' T'.heap (locs ++ L) hp (by rw [e1]; exact hR') hok hom hnn (by rw [e1]; exact hsz)
    ⟨Nat.le_trans hS.1 (by rw [e1]; exact hz), fun q h1 h2 => by rw [e1, hk q (Nat.lt_of_lt_of_le h1 hS.1) h2]; exact hS.2.1 q h1 h2, fun q hq => by
      rcases List.mem_append.mp hq with h | h
      · exact hS.2.2 q h
      · exact hL q h⟩ T' rfl X'
  have e3 : (r.toList ++ rest).map (am_cv G) = (r.map (am_cv G)).toList ++ rest.map (am_cv G) := by cases r <;> rfl
  rw [e3] at a1
  exact ⟨t2, st t2 a1, b1⟩
end AMC
theorem am_pre {G : am_G} {al : Bool} {bc n nb : Nat} {S : Nat → am_C} {μ : am_M} {As : List am_V} {s : State} {H : Heap} {locs : List Loc} {bcc : Nat} (hF : am_F G s) (hS : va_S (am_A G) s.heap H locs) (hR : am_Rep G n S μ H) (hnb : n + bcc ≤ nb) (hb : bc ≤ bcc) (hz : al = true → H.size = G.1.1 + n ∧ nb ≤ G.1.2.1) : ∀ U : State, U.heap = H → s.WarmedH U.vm → am_Pc G al bc n S μ As (As.map (am_cv G)).toArray U := fun U hU hW =>
  ⟨rfl, am_F_warm hW (fun a h1 h2 => by rw [hU]; exact hS.2.1 a h1 h2) hF, by rw [hU]; exact hR, fun h => ⟨by rw [hU]; exact (hz h).1, by have := (hz h).2; omega⟩⟩

theorem s_callV {al : Bool} {d bc bs : Nat} {M : am_T} {n : Nat} {S : Nat → am_C} {μ : am_M} {pc : Nat} {L stk : List am_V} {Q : am_P} {As rest : List am_V} {M' : am_T} {idx nA d' bc' bs' : Nat} {P : am_P} {k : Nat} (hd : decode M.2.1 pc = .ok (.invokevirtual idx, 3)) (hl : Cond.methodLink M.1.cls idx M'.1 ∈ am_gd ∧ Cond.instanceMethod M'.1 ∈ am_gd ∧ Cond.selects M'.1.cls M'.1 M'.1 ∈ am_gd) (hk : k < n) (hSk : am_rn (S k).1 = M'.1.cls ∧ (S k).1 < 11) (hlm : am_lM M' nA) (hst : stk = As.reverse ++ vR k :: rest) (hn : As.length = nA) (hr : rest.length ≤ 8) (hdd : d' + 1 ≤ d) (hbc : bc' ≤ bc) (hbs : bs' ≤ bs) (hC : am_Cg al d' bc' bs' M' n S μ (vR k :: As) P) (kk : ∀ r n' S' μ', P r n' S' μ' → am_Ag al d (bc - bc') (bs - bs') M n' S' μ' (pc + 3) L (r.toList ++ rest) Q) : am_Ag al d bc bs M n S μ pc L stk Q := by
  intro G p l e R s m args below meth c H locs cells slots nb ls X hc hs hnb hS hR hz hL oL os om
  obtain ⟨hx, hb, hml, hown, hts, hret, hlk, hnm, hfr, hlo, hF⟩ := id X
  subst hst
  obtain ⟨w1, w2, w3, w4⟩ := hlm
  have oA : am_oks (vR k :: As) := fun v hv => os v (by simp at hv ⊢; rcases hv with h | h <;> simp [h])
  have oR : am_oks rest := fun v hv => os v (by simp [hv])
  have hcb : ∀ (ix : Nat), (Cond.methodLink M.1.cls ix M'.1).before args s = true → CallB R s args M.1.cls ix M'.1 M'.2.1 M'.2.2.1 M'.2.2.2 (am_ws M') (am_rm d' bc' bs') bc' bs' nA := fun ix hl => callB_of nA hts (am_good w2) rfl rfl rfl (hts _ (am_gd_ws w1)) hl w3 ⟨by show d' + 1 ≤ _; omega, by show 8 + (_ + 11) + 35 * d' ≤ _; omega⟩
  have hgn : ∀ (ix : Nat) (host : String), va_Nw (.methodLinkNest M.1.cls ix M'.1 host) s → va_CN R s args M.1.cls ix M'.1 host M'.2.1 M'.2.2.1 M'.2.2.2 (am_ws M') (am_rm d' bc' bs') bc' bs' nA := fun ix host hl => va_cnB nA hts (am_good w2) rfl rfl rfl hl (hts _ (am_gd_ws w1)) w3 ⟨by show d' + 1 ≤ _; omega, by show 8 + (_ + 11) + 35 * d' ≤ _; omega⟩
  have hrun := va_runV (C := M'.1.cls) (b := G.1.1 + k) (As := As.map (am_cv G)) (rest := rest.map (am_cv G)) (g := F0 m pc ls ((As.reverse ++ vR k :: rest).map (am_cv G))) (cells := cells) (slots := slots) (below := below) (locs := locs) (H := H) (meth := meth) (e := e) ⟨hx, hb, hml, hown, hts⟩ (hC oA om l G) ⟨hcb idx (hts _ (am_gd_ws hl.1)), hts _ (am_gd_ws hl.2.1), hts _ (am_gd_ws hl.2.2)⟩ ⟨am_Pc_blind, (by have he := am_wl_at (G := G) (S := S) (μ := μ) hk; rw [am_e_obj rfl hSk.2] at he; rw [← hSk.1]; exact va_recv hF.1 hR.1 (am_cl_at _ hSk.2) he), am_pre hF hS hR hnb hbc hz⟩ rfl (by rw [List.length_map]; exact hn) hL.1 (by simp [am_cv, List.map_reverse]) (by show 2 * 0 + _ ≤ _; rw [am_cats]; omega) hd ⟨by omega, by omega⟩
  refine am_go (G := G) hrun hS (fun r n' S' μ' H1 locs1 hP hR' hok hom hnn hsz hS1 => ?_)
  exact kk r n' S' μ' hP G p l e R s m args below meth c H1 locs1 (cells + bc') (slots + bs') nb ls X (by omega) (by omega) (by omega) hS1 hR' (fun h => ⟨hsz h, (hz h).2⟩) hL oL (fun v hv => by
    rcases List.mem_append.mp hv with h | h
    · exact hok v (by simpa using h)
    · exact oR v h) hom

theorem s_callS {al : Bool} {d bc bs : Nat} {M : am_T} {n : Nat} {S : Nat → am_C} {μ : am_M} {pc : Nat} {L stk : List am_V} {Q : am_P} {As rest : List am_V} {M' : am_T} {idx nA d' bc' bs' : Nat} {P : am_P} (hd : decode M.2.1 pc = .ok (.invokestatic idx, 3)) (hl : Cond.methodLink M.1.cls idx M'.1 ∈ am_gd ∧ Cond.static M'.1 ∈ am_gd) (hlm : am_lM M' nA) (hst : stk = As.reverse ++ rest) (hn : As.length = nA) (hr : rest.length ≤ 8) (hdd : d' + 1 ≤ d) (hbc : bc' ≤ bc) (hbs : bs' ≤ bs) (hC : am_Cg al d' bc' bs' M' n S μ (As) P) (kk : ∀ r n' S' μ', P r n' S' μ' → am_Ag al d (bc - bc') (bs - bs') M n' S' μ' (pc + 3) L (r.toList ++ rest) Q) : am_Ag al d bc bs M n S μ pc L stk Q := by
  intro G p l e R s m args below meth c H locs cells slots nb ls X hc hs hnb hS hR hz hL oL os om
  obtain ⟨hx, hb, hml, hown, hts, hret, hlk, hnm, hfr, hlo, hF⟩ := id X
  subst hst
  obtain ⟨w1, w2, w3, w4⟩ := hlm
  have oA : am_oks (As) := fun v hv => os v (by simp [hv])
  have oR : am_oks rest := fun v hv => os v (by simp [hv])
  have hcb : ∀ (ix : Nat), (Cond.methodLink M.1.cls ix M'.1).before args s = true → CallB R s args M.1.cls ix M'.1 M'.2.1 M'.2.2.1 M'.2.2.2 (am_ws M') (am_rm d' bc' bs') bc' bs' nA := fun ix hl => callB_of nA hts (am_good w2) rfl rfl rfl (hts _ (am_gd_ws w1)) hl w3 ⟨by show d' + 1 ≤ _; omega, by show 8 + (_ + 11) + 35 * d' ≤ _; omega⟩
  have hgn : ∀ (ix : Nat) (host : String), va_Nw (.methodLinkNest M.1.cls ix M'.1 host) s → va_CN R s args M.1.cls ix M'.1 host M'.2.1 M'.2.2.1 M'.2.2.2 (am_ws M') (am_rm d' bc' bs') bc' bs' nA := fun ix host hl => va_cnB nA hts (am_good w2) rfl rfl rfl hl (hts _ (am_gd_ws w1)) w3 ⟨by show d' + 1 ≤ _; omega, by show 8 + (_ + 11) + 35 * d' ≤ _; omega⟩
  have hrun := va_runS (As := As.map (am_cv G)) (rest := rest.map (am_cv G)) (g := F0 m pc ls ((As.reverse ++ rest).map (am_cv G))) (cells := cells) (slots := slots) (below := below) (locs := locs) (H := H) (meth := meth) (e := e) ⟨hx, hb, hml, hown, hts⟩ (hC oA om l G) ⟨hcb idx (hts _ (am_gd_ws hl.1)), hts _ (am_gd_ws hl.2)⟩ ⟨am_Pc_blind, am_pre hF hS hR hnb hbc hz⟩ rfl (by rw [List.length_map]; exact hn) hL.1 (by simp [List.map_reverse]) (by show 2 * 0 + _ ≤ _; rw [am_cats]; omega) hd ⟨by omega, by omega⟩
  refine am_go (G := G) hrun hS (fun r n' S' μ' H1 locs1 hP hR' hok hom hnn hsz hS1 => ?_)
  exact kk r n' S' μ' hP G p l e R s m args below meth c H1 locs1 (cells + bc') (slots + bs') nb ls X (by omega) (by omega) (by omega) hS1 hR' (fun h => ⟨hsz h, (hz h).2⟩) hL oL (fun v hv => by
    rcases List.mem_append.mp hv with h | h
    · exact hok v (by simpa using h)
    · exact oR v h) hom

theorem s_callSN {al : Bool} {d bc bs : Nat} {M : am_T} {n : Nat} {S : Nat → am_C} {μ : am_M} {pc : Nat} {L stk : List am_V} {Q : am_P} {As rest : List am_V} {M' : am_T} {idx nA d' bc' bs' : Nat} {P : am_P} (hd : decode M.2.1 pc = .ok (.invokestatic idx, 3)) {host : String} (hl : Cond.methodLinkNest M.1.cls idx M'.1 host ∈ lw_tbl ∧ Cond.static M'.1 ∈ am_gd) (hlm : am_lM M' nA) (hst : stk = As.reverse ++ rest) (hn : As.length = nA) (hr : rest.length ≤ 8) (hdd : d' + 1 ≤ d) (hbc : bc' ≤ bc) (hbs : bs' ≤ bs) (hC : am_Cg al d' bc' bs' M' n S μ (As) P) (kk : ∀ r n' S' μ', P r n' S' μ' → am_Ag al d (bc - bc') (bs - bs') M n' S' μ' (pc + 3) L (r.toList ++ rest) Q) : am_Ag al d bc bs M n S μ pc L stk Q := by
  intro G p l e R s m args below meth c H locs cells slots nb ls X hc hs hnb hS hR hz hL oL os om
  obtain ⟨hx, hb, hml, hown, hts, hret, hlk, hnm, hfr, hlo, hF⟩ := id X
  subst hst
  obtain ⟨w1, w2, w3, w4⟩ := hlm
  have oA : am_oks (As) := fun v hv => os v (by simp [hv])
  have oR : am_oks rest := fun v hv => os v (by simp [hv])
  have hcb : ∀ (ix : Nat), (Cond.methodLink M.1.cls ix M'.1).before args s = true → CallB R s args M.1.cls ix M'.1 M'.2.1 M'.2.2.1 M'.2.2.2 (am_ws M') (am_rm d' bc' bs') bc' bs' nA := fun ix hl => callB_of nA hts (am_good w2) rfl rfl rfl (hts _ (am_gd_ws w1)) hl w3 ⟨by show d' + 1 ≤ _; omega, by show 8 + (_ + 11) + 35 * d' ≤ _; omega⟩
  have hgn : ∀ (ix : Nat) (host : String), va_Nw (.methodLinkNest M.1.cls ix M'.1 host) s → va_CN R s args M.1.cls ix M'.1 host M'.2.1 M'.2.2.1 M'.2.2.2 (am_ws M') (am_rm d' bc' bs') bc' bs' nA := fun ix host hl => va_cnB nA hts (am_good w2) rfl rfl rfl hl (hts _ (am_gd_ws w1)) w3 ⟨by show d' + 1 ≤ _; omega, by show 8 + (_ + 11) + 35 * d' ≤ _; omega⟩
  have hrun := va_runSN (host := host) (As := As.map (am_cv G)) (rest := rest.map (am_cv G)) (g := F0 m pc ls ((As.reverse ++ rest).map (am_cv G))) (cells := cells) (slots := slots) (below := below) (locs := locs) (H := H) (meth := meth) (e := e) ⟨hx, hb, hml, hown, hts⟩ (hC oA om l G) ⟨hgn idx host (hF.2.1 _ hl.1 rfl), hts _ (am_gd_ws hl.2), trivial⟩ ⟨am_Pc_blind, am_pre hF hS hR hnb hbc hz⟩ rfl (by rw [List.length_map]; exact hn) hL.1 (by simp [List.map_reverse]) (by show 2 * 0 + _ ≤ _; rw [am_cats]; omega) hd ⟨by omega, by omega⟩
  refine am_go (G := G) hrun hS (fun r n' S' μ' H1 locs1 hP hR' hok hom hnn hsz hS1 => ?_)
  exact kk r n' S' μ' hP G p l e R s m args below meth c H1 locs1 (cells + bc') (slots + bs') nb ls X (by omega) (by omega) (by omega) hS1 hR' (fun h => ⟨hsz h, (hz h).2⟩) hL oL (fun v hv => by
    rcases List.mem_append.mp hv with h | h
    · exact hok v (by simpa using h)
    · exact oR v h) hom

theorem s_callI {al : Bool} {d bc bs : Nat} {M : am_T} {n : Nat} {S : Nat → am_C} {μ : am_M} {pc : Nat} {L stk : List am_V} {Q : am_P} {As rest : List am_V} {M' : am_T} {idx nA d' bc' bs' : Nat} {P : am_P} {k : Nat} (hd : decode M.2.1 pc = .ok (.invokespecial idx, 3)) (hl : Cond.methodLink M.1.cls idx M'.1 ∈ am_gd ∧ Cond.instanceMethod M'.1 ∈ am_gd) (hi1 : M'.1.name = "<init>") (hi2 : M'.2.2.2 = none) (hlm : am_lM M' nA) (hst : stk = As.reverse ++ vR k :: rest) (hn : As.length = nA) (hr : rest.length ≤ 8) (hdd : d' + 1 ≤ d) (hbc : bc' ≤ bc) (hbs : bs' ≤ bs) (hC : am_Cg al d' bc' bs' M' n S μ (vR k :: As) P) (kk : ∀ r n' S' μ', P r n' S' μ' → am_Ag al d (bc - bc') (bs - bs') M n' S' μ' (pc + 3) L (r.toList ++ rest) Q) : am_Ag al d bc bs M n S μ pc L stk Q := by
  intro G p l e R s m args below meth c H locs cells slots nb ls X hc hs hnb hS hR hz hL oL os om
  obtain ⟨hx, hb, hml, hown, hts, hret, hlk, hnm, hfr, hlo, hF⟩ := id X
  subst hst
  obtain ⟨w1, w2, w3, w4⟩ := hlm
  have oA : am_oks (vR k :: As) := fun v hv => os v (by simp at hv ⊢; rcases hv with h | h <;> simp [h])
  have oR : am_oks rest := fun v hv => os v (by simp [hv])
  have hcb : ∀ (ix : Nat), (Cond.methodLink M.1.cls ix M'.1).before args s = true → CallB R s args M.1.cls ix M'.1 M'.2.1 M'.2.2.1 M'.2.2.2 (am_ws M') (am_rm d' bc' bs') bc' bs' nA := fun ix hl => callB_of nA hts (am_good w2) rfl rfl rfl (hts _ (am_gd_ws w1)) hl w3 ⟨by show d' + 1 ≤ _; omega, by show 8 + (_ + 11) + 35 * d' ≤ _; omega⟩
  have hgn : ∀ (ix : Nat) (host : String), va_Nw (.methodLinkNest M.1.cls ix M'.1 host) s → va_CN R s args M.1.cls ix M'.1 host M'.2.1 M'.2.2.1 M'.2.2.2 (am_ws M') (am_rm d' bc' bs') bc' bs' nA := fun ix host hl => va_cnB nA hts (am_good w2) rfl rfl rfl hl (hts _ (am_gd_ws w1)) w3 ⟨by show d' + 1 ≤ _; omega, by show 8 + (_ + 11) + 35 * d' ≤ _; omega⟩
  have hrun := va_runI (b := G.1.1 + k) (As := As.map (am_cv G)) (rest := rest.map (am_cv G)) (g := F0 m pc ls ((As.reverse ++ vR k :: rest).map (am_cv G))) (cells := cells) (slots := slots) (below := below) (locs := locs) (H := H) (meth := meth) (e := e) (bytes := M'.2.1) (maxL := M'.2.2.1) ⟨hx, hb, hml, hown, hts⟩ (hC oA om l G) ⟨by rw [← hi2]; exact hcb idx (hts _ (am_gd_ws hl.1)), hi1, hts _ (am_gd_ws hl.2)⟩ ⟨am_Pc_blind, am_pre hF hS hR hnb hbc hz⟩ rfl (by rw [List.length_map]; exact hn) hL.1 (by simp [am_cv, List.map_reverse]) (by show 2 * 0 + _ ≤ _; rw [am_cats]; omega) hd ⟨by omega, by omega⟩
  refine am_go (G := G) hrun hS (fun r n' S' μ' H1 locs1 hP hR' hok hom hnn hsz hS1 => ?_)
  exact kk r n' S' μ' hP G p l e R s m args below meth c H1 locs1 (cells + bc') (slots + bs') nb ls X (by omega) (by omega) (by omega) hS1 hR' (fun h => ⟨hsz h, (hz h).2⟩) hL oL (fun v hv => by
    rcases List.mem_append.mp hv with h | h
    · exact hok v (by simpa using h)
    · exact oR v h) hom

theorem s_callIN {al : Bool} {d bc bs : Nat} {M : am_T} {n : Nat} {S : Nat → am_C} {μ : am_M} {pc : Nat} {L stk : List am_V} {Q : am_P} {As rest : List am_V} {M' : am_T} {idx nA d' bc' bs' : Nat} {P : am_P} {k : Nat} (hd : decode M.2.1 pc = .ok (.invokespecial idx, 3)) {host : String} (hl : Cond.methodLinkNest M.1.cls idx M'.1 host ∈ lw_tbl ∧ Cond.instanceMethod M'.1 ∈ am_gd) (hi1 : M'.1.name = "<init>") (hi2 : M'.2.2.2 = none) (hlm : am_lM M' nA) (hst : stk = As.reverse ++ vR k :: rest) (hn : As.length = nA) (hr : rest.length ≤ 8) (hdd : d' + 1 ≤ d) (hbc : bc' ≤ bc) (hbs : bs' ≤ bs) (hC : am_Cg al d' bc' bs' M' n S μ (vR k :: As) P) (kk : ∀ r n' S' μ', P r n' S' μ' → am_Ag al d (bc - bc') (bs - bs') M n' S' μ' (pc + 3) L (r.toList ++ rest) Q) : am_Ag al d bc bs M n S μ pc L stk Q := by
  intro G p l e R s m args below meth c H locs cells slots nb ls X hc hs hnb hS hR hz hL oL os om
  obtain ⟨hx, hb, hml, hown, hts, hret, hlk, hnm, hfr, hlo, hF⟩ := id X
  subst hst
  obtain ⟨w1, w2, w3, w4⟩ := hlm
  have oA : am_oks (vR k :: As) := fun v hv => os v (by simp at hv ⊢; rcases hv with h | h <;> simp [h])
  have oR : am_oks rest := fun v hv => os v (by simp [hv])
  have hcb : ∀ (ix : Nat), (Cond.methodLink M.1.cls ix M'.1).before args s = true → CallB R s args M.1.cls ix M'.1 M'.2.1 M'.2.2.1 M'.2.2.2 (am_ws M') (am_rm d' bc' bs') bc' bs' nA := fun ix hl => callB_of nA hts (am_good w2) rfl rfl rfl (hts _ (am_gd_ws w1)) hl w3 ⟨by show d' + 1 ≤ _; omega, by show 8 + (_ + 11) + 35 * d' ≤ _; omega⟩
  have hgn : ∀ (ix : Nat) (host : String), va_Nw (.methodLinkNest M.1.cls ix M'.1 host) s → va_CN R s args M.1.cls ix M'.1 host M'.2.1 M'.2.2.1 M'.2.2.2 (am_ws M') (am_rm d' bc' bs') bc' bs' nA := fun ix host hl => va_cnB nA hts (am_good w2) rfl rfl rfl hl (hts _ (am_gd_ws w1)) w3 ⟨by show d' + 1 ≤ _; omega, by show 8 + (_ + 11) + 35 * d' ≤ _; omega⟩
  have hrun := va_runIN (host := host) (b := G.1.1 + k) (As := As.map (am_cv G)) (rest := rest.map (am_cv G)) (g := F0 m pc ls ((As.reverse ++ vR k :: rest).map (am_cv G))) (cells := cells) (slots := slots) (below := below) (locs := locs) (H := H) (meth := meth) (e := e) (bytes := M'.2.1) (maxL := M'.2.2.1) ⟨hx, hb, hml, hown, hts⟩ (hC oA om l G) ⟨by rw [← hi2]; exact hgn idx host (hF.2.1 _ hl.1 rfl), hi1, hts _ (am_gd_ws hl.2)⟩ ⟨am_Pc_blind, am_pre hF hS hR hnb hbc hz⟩ rfl (by rw [List.length_map]; exact hn) hL.1 (by simp [am_cv, List.map_reverse]) (by show 2 * 0 + _ ≤ _; rw [am_cats]; omega) hd ⟨by omega, by omega⟩
  refine am_go (G := G) hrun hS (fun r n' S' μ' H1 locs1 hP hR' hok hom hnn hsz hS1 => ?_)
  exact kk r n' S' μ' hP G p l e R s m args below meth c H1 locs1 (cells + bc') (slots + bs') nb ls X (by omega) (by omega) (by omega) hS1 hR' (fun h => ⟨hsz h, (hz h).2⟩) hL oL (fun v hv => by
    rcases List.mem_append.mp hv with h | h
    · exact hok v (by simpa using h)
    · exact oR v h) hom

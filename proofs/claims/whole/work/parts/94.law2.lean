section LWR
variable {p : Program} {l : Launch} {e : Env} {s : State} {m : MethodId} {below : List Frame} {meth : Method} {c : Code} {b L : Nat} {xs : Nat → Int32}
theorem am_goodL {M' : am_T} (h : Cond.code M'.1 M'.2.1 M'.2.2.1 M'.2.2.2 ∈ am_gd) : GoodIn lw_tbl (am_ws M') := by
  intro w hw
  have hw' : w ∈ am_gd := by
    rcases List.mem_cons.mp hw with e | e
    · rw [e]; exact h
    · exact e
  exact ⟨am_gd_tbl hw', good_of_word (List.mem_filter.mp hw').2⟩
theorem lw_pre {G : am_G} {al : Bool} {bc n : Nat} {S : Nat → am_C} {μ : am_M} {As : List am_V} {s : State} {H : Heap} {locs : List Loc} (hlo : s.heap.size ≤ G.1.1) (hF : am_F G s) (hS : va_S (lw_A s) s.heap H locs) (hR : am_Rep G n S μ H) (hz : al = true → H.size = G.1.1 + n ∧ n + bc ≤ G.1.2.1) : ∀ U : State, U.heap = H → s.WarmedH U.vm → am_Pc G al bc n S μ As (As.map (am_cv G)).toArray U := fun U hU hW =>
  ⟨rfl, am_F_warm hW (fun a h1 h2 => by rw [hU]; exact hS.2.1 a h1 (fun q => Nat.lt_irrefl _ (Nat.lt_of_lt_of_le h1 q))) hF, by rw [hU]; exact hR, fun h => by rw [hU]; exact hz h⟩
/-- behind a call: the callee's cells alone have changed -/
theorem lw_go {G : am_G} {al : Bool} {mc ms nb pc cells slots : Nat} {H : Heap} {locs : List Loc} {ls : Array Slot} {st0 rest : List Value} {P : am_P} {a : Array Value} {R : Room} {args : Array Value} {Z : State → Prop} (hr : va_Run p l e R s m args below meth c H locs cells slots mc ms (F0 m pc ls st0) rest (am_Q G al nb P a) (am_A G)) (hS : va_S (lw_A s) s.heap H locs) (hlo : s.heap.size ≤ G.1.1)
    (kk : ∀ (r : Option am_V) (n' : Nat) (S' : Nat → am_C) (μ' : am_M) (H1 : Heap) (locs1 : List Loc), P r n' S' μ' → am_Rep G n' S' μ' H1 → (∀ v, r = some v → am_ok v) → am_okm μ' → (al = true → H1.size = G.1.1 + n') → va_S (lw_A s) s.heap H1 locs1 → (∀ q : Nat, q < H.size → ¬ am_A G q → H1[q]? = H[q]?) → W p l e R s m args below meth c H1 locs1 (cells + mc) (slots + ms) Z (F0 m (pc + 3) ls ((r.map (am_cv G)).toList ++ rest))) : W p l e R s m args below meth c H locs cells slots Z (F0 m pc ls st0) := by
  intro T hT X
  obtain ⟨v, st₀, t, T', L, h0, X', hL, e1, e2, ⟨⟨r, n', S', μ', hv, hp, hR', hok, hom, hnn, hsz⟩, hz, hk⟩, st⟩ := hr T hT X
  cases hv
  rw [h0] at hz hk
  obtain ⟨t2, a1, b1⟩ := kk r n' S' μ' T'.heap (locs ++ L) hp (by rw [e1]; exact hR') hok hom (by rw [e1]; exact hsz)
    ⟨Nat.le_trans hS.1 (by rw [e1]; exact hz), fun q h1 h2 => by rw [e1, hk q (Nat.lt_of_lt_of_le h1 hS.1) (fun h => h2 (Nat.le_trans hlo h.1))]; exact hS.2.1 q h1 h2, fun q hq => by
      rcases List.mem_append.mp hq with h | h
      · exact hS.2.2 q h
      · exact Nat.le_trans hlo (hL q h).1⟩ (fun q h1 h2 => by rw [e1]; exact hk q h1 h2) T' rfl X'
  exact ⟨t2, st t2 a1, b1⟩
/-- a question or a command of an object that stands -/
theorem lw_call {G : am_G} {K : am_K} {pc idx nA d' cells slots : Nat} {M' : am_T} {As : List am_V} {μ : am_M} {H : Heap} {locs : List Loc} {ls : Array Slot} {stk rest : List Value} {Pq : Int → am_M → Prop} {Z : State → Prop} (C0 : lw_At p s m meth c b L xs) (hd : decode code pc = .ok (.invokevirtual idx, 3)) (hl : Cond.methodLink R_law idx M'.1 ∈ lw_tbl ∧ Cond.instanceMethod M'.1 ∈ lw_tbl ∧ Cond.selects M'.1.cls M'.1 M'.1 ∈ lw_tbl) (hlm : am_lM M' nA) (hk : 0 < K.1) (hSk : am_rn (K.2 0).1 = M'.1.cls ∧ (K.2 0).1 < 11) (hn : As.length = nA) (hdd : d' ≤ 9) (hC : cl_I K d' M' (vR 0 :: As) μ Pq) (oA : am_oks As) (om : am_okm μ) (hlo : s.heap.size ≤ G.1.1) (hF : am_F G s) (hS : va_S (lw_A s) s.heap H locs) (hR : am_Rep G K.1 K.2 μ H) (hls : ls.size = 4) (hr : (rest.map fun v => v.category).sum ≤ 8) (hc : cells ≤ 600000) (hs : slots ≤ 7302250) (hst : stk = (As.map (am_cv G)).reverse ++ .ref (G.1.1 + 0) :: rest)
    (kk : ∀ (z : Int) (μ' : am_M) (H1 : Heap) (locs1 : List Loc), Pq z μ' → am_in z → am_Rep G K.1 K.2 μ' H1 → am_okm μ' → va_S (lw_A s) s.heap H1 locs1 → (∀ q : Nat, q < H.size → ¬ am_A G q → H1[q]? = H[q]?) → W p l e room_1 s m #[Value.ref b] below meth c H1 locs1 cells slots Z (F0 m (pc + 3) ls (.int (Int32.ofInt z) :: rest))) : W p l e room_1 s m #[Value.ref b] below meth c H locs cells slots Z (F0 m pc ls stk) := by
  obtain ⟨hx, hb, hret, hml, hown, hts, hX, hbl, hlocks, hgv⟩ := C0
  subst hst
  obtain ⟨w1, w2, w3, w4⟩ := hlm
  have hcb : CallB room_1 s #[Value.ref b] R_law idx M'.1 M'.2.1 M'.2.2.1 M'.2.2.2 (am_ws M') (am_rm d' 0 0) 0 0 nA := callB_of nA hts (am_goodL w2) rfl rfl rfl (hts _ (am_gd_tbl w1)) (hts _ hl.1) w3 ⟨by show d' + 1 ≤ 10; omega, by show 8 + (_ + 11) + 35 * d' ≤ 366; omega⟩
  have hoA : am_oks (vR 0 :: As) := am_oks_cons trivial oA
  have hrun := va_runV (C := M'.1.cls) (b := G.1.1 + 0) (As := As.map (am_cv G)) (rest := rest) (g := F0 m pc ls ((As.map (am_cv G)).reverse ++ .ref (G.1.1 + 0) :: rest)) (cells := cells) (slots := slots) (below := below) (locs := locs) (H := H) (meth := meth) (e := e) ⟨hx, hb, hml, hown, hts⟩ (hC hoA om l G) ⟨hcb, hts _ hl.2.1, hts _ hl.2.2⟩ ⟨am_Pc_blind, (by have he := am_wl_at (G := G) (S := K.2) (μ := μ) hk; rw [am_e_obj rfl hSk.2] at he; rw [← hSk.1]; exact va_recv hF.1 hR.1 (am_cl_at _ hSk.2) he), lw_pre (al := false) (As := vR 0 :: As) hlo hF hS hR (fun h => by cases h)⟩ rfl (by rw [List.length_map]; exact hn) hls rfl (by show 2 * 0 + _ ≤ _; omega) hd ⟨by show cells + 0 ≤ 600000; omega, by show slots + 0 ≤ 7302250; omega⟩
  refine lw_go hrun hS hlo (fun r n' S' μ' H1 locs1 hP hR' hok hom hsz hS1 hk1 => ?_)
  obtain ⟨⟨rfl, rfl⟩, z, rfl, hP⟩ := hP
  exact kk z μ' H1 locs1 hP (hok _ rfl) hR' hom hS1 hk1
/-- one of the call's ints, read out of the script -/
theorem lw_arg {pc i j : Nat} {H : Heap} {locs : List Loc} {cells slots : Nat} {ls : Array Slot} {st : List Value} {Z : State → Prop} (C0 : lw_At p s m meth c b L xs) (hS : va_S (lw_A s) s.heap H locs) (h0 : ls[0]? = some (.val (.ref b))) (h3 : ls[3]? = some (.val (.int (nI i)))) (hL : L ≤ 3072) (hi : i + j < L) (hj : j ≤ 5) (d0 : decode code pc = .ok (.aload_n 0, 1)) (d1 : decode code (pc + 1) = .ok (.iload_n 3, 1)) (d2 : decode code (pc + 2) = .ok (.iconst (j : Int), 1)) (d3 : decode code (pc + 3) = .ok (.iadd, 1)) (d4 : decode code (pc + 4) = .ok (.iaload, 1))
    (kk : W p l e room_1 s m #[Value.ref b] below meth c H locs cells slots Z (F0 m (pc + 5) ls (.int (xs (i + j)) :: st))) : W p l e room_1 s m #[Value.ref b] below meth c H locs cells slots Z (F0 m pc ls st) := by
  obtain ⟨hx, hb, hret, hml, hown, hts, hX, hbl, hlocks, hgv⟩ := C0
  refine lv_aload_n hx hb d0 rfl h0 ?_
  refine lv_iload_n hx hb d1 rfl h3 ?_
  refine lv_iconst (v := nI j) hx hb d2 rfl ?_
  refine lv_iadd hx hb d3 ?_
  have e : nI i + nI j = nI (i + j) := nI_add i j
  rw [e]
  refine va_sld hx hb hX hbl (Nat.not_le.mpr hbl) hS (vp_in_nI hi (by omega)) d4 ?_
  rw [nI_clamp (by omega)]
  exact kk
/-- a new object, the first cell of its world -/
theorem lw_new {G : am_G} {pc idx ci cells slots : Nat} {H : Heap} {locs : List Loc} {ls : Array Slot} {st : List Value} {Z : State → Prop} (C0 : lw_At p s m meth c b L xs) (hd : decode code pc = .ok (.new idx, 3)) (hw : Cond.classLink R_law idx (am_rn ci) ∈ lw_tbl) (hci : ci < 11) (hini : Cond.initialized (am_rn ci) ∈ lw_tbl) (hF : am_F G s) (hlo : H.size = G.1.1) (hcap : 1 ≤ G.1.2.1) (hS : va_S (lw_A s) s.heap H locs) (hc : cells + 1 ≤ 600000) (hs : slots + am_nf ci ≤ 7302250)
    (kk : ∀ H1 : Heap, am_Rep G 1 (am_cell [(ci, 0, [])]) z0_ H1 → H1.size = G.1.1 + 1 → (∀ q : Nat, q < H.size → H1[q]? = H[q]?) → va_S (lw_A s) s.heap H1 locs → W p l e room_1 s m #[Value.ref b] below meth c H1 locs (cells + 1) (slots + am_nf ci) Z (F0 m (pc + 3) ls (.ref (G.1.1 + 0) :: st))) : W p l e room_1 s m #[Value.ref b] below meth c H locs cells slots Z (F0 m pc ls st) := by
  obtain ⟨hx, hb, hret, hml, hown, hts, hX, hbl, hlocks, hgv⟩ := C0
  have hKn := hF.1.1 ci _ (am_cl_at ci hci)
  refine W.newcK hx hb hown (hts _ hw) (hts _ (lw_ins ci hci)) (hts _ hini) rfl hd hc hs hKn.2.1 hlo fun H1 kC hkC e1 z1 o1 => ?_
  have o1' : ∀ q, q < H.size → H1[q]? = H[q]? := fun q hq => o1 q (by omega)
  have h0 : am_Rep G 0 (am_cell []) z0_ H := ⟨fun k x hx => by simp [am_wl] at hx, Nat.zero_le _⟩
  have hR1 := am_Rep_push (c := am_c0 ci 0) (f := am_m0) h0 (by omega) o1' (by
    rw [am_e_obj (s := am_c0 ci 0) rfl hci]
    refine ⟨_, am_cl_at ci hci, (u_born (am_ft ci) hts (fun w h => am_gd_tbl (am_inws ci hci w h)) hKn hkC e1 (am_ty_ok ci hci)).to (fun j hj => ?_)⟩
    show _ = ((List.range (am_nf ci)).map (am_fv G (am_c0 ci 0) am_m0)).getD j .null
    rw [am_dv ci hci j hj, List.getD_eq_getElem?_getD, List.getElem?_map, List.getElem?_range hj]
    show _ = am_fv G (am_c0 ci 0) am_m0 j
    unfold am_fv
    rfl)
  have e1 := am_cell_push [] ci 0
  rw [show am_sS (am_cell []) 0 (am_c0 ci 0) = am_cell [(ci, 0, [])] from e1, am_st0 (rfl : z0_ 0 = am_m0)] at hR1
  exact kk H1 hR1 z1 o1' ⟨by have := hS.1; omega, fun x h1 h2 => (o1' x (Nat.lt_of_lt_of_le h1 hS.1)).trans (hS.2.1 x h1 h2), hS.2.2⟩
/-- its constructor -/
theorem lw_init {G : am_G} {pc idx d' bc bs ci cells slots : Nat} {M' : am_T} {zs : am_Lc} {μ2 : am_M} {H : Heap} {locs : List Loc} {ls : Array Slot} {rest : List Value} {Z : State → Prop} (C0 : lw_At p s m meth c b L xs) (hd : decode code pc = .ok (.invokespecial idx, 3)) (hl : Cond.methodLink R_law idx M'.1 ∈ lw_tbl ∧ Cond.instanceMethod M'.1 ∈ lw_tbl) (hi1 : M'.1.name = "<init>") (hi2 : M'.2.2.2 = none) (hlm : am_lM M' 0) (hdd : d' ≤ 9) (hC : in_c d' bc bs M' [] (ci, 0, []) z0_ 0 [] zs μ2) (hlo : s.heap.size ≤ G.1.1) (hF : am_F G s) (hS : va_S (lw_A s) s.heap H locs) (hR : am_Rep G 1 (am_cell [(ci, 0, [])]) z0_ H) (hz : H.size = G.1.1 + 1 ∧ 1 + bc ≤ G.1.2.1) (hls : ls.size = 4) (hr : (rest.map fun v => v.category).sum ≤ 8) (hc : cells + bc ≤ 600000) (hs : slots + bs ≤ 7302250)
    (kk : ∀ (H1 : Heap) (locs1 : List Loc), am_Rep G zs.length (am_cell zs) μ2 H1 → am_okm μ2 → H1.size = G.1.1 + zs.length → va_S (lw_A s) s.heap H1 locs1 → (∀ q : Nat, q < H.size → ¬ am_A G q → H1[q]? = H[q]?) → W p l e room_1 s m #[Value.ref b] below meth c H1 locs1 (cells + bc) (slots + bs) Z (F0 m (pc + 3) ls rest)) : W p l e room_1 s m #[Value.ref b] below meth c H locs cells slots Z (F0 m pc ls (.ref (G.1.1 + 0) :: rest)) := by
  obtain ⟨hx, hb, hret, hml, hown, hts, hX, hbl, hlocks, hgv⟩ := C0
  obtain ⟨w1, w2, w3, w4⟩ := hlm
  have hcb : CallB room_1 s #[Value.ref b] R_law idx M'.1 M'.2.1 M'.2.2.1 M'.2.2.2 (am_ws M') (am_rm d' bc bs) bc bs 0 := callB_of 0 hts (am_goodL w2) rfl rfl rfl (hts _ (am_gd_tbl w1)) (hts _ hl.1) w3 ⟨by show d' + 1 ≤ 10; omega, by show 8 + (_ + 11) + 35 * d' ≤ 366; omega⟩
  have hrun := va_runI (b := G.1.1 + 0) (As := []) (rest := rest) (g := F0 m pc ls (.ref (G.1.1 + 0) :: rest)) (cells := cells) (slots := slots) (below := below) (locs := locs) (H := H) (meth := meth) (e := e) (bytes := M'.2.1) (maxL := M'.2.2.1) ⟨hx, hb, hml, hown, hts⟩ (hC (am_oks_cons trivial (fun v hv => by cases hv)) (fun k j => am_in0) l G) ⟨by rw [← hi2]; exact hcb, hi1, hts _ hl.2⟩ ⟨am_Pc_blind, lw_pre (al := true) (As := [vR 0]) hlo hF hS hR (fun _ => hz)⟩ rfl rfl hls rfl (by show 2 * 0 + _ ≤ _; omega) hd ⟨hc, hs⟩
  refine lw_go hrun hS hlo (fun r n' S' μ' H1 locs1 hP hR' hok hom hsz hS1 hk1 => ?_)
  obtain ⟨rfl, rfl, rfl, rfl⟩ := hP
  exact kk H1 locs1 hR' hom (hsz rfl) hS1 hk1
/-- what one world's calls leave of the other -/
theorem lw_kept {G G' : am_G} {n : Nat} {S : Nat → am_C} {μ : am_M} {H H1 : Heap} (hR : am_Rep G n S μ H) (hd : ∀ q, am_A G q → ¬ am_A G' q) (hk : ∀ q : Nat, q < H.size → ¬ am_A G' q → H1[q]? = H[q]?) : am_Rep G n S μ H1 :=
  ⟨hR.1.kept (fun k x hx => hk x.1 ((hR.1 k x hx).lt) (hd _ ((am_wl_D (S := S) (μ := μ) hR.2).2 k x hx))), hR.2⟩
/-- the two worlds, side by side -/
def lw_C (s : State) (G1 G2 : am_G) : Prop := s.heap.size ≤ G1.1.1 ∧ am_F G1 s ∧ G1.1.2.1 = 158 ∧ G1.1.1 + 158 ≤ G2.1.1 ∧ am_F G2 s
def lw_S (s : State) (G1 G2 : am_G) (K : Int) (H : Heap) (locs : List Loc) : Prop := va_S (lw_A s) s.heap H locs ∧ ∃ μ ν : am_M, JR K μ ν ∧ am_Rep G1 kC.1 kC.2 μ H ∧ am_Rep G2 kR.1 kR.2 ν H ∧ am_okm μ ∧ am_okm ν
theorem lw_C.d1 {s : State} {G1 G2 : am_G} (h : lw_C s G1 G2) : ∀ q, am_A G1 q → ¬ am_A G2 q := fun q h1 h2 => by
  obtain ⟨-, -, h3, h4, -⟩ := h
  unfold am_A at h1 h2
  omega
theorem lw_C.d2 {s : State} {G1 G2 : am_G} (h : lw_C s G1 G2) : ∀ q, am_A G2 q → ¬ am_A G1 q := fun q h2 h1 => h.d1 q h1 h2
theorem lw_C.lo2 {s : State} {G1 G2 : am_G} (h : lw_C s G1 G2) : s.heap.size ≤ G2.1.1 := by
  obtain ⟨h1, -, -, h4, -⟩ := h
  omega
abbrev lw_l (G1 G2 : am_G) (b i : Nat) : List (Nat × Value) := [(0, .ref b), (1, .ref (G1.1.1 + 0)), (2, .ref (G2.1.1 + 0)), (3, .int (nI i))]
theorem lw_k9 : am_rn (kC.2 0).1 = RX9 ∧ (kC.2 0).1 < 11 := ⟨by rw [kk0]; rfl, by rw [kk0]; decide⟩
theorem lw_k10 : am_rn (kR.2 0).1 = RX10 ∧ (kR.2 0).1 < 11 := ⟨by rw [rk0]; rfl, by rw [rk0]; decide⟩
theorem am_okn : am_oks [] := fun v hv => by cases hv
end LWR

/-- from this place in the method's text, with these values: it comes to its end with Q -/
def am_Q (G : am_G) (al : Bool) (nb : Nat) (Q : am_P) : Array Value → State → Outcome → State → Prop := fun _ s o t =>
  (∃ (r : Option am_V) (n : Nat) (S : Nat → am_C) (μ : am_M), o = .returned (r.map (am_cv G)) ∧ Q r n S μ ∧ am_Rep G n S μ t.heap ∧ (∀ v, r = some v → am_ok v) ∧ am_okm μ ∧ n ≤ nb ∧ (al = true → t.heap.size = G.1.1 + n)) ∧ va_F (am_A G) s t
def am_X (d : Nat) (M : am_T) (G : am_G) (p : Program) (R : Room) (s : State) (m : MethodId) (args : Array Value) (meth : Method) (c : Code) : Prop :=
  p.tables.exec = Jvm.exec ∧ c.code = M.2.1 ∧ c.maxLocals = M.2.2.1 ∧ s.vm.findClass M.1.cls = some m.cls ∧ (∀ w ∈ am_ws M, w.before args s = true) ∧ meth.sig.returnType = M.2.2.2 ∧ meth.locks = false ∧ meth.name = M.1.name ∧ d ≤ R.frames ∧ 35 * d ≤ R.locals ∧ am_F G s
def am_L (G : am_G) (nL : Nat) (ls : Array Slot) (L : List am_V) : Prop := ls.size = nL ∧ lv_wf ls ∧ L.length ≤ nL ∧ ∀ (i : Nat) (v : am_V), L[i]? = some v → v ≠ vU → ls[i]? = some (.val (am_cv G v))
def am_Ag (al : Bool) (d bc bs : Nat) (M : am_T) (n : Nat) (S : Nat → am_C) (μ : am_M) (pc : Nat) (L st : List am_V) (Q : am_P) : Prop :=
  ∀ (G : am_G) (p : Program) (l : Launch) (e : Env) (R : Room) (s : State) (m : MethodId) (args : Array Value) (below : List Frame) (meth : Method) (c : Code) (H : Heap) (locs : List Loc) (cells slots nb : Nat) (ls : Array Slot),
    am_X d M G p R s m args meth c → cells + bc ≤ R.cells → slots + bs ≤ R.slots → n + bc ≤ nb → va_S (am_A G) s.heap H locs → am_Rep G n S μ H → (al = true → H.size = G.1.1 + n ∧ nb ≤ G.1.2.1) → am_L G M.2.2.1 ls L → am_oks L → am_oks st → am_okm μ →
    W p l e R s m args below meth c H locs cells slots (MQ below (am_Q G al nb Q) args s R.cells R.slots (am_A G)) (F0 m pc ls (st.map (am_cv G)))
theorem am_oks_cons {v : am_V} {l : List am_V} (h : am_ok v) (hl : am_oks l) : am_oks (v :: l) := fun x hx => by
  rcases List.mem_cons.mp hx with e | e
  · rw [e]; exact h
  · exact hl x e
theorem am_oks_tl {v : am_V} {l : List am_V} (h : am_oks (v :: l)) : am_oks l := fun x hx => h x (List.mem_cons_of_mem _ hx)
theorem am_oks_hd {v : am_V} {l : List am_V} (h : am_oks (v :: l)) : am_ok v := h v List.mem_cons_self
theorem am_oks_at {l : List am_V} (h : am_oks l) {i : Nat} {v : am_V} (hi : l[i]? = some v) : am_ok v := h v (List.mem_of_getElem? hi)
theorem am_L_at {G : am_G} {nL : Nat} {ls : Array Slot} {L : List am_V} (h : am_L G nL ls L) {i : Nat} {v : am_V} (hi : L[i]? = some v) (hv : v ≠ vU) : ls[i]? = some (.val (am_cv G v)) := h.2.2.2 i v hi hv
theorem am_cat (G : am_G) (v : am_V) : (am_cv G v).category = 1 := by
  rcases v with z | k | i
  · rfl
  · rfl
  · match i with
    | 0 => rfl
    | 1 => rfl
    | i + 2 => rfl
/-- the listed pairs of the known places -/
def am_pr (G : am_G) : Nat → List am_V → List (Nat × Value)
  | _, [] => []
  | i, v :: vs => if v = vU then am_pr G (i + 1) vs else (i, am_cv G v) :: am_pr G (i + 1) vs
theorem am_pr_in {G : am_G} (L : List am_V) : ∀ (a : Nat) (q : Nat × Value), q ∈ am_pr G a L ↔ ∃ i v, L[i]? = some v ∧ v ≠ vU ∧ q = (a + i, am_cv G v) := by
  induction L with
  | nil => intro a q; simp [am_pr]
  | cons x xs ih =>
    intro a q
    unfold am_pr
    constructor
    · intro h
      by_cases hx : x = vU
      · rw [if_pos hx] at h
        obtain ⟨i, v, h1, h2, h3⟩ := (ih (a + 1) q).mp h
        exact ⟨i + 1, v, by simpa using h1, h2, by rw [h3]; congr 1; omega⟩
      · rw [if_neg hx] at h
        rcases List.mem_cons.mp h with h | h
        · exact ⟨0, x, rfl, hx, h⟩
        · obtain ⟨i, v, h1, h2, h3⟩ := (ih (a + 1) q).mp h
          exact ⟨i + 1, v, by simpa using h1, h2, by rw [h3]; congr 1; omega⟩
    · rintro ⟨i, v, h1, h2, h3⟩
      cases i with
      | zero =>
        have e : x = v := by simpa using h1
        subst e
        rw [if_neg h2, h3]
        exact List.mem_cons_self
      | succ i =>
        have h4 : q ∈ am_pr G (a + 1) xs := (ih (a + 1) q).mpr ⟨i, v, by simpa using h1, h2, by rw [h3]; congr 1; omega⟩
        by_cases hx : x = vU
        · rw [if_pos hx]; exact h4
        · rw [if_neg hx]; exact List.mem_cons_of_mem _ h4
theorem am_L_has {G : am_G} {nL : Nat} {ls : Array Slot} {L : List am_V} (h : am_L G nL ls L) : lv_has ls nL (am_pr G 0 L) := by
  refine ⟨h.1, h.2.1, fun q hq => ?_⟩
  obtain ⟨i, v, h1, h2, h3⟩ := (am_pr_in L 0 q).mp hq
  rw [h3]
  have := h.2.2.2 i v h1 h2
  simpa using this
theorem am_L_set {G : am_G} {nL : Nat} {ls ls' : Array Slot} {L : List am_V} {i : Nat} {v : am_V} (h : am_L G nL ls L) (h' : lv_has ls' nL ((i, am_cv G v) :: (am_pr G 0 L).filter (fun q => !(q.1 == i) && !(q.1 + 1 == i && q.2.category == 2)))) : am_L G nL ls' (L.set i v) := by
  refine ⟨h'.1, h'.2.1, by rw [List.length_set]; exact h.2.2.1, fun j x hj hx => ?_⟩
  rw [List.getElem?_set] at hj
  by_cases hij : i = j
  · subst hij
    rw [if_pos rfl] at hj
    split at hj
    · cases hj
      exact h'.2.2 (i, am_cv G v) List.mem_cons_self
    · cases hj
  · rw [if_neg hij] at hj
    have h2 : (j, am_cv G x) ∈ am_pr G 0 L := (am_pr_in L 0 _).mpr ⟨j, x, hj, hx, by simp⟩
    refine h'.2.2 (j, am_cv G x) (List.mem_cons_of_mem _ (List.mem_filter.mpr ⟨h2, ?_⟩))
    have hc : (am_cv G x).category = 1 := am_cat G x
    simp [Ne.symm hij, hc]
theorem am_oks_set {L : List am_V} {i : Nat} {v : am_V} (h : am_oks L) (hv : am_ok v) : am_oks (L.set i v) := fun x hx => by
  rcases List.mem_or_eq_of_mem_set hx with e | e
  · exact h x e
  · rw [e]; exact hv
theorem am_Ag_st {al : Bool} {d bc bs : Nat} {M : am_T} {n : Nat} {S : Nat → am_C} {μ : am_M} {pc : Nat} {L st : List am_V} {Q Q' : am_P} (h : am_Ag al d bc bs M n S μ pc L st Q) (hQ : ∀ r n S μ, Q r n S μ → Q' r n S μ) : am_Ag al d bc bs M n S μ pc L st Q' := by
  intro G p l e R s m args below meth c H locs cells slots nb ls X hc hs hnb hS hR hz hL oL os om T hT Y
  obtain ⟨t, a, o, b1, b2, ⟨⟨r, n', S', μ', c1, c2, c3⟩, c4⟩, b4⟩   := h G p l e R s m args below meth c H locs cells slots nb ls X hc hs hnb hS hR hz hL oL os om T hT Y
  exact ⟨t, a, o, b1, b2, ⟨⟨r, n', S', μ', c1, hQ _ _ _ _ c2, c3⟩, c4⟩, b4⟩

theorem s_iconst {al : Bool} {d bc bs : Nat} {M : am_T} {n : Nat} {S : Nat → am_C} {μ : am_M} {pc : Nat} {L st : List am_V} {Q : am_P} {z : Int} (hd : decode M.2.1 pc = .ok (.iconst z, 1)) (hz0 : -1 ≤ z ∧ z ≤ 5) (k : am_Ag al d bc bs M n S μ (pc + 1) L (vI z :: st) Q) : am_Ag al d bc bs M n S μ pc L st Q := by
  intro G p l e R s m args below meth c H locs cells slots nb ls X hc hs hnb hS hR hz hL oL os om
  exact lv_iconst X.1 X.2.1 hd rfl (k G p l e R s m args below meth c H locs cells slots nb ls X hc hs hnb hS hR hz hL oL (am_oks_cons (by have := hz0; show am_in z; unfold am_in; omega) os) om)

theorem am_i8 {z : Int} (h : -128 ≤ z ∧ z ≤ 127) : (Int8.ofInt z).toInt32 = Int32.ofInt z := by
  apply Int32.toInt_inj.mp
  rw [am_oi (by unfold am_in; omega), Int8.toInt_toInt32, Int8.toInt_ofInt_of_le (by omega) (by omega)]
theorem am_i16 {z : Int} (h : -32768 ≤ z ∧ z ≤ 32767) : (Int16.ofInt z).toInt32 = Int32.ofInt z := by
  apply Int32.toInt_inj.mp
  rw [am_oi (by unfold am_in; omega), Int16.toInt_toInt32, Int16.toInt_ofInt_of_le (by omega) (by omega)]

theorem s_bipush {al : Bool} {d bc bs : Nat} {M : am_T} {n : Nat} {S : Nat → am_C} {μ : am_M} {pc : Nat} {L st : List am_V} {Q : am_P} {z : Int} (hd : decode M.2.1 pc = .ok (.bipush z, 2)) (hz0 : -128 ≤ z ∧ z ≤ 127) (k : am_Ag al d bc bs M n S μ (pc + 2) L (vI z :: st) Q) : am_Ag al d bc bs M n S μ pc L st Q := by
  intro G p l e R s m args below meth c H locs cells slots nb ls X hc hs hnb hS hR hz hL oL os om
  exact lv_bipush X.1 X.2.1 hd (am_i8 hz0) (k G p l e R s m args below meth c H locs cells slots nb ls X hc hs hnb hS hR hz hL oL (am_oks_cons (by have := hz0; show am_in z; unfold am_in; omega) os) om)

theorem s_sipush {al : Bool} {d bc bs : Nat} {M : am_T} {n : Nat} {S : Nat → am_C} {μ : am_M} {pc : Nat} {L st : List am_V} {Q : am_P} {z : Int} (hd : decode M.2.1 pc = .ok (.sipush z, 3)) (hz0 : -32768 ≤ z ∧ z ≤ 32767) (k : am_Ag al d bc bs M n S μ (pc + 3) L (vI z :: st) Q) : am_Ag al d bc bs M n S μ pc L st Q := by
  intro G p l e R s m args below meth c H locs cells slots nb ls X hc hs hnb hS hR hz hL oL os om
  exact lv_sipush X.1 X.2.1 hd (am_i16 hz0) (k G p l e R s m args below meth c H locs cells slots nb ls X hc hs hnb hS hR hz hL oL (am_oks_cons (by have := hz0; show am_in z; unfold am_in; omega) os) om)

theorem s_ldc {al : Bool} {d bc bs : Nat} {M : am_T} {n : Nat} {S : Nat → am_C} {μ : am_M} {pc : Nat} {L st : List am_V} {Q : am_P} {z : Int} {i : Nat} (hd : decode M.2.1 pc = .ok (.ldc i, 2)) (hw : Cond.constant M.1.cls i (Int32.ofInt z) ∈ am_gd) (hz0 : am_in z) (k : am_Ag al d bc bs M n S μ (pc + 2) L (vI z :: st) Q) : am_Ag al d bc bs M n S μ pc L st Q := by
  intro G p l e R s m args below meth c H locs cells slots nb ls X hc hs hnb hS hR hz hL oL os om
  exact lv_ldc X.1 X.2.1 X.2.2.2.1 (X.2.2.2.2.1 _ (am_gd_ws hw)) hd (k G p l e R s m args below meth c H locs cells slots nb ls X hc hs hnb hS hR hz hL oL (am_oks_cons hz0 os) om)

theorem s_iload_n {al : Bool} {d bc bs : Nat} {M : am_T} {n : Nat} {S : Nat → am_C} {μ : am_M} {pc : Nat} {L st : List am_V} {Q : am_P} {k4 : Fin 4} {i : Nat} {z : Int} (hd : decode M.2.1 pc = .ok (.iload_n k4, 1)) (hi : (k4 : Nat) = i) (hl : L[i]? = some (vI z)) (k : am_Ag al d bc bs M n S μ (pc + 1) L (vI z :: st) Q) : am_Ag al d bc bs M n S μ pc L st Q := by
  intro G p l e R s m args below meth c H locs cells slots nb ls X hc hs hnb hS hR hz hL oL os om
  exact lv_iload_n X.1 X.2.1 hd hi (am_L_at hL hl (fun h => by cases h)) (k G p l e R s m args below meth c H locs cells slots nb ls X hc hs hnb hS hR hz hL oL (am_oks_cons (am_oks_at oL hl) os) om)

theorem s_iload {al : Bool} {d bc bs : Nat} {M : am_T} {n : Nat} {S : Nat → am_C} {μ : am_M} {pc : Nat} {L st : List am_V} {Q : am_P} {i : Nat} {z : Int} (hd : decode M.2.1 pc = .ok (.iload i, 2)) (hl : L[i]? = some (vI z)) (k : am_Ag al d bc bs M n S μ (pc + 2) L (vI z :: st) Q) : am_Ag al d bc bs M n S μ pc L st Q := by
  intro G p l e R s m args below meth c H locs cells slots nb ls X hc hs hnb hS hR hz hL oL os om
  exact lv_iload X.1 X.2.1 hd (am_L_at hL hl (fun h => by cases h)) (k G p l e R s m args below meth c H locs cells slots nb ls X hc hs hnb hS hR hz hL oL (am_oks_cons (am_oks_at oL hl) os) om)

theorem s_aload_n {al : Bool} {d bc bs : Nat} {M : am_T} {n : Nat} {S : Nat → am_C} {μ : am_M} {pc : Nat} {L st : List am_V} {Q : am_P} {k4 : Fin 4} {i q : Nat} (hd : decode M.2.1 pc = .ok (.aload_n k4, 1)) (hi : (k4 : Nat) = i) (hl : L[i]? = some (vR q)) (k : am_Ag al d bc bs M n S μ (pc + 1) L (vR q :: st) Q) : am_Ag al d bc bs M n S μ pc L st Q := by
  intro G p l e R s m args below meth c H locs cells slots nb ls X hc hs hnb hS hR hz hL oL os om
  exact lv_aload_n X.1 X.2.1 hd hi (am_L_at hL hl (fun h => by cases h)) (k G p l e R s m args below meth c H locs cells slots nb ls X hc hs hnb hS hR hz hL oL (am_oks_cons trivial os) om)

theorem s_aload {al : Bool} {d bc bs : Nat} {M : am_T} {n : Nat} {S : Nat → am_C} {μ : am_M} {pc : Nat} {L st : List am_V} {Q : am_P} {i q : Nat} (hd : decode M.2.1 pc = .ok (.aload i, 2)) (hl : L[i]? = some (vR q)) (k : am_Ag al d bc bs M n S μ (pc + 2) L (vR q :: st) Q) : am_Ag al d bc bs M n S μ pc L st Q := by
  intro G p l e R s m args below meth c H locs cells slots nb ls X hc hs hnb hS hR hz hL oL os om
  exact lv_aload X.1 X.2.1 hd (am_L_at hL hl (fun h => by cases h)) (k G p l e R s m args below meth c H locs cells slots nb ls X hc hs hnb hS hR hz hL oL (am_oks_cons trivial os) om)

theorem s_istore_n {al : Bool} {d bc bs : Nat} {M : am_T} {n : Nat} {S : Nat → am_C} {μ : am_M} {pc : Nat} {L st : List am_V} {Q : am_P} {k4 : Fin 4} {i : Nat} {z : Int} {L' : List am_V} (hd : decode M.2.1 pc = .ok (.istore_n k4, 1)) (hi : (k4 : Nat) = i) (hn : i < M.2.2.1) (hL' : L.set i (vI z) = L') (k : am_Ag al d bc bs M n S μ (pc + 1) L' st Q) : am_Ag al d bc bs M n S μ pc L ((vI z) :: st) Q := by
  intro G p l e R s m args below meth c H locs cells slots nb ls X hc hs hnb hS hR hz hL oL os om
  subst hL'
  exact lv_istore_n X.1 X.2.1 hd hi (am_L_has hL) hn rfl (fun ls' h' => k G p l e R s m args below meth c H locs cells slots nb ls' X hc hs hnb hS hR hz (am_L_set (v := (vI z)) hL h') (am_oks_set oL (am_oks_hd os)) (am_oks_tl os) om)

theorem s_istore {al : Bool} {d bc bs : Nat} {M : am_T} {n : Nat} {S : Nat → am_C} {μ : am_M} {pc : Nat} {L st : List am_V} {Q : am_P} {i : Nat} {z : Int} {L' : List am_V} (hd : decode M.2.1 pc = .ok (.istore i, 2)) (hn : i < M.2.2.1) (hL' : L.set i (vI z) = L') (k : am_Ag al d bc bs M n S μ (pc + 2) L' st Q) : am_Ag al d bc bs M n S μ pc L ((vI z) :: st) Q := by
  intro G p l e R s m args below meth c H locs cells slots nb ls X hc hs hnb hS hR hz hL oL os om
  subst hL'
  exact lv_istore X.1 X.2.1 hd (am_L_has hL) hn rfl (fun ls' h' => k G p l e R s m args below meth c H locs cells slots nb ls' X hc hs hnb hS hR hz (am_L_set (v := (vI z)) hL h') (am_oks_set oL (am_oks_hd os)) (am_oks_tl os) om)

theorem s_astore_n {al : Bool} {d bc bs : Nat} {M : am_T} {n : Nat} {S : Nat → am_C} {μ : am_M} {pc : Nat} {L st : List am_V} {Q : am_P} {k4 : Fin 4} {i q : Nat} {L' : List am_V} (hd : decode M.2.1 pc = .ok (.astore_n k4, 1)) (hi : (k4 : Nat) = i) (hn : i < M.2.2.1) (hL' : L.set i (vR q) = L') (k : am_Ag al d bc bs M n S μ (pc + 1) L' st Q) : am_Ag al d bc bs M n S μ pc L ((vR q) :: st) Q := by
  intro G p l e R s m args below meth c H locs cells slots nb ls X hc hs hnb hS hR hz hL oL os om
  subst hL'
  exact lv_astore_n X.1 X.2.1 hd hi (am_L_has hL) hn rfl (fun ls' h' => k G p l e R s m args below meth c H locs cells slots nb ls' X hc hs hnb hS hR hz (am_L_set (v := (vR q)) hL h') (am_oks_set oL (am_oks_hd os)) (am_oks_tl os) om)

theorem s_iinc {al : Bool} {d bc bs : Nat} {M : am_T} {n : Nat} {S : Nat → am_C} {μ : am_M} {pc : Nat} {L st : List am_V} {Q : am_P} {i : Nat} {a z y : Int} {L' : List am_V} (hd : decode M.2.1 pc = .ok (.iinc i a, 3)) (hl : L[i]? = some (vI z)) (hy : am_w (z + a) = y) (hn : i < M.2.2.1) (hL' : L.set i (vI y) = L') (k : am_Ag al d bc bs M n S μ (pc + 3) L' st Q) : am_Ag al d bc bs M n S μ pc L st Q := by
  intro G p l e R s m args below meth c H locs cells slots nb ls X hc hs hnb hS hR hz hL oL os om
  subst hL'
  subst hy
  obtain ⟨k0, hk0⟩ := List.getElem?_of_mem ((am_pr_in (G := G) L 0 (i, .int (Int32.ofInt z))).mpr ⟨i, vI z, hl, (fun h => by cases h), by simp [am_cv]⟩)
  refine lv_iinc X.1 X.2.1 hd (am_L_has hL) hk0 (v := Int32.ofInt (am_w (z + a))) (by rw [am_wi, Int32.ofInt_add]) hn rfl (fun ls' h' => ?_)
  exact k G p l e R s m args below meth c H locs cells slots nb ls' X hc hs hnb hS hR hz (am_L_set (v := vI (am_w (z + a))) hL h') (am_oks_set oL (am_w_in _)) os om

theorem s_iadd {al : Bool} {d bc bs : Nat} {M : am_T} {n : Nat} {S : Nat → am_C} {μ : am_M} {pc : Nat} {L st : List am_V} {Q : am_P} {x y z : Int} (hd : decode M.2.1 pc = .ok (.iadd, 1)) (hzz : am_w (x + y) = z) (k : am_Ag al d bc bs M n S μ (pc + 1) L (vI z :: st) Q) : am_Ag al d bc bs M n S μ pc L (vI y :: vI x :: st) Q := by
  intro G p l e R s m args below meth c H locs cells slots nb ls X hc hs hnb hS hR hz hL oL os om
  subst hzz
  refine lv_iadd X.1 X.2.1 hd ?_
  have h := k G p l e R s m args below meth c H locs cells slots nb ls X hc hs hnb hS hR hz hL oL (am_oks_cons (am_w_in _) (am_oks_tl (am_oks_tl os))) om
  have e : am_cv G (vI (am_w (x + y))) = .int (Int32.ofInt x + Int32.ofInt y) := by show Value.int _ = _; rw [am_wi, Int32.ofInt_add]
  rw [List.map_cons, e] at h
  exact h

theorem s_isub {al : Bool} {d bc bs : Nat} {M : am_T} {n : Nat} {S : Nat → am_C} {μ : am_M} {pc : Nat} {L st : List am_V} {Q : am_P} {x y z : Int} (hd : decode M.2.1 pc = .ok (.isub, 1)) (hzz : am_w (x - y) = z) (k : am_Ag al d bc bs M n S μ (pc + 1) L (vI z :: st) Q) : am_Ag al d bc bs M n S μ pc L (vI y :: vI x :: st) Q := by
  intro G p l e R s m args below meth c H locs cells slots nb ls X hc hs hnb hS hR hz hL oL os om
  subst hzz
  refine lv_isub X.1 X.2.1 hd ?_
  have h := k G p l e R s m args below meth c H locs cells slots nb ls X hc hs hnb hS hR hz hL oL (am_oks_cons (am_w_in _) (am_oks_tl (am_oks_tl os))) om
  have e : am_cv G (vI (am_w (x - y))) = .int (Int32.ofInt x - Int32.ofInt y) := by show Value.int _ = _; rw [am_wi, Int32.ofInt_sub]
  rw [List.map_cons, e] at h
  exact h

theorem s_imul {al : Bool} {d bc bs : Nat} {M : am_T} {n : Nat} {S : Nat → am_C} {μ : am_M} {pc : Nat} {L st : List am_V} {Q : am_P} {x y z : Int} (hd : decode M.2.1 pc = .ok (.imul, 1)) (hzz : am_w (x * y) = z) (k : am_Ag al d bc bs M n S μ (pc + 1) L (vI z :: st) Q) : am_Ag al d bc bs M n S μ pc L (vI y :: vI x :: st) Q := by
  intro G p l e R s m args below meth c H locs cells slots nb ls X hc hs hnb hS hR hz hL oL os om
  subst hzz
  refine lv_imul X.1 X.2.1 hd ?_
  have h := k G p l e R s m args below meth c H locs cells slots nb ls X hc hs hnb hS hR hz hL oL (am_oks_cons (am_w_in _) (am_oks_tl (am_oks_tl os))) om
  have e : am_cv G (vI (am_w (x * y))) = .int (Int32.ofInt x * Int32.ofInt y) := by show Value.int _ = _; rw [am_wi, Int32.ofInt_mul]
  rw [List.map_cons, e] at h
  exact h

theorem am_div {x y : Int} (hx : am_in x) (hy : am_in y) : Int32.ofInt (am_w (x.tdiv y)) = Int32.ofInt x / Int32.ofInt y := by
  rw [am_wi]
  apply Int32.toInt_inj.mp
  rw [Int32.toInt_div, am_oi hx, am_oi hy, Int32.toInt_ofInt]
theorem am_rem {x y : Int} (hx : am_in x) (hy : am_in y) : Int32.ofInt (x.tmod y) = Int32.ofInt x - Int32.ofInt x / Int32.ofInt y * Int32.ofInt y ∧ am_in (x.tmod y) := by
  have e : (Int32.ofInt x - Int32.ofInt x / Int32.ofInt y * Int32.ofInt y).toInt = x.tmod y := by
    rw [rem_toInt, am_oi hx, am_oi hy]
  have h := am_ti (Int32.ofInt x - Int32.ofInt x / Int32.ofInt y * Int32.ofInt y)
  rw [e] at h
  refine ⟨?_, h⟩
  apply Int32.toInt_inj.mp
  rw [e, am_oi h]
theorem s_idiv {al : Bool} {d bc bs : Nat} {M : am_T} {n : Nat} {S : Nat → am_C} {μ : am_M} {pc : Nat} {L st : List am_V} {Q : am_P} {x y z : Int} (hd : decode M.2.1 pc = .ok (.idiv, 1)) (hy : y ≠ 0) (hzz : am_w (x.tdiv y) = z) (k : am_Ag al d bc bs M n S μ (pc + 1) L (vI z :: st) Q) : am_Ag al d bc bs M n S μ pc L (vI y :: vI x :: st) Q := by
  intro G p l e R s m args below meth c H locs cells slots nb ls X hc hs hnb hS hR hz hL oL os om
  subst hzz
  have o1 : am_in y := am_oks_hd os
  have o2 : am_in x := am_oks_hd (am_oks_tl os)
  refine lv_idiv X.1 X.2.1 hd (fun h => hy ((am_eqI o1 am_in0).mp h)) ?_
  have h := k G p l e R s m args below meth c H locs cells slots nb ls X hc hs hnb hS hR hz hL oL (am_oks_cons (am_w_in _) (am_oks_tl (am_oks_tl os))) om
  have e : am_cv G (vI (am_w (x.tdiv y))) = .int (Int32.ofInt x / Int32.ofInt y) := by show Value.int _ = _; rw [am_div o2 o1]
  rw [List.map_cons, e] at h
  exact h
theorem s_irem {al : Bool} {d bc bs : Nat} {M : am_T} {n : Nat} {S : Nat → am_C} {μ : am_M} {pc : Nat} {L st : List am_V} {Q : am_P} {x y z : Int} (hd : decode M.2.1 pc = .ok (.irem, 1)) (hy : y ≠ 0) (hzz : x.tmod y = z) (k : am_Ag al d bc bs M n S μ (pc + 1) L (vI z :: st) Q) : am_Ag al d bc bs M n S μ pc L (vI y :: vI x :: st) Q := by
  intro G p l e R s m args below meth c H locs cells slots nb ls X hc hs hnb hS hR hz hL oL os om
  subst hzz
  have o1 : am_in y := am_oks_hd os
  have o2 : am_in x := am_oks_hd (am_oks_tl os)
  refine lv_irem X.1 X.2.1 hd (fun h => hy ((am_eqI o1 am_in0).mp h)) ?_
  have h := k G p l e R s m args below meth c H locs cells slots nb ls X hc hs hnb hS hR hz hL oL (am_oks_cons (am_rem o2 o1).2 (am_oks_tl (am_oks_tl os))) om
  have e : am_cv G (vI (x.tmod y)) = .int (Int32.ofInt x - Int32.ofInt x / Int32.ofInt y * Int32.ofInt y) := by show Value.int _ = _; rw [(am_rem o2 o1).1]
  rw [List.map_cons, e] at h
  exact h

def am_and (x y : Int) : Int := (Int32.ofInt x &&& Int32.ofInt y).toInt
def am_or (x y : Int) : Int := (Int32.ofInt x ||| Int32.ofInt y).toInt
def am_shl (x y : Int) : Int := (Int32.ofInt x <<< (Int32.ofInt y &&& 31)).toInt
def am_shr (x y : Int) : Int := (Int32.ofInt x >>> (Int32.ofInt y &&& 31)).toInt
def am_ushr (x y : Int) : Int := ((Int32.ofInt x).toUInt32 >>> ((Int32.ofInt y).toUInt32 &&& Int32.toUInt32 31)).toInt32.toInt

theorem s_iand {al : Bool} {d bc bs : Nat} {M : am_T} {n : Nat} {S : Nat → am_C} {μ : am_M} {pc : Nat} {L st : List am_V} {Q : am_P} {x y z : Int} (hd : decode M.2.1 pc = .ok (.iand, 1)) (hzz : am_and x y = z) (k : am_Ag al d bc bs M n S μ (pc + 1) L (vI z :: st) Q) : am_Ag al d bc bs M n S μ pc L (vI y :: vI x :: st) Q := by
  intro G p l e R s m args below meth c H locs cells slots nb ls X hc hs hnb hS hR hz hL oL os om
  subst hzz
  refine lv_iand X.1 X.2.1 hd ?_
  have h := k G p l e R s m args below meth c H locs cells slots nb ls X hc hs hnb hS hR hz hL oL (am_oks_cons (am_ti _) (am_oks_tl (am_oks_tl os))) om
  rw [List.map_cons, show am_cv G (vI (am_and x y)) = .int (Int32.ofInt (am_and x y)) from rfl] at h
  unfold am_and at h
  rw [Int32.ofInt_toInt] at h
  exact h

theorem s_ior {al : Bool} {d bc bs : Nat} {M : am_T} {n : Nat} {S : Nat → am_C} {μ : am_M} {pc : Nat} {L st : List am_V} {Q : am_P} {x y z : Int} (hd : decode M.2.1 pc = .ok (.ior, 1)) (hzz : am_or x y = z) (k : am_Ag al d bc bs M n S μ (pc + 1) L (vI z :: st) Q) : am_Ag al d bc bs M n S μ pc L (vI y :: vI x :: st) Q := by
  intro G p l e R s m args below meth c H locs cells slots nb ls X hc hs hnb hS hR hz hL oL os om
  subst hzz
  refine lv_ior X.1 X.2.1 hd ?_
  have h := k G p l e R s m args below meth c H locs cells slots nb ls X hc hs hnb hS hR hz hL oL (am_oks_cons (am_ti _) (am_oks_tl (am_oks_tl os))) om
  rw [List.map_cons, show am_cv G (vI (am_or x y)) = .int (Int32.ofInt (am_or x y)) from rfl] at h
  unfold am_or at h
  rw [Int32.ofInt_toInt] at h
  exact h

theorem s_ishl {al : Bool} {d bc bs : Nat} {M : am_T} {n : Nat} {S : Nat → am_C} {μ : am_M} {pc : Nat} {L st : List am_V} {Q : am_P} {x y z : Int} (hd : decode M.2.1 pc = .ok (.ishl, 1)) (hzz : am_shl x y = z) (k : am_Ag al d bc bs M n S μ (pc + 1) L (vI z :: st) Q) : am_Ag al d bc bs M n S μ pc L (vI y :: vI x :: st) Q := by
  intro G p l e R s m args below meth c H locs cells slots nb ls X hc hs hnb hS hR hz hL oL os om
  subst hzz
  refine lv_ishl X.1 X.2.1 hd ?_
  have h := k G p l e R s m args below meth c H locs cells slots nb ls X hc hs hnb hS hR hz hL oL (am_oks_cons (am_ti _) (am_oks_tl (am_oks_tl os))) om
  rw [List.map_cons, show am_cv G (vI (am_shl x y)) = .int (Int32.ofInt (am_shl x y)) from rfl] at h
  unfold am_shl at h
  rw [Int32.ofInt_toInt] at h
  exact h

theorem s_ishr {al : Bool} {d bc bs : Nat} {M : am_T} {n : Nat} {S : Nat → am_C} {μ : am_M} {pc : Nat} {L st : List am_V} {Q : am_P} {x y z : Int} (hd : decode M.2.1 pc = .ok (.ishr, 1)) (hzz : am_shr x y = z) (k : am_Ag al d bc bs M n S μ (pc + 1) L (vI z :: st) Q) : am_Ag al d bc bs M n S μ pc L (vI y :: vI x :: st) Q := by
  intro G p l e R s m args below meth c H locs cells slots nb ls X hc hs hnb hS hR hz hL oL os om
  subst hzz
  refine lv_ishr X.1 X.2.1 hd ?_
  have h := k G p l e R s m args below meth c H locs cells slots nb ls X hc hs hnb hS hR hz hL oL (am_oks_cons (am_ti _) (am_oks_tl (am_oks_tl os))) om
  rw [List.map_cons, show am_cv G (vI (am_shr x y)) = .int (Int32.ofInt (am_shr x y)) from rfl] at h
  unfold am_shr at h
  rw [Int32.ofInt_toInt] at h
  exact h

theorem s_iushr {al : Bool} {d bc bs : Nat} {M : am_T} {n : Nat} {S : Nat → am_C} {μ : am_M} {pc : Nat} {L st : List am_V} {Q : am_P} {x y z : Int} (hd : decode M.2.1 pc = .ok (.iushr, 1)) (hzz : am_ushr x y = z) (k : am_Ag al d bc bs M n S μ (pc + 1) L (vI z :: st) Q) : am_Ag al d bc bs M n S μ pc L (vI y :: vI x :: st) Q := by
  intro G p l e R s m args below meth c H locs cells slots nb ls X hc hs hnb hS hR hz hL oL os om
  subst hzz
  refine lv_iushr X.1 X.2.1 hd rfl ?_
  have h := k G p l e R s m args below meth c H locs cells slots nb ls X hc hs hnb hS hR hz hL oL (am_oks_cons (am_ti _) (am_oks_tl (am_oks_tl os))) om
  rw [List.map_cons, show am_cv G (vI (am_ushr x y)) = .int (Int32.ofInt (am_ushr x y)) from rfl] at h
  unfold am_ushr at h
  rw [Int32.ofInt_toInt] at h
  exact h

theorem s_dup {al : Bool} {d bc bs : Nat} {M : am_T} {n : Nat} {S : Nat → am_C} {μ : am_M} {pc : Nat} {L st : List am_V} {Q : am_P} {v : am_V} (hd : decode M.2.1 pc = .ok (.dup, 1)) (k : am_Ag al d bc bs M n S μ (pc + 1) L (v :: v :: st) Q) : am_Ag al d bc bs M n S μ pc L (v :: st) Q := by
  intro G p l e R s m args below meth c H locs cells slots nb ls X hc hs hnb hS hR hz hL oL os om
  exact lv_dup X.1 X.2.1 hd (am_cat G v) (k G p l e R s m args below meth c H locs cells slots nb ls X hc hs hnb hS hR hz hL oL (am_oks_cons (am_oks_hd os) os) om)

theorem s_dup2 {al : Bool} {d bc bs : Nat} {M : am_T} {n : Nat} {S : Nat → am_C} {μ : am_M} {pc : Nat} {L st : List am_V} {Q : am_P} {u v : am_V} (hd : decode M.2.1 pc = .ok (.dup2, 1)) (k : am_Ag al d bc bs M n S μ (pc + 1) L (u :: v :: u :: v :: st) Q) : am_Ag al d bc bs M n S μ pc L (u :: v :: st) Q := by
  intro G p l e R s m args below meth c H locs cells slots nb ls X hc hs hnb hS hR hz hL oL os om
  exact lv_dup2_11 X.1 X.2.1 hd (am_cat G u) (am_cat G v) (k G p l e R s m args below meth c H locs cells slots nb ls X hc hs hnb hS hR hz hL oL (am_oks_cons (am_oks_hd os) (am_oks_cons (am_oks_hd (am_oks_tl os)) os)) om)

theorem s_goto {al : Bool} {d bc bs : Nat} {M : am_T} {n : Nat} {S : Nat → am_C} {μ : am_M} {pc : Nat} {L st : List am_V} {Q : am_P} {off : Int} {tgt : Nat} (hd : decode M.2.1 pc = .ok (.goto off, 3)) (ht : (pc : Int) + off = (tgt : Int)) (k : am_Ag al d bc bs M n S μ tgt L st Q) : am_Ag al d bc bs M n S μ pc L st Q := by
  intro G p l e R s m args below meth c H locs cells slots nb ls X hc hs hnb hS hR hz hL oL os om
  exact lv_goto X.1 X.2.1 hd ht (k G p l e R s m args below meth c H locs cells slots nb ls X hc hs hnb hS hR hz hL oL os om)

theorem s_ifnonnull {al : Bool} {d bc bs : Nat} {M : am_T} {n : Nat} {S : Nat → am_C} {μ : am_M} {pc : Nat} {L st : List am_V} {Q : am_P} {off : Int} {tgt q : Nat} (hd : decode M.2.1 pc = .ok (.ifnonnull off, 3)) (ht : (pc : Int) + off = (tgt : Int)) (k : am_Ag al d bc bs M n S μ tgt L st Q) : am_Ag al d bc bs M n S μ pc L (vR q :: st) Q := by
  intro G p l e R s m args below meth c H locs cells slots nb ls X hc hs hnb hS hR hz hL oL os om
  exact lv_ifnonnull X.1 X.2.1 hd ht (k G p l e R s m args below meth c H locs cells slots nb ls X hc hs hnb hS hR hz hL oL (am_oks_tl os) om)

theorem s_ifnull {al : Bool} {d bc bs : Nat} {M : am_T} {n : Nat} {S : Nat → am_C} {μ : am_M} {pc : Nat} {L st : List am_V} {Q : am_P} {off : Int} {q : Nat} (hd : decode M.2.1 pc = .ok (.ifnull off, 3)) (k : am_Ag al d bc bs M n S μ (pc + 3) L st Q) : am_Ag al d bc bs M n S μ pc L (vR q :: st) Q := by
  intro G p l e R s m args below meth c H locs cells slots nb ls X hc hs hnb hS hR hz hL oL os om
  exact lv_ifnull X.1 X.2.1 hd (k G p l e R s m args below meth c H locs cells slots nb ls X hc hs hnb hS hR hz hL oL (am_oks_tl os) om)

theorem s_if_eq {al : Bool} {d bc bs : Nat} {M : am_T} {n : Nat} {S : Nat → am_C} {μ : am_M} {pc : Nat} {L st : List am_V} {Q : am_P} {x off : Int} {tgt : Nat} (hd : decode M.2.1 pc = .ok (.ifCond .eq off, 3)) (ht : (pc : Int) + off = (tgt : Int)) (kt : x = 0 → am_Ag al d bc bs M n S μ tgt L st Q) (kf : x ≠ 0 → am_Ag al d bc bs M n S μ (pc + 3) L st Q) : am_Ag al d bc bs M n S μ pc L (vI x :: st) Q := by
  intro G p l e R s m args below meth c H locs cells slots nb ls X hc hs hnb hS hR hz hL oL os om
  have o1 : am_in x := am_oks_hd os
  exact lv_if_eq X.1 X.2.1 hd ht (fun h => kt ((am_eqI o1 am_in0).mp h) G p l e R s m args below meth c H locs cells slots nb ls X hc hs hnb hS hR hz hL oL (am_oks_tl os) om) (fun h => kf (fun q => h ((am_eqI o1 am_in0).mpr q)) G p l e R s m args below meth c H locs cells slots nb ls X hc hs hnb hS hR hz hL oL (am_oks_tl os) om)

theorem s_icmp_eq {al : Bool} {d bc bs : Nat} {M : am_T} {n : Nat} {S : Nat → am_C} {μ : am_M} {pc : Nat} {L st : List am_V} {Q : am_P} {x y off : Int} {tgt : Nat} (hd : decode M.2.1 pc = .ok (.if_icmp .eq off, 3)) (ht : (pc : Int) + off = (tgt : Int)) (kt : x = y → am_Ag al d bc bs M n S μ tgt L st Q) (kf : x ≠ y → am_Ag al d bc bs M n S μ (pc + 3) L st Q) : am_Ag al d bc bs M n S μ pc L (vI y :: vI x :: st) Q := by
  intro G p l e R s m args below meth c H locs cells slots nb ls X hc hs hnb hS hR hz hL oL os om
  have o2 : am_in y := am_oks_hd os
  have o1 : am_in x := am_oks_hd (am_oks_tl os)
  exact lv_icmp_eq X.1 X.2.1 hd ht (fun h => kt ((am_eqI o1 o2).mp h) G p l e R s m args below meth c H locs cells slots nb ls X hc hs hnb hS hR hz hL oL (am_oks_tl (am_oks_tl os)) om) (fun h => kf (fun q => h ((am_eqI o1 o2).mpr q)) G p l e R s m args below meth c H locs cells slots nb ls X hc hs hnb hS hR hz hL oL (am_oks_tl (am_oks_tl os)) om)

theorem s_if_ne {al : Bool} {d bc bs : Nat} {M : am_T} {n : Nat} {S : Nat → am_C} {μ : am_M} {pc : Nat} {L st : List am_V} {Q : am_P} {x off : Int} {tgt : Nat} (hd : decode M.2.1 pc = .ok (.ifCond .ne off, 3)) (ht : (pc : Int) + off = (tgt : Int)) (kt : x ≠ 0 → am_Ag al d bc bs M n S μ tgt L st Q) (kf : x = 0 → am_Ag al d bc bs M n S μ (pc + 3) L st Q) : am_Ag al d bc bs M n S μ pc L (vI x :: st) Q := by
  intro G p l e R s m args below meth c H locs cells slots nb ls X hc hs hnb hS hR hz hL oL os om
  have o1 : am_in x := am_oks_hd os
  exact lv_if_ne X.1 X.2.1 hd ht (fun h => kt (fun q => h ((am_eqI o1 am_in0).mpr q)) G p l e R s m args below meth c H locs cells slots nb ls X hc hs hnb hS hR hz hL oL (am_oks_tl os) om) (fun h => kf ((am_eqI o1 am_in0).mp h) G p l e R s m args below meth c H locs cells slots nb ls X hc hs hnb hS hR hz hL oL (am_oks_tl os) om)

theorem s_icmp_ne {al : Bool} {d bc bs : Nat} {M : am_T} {n : Nat} {S : Nat → am_C} {μ : am_M} {pc : Nat} {L st : List am_V} {Q : am_P} {x y off : Int} {tgt : Nat} (hd : decode M.2.1 pc = .ok (.if_icmp .ne off, 3)) (ht : (pc : Int) + off = (tgt : Int)) (kt : x ≠ y → am_Ag al d bc bs M n S μ tgt L st Q) (kf : x = y → am_Ag al d bc bs M n S μ (pc + 3) L st Q) : am_Ag al d bc bs M n S μ pc L (vI y :: vI x :: st) Q := by
  intro G p l e R s m args below meth c H locs cells slots nb ls X hc hs hnb hS hR hz hL oL os om
  have o2 : am_in y := am_oks_hd os
  have o1 : am_in x := am_oks_hd (am_oks_tl os)
  exact lv_icmp_ne X.1 X.2.1 hd ht (fun h => kt (fun q => h ((am_eqI o1 o2).mpr q)) G p l e R s m args below meth c H locs cells slots nb ls X hc hs hnb hS hR hz hL oL (am_oks_tl (am_oks_tl os)) om) (fun h => kf ((am_eqI o1 o2).mp h) G p l e R s m args below meth c H locs cells slots nb ls X hc hs hnb hS hR hz hL oL (am_oks_tl (am_oks_tl os)) om)

theorem s_if_lt {al : Bool} {d bc bs : Nat} {M : am_T} {n : Nat} {S : Nat → am_C} {μ : am_M} {pc : Nat} {L st : List am_V} {Q : am_P} {x off : Int} {tgt : Nat} (hd : decode M.2.1 pc = .ok (.ifCond .lt off, 3)) (ht : (pc : Int) + off = (tgt : Int)) (kt : x < 0 → am_Ag al d bc bs M n S μ tgt L st Q) (kf : 0 ≤ x → am_Ag al d bc bs M n S μ (pc + 3) L st Q) : am_Ag al d bc bs M n S μ pc L (vI x :: st) Q := by
  intro G p l e R s m args below meth c H locs cells slots nb ls X hc hs hnb hS hR hz hL oL os om
  have o1 : am_in x := am_oks_hd os
  exact lv_if_lt X.1 X.2.1 hd ht (fun h => kt ((am_ltI o1 am_in0).mp h) G p l e R s m args below meth c H locs cells slots nb ls X hc hs hnb hS hR hz hL oL (am_oks_tl os) om) (fun h => kf (Int.not_lt.mp (fun q => h ((am_ltI o1 am_in0).mpr q))) G p l e R s m args below meth c H locs cells slots nb ls X hc hs hnb hS hR hz hL oL (am_oks_tl os) om)

theorem s_icmp_lt {al : Bool} {d bc bs : Nat} {M : am_T} {n : Nat} {S : Nat → am_C} {μ : am_M} {pc : Nat} {L st : List am_V} {Q : am_P} {x y off : Int} {tgt : Nat} (hd : decode M.2.1 pc = .ok (.if_icmp .lt off, 3)) (ht : (pc : Int) + off = (tgt : Int)) (kt : x < y → am_Ag al d bc bs M n S μ tgt L st Q) (kf : y ≤ x → am_Ag al d bc bs M n S μ (pc + 3) L st Q) : am_Ag al d bc bs M n S μ pc L (vI y :: vI x :: st) Q := by
  intro G p l e R s m args below meth c H locs cells slots nb ls X hc hs hnb hS hR hz hL oL os om
  have o2 : am_in y := am_oks_hd os
  have o1 : am_in x := am_oks_hd (am_oks_tl os)
  exact lv_icmp_lt X.1 X.2.1 hd ht (fun h => kt ((am_ltI o1 o2).mp h) G p l e R s m args below meth c H locs cells slots nb ls X hc hs hnb hS hR hz hL oL (am_oks_tl (am_oks_tl os)) om) (fun h => kf (Int.not_lt.mp (fun q => h ((am_ltI o1 o2).mpr q))) G p l e R s m args below meth c H locs cells slots nb ls X hc hs hnb hS hR hz hL oL (am_oks_tl (am_oks_tl os)) om)

theorem s_if_ge {al : Bool} {d bc bs : Nat} {M : am_T} {n : Nat} {S : Nat → am_C} {μ : am_M} {pc : Nat} {L st : List am_V} {Q : am_P} {x off : Int} {tgt : Nat} (hd : decode M.2.1 pc = .ok (.ifCond .ge off, 3)) (ht : (pc : Int) + off = (tgt : Int)) (kt : 0 ≤ x → am_Ag al d bc bs M n S μ tgt L st Q) (kf : x < 0 → am_Ag al d bc bs M n S μ (pc + 3) L st Q) : am_Ag al d bc bs M n S μ pc L (vI x :: st) Q := by
  intro G p l e R s m args below meth c H locs cells slots nb ls X hc hs hnb hS hR hz hL oL os om
  have o1 : am_in x := am_oks_hd os
  exact lv_if_ge X.1 X.2.1 hd ht (fun h => kt ((am_leI am_in0 o1).mp h) G p l e R s m args below meth c H locs cells slots nb ls X hc hs hnb hS hR hz hL oL (am_oks_tl os) om) (fun h => kf (Int.not_le.mp (fun q => h ((am_leI am_in0 o1).mpr q))) G p l e R s m args below meth c H locs cells slots nb ls X hc hs hnb hS hR hz hL oL (am_oks_tl os) om)

theorem s_icmp_ge {al : Bool} {d bc bs : Nat} {M : am_T} {n : Nat} {S : Nat → am_C} {μ : am_M} {pc : Nat} {L st : List am_V} {Q : am_P} {x y off : Int} {tgt : Nat} (hd : decode M.2.1 pc = .ok (.if_icmp .ge off, 3)) (ht : (pc : Int) + off = (tgt : Int)) (kt : y ≤ x → am_Ag al d bc bs M n S μ tgt L st Q) (kf : x < y → am_Ag al d bc bs M n S μ (pc + 3) L st Q) : am_Ag al d bc bs M n S μ pc L (vI y :: vI x :: st) Q := by
  intro G p l e R s m args below meth c H locs cells slots nb ls X hc hs hnb hS hR hz hL oL os om
  have o2 : am_in y := am_oks_hd os
  have o1 : am_in x := am_oks_hd (am_oks_tl os)
  exact lv_icmp_ge X.1 X.2.1 hd ht (fun h => kt ((am_leI o2 o1).mp h) G p l e R s m args below meth c H locs cells slots nb ls X hc hs hnb hS hR hz hL oL (am_oks_tl (am_oks_tl os)) om) (fun h => kf (Int.not_le.mp (fun q => h ((am_leI o2 o1).mpr q))) G p l e R s m args below meth c H locs cells slots nb ls X hc hs hnb hS hR hz hL oL (am_oks_tl (am_oks_tl os)) om)

theorem s_if_gt {al : Bool} {d bc bs : Nat} {M : am_T} {n : Nat} {S : Nat → am_C} {μ : am_M} {pc : Nat} {L st : List am_V} {Q : am_P} {x off : Int} {tgt : Nat} (hd : decode M.2.1 pc = .ok (.ifCond .gt off, 3)) (ht : (pc : Int) + off = (tgt : Int)) (kt : 0 < x → am_Ag al d bc bs M n S μ tgt L st Q) (kf : x ≤ 0 → am_Ag al d bc bs M n S μ (pc + 3) L st Q) : am_Ag al d bc bs M n S μ pc L (vI x :: st) Q := by
  intro G p l e R s m args below meth c H locs cells slots nb ls X hc hs hnb hS hR hz hL oL os om
  have o1 : am_in x := am_oks_hd os
  exact lv_if_gt X.1 X.2.1 hd ht (fun h => kt ((am_ltI am_in0 o1).mp h) G p l e R s m args below meth c H locs cells slots nb ls X hc hs hnb hS hR hz hL oL (am_oks_tl os) om) (fun h => kf (Int.not_lt.mp (fun q => h ((am_ltI am_in0 o1).mpr q))) G p l e R s m args below meth c H locs cells slots nb ls X hc hs hnb hS hR hz hL oL (am_oks_tl os) om)

theorem s_icmp_gt {al : Bool} {d bc bs : Nat} {M : am_T} {n : Nat} {S : Nat → am_C} {μ : am_M} {pc : Nat} {L st : List am_V} {Q : am_P} {x y off : Int} {tgt : Nat} (hd : decode M.2.1 pc = .ok (.if_icmp .gt off, 3)) (ht : (pc : Int) + off = (tgt : Int)) (kt : y < x → am_Ag al d bc bs M n S μ tgt L st Q) (kf : x ≤ y → am_Ag al d bc bs M n S μ (pc + 3) L st Q) : am_Ag al d bc bs M n S μ pc L (vI y :: vI x :: st) Q := by
  intro G p l e R s m args below meth c H locs cells slots nb ls X hc hs hnb hS hR hz hL oL os om
  have o2 : am_in y := am_oks_hd os
  have o1 : am_in x := am_oks_hd (am_oks_tl os)
  exact lv_icmp_gt X.1 X.2.1 hd ht (fun h => kt ((am_ltI o2 o1).mp h) G p l e R s m args below meth c H locs cells slots nb ls X hc hs hnb hS hR hz hL oL (am_oks_tl (am_oks_tl os)) om) (fun h => kf (Int.not_lt.mp (fun q => h ((am_ltI o2 o1).mpr q))) G p l e R s m args below meth c H locs cells slots nb ls X hc hs hnb hS hR hz hL oL (am_oks_tl (am_oks_tl os)) om)

theorem s_if_le {al : Bool} {d bc bs : Nat} {M : am_T} {n : Nat} {S : Nat → am_C} {μ : am_M} {pc : Nat} {L st : List am_V} {Q : am_P} {x off : Int} {tgt : Nat} (hd : decode M.2.1 pc = .ok (.ifCond .le off, 3)) (ht : (pc : Int) + off = (tgt : Int)) (kt : x ≤ 0 → am_Ag al d bc bs M n S μ tgt L st Q) (kf : 0 < x → am_Ag al d bc bs M n S μ (pc + 3) L st Q) : am_Ag al d bc bs M n S μ pc L (vI x :: st) Q := by
  intro G p l e R s m args below meth c H locs cells slots nb ls X hc hs hnb hS hR hz hL oL os om
  have o1 : am_in x := am_oks_hd os
  exact lv_if_le X.1 X.2.1 hd ht (fun h => kt ((am_leI o1 am_in0).mp h) G p l e R s m args below meth c H locs cells slots nb ls X hc hs hnb hS hR hz hL oL (am_oks_tl os) om) (fun h => kf (Int.not_le.mp (fun q => h ((am_leI o1 am_in0).mpr q))) G p l e R s m args below meth c H locs cells slots nb ls X hc hs hnb hS hR hz hL oL (am_oks_tl os) om)

theorem s_icmp_le {al : Bool} {d bc bs : Nat} {M : am_T} {n : Nat} {S : Nat → am_C} {μ : am_M} {pc : Nat} {L st : List am_V} {Q : am_P} {x y off : Int} {tgt : Nat} (hd : decode M.2.1 pc = .ok (.if_icmp .le off, 3)) (ht : (pc : Int) + off = (tgt : Int)) (kt : x ≤ y → am_Ag al d bc bs M n S μ tgt L st Q) (kf : y < x → am_Ag al d bc bs M n S μ (pc + 3) L st Q) : am_Ag al d bc bs M n S μ pc L (vI y :: vI x :: st) Q := by
  intro G p l e R s m args below meth c H locs cells slots nb ls X hc hs hnb hS hR hz hL oL os om
  have o2 : am_in y := am_oks_hd os
  have o1 : am_in x := am_oks_hd (am_oks_tl os)
  exact lv_icmp_le X.1 X.2.1 hd ht (fun h => kt ((am_leI o1 o2).mp h) G p l e R s m args below meth c H locs cells slots nb ls X hc hs hnb hS hR hz hL oL (am_oks_tl (am_oks_tl os)) om) (fun h => kf (Int.not_le.mp (fun q => h ((am_leI o1 o2).mpr q))) G p l e R s m args below meth c H locs cells slots nb ls X hc hs hnb hS hR hz hL oL (am_oks_tl (am_oks_tl os)) om)

theorem s_table_in {al : Bool} {d bc bs : Nat} {M : am_T} {n : Nat} {S : Nat → am_C} {μ : am_M} {pc : Nat} {L st : List am_V} {Q : am_P} {dflt lo hi : Int} {offs : Array Int} {len : Nat} {x off : Int} {tgt : Nat} (hd : decode M.2.1 pc = .ok (.tableswitch dflt lo hi offs, len)) (h1 : lo ≤ x) (h2 : x ≤ hi) (ho : offs[(x - lo).toNat]? = some off) (ht : (pc : Int) + off = (tgt : Int)) (k : am_Ag al d bc bs M n S μ tgt L st Q) : am_Ag al d bc bs M n S μ pc L (vI x :: st) Q := by
  intro G p l e R s m args below meth c H locs cells slots nb ls X hc hs hnb hS hR hz hL oL os om
  have exx := am_oi (am_oks_hd os)
  exact lv_tableIn X.1 X.2.1 hd (by rw [exx]; omega) (by rw [exx]; omega) (by rw [exx]; exact ho) ht (k G p l e R s m args below meth c H locs cells slots nb ls X hc hs hnb hS hR hz hL oL (am_oks_tl os) om)
theorem s_table_out {al : Bool} {d bc bs : Nat} {M : am_T} {n : Nat} {S : Nat → am_C} {μ : am_M} {pc : Nat} {L st : List am_V} {Q : am_P} {dflt lo hi : Int} {offs : Array Int} {len : Nat} {x : Int} {tgt : Nat} (hd : decode M.2.1 pc = .ok (.tableswitch dflt lo hi offs, len)) (h : x < lo ∨ hi < x) (ht : (pc : Int) + dflt = (tgt : Int)) (k : am_Ag al d bc bs M n S μ tgt L st Q) : am_Ag al d bc bs M n S μ pc L (vI x :: st) Q := by
  intro G p l e R s m args below meth c H locs cells slots nb ls X hc hs hnb hS hR hz hL oL os om
  have exx := am_oi (am_oks_hd os)
  exact lv_tableOut X.1 X.2.1 hd (by rw [exx]; exact h) ht (k G p l e R s m args below meth c H locs cells slots nb ls X hc hs hnb hS hR hz hL oL (am_oks_tl os) om)
theorem s_lookup {al : Bool} {d bc bs : Nat} {M : am_T} {n : Nat} {S : Nat → am_C} {μ : am_M} {pc : Nat} {L st : List am_V} {Q : am_P} {dflt : Int} {ps : Array (Int × Int)} {len : Nat} {x off : Int} {tgt : Nat} (hd : decode M.2.1 pc = .ok (.lookupswitch dflt ps, len)) (hp : (ps.toList.zip (ps.toList.drop 1)).all (fun (a, next) => a.1 < next.1) = true) (ho : Op.lookupswitch.offset ps.toList dflt x = off) (ht : (pc : Int) + off = (tgt : Int)) (k : am_Ag al d bc bs M n S μ tgt L st Q) : am_Ag al d bc bs M n S μ pc L (vI x :: st) Q := by
  intro G p l e R s m args below meth c H locs cells slots nb ls X hc hs hnb hS hR hz hL oL os om
  have exx := am_oi (am_oks_hd os)
  exact lv_lookup X.1 X.2.1 hd hp (by rw [exx]; exact ho) ht (k G p l e R s m args below meth c H locs cells slots nb ls X hc hs hnb hS hR hz hL oL (am_oks_tl os) om)

/-! while a world is made: its cells are a list -/
abbrev am_Lc : Type := List (Nat × Nat × List Nat)
def am_sr : List Nat → Nat → Nat → List Nat
  | [], 0, v => [v]
  | [], j + 1, v => 0 :: am_sr [] j v
  | _ :: l, 0, v => v :: l
  | x :: l, j + 1, v => x :: am_sr l j v
theorem am_sr_at : ∀ (l : List Nat) (j v i : Nat), (am_sr l j v).getD i 0 = if i = j then v else l.getD i 0
  | [], 0, v, i => by cases i <;> simp [am_sr]
  | [], j + 1, v, i => by
    cases i with
    | zero => simp [am_sr]
    | succ i =>
      have h := am_sr_at [] j v i
      simp only [am_sr, List.getD_cons_succ, h, Nat.add_right_cancel_iff, List.getD_nil]
  | _ :: l, 0, v, i => by cases i <;> simp [am_sr]
  | x :: l, j + 1, v, i => by
    cases i with
    | zero => simp [am_sr]
    | succ i =>
      have h := am_sr_at l j v i
      simp only [am_sr, List.getD_cons_succ, h, Nat.add_right_cancel_iff]
abbrev am_cc (c : Nat × Nat × List Nat) : am_C := (c.1, c.2.1, fun j => c.2.2.getD j 0)
theorem am_cell_of {l : am_Lc} {k : Nat} {c : Nat × Nat × List Nat} (h : l[k]? = some c) : am_cell l k = am_cc c := by
  unfold am_cell
  rw [List.getD_eq_getElem?_getD, h]
  rfl
theorem am_cell_no {l : am_Lc} {k : Nat} (h : l.length ≤ k) : am_cell l k = (0, 0, fun _ => 0) := by
  unfold am_cell
  rw [List.getD_eq_getElem?_getD, List.getElem?_eq_none h]
  rfl
theorem am_cell_app {l ys : am_Lc} {S : Nat → am_C} (h0 : ∀ k, k < l.length → S k = am_cell l k) (h1 : ∀ i c, ys[i]? = some c → S (l.length + i) = am_cc c) (h2 : ∀ k, l.length + ys.length ≤ k → S k = (0, 0, fun _ => 0)) : S = am_cell (l ++ ys) := by
  funext k
  by_cases ha : k < l.length
  · rw [h0 k ha, am_cell_of (List.getElem?_eq_getElem ha), am_cell_of ((List.getElem?_append_left ha).trans (List.getElem?_eq_getElem ha))]
  · by_cases hb : k < l.length + ys.length
    · have hi : k - l.length < ys.length := by omega
      have e : (l ++ ys)[k]? = some ys[k - l.length] := (List.getElem?_append_right (by omega)).trans (List.getElem?_eq_getElem hi)
      rw [am_cell_of e, ← h1 _ _ (List.getElem?_eq_getElem hi), Nat.add_sub_cancel' (by omega)]
    · rw [h2 k (by omega), am_cell_no (by rw [List.length_append]; omega)]
theorem am_cell_push (l : am_Lc) (ci len : Nat) : am_sS (am_cell l) l.length (am_c0 ci len) = am_cell (l ++ [(ci, len, [])]) := by
  refine am_cell_app (fun k hk => if_neg (Nat.ne_of_lt hk)) (fun i c hi => ?_) (fun k hk => ?_)
  · have h0 : i < 1 := (List.getElem?_eq_some_iff.mp hi).1
    rw [show i = 0 by omega] at hi ⊢
    cases hi
    exact if_pos rfl
  · have h1 : l.length + 1 ≤ k := hk
    unfold am_sS
    rw [if_neg (by omega), am_cell_no (by omega)]
theorem am_cell_mna (l : am_Lc) (N K : Nat) : am_mS (am_cell l) l.length N K = am_cell (l ++ ((14, N, (List.range N).map (fun i => l.length + 1 + i + 1)) :: List.replicate N (11, K, []))) := by
  refine am_cell_app (fun k hk => ?_) (fun i c hi => ?_) (fun k hk => ?_)
  · unfold am_mS
    rw [if_neg (by omega), if_neg (by omega)]
  · cases i with
    | zero =>
      cases hi
      unfold am_mS
      rw [if_pos (Nat.add_zero _)]
      congr 2
      funext i
      rw [List.getD_eq_getElem?_getD, List.getElem?_map]
      by_cases h : i < N
      · rw [if_pos h, List.getElem?_range h]
        rfl
      · rw [if_neg h, List.getElem?_eq_none (by rw [List.length_range]; omega)]
        rfl
    | succ i =>
      rw [List.getElem?_cons_succ, List.getElem?_replicate] at hi
      split at hi
      · cases hi
        unfold am_mS
        rw [if_neg (by omega), if_pos (by omega)]
        rfl
      · cases hi
  · rw [List.length_cons, List.length_replicate] at hk
    unfold am_mS
    rw [if_neg (by omega), if_neg (by omega), am_cell_no (by omega)]
theorem am_cell_set {l : am_Lc} {k : Nat} {c : Nat × Nat × List Nat} (h : l[k]? = some c) (j v : Nat) : am_sS (am_cell l) k ((am_cell l k).1, (am_cell l k).2.1, fun i => if i = j then v else (am_cell l k).2.2 i) = am_cell (l.set k (c.1, c.2.1, am_sr c.2.2 j v)) := by
  have hk : k < l.length := (List.getElem?_eq_some_iff.mp h).1
  funext q
  unfold am_sS
  by_cases hq : q = k
  · subst hq
    rw [if_pos rfl, am_cell_of h, am_cell_of (c := (c.1, c.2.1, am_sr c.2.2 j v)) (by rw [List.getElem?_set_self hk])]
    congr 2
    funext i
    exact (am_sr_at c.2.2 j v i).symm
  · rw [if_neg hq]
    unfold am_cell
    rw [List.getD_eq_getElem?_getD, List.getD_eq_getElem?_getD, List.getElem?_set_ne (fun e => hq e.symm)]
theorem am_st0 {μ : am_M} {k : Nat} (h : μ k = am_m0) : am_st μ k am_m0 = μ := by
  funext q
  unfold am_st
  split
  · rename_i e
    rw [e, h]
  · rfl
theorem am_mM0 {μ : am_M} {n N : Nat} (h : ∀ k, n ≤ k → μ k = am_m0) : am_mM μ n N = μ := by
  funext q
  unfold am_mM
  split
  · rename_i e
    rw [h q e.1]
  · rfl
section QR
variable {l0 xs xs2 : am_Lc} {b i i0 : Nat}
theorem q_at {k : Nat} {c : Nat × Nat × List Nat} (hb : l0.length = b) (hk : b + i = k) (ho : xs[i]? = some c) : (l0 ++ xs)[k]? = some c := by
  rw [← hk, ← hb, List.getElem?_append_right (Nat.le_add_right _ _), Nat.add_sub_cancel_left]
  exact ho
theorem q_lt {k : Nat} {c : Nat × Nat × List Nat} (hb : l0.length = b) (hk : b + i = k) (ho : xs[i]? = some c) : k < (l0 ++ xs).length := (List.getElem?_eq_some_iff.mp (q_at hb hk ho)).1
theorem q_set {k : Nat} {c : Nat × Nat × List Nat} (hb : l0.length = b) (hk : b + i = k) : (l0 ++ xs).set k c = l0 ++ xs.set i c := by
  rw [← hk, ← hb, List.set_append_right _ _ (Nat.le_add_right _ _), Nat.add_sub_cancel_left]
theorem q_len (hb : l0.length = b) (hn : xs.length = i) : (l0 ++ xs).length = b + i := by rw [List.length_append, hb, hn]
theorem q_hz {μ : am_M} {i1 j : Nat} {f : Nat → Int} (hz : ∀ k, b + i0 ≤ k → μ k = am_m0) (h0 : i0 ≤ i1) (h1 : j < i1) : ∀ k, b + i1 ≤ k → am_st μ (b + j) f k = am_m0 := fun k hk => by
  unfold am_st
  rw [if_neg (by omega)]
  exact hz k (by omega)
variable {d bc bs bc2 bs2 : Nat} {M : am_T} {μ : am_M} {pc : Nat} {L st : List am_V} {Q : am_P}
theorem q_new {idx ci : Nat} (hd : decode M.2.1 pc = .ok (.new idx, 3)) (hw : am_nw M.1.cls idx ci) (hb : l0.length = b) (hn : xs.length = i) (hi0 : i0 ≤ i) (hz : ∀ k, b + i0 ≤ k → μ k = am_m0) (hbc : bc2 + 1 = bc) (hbs : bs2 + am_nf ci = bs) (hx : xs ++ [(ci, 0, [])] = xs2) (kk : am_Ag true d bc2 bs2 M (l0 ++ xs2).length (am_cell (l0 ++ xs2)) μ (pc + 3) L (vR (b + i) :: st) Q) : am_Ag true d bc bs M (l0 ++ xs).length (am_cell (l0 ++ xs)) μ pc L st Q := by
  subst hx hbc hbs
  refine s_new hd hw (Nat.le_add_left _ _) (Nat.le_add_left _ _) ?_
  rw [am_cell_push, am_st0 (hz _ (by rw [q_len hb hn]; omega)), Nat.add_sub_cancel, Nat.add_sub_cancel, q_len hb hn]
  rw [List.length_append, hb, List.length_append, hn, ← List.append_assoc, ← Nat.add_assoc] at kk
  exact kk
theorem q_newI {N : Nat} (hd : decode M.2.1 pc = .ok (.newarray .int, 2)) (hw : Cond.arrayClass .int ∈ am_gd) (hN : N ≤ 5000) (hb : l0.length = b) (hn : xs.length = i) (hi0 : i0 ≤ i) (hz : ∀ k, b + i0 ≤ k → μ k = am_m0) (hbc : bc2 + 1 = bc) (hbs : bs2 + N = bs) (hx : xs ++ [(11, N, [])] = xs2) (kk : am_Ag true d bc2 bs2 M (l0 ++ xs2).length (am_cell (l0 ++ xs2)) μ (pc + 2) L (vR (b + i) :: st) Q) : am_Ag true d bc bs M (l0 ++ xs).length (am_cell (l0 ++ xs)) μ pc L (vI (N : Int) :: st) Q := by
  subst hx hbc hbs
  refine s_newI hd hw hN (Nat.le_add_left _ _) (Nat.le_add_left _ _) ?_
  rw [am_cell_push, am_st0 (hz _ (by rw [q_len hb hn]; omega)), Nat.add_sub_cancel, Nat.add_sub_cancel, q_len hb hn]
  rw [List.length_append, hb, List.length_append, hn, ← List.append_assoc, ← Nat.add_assoc] at kk
  exact kk
theorem q_newZ {N : Nat} (hd : decode M.2.1 pc = .ok (.newarray .boolean, 2)) (hw : Cond.arrayClass .boolean ∈ am_gd) (hN : N ≤ 5000) (hb : l0.length = b) (hn : xs.length = i) (hi0 : i0 ≤ i) (hz : ∀ k, b + i0 ≤ k → μ k = am_m0) (hbc : bc2 + 1 = bc) (hbs : bs2 + N = bs) (hx : xs ++ [(12, N, [])] = xs2) (kk : am_Ag true d bc2 bs2 M (l0 ++ xs2).length (am_cell (l0 ++ xs2)) μ (pc + 2) L (vR (b + i) :: st) Q) : am_Ag true d bc bs M (l0 ++ xs).length (am_cell (l0 ++ xs)) μ pc L (vI (N : Int) :: st) Q := by
  subst hx hbc hbs
  refine s_newZ hd hw hN (Nat.le_add_left _ _) (Nat.le_add_left _ _) ?_
  rw [am_cell_push, am_st0 (hz _ (by rw [q_len hb hn]; omega)), Nat.add_sub_cancel, Nat.add_sub_cancel, q_len hb hn]
  rw [List.length_append, hb, List.length_append, hn, ← List.append_assoc, ← Nat.add_assoc] at kk
  exact kk
theorem q_newP {N idx : Nat} (hd : decode M.2.1 pc = .ok (.anewarray idx, 3)) (hw : Cond.classLink M.1.cls idx RX4 ∈ am_gd) (hN : N ≤ 5000) (hb : l0.length = b) (hn : xs.length = i) (hi0 : i0 ≤ i) (hz : ∀ k, b + i0 ≤ k → μ k = am_m0) (hbc : bc2 + 1 = bc) (hbs : bs2 + N = bs) (hx : xs ++ [(13, N, [])] = xs2) (kk : am_Ag true d bc2 bs2 M (l0 ++ xs2).length (am_cell (l0 ++ xs2)) μ (pc + 3) L (vR (b + i) :: st) Q) : am_Ag true d bc bs M (l0 ++ xs).length (am_cell (l0 ++ xs)) μ pc L (vI (N : Int) :: st) Q := by
  subst hx hbc hbs
  refine s_newP hd hw hN (Nat.le_add_left _ _) (Nat.le_add_left _ _) ?_
  rw [am_cell_push, am_st0 (hz _ (by rw [q_len hb hn]; omega)), Nat.add_sub_cancel, Nat.add_sub_cancel, q_len hb hn]
  rw [List.length_append, hb, List.length_append, hn, ← List.append_assoc, ← Nat.add_assoc] at kk
  exact kk
theorem q_mna {N K idx : Nat} (hd : decode M.2.1 pc = .ok (.multianewarray idx 2, 4)) (hw : Cond.classLink M.1.cls idx "[[I" ∈ am_gd) (hwi : Cond.arrayClass .int ∈ am_gd) (hN : N ≤ 5000) (hK : K ≤ 5000) (hb : l0.length = b) (hn : xs.length = i) (hi0 : i0 ≤ i) (hz : ∀ k, b + i0 ≤ k → μ k = am_m0) (hbc : bc2 + (1 + N) = bc) (hbs : bs2 + (N + N * K) = bs) (hx : xs ++ ((14, N, (List.range N).map (fun j => b + i + 1 + j + 1)) :: List.replicate N (11, K, [])) = xs2) (kk : am_Ag true d bc2 bs2 M (l0 ++ xs2).length (am_cell (l0 ++ xs2)) μ (pc + 4) L (vR (b + i) :: st) Q) : am_Ag true d bc bs M (l0 ++ xs).length (am_cell (l0 ++ xs)) μ pc L (vI (K : Int) :: vI (N : Int) :: st) Q := by
  subst hx hbc hbs
  refine s_mna hd hw hwi hN hK (Nat.le_add_left _ _) (Nat.le_add_left _ _) ?_
  rw [am_cell_mna, am_mM0 (fun k hk => hz k (by rw [q_len hb hn] at hk; omega)), Nat.add_sub_cancel, Nat.add_sub_cancel, q_len hb hn]
  rw [← List.append_assoc, List.length_append, q_len hb hn, List.length_cons, List.length_replicate, show b + i + (N + 1) = b + i + 1 + N by omega] at kk
  exact kk
theorem q_getR {k j idx ci ln r : Nat} {rs : List Nat} (hd : decode M.2.1 pc = .ok (.getfield idx, 3)) (hf : am_fl M.1.cls idx ci j) (hb : l0.length = b) (hk : b + i = k) (ho : xs[i]? = some (ci, ln, rs)) (hi : am_isI (am_ft ci j) = false) (hr : rs.getD j 0 = r + 1) (kk : am_Ag true d bc bs M (l0 ++ xs).length (am_cell (l0 ++ xs)) μ (pc + 3) L (vR r :: st) Q) : am_Ag true d bc bs M (l0 ++ xs).length (am_cell (l0 ++ xs)) μ pc L (vR k :: st) Q :=
  s_getR hd hf (q_lt hb hk ho) (by rw [am_cell_of (q_at hb hk ho)]) hi (by rw [am_cell_of (q_at hb hk ho)]; exact hr) kk
theorem q_putF {k j idx ci ln r : Nat} {rs : List Nat} (hd : decode M.2.1 pc = .ok (.putfield idx, 3)) (hf : am_fl M.1.cls idx ci j) (hb : l0.length = b) (hk : b + i = k) (ho : xs[i]? = some (ci, ln, rs)) (hi : am_isI (am_ft ci j) = false) (hfin : (am_tt ci j).2.2.2 = true) (hfit : ∀ a, narrow (am_ft ci j) (.ref a) = .ref a ∧ fits (am_ft ci j) (.ref a) = true) (hini : M.1.name = "<init>") (hcls : M.1.cls = am_rn ci) (hx : xs.set i (ci, ln, am_sr rs j (r + 1)) = xs2) (kk : am_Ag true d bc bs M (l0 ++ xs2).length (am_cell (l0 ++ xs2)) μ (pc + 3) L st Q) : am_Ag true d bc bs M (l0 ++ xs).length (am_cell (l0 ++ xs)) μ pc L (vR r :: vR k :: st) Q := by
  subst hx
  refine s_putF hd hf (q_lt hb hk ho) (by rw [am_cell_of (q_at hb hk ho)]) hi hfin hfit hini hcls (am_cell_set (q_at hb hk ho) j (r + 1)) ?_
  rw [q_set hb hk]
  rw [List.length_append, List.length_set, ← List.length_append] at kk
  exact kk
theorem q_putI {k j idx ci ln : Nat} {rs : List Nat} {x : Int} {μ2 : am_M} (hd : decode M.2.1 pc = .ok (.putfield idx, 3)) (hf : am_fl M.1.cls idx ci j) (hb : l0.length = b) (hk : b + i = k) (ho : xs[i]? = some (ci, ln, rs)) (hi : am_isI (am_ft ci j) = true) (hfin : (am_tt ci j).2.2.2 = false) (hbx : am_ft ci j = .int ∨ x = 0 ∨ x = 1) (hm : am_st μ k (am_up (μ k) j x) = μ2) (kk : am_Ag true d bc bs M (l0 ++ xs).length (am_cell (l0 ++ xs)) μ2 (pc + 3) L st Q) : am_Ag true d bc bs M (l0 ++ xs).length (am_cell (l0 ++ xs)) μ pc L (vI x :: vR k :: st) Q :=
  s_putI hd hf (q_lt hb hk ho) (by rw [am_cell_of (q_at hb hk ho)]) hi hfin hbx hm kk
theorem q_iast {k N : Nat} {rs : List Nat} {y x : Int} {μ2 : am_M} (hd : decode M.2.1 pc = .ok (.iastore, 1)) (hb : l0.length = b) (hk : b + i = k) (ho : xs[i]? = some (11, N, rs)) (h0 : 0 ≤ y) (h1 : y < N) (hm : am_st μ k (am_up (μ k) y.toNat x) = μ2) (kk : am_Ag true d bc bs M (l0 ++ xs).length (am_cell (l0 ++ xs)) μ2 (pc + 1) L st Q) : am_Ag true d bc bs M (l0 ++ xs).length (am_cell (l0 ++ xs)) μ pc L (vI x :: vI y :: vR k :: st) Q :=
  s_iast hd (q_lt hb hk ho) (by rw [am_cell_of (q_at hb hk ho)]) (by rw [am_cell_of (q_at hb hk ho)]) h0 h1 hm kk
theorem q_acopyS {idx t k N : Nat} {rs : List Nat} {sp dp len : Int} {μ2 : am_M} (hd : decode M.2.1 pc = .ok (.invokestatic idx, 3)) (hw : Cond.methodLink M.1.cls idx arraycopyName ∈ am_gd) (ht : t < 8) (hb : l0.length = b) (hk : b + i = k) (ho : xs[i]? = some (11, N, rs)) (hst : st.length ≤ 1) (hdd : 1 ≤ d) (h1 : 0 ≤ sp) (h2 : 0 ≤ dp) (h3 : 0 ≤ len) (h4 : sp + len ≤ (am_sv t).length) (h5 : dp + len ≤ N) (hm : am_st μ k (am_cpS t (μ k) sp dp len) = μ2) (kk : am_Ag true d bc bs M (l0 ++ xs).length (am_cell (l0 ++ xs)) μ2 (pc + 3) L st Q) : am_Ag true d bc bs M (l0 ++ xs).length (am_cell (l0 ++ xs)) μ pc L (vI len :: vI dp :: vR k :: vI sp :: vS t :: st) Q :=
  s_acopyS hd hw ht (q_lt hb hk ho) (by rw [am_cell_of (q_at hb hk ho)]) (by rw [am_cell_of (q_at hb hk ho)]) hst hdd h1 h2 h3 h4 h5 hm kk
theorem q_aast {k r N ir lr : Nat} {rs rs2 : List Nat} {y : Int} (hd : decode M.2.1 pc = .ok (.aastore, 1)) (hb : l0.length = b) (hk : b + i = k) (ho : xs[i]? = some (13, N, rs)) (hr : b + ir = r) (hor : xs[ir]? = some (4, lr, rs2)) (h0 : 0 ≤ y) (h1 : y < N) (hx : xs.set i (13, N, am_sr rs y.toNat (r + 1)) = xs2) (kk : am_Ag true d bc bs M (l0 ++ xs2).length (am_cell (l0 ++ xs2)) μ (pc + 1) L st Q) : am_Ag true d bc bs M (l0 ++ xs).length (am_cell (l0 ++ xs)) μ pc L (vR r :: vI y :: vR k :: st) Q := by
  subst hx
  refine s_aast hd (q_lt hb hk ho) (by rw [am_cell_of (q_at hb hk ho)]) (by rw [am_cell_of (q_at hb hk ho)]) (q_lt hb hr hor) (by rw [am_cell_of (q_at hb hr hor)]) h0 h1 (am_cell_set (q_at hb hk ho) y.toNat (r + 1)) ?_
  rw [q_set hb hk]
  rw [List.length_append, List.length_set, ← List.length_append] at kk
  exact kk
/-- a constructor's contract: the object is the last cell; it makes the cells zs of it -/
def in_c (d bc bs : Nat) (M : am_T) (l0 : am_Lc) (o : Nat × Nat × List Nat) (μ : am_M) (b : Nat) (As : List am_V) (zs : am_Lc) (μ2 : am_M) : Prop := am_Cg true d bc bs M (l0 ++ [o]).length (am_cell (l0 ++ [o])) μ (vR b :: As) (fun r n S m => r = none ∧ n = (l0 ++ zs).length ∧ S = am_cell (l0 ++ zs) ∧ m = μ2)
theorem q_init {ys zs : am_Lc} {o : Nat × Nat × List Nat} {idx nA d2 bc1 bs1 k : Nat} {M2 : am_T} {As rest stk : List am_V} {μ2 : am_M} (hd : decode M.2.1 pc = .ok (.invokespecial idx, 3)) (hl : Cond.methodLink M.1.cls idx M2.1 ∈ am_gd ∧ Cond.instanceMethod M2.1 ∈ am_gd) (hi1 : M2.1.name = "<init>") (hi2 : M2.2.2.2 = none) (hlm : am_lM M2 nA) (hst : stk = As.reverse ++ vR k :: rest) (hn : As.length = nA) (hr : rest.length ≤ 8) (hdd : d2 + 1 ≤ d) (hbc : bc2 + bc1 = bc) (hbs : bs2 + bs1 = bs) (hb : l0.length = b) (hy : ys.length = i) (hk : b + i = k) (hx : ys ++ [o] = xs) (hC : in_c d2 bc1 bs1 M2 (l0 ++ ys) o μ k As zs μ2) (hx2 : ys ++ zs = xs2) (kk : am_Ag true d bc2 bs2 M (l0 ++ xs2).length (am_cell (l0 ++ xs2)) μ2 (pc + 3) L rest Q) : am_Ag true d bc bs M (l0 ++ xs).length (am_cell (l0 ++ xs)) μ pc L stk Q := by
  subst hx hx2 hbc hbs
  unfold in_c at hC
  rw [List.append_assoc, List.append_assoc] at hC
  refine s_callI hd hl hi1 hi2 hlm hst hn hr hdd (Nat.le_add_left _ _) (Nat.le_add_left _ _) hC (fun r n2 S2 m2 hP => ?_)
  obtain ⟨rfl, rfl, rfl, rfl⟩ := hP
  rw [Nat.add_sub_cancel, Nat.add_sub_cancel]
  exact kk
theorem q_initN {host : String} {ys zs : am_Lc} {o : Nat × Nat × List Nat} {idx nA d2 bc1 bs1 k : Nat} {M2 : am_T} {As rest stk : List am_V} {μ2 : am_M} (hd : decode M.2.1 pc = .ok (.invokespecial idx, 3)) (hl : Cond.methodLinkNest M.1.cls idx M2.1 host ∈ lw_tbl ∧ Cond.instanceMethod M2.1 ∈ am_gd) (hi1 : M2.1.name = "<init>") (hi2 : M2.2.2.2 = none) (hlm : am_lM M2 nA) (hst : stk = As.reverse ++ vR k :: rest) (hn : As.length = nA) (hr : rest.length ≤ 8) (hdd : d2 + 1 ≤ d) (hbc : bc2 + bc1 = bc) (hbs : bs2 + bs1 = bs) (hb : l0.length = b) (hy : ys.length = i) (hk : b + i = k) (hx : ys ++ [o] = xs) (hC : in_c d2 bc1 bs1 M2 (l0 ++ ys) o μ k As zs μ2) (hx2 : ys ++ zs = xs2) (kk : am_Ag true d bc2 bs2 M (l0 ++ xs2).length (am_cell (l0 ++ xs2)) μ2 (pc + 3) L rest Q) : am_Ag true d bc bs M (l0 ++ xs).length (am_cell (l0 ++ xs)) μ pc L stk Q := by
  subst hx hx2 hbc hbs
  unfold in_c at hC
  rw [List.append_assoc, List.append_assoc] at hC
  refine s_callIN hd hl hi1 hi2 hlm hst hn hr hdd (Nat.le_add_left _ _) (Nat.le_add_left _ _) hC (fun r n2 S2 m2 hP => ?_)
  obtain ⟨rfl, rfl, rfl, rfl⟩ := hP
  rw [Nat.add_sub_cancel, Nat.add_sub_cancel]
  exact kk
end QR

theorem am_wai : Cond.arrayClass .int ∈ am_gd := am_in_gd 95 (by decide +kernel) (by decide +kernel)
theorem am_waz : Cond.arrayClass .boolean ∈ am_gd := am_in_gd 1175 (by decide +kernel) (by decide +kernel)
theorem am_wcp : Cond.classLink RX2 9 RX4 ∈ am_gd := am_in_gd 161 (by decide +kernel) (by decide +kernel)
theorem am_wcm : Cond.classLink RX7 9 "[[I" ∈ am_gd := am_in_gd 193 (by decide +kernel) (by decide +kernel)
theorem nxX9_9 : am_nw RX9 9 4 := ⟨am_in_gd 72 (by decide +kernel) (by decide +kernel), am_in_gd 73 (by decide +kernel) (by decide +kernel), am_in_gd 51 (by decide +kernel) (by decide +kernel), by decide⟩
theorem nxX9_22 : am_nw RX9 22 2 := ⟨am_in_gd 155 (by decide +kernel) (by decide +kernel), am_in_gd 156 (by decide +kernel) (by decide +kernel), am_in_gd 55 (by decide +kernel) (by decide +kernel), by decide⟩
theorem nxX9_29 : am_nw RX9 29 7 := ⟨am_in_gd 187 (by decide +kernel) (by decide +kernel), am_in_gd 188 (by decide +kernel) (by decide +kernel), am_in_gd 56 (by decide +kernel) (by decide +kernel), by decide⟩
theorem nxX9_38 : am_nw RX9 38 3 := ⟨am_in_gd 216 (by decide +kernel) (by decide +kernel), am_in_gd 217 (by decide +kernel) (by decide +kernel), am_in_gd 57 (by decide +kernel) (by decide +kernel), by decide⟩
theorem nxX9_47 : am_nw RX9 47 6 := ⟨am_in_gd 259 (by decide +kernel) (by decide +kernel), am_in_gd 260 (by decide +kernel) (by decide +kernel), am_in_gd 58 (by decide +kernel) (by decide +kernel), by decide⟩
theorem nxX9_54 : am_nw RX9 54 5 := ⟨am_in_gd 284 (by decide +kernel) (by decide +kernel), am_in_gd 285 (by decide +kernel) (by decide +kernel), am_in_gd 59 (by decide +kernel) (by decide +kernel), by decide⟩
theorem nxX9_61 : am_nw RX9 61 8 := ⟨am_in_gd 317 (by decide +kernel) (by decide +kernel), am_in_gd 318 (by decide +kernel) (by decide +kernel), am_in_gd 60 (by decide +kernel) (by decide +kernel), by decide⟩
theorem nxX2_9 : am_nw RX2 9 4 := ⟨am_in_gd 161 (by decide +kernel) (by decide +kernel), am_in_gd 73 (by decide +kernel) (by decide +kernel), am_in_gd 51 (by decide +kernel) (by decide +kernel), by decide⟩
theorem nxX4_21 : am_nw RX4 21 1 := ⟨am_in_gd 78 (by decide +kernel) (by decide +kernel), am_in_gd 79 (by decide +kernel) (by decide +kernel), am_in_gd 52 (by decide +kernel) (by decide +kernel), by decide⟩
theorem nxX4_28 : am_nw RX4 28 0 := ⟨am_in_gd 96 (by decide +kernel) (by decide +kernel), am_in_gd 97 (by decide +kernel) (by decide +kernel), am_in_gd 53 (by decide +kernel) (by decide +kernel), by decide⟩

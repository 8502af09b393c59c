/-! the class's commands on clips are those on lists -/
theorem lsR_rw {r s : Rw} (h0 : r 0 = s 0) (h1 : r 1 = s 1) : lsR r = lsR s := by
  funext x
  unfold lsR
  rw [h0, h1]
theorem ins_rw {r s : Rw} (h0 : r 0 = s 0) (h1 : r 1 = s 1) (L : List Rw) : insN r L = insN s L := by
  unfold insN
  rw [lsR_rw h0 h1]
theorem fre_rw {r s : Rw} (h0 : r 0 = s 0) (h1 : r 1 = s 1) (h4 : r 4 = s 4) (L : List Rw) : freR L r ↔ freR L s := by
  unfold freR
  rw [h0, h1, h4]
/-- an answer and a table are an answer and a list -/
def rl_ (R : Rt) (L : Rl) : Prop := R.1 = L.1 ∧ tl_ R.2.1 R.2.2 L.2
theorem rl_c {p q : Prop} {a b : Rt} {x y : Rl} (h : p ↔ q) (h1 : q → rl_ a x) (h2 : ¬ q → rl_ b y) : rl_ (cif p a b) (cif q x y) := by
  by_cases c : q
  · rw [cif_t c, cif_t (h.mpr c)]; exact h1 c
  · rw [cif_f c, cif_f (fun z => c (h.mp z))]; exact h2 c
theorem rl_e {n : Int} {g : Tb} {L : List Rw} (h : tl_ n g L) (z : Int) : rl_ (z, n, g) (z, L) := ⟨rfl, h⟩
theorem l_set_is {n : Int} {g : Tb} {L : List Rw} (h : tl_ n g L) (c w v : Int) : rl_ (r_set n g c w v) (l_set L c w v) := by
  have hn := h.1
  refine rl_c (by rw [hn]) (fun _ => rl_e h _) (fun q => ?_)
  have hc : 0 ≤ c ∧ c < L.length := Classical.byContradiction fun z => q z
  have e := fun k k0 k1 => tl_gt h (k := k) hc.1 hc.2 k0 k1
  refine rl_c (by rw [e 4 (by omega) (by omega), e 6 (by omega) (by omega), e 7 (by omega) (by omega)]) (fun _ => rl_e h _) (fun q2 => ?_)
  refine ⟨e _ (by omega) (by omega), ?_⟩
  obtain ⟨A, r, B, eL, hA⟩ := split_last (L := L) hc.1 hc.2
  rw [eL] at h ⊢
  show tl_ n (up_T g c (5 + w) v) ((A ++ r :: B).set c.toNat _)
  rw [set_at hA, gt_at hA]
  exact tl_up h hA (fun k k0 k1 => rfl)
theorem l_rem_is {n : Int} {g : Tb} {L : List Rw} (h : tl_ n g L) (c : Int) : rl_ (r_rem n g c) (l_rem L c) := by
  have hn := h.1
  refine rl_c (by rw [hn]) (fun _ => rl_e h _) (fun q => ?_)
  have hc : 0 ≤ c ∧ c < L.length := Classical.byContradiction fun z => q z
  obtain ⟨A, r, B, eL, hA⟩ := split_last (L := L) hc.1 hc.2
  refine ⟨by show n - 1 = _; rw [hn], ?_⟩
  rw [eL] at h ⊢
  show tl_ (n - 1) (del_T g c) ((A ++ r :: B).eraseIdx c.toNat)
  rw [er_at hA]
  exact tl_del h hA
theorem l_div_is {n : Int} {g : Tb} {L : List Rw} (h : tl_ n g L) (c a : Int) : rl_ (r_div n g c a) (l_div L c a) := by
  have hn := h.1
  refine rl_c (by rw [hn]) (fun _ => rl_e h _) (fun q => ?_)
  have hc : 0 ≤ c ∧ c < L.length := Classical.byContradiction fun z => q z
  have e := fun k k0 k1 => tl_gt h (k := k) hc.1 hc.2 k0 k1
  refine rl_c (by rw [e 4 (by omega) (by omega)]) (fun _ => rl_e h _) (fun q2 => rl_c (by rw [hn]; omega) (fun _ => rl_e h _) (fun q3 => ?_))
  obtain ⟨A, r, B, eL, hA⟩ := split_last (L := L) hc.1 hc.2
  refine ⟨rfl, ?_⟩
  rw [eL] at h ⊢
  show tl_ (n + 1) (spl_T g c a) ((A ++ r :: B).take c.toNat ++ spl1 (gt_ (A ++ r :: B) c) a :: spl2 (gt_ (A ++ r :: B) c) a :: (A ++ r :: B).drop (c.toNat + 1))
  rw [(td_at hA).1, (td_at hA).2, gt_at hA]
  exact tl_spl h hA
theorem l_add_is {M : Int} {S : Tb} {n : Int} {g : Tb} {L : List Rw} (h : tl_ n g L) (hs : srt_ L) (hl : ∀ x ∈ L, 1 ≤ x 4) (t s so of ln : Int) : rl_ (r_add M S n g t s so of ln) (l_add M S L t s so of ln) := by
  have hn := h.1
  refine rl_c Iff.rfl (fun _ => rl_e h _) (fun q => rl_c Iff.rfl (fun _ => rl_e h _) (fun q2 => rl_c (by rw [hn]; omega) (fun _ => rl_e h _) (fun q3 => rl_c ?_ (fun _ => rl_e h _) (fun q4 => ?_))))
  · exact not_congr (fre_L (r := row8 t s so of ln) h)
  · obtain ⟨A, B, eL, ha, hb⟩ := ls_split (row8 t s so of ln) hs hl
    have ia := ins_at ha hb
    rw [← eL] at ia
    rw [ia.1, ia.2]
    rw [eL] at h
    have hp : pos_ g n t s = A.length := pos_at (r := row8 t s so of ln) h ha hb
    rw [hp]
    exact ⟨rfl, tl_insA h rfl (fun k k0 k1 => rfl)⟩
theorem mvR_is {n : Int} {g : Tb} {L : List Rw} (h : tl_ n g L) {c : Int} (hc : 0 ≤ c ∧ c < L.length) (t s k : Int) (k0 : 0 ≤ k) (k1 : k < 8) : mv_R g c t s k = mvR (gt_ L c) t s k := by
  unfold mv_R mvR
  rw [tl_gt h hc.1 hc.2 k0 k1]
theorem l_dup_is {n : Int} {g : Tb} {L : List Rw} (h : tl_ n g L) (hs : srt_ L) (hl : ∀ x ∈ L, 1 ≤ x 4) (c t s : Int) : rl_ (r_dup n g c t s) (l_dup L c t s) := by
  have hn := h.1
  refine rl_c (by rw [hn]) (fun _ => rl_e h _) (fun q => ?_)
  have hc : (0 ≤ c ∧ c < L.length) ∧ 0 ≤ t ∧ t < 4 := Classical.byContradiction fun z => q z
  have e := fun k k0 k1 => tl_gt h (k := k) hc.1.1 hc.1.2 k0 k1
  refine rl_c (by rw [e 4 (by omega) (by omega)]) (fun _ => rl_e h _) (fun q2 => rl_c (by rw [hn]; omega) (fun _ => rl_e h _) (fun q3 => rl_c ?_ (fun _ => rl_e h _) (fun q4 => ?_)))
  · rw [e 4 (by omega) (by omega)]
    exact not_congr (fre_L (r := mvR (gt_ L c) t s) h)
  · obtain ⟨A, B, eL, ha, hb⟩ := ls_split (mvR (gt_ L c) t s) hs hl
    have ia := ins_at ha hb
    rw [← eL] at ia
    rw [ia.1, ia.2]
    have mr := fun k k0 k1 => mvR_is h hc.1 t s k k0 k1
    have h2 := h
    rw [eL] at h2
    have hp : pos_ g n t s = A.length := pos_at (r := mvR (gt_ L c) t s) h2 ha hb
    rw [hp]
    exact ⟨rfl, tl_insA h2 rfl mr⟩
theorem l_mov_is {n : Int} {g : Tb} {L : List Rw} (h : tl_ n g L) (hs : srt_ L) (hl : ∀ x ∈ L, 1 ≤ x 4) (c t s : Int) : rl_ (r_mov n g c t s) (l_mov L c t s) := by
  have hn := h.1
  refine rl_c (by rw [hn]) (fun _ => rl_e h _) (fun q => ?_)
  have hc : (0 ≤ c ∧ c < L.length) ∧ 0 ≤ t ∧ t < 4 := Classical.byContradiction fun z => q z
  have e := fun k k0 k1 => tl_gt h (k := k) hc.1.1 hc.1.2 k0 k1
  refine rl_c (by rw [e 4 (by omega) (by omega)]) (fun _ => rl_e h _) (fun q2 => rl_c ?_ (fun _ => rl_e h _) (fun q4 => ?_))
  · rw [e 4 (by omega) (by omega)]
    obtain ⟨A, r, B, eL, hA⟩ := split_last (L := L) hc.1.1 hc.1.2
    have h2 := h
    rw [eL] at h2
    rw [show L.eraseIdx c.toNat = A ++ B by rw [eL]; exact er_at hA]
    exact not_congr (fre_Lx (r := mvR (gt_ L c) t s) h2 hA)
  · obtain ⟨A, B, eL, ha, hb⟩ := ls_split (mvR (gt_ L c) t s) hs hl
    have mr := fun k k0 k1 => mvR_is h hc.1 t s k k0 k1
    have h2 := h
    rw [eL] at h2
    have hp : pos_ g n t s = A.length := pos_at (r := mvR (gt_ L c) t s) h2 ha hb
    rw [hp]
    have hlen : L.length = A.length + B.length := by rw [eL]; simp
    have ti := tl_insA (r := mvR (gt_ L c) t s) h2 rfl mr
    by_cases q5 : c < A.length
    · rw [if_pos q5]
      obtain ⟨X, x, Y, eA, hX⟩ := split_last (L := A) hc.1.1 q5
      have eE : L.eraseIdx c.toNat = (X ++ Y) ++ B := by
        rw [eL, eA, show X ++ x :: Y ++ B = X ++ x :: (Y ++ B) by simp, er_at hX]
        simp
      have ia := ins_at (r := mvR (gt_ L c) t s) (A := X ++ Y) (B := B) (fun a q => ha a (by
        rw [eA]
        rcases List.mem_append.mp q with q | q
        · simp [q]
        · simp [q])) hb
      rw [eE, ia.1, ia.2]
      refine ⟨by rw [eA]; simp; omega, ?_⟩
      have ti2 : tl_ (n + 1) (ins_T g A.length (mv_R g c t s)) (X ++ x :: (Y ++ mvR (gt_ L c) t s :: B)) := by
        rw [show X ++ x :: (Y ++ mvR (gt_ L c) t s :: B) = A ++ mvR (gt_ L c) t s :: B by rw [eA]; simp]
        exact ti
      have td := tl_del ti2 hX
      rw [show n + 1 - 1 = n by omega] at td
      simpa using td
    · rw [if_neg q5]
      obtain ⟨X, x, Y, eB, hX⟩ := split_last (L := B) (x := c - A.length) (by omega) (by omega)
      have eE : L.eraseIdx c.toNat = A ++ (X ++ Y) := by
        rw [eL, eB, show A ++ (X ++ x :: Y) = (A ++ X) ++ x :: Y by simp, er_at (by simp; omega)]
        simp
      have ia := ins_at (r := mvR (gt_ L c) t s) (A := A) (B := X ++ Y) ha (fun b q => hb b (by
        rw [eB]
        rcases List.mem_append.mp q with q | q
        · simp [q]
        · simp [q]))
      rw [eE, ia.1, ia.2]
      refine ⟨rfl, ?_⟩
      have ti2 : tl_ (n + 1) (ins_T g A.length (mv_R g c t s)) ((A ++ mvR (gt_ L c) t s :: X) ++ x :: Y) := by
        rw [show (A ++ mvR (gt_ L c) t s :: X) ++ x :: Y = A ++ mvR (gt_ L c) t s :: B by rw [eB]; simp]
        exact ti
      have td := tl_del ti2 (i := c + 1) (by simp; omega)
      rw [show n + 1 - 1 = n by omega] at td
      simpa using td
theorem l_trm_is {S : Tb} {n : Int} {g : Tb} {L : List Rw} (h : tl_ n g L) (c sd fr : Int) : rl_ (r_trm S n g c sd fr) (l_trm S L c sd fr) := by
  have hn := h.1
  refine rl_c (by rw [hn]) (fun _ => rl_e h _) (fun q => ?_)
  have hc : 0 ≤ c ∧ c < L.length := Classical.byContradiction fun z => q z
  have e := fun k k0 k1 => tl_gt h (k := k) hc.1 hc.2 k0 k1
  have t1 : trR (gt_ L c) sd fr 1 = gt_ L c 1 + (if sd = 0 then fr else 0) := by simp [trR]
  have t3 : trR (gt_ L c) sd fr 3 = gt_ L c 3 + (if sd = 0 then fr else 0) := by simp [trR]
  have t4 : trR (gt_ L c) sd fr 4 = gt_ L c 4 - fr := by simp [trR]
  have t0 : trR (gt_ L c) sd fr 0 = gt_ L c 0 := by simp [trR]
  refine rl_c (by rw [e 4 (by omega) (by omega)]) (fun _ => rl_e h _) (fun q2 => rl_c (by rw [t1, t3, e 4 (by omega) (by omega), e 1 (by omega) (by omega), e 3 (by omega) (by omega), e 2 (by omega) (by omega)]) (fun _ => rl_e h _) (fun q3 => rl_c ?_ (fun _ => rl_e h _) (fun q4 => ?_)))
  · obtain ⟨A, r, B, eL, hA⟩ := split_last (L := L) hc.1 hc.2
    have h2 := h
    rw [eL] at h2
    rw [show L.eraseIdx c.toNat = A ++ B by rw [eL]; exact er_at hA]
    have := fre_Lx (r := trR (gt_ L c) sd fr) h2 hA
    rw [t0, t1, t4] at this
    rw [e 4 (by omega) (by omega), e 1 (by omega) (by omega), e 0 (by omega) (by omega)]
    exact not_congr this
  · refine ⟨by show g c 4 - fr = _; rw [e 4 (by omega) (by omega)], ?_⟩
    obtain ⟨A, r, B, eL, hA⟩ := split_last (L := L) hc.1 hc.2
    have e1 : gt_ L c = r := by rw [eL]; exact gt_at hA
    rw [e1] at e ⊢
    rw [eL] at h ⊢
    show tl_ n _ ((A ++ r :: B).set c.toNat _)
    rw [set_at hA]
    have u := tl_put (C := [trR r sd fr]) (n' := n) (g' := fit_T (up_T (up_T (up_T g c 1 (g c 1 + (if sd = 0 then fr else 0))) c 3 (g c 3 + (if sd = 0 then fr else 0))) c 4 (g c 4 - fr)) c) h (by simp) (fun i k i0 i1 k0 k1 => by
      have : ¬ i = c := by omega
      simp [fit_T, up_T, this]) (fun j s hj k k0 k1 => by
      have j0 : j = 0 := by
        have := (List.getElem?_eq_some_iff.mp hj).1
        simpa using this
      subst j0
      cases hj
      have ec : ((A.length : Int) + ((0 : Nat) : Int)) = c := by omega
      rw [ec]
      rcases k8 k0 k1 with rfl | rfl | rfl | rfl | rfl | rfl | rfl | rfl <;> simp [fit_T, up_T, trR, e]) (fun i k i0 k0 k1 => by
      have : ¬ i - 1 + ((1 : Nat) : Int) = c := by omega
      simp only [List.length_cons, List.length_nil, Nat.zero_add]
      have h2 : i - 1 + ((1 : Nat) : Int) = i := by omega
      rw [h2] at this ⊢
      simp [fit_T, up_T, this])
    simpa using u

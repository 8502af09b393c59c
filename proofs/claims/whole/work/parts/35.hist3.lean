/-! the second way: levels in their order -/
theorem hl_ins {n v f t : Int} {a b a' b' : Nat → Int} {A B : Hl} (h : hl_ n a b (A ++ B)) (hv : v = A.length) (ea : a' = am_up (am_cp a a v (v + 1) (n - v)) v.toNat f) (eb : b' = am_up (am_cp b b v (v + 1) (n - v)) v.toNat t) : hl_ (n + 1) a' b' (A ++ (f, t) :: B) := by
  refine ⟨by rw [h.1]; simp; omega, fun i p hi => ?_⟩
  rw [ea, eb]
  have hl : i < A.length + 1 + B.length := by
    have := (List.getElem?_eq_some_iff.mp hi).1
    simp at this
    omega
  have hn : n = A.length + B.length := by rw [h.1]; simp
  by_cases q : i = A.length
  · subst q
    simp at hi
    subst hi
    have : v.toNat = A.length := by omega
    rw [this, up_s, up_s]
    exact ⟨rfl, rfl⟩
  · rw [up_n (by omega), up_n (by omega), am_cpi (by omega) (by omega), am_cpi (by omega) (by omega)]
    by_cases q2 : i < A.length
    · rw [if_pos (by omega), if_pos (by omega)]
      rw [List.getElem?_append_left q2] at hi
      exact h.2 i p (by rw [List.getElem?_append_left q2]; exact hi)
    · rw [if_neg (by omega), if_neg (by omega)]
      rw [List.getElem?_append_right (by omega), show i - A.length = (i - 1 - A.length) + 1 by omega, List.getElem?_cons_succ] at hi
      exact h.2 (i - 1) p (by rw [List.getElem?_append_right (by omega)]; exact hi)
theorem hl_upd {n v t : Int} {a b b' : Nat → Int} {A B : Hl} {p : Int × Int} (h : hl_ n a b (A ++ p :: B)) (hv : v = A.length) (eb : b' = am_up b v.toNat t) : hl_ n a b' (A ++ (p.1, t) :: B) := by
  refine ⟨by rw [h.1]; simp, fun i q hi => ?_⟩
  rw [eb]
  by_cases c : i = A.length
  · subst c
    simp at hi
    subst hi
    have : v.toNat = A.length := by omega
    rw [this, up_s]
    exact ⟨(h.2 A.length p (by simp)).1, rfl⟩
  · rw [up_n (by omega)]
    refine h.2 i q ?_
    by_cases q2 : i < A.length
    · rw [List.getElem?_append_left q2] at hi ⊢
      exact hi
    · rw [List.getElem?_append_right (by omega), show i - A.length = (i - 1 - A.length) + 1 by omega, List.getElem?_cons_succ] at hi ⊢
      exact hi
theorem ih_ok {x : Int} {H : Hl} (h : okH H) (hx : 0 ≤ x ∧ x ≤ 998001) : okH (ih_ x H) := by
  have hb := bef_aft x H
  have h1 : okH (bef_ x H) := fun q hq => h q (by rw [← hb]; exact List.mem_append_left _ hq)
  have h2 : okH (aft_ x H) := fun q hq => h q (by rw [← hb]; exact List.mem_append_right _ hq)
  intro q hq
  unfold ih_ at hq
  rcases List.mem_append.mp hq with e | e
  · exact h1 q e
  · cases ha : aft_ x H with
    | nil =>
      rw [ha] at e
      simp at e
      rw [e]
      exact ⟨hx.1, hx.2, by omega⟩
    | cons p B =>
      rw [ha] at e h2
      have hp := h2 p List.mem_cons_self
      simp only at e
      split at e
      · rcases List.mem_cons.mp e with e | e
        · rw [e]; exact ⟨hp.1, hp.2.1, by simp only; omega⟩
        · exact h2 q (List.mem_cons_of_mem _ e)
      · rcases List.mem_cons.mp e with e | e
        · rw [e]; exact ⟨hx.1, hx.2, by simp only; omega⟩
        · exact h2 q e
theorem hi_ok {L : Int → Int} {k : Int} (h : 0 ≤ k) (hL : ∀ i, 0 ≤ i → i < k → 0 ≤ L i ∧ L i ≤ 998001) : okH (hi_ L k) :=
  fI_i (fun (H : Hl) _ => okH H) (fun q hq => by simp at hq) h (fun i H i0 i1 q => ih_ok q (hL i i0 i1))
theorem hi_tt {L : Int → Int} {k : Int} (h : 0 ≤ k) : hw_ tt_ (hi_ L k) = k := by
  have e := (hi_w (L := L) (p := tt_) k.toNat).1
  rw [show ((k.toNat : Nat) : Int) = k by omega] at e
  rw [e]
  have := fI_i (f := fun a i => a + if (fun i => tt_ (L i)) i = true then (fun _ => (1 : Int)) i else 0) (a := 0) (n := k) (fun a i => a = i) rfl h (fun i b i0 i1 q => by rw [q]; simp)
  exact this
theorem okH_2 {H : Hl} (h : okH H) : ∀ q ∈ H, q.2 ≤ hw_ tt_ H := by
  induction H with
  | nil => intro q hq; simp at hq
  | cons p B ih =>
    intro q hq
    have hB := fun r hr => h r (List.mem_cons_of_mem _ hr)
    have w := ww_b (H := B) hB
    have hp := h p List.mem_cons_self
    rw [hw_c]
    simp only [if_true]
    rcases List.mem_cons.mp hq with e | e
    · rw [e]; omega
    · have := ih hB q e
      omega
theorem sm_app {f : Int → Int} {a n : Int} (ha : 0 ≤ a) (hn : 0 ≤ n) : sm_ f (a + n) = sm_ f a + sm_ (fun i => f (a + i)) n := by
  have key : ∀ j : Nat, sm_ f (a + j) = sm_ f a + sm_ (fun i => f (a + i)) j := by
    intro j
    induction j with
    | zero => simp [sm_, fI_0]
    | succ j ih =>
      rw [show (a + ((j + 1 : Nat) : Int)) = (a + j) + 1 by omega, show ((j + 1 : Nat) : Int) = (j : Int) + 1 by omega]
      unfold sm_ at ih ⊢
      rw [fI_s _ _ (by omega), fI_s _ _ (by omega), ih]
      show _ + f (a + ↑j) = _ + (_ + f (a + ↑j))
      omega
  have := key n.toNat
  rw [show ((n.toNat : Nat) : Int) = n by omega] at this
  exact this
theorem win_e {la w : Int} (h0 : 0 ≤ la) (h1 : 0 < w) : la ≤ win_ la w * w := by
  unfold win_
  have h2 := Int.lt_ediv_add_one_mul_self (la + w - 1) h1
  rw [Int.add_mul] at h2
  omega
/-- the sums of squares stand -/
def pf_ (m : am_M) (F : Int → Int) : Prop := ∀ f, in_ 0 601 f → m 147 f.toNat = sm_ F f
noncomputable abbrev sqC (μ : am_M) : Int → Int := sq_ (fun f => suC μ f 4) (μ 2 0)
theorem sq_b2 {μ : am_M} (hV : vC μ) {n : Int} (hn : 0 ≤ n) : 0 ≤ sm_ (sqC μ) n ∧ sm_ (sqC μ) n ≤ n * 998001 :=
  sm_b hn (by omega) (fun i _ _ => sq_b (F := fun f => suC μ f 4) (f := i) (su4_b hV i) hV.hE.1)
theorem lv_pf {μ m : am_M} (hV : vC μ) (hp : pf_ m (sqC μ)) {k b : Int} (hk0 : 0 ≤ k) (hk : k < winC μ) (hb : b = if k * μ 2 1 + μ 2 1 < 600 then k * μ 2 1 + μ 2 1 else 600) : (in_ 0 601 b ∧ in_ 0 601 (k * μ 2 1)) ∧ (0 ≤ m 147 b.toNat - m 147 (k * μ 2 1).toNat ∧ m 147 b.toNat - m 147 (k * μ 2 1).toNat ≤ 598800600) ∧ (m 147 b.toNat - m 147 (k * μ 2 1).toNat) / μ 2 1 = lvC μ (μ 2 0) k := by
  have hw := hV.hE.2.1
  have lb := la_b6 hV
  have kb := (win_b lb hw).2 k hk0 hk
  have bb : in_ 0 601 b ∧ in_ 0 601 (k * μ 2 1) := by rw [hb]; unfold in_ at *; split <;> omega
  have hle : k * μ 2 1 ≤ b := by rw [hb]; unfold in_ at *; split <;> omega
  have e : m 147 b.toNat - m 147 (k * μ 2 1).toNat = sm_ (fun i => sqC μ (k * μ 2 1 + i)) (b - k * μ 2 1) := by
    rw [hp _ bb.1, hp _ bb.2]
    have := sm_app (f := sqC μ) (a := k * μ 2 1) (n := b - k * μ 2 1) (by ((try unfold am_in); (try unfold in_ at *); omega)) (by omega)
    rw [show k * μ 2 1 + (b - k * μ 2 1) = b by omega] at this
    omega
  have s := sm_b (f := fun i => sqC μ (k * μ 2 1 + i)) (n := b - k * μ 2 1) (B := 998001) (by omega) (by omega) (fun i _ _ => sq_b (F := fun f => suC μ f 4) (su4_b hV _) hV.hE.1)
  refine ⟨bb, ⟨by rw [e]; exact s.1, by rw [e]; have := s.2; unfold in_ at *; omega⟩, ?_⟩
  rw [e]
  show _ = sm_ (fun i => sq_ (fun f => suC μ f 4) (μ 2 0) (k * μ 2 1 + i)) ((if (k + 1) * μ 2 1 < 600 then (k + 1) * μ 2 1 else 600) - k * μ 2 1) / μ 2 1
  rw [kb.2.2, ← hb]
noncomputable abbrev hiC (μ : am_M) (k : Int) : Hl := hi_ (lvC μ (μ 2 0)) k
theorem lp_X3_sort {μ0 : am_M} (hV : vC μ0) {k x : Int} (hk0 : 0 ≤ k) (hk : k < winC μ0) (hx : x = lvC μ0 (μ0 2 0) k) {Q : Int → am_M → Prop} (hQ : ∀ m n, fr_ [145, 146] μ0 m → hl_ n (m 145) (m 146) (hiC μ0 (k + 1)) → at_I kC 4 mX3_sortLevels 21 [vR 144, vI (μ0 2 1), vI (la_ (cg μ0) (μ0 5 1)), vI n, vI (k * μ0 2 1 + μ0 2 1), vU, vU, vU] [] m Q) (n : Int) (m : am_M) (hf : fr_ [145, 146] μ0 m) (hh : hl_ n (m 145) (m 146) (hiC μ0 k)) : at_I kC 4 mX3_sortLevels 61 [vR 144, vI (μ0 2 1), vI (la_ (cg μ0) (μ0 5 1)), vI n, vI (k * μ0 2 1), vU, vI x, vI 0] [] m Q := by
  have hw := hV.hE.2.1
  have lb := la_b6 hV
  have wb := win_b lb hw
  have kb := wb.2 k hk0 hk
  have w1 : in_ 0 151 (winC μ0) := wb.1
  have Lb : ∀ k, 0 ≤ k → k < winC μ0 → 0 ≤ lvC μ0 (μ0 2 0) k ∧ lvC μ0 (μ0 2 0) k ≤ 998001 := fun k h0 h1 => lvl_b (fun f => su4_b hV f) hV.hE.1 hw lb ⟨h0, h1⟩
  have hup := hi_up (L := lvC μ0 (μ0 2 0)) hk0
  have hok := hi_ok (L := lvC μ0 (μ0 2 0)) hk0 (fun i h0 h1 => Lb i h0 (by omega))
  have htt := hi_tt (L := lvC μ0 (μ0 2 0)) hk0
  have xb := Lb k hk0 hk
  have e1 : hiC μ0 (k + 1) = ih_ x (hiC μ0 k) := by rw [hx]; exact hi_s hk0
  rw [e1] at hQ
  change up_H (hiC μ0 k) ∧ ((hiC μ0 k).length : Int) ≤ k at hup
  change okH (hiC μ0 k) at hok
  change hw_ tt_ (hiC μ0 k) = k at htt
  generalize hiC μ0 k = H at *
  have hba := bef_aft x H
  have hn := hh.1
  have hbl : H.length = (bef_ x H).length + (aft_ x H).length := by rw [← congrArg List.length hba]; simp
  have hh2 := hh
  rw [← hba] at hh2
  unfold in_ at *
  -- the place is found: put
  have p117 : ∀ B, aft_ x H = B → ih_ x H = bef_ x H ++ (x, 1) :: B → at_I kC 4 mX3_sortLevels 117 [vR 144, vI (μ0 2 1), vI (la_ (cg μ0) (μ0 5 1)), vI n, vI (k * μ0 2 1), vU, vI x, vI (bef_ x H).length] [] m Q := fun B hB hi => by
    refine vc_X3_sortLevels_117 ⟨(by (try unfold am_in); (try unfold in_ at *); omega), (by (try unfold am_in); (try unfold in_ at *); omega), by omega, by omega, by omega, by omega, by omega, fun m1 e1 => ⟨(by (try unfold am_in); (try unfold in_ at *); omega), (by (try unfold am_in); (try unfold in_ at *); omega), by omega, by omega, by omega, by omega, by omega, fun m2 e2 => ⟨by omega, by omega, fun m3 e3 => ⟨by omega, by omega, fun m4 e4 => ⟨(by (try unfold am_in); (try unfold in_ at *); omega), (by (try unfold am_in); (try unfold in_ at *); omega), ?_⟩⟩⟩⟩⟩
    refine hQ m4 (n + 1) ?_ ?_
    · rw [e4, e3, e2, e1]
      exact fr_tr (fr_tr (fr_tr (fr_tr hf (fr_st (by simp))) (fr_st (by simp))) (fr_st (by simp))) (fr_st (by simp))
    · rw [hi, ← hB]
      refine hl_ins hh2 rfl ?_ ?_
      · rw [e4, st_n (by decide), e3, st_s, e2, st_n (by decide), e1, st_s]
      · rw [e4, st_s, e3, st_n (by decide), e2, st_s, e1, st_n (by decide)]
  have p85 : at_I kC 4 mX3_sortLevels 85 [vR 144, vI (μ0 2 1), vI (la_ (cg μ0) (μ0 5 1)), vI n, vI (k * μ0 2 1), vU, vI x, vI (bef_ x H).length] [] m Q := by
    cases ha : aft_ x H with
    | nil =>
      rw [ha] at hbl
      simp only [List.length_nil] at hbl
      exact vc_X3_sortLevels_85 ⟨fun _ => p117 [] ha (by unfold ih_; rw [ha]), fun q => by omega⟩
    | cons p B =>
      rw [ha] at hbl hh2
      simp only [List.length_cons] at hbl
      have v := hl_at hh2 (x := (bef_ x H).length) rfl
      have hp : p ∈ H := by rw [← hba, ha]; simp
      have po := hok p hp
      have p2 := okH_2 hok p hp
      refine vc_X3_sortLevels_85 ⟨fun q => by omega, fun _ => ⟨by omega, by omega, fun c => ?_, fun c => ⟨by omega, by omega, by rw [v.2]; ((try unfold am_in); (try unfold in_ at *); omega), by omega, by omega, fun m1 e1 => ⟨(by (try unfold am_in); (try unfold in_ at *); omega), ?_⟩⟩⟩⟩
      · rw [v.1] at c
        exact p117 (p :: B) ha (by unfold ih_; rw [ha]; simp only; rw [if_neg c])
      · rw [v.1] at c
        refine hQ m1 n (by rw [e1]; exact fr_tr hf (fr_st (by simp))) ?_
        rw [show ih_ x H = bef_ x H ++ (p.1, p.2 + 1) :: B by unfold ih_; rw [ha]; simp only; rw [if_pos c]]
        refine hl_upd (by rw [e1, st_n (by decide)]; exact hh2) (v := (bef_ x H).length) rfl ?_
        rw [e1, st_s, v.2]
  have : ∀ (B A : Hl) (y : Int), H = A ++ B → y = A.length → bef_ x H = A ++ bef_ x B → at_I kC 4 mX3_sortLevels 61 [vR 144, vI (μ0 2 1), vI (la_ (cg μ0) (μ0 5 1)), vI n, vI (k * μ0 2 1), vU, vI x, vI y] [] m Q := by
    intro B
    induction B with
    | nil =>
      intro A y hA hy hb
      simp [bef_] at hb
      refine vc_X3_sortLevels_61 ⟨fun _ => ?_, fun q => by rw [hn, hA] at q; simp at q; omega⟩
      rw [hy, ← show (bef_ x H).length = A.length by rw [← hb]; rfl]
      exact p85
    | cons p B ih =>
      intro A y hA hy hb
      have ht2 := hh
      rw [hA] at ht2
      have v := hl_at ht2 hy
      have hll : H.length = A.length + 1 + B.length := by rw [hA]; simp; omega
      rw [bef_c] at hb
      refine vc_X3_sortLevels_61 ⟨fun q => by omega, fun q => ⟨by omega, by omega, fun h => ?_, fun h => ⟨(by (try unfold am_in); (try unfold in_ at *); omega), ?_⟩⟩⟩
      · rw [v.1] at h
        rw [if_neg (by omega)] at hb
        rw [hb] at p85
        simp at p85
        rw [hy]
        exact p85
      · rw [v.1] at h
        rw [if_pos h] at hb
        exact ih (A ++ [p]) (y + 1) (by rw [hA]; simp) (by simp; omega) (by rw [hb]; simp)
  exact this H [] 0 (by simp) rfl (by simp)
theorem sp_X3_sortLevels {μ : am_M} (hV : vC μ) (hp : pf_ μ (sqC μ)) : cl_I kC 4 mX3_sortLevels [vR 144] μ (fun z m => fr_ [145, 146] μ m ∧ hl_ z (m 145) (m 146) (hiC μ (winC μ))) := by
  have hw := hV.hE.2.1
  have lb := la_b6 hV
  have wb := win_b lb hw
  have we := win_e (la := la_ (cg μ) (μ 5 1)) (w := μ 2 1) lb.1 (by ((try unfold am_in); (try unfold in_ at *); omega))
  have w1 : in_ 0 151 (winC μ) := wb.1
  have Lb : ∀ k, 0 ≤ k → k < winC μ → 0 ≤ lvC μ (μ 2 0) k ∧ lvC μ (μ 2 0) k ≤ 998001 := fun k h0 h1 => lvl_b (fun f => su4_b hV f) hV.hE.1 hw lb ⟨h0, h1⟩
  refine ve_X3_sortLevels (vc_X3_sortLevels_0 ⟨hV.hE, hV.okT, ?_⟩)
  have : ∀ (j : Nat) (k n : Int) (m : am_M), k + j = winC μ → 0 ≤ k → fr_ [145, 146] μ m → hl_ n (m 145) (m 146) (hiC μ k) → at_I kC 4 mX3_sortLevels 21 [vR 144, vI (μ 2 1), vI (la_ (cg μ) (μ 5 1)), vI n, vI (k * μ 2 1), vU, vU, vU] [] m (fun z m => fr_ [145, 146] μ m ∧ hl_ z (m 145) (m 146) (hiC μ (winC μ))) := by
    intro j
    induction j with
    | zero =>
      intro k n m hk h0 hf hh
      have ek : k = winC μ := by omega
      subst ek
      refine vc_X3_sortLevels_21 ⟨fun _ => ⟨hf, hh⟩, fun q => ?_⟩
      have : la_ (cg μ) (μ 5 1) ≤ winC μ * μ 2 1 := we
      omega
    | succ j ih =>
      intro k n m hk h0 hf hh
      have kb := wb.2 k h0 (show k < win_ _ _ by have : winC μ = win_ (la_ (cg μ) (μ 5 1)) (μ 2 1) := rfl; omega)
      have lp := lv_pf (m := m) hV (fun f h => by rw [hf 147 (by decide)]; exact hp f h) h0 (show k < winC μ by omega) rfl
      unfold in_ at *
      refine vc_X3_sortLevels_21 ⟨fun q => by omega, fun q => ⟨(by (try unfold am_in); (try unfold in_ at *); omega), lp.1.1.1, lp.1.1.2, lp.1.2.1, lp.1.2.2, (by (try unfold am_in); (try unfold in_ at *); omega), lp.2.1.1, by omega, ?_⟩⟩
      rw [lp.2.2]
      refine lp_X3_sort hV h0 (by omega) rfl (fun m2 n2 f2 h2 => ?_) n m hf hh
      have := ih (k + 1) n2 m2 (by omega) (by omega) f2 h2
      rw [kb.2.2] at this
      exact this
  have h0 : 0 ≤ winC μ := w1.1
  have := this (winC μ).toNat 0 0 μ (by omega) (by omega) fr_rf ⟨by simp [hi_, fI_0], fun i p hi => by simp [hi_, fI_0] at hi⟩
  simpa using this

/-! frames covered: counted, and by lengths -/
theorem sm_s {f : Int → Int} {x : Int} (h : 0 ≤ x) : sm_ f (x + 1) = sm_ f x + f x := fI_s _ _ h
theorem sm_add {F G : Int → Int} (n : Nat) : sm_ (fun f => F f + G f) n = sm_ F n + sm_ G n := by
  induction n with
  | zero => rfl
  | succ n ih =>
    have e : ((n + 1 : Nat) : Int) = (n : Int) + 1 := by omega
    rw [e, sm_s (by omega), sm_s (by omega), sm_s (by omega), ih]
    omega
theorem sm_c {F G : Int → Int} {n : Int} (h : ∀ i, 0 ≤ i → i < n → F i = G i) : sm_ F n = sm_ G n := fI_c (fun i b h0 h1 => by rw [h i h0 h1])
theorem sm_in {s e : Int} (h0 : 0 ≤ s) (h1 : s ≤ e) : ∀ n : Nat, sm_ (fun f => if s ≤ f ∧ f < e then 1 else 0) n = if (n : Int) ≤ s then 0 else if (n : Int) ≤ e then n - s else e - s
  | 0 => by rw [if_pos (by omega)]; rfl
  | n + 1 => by
    have ih := sm_in h0 h1 n
    have e1 : ((n + 1 : Nat) : Int) = (n : Int) + 1 := by omega
    rw [e1, sm_s (by omega), ih]
    (repeat' split) <;> omega
theorem cov_k {P : Pj} (hV : vP P) (t : Int) : ∀ k : Nat, (k : Int) ≤ pN P → sm_ (fun f => cif (∃ c, 0 ≤ c ∧ c < (k : Int) ∧ on_p (pG P) t f c) 1 0) 600 = cnt_ (fun i => decide (pG P i 0 = t)) (fun i => pG P i 4) k
  | 0, _ => by
    rw [sm_c (G := fun _ => 0) (fun i i0 i1 => cif_f (fun ⟨c, c0, c1, _⟩ => by omega))]
    have : ∀ n : Nat, sm_ (fun _ => 0) n = 0 := fun n => by
      induction n with
      | zero => rfl
      | succ n ih =>
        have e1 : ((n + 1 : Nat) : Int) = (n : Int) + 1 := by omega
        rw [e1, sm_s (by omega), ih]
        rfl
    exact this 600
  | k + 1, hk => by
    have ih := cov_k hV t k (by omega)
    have o := (hV.hc k (by omega) (by omega)).1
    unfold okC in_ at o
    have e1 : ((k + 1 : Nat) : Int) = (k : Int) + 1 := by omega
    rw [e1, cnt_s (by omega), ← ih]
    simp only [decide_eq_true_eq]
    by_cases ct : pG P k 0 = t
    · rw [if_pos ct]
      have s1 := sm_in (s := pG P k 1) (e := pG P k 1 + pG P k 4) (by omega) (by omega) 600
      rw [if_neg (by omega)] at s1
      have s2 : sm_ (fun f => if pG P k 1 ≤ f ∧ f < pG P k 1 + pG P k 4 then 1 else 0) 600 = pG P k 4 := by
        rw [show (600 : Int) = ((600 : Nat) : Int) from rfl, s1]
        split <;> omega
      have s3 := sm_add (F := fun f => cif (∃ c, 0 ≤ c ∧ c < (k : Int) ∧ on_p (pG P) t f c) 1 0) (G := fun f => if pG P k 1 ≤ f ∧ f < pG P k 1 + pG P k 4 then 1 else 0) 600
      rw [show ((600 : Nat) : Int) = 600 from rfl, s2] at s3
      rw [← s3]
      refine sm_c (fun f f0 f1 => ?_)
      by_cases c1 : ∃ c, 0 ≤ c ∧ c < (k : Int) ∧ on_p (pG P) t f c
      · rw [cif_t c1]
        obtain ⟨c, c0, c2, c3⟩ := c1
        have nb : ¬ (pG P k 1 ≤ f ∧ f < pG P k 1 + pG P k 4) := by
          have := hV.hs c k c0 c2 (by omega)
          unfold on_p en_ at c3
          unfold bfr_ at this
          omega
        rw [cif_t ⟨c, c0, by omega, c3⟩, if_neg nb]
        rfl
      · rw [cif_f c1]
        by_cases c2 : pG P k 1 ≤ f ∧ f < pG P k 1 + pG P k 4
        · rw [if_pos c2, cif_t ⟨k, by omega, by omega, by unfold on_p en_; omega⟩]
          rfl
        · rw [if_neg c2, cif_f]
          · rfl
          · rintro ⟨c, c0, c3, c4⟩
            by_cases q : c = k
            · rw [q] at c4
              unfold on_p en_ at c4
              omega
            · exact c1 ⟨c, c0, by omega, c4⟩
    · rw [if_neg ct]
      rw [Int.add_zero]
      refine sm_c (fun f f0 f1 => ?_)
      refine congrArg (fun p : Prop => cif p (1 : Int) 0) (propext ?_)
      constructor
      · rintro ⟨c, c0, c3, c4⟩
        by_cases q : c = k
        · rw [q] at c4
          exact absurd c4.1 ct
        · exact ⟨c, c0, by omega, c4⟩
      · rintro ⟨c, c0, c3, c4⟩
        exact ⟨c, c0, by omega, c4⟩
theorem cov_f {P : Pj} (hn : 0 ≤ pN P) (t f : Int) : (if onP P t f < 0 then (0 : Int) else 1) = cif (∃ c, 0 ≤ c ∧ c < pN P ∧ on_p (pG P) t f c) 1 0 := by
  show (if ont_ (pN P) (pG P) t f < 0 then 0 else 1) = _
  rcases ont_c (g := pG P) hn t f with ⟨e, h⟩ | ⟨a1, a2, a3⟩
  · rw [if_pos (by omega), cif_f]
    rintro ⟨c, c0, c1, c2⟩
    exact h c c0 c1 c2
  · rw [if_neg (by omega), cif_t ⟨_, a1, a2, a3⟩]
theorem cov_is {P : Pj} (hV : vP P) (t : Int) : q_covered P t = cif (0 ≤ t ∧ t < 4) (cnt_ (fun i => decide (pG P i 0 = t)) (fun i => pG P i 4) (pN P)) (-1) := by
  have hn := hV.hn
  unfold in_ at hn
  have := cov_k hV t (pN P).toNat (by omega)
  have e' : (((pN P).toNat : Nat) : Int) = pN P := by omega
  have e : sm_ (fun f => if onP P t f < 0 then 0 else 1) 600 = cnt_ (fun i => decide (pG P i 0 = t)) (fun i => pG P i 4) (pN P) := by
    rw [← e', ← this]
    refine sm_c (fun f f0 f1 => ?_)
    rw [e']
    exact cov_f hn.1 t f
  unfold q_covered
  rw [e]
theorem vc_X10_covered_0 {x1 : Int} {μ : am_M} {Q : Int → am_M → Prop} (h : (0 ≤ x1 ∧ x1 < 4 → at_I kR 3 mX10_covered 13 [vR 0, vI x1, vI 0, vI 0] [] μ Q) ∧ (¬ (0 ≤ x1 ∧ x1 < 4) → Q (-1) μ)) : at_I kR 3 mX10_covered 0 [vR 0, vI x1, vU, vU] [] μ Q := by
  refine s_iload_n dX10_covered_0 rfl rfl ?_
  refine s_callS (As := [vI x1]) (rest := []) dX10_covered_1 lkX10_133 lmX10_isTrack rfl rfl (Nat.le_of_ble_eq_true rfl) (by decide) (Nat.le_refl 0) (Nat.le_refl 0) (hC := sp_X10_isTrack (Q := fun z m => bI (0 ≤ x1 ∧ x1 < 4) = z ∧ μ = m)  ⟨rfl, rfl⟩) (fun r n2 S2 m2 hP => ?_)
  obtain ⟨⟨rfl, rfl⟩, z, rfl, rfl, rfl⟩ := hP
  refine s_if_ne dX10_covered_4 (tgt := 9) (by decide) (fun cc => ?_) (fun cc => ?_)
  · have h := h.1 (bI_ne cc)
    refine s_iconst dX10_covered_9 (by decide) ?_
    refine s_istore_n dX10_covered_10 rfl (by decide) (L' := [vR 0, vI x1, vI 0, vU]) rfl ?_
    refine s_iconst dX10_covered_11 (by decide) ?_
    refine s_istore_n dX10_covered_12 rfl (by decide) (L' := [vR 0, vI x1, vI 0, vI 0]) rfl ?_
    exact h
  · have h := h.2 (bI_eq cc)
    refine s_iconst dX10_covered_7 (by decide) ?_
    exact s_ireturn dX10_covered_8 (Or.inl rfl) ⟨⟨rfl, rfl⟩, _, rfl, h⟩
theorem vc_X10_covered_13 {x1 x2 x3 : Int} {μ : am_M} {Q : Int → am_M → Prop} (h : (μ 1 25 ≤ x3 → Q x2 μ) ∧ (x3 < μ 1 25 → (in_ 0 48 x3) ∧ (in_ 0 8 0) ∧ (((rg μ x3 0 = x1 → (in_ 0 48 x3) ∧ (in_ 0 8 4))) ∧ (∀ v1 : Int, v1 = (if rg μ x3 0 = x1 then rg μ x3 4 else 0) → (am_in (x2 + v1)) ∧ ((am_in (x3 + 1)) ∧ (at_I kR 3 mX10_covered 13 [vR 0, vI x1, vI (x2 + v1), vI (x3 + 1)] [] μ Q)))))) : at_I kR 3 mX10_covered 13 [vR 0, vI x1, vI x2, vI x3] [] μ Q := by
  refine s_iload_n dX10_covered_13 rfl rfl ?_
  refine s_aload_n dX10_covered_14 rfl rfl ?_
  refine s_getR dX10_covered_15 flX10_9 rn0 rk0 rfl rr0_0 ?_
  refine s_bipush dX10_covered_18 (by decide) ?_
  refine s_iald (x := (μ 1 25)) dX10_covered_20 rn1 rk1 rl1 (by decide) (by decide) rfl ?_
  refine s_icmp_ge dX10_covered_21 (tgt := 53) (by decide) (fun cc => ?_) (fun cc => ?_)
  · have h := h.1 cc
    refine s_iload_n dX10_covered_53 rfl rfl ?_
    exact s_ireturn dX10_covered_54 (Or.inl rfl) ⟨⟨rfl, rfl⟩, _, rfl, h⟩
  · have h := h.2 cc
    refine s_iload_n dX10_covered_24 rfl rfl ?_
    refine s_aload_n dX10_covered_25 rfl rfl ?_
    refine s_iload_n dX10_covered_26 rfl rfl ?_
    refine s_iconst dX10_covered_27 (by decide) ?_
    obtain ⟨p0, p1, h⟩ := h
    refine s_callV (As := [vI x3, vI 0]) (rest := [vI x2]) (k := 0) dX10_covered_28 lkX10_126 rn0 ⟨by rw [rk0]; rfl, by rw [rk0]; decide⟩ lmX10_of rfl rfl (Nat.le_of_ble_eq_true rfl) (by decide) (Nat.le_refl 0) (Nat.le_refl 0) (hC := sp_X10_of (Q := fun z m => rg μ x3 0 = z ∧ μ = m) p0 p1 ⟨rfl, rfl⟩) (fun r n2 S2 m2 hP => ?_)
    obtain ⟨⟨rfl, rfl⟩, z, rfl, rfl, rfl⟩ := hP
    refine s_iload_n dX10_covered_31 rfl rfl ?_
    obtain ⟨hsd, h⟩ := h
    have kj2 : ∀ (v1 : Int), ((am_in (x2 + v1)) ∧ ((am_in (x3 + 1)) ∧ (at_I kR 3 mX10_covered 13 [vR 0, vI x1, vI (x2 + v1), vI (x3 + 1)] [] μ Q))) → at_I kR 3 mX10_covered 45 [vR 0, vI x1, vU, vI x3] [vI v1, vI x2] μ Q := by
      intro v1 h
      obtain ⟨c, h⟩ := h
      refine s_iadd dX10_covered_45 (am_w_id c) ?_
      refine s_istore_n dX10_covered_46 rfl (by decide) (L' := [vR 0, vI x1, vI (x2 + v1), vI x3]) rfl ?_
      obtain ⟨c, h⟩ := h
      refine s_iinc dX10_covered_47 rfl (am_w_id c) (by decide) (L' := [vR 0, vI x1, vI (x2 + v1), vI (x3 + 1)]) rfl ?_
      refine s_goto dX10_covered_50 (tgt := 13) (by decide) ?_
      exact h
    refine s_icmp_ne dX10_covered_32 (tgt := 44) (by decide) (fun cc => ?_) (fun cc => ?_)
    · have hp0 := cc
      refine s_iconst dX10_covered_44 (by decide) ?_
      exact am_lesS (kj2 0 (h 0 (by rw [if_neg hp0]))) ⟨Or.inr rfl, Or.inr rfl, Or.inl rfl, Or.inr rfl, trivial⟩
    · have hp0 := cc
      have hsd := hsd hp0
      refine s_aload_n dX10_covered_35 rfl rfl ?_
      refine s_iload_n dX10_covered_36 rfl rfl ?_
      refine s_iconst dX10_covered_37 (by decide) ?_
      obtain ⟨p0, p1⟩ := hsd
      refine s_callV (As := [vI x3, vI 4]) (rest := [vI x2]) (k := 0) dX10_covered_38 lkX10_126 rn0 ⟨by rw [rk0]; rfl, by rw [rk0]; decide⟩ lmX10_of rfl rfl (Nat.le_of_ble_eq_true rfl) (by decide) (Nat.le_refl 0) (Nat.le_refl 0) (hC := sp_X10_of (Q := fun z m => rg μ x3 4 = z ∧ μ = m) p0 p1 ⟨rfl, rfl⟩) (fun r n2 S2 m2 hP => ?_)
      obtain ⟨⟨rfl, rfl⟩, z, rfl, rfl, rfl⟩ := hP
      refine s_goto dX10_covered_41 (tgt := 45) (by decide) ?_
      exact am_lesS (kj2 (rg μ x3 4) (h (rg μ x3 4) (by rw [if_pos hp0]))) ⟨Or.inr rfl, Or.inr rfl, Or.inl rfl, Or.inr rfl, trivial⟩
theorem ve_X10_covered {x1 : Int} {μ : am_M} {Q : Int → am_M → Prop} (h : at_I kR 3 mX10_covered 0 [vR 0, vI x1, vU, vU] [] μ Q) : cl_I kR 3 mX10_covered [vR 0, vI x1] μ Q := am_intro pmX10_covered (Nat.le_of_ble_eq_true rfl) rfl h
theorem sp_X10_covered {μ : am_M} {t : Int} (hV : vP (pR μ)) : cl_I kR 3 mX10_covered [vR 0, vI t] μ (fun z m => z = q_covered (pR μ) t ∧ rq_ μ m) := by
  have hn : in_ 0 25 (μ 1 25) := hV.hn
  rw [cov_is hV]
  refine ve_X10_covered (vc_X10_covered_0 ⟨fun c => ?_, fun c => ⟨(cif_f c).symm, rq_rf⟩⟩)
  rw [cif_t c]
  have : ∀ (j : Nat) (y x : Int), x + j = μ 1 25 → 0 ≤ x → y = cnt_ (fun i => decide (rg μ i 0 = t)) (fun i => rg μ i 4) x → at_I kR 3 mX10_covered 13 [vR 0, vI t, vI y, vI x] [] μ (fun z m => z = cnt_ (fun i => decide (pG (pR μ) i 0 = t)) (fun i => pG (pR μ) i 4) (pN (pR μ)) ∧ rq_ μ m) := by
    intro j
    induction j with
    | zero =>
      intro y x h h0 e
      refine vc_X10_covered_13 ⟨fun _ => ⟨?_, rq_rf⟩, fun q => by omega⟩
      rw [e, show x = μ 1 25 by omega]
      rfl
    | succ j ih =>
      intro y x h h0 e
      have r4 : in_ 0 601 (rg μ x 4) := (hV.okT.2 x h0 (show x < μ 1 25 by omega)).2.2.2.2.1
      have b9 := cnt_b (p := fun i => decide (rg μ i 0 = t)) (v := fun i => rg μ i 4) (n := x) (B := 600) h0 (by omega) (fun i i0 i1 => by
        have : in_ 0 601 (rg μ i 4) := (hV.okT.2 i i0 (show i < μ 1 25 by omega)).2.2.2.2.1
        ((try unfold am_in); (try unfold in_ at *); omega))
      rw [← e] at b9
      refine vc_X10_covered_13 ⟨fun q => by omega, fun q => ⟨(by (try unfold am_in); (try unfold in_ at *); omega), (by (try unfold am_in); (try unfold in_ at *); omega), fun _ => ⟨(by (try unfold am_in); (try unfold in_ at *); omega), (by (try unfold am_in); (try unfold in_ at *); omega)⟩, fun v ev => ⟨by rw [ev]; split <;> ((try unfold am_in); (try unfold in_ at *); omega), (by (try unfold am_in); (try unfold in_ at *); omega), ih _ (x + 1) (by omega) (by omega) ?_⟩⟩⟩
      rw [cnt_s h0, ← e, ev]
      simp only [decide_eq_true_eq]
  exact this (μ 1 25).toNat 0 0 (by ((try unfold am_in); (try unfold in_ at *); omega)) (by omega) rfl
/-! events by their ranks -/
/-- an event's frame, kind, track -/
def ef_ (P : Pj) (e : Int) : Int := if e < 2 * pN P then (if e % 2 = 0 then pG P (e / 2) 1 + pG P (e / 2) 4 else pG P (e / 2) 1) else ((pH P).getD (e - 2 * pN P).toNat (0, 0)).1
def ek_ (P : Pj) (e : Int) : Int := if e < 2 * pN P then (if e % 2 = 0 then 0 else 2) else 1
def et_ (P : Pj) (e : Int) : Int := if e < 2 * pN P then pG P (e / 2) 0 else 0
def rk2_ (P : Pj) (e : Int) : Int := 100000 * ef_ P e + 10000 * ek_ P e + et_ P e
def ky_ (P : Pj) (e : Int) : Int := (ef_ P e * 3 + ek_ P e) * 4 + et_ P e
abbrev evN (P : Pj) : Int := 2 * pN P + (pH P).length
theorem ef_b {P : Pj} (hV : vP P) {e : Int} (h0 : 0 ≤ e) (h1 : e < evN P) : in_ 0 601 (ef_ P e) ∧ in_ 0 3 (ek_ P e) ∧ in_ 0 4 (et_ P e) := by
  unfold ef_ ek_ et_
  by_cases c : e < 2 * pN P
  · have o := (hV.hc (e / 2) (by omega) (by omega)).1
    unfold okC in_ at o
    rw [if_pos c, if_pos c, if_pos c]
    unfold in_
    split <;> omega
  · have o := ho_g (fun p hp => (hV.hh p hp).1) (e - 2 * pN P)
    rw [if_neg c, if_neg c, if_neg c]
    unfold in_ at o ⊢
    omega
/-- no two events have one key -/
theorem ky_inj {P : Pj} (hV : vP P) {a b : Int} (a0 : 0 ≤ a) (a1 : a < evN P) (b0 : 0 ≤ b) (b1 : b < evN P) (h : ky_ P a = ky_ P b) : a = b := by
  have eN : evN P = 2 * pN P + ((pH P).length : Int) := rfl
  have ba := ef_b hV a0 a1
  have bb := ef_b hV b0 b1
  unfold in_ at ba bb
  have e3 : ef_ P a = ef_ P b ∧ ek_ P a = ek_ P b ∧ et_ P a = et_ P b := by
    unfold ky_ at h
    omega
  obtain ⟨e1, e2, e3⟩ := e3
  unfold ef_ at e1
  unfold ek_ at e2
  unfold et_ at e3
  by_cases ca : a < 2 * pN P
  · by_cases cb : b < 2 * pN P
    · rw [if_pos ca, if_pos cb] at e1 e2 e3
      have par : a % 2 = b % 2 := by
        (repeat' split at e2) <;> omega
      by_cases q : a / 2 = b / 2
      · omega
      · exfalso
        have oa := (hV.hc (a / 2) (by omega) (by omega)).1
        have ob := (hV.hc (b / 2) (by omega) (by omega)).1
        unfold okC in_ at oa ob
        have sb : bfr_ (pG P (a / 2)) (pG P (b / 2)) ∨ bfr_ (pG P (b / 2)) (pG P (a / 2)) := by
          rcases Int.lt_or_gt_of_ne q with r | r
          · exact Or.inl (hV.hs _ _ (by omega) r (by omega))
          · exact Or.inr (hV.hs _ _ (by omega) r (by omega))
        unfold bfr_ at sb
        rw [← par] at e1
        by_cases p0 : a % 2 = 0
        · rw [if_pos p0, if_pos p0] at e1
          omega
        · rw [if_neg p0, if_neg p0] at e1
          omega
    · rw [if_pos ca, if_neg cb] at e2
      split at e2 <;> omega
  · by_cases cb : b < 2 * pN P
    · rw [if_neg ca, if_pos cb] at e2
      split at e2 <;> omega
    · rw [if_neg ca, if_neg cb] at e1
      have la : (a - 2 * pN P).toNat < (pH P).length := by omega
      have lb : (b - 2 * pN P).toNat < (pH P).length := by omega
      rw [List.getD_eq_getElem?_getD, List.getElem?_eq_getElem la, List.getD_eq_getElem?_getD, List.getElem?_eq_getElem lb] at e1
      simp only [Option.getD_some] at e1
      have hp := hV.hr
      rw [List.pairwise_iff_getElem] at hp
      rcases Int.lt_trichotomy a b with r | r | r
      · have := hp _ _ la lb (by omega)
        omega
      · exact r
      · have := hp _ _ lb la (by omega)
        omega
theorem rk_ky {P : Pj} (hV : vP P) {a b : Int} (a0 : 0 ≤ a) (a1 : a < evN P) (b0 : 0 ≤ b) (b1 : b < evN P) : rk2_ P a < rk2_ P b ↔ ky_ P a < ky_ P b := by
  have ba := ef_b hV a0 a1
  have bb := ef_b hV b0 b1
  unfold in_ at ba bb
  unfold rk2_ ky_
  omega
/-- how many events have a key below one -/
def blw_ (P : Pj) (k : Int) : Int := cnt_ (fun o => decide (ky_ P o < k)) (fun _ => 1) (evN P)
def isK_ (P : Pj) (k : Int) : Prop := ∃ e, 0 ≤ e ∧ e < evN P ∧ ky_ P e = k

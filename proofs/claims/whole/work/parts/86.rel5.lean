/-! steps and snapshot on both sides -/
theorem jC_pq {μ m n : am_M} {a : Nat} {g : Nat → Int} (hV : vP (pC μ a)) (h7 : 0 ≤ μ (a + 6) 2) (hE : jE_ (pC μ a) g) (pq : pq_ μ a m 1) (hd : m 129 5 = 1) (hz : m 147 0 = 0) (hn : ∀ i : Nat, i < 470 → n 1 i = g i) : jC_ m n := by
  have pe := pq_pe hV pq
  refine ⟨pe_v hV pe, by rw [show m 7 2 = _ from pq_7 pq]; exact h7, fun q => by omega, hz, ?_⟩
  exact jE_c (pe_v hV pe) (jE_p hE pe) hn
theorem JR_und {K : Int} {μ ν m n : am_M} {z y : Int} (h : JR K μ ν) (hc : (μ 28 5 ≠ 0 ∧ z = -5 ∧ m = μ) ∨ (μ 28 5 = 0 ∧ μ 28 2 = 0 ∧ z = -6 ∧ m = μ) ∨ (μ 28 5 = 0 ∧ 0 < μ 28 2 ∧ z = μ 28 2 - 1 ∧ fr_ (28 :: 129 :: pjC 1) μ m ∧ m 28 1 = μ 28 1 ∧ m 28 2 = μ 28 2 - 1 ∧ m 28 3 = μ 28 3 + 1 ∧ m 28 4 = μ 28 4 ∧ m 28 5 = μ 28 5 ∧ m 129 5 = 1 ∧ pq_ μ (rg_ (μ 28 1) (μ 28 2 - 1)) m 1))
    (hr : (ν 0 11 ≠ 0 ∧ y = -5 ∧ n = ν) ∨ (ν 0 11 = 0 ∧ ν 0 7 = 0 ∧ y = -6 ∧ n = ν) ∨ (ν 0 11 = 0 ∧ 0 < ν 0 7 ∧ y = ν 0 7 - 1 ∧ fr_ [0, 1, 5] ν n ∧ (∀ j, j ≠ 7 → j ≠ 8 → n 0 j = ν 0 j) ∧ n 0 7 = ν 0 7 - 1 ∧ n 0 8 = ν 0 8 + 1 ∧ (∀ i : Nat, i < 470 → n 1 i = ν 4 (470 * (ν 0 7 - 1).toNat + i)) ∧ (∀ i : Nat, i < 470 * (ν 0 8).toNat → n 5 i = ν 5 i) ∧ ∀ i : Nat, i < 470 → n 5 (470 * (ν 0 8).toNat + i) = ν 1 i)) : z = y ∧ JR (K + 1) m n := by
  have hop := h.2.1.2.2.2.2.2.1.2.2.1
  have e7 := h.2.1.2.2.2.2.2.1.1
  rcases hc with ⟨p1, p2, p3⟩ | ⟨p1, p0, p2, p3⟩ | ⟨p1, p2, p3, p4, p5, p6, p7, p8, p9, p10, p11⟩
  · rcases hr with ⟨q1, q2, q3⟩ | ⟨q1, -⟩ | ⟨q1, -⟩
    · rw [p3, q3, p2, q2]; exact ⟨rfl, h.up⟩
    · exact absurd (hop.mp q1) p1
    · exact absurd (hop.mp q1) p1
  · rcases hr with ⟨q1, -⟩ | ⟨q1, q0, q2, q3⟩ | ⟨q1, q2, -⟩
    · exact absurd (hop.mpr p1) q1
    · rw [p3, q3, p2, q2]; exact ⟨rfl, h.up⟩
    · omega
  · rcases hr with ⟨q1, -⟩ | ⟨q1, q0, -⟩ | ⟨q1, q2, q3, q4, q5, q6, q7, q8, q9, q10⟩
    · exact absurd (hop.mpr p1) q1
    · omega
    · obtain ⟨c, hh, s, t, f, w⟩ := h
      have hfar : ∀ k ∈ 28 :: 129 :: pjC 1, k = 28 ∨ k = 129 ∨ (1 ≤ k ∧ k ≤ 9) := by decide
      have nn : ∀ k, k = 0 ∨ (10 ≤ k ∧ k ≤ 27) ∨ (29 ≤ k ∧ k ≤ 128) ∨ 130 ≤ k → m k = μ k := fun k hk => p4 k (fun q => by have := hfar k q; omega)
      have e0 : m 0 = μ 0 := nn 0 (by omega)
      obtain ⟨a1, a2, a3, a4, a5, ⟨a61, a62, a63, a64, a65⟩, a7, a8, a9, a10⟩ := hh
      have er : ∀ o x, pC m (rg_ o x) = pC μ (rg_ o x) ∧ m (rg_ o x + 6) = μ (rg_ o x + 6) := fun o x => by
        have b := rg_b o x
        exact ⟨pC_e (fun j hj => nn _ (by omega)), nn _ (by omega)⟩
      have prv := a7 (μ 28 2 - 1).toNat (by omega)
      rw [show (((μ 28 2 - 1).toNat : Nat) : Int) = μ 28 2 - 1 by omega] at prv
      have vpv := a5 (μ 28 2 - 1) (by omega) (by omega)
      have cur := a9 (Or.inl p1)
      rw [a61] at q8
      rw [a62] at q9 q10
      refine ⟨by omega, jC_pq vpv.1 vpv.2 prv p11 p10 (by rw [nn 147 (by omega)]; exact c.2.2.2.1) q8, ?_, jS_e s (by rw [e0]) (by rw [nn 25 (by omega)]) (pC_e (fun j hj => nn _ (by omega))) (q5 10 (by decide) (by decide)) (q4 3 (by decide)), jT_e t (by rw [nn 151 (by omega)]) (nn 152 (by omega)) (q5 23 (by decide) (by decide)) (q4 17 (by decide)), jF_e f (by rw [e0]) (by rw [e0]) (q5 26 (by decide) (by decide)) (q5 27 (by decide) (by decide)), jW_e w (nn 156 (by omega)) (nn 157 (by omega)) (q5 32 (by decide) (by decide)) (q4 21 (by decide))⟩
      unfold jH_
      rw [p5, p6, p7, p8, p9, q6, q7, a61, a62, q5 9 (by decide) (by decide), q5 11 (by decide) (by decide), q4 4 (by decide), q4 6 (by decide)]
      refine ⟨a1, by omega, in_up a3, in_up a4, fun i i0 i1 => ?_, ⟨rfl, rfl, a63, a64, fun z => absurd p1 z⟩, fun i i1 => ?_, fun j j1 => ?_, fun _ => ?_, fun z => absurd p1 z⟩
      · rw [(er _ _).1, (er _ _).2]; exact a5 i i0 (by omega)
      · rw [(er _ _).1]; exact a7 i (by omega)
      · rw [(er _ _).1]
        by_cases c0 : j = 0
        · subst c0
          rw [show μ 28 2 - 1 + 1 + ((0 : Nat) : Int) = μ 28 2 by omega]
          refine jE_c (a5 (μ 28 2) (by omega) (by omega)).1 (jE_p c.2.2.2.2 (pe_sy cur)) (fun k hk => ?_)
          show n 5 (470 * (μ 28 3 + 1 - 1 - ((0 : Nat) : Int)).toNat + k) = ν 1 k
          rw [show (μ 28 3 + 1 - 1 - ((0 : Nat) : Int)).toNat = (μ 28 3).toNat by omega]
          exact q10 k hk
        · have := a8 (j - 1) (by omega)
          rw [show μ 28 2 - 1 + 1 + (j : Int) = μ 28 2 + 1 + ((j - 1 : Nat) : Int) by omega]
          refine jE_c (a5 (μ 28 2 + 1 + ((j - 1 : Nat) : Int)) (by omega) (by omega)).1 this (fun k hk => ?_)
          show n 5 (470 * (μ 28 3 + 1 - 1 - (j : Int)).toNat + k) = ν 5 (470 * (μ 28 3 - 1 - ((j - 1 : Nat) : Int)).toNat + k)
          rw [show (μ 28 3 + 1 - 1 - (j : Int)).toNat = (μ 28 3 - 1 - ((j - 1 : Nat) : Int)).toNat by omega]
          have hx : (μ 28 3 - 1 - ((j - 1 : Nat) : Int)).toNat + 1 ≤ (μ 28 3).toNat := by omega
          have := Nat.mul_le_mul_left 470 hx
          exact q9 _ (by omega)
      · rw [(er _ _).1]
        exact pq_pe vpv.1 p11
theorem JR_red {K : Int} {μ ν m n : am_M} {z y : Int} (h : JR K μ ν) (hc : (μ 28 5 ≠ 0 ∧ z = -5 ∧ m = μ) ∨ (μ 28 5 = 0 ∧ μ 28 3 = 0 ∧ z = -6 ∧ m = μ) ∨ (μ 28 5 = 0 ∧ 0 < μ 28 3 ∧ z = μ 28 3 - 1 ∧ fr_ (28 :: 129 :: pjC 1) μ m ∧ m 28 1 = μ 28 1 ∧ m 28 2 = μ 28 2 + 1 ∧ m 28 3 = μ 28 3 - 1 ∧ m 28 4 = μ 28 4 ∧ m 28 5 = μ 28 5 ∧ m 129 5 = 1 ∧ pq_ μ (rg_ (μ 28 1) (μ 28 2 + 1)) m 1))
    (hr : (ν 0 11 ≠ 0 ∧ y = -5 ∧ n = ν) ∨ (ν 0 11 = 0 ∧ ν 0 8 = 0 ∧ y = -6 ∧ n = ν) ∨ (ν 0 11 = 0 ∧ 0 < ν 0 8 ∧ y = ν 0 8 - 1 ∧ fr_ [0, 1, 4] ν n ∧ (∀ j, j ≠ 7 → j ≠ 8 → n 0 j = ν 0 j) ∧ n 0 7 = ν 0 7 + 1 ∧ n 0 8 = ν 0 8 - 1 ∧ (∀ i : Nat, i < 470 → n 1 i = ν 5 (470 * (ν 0 8 - 1).toNat + i)) ∧ (∀ i : Nat, i < 470 * (ν 0 7).toNat → n 4 i = ν 4 i) ∧ ∀ i : Nat, i < 470 → n 4 (470 * (ν 0 7).toNat + i) = ν 1 i)) : z = y ∧ JR (K + 1) m n := by
  have hop := h.2.1.2.2.2.2.2.1.2.2.1
  have e8 := h.2.1.2.2.2.2.2.1.2.1
  rcases hc with ⟨p1, p2, p3⟩ | ⟨p1, p0, p2, p3⟩ | ⟨p1, p2, p3, p4, p5, p6, p7, p8, p9, p10, p11⟩
  · rcases hr with ⟨q1, q2, q3⟩ | ⟨q1, -⟩ | ⟨q1, -⟩
    · rw [p3, q3, p2, q2]; exact ⟨rfl, h.up⟩
    · exact absurd (hop.mp q1) p1
    · exact absurd (hop.mp q1) p1
  · rcases hr with ⟨q1, -⟩ | ⟨q1, q0, q2, q3⟩ | ⟨q1, q2, -⟩
    · exact absurd (hop.mpr p1) q1
    · rw [p3, q3, p2, q2]; exact ⟨rfl, h.up⟩
    · omega
  · rcases hr with ⟨q1, -⟩ | ⟨q1, q0, -⟩ | ⟨q1, q2, q3, q4, q5, q6, q7, q8, q9, q10⟩
    · exact absurd (hop.mpr p1) q1
    · omega
    · obtain ⟨c, hh, s, t, f, w⟩ := h
      have hfar : ∀ k ∈ 28 :: 129 :: pjC 1, k = 28 ∨ k = 129 ∨ (1 ≤ k ∧ k ≤ 9) := by decide
      have nn : ∀ k, k = 0 ∨ (10 ≤ k ∧ k ≤ 27) ∨ (29 ≤ k ∧ k ≤ 128) ∨ 130 ≤ k → m k = μ k := fun k hk => p4 k (fun q => by have := hfar k q; omega)
      have e0 : m 0 = μ 0 := nn 0 (by omega)
      obtain ⟨a1, a2, a3, a4, a5, ⟨a61, a62, a63, a64, a65⟩, a7, a8, a9, a10⟩ := hh
      have er : ∀ o x, pC m (rg_ o x) = pC μ (rg_ o x) ∧ m (rg_ o x + 6) = μ (rg_ o x + 6) := fun o x => by
        have b := rg_b o x
        exact ⟨pC_e (fun j hj => nn _ (by omega)), nn _ (by omega)⟩
      have nxt := a8 0 (by omega)
      rw [show μ 28 2 + 1 + ((0 : Nat) : Int) = μ 28 2 + 1 by omega, show μ 28 3 - 1 - ((0 : Nat) : Int) = μ 28 3 - 1 by omega] at nxt
      have vpv := a5 (μ 28 2 + 1) (by omega) (by omega)
      have cur := a9 (Or.inl p1)
      rw [a62] at q8
      rw [a61] at q9 q10
      refine ⟨by omega, jC_pq vpv.1 vpv.2 nxt p11 p10 (by rw [nn 147 (by omega)]; exact c.2.2.2.1) q8, ?_, jS_e s (by rw [e0]) (by rw [nn 25 (by omega)]) (pC_e (fun j hj => nn _ (by omega))) (q5 10 (by decide) (by decide)) (q4 3 (by decide)), jT_e t (by rw [nn 151 (by omega)]) (nn 152 (by omega)) (q5 23 (by decide) (by decide)) (q4 17 (by decide)), jF_e f (by rw [e0]) (by rw [e0]) (q5 26 (by decide) (by decide)) (q5 27 (by decide) (by decide)), jW_e w (nn 156 (by omega)) (nn 157 (by omega)) (q5 32 (by decide) (by decide)) (q4 21 (by decide))⟩
      unfold jH_
      rw [p5, p6, p7, p8, p9, q6, q7, a61, a62, q5 9 (by decide) (by decide), q5 11 (by decide) (by decide), q4 5 (by decide), q4 6 (by decide)]
      refine ⟨a1, by omega, in_up a3, in_up a4, fun i i0 i1 => ?_, ⟨rfl, rfl, a63, a64, fun z => absurd p1 z⟩, fun i i1 => ?_, fun j j1 => ?_, fun _ => ?_, fun z => absurd p1 z⟩
      · rw [(er _ _).1, (er _ _).2]; exact a5 i i0 (by omega)
      · rw [(er _ _).1]
        by_cases c0 : (i : Int) = μ 28 2
        · rw [c0]
          refine jE_c (a5 (μ 28 2) (by omega) (by omega)).1 (jE_p c.2.2.2.2 (pe_sy cur)) (fun k hk => ?_)
          show n 4 (470 * i + k) = ν 1 k
          rw [show i = (μ 28 2).toNat by omega]
          exact q10 k hk
        · refine jE_c (a5 i (by omega) (by omega)).1 (a7 i (by omega)) (fun k hk => ?_)
          show n 4 (470 * i + k) = ν 4 (470 * i + k)
          have hx : i + 1 ≤ (μ 28 2).toNat := by omega
          have := Nat.mul_le_mul_left 470 hx
          exact q9 _ (by omega)
      · rw [(er _ _).1]
        have := a8 (j + 1) (by omega)
        rw [show μ 28 2 + 1 + 1 + (j : Int) = μ 28 2 + 1 + ((j + 1 : Nat) : Int) by omega, show μ 28 3 - 1 - 1 - (j : Int) = μ 28 3 - 1 - ((j + 1 : Nat) : Int) by omega]
        exact this
      · rw [(er _ _).1]
        exact pq_pe vpv.1 p11
theorem JR_sav {K : Int} {μ ν m n : am_M} {z y : Int} (h : JR K μ ν) (hc : z = μ 5 1 ∧ fr_ (0 :: pjC 19) μ m ∧ m 0 = am_up (μ 0) 9 1 ∧ pq_ μ 1 m 19) (hr : y = ν 1 25 ∧ fr_ [0, 3] ν n ∧ (∀ j, j ≠ 10 → n 0 j = ν 0 j) ∧ n 0 10 = 1 ∧ ∀ i : Nat, i < 470 → n 3 i = ν 1 i) : z = y ∧ JR (K + 1) m n := by
  obtain ⟨p1, p2, p3, p4⟩ := hc
  obtain ⟨q1, q2, q3, q4, q5⟩ := hr
  have hI := h.ci
  have hN : ν 1 25 = μ 5 1 := pe_N h.pe
  obtain ⟨c, hh, s, t, f, w⟩ := h
  have hu := un_o hI p2 (by decide)
  have hfar : ∀ k ∈ 0 :: pjC 19, k = 0 ∨ (19 ≤ k ∧ k ≤ 27) := by decide
  have nn : ∀ k, (1 ≤ k ∧ k ≤ 18) ∨ 28 ≤ k → m k = μ k := fun k hk => p2 k (fun q => by have := hfar k q; omega)
  obtain ⟨a1, a2, a3, a4, a5, ⟨a61, a62, a63, a64, a65⟩, a7, a8, a9, a10⟩ := hh
  have er : ∀ o x, pC m (rg_ o x) = pC μ (rg_ o x) ∧ m (rg_ o x + 6) = μ (rg_ o x + 6) := fun o x => by
    have b := rg_b o x
    exact ⟨pC_e (fun j hj => nn _ (by omega)), nn _ (by omega)⟩
  have pq := pq_pe c.1 p4
  have e28 : m 28 = μ 28 := nn 28 (by omega)
  refine ⟨by rw [p1, q1, hN], jC_1 c hu (q2 1 (by decide)), ?_, ⟨?_, fun _ => ⟨pe_v c.1 pq, ?_, ?_⟩⟩, jT_e t (by rw [nn 151 (by omega)]) (nn 152 (by omega)) (q3 23 (by decide)) (q2 17 (by decide)), jF_e f (by rw [p3, up_n (by decide)]) (by rw [p3, up_n (by decide)]) (q3 26 (by decide)) (q3 27 (by decide)), jW_e w (nn 156 (by omega)) (nn 157 (by omega)) (q3 32 (by decide)) (q2 21 (by decide))⟩
  · unfold jH_
    rw [e28, q2 4 (by decide), q2 5 (by decide), q2 6 (by decide), q3 7 (by decide), q3 8 (by decide), q3 9 (by decide), q3 11 (by decide)]
    refine ⟨a1, a2, in_up a3, in_up a4, fun i i0 i1 => ?_, ⟨a61, a62, a63, a64, a65⟩, fun i i1 => ?_, fun j j1 => ?_, fun q => ?_, fun q q' => ?_⟩
    · rw [(er _ _).1, (er _ _).2]; exact a5 i i0 i1
    · rw [(er _ _).1]; exact a7 i i1
    · rw [(er _ _).1]; exact a8 j j1
    · rw [(er _ _).1]
      exact pe_tr (a9 q) hu.2.1
    · rw [(er _ _).1]; exact a10 q q'
  · rw [q4, p3, up_s]
  · rw [show m 25 2 = _ from pq_7 p4]
    exact c.2.1
  · exact jE_c (pe_v c.1 pq) (jE_p c.2.2.2.2 pq) q5
theorem JR_res {K : Int} {μ ν m n : am_M} {z y : Int} (h : JR K μ ν) (hc : (μ 28 5 ≠ 0 ∧ z = -5 ∧ m = μ) ∨ (μ 28 5 = 0 ∧ μ 0 9 = 0 ∧ z = -6 ∧ m = μ) ∨ (μ 28 5 = 0 ∧ μ 0 9 ≠ 0 ∧ z = μ 23 1 ∧ fr_ (28 :: 129 :: (pjC 1 ++ pjC (rg_ (μ 28 1) 0))) μ m ∧ m 28 1 = μ 28 1 ∧ m 28 2 = 0 ∧ m 28 3 = 0 ∧ m 28 4 = μ 28 4 ∧ m 28 5 = μ 28 5 ∧ m 129 5 = 1 ∧ pq_ μ 19 m 1 ∧ pq_ μ 19 m (rg_ (μ 28 1) 0)))
    (hr : (ν 0 11 ≠ 0 ∧ y = -5 ∧ n = ν) ∨ (ν 0 11 = 0 ∧ ν 0 10 = 0 ∧ y = -6 ∧ n = ν) ∨ (ν 0 11 = 0 ∧ ν 0 10 ≠ 0 ∧ y = ν 3 25 ∧ fr_ [0, 1] ν n ∧ (∀ j, j ≠ 7 → j ≠ 8 → n 0 j = ν 0 j) ∧ n 0 7 = 0 ∧ n 0 8 = 0 ∧ ∀ i : Nat, i < 470 → n 1 i = ν 3 i)) : z = y ∧ JR (K + 1) m n := by
  have hop := h.2.1.2.2.2.2.2.1.2.2.1
  have hsv := h.2.2.1.1
  rcases hc with ⟨p1, p2, p3⟩ | ⟨p1, p0, p2, p3⟩ | ⟨p1, p2, p3, p4, p5, p6, p7, p8, p9, p10, p11, p12⟩
  · rcases hr with ⟨q1, q2, q3⟩ | ⟨q1, -⟩ | ⟨q1, -⟩
    · rw [p3, q3, p2, q2]; exact ⟨rfl, h.up⟩
    · exact absurd (hop.mp q1) p1
    · exact absurd (hop.mp q1) p1
  · rcases hr with ⟨q1, -⟩ | ⟨q1, q0, q2, q3⟩ | ⟨q1, q2, -⟩
    · exact absurd (hop.mpr p1) q1
    · rw [p3, q3, p2, q2]; exact ⟨rfl, h.up⟩
    · exact absurd (hsv.mpr p0) q2
  · rcases hr with ⟨q1, -⟩ | ⟨q1, q0, -⟩ | ⟨q1, q2, q3, q4, q5, q6, q7, q8⟩
    · exact absurd (hop.mpr p1) q1
    · exact absurd (hsv.mp q0) p2
    · obtain ⟨c, hh, s, t, f, w⟩ := h
      obtain ⟨v19, h25, E19⟩ := s.2 p2
      have hN : ν 3 25 = μ 23 1 := pe_N E19.1
      have hfar : ∀ k ∈ 28 :: 129 :: (pjC 1 ++ pjC (rg_ (μ 28 1) 0)), k = 28 ∨ k = 129 ∨ (1 ≤ k ∧ k ≤ 9) ∨ (30 ≤ k ∧ k ≤ 128) := fun k hk => by
        have b := rg_b (μ 28 1) 0
        unfold pjC at hk
        simp only [List.mem_cons, List.mem_append, List.not_mem_nil, or_false] at hk
        omega
      have nn : ∀ k, k = 0 ∨ (10 ≤ k ∧ k ≤ 27) ∨ 130 ≤ k → m k = μ k := fun k hk => p4 k (fun q => by have := hfar k q; omega)
      have e0 : m 0 = μ 0 := nn 0 (by omega)
      obtain ⟨a1, a2, a3, a4, a5, ⟨a61, a62, a63, a64, a65⟩, a7, a8, a9, a10⟩ := hh
      have pq := pq_pe v19 p12
      refine ⟨by rw [p3, q3, hN], jC_pq v19 h25 E19 p11 p10 (by rw [nn 147 (by omega)]; exact c.2.2.2.1) q8, ?_, jS_e s (by rw [e0]) (by rw [nn 25 (by omega)]) (pC_e (fun j hj => nn _ (by omega))) (q5 10 (by decide) (by decide)) (q4 3 (by decide)), jT_e t (by rw [nn 151 (by omega)]) (nn 152 (by omega)) (q5 23 (by decide) (by decide)) (q4 17 (by decide)), jF_e f (by rw [e0]) (by rw [e0]) (q5 26 (by decide) (by decide)) (q5 27 (by decide) (by decide)), jW_e w (nn 156 (by omega)) (nn 157 (by omega)) (q5 32 (by decide) (by decide)) (q4 21 (by decide))⟩
      unfold jH_
      rw [p5, p6, p7, p8, p9, q6, q7, q5 9 (by decide) (by decide), q5 11 (by decide) (by decide)]
      refine ⟨a1, by omega, in_up a3, in_up a4, fun i i0 i1 => ?_, ⟨rfl, rfl, a63, a64, fun z => absurd p1 z⟩, fun i i1 => by omega, fun j j1 => by omega, fun _ => ?_, fun z => absurd p1 z⟩
      · have : i = 0 := by omega
        subst this
        exact ⟨pe_v v19 pq, by rw [pq_7 p12]; exact h25⟩
      · exact pe_tr (pe_sy pq) (pq_pe v19 p11)

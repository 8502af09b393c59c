/-! texts, groups, steps, snapshot on both sides -/
theorem un_o {K : Int} {ks : List Nat} {μ m : am_M} (hI : CI K μ) (f : fr_ ks μ m) (hk : ∀ k ∈ ks, k = 0 ∨ (10 ≤ k ∧ k ≤ 128) ∨ 150 < k) : un_ ks μ m := by
  have pe : pC m 1 = pC μ 1 := pe_of f (fun k q => by have := hk k q; omega)
  have n := fun k (h : (1 ≤ k ∧ k ≤ 9) ∨ (129 ≤ k ∧ k ≤ 150)) => f k (fun q => by have := hk k q; omega)
  refine ⟨fr_up f (fun k q => List.mem_append_left _ q), by rw [pe]; exact pe_rf, fun q => ?_, by rw [n 147 (by omega)]; exact hI.z, by rw [n 7 (by omega)]; exact hI.h7⟩
  rw [n 129 (by omega)] at q
  exact snd_pe hI.v f (fun k q => by have := hk k q; omega) (by rw [pe]; exact pe_rf) (hI.sn q)
theorem jC_1 {ks : List Nat} {μ ν m n : am_M} (h : jC_ μ ν) (hu : un_ ks μ m) (e : n 1 = ν 1) : jC_ m n := by
  obtain ⟨c1, c2, c3, c4, c5, c6⟩ := h
  refine ⟨pe_v c1 hu.2.1, hu.2.2.2.2, hu.2.2.1, hu.2.2.2.1, ?_⟩
  rw [e]
  exact ⟨pe_tr (pe_sy hu.2.1) c5, c6⟩
theorem JR_app {K : Int} {μ ν m n : am_M} {z y c : Int} (h : JR K μ ν) (hc : ((c < 32 ∨ 126 < c) ∧ z = -2 ∧ m = μ) ∨ ((32 ≤ c ∧ c ≤ 126) ∧ 60 ≤ μ 151 4 ∧ z = -3 ∧ m = μ) ∨ ((32 ≤ c ∧ c ≤ 126) ∧ μ 151 4 < 60 ∧ z = μ 151 4 + 1 ∧ fr_ [151, 152] μ m ∧ m 151 = am_up (μ 151) 4 (μ 151 4 + 1) ∧ m 152 = am_up (μ 152) (μ 151 4).toNat c))
    (hr : ((c < 32 ∨ 126 < c) ∧ y = -2 ∧ n = ν) ∨ ((32 ≤ c ∧ c ≤ 126) ∧ 60 ≤ ν 0 23 ∧ y = -3 ∧ n = ν) ∨ ((32 ≤ c ∧ c ≤ 126) ∧ ν 0 23 < 60 ∧ y = ν 0 23 + 1 ∧ fr_ [0, 17] ν n ∧ n 0 = am_up (ν 0) 23 (ν 0 23 + 1) ∧ n 17 = am_up (ν 17) (ν 0 23).toNat c)) : z = y ∧ JR (K + 1) m n := by
  have t := h.2.2.2.1
  rw [t.1, t.2.2] at hr
  rcases hc with ⟨p1, p2, p3⟩ | ⟨p0, p1, p2, p3⟩ | ⟨p0, p1, p2, p3, p4, p5⟩
  · rcases hr with ⟨q1, q2, q3⟩ | ⟨q1, -⟩ | ⟨q1, -⟩
    · rw [p3, q3, p2, q2]; exact ⟨rfl, h.up⟩
    · omega
    · omega
  · rcases hr with ⟨q1, -⟩ | ⟨q0, q1, q2, q3⟩ | ⟨q0, q1, -⟩
    · omega
    · rw [p3, q3, p2, q2]; exact ⟨rfl, h.up⟩
    · omega
  · rcases hr with ⟨q1, -⟩ | ⟨q0, q1, -⟩ | ⟨q0, q1, q2, q3, q4, q5⟩
    · omega
    · omega
    · refine ⟨by omega, ?_⟩
      have hI := h.ci
      obtain ⟨c, hh, s, t, f, w⟩ := h
      have hu := un_o hI p3 (by decide)
      have n0 : ∀ j, j ≠ 23 → n 0 j = ν 0 j := fun j hj => by rw [q4, up_n hj]
      have w0 : rw_ ν n := ⟨by show pe_ (pA (ν 1)) (pA (n 1)); rw [q3 1 (by decide)]; exact pe_rf, by rw [q3 1 (by decide)]; exact c.2.2.2.2.2, q3 3 (by decide), q3 4 (by decide), q3 5 (by decide), q3 6 (by decide), fun j _ hj => n0 j (by omega)⟩
      have k2 : ksf [151, 152] := by unfold ksf; decide
      have e0 : m 0 = μ 0 := p3 0 (by decide)
      have t2 := t.2.1
      unfold in_ at t2
      exact ⟨jC_un c hu w0, jH_up (jH_un k2 hh hu w0), jS_un k2 (by rw [e0]) s hu w0, ⟨by rw [q4, up_s, p4, up_s], by rw [p4, up_s]; ((try unfold am_in); (try unfold in_ at *); omega), by rw [q5, p5]⟩, jF_e f (by rw [e0]) (by rw [e0]) (n0 26 (by decide)) (n0 27 (by decide)), jW_e w (p3 156 (by decide)) (p3 157 (by decide)) (n0 32 (by decide)) (q3 21 (by decide))⟩
theorem JR_ref {K : Int} {μ ν m n : am_M} {z y w : Int} (h : JR K μ ν) (hc : z = (if w < 0 then -2 else if 1 < w then -2 else if μ 0 10 = 0 then -6 else if w = 0 then μ 0 10 else μ 0 11) ∧ m = μ) (hr : y = (if w < 0 then -2 else if 1 < w then -2 else if ν 0 27 < 0 then -6 else if w = 0 then ν 0 26 else ν 0 27) ∧ n = ν) : z = y ∧ JR (K + 1) m n := by
  have f := h.2.2.2.2.1
  rw [hc.2, hr.2]
  refine ⟨?_, h.up⟩
  rw [hc.1, hr.1]
  rcases f with ⟨f1, f2⟩ | ⟨f1, f2, f3, f4⟩
  · rw [if_pos f1, if_pos (show ν 0 27 < 0 by omega)]
  · rw [if_neg (show ¬ μ 0 10 = 0 by omega), if_neg (show ¬ ν 0 27 < 0 by omega), f2, f4]
theorem JR_wri {K : Int} {μ ν m n : am_M} {z y : Int} (h : JR K μ ν) (hc : z = (wrt_ (pH (pC μ 1))).length ∧ fr_ [156, 157] μ m ∧ wr_ m (wrt_ (pH (pC μ 1)))) (hr : y = (wrt_ (pH (pR ν))).length ∧ fwR ν n ∧ wrR n (wrt_ (pH (pR ν)))) : z = y ∧ JR (K + 1) m n := by
  have eH := pe_H h.pe
  rw [eH] at hr
  refine ⟨by rw [hc.1, hr.1], ?_⟩
  have hI := h.ci
  have hl := wrt_l (A := pH (pC μ 1)) (fun p hp => h.v.hh p hp)
  have hll : (pH (pC μ 1)).length ≤ 12 := h.v.hl
  obtain ⟨-, p3, p4⟩ := hc
  obtain ⟨-, ⟨q3, n0⟩, q4⟩ := hr
  obtain ⟨c, hh, s, t, f, w⟩ := h
  have hu := un_o hI p3 (by decide)
  have w0 : rw_ ν n := ⟨by show pe_ (pA (ν 1)) (pA (n 1)); rw [q3 1 (by decide)]; exact pe_rf, by rw [q3 1 (by decide)]; exact c.2.2.2.2.2, q3 3 (by decide), q3 4 (by decide), q3 5 (by decide), q3 6 (by decide), fun j _ hj => n0 j (by omega)⟩
  have k2 : ksf [156, 157] := by unfold ksf; decide
  have e0 : m 0 = μ 0 := p3 0 (by decide)
  exact ⟨jC_un c hu w0, jH_up (jH_un k2 hh hu w0), jS_un k2 (by rw [e0]) s hu w0, jT_e t (by rw [p3 151 (by decide)]) (p3 152 (by decide)) (n0 23 (by decide)) (q3 17 (by decide)), jF_e f (by rw [e0]) (by rw [e0]) (n0 26 (by decide)) (n0 27 (by decide)), _, p4, q4, by omega⟩
theorem JR_cnt {K : Int} {μ ν m n : am_M} {z y w : Int} (h : JR K μ ν) (hc : z = q_cnt (pC μ 1) (μ 28 2) (μ 28 3) (μ 28 5) (μ 151 4) w ∧ m = μ) (hr : y = q_cnt (pR ν) (ν 0 7) (ν 0 8) (ν 0 11) (ν 0 23) w ∧ n = ν) : z = y ∧ JR (K + 1) m n := by
  rw [hc.2, hr.2]
  refine ⟨?_, h.up⟩
  rw [hc.1, hr.1, cnt_pe h.pe]
  have a := h.2.1.2.2.2.2.2.1
  rw [a.1, a.2.1, h.2.2.2.1.1]
  unfold q_cnt
  by_cases c : μ 28 5 = 0
  · rw [if_pos c, if_pos (a.2.2.1.mpr c)]
  · rw [if_neg c, if_neg (fun q => c (a.2.2.1.mp q))]
/-- only steps' numbers have changed -/
theorem JR_beg {K : Int} {μ ν m n : am_M} {z y : Int} (h : JR K μ ν) (hc : (μ 28 5 ≠ 0 ∧ z = -5 ∧ m = μ) ∨ (μ 28 5 = 0 ∧ z = μ 28 2 ∧ fr_ [28] μ m ∧ m 28 1 = μ 28 1 ∧ m 28 2 = μ 28 2 ∧ m 28 3 = μ 28 3 ∧ m 28 4 = 0 ∧ m 28 5 = 1))
    (hr : (ν 0 11 ≠ 0 ∧ y = -5 ∧ n = ν) ∨ (ν 0 11 = 0 ∧ y = ν 0 7 ∧ fr_ [0] ν n ∧ (∀ j, j ≠ 9 → j ≠ 11 → n 0 j = ν 0 j) ∧ n 0 9 = 0 ∧ n 0 11 = 1)) : z = y ∧ JR (K + 1) m n := by
  have hop := h.2.1.2.2.2.2.2.1.2.2.1
  rcases hc with ⟨p1, p2, p3⟩ | ⟨p1, p2, p3, p4, p5, p6, p7, p8⟩
  · rcases hr with ⟨q1, q2, q3⟩ | ⟨q1, -⟩
    · rw [p3, q3, p2, q2]; exact ⟨rfl, h.up⟩
    · exact absurd (hop.mp q1) p1
  · rcases hr with ⟨q1, -⟩ | ⟨q1, q2, q3, q4, q5, q6⟩
    · exact absurd (hop.mpr p1) q1
    · have hI := h.ci
      obtain ⟨c, hh, s, t, f, w⟩ := h
      have hu := un_o hI p3 (by decide)
      have e0 : m 0 = μ 0 := p3 0 (by decide)
      obtain ⟨a1, a2, a3, a4, a5, ⟨a61, a62, a63, a64, a65⟩, a7, a8, a9, a10⟩ := hh
      have er : ∀ o x, pC m (rg_ o x) = pC μ (rg_ o x) ∧ m (rg_ o x + 6) = μ (rg_ o x + 6) := fun o x => by
        have b := rg_b o x
        have e : ∀ j, j ≤ 8 → m (rg_ o x + j) = μ (rg_ o x + j) := fun j hj => p3 _ (by simp; omega)
        exact ⟨pC_e e, e 6 (by omega)⟩
      refine ⟨by rw [p2, q2, a61], jC_1 c hu (q3 1 (by decide)), ?_, jS_e s (by rw [e0]) (by rw [p3 25 (by decide)]) (pe_of p3 (by decide)) (q4 10 (by decide) (by decide)) (q3 3 (by decide)), jT_e t (by rw [p3 151 (by decide)]) (p3 152 (by decide)) (q4 23 (by decide) (by decide)) (q3 17 (by decide)), jF_e f (by rw [e0]) (by rw [e0]) (q4 26 (by decide) (by decide)) (q4 27 (by decide) (by decide)), jW_e w (p3 156 (by decide)) (p3 157 (by decide)) (q4 32 (by decide) (by decide)) (q3 21 (by decide))⟩
      unfold in_ at a3
      unfold jH_
      rw [p4, p5, p6, p7, p8, q5, q6, q3 4 (by decide), q3 5 (by decide), q3 6 (by decide), q4 7 (by decide) (by decide), q4 8 (by decide) (by decide)]
      refine ⟨a1, a2, by ((try unfold am_in); (try unfold in_ at *); omega), by ((try unfold am_in); (try unfold in_ at *); omega), fun i i0 i1 => ?_, ⟨a61, a62, by omega, fun _ => rfl, fun _ z => absurd rfl z⟩, fun i i1 => ?_, fun j j1 => ?_, fun _ => ?_, fun _ z => absurd rfl z⟩
      · rw [(er _ _).1, (er _ _).2]; exact a5 i i0 i1
      · rw [(er _ _).1]; exact a7 i i1
      · rw [(er _ _).1]; exact a8 j j1
      · rw [(er _ _).1]
        exact pe_tr (a9 (Or.inl p1)) hu.2.1
theorem pq_7 {μ m : am_M} {a b : Nat} (h : pq_ μ a m b) : m (b + 6) 2 = μ (a + 6) 2 := h.2.2.1
theorem JR_end {K : Int} {μ ν m n : am_M} {z y : Int} (h : JR K μ ν) (hc : (μ 28 5 = 0 ∧ z = -5 ∧ m = μ) ∨ (μ 28 5 ≠ 0 ∧ μ 28 4 = 0 ∧ z = 0 ∧ fr_ [28] μ m ∧ m 28 1 = μ 28 1 ∧ m 28 2 = μ 28 2 ∧ m 28 3 = μ 28 3 ∧ m 28 5 = 0 ∧ m 28 4 = μ 28 4) ∨ (μ 28 5 ≠ 0 ∧ 0 < μ 28 4 ∧ z = μ 28 4 ∧ ∃ o u, ((μ 28 2 = 10 ∧ o = (μ 28 1 + 1) % 11 ∧ u = 10) ∨ (μ 28 2 ≠ 10 ∧ o = μ 28 1 ∧ u = μ 28 2 + 1)) ∧ fr_ (28 :: pjC (rg_ o u)) μ m ∧ m 28 1 = o ∧ m 28 2 = u ∧ m 28 3 = μ 28 3 ∧ m 28 4 = μ 28 4 ∧ m 28 5 = 0 ∧ pq_ μ 1 m (rg_ o u)))
    (hr : (ν 0 11 = 0 ∧ y = -5 ∧ n = ν) ∨ (ν 0 11 ≠ 0 ∧ ν 0 9 ≤ 0 ∧ y = ν 0 9 ∧ fr_ [0] ν n ∧ (∀ j, j ≠ 11 → n 0 j = ν 0 j) ∧ n 0 11 = 0) ∨ (ν 0 11 ≠ 0 ∧ 0 < ν 0 9 ∧ y = ν 0 9 ∧ fr_ [0, 4] ν n ∧ (∀ j, j ≠ 7 → j ≠ 11 → n 0 j = ν 0 j) ∧ n 0 11 = 0 ∧ ((ν 0 7 = 10 ∧ n 0 7 = 10 ∧ (∀ i : Nat, i < 4230 → n 4 i = ν 4 (i + 470)) ∧ ∀ i : Nat, i < 470 → n 4 (4230 + i) = ν 6 i) ∨ (ν 0 7 ≠ 10 ∧ n 0 7 = ν 0 7 + 1 ∧ (∀ i : Nat, i < 470 * (ν 0 7).toNat → n 4 i = ν 4 i) ∧ ∀ i : Nat, i < 470 → n 4 (470 * (ν 0 7).toNat + i) = ν 6 i)))) : z = y ∧ JR (K + 1) m n := by
  have hop := h.2.1.2.2.2.2.2.1.2.2.1
  have h9 := h.2.1.2.2.2.2.2.1.2.2.2.1
  rcases hc with ⟨p1, p2, p3⟩ | ⟨p1, p2, p3, p4, p5, p6, p7, p8, p9⟩ | ⟨p1, p2, p3, o, u, hs, p4, p5, p6, p7, p8, p9, p10⟩
  · rcases hr with ⟨q1, q2, q3⟩ | ⟨q1, -⟩ | ⟨q1, -⟩
    · rw [p3, q3, p2, q2]; exact ⟨rfl, h.up⟩
    · exact absurd (hop.mpr p1) q1
    · exact absurd (hop.mpr p1) q1
  · have h9 := h9 p1
    rcases hr with ⟨q1, -⟩ | ⟨q1, q2, q3, q4, q5, q6⟩ | ⟨q1, q2, -⟩
    · exact absurd (hop.mp q1) p1
    · have hI := h.ci
      obtain ⟨c, hh, s, t, f, w⟩ := h
      have hu := un_o hI p4 (by decide)
      have e0 : m 0 = μ 0 := p4 0 (by decide)
      obtain ⟨a1, a2, a3, a4, a5, ⟨a61, a62, a63, a64, a65⟩, a7, a8, a9, a10⟩ := hh
      have er : ∀ o x, pC m (rg_ o x) = pC μ (rg_ o x) ∧ m (rg_ o x + 6) = μ (rg_ o x + 6) := fun o x => by
        have b := rg_b o x
        have e : ∀ j, j ≤ 8 → m (rg_ o x + j) = μ (rg_ o x + j) := fun j hj => p4 _ (by simp; omega)
        exact ⟨pC_e e, e 6 (by omega)⟩
      refine ⟨by omega, jC_1 c hu (q4 1 (by decide)), ?_, jS_e s (by rw [e0]) (by rw [p4 25 (by decide)]) (pe_of p4 (by decide)) (q5 10 (by decide)) (q4 3 (by decide)), jT_e t (by rw [p4 151 (by decide)]) (p4 152 (by decide)) (q5 23 (by decide)) (q4 17 (by decide)), jF_e f (by rw [e0]) (by rw [e0]) (q5 26 (by decide)) (q5 27 (by decide)), jW_e w (p4 156 (by decide)) (p4 157 (by decide)) (q5 32 (by decide)) (q4 21 (by decide))⟩
      unfold jH_
      rw [p5, p6, p7, p8, p9, q6, q5 9 (by decide), q4 4 (by decide), q4 5 (by decide), q4 6 (by decide), q5 7 (by decide), q5 8 (by decide)]
      refine ⟨a1, a2, in_up a3, in_up a4, fun i i0 i1 => ?_, ⟨a61, a62, Iff.rfl, fun z => absurd rfl z, fun z => absurd rfl z⟩, fun i i1 => ?_, fun j j1 => ?_, fun _ => ?_, fun z => absurd rfl z⟩
      · rw [(er _ _).1, (er _ _).2]; exact a5 i i0 i1
      · rw [(er _ _).1]; exact a7 i i1
      · rw [(er _ _).1]; exact a8 j j1
      · rw [(er _ _).1]
        exact pe_tr (a9 (Or.inr p2)) hu.2.1
    · omega
  · have h9 := h9 p1
    rcases hr with ⟨q1, -⟩ | ⟨q1, q2, -⟩ | ⟨q1, q2, q3, q4, q5, q6, q7⟩
    · exact absurd (hop.mp q1) p1
    · omega
    · have hI := h.ci
      obtain ⟨c, hh, s, t, f, w⟩ := h
      have hfar : ∀ k ∈ 28 :: pjC (rg_ o u), 28 ≤ k ∧ k ≤ 128 := fun k hk => by
        have b := rg_b o u
        unfold pjC at hk
        simp only [List.mem_cons, List.not_mem_nil, or_false] at hk
        omega
      have hu := un_o hI p4 (fun k hk => by have := hfar k hk; omega)
      have nn : ∀ k, k < 28 ∨ 128 < k → m k = μ k := fun k hk => p4 k (fun q => by have := hfar k q; omega)
      have e0 : m 0 = μ 0 := nn 0 (by omega)
      obtain ⟨a1, a2, a3, a4, a5, ⟨a61, a62, a63, a64, a65⟩, a7, a8, a9, a10⟩ := hh
      have r0 := a65 p1 (by omega)
      have bse := a10 p1 (by omega)
      have er := rg_keep (o := o) (u := u) (fun k hk => by
        rcases List.mem_cons.mp hk with q | q
        · omega
        · exact Or.inr q) p4
      have hp := jE_keep (n := n) (u := μ 28 2) (o := μ 28 1) (o' := o) (u' := u) a1 (by omega) hs (fun x hx => (er x hx).1) (fun i i0 i1 => (a5 i i0 (by omega)).1) a7 bse (by
        rw [a61] at q7
        rcases q7 with ⟨z, -, z2⟩ | ⟨z, -, z2⟩
        · exact Or.inl ⟨z, z2⟩
        · exact Or.inr ⟨z, z2⟩)
      have n7 : n 0 7 = u := by
        rw [a61] at q7
        rcases q7 with ⟨z, z1, -⟩ | ⟨z, z1, -⟩ <;> omega
      have o11 : in_ 0 11 o := by
        unfold in_ at a1 ⊢
        omega
      have pq := pq_pe c.1 p10
      have pe1 : pC m 1 = pC μ 1 := pC_e (fun j hj => nn _ (by omega))
      refine ⟨by omega, jC_1 c hu (q4 1 (by decide)), ?_, jS_e s (by rw [e0]) (by rw [nn 25 (by omega)]) (pC_e (fun j hj => nn _ (by omega))) (q5 10 (by decide) (by decide)) (q4 3 (by decide)), jT_e t (by rw [nn 151 (by omega)]) (nn 152 (by omega)) (q5 23 (by decide) (by decide)) (q4 17 (by decide)), jF_e f (by rw [e0]) (by rw [e0]) (q5 26 (by decide) (by decide)) (q5 27 (by decide) (by decide)), jW_e w (nn 156 (by omega)) (nn 157 (by omega)) (q5 32 (by decide) (by decide)) (q4 21 (by decide))⟩
      unfold jH_
      rw [p5, p6, p7, p8, p9, q6, q5 9 (by decide) (by decide), q5 8 (by decide) (by decide), n7]
      refine ⟨o11, by omega, in_up a3, in_up a4, fun i i0 i1 => ?_, ⟨rfl, a62, Iff.rfl, fun z => absurd rfl z, fun z => absurd rfl z⟩, hp, fun j j1 => by omega, fun _ => ?_, fun z => absurd rfl z⟩
      · by_cases c2 : i = u
        · rw [c2]
          exact ⟨pe_v c.1 pq, by rw [pq_7 p10]; exact c.2.1⟩
        · rw [(er i (by omega)).1, (er i (by omega)).2]
          rcases hs with ⟨s1, s2, s3⟩ | ⟨s1, s2, s3⟩
          · have : rg_ o i = rg_ (μ 28 1) (i + 1) := by unfold in_ at a1; unfold rg_; omega
            rw [this]
            exact a5 (i + 1) (by omega) (by omega)
          · rw [s2]
            exact a5 i i0 (by omega)
      · rw [pe1]
        exact pe_sy pq

/-! a change on both sides -/
theorem ch_x {ks : List Nat} {μ m : am_M} {P : Pj} (h : ch_ ks μ m P) {k : Nat} (hk : k ∉ ks) (h0 : k = 0 ∨ 150 < k ∨ (19 ≤ k ∧ k ≤ 27)) : m k = μ k := by
  obtain ⟨-, -, -, -, h⟩ := h
  rcases h with ⟨-, f, -⟩ | ⟨-, o, u, -, f, -⟩
  · refine f k (fun q => ?_)
    simp only [List.mem_append, List.mem_cons] at q
    rcases q with q | q | q
    · exact hk q
    · omega
    · have := bs_in k q; omega
  · refine f k (fun q => ?_)
    simp only [List.mem_append, List.mem_cons] at q
    have b := rg_b o u
    rcases q with q | q | q | q
    · exact hk q
    · omega
    · unfold pjC at q
      simp only [List.mem_cons, List.not_mem_nil, or_false] at q
      omega
    · have := bs_in k q; omega
theorem jC_ch {ks fs : List Nat} {μ ν m n : am_M} {P Q : Pj} (hP : vP P) (hpq : pe_ P Q) (hc : ch_ ks μ m P) (hr : rch_ fs ν n Q) : jC_ m n := ⟨pe_v hP hc.1, hc.2.2.2.1, fun q => absurd q hc.2.1, hc.2.2.1, pe_tr (pe_sy hc.1) (pe_tr hpq hr.1), hr.2.1⟩
theorem jS_ch {ks fs : List Nat} {μ ν m n : am_M} {P Q : Pj} (hks : ksf ks) (hf : ∀ j ∈ fs, 11 < j) (h9 : m 0 9 = μ 0 9) (h : jS_ μ ν) (hc : ch_ ks μ m P) (hr : rch_ fs ν n Q) : jS_ m n := by
  obtain ⟨s1, s2⟩ := h
  have e : ∀ k, 19 ≤ k → k ≤ 27 → m k = μ k := fun k h1 h2 => ch_x hc (fun q => by have := hks k q; omega) (by omega)
  have e10 : n 0 10 = ν 0 10 := hr.2.2.2.1 10 (fun q => by
    simp only [List.mem_cons] at q
    rcases q with q | q | q | q | q | q | q
    · omega
    · omega
    · omega
    · omega
    · omega
    · omega
    · have := hf _ q; omega)
  have e3 : n 3 = ν 3 := hr.2.2.1 3 (by decide)
  unfold jS_
  rw [h9, e10, e3, e 25 (by omega) (by omega), pC_e (m := m) (μ := μ) (a := 19) (fun j hj => e _ (by omega) (by omega))]
  exact ⟨s1, s2⟩
/-- a state is laid behind the others, on both sides -/
theorem jE_keep {μ ν m n : am_M} {o u o' u' : Int} {g : Nat → Int} (ho : in_ 0 11 o) (hu : 0 ≤ u ∧ u ≤ 10) (hs : (u = 10 ∧ o' = (o + 1) % 11 ∧ u' = 10) ∨ (u ≠ 10 ∧ o' = o ∧ u' = u + 1))
    (he : ∀ x, x % 11 ≠ u' % 11 → pC m (rg_ o' x) = pC μ (rg_ o' x)) (hv : ∀ i, 0 ≤ i → i ≤ u → vP (pC μ (rg_ o i)))
    (hp : ∀ i : Nat, (i : Int) < u → jE_ (pC μ (rg_ o i)) (fun k => ν 4 (470 * i + k))) (hR : jE_ (pC μ (rg_ o u)) g)
    (hn : (u = 10 ∧ (∀ i : Nat, i < 4230 → n 4 i = ν 4 (i + 470)) ∧ ∀ i : Nat, i < 470 → n 4 (4230 + i) = g i) ∨ (u ≠ 10 ∧ (∀ i : Nat, i < 470 * u.toNat → n 4 i = ν 4 i) ∧ ∀ i : Nat, i < 470 → n 4 (470 * u.toNat + i) = g i)) :
    ∀ i : Nat, (i : Int) < u' → jE_ (pC m (rg_ o' i)) (fun k => n 4 (470 * i + k)) := by
  intro i hi
  unfold in_ at ho
  rcases hs with ⟨s1, s2, s3⟩ | ⟨s1, s2, s3⟩
  · rw [he _ (by omega)]
    have er : rg_ o' i = rg_ o (i + 1) := by unfold rg_; omega
    rw [er]
    rcases hn with ⟨-, n1, n2⟩ | ⟨n0, -⟩
    · by_cases c : (i : Int) = 9
      · have ei : i = 9 := by omega
        subst ei
        rw [show ((9 : Nat) : Int) + 1 = u by omega]
        exact jE_c (hv u hu.1 (by omega)) hR (fun k hk => n2 k hk)
      · have := hp (i + 1) (by omega)
        rw [show ((i + 1 : Nat) : Int) = (i : Int) + 1 by omega] at this
        refine jE_c (hv _ (by omega) (by omega)) this (fun k hk => ?_)
        show n 4 (470 * i + k) = ν 4 (470 * (i + 1) + k)
        rw [n1 _ (by omega)]
        congr 1
        omega
    · exact absurd s1 n0
  · subst s2
    rw [he _ (by omega)]
    rcases hn with ⟨n0, -⟩ | ⟨-, n1, n2⟩
    · exact absurd n0 s1
    · by_cases c : (i : Int) = u
      · rw [c]
        refine jE_c (hv u hu.1 (by omega)) hR (fun k hk => ?_)
        show n 4 (470 * i + k) = g k
        rw [show i = u.toNat by omega]
        exact n2 k hk
      · refine jE_c (hv _ (by omega) (by omega)) (hp i (by omega)) (fun k hk => ?_)
        show n 4 (470 * i + k) = ν 4 (470 * i + k)
        have : i + 1 ≤ u.toNat := by omega
        have := Nat.mul_le_mul_left 470 this
        exact n1 _ (by omega)
/-- what a new state leaves of the others -/
theorem rg_keep {ks : List Nat} {μ m : am_M} {o u : Int} (hks : ∀ k ∈ ks, (k < 30 ∨ 128 < k) ∨ k ∈ pjC (rg_ o u)) (f : fr_ ks μ m) (x : Int) (hx : x % 11 ≠ u % 11) : pC m (rg_ o x) = pC μ (rg_ o x) ∧ m (rg_ o x + 6) = μ (rg_ o x + 6) := by
  have b := rg_b o x
  have e : ∀ j, j ≤ 8 → m (rg_ o x + j) = μ (rg_ o x + j) := fun j hj => f _ (fun q => by
    rcases hks _ q with q | q
    · omega
    · unfold pjC at q
      simp only [List.mem_cons, List.not_mem_nil, or_false] at q
      unfold rg_ at q
      omega)
  exact ⟨pC_e e, e 6 (by omega)⟩
theorem jH_ch {K : Int} {ks fs : List Nat} {μ ν m n : am_M} {P Q : Pj} (hks : ksf ks) (hf : ∀ j ∈ fs, 11 < j) (hC : jC_ μ ν) (hP : vP P) (h : jH_ K μ ν) (hc : ch_ ks μ m P) (hr : rch_ fs ν n Q) : jH_ (K + 1) m n := by
  obtain ⟨a1, a2, a3, a4, a5, ⟨a61, a62, a63, a64, a65⟩, a7, a8, a9, a10⟩ := h
  obtain ⟨c1, c2, c3, c4, hc⟩ := hc
  obtain ⟨r1, r2, r3, r4, r5, r6⟩ := hr
  have e11 : n 0 11 = ν 0 11 := r4 11 (fun q => by
    simp only [List.mem_cons] at q
    rcases q with q | q | q | q | q | q | q
    · omega
    · omega
    · omega
    · omega
    · omega
    · omega
    · have := hf _ q; omega)
  rcases hc with ⟨o0, f, o1, o2, o3, o4, o5⟩ | ⟨o0, o, u, hs, f, o1, o2, o3, o4, o5, o6, o7⟩
  · have er : ∀ o x, pC m (rg_ o x) = pC μ (rg_ o x) ∧ m (rg_ o x + 6) = μ (rg_ o x + 6) := fun o x => by
      have b := rg_b o x
      have e : ∀ j, j ≤ 8 → m (rg_ o x + j) = μ (rg_ o x + j) := fun j hj => f _ (fun q => by
        simp only [List.mem_append, List.mem_cons] at q
        rcases q with q | q | q
        · have := hks _ q; omega
        · omega
        · have := bs_in _ q; omega)
      exact ⟨pC_e e, e 6 (by omega)⟩
    rcases r6 with ⟨q0, q1, q2, q3, q4⟩ | ⟨q0, -⟩
    · have g9 := a64 o0
      unfold in_ at a3 a4
      unfold jH_
      rw [o1, o2, o3, o4, o5, q1, q2, q3, r5, e11]
      refine ⟨a1, by omega, by ((try unfold am_in); (try unfold in_ at *); omega), by ((try unfold am_in); (try unfold in_ at *); omega), fun i i0 i1 => ?_, ⟨a61, rfl, a63, fun _ => by omega, fun _ _ => rfl⟩, fun i i1 => ?_, fun j j1 => by omega, fun q => by omega, fun _ _ => ?_⟩
      · rw [(er _ _).1, (er _ _).2]
        exact a5 i i0 (by omega)
      · rw [(er _ _).1]
        exact a7 i i1
      · rw [(er _ _).1]
        rcases q4 with ⟨z, q4⟩ | ⟨z, q4⟩
        · have c := a9 (Or.inr (by omega))
          exact jE_p (jE_c hC.1 hC.2.2.2.2 q4) (pe_sy c)
        · rw [q4]
          exact a10 o0 (by omega)
    · exact absurd (a63.mp q0) o0
  · rcases r6 with ⟨q0, -⟩ | ⟨q0, q1, q2, q3⟩
    · exact absurd (a63.mpr o0) q0
    · have er := rg_keep (o := o) (u := u) (fun k hk => by
        simp only [List.mem_append, List.mem_cons] at hk
        rcases hk with q | q | q | q
        · have := hks _ q; omega
        · omega
        · exact Or.inr q
        · have := bs_in _ q; omega) f
      have cur := a9 (Or.inl o0)
      have hp := jE_keep (n := n) (u := μ 28 2) (o := μ 28 1) (o' := o) (u' := u) a1 (by omega) hs (fun x hx => (er x hx).1) (fun i i0 i1 => (a5 i i0 (by omega)).1) a7 (jE_p hC.2.2.2.2 (pe_sy cur)) (by
        rw [a61] at q3
        rcases q3 with ⟨z, -, z2⟩ | ⟨z, -, z2⟩
        · exact Or.inl ⟨z, z2⟩
        · exact Or.inr ⟨z, z2⟩)
      have n7 : n 0 7 = u := by
        rw [a61] at q3
        rcases q3 with ⟨z, z1, -⟩ | ⟨z, z1, -⟩ <;> omega
      have o11 : in_ 0 11 o := by
        unfold in_ at a1 ⊢
        omega
      have u10 : 0 ≤ u ∧ u ≤ 10 ∧ 1 ≤ u := by omega
      unfold in_ at a3 a4
      unfold jH_
      rw [o1, o2, o3, o4, o5, q1, n7, r5, e11]
      refine ⟨o11, by omega, by ((try unfold am_in); (try unfold in_ at *); omega), by ((try unfold am_in); (try unfold in_ at *); omega), fun i i0 i1 => ?_, ⟨rfl, rfl, a63, fun z => absurd o0 z, fun z => absurd o0 z⟩, hp, fun j j1 => by omega, fun _ => pe_tr (pe_sy o6) c1, fun z => absurd o0 z⟩
      by_cases c : i = u
      · rw [c]
        exact ⟨pe_v hP o6, o7⟩
      · rw [(er i (by omega)).1, (er i (by omega)).2]
        rcases hs with ⟨s1, s2, s3⟩ | ⟨s1, s2, s3⟩
        · have : rg_ o i = rg_ (μ 28 1) (i + 1) := by unfold in_ at a1; unfold rg_; omega
          rw [this]
          exact a5 (i + 1) (by omega) (by omega)
        · rw [s2]
          exact a5 i i0 (by omega)
/-- a change on both sides leaves all that stands -/
theorem JR_ch {K : Int} {μ ν m n : am_M} {P Q : Pj} (h : JR K μ ν) (hP : vP P) (hpq : pe_ P Q) (hc : ch_ [] μ m P) (hr : rch_ [] ν n Q) : JR (K + 1) m n := by
  have k0 : ksf [] := fun k hk => by simp at hk
  have f0 : ∀ j ∈ ([] : List Nat), 11 < j := fun j hj => by simp at hj
  have e := fun k h0 => ch_x hc (k := k) (by simp) h0
  have g := fun j hj => hr.2.2.2.1 j hj
  obtain ⟨c, hh, s, t, f, w⟩ := h
  exact ⟨jC_ch hP hpq hc hr, jH_ch k0 f0 c hP hh hc hr, jS_ch k0 f0 (by rw [e 0 (by omega)]) s hc hr, jT_e t (by rw [e 151 (by omega)]) (e 152 (by omega)) (g 23 (by decide)) (hr.2.2.1 17 (by decide)), jF_e f (by rw [e 0 (by omega)]) (by rw [e 0 (by omega)]) (g 26 (by decide)) (g 27 (by decide)), jW_e w (e 156 (by omega)) (e 157 (by omega)) (g 32 (by decide)) (hr.2.2.1 21 (by decide))⟩
/-- a command on both sides: the same answer, and all stands -/
theorem JR_cm {K : Int} {μ ν m n : am_M} {z y : Int} {R S : Int × Pj} (h : JR K μ ν) (ho : ov_ (pC μ 1) R) (e : oe_ R S) (hc : cm_ [] μ m z R) (hr : rn_ [] ν n y S) : z = y ∧ JR (K + 1) m n := by
  have ez : z = y := by rw [hc.1, hr.1]; exact e.1
  refine ⟨ez, ?_⟩
  by_cases q : z < 0
  · exact (JR_un h (hc.2.1 q) (hr.2.1 (by omega))).up
  · exact JR_ch h ho.2 e.2 (hc.2.2 (by omega)) (hr.2.2 (by omega))

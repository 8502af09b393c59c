/-! class and reference side by side -/
/-- a row of the reference holds P -/
def jE_ (P : Pj) (f : Nat → Int) : Prop := pe_ P (pA f) ∧ 0 ≤ f 438
theorem jE_c {P : Pj} {f g : Nat → Int} (hV : vP P) (h : jE_ P f) (e : ∀ i : Nat, i < 470 → g i = f i) : jE_ P g := by
  have := pA_c (pe_v hV h.1) h.2 e
  exact ⟨pe_tr h.1 this.1, this.2⟩
theorem jE_p {P Q : Pj} {f : Nat → Int} (h : jE_ P f) (e : pe_ P Q) : jE_ Q f := ⟨pe_tr (pe_sy e) h.1, h.2⟩
def jC_ (μ ν : am_M) : Prop := vC μ ∧ 0 ≤ μ 7 2 ∧ (μ 129 5 = 0 → snd_ μ) ∧ μ 147 0 = 0 ∧ jE_ (pC μ 1) (ν 1)
def jH_ (K : Int) (μ ν : am_M) : Prop := in_ 0 11 (μ 28 1) ∧ (0 ≤ μ 28 2 ∧ 0 ≤ μ 28 3 ∧ μ 28 2 + μ 28 3 ≤ 10) ∧ in_ 0 (K + 1) (μ 28 4) ∧ in_ 0 (K + 1) (ν 0 9) ∧
  (∀ i, 0 ≤ i → i ≤ μ 28 2 + μ 28 3 → vP (pC μ (rg_ (μ 28 1) i)) ∧ 0 ≤ μ (rg_ (μ 28 1) i + 6) 2) ∧
  (ν 0 7 = μ 28 2 ∧ ν 0 8 = μ 28 3 ∧ (ν 0 11 = 0 ↔ μ 28 5 = 0) ∧ (μ 28 5 ≠ 0 → ν 0 9 = μ 28 4) ∧ (μ 28 5 ≠ 0 → μ 28 4 ≠ 0 → μ 28 3 = 0)) ∧
  (∀ i : Nat, (i : Int) < μ 28 2 → jE_ (pC μ (rg_ (μ 28 1) i)) (fun k => ν 4 (470 * i + k))) ∧
  (∀ j : Nat, (j : Int) < μ 28 3 → jE_ (pC μ (rg_ (μ 28 1) (μ 28 2 + 1 + j))) (fun k => ν 5 (470 * (μ 28 3 - 1 - j).toNat + k))) ∧
  ((μ 28 5 = 0 ∨ μ 28 4 = 0) → pe_ (pC μ (rg_ (μ 28 1) (μ 28 2))) (pC μ 1)) ∧
  (μ 28 5 ≠ 0 → μ 28 4 ≠ 0 → jE_ (pC μ (rg_ (μ 28 1) (μ 28 2))) (ν 6))
def jS_ (μ ν : am_M) : Prop := (ν 0 10 = 0 ↔ μ 0 9 = 0) ∧ (μ 0 9 ≠ 0 → vP (pC μ 19) ∧ 0 ≤ μ 25 2 ∧ jE_ (pC μ 19) (ν 3))
def jT_ (μ ν : am_M) : Prop := ν 0 23 = μ 151 4 ∧ in_ 0 61 (μ 151 4) ∧ ν 17 = μ 152
def jF_ (μ ν : am_M) : Prop := (μ 0 10 = 0 ∧ ν 0 27 = -1) ∨ (μ 0 10 < 0 ∧ ν 0 26 = μ 0 10 ∧ 0 ≤ ν 0 27 ∧ ν 0 27 = μ 0 11)
def jW_ (μ ν : am_M) : Prop := ∃ W, wr_ μ W ∧ wrR ν W ∧ W.length ≤ 96
/-- after at most K calls: whatever either answers, so does the other -/
def JR (K : Int) (μ ν : am_M) : Prop := jC_ μ ν ∧ jH_ K μ ν ∧ jS_ μ ν ∧ jT_ μ ν ∧ jF_ μ ν ∧ jW_ μ ν
theorem JR.ci {K : Int} {μ ν : am_M} (h : JR K μ ν) : CI K μ := by
  obtain ⟨c, hh, s, t, -, W, w1, -, w3⟩ := h
  exact ⟨c.1, hh.1, hh.2.1, hh.2.2.1, fun i i0 i1 => (hh.2.2.2.2.1 i i0 i1).1, fun q => (s.2 q).1, c.2.2.1, c.2.2.2.1, t.2.1, ⟨c.2.1, fun i i0 i1 => (hh.2.2.2.2.1 i i0 i1).2, fun q => (s.2 q).2.1⟩, W, w1, w3⟩
theorem JR.vr {K : Int} {μ ν : am_M} (h : JR K μ ν) : vR_ ν := ⟨pe_v h.1.1 h.1.2.2.2.2.1, h.1.2.2.2.2.2⟩
theorem JR.pe {K : Int} {μ ν : am_M} (h : JR K μ ν) : pe_ (pC μ 1) (pR ν) := h.1.2.2.2.2.1
theorem JR.v {K : Int} {μ ν : am_M} (h : JR K μ ν) : vP (pC μ 1) := h.1.1
theorem JR.ri {K : Int} {μ ν : am_M} (h : JR K μ ν) : RI K ν := by
  have hv := h.vr
  obtain ⟨-, hh, -, t, -, W, -, w2, w3⟩ := h
  obtain ⟨a1, a2, a3, a4, -, a6, -⟩ := hh
  refine ⟨hv, by rw [a6.1]; ((try unfold am_in); (try unfold in_ at *); omega), by rw [a6.2.1]; ((try unfold am_in); (try unfold in_ at *); omega), a4, by rw [t.1]; exact t.2.1, by rw [w2.1]; ((try unfold am_in); (try unfold in_ at *); omega)⟩
theorem in_up {K z : Int} (h : in_ 0 (K + 1) z) : in_ 0 (K + 1 + 1) z := by
  unfold in_ at *
  omega
theorem jH_up {K : Int} {μ ν : am_M} (h : jH_ K μ ν) : jH_ (K + 1) μ ν := ⟨h.1, h.2.1, in_up h.2.2.1, in_up h.2.2.2.1, h.2.2.2.2⟩
theorem JR.up {K : Int} {μ ν : am_M} (h : JR K μ ν) : JR (K + 1) μ ν := ⟨h.1, jH_up h.2.1, h.2.2⟩
/-- cells that a call leaves -/
def ksf (ks : List Nat) : Prop := ∀ k ∈ ks, k = 0 ∨ 150 < k
theorem bs_in : ∀ k ∈ bsL, (1 ≤ k ∧ k ≤ 18) ∨ (129 ≤ k ∧ k ≤ 150) := by decide
theorem un_n {ks : List Nat} {μ m : am_M} (hk : ksf ks) (h : un_ ks μ m) {k : Nat} (h0 : 19 ≤ k) (h1 : k ≤ 128) : m k = μ k := h.1 k (fun q => by
  rcases List.mem_append.mp q with q | q
  · have := hk k q; omega
  · have := bs_in k q; omega)
theorem un_x {ks : List Nat} {μ m : am_M} (h : un_ ks μ m) {k : Nat} (hk : k ∉ ks) (h0 : k = 0 ∨ 150 < k) : m k = μ k := h.1 k (fun q => by
  rcases List.mem_append.mp q with q | q
  · exact hk q
  · have := bs_in k q; omega)
theorem pC_e {μ m : am_M} {a : Nat} (e : ∀ j, j ≤ 8 → m (a + j) = μ (a + j)) : pC m a = pC μ a := by
  have e0 := e 0 (by omega)
  rw [Nat.add_zero] at e0
  unfold pC hCa
  rw [e0, e 1 (by omega), e 2 (by omega), e 3 (by omega), e 4 (by omega), e 5 (by omega), e 6 (by omega), show a + 6 + 1 = a + 7 by omega, show a + 6 + 2 = a + 8 by omega, e 7 (by omega), e 8 (by omega)]
theorem rg_b (o x : Int) : 30 ≤ rg_ o x ∧ rg_ o x + 8 ≤ 128 := by
  unfold rg_
  omega
/-- what the reference keeps of its rows -/
def rw_ (ν n : am_M) : Prop := pe_ (pR ν) (pR n) ∧ 0 ≤ n 1 438 ∧ n 3 = ν 3 ∧ n 4 = ν 4 ∧ n 5 = ν 5 ∧ n 6 = ν 6 ∧ ∀ j, 7 ≤ j → j ≤ 11 → n 0 j = ν 0 j
theorem ru_f {fs : List Nat} {ν n : am_M} (h : ru_ fs ν n) {j : Nat} (h1 : j ∉ fs) (h2 : j < 20) : n 0 j = ν 0 j := h.1.2 j (fun q => by
  simp only [List.mem_cons] at q
  rcases q with q | q | q | q
  · omega
  · omega
  · omega
  · exact h1 q)
theorem ru_w {fs : List Nat} {ν n : am_M} (hf : ∀ j ∈ fs, 11 < j) (h : ru_ fs ν n) : rw_ ν n := ⟨h.2.1, h.2.2, h.1.1 3 (by decide), h.1.1 4 (by decide), h.1.1 5 (by decide), h.1.1 6 (by decide), fun j _ hj => ru_f h (j := j) (fun q => by have := hf j q; omega) (by omega)⟩
theorem jC_un {ks : List Nat} {μ ν m n : am_M} (h : jC_ μ ν) (hu : un_ ks μ m) (hr : rw_ ν n) : jC_ m n := by
  obtain ⟨c1, c2, c3, c4, c5, c6⟩ := h
  exact ⟨pe_v c1 hu.2.1, hu.2.2.2.2, hu.2.2.1, hu.2.2.2.1, pe_tr (pe_sy hu.2.1) (pe_tr c5 hr.1), hr.2.1⟩
theorem jH_un {K : Int} {ks : List Nat} {μ ν m n : am_M} (hk : ksf ks) (h : jH_ K μ ν) (hu : un_ ks μ m) (hr : rw_ ν n) : jH_ K m n := by
  have e28 := un_n hk hu (k := 28) (by omega) (by omega)
  have er : ∀ o x, pC m (rg_ o x) = pC μ (rg_ o x) ∧ m (rg_ o x + 6) = μ (rg_ o x + 6) := fun o x => by
    have b := rg_b o x
    exact ⟨pC_e (fun j hj => un_n hk hu (by omega) (by omega)), un_n hk hu (by omega) (by omega)⟩
  obtain ⟨-, -, -, e4, e5, e6, f⟩ := hr
  obtain ⟨a1, a2, a3, a4, a5, a6, a7, a8, a9, a10⟩ := h
  unfold jH_
  rw [e28, e4, e5, e6, f 7 (by omega) (by omega), f 8 (by omega) (by omega), f 9 (by omega) (by omega), f 11 (by omega) (by omega)]
  refine ⟨a1, a2, a3, a4, fun i i0 i1 => ?_, a6, fun i i1 => ?_, fun j j1 => ?_, fun q => ?_, fun q1 q2 => ?_⟩
  · rw [(er _ _).1, (er _ _).2]
    exact a5 i i0 i1
  · rw [(er _ _).1]
    exact a7 i i1
  · rw [(er _ _).1]
    exact a8 j j1
  · rw [(er _ _).1]
    exact pe_tr (a9 q) hu.2.1
  · rw [(er _ _).1]
    exact a10 q1 q2
theorem jS_e {μ ν m n : am_M} (h : jS_ μ ν) (h9 : m 0 9 = μ 0 9) (h25 : m 25 2 = μ 25 2) (h19 : pC m 19 = pC μ 19) (h10 : n 0 10 = ν 0 10) (h3 : n 3 = ν 3) : jS_ m n := by
  unfold jS_
  rw [h9, h10, h25, h19, h3]
  exact h
theorem jS_un {ks : List Nat} {μ ν m n : am_M} (hk : ksf ks) (h9 : m 0 9 = μ 0 9) (h : jS_ μ ν) (hu : un_ ks μ m) (hr : rw_ ν n) : jS_ m n :=
  jS_e h h9 (by rw [un_n hk hu (k := 25) (by omega) (by omega)]) (pC_e (fun j hj => un_n hk hu (by omega) (by omega))) (hr.2.2.2.2.2.2 10 (by omega) (by omega)) hr.2.2.1
theorem jT_e {μ ν m n : am_M} (h : jT_ μ ν) (h1 : m 151 4 = μ 151 4) (h2 : m 152 = μ 152) (h3 : n 0 23 = ν 0 23) (h4 : n 17 = ν 17) : jT_ m n := by
  unfold jT_
  rw [h1, h2, h3, h4]
  exact h
theorem jF_e {μ ν m n : am_M} (h : jF_ μ ν) (h1 : m 0 10 = μ 0 10) (h2 : m 0 11 = μ 0 11) (h3 : n 0 26 = ν 0 26) (h4 : n 0 27 = ν 0 27) : jF_ m n := by
  unfold jF_
  rw [h1, h2, h3, h4]
  exact h
theorem jW_e {μ ν m n : am_M} (h : jW_ μ ν) (h1 : m 156 = μ 156) (h2 : m 157 = μ 157) (h3 : n 0 32 = ν 0 32) (h4 : n 21 = ν 21) : jW_ m n := by
  obtain ⟨W, w1, w2, w3⟩ := h
  refine ⟨W, ?_, ?_, w3⟩
  · unfold wr_
    rw [h1, h2]
    exact w1
  · unfold wrR
    rw [h3, h4]
    exact w2
theorem ru_j {fs : List Nat} {ν n : am_M} (h : ru_ fs ν n) {j : Nat} (h1 : j ∉ 20 :: 24 :: 25 :: fs) : n 0 j = ν 0 j := h.1.2 j h1
/-- nothing has changed: all stands -/
theorem JR_un {K : Int} {μ ν m n : am_M} (h : JR K μ ν) (hu : un_ [] μ m) (hr : ru_ [] ν n) : JR K m n := by
  have k0 : ksf [] := fun k hk => by simp at hk
  have w0 := ru_w (fun j hj => by simp at hj) hr
  have e := fun k h0 => un_x hu (k := k) (by simp) h0
  obtain ⟨c, hh, s, t, f, w⟩ := h
  exact ⟨jC_un c hu w0, jH_un k0 hh hu w0, jS_un k0 (by rw [e 0 (by omega)]) s hu w0, jT_e t (by rw [e 151 (by omega)]) (e 152 (by omega)) (ru_j hr (by decide)) (hr.1.1 17 (by decide)), jF_e f (by rw [e 0 (by omega)]) (by rw [e 0 (by omega)]) (ru_j hr (by decide)) (ru_j hr (by decide)), jW_e w (e 156 (by omega)) (e 157 (by omega)) (ru_j hr (by decide)) (hr.1.1 21 (by decide))⟩
theorem rq_ru {ν m : am_M} (hV : vR_ ν) (h : rq_ ν m) : ru_ [] ν m := by
  refine ⟨rm_rq h, ?_, by rw [rq_1 h]; exact hV.2⟩
  rw [rq_P h]
  exact pe_rf
/-- a question leaves all -/
theorem JR_q {K : Int} {μ ν m n : am_M} (h : JR K μ ν) (hu : cq_ μ m) (hr : rq_ ν n) : JR K m n := JR_un h (cq_un h.ci hu) (rq_ru h.vr hr)

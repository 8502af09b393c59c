/-! the other calls on both sides -/
theorem JR_trk {K : Int} {μ ν m n : am_M} {z y t w v : Int} (h : JR K μ ν) (hc : cmt_ μ m z t w v) (hr : cmr_ ν n y t w v) : z = y ∧ JR (K + 1) m n := by
  have e := trk_pe h.pe t w v
  refine ⟨by rw [hc.1, hr.1]; exact e.1, ?_⟩
  by_cases b : b_trk t w v
  · refine JR_ch h ?_ e.2 (hc.2.2 b) (hr.2.2 b)
    rw [trk_3 b]
    exact trk_v h.v b
  · exact (JR_un h (hc.2.1 b) (hr.2.1 b)).up
theorem exe_i : ∀ (cs : List Cm) (i : Int) (P : Pj), i ≤ (exe_ cs i P).2.1
  | [], i, P => Int.le_refl i
  | c :: cs, i, P => by
    rw [exe_s]
    split
    · exact Int.le_refl i
    · have := exe_i cs (i + 1) (o_cmd P c).2
      omega
theorem JR_exe {K : Int} {μ ν m n : am_M} {z y : Int} (h : JR K μ ν) (hc : ex_ μ m z) (hr : exQ_ ν (prs_ (ν 17) (ν 0 23) 20 0) y n) : z = y ∧ JR (K + 1) m n := by
  have hP := h.v
  have hpe := h.pe
  obtain ⟨c, hh, s, t, f, w⟩ := h
  rw [t.1, t.2.2] at hr
  obtain ⟨m4, hc⟩ := hc
  obtain ⟨n23, hr⟩ := hr
  generalize prs_ (μ 152) (μ 151 4) 20 0 = R at *
  obtain ⟨x1, x2, x3⟩ := exe_pe R.2 0 hpe
  have kx : ksf xL := by unfold ksf; decide
  have kx0 : ksf (0 :: xL) := by unfold ksf; decide
  have fT : ∀ (m n : am_M), m 151 4 = 0 → n 0 23 = 0 → m 152 = μ 152 → n 17 = ν 17 → jT_ m n := fun m n h1 h2 h3 h4 => ⟨by rw [h1, h2], by rw [h1]; ((try unfold am_in); (try unfold in_ at *); omega), by rw [h3, h4]; exact t.2.2⟩
  rcases hc with ⟨p1, p2, p3⟩ | ⟨p1, p2, p3, p4, p5, p6, p7⟩ | ⟨p1, p2, p3, p4⟩
  · rcases hr with ⟨q1, q2, q3⟩ | ⟨q1, -⟩ | ⟨q1, -⟩
    · refine ⟨by rw [p2, q2], ?_⟩
      have e := fun k hk h0 => un_x p3 (k := k) hk h0
      have w0 := ru_w (fun j hj => by simp at hj; omega) q3
      have e0 : m 0 = μ 0 := e 0 (by decide) (by omega)
      exact ⟨jC_un c p3 w0, jH_up (jH_un kx hh p3 w0), jS_un kx (by rw [e0]) s p3 w0, fT m n m4 n23 (e 152 (by decide) (by omega)) (q3.1.1 17 (by decide)), jF_e f (by rw [e0]) (by rw [e0]) (ru_j q3 (by decide)) (ru_j q3 (by decide)), jW_e w (e 156 (by decide) (by omega)) (e 157 (by decide) (by omega)) (ru_j q3 (by decide)) (q3.1.1 21 (by decide))⟩
    · omega
    · omega
  · rcases hr with ⟨q1, -⟩ | ⟨q1, q2, q3, q4, q5, q6⟩ | ⟨q1, q2, -⟩
    · omega
    · refine ⟨by rw [p3, q3], ?_⟩
      have e := fun k hk h0 => un_x p4 (k := k) hk h0
      have w0 := ru_w (fun j hj => by simp at hj; omega) q4
      have i0 := exe_i R.2 0 (pR ν)
      exact ⟨jC_un c p4 w0, jH_up (jH_un kx0 hh p4 w0), jS_un kx0 (p7 9 (by decide) (by decide)) s p4 w0, fT m n m4 n23 (e 152 (by decide) (by omega)) (q4.1.1 17 (by decide)), Or.inr ⟨by rw [p5]; exact p2, by rw [q5, p5, x1], by rw [q6]; exact i0, by rw [q6, p6, x2]⟩, jW_e w (e 156 (by decide) (by omega)) (e 157 (by decide) (by omega)) (ru_j q4 (by decide)) (q4.1.1 21 (by decide))⟩
    · rw [← x1] at q2; exact absurd p2 q2
  · rcases hr with ⟨q1, -⟩ | ⟨q1, q2, -⟩ | ⟨q1, q2, q3, q4⟩
    · omega
    · rw [← x1] at q2; exact absurd q2 p2
    · refine ⟨by rw [p3, q3], ?_⟩
      have e := fun k hk h0 => ch_x p4 (k := k) hk h0
      have g := fun j hj => q4.2.2.2.1 j hj
      have e0 : m 0 = μ 0 := e 0 (by decide) (by omega)
      have hf : ∀ j ∈ [23], 11 < j := fun j hj => by simp at hj; omega
      have hV := exe_v R.2 0 hP
      exact ⟨jC_ch hV x3 p4 q4, jH_ch kx hf c hV hh p4 q4, jS_ch kx hf (by rw [e0]) s p4 q4, fT m n m4 n23 (e 152 (by decide) (by omega)) (q4.2.2.1 17 (by decide)), jF_e f (by rw [e0]) (by rw [e0]) (g 26 (by decide)) (g 27 (by decide)), jW_e w (e 156 (by decide) (by omega)) (e 157 (by decide) (by omega)) (g 32 (by decide)) (q4.2.2.1 21 (by decide))⟩

/-! the reference's events -/
theorem rk2_b {P : Pj} (hV : vP P) {j : Int} (j0 : 0 ≤ j) (j1 : j < evN P) : 0 ≤ rk2_ P j ∧ rk2_ P j / 100000 = ef_ P j ∧ rk2_ P j / 10000 % 10 = ek_ P j ∧ rk2_ P j % 10000 = et_ P j := by
  have b := ef_b hV j0 j1
  unfold in_ at b
  unfold rk2_
  omega
theorem fin_X10_event {μ : am_M} {e w j x : Int} (hR : vR_ μ) (he : 0 ≤ e ∧ e < evN (pR μ)) (hw : 0 ≤ w ∧ w ≤ 2) (hj : 0 ≤ j ∧ j < evN (pR μ)) (hb : blw_ (pR μ) (ky_ (pR μ) j) = e) : at_I kR 3 mX10_event 36 [vR 0, vI e, vI w, vI j, vI 1, vI x, vU, vU] [] μ (fun z m => z = q_event (pR μ) e w ∧ rq_ μ m) := by
  obtain ⟨hr, hl, h13⟩ := vR_h hR
  have hV := hR.1
  have hn : in_ 0 25 (μ 1 25) := hV.hn
  have eN : evN (pR μ) = 2 * μ 1 25 + ((pH (pR μ)).length : Int) := rfl
  have hlen := hr.1
  have rb := rk2_b hV hj.1 hj.2
  have ans := ev_ans hV he.1 he.2 hj.1 hj.2 hb hw
  unfold in_ at hn
  have hv : ∀ v : Int, (w = 2 → j < 2 * μ 1 25) → v = (if w = 0 then (rk2_ (pR μ) j) / 100000 else (if w = 1 then ((rk2_ (pR μ) j) / 10000) % 10 else (rk2_ (pR μ) j) % 10000)) → v = q_event (pR μ) e w ∧ rq_ μ μ := fun v hc hv => by
    refine ⟨?_, rq_rf⟩
    rw [hv, ans, rb.2.1, rb.2.2.1, rb.2.2.2]
    by_cases w0 : w = 0
    · rw [if_pos w0, if_pos w0]
    · rw [if_neg w0, if_neg w0]
      by_cases w1 : w = 1
      · rw [if_pos w1, if_pos w1]
      · rw [if_neg w1, if_neg w1, if_neg]
        have := hc (by omega)
        show ¬ 2 * μ 1 25 ≤ j
        omega
  have ht : w = 2 → 2 * μ 1 25 ≤ j → μ 1 (439 + 2 * (j - 2 * μ 1 25) + 1).toNat = q_event (pR μ) e w ∧ rq_ μ μ := fun w2 hj2 => by
    refine ⟨?_, rq_rf⟩
    rw [ans, if_neg (by omega), if_neg (by omega), if_pos (show 2 * pN (pR μ) ≤ j from hj2)]
    exact (hr_g hr (by omega) (by omega)).2
  refine vc_X10_event_36 ⟨(by (try unfold am_in); (try unfold in_ at *); omega), h13, fun _ => ?_, fun _ => ⟨fun _ => ?_, fun z => absurd z (by decide)⟩⟩
  all_goals
    refine ⟨hR, hj.1, hj.2, fun w2 => ⟨⟨fun w0 => ⟨fun w1 => rb.1, fun w1 => ⟨rb.1, by omega⟩⟩, fun w0 => rb.1⟩, fun v ev => hv v (fun z => absurd z w2) ev⟩, fun w2 => ⟨(by (try unfold am_in); (try unfold in_ at *); omega), fun c => ⟨⟨fun w0 => ⟨fun w1 => rb.1, fun w1 => ⟨rb.1, by omega⟩⟩, fun w0 => rb.1⟩, fun v ev => hv v (fun _ => c) ev⟩, fun c => ⟨(by (try unfold am_in); (try unfold in_ at *); omega), (by (try unfold am_in); (try unfold in_ at *); omega), (by (try unfold am_in); (try unfold in_ at *); omega), (by (try unfold am_in); (try unfold in_ at *); omega), (by (try unfold am_in); (try unfold in_ at *); omega), by omega, by omega, ht w2 c⟩⟩⟩
theorem sp_X10_event {μ : am_M} {e w : Int} (hR : vR_ μ) : cl_I kR 3 mX10_event [vR 0, vI e, vI w] μ (fun z m => z = q_event (pR μ) e w ∧ rq_ μ m) := by
  obtain ⟨hr, hl, h13⟩ := vR_h hR
  have hV := hR.1
  have hn : in_ 0 25 (μ 1 25) := hV.hn
  have eN : evN (pR μ) = 2 * μ 1 25 + ((pH (pR μ)).length : Int) := rfl
  have hlen := hr.1
  have hn33 : in_ 0 33 (μ 1 25) := (by (try unfold am_in); (try unfold in_ at *); omega)
  have hpN : pN (pR μ) = μ 1 25 := rfl
  refine ve_X10_event (vc_X10_event_0 ⟨hn33, h13, (by (try unfold am_in); (try unfold in_ at *); omega), fun c => ⟨fun cw => ?_, fun cw => ⟨((cif_f (by omega)).trans (cif_t (by omega))).symm, rq_rf⟩⟩, fun c => ⟨(cif_t (by omega)).symm, rq_rf⟩⟩)
  have he : 0 ≤ e ∧ e < evN (pR μ) := by omega
  obtain ⟨-, ⟨j, j0, j1, jk⟩, k2⟩ := ev_is hV e.toNat (by omega)
  rw [← jk] at k2
  have hU : ∀ i, 0 ≤ i → i < evN (pR μ) → cnt_ (fun o => decide (rk2_ (pR μ) o < rk2_ (pR μ) i)) (fun _ => 1) (evN (pR μ)) = blw_ (pR μ) (ky_ (pR μ) i) := fun i i0 i1 => by
    unfold blw_
    refine cnt_c (fun o o0 o1 => ⟨?_, rfl⟩)
    apply Bool.eq_iff_iff.mpr
    simp only [decide_eq_true_eq]
    exact rk_ky hV o0 o1 i0 i1
  have outer : ∀ (n : Nat) (x3 x : Int), x + n = evN (pR μ) → 0 ≤ x → x ≤ j → at_I kR 3 mX10_event 36 [vR 0, vI e, vI w, vI x3, vI 0, vI x, vU, vU] [] μ (fun z m => z = q_event (pR μ) e w ∧ rq_ μ m) := by
    intro n
    induction n with
    | zero => intro x3 x hx x0 xj; omega
    | succ n ih =>
      intro x3 x hx x0 xj
      have inner : ∀ (i : Nat) (u y : Int), y + i = evN (pR μ) → 0 ≤ y → u = cnt_ (fun o => decide (rk2_ (pR μ) o < rk2_ (pR μ) x)) (fun _ => 1) y → at_I kR 3 mX10_event 56 [vR 0, vI e, vI w, vU, vU, vI x, vI u, vI y] [] μ (fun z m => z = q_event (pR μ) e w ∧ rq_ μ m) := by
        intro i
        induction i with
        | zero =>
          intro u y hy y0 hu
          have ey : y = evN (pR μ) := by omega
          rw [ey, hU x x0 (by omega)] at hu
          refine vc_X10_event_56 ⟨hn33, h13, fun _ v ev => ⟨by ((try unfold am_in); (try unfold in_ at *); omega), ?_⟩, fun q => by omega⟩
          by_cases cf : u = e
          · rw [if_pos cf] at ev
            subst ev
            exact fin_X10_event hR he cw ⟨x0, by omega⟩ (by rw [← hu, cf])
          · rw [if_neg cf] at ev
            subst ev
            have : x ≠ j := fun z => cf (by rw [hu, z, k2]; omega)
            exact ih x (x + 1) (by omega) (by omega) (by omega)
        | succ i ih2 =>
          intro u y hy y0 hu
          have ub := cnt_le (p := fun o => decide (rk2_ (pR μ) o < rk2_ (pR μ) x)) (n := y) y0
          rw [← hu] at ub
          refine vc_X10_event_56 ⟨hn33, h13, fun q => by omega, fun q => ⟨hR, y0, by omega, hR, x0, by omega, fun v ev => ⟨by rw [ev]; split <;> ((try unfold am_in); (try unfold in_ at *); omega), by ((try unfold am_in); (try unfold in_ at *); omega), ih2 _ (y + 1) (by omega) (by omega) ?_⟩⟩⟩
          rw [cnt_s y0, ← hu, ev]
          simp only [decide_eq_true_eq]
      refine vc_X10_event_36 ⟨hn33, h13, fun q => by omega, fun q => ⟨fun z => absurd rfl z, fun _ => inner (evN (pR μ)).toNat 0 0 (by omega) (by omega) rfl⟩⟩
  exact outer (evN (pR μ)).toNat 0 0 (by omega) (by omega) j0

/-! the two worlds as they are made -/
def z0_ : am_M := fun _ => am_m0
def e0_ : Nat → Int := am_cpS 0 am_m0 0 0 5
def t0_ : Nat → Int := am_cpS 3 (am_cpS 3 (am_cpS 3 (am_cpS 3 am_m0 0 0 7) 0 7 7) 0 14 7) 0 21 7
def p0_ : Pj := (e0_, tg t0_ 7, 0, tg am_m0 4, 0, tg am_m0 8, [])
theorem em_P : ∀ a ∈ pjL, pC (am_em z0_ 0) a = p0_ ∧ (am_em z0_ 0) (a + 6) 2 = 0 := by
  intro a ha
  unfold pjL at ha
  simp only [List.mem_cons, List.not_mem_nil, or_false] at ha
  rcases ha with rfl | rfl | rfl | rfl | rfl | rfl | rfl | rfl | rfl | rfl | rfl | rfl | rfl | rfl
  all_goals exact ⟨rfl, rfl⟩
theorem e0_E : ok_E e0_ := by
  have h : e0_ 0 = 100 ∧ e0_ 1 = 10 ∧ e0_ 2 = 10 ∧ e0_ 3 = 25 ∧ e0_ 4 = 0 := by decide +kernel
  obtain ⟨h0, h1, h2, h3, h4⟩ := h
  unfold ok_E in_
  omega
theorem t0_A : ∀ a : Nat, a < 28 → t0_ a = [100, 0, 0, -1, 100, 50, 5].getD (a % 7) 0 := by decide +kernel
theorem t0_at {t : Int} (t0 : 0 ≤ t) (t1 : t < 4) {w : Nat} (hw : w < 7) : tg t0_ 7 t w = [100, 0, 0, -1, 100, 50, 5].getD w 0 := by
  unfold tg
  rw [t0_A _ (by omega)]
  congr 1
  omega
theorem t0_K : ok_K (tg t0_ 7) := by
  intro t h0 h1
  have e0 : tg t0_ 7 t 0 = 100 := t0_at h0 h1 (w := 0) (by omega)
  have e1 : tg t0_ 7 t 1 = 0 := t0_at h0 h1 (w := 1) (by omega)
  have e2 : tg t0_ 7 t 2 = 0 := t0_at h0 h1 (w := 2) (by omega)
  have e3 : tg t0_ 7 t 3 = (-1) := t0_at h0 h1 (w := 3) (by omega)
  have e4 : tg t0_ 7 t 4 = 100 := t0_at h0 h1 (w := 4) (by omega)
  have e5 : tg t0_ 7 t 5 = 50 := t0_at h0 h1 (w := 5) (by omega)
  have e6 : tg t0_ 7 t 6 = 5 := t0_at h0 h1 (w := 6) (by omega)
  unfold in_
  refine ⟨?_, ?_, ?_, ?_, ?_, ?_, ?_, ?_⟩
  · have := e0; omega
  · have := e1; omega
  · have := e2; omega
  · have := e3; omega
  · have := e3; omega
  · have := e4; omega
  · have := e5; omega
  · have := e6; omega
theorem p0_v : vP p0_ := by
  refine ⟨e0_E, t0_K, ⟨?_, fun i h0 h1 => ?_⟩, fun i h0 h1 => ?_, ?_, fun c h0 h1 => ?_, fun i j h0 h1 h2 => ?_, Nat.zero_le _, fun p hp => ?_, List.Pairwise.nil⟩
  · show in_ 0 7 0
    unfold in_
    omega
  · exact absurd (show i < 0 from h1) (by omega)
  · exact absurd (show i < 0 from h1) (by omega)
  · show in_ 0 25 0
    unfold in_
    omega
  · exact absurd (show c < 0 from h1) (by omega)
  · exact absurd (show j < 0 from h2) (by omega)
  · exact absurd (show p ∈ ([] : Hl) from hp) List.not_mem_nil
theorem v0_A : ∀ a : Nat, a < 28 → am_v0 (410 + a) = t0_ a := by decide +kernel
theorem v0_E : ∀ a : Nat, a < 5 → e0_ a = am_v0 (465 + a) := by decide +kernel
theorem v0_Z : am_v0 0 = 0 ∧ am_v0 25 = 0 ∧ am_v0 438 = 0 := by decide +kernel
theorem v0_H : hA am_v0 = [] := by
  unfold hA
  rw [v0_Z.2.2]
  rfl
theorem p0_j : jE_ p0_ am_v0 := by
  refine ⟨⟨v0_E, fun i j h0 h1 h2 h3 => ?_, v0_Z.1.symm, fun i j h0 h1 => absurd (show i < 0 from h1) (by omega), v0_Z.2.1.symm, fun i j h0 h1 => absurd (show i < 0 from h1) (by omega), v0_H.symm⟩, by rw [v0_Z.2.2]; omega⟩
  show t0_ (i * 7 + j).toNat = am_v0 ((410 + 7 * i) + j).toNat
  rw [← v0_A _ (by omega)]
  congr 1
  omega
theorem JR_0 : JR 0 (am_em z0_ 0) (am_rm0 z0_ 0) := by
  have a1 := em_P 1 (by decide)
  have hv : vP (pC (am_em z0_ 0) 1) := by
    rw [a1.1]
    exact p0_v
  have hr : ∀ o x, pC (am_em z0_ 0) (rg_ o x) = p0_ ∧ (am_em z0_ 0) (rg_ o x + 6) 2 = 0 := fun o x => em_P _ (rg_in o x)
  have e28 : ∀ j, (am_em z0_ 0) 28 j = 0 := fun j => rfl
  have ez : ∀ j, 1 ≤ j → j < 27 → (am_rm0 z0_ 0) 0 j = 0 := fun j _ h => if_neg (Nat.ne_of_lt h)
  have i0 : ∀ K, 0 < K → in_ 0 K 0 := fun K h => ⟨Int.le_refl 0, h⟩
  refine ⟨⟨?_, ?_, fun h => ?_, rfl, ?_⟩, ⟨?_, ?_, ?_, ?_, fun i h0 h1 => ?_, ⟨?_, ?_, ?_, fun h => ?_, fun h => ?_⟩, fun i h => ?_, fun j h => ?_, fun h => ?_, fun h => ?_⟩, ⟨?_, fun h => ?_⟩, ⟨?_, ?_, rfl⟩, Or.inl ⟨rfl, rfl⟩, ⟨[], ⟨rfl, fun i c h => ?_⟩, ⟨rfl, fun i c h => ?_⟩, Nat.zero_le _⟩⟩
  · exact Eq.mp (vC_P (μ := am_em z0_ 0)) hv
  · exact Int.le_of_eq a1.2.symm
  · exact absurd (show (1 : Int) = 0 from h) (by decide)
  · rw [a1.1]
    exact p0_j
  · exact i0 11 (by decide)
  · exact ⟨Int.le_refl 0, Int.le_refl 0, by decide⟩
  · exact i0 _ (by decide)
  · exact i0 _ (by decide)
  · rw [(hr _ _).1, (hr _ _).2]
    exact ⟨p0_v, Int.le_refl 0⟩
  · rfl
  · rfl
  · exact ⟨fun _ => rfl, fun _ => rfl⟩
  · exact absurd (e28 5) h
  · exact absurd (e28 5) h
  · exact absurd (show (i : Int) < 0 from h) (by omega)
  · exact absurd (show (j : Int) < 0 from h) (by omega)
  · rw [(hr _ _).1, a1.1]
    exact pe_rf
  · exact absurd (e28 5) h
  · exact ⟨fun _ => rfl, fun _ => rfl⟩
  · exact absurd (show (0 : Int) = 0 from rfl) h
  · rfl
  · exact i0 61 (by decide)
  · simp at h
  · simp at h

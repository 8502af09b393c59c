/-! events in their order -/
/-- the least of what is in S above k, or the greatest int -/
def mt_ (k : Int) (S : Int → Prop) (a : Int) : Prop := (a = 2147483647 ∨ (S a ∧ k < a)) ∧ ∀ x, S x → k < x → a ≤ x
theorem mt_add {k a o : Int} {S T : Int → Prop} (h : mt_ k S a) (hT : ∀ x, T x ↔ S x ∨ x = o) : mt_ k T (nea_ k a o) := by
  obtain ⟨h1, h2⟩ := h
  unfold nea_
  refine ⟨?_, fun x hx kx => ?_⟩
  · by_cases c : k < o
    · rw [if_pos c]
      by_cases c2 : o < a
      · rw [if_pos c2]; exact Or.inr ⟨(hT o).mpr (Or.inr rfl), c⟩
      · rw [if_neg c2]
        rcases h1 with h1 | h1
        · exact Or.inl h1
        · exact Or.inr ⟨(hT a).mpr (Or.inl h1.1), h1.2⟩
    · rw [if_neg c]
      rcases h1 with h1 | h1
      · exact Or.inl h1
      · exact Or.inr ⟨(hT a).mpr (Or.inl h1.1), h1.2⟩
  · rcases (hT x).mp hx with q | q
    · have := h2 x q kx
      (repeat' split) <;> omega
    · subst q
      rw [if_pos kx]
      split <;> omega
theorem ky_e {P : Pj} {c : Int} (h0 : 0 ≤ c) (h1 : c < pN P) : ky_ P (2 * c) = (en_ (pG P) c * 3) * 4 + pG P c 0 ∧ ky_ P (2 * c + 1) = (pG P c 1 * 3 + 2) * 4 + pG P c 0 := by
  have l0 : 2 * c < 2 * pN P := by omega
  have l1 : 2 * c + 1 < 2 * pN P := by omega
  have d0 : 2 * c / 2 = c := by omega
  have d1 : (2 * c + 1) / 2 = c := by omega
  have p0 : 2 * c % 2 = 0 := by omega
  have p1 : ¬ (2 * c + 1) % 2 = 0 := by omega
  unfold ky_ ef_ ek_ et_ en_
  refine ⟨?_, ?_⟩
  · rw [if_pos l0, if_pos l0, if_pos l0, if_pos p0, if_pos p0, d0]
    omega
  · rw [if_pos l1, if_pos l1, if_pos l1, if_neg p1, if_neg p1, d1]
theorem ky_h {P : Pj} (hn : 0 ≤ pN P) {A B : Hl} {p : Int × Int} (h : pH P = A ++ p :: B) : ky_ P (2 * pN P + A.length) = (p.1 * 3 + 1) * 4 := by
  unfold ky_ ef_ ek_ et_
  rw [if_neg (by omega), if_neg (by omega), if_neg (by omega), show (2 * pN P + (A.length : Int) - 2 * pN P).toNat = A.length by omega, h]
  simp [List.getD_eq_getElem?_getD]
theorem nx_is {P : Pj} (hV : vP P) (k : Int) : mt_ k (isK_ P) (nxP P k) := by
  have hn := hV.hn
  unfold in_ at hn
  have eN : evN P = 2 * pN P + ((pH P).length : Int) := rfl
  have h1 := fI_i (f := fun a i => nea_ k (nea_ k a ((en_ (pG P) i * 3) * 4 + pG P i 0)) ((pG P i 1 * 3 + 2) * 4 + pG P i 0)) (a := 2147483647) (n := pN P) (fun a i => mt_ k (fun x => ∃ e, 0 ≤ e ∧ e < 2 * i ∧ ky_ P e = x) a) ⟨Or.inl rfl, fun x ⟨e, a, b, _⟩ _ => by omega⟩ hn.1 (fun i a i0 i1 h => by
    have kk := ky_e (P := P) i0 i1
    refine mt_add (mt_add (T := fun x => ∃ e, 0 ≤ e ∧ e < 2 * i + 1 ∧ ky_ P e = x) h (fun x => ?_)) (fun x => ?_)
    · constructor
      · rintro ⟨e, a, b, c⟩
        by_cases q : e = 2 * i
        · right; rw [← c, q, kk.1]
        · exact Or.inl ⟨e, a, by omega, c⟩
      · rintro (⟨e, a, b, c⟩ | c)
        · exact ⟨e, a, by omega, c⟩
        · exact ⟨2 * i, by omega, by omega, by rw [c, kk.1]⟩
    · constructor
      · rintro ⟨e, a, b, c⟩
        by_cases q : e = 2 * i + 1
        · right; rw [← c, q, kk.2]
        · exact Or.inl ⟨e, a, by omega, c⟩
      · rintro (⟨e, a, b, c⟩ | c)
        · exact ⟨e, a, by omega, c⟩
        · exact ⟨2 * i + 1, by omega, by omega, by rw [c, kk.2]⟩)
  have h2 : ∀ (B A : Hl) (a : Int), pH P = A ++ B → mt_ k (fun x => ∃ e, 0 ≤ e ∧ e < 2 * pN P + A.length ∧ ky_ P e = x) a → mt_ k (isK_ P) ((B.map (fun p => (p.1 * 3 + 1) * 4)).foldl (nea_ k) a) := by
    intro B
    induction B with
    | nil =>
      intro A a hA h
      simp at hA
      rw [← hA] at h
      exact h
    | cons p B ih =>
      intro A a hA h
      refine ih (A ++ [p]) _ (by rw [hA]; simp) (mt_add h (fun x => ?_))
      have kk := ky_h hn.1 hA
      rw [List.length_append, List.length_cons, List.length_nil]
      constructor
      · rintro ⟨e, a, b, c⟩
        by_cases q : e = 2 * pN P + A.length
        · right; rw [← c, q, kk]
        · exact Or.inl ⟨e, a, by omega, c⟩
      · rintro (⟨e, a, b, c⟩ | c)
        · exact ⟨e, a, by omega, c⟩
        · exact ⟨2 * pN P + A.length, by omega, by omega, by rw [c, kk]⟩
  refine h2 (pH P) [] _ (by simp) ?_
  have e0 : 2 * pN P + (([] : Hl).length : Int) = 2 * pN P := by simp
  rw [e0]
  exact h1
theorem ky_b {P : Pj} (hV : vP P) {k : Int} (h : isK_ P k) : 0 ≤ k ∧ k < 10000 := by
  obtain ⟨e, a, b, c⟩ := h
  have := ef_b hV a b
  unfold in_ ky_ at *
  omega
theorem cnt_one {p : Int → Prop} {q : Int → Bool} {j : Int} (hj : 0 ≤ j) (hq : ∀ i, q i = true ↔ i = j) : ∀ n : Nat, cnt_ q (fun _ => 1) n = if j < n then 1 else 0
  | 0 => by rw [if_neg (by omega)]; rfl
  | n + 1 => by
    have ih := cnt_one (p := p) hj hq n
    rw [show ((n + 1 : Nat) : Int) = (n : Int) + 1 by omega, cnt_s (by omega), ih]
    by_cases c : (n : Int) = j
    · rw [if_pos ((hq n).mpr c), if_neg (by omega), if_pos (by omega)]
      omega
    · have : ¬ q n = true := fun z => c ((hq n).mp z)
      rw [if_neg this]
      by_cases c2 : j < n
      · rw [if_pos c2, if_pos (by omega)]
        omega
      · rw [if_neg c2, if_neg (by omega)]
        omega
theorem cnt_sum {p q r : Int → Bool} (h : ∀ i, (if r i = true then (1 : Int) else 0) = (if p i = true then 1 else 0) + if q i = true then 1 else 0) : ∀ n : Nat, cnt_ r (fun _ => 1) n = cnt_ p (fun _ => 1) n + cnt_ q (fun _ => 1) n
  | 0 => rfl
  | n + 1 => by
    have ih := cnt_sum h n
    rw [show ((n + 1 : Nat) : Int) = (n : Int) + 1 by omega, cnt_s (by omega), cnt_s (by omega), cnt_s (by omega), ih]
    have := h n
    omega
def ble_ (P : Pj) (k : Int) : Int := cnt_ (fun o => decide (ky_ P o ≤ k)) (fun _ => 1) (evN P)
theorem ble_is {P : Pj} (hV : vP P) {k : Int} (h : isK_ P k) : ble_ P k = blw_ P k + 1 := by
  obtain ⟨e, e0, e1, ek⟩ := h
  have hN : 0 ≤ evN P := by omega
  have s := cnt_sum (p := fun o => decide (ky_ P o < k)) (q := fun o => decide (ky_ P o = k)) (r := fun o => decide (ky_ P o ≤ k)) (fun i => by
    simp only [decide_eq_true_eq]
    (repeat' split) <;> omega) (evN P).toNat
  have o : cnt_ (fun o => decide (ky_ P o = k)) (fun _ => 1) (evN P) = cnt_ (fun o => decide (o = e)) (fun _ => 1) (evN P) := cnt_c (fun i i0 i1 => ⟨by
    apply Bool.eq_iff_iff.mpr
    simp only [decide_eq_true_eq]
    constructor
    · intro z; exact ky_inj hV i0 i1 e0 e1 (by rw [z, ek])
    · intro z; rw [z, ek], rfl⟩)
  have o2 := cnt_one (p := fun _ => True) (q := fun o => decide (o = e)) e0 (fun i => by simp) (evN P).toNat
  rw [show (((evN P).toNat : Nat) : Int) = evN P by omega] at s o2
  rw [if_pos e1] at o2
  unfold ble_ blw_
  rw [s, o, o2]
theorem cnt_lt {p : Int → Bool} {n : Int} (hn : 0 ≤ n) (h : cnt_ p (fun _ => 1) n < n) : ∃ i, 0 ≤ i ∧ i < n ∧ p i = false := by
  apply Classical.byContradiction
  intro c
  have key : ∀ j : Nat, (j : Int) ≤ n → cnt_ p (fun _ => 1) j = j := by
    intro j
    induction j with
    | zero => intro _; rfl
    | succ j ih =>
      intro hj
      have pj : p j = true := by
        cases q : p j with
        | true => rfl
        | false => exact absurd ⟨(j : Int), by omega, by omega, q⟩ c
      rw [show ((j + 1 : Nat) : Int) = (j : Int) + 1 by omega, cnt_s (by omega), ih (by omega), if_pos pj]
  have := key n.toNat (by omega)
  rw [show ((n.toNat : Nat) : Int) = n by omega] at this
  omega
/-- the key behind e + 1 steps is that of the event with e events ahead -/
theorem ev_is {P : Pj} (hV : vP P) : ∀ e : Nat, (e : Int) < evN P → ble_ P (ev_ P e) = e ∧ isK_ P (ev_ P (e + 1)) ∧ blw_ P (ev_ P (e + 1)) = e
  | e, he => by
    have b0 : ble_ P (ev_ P e) = e := by
      cases e with
      | zero =>
        show cnt_ _ _ _ = 0
        rw [cnt_c (q := fun _ => false) (w := fun _ => 1) (fun i i0 i1 => ⟨by
          have := ky_b hV ⟨i, i0, i1, rfl⟩
          have z : ev_ P 0 = -1 := rfl
          rw [z]
          simp
          omega, rfl⟩)]
        have : ∀ n : Nat, cnt_ (fun _ => false) (fun _ => 1) n = 0 := fun n => by
          induction n with
          | zero => rfl
          | succ n ih => rw [show ((n + 1 : Nat) : Int) = (n : Int) + 1 by omega, cnt_s (by omega), ih]; rfl
        have h := this (evN P).toNat
        rw [show (((evN P).toNat : Nat) : Int) = evN P by omega] at h
        exact h
      | succ e =>
        have ih := ev_is hV e (by omega)
        rw [ble_is hV ih.2.1, ih.2.2]
        omega
    have nx := nx_is hV (ev_ P e)
    obtain ⟨i, i0, i1, ip⟩ := cnt_lt (p := fun o => decide (ky_ P o ≤ ev_ P e)) (n := evN P) (by omega) (by
      have : ble_ P (ev_ P e) = e := b0
      unfold ble_ at this
      omega)
    have ki : isK_ P (ky_ P i) := ⟨i, i0, i1, rfl⟩
    have kb := ky_b hV ki
    simp only [decide_eq_false_iff_not] at ip
    have le := nx.2 _ ki (by omega)
    have en : ev_ P (e + 1) = nxP P (ev_ P e) := rfl
    have kn : isK_ P (nxP P (ev_ P e)) ∧ ev_ P e < nxP P (ev_ P e) := by
      rcases nx.1 with q | q
      · omega
      · exact q
    refine ⟨b0, by rw [en]; exact kn.1, ?_⟩
    rw [en, ← b0]
    unfold blw_ ble_
    refine cnt_c (fun j j0 j1 => ⟨?_, rfl⟩)
    apply Bool.eq_iff_iff.mpr
    simp only [decide_eq_true_eq]
    constructor
    · intro q
      apply Classical.byContradiction
      intro z
      have := nx.2 _ ⟨j, j0, j1, rfl⟩ (by omega)
      omega
    · intro q
      omega
theorem blw_m {P : Pj} (hV : vP P) {a b : Int} (ha : isK_ P a) (hab : a < b) : blw_ P a < blw_ P b := by
  have h := ble_is hV ha
  have : ble_ P a ≤ blw_ P b := by
    unfold ble_ blw_
    have hN : 0 ≤ evN P := by obtain ⟨e, e0, e1, -⟩ := ha; omega
    have key : ∀ n : Nat, cnt_ (fun o => decide (ky_ P o ≤ a)) (fun _ => 1) n ≤ cnt_ (fun o => decide (ky_ P o < b)) (fun _ => 1) n := by
      intro n
      induction n with
      | zero => exact Int.le_refl _
      | succ n ih =>
        rw [show ((n + 1 : Nat) : Int) = (n : Int) + 1 by omega, cnt_s (by omega), cnt_s (by omega)]
        simp only [decide_eq_true_eq]
        (repeat' split) <;> omega
    have := key (evN P).toNat
    rw [show (((evN P).toNat : Nat) : Int) = evN P by omega] at this
    exact this
  omega
theorem h_tit_at {A B : Hl} {p : Int × Int} (h : (A ++ p :: B).Pairwise (fun p q => p.1 < q.1)) : h_tit p.1 (A ++ p :: B) = p.2 := by
  rw [List.pairwise_append] at h
  have : aft_ p.1 (A ++ p :: B) = p :: B := by
    have key : ∀ A : Hl, (∀ a ∈ A, a.1 < p.1) → aft_ p.1 (A ++ p :: B) = p :: B := by
      intro A
      induction A with
      | nil => intro _; rw [List.nil_append, aft_c, if_neg (by omega)]
      | cons a A ih =>
        intro ha
        rw [List.cons_append, aft_c, if_pos (ha a List.mem_cons_self)]
        exact ih (fun x hx => ha x (List.mem_cons_of_mem _ hx))
    exact key A (fun a ha => h.2.2 a ha p List.mem_cons_self)
  unfold h_tit
  rw [this]
/-- what an event answers, from the event itself -/
theorem ev_ans {P : Pj} (hV : vP P) {e j w : Int} (e0 : 0 ≤ e) (e1 : e < evN P) (j0 : 0 ≤ j) (j1 : j < evN P) (hj : blw_ P (ky_ P j) = e) (hw : 0 ≤ w ∧ w ≤ 2) : q_event P e w = if w = 0 then ef_ P j else if w = 1 then ek_ P j else if 2 * pN P ≤ j then ((pH P).getD (j - 2 * pN P).toNat (0, 0)).2 else et_ P j := by
  have eN : evN P = 2 * pN P + ((pH P).length : Int) := rfl
  obtain ⟨-, k1, k2⟩ := ev_is hV e.toNat (by omega)
  have ej : ev_ P (e.toNat + 1) = ky_ P j := by
    have kj : isK_ P (ky_ P j) := ⟨j, j0, j1, rfl⟩
    rcases Int.lt_trichotomy (ev_ P (e.toNat + 1)) (ky_ P j) with q | q | q
    · have := blw_m hV k1 q
      omega
    · exact q
    · have := blw_m hV kj q
      omega
  have b := ef_b hV j0 j1
  unfold in_ at b
  have q0 : q_event P e w = _ := (cif_f (by omega)).trans (cif_f (by omega))
  rw [q0, ej]
  have a1 : ky_ P j / 12 = ef_ P j := by unfold ky_; omega
  have a2 : ky_ P j / 4 % 3 = ek_ P j := by unfold ky_; omega
  have a3 : ky_ P j % 4 = et_ P j := by unfold ky_; omega
  rw [a1, a2, a3]
  by_cases w0 : w = 0
  · rw [if_pos w0, if_pos w0]
  · rw [if_neg w0, if_neg w0]
    by_cases w1 : w = 1
    · rw [if_pos w1, if_pos w1]
    · rw [if_neg w1, if_neg w1]
      by_cases c : 2 * pN P ≤ j
      · have k1 : ek_ P j = 1 := by unfold ek_; rw [if_neg (by omega)]
        rw [if_pos k1, if_pos c]
        have hl : (j - 2 * pN P).toNat < (pH P).length := by omega
        obtain ⟨A, p, B, eH, hA⟩ : ∃ A p B, pH P = A ++ p :: B ∧ (j - 2 * pN P).toNat = A.length := ⟨(pH P).take (j - 2 * pN P).toNat, (pH P)[(j - 2 * pN P).toNat], (pH P).drop ((j - 2 * pN P).toNat + 1), by rw [← List.drop_eq_getElem_cons hl, List.take_append_drop], by simp; omega⟩
        have ef : ef_ P j = p.1 := by
          unfold ef_
          rw [if_neg (by omega), hA, eH]
          simp [List.getD_eq_getElem?_getD]
        have hr := hV.hr
        rw [eH] at hr
        rw [ef, hA, eH, h_tit_at hr]
        simp [List.getD_eq_getElem?_getD]
      · have k1 : ek_ P j ≠ 1 := by
          unfold ek_
          rw [if_pos (by omega)]
          split <;> omega
        rw [if_neg k1, if_neg c]
/-! the reference's events -/
theorem vc_X10_rank_0 {x1 : Int} {μ : am_M} {Q : Int → am_M → Prop} (h : (am_in (2 * (μ 1 25))) ∧ ((x1 < 2 * (μ 1 25) → (0 ≤ x1) ∧ ((0 ≤ x1) ∧ (((x1 % 2 ≠ 0 → (in_ 0 48 (x1 / 2)) ∧ (in_ 0 8 1) ∧ ((am_in (100000 * (rg μ (x1 / 2) 1))) ∧ ((am_in ((100000 * (rg μ (x1 / 2) 1)) + 20000)) ∧ ((in_ 0 48 (x1 / 2)) ∧ (in_ 0 8 0) ∧ ((am_in (((100000 * (rg μ (x1 / 2) 1)) + 20000) + (rg μ (x1 / 2) 0)))))))) ∧ (x1 % 2 = 0 → (in_ 0 48 (x1 / 2)) ∧ (in_ 0 8 1) ∧ ((in_ 0 48 (x1 / 2)) ∧ (in_ 0 8 4) ∧ ((am_in ((rg μ (x1 / 2) 1) + (rg μ (x1 / 2) 4))) ∧ ((am_in (100000 * ((rg μ (x1 / 2) 1) + (rg μ (x1 / 2) 4)))) ∧ ((in_ 0 48 (x1 / 2)) ∧ (in_ 0 8 0) ∧ ((am_in ((100000 * ((rg μ (x1 / 2) 1) + (rg μ (x1 / 2) 4))) + (rg μ (x1 / 2) 0)))))))))) ∧ (∀ v1 : Int, v1 = (if x1 % 2 = 0 then (100000 * ((rg μ (x1 / 2) 1) + (rg μ (x1 / 2) 4))) + (rg μ (x1 / 2) 0) else ((100000 * (rg μ (x1 / 2) 1)) + 20000) + (rg μ (x1 / 2) 0)) → Q v1 μ)))) ∧ (2 * (μ 1 25) ≤ x1 → (am_in (2 * (μ 1 25))) ∧ ((am_in (x1 - (2 * (μ 1 25)))) ∧ ((am_in (2 * (x1 - (2 * (μ 1 25))))) ∧ ((am_in (439 + (2 * (x1 - (2 * (μ 1 25)))))) ∧ ((0 ≤ 439 + (2 * (x1 - (2 * (μ 1 25))))) ∧ (439 + (2 * (x1 - (2 * (μ 1 25)))) < 470) ∧ ((am_in (100000 * (μ 1 ((439 + (2 * (x1 - (2 * (μ 1 25))))).toNat)))) ∧ ((am_in ((100000 * (μ 1 ((439 + (2 * (x1 - (2 * (μ 1 25))))).toNat))) + 10000)) ∧ (Q ((100000 * (μ 1 ((439 + (2 * (x1 - (2 * (μ 1 25))))).toNat))) + 10000) μ)))))))))) : at_I kR 2 mX10_rank 0 [vR 0, vI x1, vU] [] μ Q := by
  refine s_iload_n dX10_rank_0 rfl rfl ?_
  refine s_iconst dX10_rank_1 (by decide) ?_
  refine s_aload_n dX10_rank_2 rfl rfl ?_
  refine s_getR dX10_rank_3 flX10_9 rn0 rk0 rfl rr0_0 ?_
  refine s_bipush dX10_rank_6 (by decide) ?_
  refine s_iald (x := (μ 1 25)) dX10_rank_8 rn1 rk1 rl1 (by decide) (by decide) rfl ?_
  obtain ⟨c, h⟩ := h
  refine s_imul dX10_rank_9 (am_w_id c) ?_
  refine s_icmp_lt dX10_rank_10 (tgt := 43) (by decide) (fun cc => ?_) (fun cc => ?_)
  · have h := h.1 cc
    refine s_iload_n dX10_rank_43 rfl rfl ?_
    refine s_iconst dX10_rank_44 (by decide) ?_
    obtain ⟨c, h⟩ := h
    refine s_idivp dX10_rank_45 c (by decide) rfl ?_
    refine s_istore_n dX10_rank_46 rfl (by decide) (L' := [vR 0, vI x1, vI (x1 / 2)]) rfl ?_
    refine s_iload_n dX10_rank_47 rfl rfl ?_
    refine s_iconst dX10_rank_48 (by decide) ?_
    obtain ⟨c, h⟩ := h
    refine s_iremp dX10_rank_49 c (by decide) rfl ?_
    obtain ⟨hsd, h⟩ := h
    have kj2 : ∀ (v1 : Int), (Q v1 μ) → at_I kR 2 mX10_rank 99 [vU, vU, vU] [vI v1] μ Q := by
      intro v1 h
      exact s_ireturn dX10_rank_99 (Or.inl rfl) ⟨⟨rfl, rfl⟩, _, rfl, h⟩
    refine s_if_ne dX10_rank_50 (tgt := 79) (by decide) (fun cc => ?_) (fun cc => ?_)
    · have hp0 := cc
      have hsd := hsd.1 hp0
      refine s_ldc (z := 100000) dX10_rank_79 wcX10_236 (by unfold am_in; decide) ?_
      refine s_aload_n dX10_rank_81 rfl rfl ?_
      refine s_iload_n dX10_rank_82 rfl rfl ?_
      refine s_iconst dX10_rank_83 (by decide) ?_
      obtain ⟨p0, p1, hsd⟩ := hsd
      refine s_callV (As := [vI (x1 / 2), vI 1]) (rest := [vI 100000]) (k := 0) dX10_rank_84 lkX10_126 rn0 ⟨by rw [rk0]; rfl, by rw [rk0]; decide⟩ lmX10_of rfl rfl (Nat.le_of_ble_eq_true rfl) (by decide) (Nat.le_refl 0) (Nat.le_refl 0) (hC := sp_X10_of (Q := fun z m => rg μ (x1 / 2) 1 = z ∧ μ = m) p0 p1 ⟨rfl, rfl⟩) (fun r n2 S2 m2 hP => ?_)
      obtain ⟨⟨rfl, rfl⟩, z, rfl, rfl, rfl⟩ := hP
      obtain ⟨c, hsd⟩ := hsd
      refine s_imul dX10_rank_87 (am_w_id c) ?_
      refine s_sipush dX10_rank_88 (by decide) ?_
      obtain ⟨c, hsd⟩ := hsd
      refine s_iadd dX10_rank_91 (am_w_id c) ?_
      refine s_aload_n dX10_rank_92 rfl rfl ?_
      refine s_iload_n dX10_rank_93 rfl rfl ?_
      refine s_iconst dX10_rank_94 (by decide) ?_
      obtain ⟨p0, p1, hsd⟩ := hsd
      refine s_callV (As := [vI (x1 / 2), vI 0]) (rest := [vI ((100000 * (rg μ (x1 / 2) 1)) + 20000)]) (k := 0) dX10_rank_95 lkX10_126 rn0 ⟨by rw [rk0]; rfl, by rw [rk0]; decide⟩ lmX10_of rfl rfl (Nat.le_of_ble_eq_true rfl) (by decide) (Nat.le_refl 0) (Nat.le_refl 0) (hC := sp_X10_of (Q := fun z m => rg μ (x1 / 2) 0 = z ∧ μ = m) p0 p1 ⟨rfl, rfl⟩) (fun r n2 S2 m2 hP => ?_)
      obtain ⟨⟨rfl, rfl⟩, z, rfl, rfl, rfl⟩ := hP
      have c := hsd
      refine s_iadd dX10_rank_98 (am_w_id c) ?_
      exact am_lesS (kj2 (((100000 * (rg μ (x1 / 2) 1)) + 20000) + (rg μ (x1 / 2) 0)) (h (((100000 * (rg μ (x1 / 2) 1)) + 20000) + (rg μ (x1 / 2) 0)) (by rw [if_neg hp0]))) ⟨Or.inl rfl, Or.inl rfl, Or.inl rfl, trivial⟩
    · have hp0 := cc
      have hsd := hsd.2 hp0
      refine s_ldc (z := 100000) dX10_rank_53 wcX10_236 (by unfold am_in; decide) ?_
      refine s_aload_n dX10_rank_55 rfl rfl ?_
      refine s_iload_n dX10_rank_56 rfl rfl ?_
      refine s_iconst dX10_rank_57 (by decide) ?_
      obtain ⟨p0, p1, hsd⟩ := hsd
      refine s_callV (As := [vI (x1 / 2), vI 1]) (rest := [vI 100000]) (k := 0) dX10_rank_58 lkX10_126 rn0 ⟨by rw [rk0]; rfl, by rw [rk0]; decide⟩ lmX10_of rfl rfl (Nat.le_of_ble_eq_true rfl) (by decide) (Nat.le_refl 0) (Nat.le_refl 0) (hC := sp_X10_of (Q := fun z m => rg μ (x1 / 2) 1 = z ∧ μ = m) p0 p1 ⟨rfl, rfl⟩) (fun r n2 S2 m2 hP => ?_)
      obtain ⟨⟨rfl, rfl⟩, z, rfl, rfl, rfl⟩ := hP
      refine s_aload_n dX10_rank_61 rfl rfl ?_
      refine s_iload_n dX10_rank_62 rfl rfl ?_
      refine s_iconst dX10_rank_63 (by decide) ?_
      obtain ⟨p0, p1, hsd⟩ := hsd
      refine s_callV (As := [vI (x1 / 2), vI 4]) (rest := [vI (rg μ (x1 / 2) 1), vI 100000]) (k := 0) dX10_rank_64 lkX10_126 rn0 ⟨by rw [rk0]; rfl, by rw [rk0]; decide⟩ lmX10_of rfl rfl (Nat.le_of_ble_eq_true rfl) (by decide) (Nat.le_refl 0) (Nat.le_refl 0) (hC := sp_X10_of (Q := fun z m => rg μ (x1 / 2) 4 = z ∧ μ = m) p0 p1 ⟨rfl, rfl⟩) (fun r n2 S2 m2 hP => ?_)
      obtain ⟨⟨rfl, rfl⟩, z, rfl, rfl, rfl⟩ := hP
      obtain ⟨c, hsd⟩ := hsd
      refine s_iadd dX10_rank_67 (am_w_id c) ?_
      obtain ⟨c, hsd⟩ := hsd
      refine s_imul dX10_rank_68 (am_w_id c) ?_
      refine s_aload_n dX10_rank_69 rfl rfl ?_
      refine s_iload_n dX10_rank_70 rfl rfl ?_
      refine s_iconst dX10_rank_71 (by decide) ?_
      obtain ⟨p0, p1, hsd⟩ := hsd
      refine s_callV (As := [vI (x1 / 2), vI 0]) (rest := [vI (100000 * ((rg μ (x1 / 2) 1) + (rg μ (x1 / 2) 4)))]) (k := 0) dX10_rank_72 lkX10_126 rn0 ⟨by rw [rk0]; rfl, by rw [rk0]; decide⟩ lmX10_of rfl rfl (Nat.le_of_ble_eq_true rfl) (by decide) (Nat.le_refl 0) (Nat.le_refl 0) (hC := sp_X10_of (Q := fun z m => rg μ (x1 / 2) 0 = z ∧ μ = m) p0 p1 ⟨rfl, rfl⟩) (fun r n2 S2 m2 hP => ?_)
      obtain ⟨⟨rfl, rfl⟩, z, rfl, rfl, rfl⟩ := hP
      have c := hsd
      refine s_iadd dX10_rank_75 (am_w_id c) ?_
      refine s_goto dX10_rank_76 (tgt := 99) (by decide) ?_
      exact am_lesS (kj2 ((100000 * ((rg μ (x1 / 2) 1) + (rg μ (x1 / 2) 4))) + (rg μ (x1 / 2) 0)) (h ((100000 * ((rg μ (x1 / 2) 1) + (rg μ (x1 / 2) 4))) + (rg μ (x1 / 2) 0)) (by rw [if_pos hp0]))) ⟨Or.inl rfl, Or.inl rfl, Or.inl rfl, trivial⟩
  · have h := h.2 cc
    refine s_ldc (z := 100000) dX10_rank_13 wcX10_236 (by unfold am_in; decide) ?_
    refine s_aload_n dX10_rank_15 rfl rfl ?_
    refine s_getR dX10_rank_16 flX10_9 rn0 rk0 rfl rr0_0 ?_
    refine s_sipush dX10_rank_19 (by decide) ?_
    refine s_iconst dX10_rank_22 (by decide) ?_
    refine s_iload_n dX10_rank_23 rfl rfl ?_
    refine s_iconst dX10_rank_24 (by decide) ?_
    refine s_aload_n dX10_rank_25 rfl rfl ?_
    refine s_getR dX10_rank_26 flX10_9 rn0 rk0 rfl rr0_0 ?_
    refine s_bipush dX10_rank_29 (by decide) ?_
    refine s_iald (x := (μ 1 25)) dX10_rank_31 rn1 rk1 rl1 (by decide) (by decide) rfl ?_
    obtain ⟨c, h⟩ := h
    refine s_imul dX10_rank_32 (am_w_id c) ?_
    obtain ⟨c, h⟩ := h
    refine s_isub dX10_rank_33 (am_w_id c) ?_
    obtain ⟨c, h⟩ := h
    refine s_imul dX10_rank_34 (am_w_id c) ?_
    obtain ⟨c, h⟩ := h
    refine s_iadd dX10_rank_35 (am_w_id c) ?_
    obtain ⟨c, c2, h⟩ := h
    refine s_iald (x := (μ 1 ((439 + (2 * (x1 - (2 * (μ 1 25))))).toNat))) dX10_rank_36 rn1 rk1 rl1 c c2 rfl ?_
    obtain ⟨c, h⟩ := h
    refine s_imul dX10_rank_37 (am_w_id c) ?_
    refine s_sipush dX10_rank_38 (by decide) ?_
    obtain ⟨c, h⟩ := h
    refine s_iadd dX10_rank_41 (am_w_id c) ?_
    exact s_ireturn dX10_rank_42 (Or.inl rfl) ⟨⟨rfl, rfl⟩, _, rfl, h⟩
theorem ve_X10_rank {x1 : Int} {μ : am_M} {Q : Int → am_M → Prop} (h : at_I kR 2 mX10_rank 0 [vR 0, vI x1, vU] [] μ Q) : cl_I kR 2 mX10_rank [vR 0, vI x1] μ Q := am_intro pmX10_rank (Nat.le_of_ble_eq_true rfl) rfl h
theorem sp_X10_rank {μ : am_M} {e : Int} {Q : Int → am_M → Prop} (hR : vR_ μ) (h0 : 0 ≤ e) (h1 : e < evN (pR μ)) (hQ : Q (rk2_ (pR μ) e) μ) : cl_I kR 2 mX10_rank [vR 0, vI e] μ Q := by
  obtain ⟨hr, hl, h13⟩ := vR_h hR
  have hV := hR.1
  have hn : in_ 0 25 (μ 1 25) := hV.hn
  have eN : evN (pR μ) = 2 * μ 1 25 + ((pH (pR μ)).length : Int) := rfl
  have hlen := hr.1
  unfold in_ at hn
  refine ve_X10_rank (vc_X10_rank_0 ⟨(by (try unfold am_in); (try unfold in_ at *); omega), fun c => ?_, fun c => ?_⟩)
  · have hd : 0 ≤ e / 2 ∧ e / 2 < μ 1 25 := by omega
    obtain ⟨b0, b1, b2, b3, b4, b5, b6, b7⟩ := hV.okT.2 (e / 2) hd.1 hd.2
    change in_ 0 4 (rg μ (e / 2) 0) at b0
    change in_ 0 601 (rg μ (e / 2) 1) at b1
    change in_ 0 601 (rg μ (e / 2) 4) at b4
    have hd2 : in_ 0 48 (e / 2) := by unfold in_; omega
    have key : ∀ v : Int, v = (if e % 2 = 0 then (100000 * ((rg μ (e / 2) 1) + (rg μ (e / 2) 4))) + (rg μ (e / 2) 0) else ((100000 * (rg μ (e / 2) 1)) + 20000) + (rg μ (e / 2) 0)) → v = rk2_ (pR μ) e := fun v hv => by
      rw [hv]
      unfold rk2_ ef_ ek_ et_
      rw [if_pos (show e < 2 * pN (pR μ) from c), if_pos (show e < 2 * pN (pR μ) from c), if_pos (show e < 2 * pN (pR μ) from c)]
      show _ = 100000 * (if e % 2 = 0 then rg μ (e / 2) 1 + rg μ (e / 2) 4 else rg μ (e / 2) 1) + 10000 * (if e % 2 = 0 then 0 else 2) + rg μ (e / 2) 0
      (repeat' split) <;> omega
    refine ⟨h0, h0, ⟨fun _ => ⟨hd2, (by (try unfold am_in); (try unfold in_ at *); omega), (by (try unfold am_in); (try unfold in_ at *); omega), (by (try unfold am_in); (try unfold in_ at *); omega), hd2, (by (try unfold am_in); (try unfold in_ at *); omega), (by (try unfold am_in); (try unfold in_ at *); omega)⟩, fun _ => ⟨hd2, (by (try unfold am_in); (try unfold in_ at *); omega), hd2, (by (try unfold am_in); (try unfold in_ at *); omega), (by (try unfold am_in); (try unfold in_ at *); omega), (by (try unfold am_in); (try unfold in_ at *); omega), hd2, (by (try unfold am_in); (try unfold in_ at *); omega), (by (try unfold am_in); (try unfold in_ at *); omega)⟩⟩, fun v hv => ?_⟩
    rw [key v hv]
    exact hQ
  · have hc : 0 ≤ e - 2 * μ 1 25 ∧ e - 2 * μ 1 25 < (pH (pR μ)).length := by omega
    have g := (hr_g hr hc.1 hc.2).1
    have o := ho_g (fun p hp => (hV.hh p hp).1) (e - 2 * μ 1 25)
    refine ⟨(by (try unfold am_in); (try unfold in_ at *); omega), (by (try unfold am_in); (try unfold in_ at *); omega), (by (try unfold am_in); (try unfold in_ at *); omega), (by (try unfold am_in); (try unfold in_ at *); omega), by omega, by omega, ?_⟩
    rw [g]
    refine ⟨(by (try unfold am_in); (try unfold in_ at *); omega), (by (try unfold am_in); (try unfold in_ at *); omega), ?_⟩
    have : 100000 * ((pH (pR μ)).getD (e - 2 * μ 1 25).toNat (0, 0)).1 + 10000 = rk2_ (pR μ) e := by
      unfold rk2_ ef_ ek_ et_
      rw [if_neg (show ¬ e < 2 * pN (pR μ) from by show ¬ e < 2 * μ 1 25; omega), if_neg (show ¬ e < 2 * pN (pR μ) from by show ¬ e < 2 * μ 1 25; omega), if_neg (show ¬ e < 2 * pN (pR μ) from by show ¬ e < 2 * μ 1 25; omega)]
      show _ = 100000 * ((pH (pR μ)).getD (e - 2 * μ 1 25).toNat (0, 0)).1 + 10000 * 1 + 0
      omega
    rw [this]
    exact hQ
theorem vc_X10_event_0 {x1 x2 : Int} {μ : am_M} {Q : Int → am_M → Prop} (h : (in_ 0 33 (μ 1 25)) ∧ (in_ 0 13 (μ 1 438)) ∧ ((am_in ((2 * μ 1 25 + μ 1 438) - 1)) ∧ ((0 ≤ x1 ∧ x1 ≤ ((2 * μ 1 25 + μ 1 438) - 1) → (0 ≤ x2 ∧ x2 ≤ 2 → at_I kR 3 mX10_event 36 [vR 0, vI x1, vI x2, vI 0, vI 0, vI 0, vU, vU] [] μ Q) ∧ (¬ (0 ≤ x2 ∧ x2 ≤ 2) → Q (-2) μ)) ∧ (¬ (0 ≤ x1 ∧ x1 ≤ ((2 * μ 1 25 + μ 1 438) - 1)) → Q (-1) μ)))) : at_I kR 3 mX10_event 0 [vR 0, vI x1, vI x2, vU, vU, vU, vU, vU] [] μ Q := by
  refine s_iload_n dX10_event_0 rfl rfl ?_
  refine s_iconst dX10_event_1 (by decide) ?_
  refine s_aload_n dX10_event_2 rfl rfl ?_
  obtain ⟨p0, p1, h⟩ := h
  refine s_callV (As := []) (rest := [vI 0, vI x1]) (k := 0) dX10_event_3 lkX10_237 rn0 ⟨by rw [rk0]; rfl, by rw [rk0]; decide⟩ lmX10_events rfl rfl (Nat.le_of_ble_eq_true rfl) (by decide) (Nat.le_refl 0) (Nat.le_refl 0) (hC := sp_X10_events (Q := fun z m => 2 * μ 1 25 + μ 1 438 = z ∧ μ = m) p0 p1 ⟨rfl, rfl⟩) (fun r n2 S2 m2 hP => ?_)
  obtain ⟨⟨rfl, rfl⟩, z, rfl, rfl, rfl⟩ := hP
  refine s_iconst dX10_event_6 (by decide) ?_
  obtain ⟨c, h⟩ := h
  refine s_isub dX10_event_7 (am_w_id c) ?_
  refine s_callS (As := [vI x1, vI 0, vI ((2 * μ 1 25 + μ 1 438) - 1)]) (rest := []) dX10_event_8 lkX10_103 lmX10_isIn rfl rfl (Nat.le_of_ble_eq_true rfl) (by decide) (Nat.le_refl 0) (Nat.le_refl 0) (hC := sp_X10_isIn (Q := fun z m => bI (0 ≤ x1 ∧ x1 ≤ ((2 * μ 1 25 + μ 1 438) - 1)) = z ∧ μ = m)  ⟨rfl, rfl⟩) (fun r n2 S2 m2 hP => ?_)
  obtain ⟨⟨rfl, rfl⟩, z, rfl, rfl, rfl⟩ := hP
  refine s_if_ne dX10_event_11 (tgt := 16) (by decide) (fun cc => ?_) (fun cc => ?_)
  · have h := h.1 (bI_ne cc)
    refine s_iload_n dX10_event_16 rfl rfl ?_
    refine s_iconst dX10_event_17 (by decide) ?_
    refine s_iconst dX10_event_18 (by decide) ?_
    refine s_callS (As := [vI x2, vI 0, vI 2]) (rest := []) dX10_event_19 lkX10_103 lmX10_isIn rfl rfl (Nat.le_of_ble_eq_true rfl) (by decide) (Nat.le_refl 0) (Nat.le_refl 0) (hC := sp_X10_isIn (Q := fun z m => bI (0 ≤ x2 ∧ x2 ≤ 2) = z ∧ μ = m)  ⟨rfl, rfl⟩) (fun r n2 S2 m2 hP => ?_)
    obtain ⟨⟨rfl, rfl⟩, z, rfl, rfl, rfl⟩ := hP
    refine s_if_ne dX10_event_22 (tgt := 28) (by decide) (fun cc => ?_) (fun cc => ?_)
    · have h := h.1 (bI_ne cc)
      refine s_iconst dX10_event_28 (by decide) ?_
      refine s_istore_n dX10_event_29 rfl (by decide) (L' := [vR 0, vI x1, vI x2, vI 0, vU, vU, vU, vU]) rfl ?_
      refine s_iconst dX10_event_30 (by decide) ?_
      refine s_istore dX10_event_31 (by decide) (L' := [vR 0, vI x1, vI x2, vI 0, vI 0, vU, vU, vU]) rfl ?_
      refine s_iconst dX10_event_33 (by decide) ?_
      refine s_istore dX10_event_34 (by decide) (L' := [vR 0, vI x1, vI x2, vI 0, vI 0, vI 0, vU, vU]) rfl ?_
      exact h
    · have h := h.2 (bI_eq cc)
      refine s_bipush dX10_event_25 (by decide) ?_
      exact s_ireturn dX10_event_27 (Or.inl rfl) ⟨⟨rfl, rfl⟩, _, rfl, h⟩
  · have h := h.2 (bI_eq cc)
    refine s_iconst dX10_event_14 (by decide) ?_
    exact s_ireturn dX10_event_15 (Or.inl rfl) ⟨⟨rfl, rfl⟩, _, rfl, h⟩
theorem vc_X10_event_36 {x1 x2 x3 x4 x5 : Int} {μ : am_M} {Q : Int → am_M → Prop} (h : (in_ 0 33 (μ 1 25)) ∧ (in_ 0 13 (μ 1 438)) ∧ ((2 * μ 1 25 + μ 1 438 ≤ x5 → (vR_ μ) ∧ (0 ≤ x3) ∧ (x3 < evN (pR μ)) ∧ ((x2 ≠ 2 → ((x2 ≠ 0 → (x2 ≠ 1 → (0 ≤ rk2_ (pR μ) x3)) ∧ (x2 = 1 → (0 ≤ rk2_ (pR μ) x3) ∧ ((0 ≤ (rk2_ (pR μ) x3) / 10000)))) ∧ (x2 = 0 → (0 ≤ rk2_ (pR μ) x3))) ∧ (∀ v1 : Int, v1 = (if x2 = 0 then (rk2_ (pR μ) x3) / 100000 else (if x2 = 1 then ((rk2_ (pR μ) x3) / 10000) % 10 else (rk2_ (pR μ) x3) % 10000)) → Q v1 μ)) ∧ (x2 = 2 → (am_in (2 * (μ 1 25))) ∧ ((x3 < 2 * (μ 1 25) → ((x2 ≠ 0 → (x2 ≠ 1 → (0 ≤ rk2_ (pR μ) x3)) ∧ (x2 = 1 → (0 ≤ rk2_ (pR μ) x3) ∧ ((0 ≤ (rk2_ (pR μ) x3) / 10000)))) ∧ (x2 = 0 → (0 ≤ rk2_ (pR μ) x3))) ∧ (∀ v3 : Int, v3 = (if x2 = 0 then (rk2_ (pR μ) x3) / 100000 else (if x2 = 1 then ((rk2_ (pR μ) x3) / 10000) % 10 else (rk2_ (pR μ) x3) % 10000)) → Q v3 μ)) ∧ (2 * (μ 1 25) ≤ x3 → (am_in (2 * (μ 1 25))) ∧ ((am_in (x3 - (2 * (μ 1 25)))) ∧ ((am_in (2 * (x3 - (2 * (μ 1 25))))) ∧ ((am_in (439 + (2 * (x3 - (2 * (μ 1 25)))))) ∧ ((am_in ((439 + (2 * (x3 - (2 * (μ 1 25))))) + 1)) ∧ ((0 ≤ (439 + (2 * (x3 - (2 * (μ 1 25))))) + 1) ∧ ((439 + (2 * (x3 - (2 * (μ 1 25))))) + 1 < 470) ∧ (Q (μ 1 (((439 + (2 * (x3 - (2 * (μ 1 25))))) + 1).toNat)) μ))))))))))) ∧ (x5 < 2 * μ 1 25 + μ 1 438 → (x4 ≠ 0 → (vR_ μ) ∧ (0 ≤ x3) ∧ (x3 < evN (pR μ)) ∧ ((x2 ≠ 2 → ((x2 ≠ 0 → (x2 ≠ 1 → (0 ≤ rk2_ (pR μ) x3)) ∧ (x2 = 1 → (0 ≤ rk2_ (pR μ) x3) ∧ ((0 ≤ (rk2_ (pR μ) x3) / 10000)))) ∧ (x2 = 0 → (0 ≤ rk2_ (pR μ) x3))) ∧ (∀ v5 : Int, v5 = (if x2 = 0 then (rk2_ (pR μ) x3) / 100000 else (if x2 = 1 then ((rk2_ (pR μ) x3) / 10000) % 10 else (rk2_ (pR μ) x3) % 10000)) → Q v5 μ)) ∧ (x2 = 2 → (am_in (2 * (μ 1 25))) ∧ ((x3 < 2 * (μ 1 25) → ((x2 ≠ 0 → (x2 ≠ 1 → (0 ≤ rk2_ (pR μ) x3)) ∧ (x2 = 1 → (0 ≤ rk2_ (pR μ) x3) ∧ ((0 ≤ (rk2_ (pR μ) x3) / 10000)))) ∧ (x2 = 0 → (0 ≤ rk2_ (pR μ) x3))) ∧ (∀ v7 : Int, v7 = (if x2 = 0 then (rk2_ (pR μ) x3) / 100000 else (if x2 = 1 then ((rk2_ (pR μ) x3) / 10000) % 10 else (rk2_ (pR μ) x3) % 10000)) → Q v7 μ)) ∧ (2 * (μ 1 25) ≤ x3 → (am_in (2 * (μ 1 25))) ∧ ((am_in (x3 - (2 * (μ 1 25)))) ∧ ((am_in (2 * (x3 - (2 * (μ 1 25))))) ∧ ((am_in (439 + (2 * (x3 - (2 * (μ 1 25)))))) ∧ ((am_in ((439 + (2 * (x3 - (2 * (μ 1 25))))) + 1)) ∧ ((0 ≤ (439 + (2 * (x3 - (2 * (μ 1 25))))) + 1) ∧ ((439 + (2 * (x3 - (2 * (μ 1 25))))) + 1 < 470) ∧ (Q (μ 1 (((439 + (2 * (x3 - (2 * (μ 1 25))))) + 1).toNat)) μ))))))))))) ∧ (x4 = 0 → at_I kR 3 mX10_event 56 [vR 0, vI x1, vI x2, vU, vU, vI x5, vI 0, vI 0] [] μ Q)))) : at_I kR 3 mX10_event 36 [vR 0, vI x1, vI x2, vI x3, vI x4, vI x5, vU, vU] [] μ Q := by
  refine s_iload dX10_event_36 rfl ?_
  refine s_aload_n dX10_event_38 rfl rfl ?_
  obtain ⟨p0, p1, h⟩ := h
  refine s_callV (As := []) (rest := [vI x5]) (k := 0) dX10_event_39 lkX10_237 rn0 ⟨by rw [rk0]; rfl, by rw [rk0]; decide⟩ lmX10_events rfl rfl (Nat.le_of_ble_eq_true rfl) (by decide) (Nat.le_refl 0) (Nat.le_refl 0) (hC := sp_X10_events (Q := fun z m => 2 * μ 1 25 + μ 1 438 = z ∧ μ = m) p0 p1 ⟨rfl, rfl⟩) (fun r n2 S2 m2 hP => ?_)
  obtain ⟨⟨rfl, rfl⟩, z, rfl, rfl, rfl⟩ := hP
  refine s_icmp_ge dX10_event_42 (tgt := 118) (by decide) (fun cc => ?_) (fun cc => ?_)
  · have h := h.1 cc
    refine s_aload_n dX10_event_118 rfl rfl ?_
    refine s_iload_n dX10_event_119 rfl rfl ?_
    obtain ⟨p0, p1, p2, h⟩ := h
    refine s_callV (As := [vI x3]) (rest := []) (k := 0) dX10_event_120 lkX10_240 rn0 ⟨by rw [rk0]; rfl, by rw [rk0]; decide⟩ lmX10_rank rfl rfl (Nat.le_of_ble_eq_true rfl) (by decide) (Nat.le_refl 0) (Nat.le_refl 0) (hC := sp_X10_rank (Q := fun z m => rk2_ (pR μ) x3 = z ∧ μ = m) p0 p1 p2 ⟨rfl, rfl⟩) (fun r n2 S2 m2 hP => ?_)
    obtain ⟨⟨rfl, rfl⟩, z, rfl, rfl, rfl⟩ := hP
    refine s_istore dX10_event_123 (by decide) (L' := [vR 0, vI x1, vI x2, vI x3, vI x4, vI (rk2_ (pR μ) x3), vU, vU]) rfl ?_
    refine s_iload_n dX10_event_125 rfl rfl ?_
    refine s_iconst dX10_event_126 (by decide) ?_
    refine s_icmp_ne dX10_event_127 (tgt := 168) (by decide) (fun cc => ?_) (fun cc => ?_)
    · have h := h.1 cc
      refine s_iload_n dX10_event_168 rfl rfl ?_
      obtain ⟨hsd, h⟩ := h
      have kj2 : ∀ (v1 : Int), (Q v1 μ) → at_I kR 3 mX10_event 203 [vU, vU, vU, vU, vU, vU, vU, vU] [vI v1] μ Q := by
        intro v1 h
        exact s_ireturn dX10_event_203 (Or.inl rfl) ⟨⟨rfl, rfl⟩, _, rfl, h⟩
      refine s_if_ne dX10_event_169 (tgt := 180) (by decide) (fun cc => ?_) (fun cc => ?_)
      · have hp0 := cc
        have hsd := hsd.1 hp0
        refine s_iload_n dX10_event_180 rfl rfl ?_
        refine s_iconst dX10_event_181 (by decide) ?_
        refine s_icmp_ne dX10_event_182 (tgt := 197) (by decide) (fun cc => ?_) (fun cc => ?_)
        · have hp1 := cc
          have hsd := hsd.1 hp1
          refine s_iload dX10_event_197 rfl ?_
          refine s_sipush dX10_event_199 (by decide) ?_
          have c := hsd
          refine s_iremp dX10_event_202 c (by decide) rfl ?_
          exact am_lesS (kj2 ((rk2_ (pR μ) x3) % 10000) (h ((rk2_ (pR μ) x3) % 10000) (by rw [if_neg hp0, if_neg hp1]))) ⟨Or.inl rfl, Or.inl rfl, Or.inl rfl, Or.inl rfl, Or.inl rfl, Or.inl rfl, Or.inl rfl, Or.inl rfl, trivial⟩
        · have hp1 := cc
          have hsd := hsd.2 hp1
          refine s_iload dX10_event_185 rfl ?_
          refine s_sipush dX10_event_187 (by decide) ?_
          obtain ⟨c, hsd⟩ := hsd
          refine s_idivp dX10_event_190 c (by decide) rfl ?_
          refine s_bipush dX10_event_191 (by decide) ?_
          have c := hsd
          refine s_iremp dX10_event_193 c (by decide) rfl ?_
          refine s_goto dX10_event_194 (tgt := 203) (by decide) ?_
          exact am_lesS (kj2 (((rk2_ (pR μ) x3) / 10000) % 10) (h (((rk2_ (pR μ) x3) / 10000) % 10) (by rw [if_neg hp0, if_pos hp1]))) ⟨Or.inl rfl, Or.inl rfl, Or.inl rfl, Or.inl rfl, Or.inl rfl, Or.inl rfl, Or.inl rfl, Or.inl rfl, trivial⟩
      · have hp0 := cc
        have hsd := hsd.2 hp0
        refine s_iload dX10_event_172 rfl ?_
        refine s_ldc (z := 100000) dX10_event_174 wcX10_236 (by unfold am_in; decide) ?_
        have c := hsd
        refine s_idivp dX10_event_176 c (by decide) rfl ?_
        refine s_goto dX10_event_177 (tgt := 203) (by decide) ?_
        exact am_lesS (kj2 ((rk2_ (pR μ) x3) / 100000) (h ((rk2_ (pR μ) x3) / 100000) (by rw [if_pos hp0]))) ⟨Or.inl rfl, Or.inl rfl, Or.inl rfl, Or.inl rfl, Or.inl rfl, Or.inl rfl, Or.inl rfl, Or.inl rfl, trivial⟩
    · have h := h.2 cc
      refine s_iload_n dX10_event_130 rfl rfl ?_
      refine s_iconst dX10_event_131 (by decide) ?_
      refine s_aload_n dX10_event_132 rfl rfl ?_
      refine s_getR dX10_event_133 flX10_9 rn0 rk0 rfl rr0_0 ?_
      refine s_bipush dX10_event_136 (by decide) ?_
      refine s_iald (x := (μ 1 25)) dX10_event_138 rn1 rk1 rl1 (by decide) (by decide) rfl ?_
      obtain ⟨c, h⟩ := h
      refine s_imul dX10_event_139 (am_w_id c) ?_
      refine s_icmp_lt dX10_event_140 (tgt := 168) (by decide) (fun cc => ?_) (fun cc => ?_)
      · have h := h.1 cc
        refine s_iload_n dX10_event_168 rfl rfl ?_
        obtain ⟨hsd, h⟩ := h
        have kj4 : ∀ (v3 : Int), (Q v3 μ) → at_I kR 3 mX10_event 203 [vU, vU, vU, vU, vU, vU, vU, vU] [vI v3] μ Q := by
          intro v3 h
          exact s_ireturn dX10_event_203 (Or.inl rfl) ⟨⟨rfl, rfl⟩, _, rfl, h⟩
        refine s_if_ne dX10_event_169 (tgt := 180) (by decide) (fun cc => ?_) (fun cc => ?_)
        · have hp0 := cc
          have hsd := hsd.1 hp0
          refine s_iload_n dX10_event_180 rfl rfl ?_
          refine s_iconst dX10_event_181 (by decide) ?_
          refine s_icmp_ne dX10_event_182 (tgt := 197) (by decide) (fun cc => ?_) (fun cc => ?_)
          · have hp1 := cc
            have hsd := hsd.1 hp1
            refine s_iload dX10_event_197 rfl ?_
            refine s_sipush dX10_event_199 (by decide) ?_
            have c := hsd
            refine s_iremp dX10_event_202 c (by decide) rfl ?_
            exact am_lesS (kj4 ((rk2_ (pR μ) x3) % 10000) (h ((rk2_ (pR μ) x3) % 10000) (by rw [if_neg hp0, if_neg hp1]))) ⟨Or.inl rfl, Or.inl rfl, Or.inl rfl, Or.inl rfl, Or.inl rfl, Or.inl rfl, Or.inl rfl, Or.inl rfl, trivial⟩
          · have hp1 := cc
            have hsd := hsd.2 hp1
            refine s_iload dX10_event_185 rfl ?_
            refine s_sipush dX10_event_187 (by decide) ?_
            obtain ⟨c, hsd⟩ := hsd
            refine s_idivp dX10_event_190 c (by decide) rfl ?_
            refine s_bipush dX10_event_191 (by decide) ?_
            have c := hsd
            refine s_iremp dX10_event_193 c (by decide) rfl ?_
            refine s_goto dX10_event_194 (tgt := 203) (by decide) ?_
            exact am_lesS (kj4 (((rk2_ (pR μ) x3) / 10000) % 10) (h (((rk2_ (pR μ) x3) / 10000) % 10) (by rw [if_neg hp0, if_pos hp1]))) ⟨Or.inl rfl, Or.inl rfl, Or.inl rfl, Or.inl rfl, Or.inl rfl, Or.inl rfl, Or.inl rfl, Or.inl rfl, trivial⟩
        · have hp0 := cc
          have hsd := hsd.2 hp0
          refine s_iload dX10_event_172 rfl ?_
          refine s_ldc (z := 100000) dX10_event_174 wcX10_236 (by unfold am_in; decide) ?_
          have c := hsd
          refine s_idivp dX10_event_176 c (by decide) rfl ?_
          refine s_goto dX10_event_177 (tgt := 203) (by decide) ?_
          exact am_lesS (kj4 ((rk2_ (pR μ) x3) / 100000) (h ((rk2_ (pR μ) x3) / 100000) (by rw [if_pos hp0]))) ⟨Or.inl rfl, Or.inl rfl, Or.inl rfl, Or.inl rfl, Or.inl rfl, Or.inl rfl, Or.inl rfl, Or.inl rfl, trivial⟩
      · have h := h.2 cc
        refine s_aload_n dX10_event_143 rfl rfl ?_
        refine s_getR dX10_event_144 flX10_9 rn0 rk0 rfl rr0_0 ?_
        refine s_sipush dX10_event_147 (by decide) ?_
        refine s_iconst dX10_event_150 (by decide) ?_
        refine s_iload_n dX10_event_151 rfl rfl ?_
        refine s_iconst dX10_event_152 (by decide) ?_
        refine s_aload_n dX10_event_153 rfl rfl ?_
        refine s_getR dX10_event_154 flX10_9 rn0 rk0 rfl rr0_0 ?_
        refine s_bipush dX10_event_157 (by decide) ?_
        refine s_iald (x := (μ 1 25)) dX10_event_159 rn1 rk1 rl1 (by decide) (by decide) rfl ?_
        obtain ⟨c, h⟩ := h
        refine s_imul dX10_event_160 (am_w_id c) ?_
        obtain ⟨c, h⟩ := h
        refine s_isub dX10_event_161 (am_w_id c) ?_
        obtain ⟨c, h⟩ := h
        refine s_imul dX10_event_162 (am_w_id c) ?_
        obtain ⟨c, h⟩ := h
        refine s_iadd dX10_event_163 (am_w_id c) ?_
        refine s_iconst dX10_event_164 (by decide) ?_
        obtain ⟨c, h⟩ := h
        refine s_iadd dX10_event_165 (am_w_id c) ?_
        obtain ⟨c, c2, h⟩ := h
        refine s_iald (x := (μ 1 (((439 + (2 * (x3 - (2 * (μ 1 25))))) + 1).toNat))) dX10_event_166 rn1 rk1 rl1 c c2 rfl ?_
        exact s_ireturn dX10_event_167 (Or.inl rfl) ⟨⟨rfl, rfl⟩, _, rfl, h⟩
  · have h := h.2 cc
    refine s_iload dX10_event_45 rfl ?_
    refine s_if_ne dX10_event_47 (tgt := 118) (by decide) (fun cc => ?_) (fun cc => ?_)
    · have h := h.1 cc
      refine s_aload_n dX10_event_118 rfl rfl ?_
      refine s_iload_n dX10_event_119 rfl rfl ?_
      obtain ⟨p0, p1, p2, h⟩ := h
      refine s_callV (As := [vI x3]) (rest := []) (k := 0) dX10_event_120 lkX10_240 rn0 ⟨by rw [rk0]; rfl, by rw [rk0]; decide⟩ lmX10_rank rfl rfl (Nat.le_of_ble_eq_true rfl) (by decide) (Nat.le_refl 0) (Nat.le_refl 0) (hC := sp_X10_rank (Q := fun z m => rk2_ (pR μ) x3 = z ∧ μ = m) p0 p1 p2 ⟨rfl, rfl⟩) (fun r n2 S2 m2 hP => ?_)
      obtain ⟨⟨rfl, rfl⟩, z, rfl, rfl, rfl⟩ := hP
      refine s_istore dX10_event_123 (by decide) (L' := [vR 0, vI x1, vI x2, vI x3, vI x4, vI (rk2_ (pR μ) x3), vU, vU]) rfl ?_
      refine s_iload_n dX10_event_125 rfl rfl ?_
      refine s_iconst dX10_event_126 (by decide) ?_
      refine s_icmp_ne dX10_event_127 (tgt := 168) (by decide) (fun cc => ?_) (fun cc => ?_)
      · have h := h.1 cc
        refine s_iload_n dX10_event_168 rfl rfl ?_
        obtain ⟨hsd, h⟩ := h
        have kj6 : ∀ (v5 : Int), (Q v5 μ) → at_I kR 3 mX10_event 203 [vU, vU, vU, vU, vU, vU, vU, vU] [vI v5] μ Q := by
          intro v5 h
          exact s_ireturn dX10_event_203 (Or.inl rfl) ⟨⟨rfl, rfl⟩, _, rfl, h⟩
        refine s_if_ne dX10_event_169 (tgt := 180) (by decide) (fun cc => ?_) (fun cc => ?_)
        · have hp0 := cc
          have hsd := hsd.1 hp0
          refine s_iload_n dX10_event_180 rfl rfl ?_
          refine s_iconst dX10_event_181 (by decide) ?_
          refine s_icmp_ne dX10_event_182 (tgt := 197) (by decide) (fun cc => ?_) (fun cc => ?_)
          · have hp1 := cc
            have hsd := hsd.1 hp1
            refine s_iload dX10_event_197 rfl ?_
            refine s_sipush dX10_event_199 (by decide) ?_
            have c := hsd
            refine s_iremp dX10_event_202 c (by decide) rfl ?_
            exact am_lesS (kj6 ((rk2_ (pR μ) x3) % 10000) (h ((rk2_ (pR μ) x3) % 10000) (by rw [if_neg hp0, if_neg hp1]))) ⟨Or.inl rfl, Or.inl rfl, Or.inl rfl, Or.inl rfl, Or.inl rfl, Or.inl rfl, Or.inl rfl, Or.inl rfl, trivial⟩
          · have hp1 := cc
            have hsd := hsd.2 hp1
            refine s_iload dX10_event_185 rfl ?_
            refine s_sipush dX10_event_187 (by decide) ?_
            obtain ⟨c, hsd⟩ := hsd
            refine s_idivp dX10_event_190 c (by decide) rfl ?_
            refine s_bipush dX10_event_191 (by decide) ?_
            have c := hsd
            refine s_iremp dX10_event_193 c (by decide) rfl ?_
            refine s_goto dX10_event_194 (tgt := 203) (by decide) ?_
            exact am_lesS (kj6 (((rk2_ (pR μ) x3) / 10000) % 10) (h (((rk2_ (pR μ) x3) / 10000) % 10) (by rw [if_neg hp0, if_pos hp1]))) ⟨Or.inl rfl, Or.inl rfl, Or.inl rfl, Or.inl rfl, Or.inl rfl, Or.inl rfl, Or.inl rfl, Or.inl rfl, trivial⟩
        · have hp0 := cc
          have hsd := hsd.2 hp0
          refine s_iload dX10_event_172 rfl ?_
          refine s_ldc (z := 100000) dX10_event_174 wcX10_236 (by unfold am_in; decide) ?_
          have c := hsd
          refine s_idivp dX10_event_176 c (by decide) rfl ?_
          refine s_goto dX10_event_177 (tgt := 203) (by decide) ?_
          exact am_lesS (kj6 ((rk2_ (pR μ) x3) / 100000) (h ((rk2_ (pR μ) x3) / 100000) (by rw [if_pos hp0]))) ⟨Or.inl rfl, Or.inl rfl, Or.inl rfl, Or.inl rfl, Or.inl rfl, Or.inl rfl, Or.inl rfl, Or.inl rfl, trivial⟩
      · have h := h.2 cc
        refine s_iload_n dX10_event_130 rfl rfl ?_
        refine s_iconst dX10_event_131 (by decide) ?_
        refine s_aload_n dX10_event_132 rfl rfl ?_
        refine s_getR dX10_event_133 flX10_9 rn0 rk0 rfl rr0_0 ?_
        refine s_bipush dX10_event_136 (by decide) ?_
        refine s_iald (x := (μ 1 25)) dX10_event_138 rn1 rk1 rl1 (by decide) (by decide) rfl ?_
        obtain ⟨c, h⟩ := h
        refine s_imul dX10_event_139 (am_w_id c) ?_
        refine s_icmp_lt dX10_event_140 (tgt := 168) (by decide) (fun cc => ?_) (fun cc => ?_)
        · have h := h.1 cc
          refine s_iload_n dX10_event_168 rfl rfl ?_
          obtain ⟨hsd, h⟩ := h
          have kj8 : ∀ (v7 : Int), (Q v7 μ) → at_I kR 3 mX10_event 203 [vU, vU, vU, vU, vU, vU, vU, vU] [vI v7] μ Q := by
            intro v7 h
            exact s_ireturn dX10_event_203 (Or.inl rfl) ⟨⟨rfl, rfl⟩, _, rfl, h⟩
          refine s_if_ne dX10_event_169 (tgt := 180) (by decide) (fun cc => ?_) (fun cc => ?_)
          · have hp0 := cc
            have hsd := hsd.1 hp0
            refine s_iload_n dX10_event_180 rfl rfl ?_
            refine s_iconst dX10_event_181 (by decide) ?_
            refine s_icmp_ne dX10_event_182 (tgt := 197) (by decide) (fun cc => ?_) (fun cc => ?_)
            · have hp1 := cc
              have hsd := hsd.1 hp1
              refine s_iload dX10_event_197 rfl ?_
              refine s_sipush dX10_event_199 (by decide) ?_
              have c := hsd
              refine s_iremp dX10_event_202 c (by decide) rfl ?_
              exact am_lesS (kj8 ((rk2_ (pR μ) x3) % 10000) (h ((rk2_ (pR μ) x3) % 10000) (by rw [if_neg hp0, if_neg hp1]))) ⟨Or.inl rfl, Or.inl rfl, Or.inl rfl, Or.inl rfl, Or.inl rfl, Or.inl rfl, Or.inl rfl, Or.inl rfl, trivial⟩
            · have hp1 := cc
              have hsd := hsd.2 hp1
              refine s_iload dX10_event_185 rfl ?_
              refine s_sipush dX10_event_187 (by decide) ?_
              obtain ⟨c, hsd⟩ := hsd
              refine s_idivp dX10_event_190 c (by decide) rfl ?_
              refine s_bipush dX10_event_191 (by decide) ?_
              have c := hsd
              refine s_iremp dX10_event_193 c (by decide) rfl ?_
              refine s_goto dX10_event_194 (tgt := 203) (by decide) ?_
              exact am_lesS (kj8 (((rk2_ (pR μ) x3) / 10000) % 10) (h (((rk2_ (pR μ) x3) / 10000) % 10) (by rw [if_neg hp0, if_pos hp1]))) ⟨Or.inl rfl, Or.inl rfl, Or.inl rfl, Or.inl rfl, Or.inl rfl, Or.inl rfl, Or.inl rfl, Or.inl rfl, trivial⟩
          · have hp0 := cc
            have hsd := hsd.2 hp0
            refine s_iload dX10_event_172 rfl ?_
            refine s_ldc (z := 100000) dX10_event_174 wcX10_236 (by unfold am_in; decide) ?_
            have c := hsd
            refine s_idivp dX10_event_176 c (by decide) rfl ?_
            refine s_goto dX10_event_177 (tgt := 203) (by decide) ?_
            exact am_lesS (kj8 ((rk2_ (pR μ) x3) / 100000) (h ((rk2_ (pR μ) x3) / 100000) (by rw [if_pos hp0]))) ⟨Or.inl rfl, Or.inl rfl, Or.inl rfl, Or.inl rfl, Or.inl rfl, Or.inl rfl, Or.inl rfl, Or.inl rfl, trivial⟩
        · have h := h.2 cc
          refine s_aload_n dX10_event_143 rfl rfl ?_
          refine s_getR dX10_event_144 flX10_9 rn0 rk0 rfl rr0_0 ?_
          refine s_sipush dX10_event_147 (by decide) ?_
          refine s_iconst dX10_event_150 (by decide) ?_
          refine s_iload_n dX10_event_151 rfl rfl ?_
          refine s_iconst dX10_event_152 (by decide) ?_
          refine s_aload_n dX10_event_153 rfl rfl ?_
          refine s_getR dX10_event_154 flX10_9 rn0 rk0 rfl rr0_0 ?_
          refine s_bipush dX10_event_157 (by decide) ?_
          refine s_iald (x := (μ 1 25)) dX10_event_159 rn1 rk1 rl1 (by decide) (by decide) rfl ?_
          obtain ⟨c, h⟩ := h
          refine s_imul dX10_event_160 (am_w_id c) ?_
          obtain ⟨c, h⟩ := h
          refine s_isub dX10_event_161 (am_w_id c) ?_
          obtain ⟨c, h⟩ := h
          refine s_imul dX10_event_162 (am_w_id c) ?_
          obtain ⟨c, h⟩ := h
          refine s_iadd dX10_event_163 (am_w_id c) ?_
          refine s_iconst dX10_event_164 (by decide) ?_
          obtain ⟨c, h⟩ := h
          refine s_iadd dX10_event_165 (am_w_id c) ?_
          obtain ⟨c, c2, h⟩ := h
          refine s_iald (x := (μ 1 (((439 + (2 * (x3 - (2 * (μ 1 25))))) + 1).toNat))) dX10_event_166 rn1 rk1 rl1 c c2 rfl ?_
          exact s_ireturn dX10_event_167 (Or.inl rfl) ⟨⟨rfl, rfl⟩, _, rfl, h⟩
    · have h := h.2 cc
      refine s_iconst dX10_event_50 (by decide) ?_
      refine s_istore dX10_event_51 (by decide) (L' := [vR 0, vI x1, vI x2, vI x3, vI x4, vI x5, vI 0, vU]) rfl ?_
      refine s_iconst dX10_event_53 (by decide) ?_
      refine s_istore dX10_event_54 (by decide) (L' := [vR 0, vI x1, vI x2, vI x3, vI x4, vI x5, vI 0, vI 0]) rfl ?_
      exact am_lesS h ⟨Or.inr rfl, Or.inr rfl, Or.inr rfl, Or.inl rfl, Or.inl rfl, Or.inr rfl, Or.inr rfl, Or.inr rfl, trivial⟩
theorem vc_X10_event_56 {x1 x2 x5 x6 x7 : Int} {μ : am_M} {Q : Int → am_M → Prop} (h : (in_ 0 33 (μ 1 25)) ∧ (in_ 0 13 (μ 1 438)) ∧ ((2 * μ 1 25 + μ 1 438 ≤ x7 → ∀ v1 : Int, v1 = (if x6 = x1 then 1 else 0) → (am_in (x5 + 1)) ∧ (at_I kR 3 mX10_event 36 [vR 0, vI x1, vI x2, vI x5, vI v1, vI (x5 + 1), vU, vU] [] μ Q)) ∧ (x7 < 2 * μ 1 25 + μ 1 438 → (vR_ μ) ∧ (0 ≤ x7) ∧ (x7 < evN (pR μ)) ∧ ((vR_ μ) ∧ (0 ≤ x5) ∧ (x5 < evN (pR μ)) ∧ (∀ v3 : Int, v3 = (if rk2_ (pR μ) x7 < rk2_ (pR μ) x5 then 1 else 0) → (am_in (x6 + v3)) ∧ ((am_in (x7 + 1)) ∧ (at_I kR 3 mX10_event 56 [vR 0, vI x1, vI x2, vU, vU, vI x5, vI (x6 + v3), vI (x7 + 1)] [] μ Q))))))) : at_I kR 3 mX10_event 56 [vR 0, vI x1, vI x2, vU, vU, vI x5, vI x6, vI x7] [] μ Q := by
  refine s_iload dX10_event_56 rfl ?_
  refine s_aload_n dX10_event_58 rfl rfl ?_
  obtain ⟨p0, p1, h⟩ := h
  refine s_callV (As := []) (rest := [vI x7]) (k := 0) dX10_event_59 lkX10_237 rn0 ⟨by rw [rk0]; rfl, by rw [rk0]; decide⟩ lmX10_events rfl rfl (Nat.le_of_ble_eq_true rfl) (by decide) (Nat.le_refl 0) (Nat.le_refl 0) (hC := sp_X10_events (Q := fun z m => 2 * μ 1 25 + μ 1 438 = z ∧ μ = m) p0 p1 ⟨rfl, rfl⟩) (fun r n2 S2 m2 hP => ?_)
  obtain ⟨⟨rfl, rfl⟩, z, rfl, rfl, rfl⟩ := hP
  refine s_icmp_ge dX10_event_62 (tgt := 96) (by decide) (fun cc => ?_) (fun cc => ?_)
  · have h := h.1 cc
    refine s_iload dX10_event_96 rfl ?_
    refine s_iload_n dX10_event_98 rfl rfl ?_
    have kj2 : ∀ (v1 : Int), ((am_in (x5 + 1)) ∧ (at_I kR 3 mX10_event 36 [vR 0, vI x1, vI x2, vI x5, vI v1, vI (x5 + 1), vU, vU] [] μ Q)) → at_I kR 3 mX10_event 107 [vR 0, vI x1, vI x2, vU, vU, vI x5, vU, vU] [vI v1] μ Q := by
      intro v1 h
      refine s_istore dX10_event_107 (by decide) (L' := [vR 0, vI x1, vI x2, vU, vI v1, vI x5, vU, vU]) rfl ?_
      refine s_iload dX10_event_109 rfl ?_
      refine s_istore_n dX10_event_111 rfl (by decide) (L' := [vR 0, vI x1, vI x2, vI x5, vI v1, vI x5, vU, vU]) rfl ?_
      obtain ⟨c, h⟩ := h
      refine s_iinc dX10_event_112 rfl (am_w_id c) (by decide) (L' := [vR 0, vI x1, vI x2, vI x5, vI v1, vI (x5 + 1), vU, vU]) rfl ?_
      refine s_goto dX10_event_115 (tgt := 36) (by decide) ?_
      exact h
    refine s_icmp_ne dX10_event_99 (tgt := 106) (by decide) (fun cc => ?_) (fun cc => ?_)
    · have hp0 := cc
      refine s_iconst dX10_event_106 (by decide) ?_
      exact am_lesS (kj2 0 (h 0 (by rw [if_neg hp0]))) ⟨Or.inr rfl, Or.inr rfl, Or.inr rfl, Or.inl rfl, Or.inl rfl, Or.inr rfl, Or.inl rfl, Or.inl rfl, trivial⟩
    · have hp0 := cc
      refine s_iconst dX10_event_102 (by decide) ?_
      refine s_goto dX10_event_103 (tgt := 107) (by decide) ?_
      exact am_lesS (kj2 1 (h 1 (by rw [if_pos hp0]))) ⟨Or.inr rfl, Or.inr rfl, Or.inr rfl, Or.inl rfl, Or.inl rfl, Or.inr rfl, Or.inl rfl, Or.inl rfl, trivial⟩
  · have h := h.2 cc
    refine s_iload dX10_event_65 rfl ?_
    refine s_aload_n dX10_event_67 rfl rfl ?_
    refine s_iload dX10_event_68 rfl ?_
    obtain ⟨p0, p1, p2, h⟩ := h
    refine s_callV (As := [vI x7]) (rest := [vI x6]) (k := 0) dX10_event_70 lkX10_240 rn0 ⟨by rw [rk0]; rfl, by rw [rk0]; decide⟩ lmX10_rank rfl rfl (Nat.le_of_ble_eq_true rfl) (by decide) (Nat.le_refl 0) (Nat.le_refl 0) (hC := sp_X10_rank (Q := fun z m => rk2_ (pR μ) x7 = z ∧ μ = m) p0 p1 p2 ⟨rfl, rfl⟩) (fun r n2 S2 m2 hP => ?_)
    obtain ⟨⟨rfl, rfl⟩, z, rfl, rfl, rfl⟩ := hP
    refine s_aload_n dX10_event_73 rfl rfl ?_
    refine s_iload dX10_event_74 rfl ?_
    obtain ⟨p0, p1, p2, h⟩ := h
    refine s_callV (As := [vI x5]) (rest := [vI (rk2_ (pR μ) x7), vI x6]) (k := 0) dX10_event_76 lkX10_240 rn0 ⟨by rw [rk0]; rfl, by rw [rk0]; decide⟩ lmX10_rank rfl rfl (Nat.le_of_ble_eq_true rfl) (by decide) (Nat.le_refl 0) (Nat.le_refl 0) (hC := sp_X10_rank (Q := fun z m => rk2_ (pR μ) x5 = z ∧ μ = m) p0 p1 p2 ⟨rfl, rfl⟩) (fun r n2 S2 m2 hP => ?_)
    obtain ⟨⟨rfl, rfl⟩, z, rfl, rfl, rfl⟩ := hP
    have kj4 : ∀ (v3 : Int), ((am_in (x6 + v3)) ∧ ((am_in (x7 + 1)) ∧ (at_I kR 3 mX10_event 56 [vR 0, vI x1, vI x2, vU, vU, vI x5, vI (x6 + v3), vI (x7 + 1)] [] μ Q))) → at_I kR 3 mX10_event 87 [vR 0, vI x1, vI x2, vU, vU, vI x5, vU, vI x7] [vI v3, vI x6] μ Q := by
      intro v3 h
      obtain ⟨c, h⟩ := h
      refine s_iadd dX10_event_87 (am_w_id c) ?_
      refine s_istore dX10_event_88 (by decide) (L' := [vR 0, vI x1, vI x2, vU, vU, vI x5, vI (x6 + v3), vI x7]) rfl ?_
      obtain ⟨c, h⟩ := h
      refine s_iinc dX10_event_90 rfl (am_w_id c) (by decide) (L' := [vR 0, vI x1, vI x2, vU, vU, vI x5, vI (x6 + v3), vI (x7 + 1)]) rfl ?_
      refine s_goto dX10_event_93 (tgt := 56) (by decide) ?_
      exact h
    refine s_icmp_ge dX10_event_79 (tgt := 86) (by decide) (fun cc => ?_) (fun cc => ?_)
    · have hp0 := cc
      refine s_iconst dX10_event_86 (by decide) ?_
      exact am_lesS (kj4 0 (h 0 (by rw [if_neg (Int.not_lt.mpr hp0)]))) ⟨Or.inr rfl, Or.inr rfl, Or.inr rfl, Or.inl rfl, Or.inl rfl, Or.inr rfl, Or.inl rfl, Or.inr rfl, trivial⟩
    · have hp0 := cc
      refine s_iconst dX10_event_82 (by decide) ?_
      refine s_goto dX10_event_83 (tgt := 87) (by decide) ?_
      exact am_lesS (kj4 1 (h 1 (by rw [if_pos hp0]))) ⟨Or.inr rfl, Or.inr rfl, Or.inr rfl, Or.inl rfl, Or.inl rfl, Or.inr rfl, Or.inl rfl, Or.inr rfl, trivial⟩
theorem ve_X10_event {x1 x2 : Int} {μ : am_M} {Q : Int → am_M → Prop} (h : at_I kR 3 mX10_event 0 [vR 0, vI x1, vI x2, vU, vU, vU, vU, vU] [] μ Q) : cl_I kR 3 mX10_event [vR 0, vI x1, vI x2] μ Q := am_intro pmX10_event (Nat.le_of_ble_eq_true rfl) rfl h

/-! a project's value: settings, tracks, sources, clips, chapters -/
abbrev Pj : Type := (Nat → Int) × Tb × Int × Tb × Int × Tb × Hl
abbrev pE (P : Pj) : Nat → Int := P.1
abbrev pT (P : Pj) : Tb := P.2.1
abbrev pM (P : Pj) : Int := P.2.2.1
abbrev pS (P : Pj) : Tb := P.2.2.2.1
abbrev pN (P : Pj) : Int := P.2.2.2.2.1
abbrev pG (P : Pj) : Tb := P.2.2.2.2.2.1
abbrev pH (P : Pj) : Hl := P.2.2.2.2.2.2
def hCa (μ : am_M) (a : Nat) : Hl := (List.range (μ a 2).toNat).map (fun i => (μ (a + 1) i, μ (a + 2) i))
def pC (μ : am_M) (a : Nat) : Pj := (μ (a + 1), tg (μ (a + 2)) 7, μ a 5, tg (μ (a + 3)) 4, μ (a + 4) 1, tg (μ (a + 5)) 8, hCa μ (a + 6))
abbrev vP (P : Pj) : Prop := vp_ (pE P) (pT P) (pM P) (pS P) (pN P) (pG P) (pH P)
theorem vC_P {μ : am_M} : vP (pC μ 1) = vC μ := rfl
/-- two values are the same, as far as they go -/
def pe_ (P Q : Pj) : Prop := (∀ i : Nat, i < 5 → pE P i = pE Q i) ∧ eq_T 4 7 (pT P) (pT Q) ∧ pM P = pM Q ∧ eq_T (pM P) 4 (pS P) (pS Q) ∧ pN P = pN Q ∧ eq_T (pN P) 8 (pG P) (pG Q) ∧ pH P = pH Q
theorem pe_rf {P : Pj} : pe_ P P := ⟨fun _ _ => rfl, eq_T.rf, rfl, eq_T.rf, rfl, eq_T.rf, rfl⟩
theorem pe_sy {P Q : Pj} (h : pe_ P Q) : pe_ Q P := by
  obtain ⟨h1, h2, h3, h4, h5, h6, h7⟩ := h
  exact ⟨fun i q => (h1 i q).symm, h2.sy, h3.symm, by rw [← h3]; exact h4.sy, h5.symm, by rw [← h5]; exact h6.sy, h7.symm⟩
theorem pe_tr {P Q R : Pj} (h : pe_ P Q) (g : pe_ Q R) : pe_ P R := by
  obtain ⟨h1, h2, h3, h4, h5, h6, h7⟩ := h
  obtain ⟨g1, g2, g3, g4, g5, g6, g7⟩ := g
  exact ⟨fun i q => (h1 i q).trans (g1 i q), h2.tr g2, h3.trans g3, h4.tr (by rw [h3]; exact g4), h5.trans g5, h6.tr (by rw [h5]; exact g6), h7.trans g7⟩
theorem pe_E {P Q : Pj} (h : pe_ P Q) {i : Nat} (hi : i < 5) : pE Q i = pE P i := (h.1 i hi).symm
theorem pe_T {P Q : Pj} (h : pe_ P Q) {i k : Int} (h0 : 0 ≤ i) (h1 : i < 4) (h2 : 0 ≤ k) (h3 : k < 7) : pT Q i k = pT P i k := (h.2.1 i k h0 h1 h2 h3).symm
theorem pe_S {P Q : Pj} (h : pe_ P Q) {i k : Int} (h0 : 0 ≤ i) (h1 : i < pM P) (h2 : 0 ≤ k) (h3 : k < 4) : pS Q i k = pS P i k := (h.2.2.2.1 i k h0 h1 h2 h3).symm
theorem pe_G {P Q : Pj} (h : pe_ P Q) {i k : Int} (h0 : 0 ≤ i) (h1 : i < pN P) (h2 : 0 ≤ k) (h3 : k < 8) : pG Q i k = pG P i k := (h.2.2.2.2.2.1 i k h0 h1 h2 h3).symm
theorem pe_M {P Q : Pj} (h : pe_ P Q) : pM Q = pM P := h.2.2.1.symm
theorem pe_N {P Q : Pj} (h : pe_ P Q) : pN Q = pN P := h.2.2.2.2.1.symm
theorem pe_H {P Q : Pj} (h : pe_ P Q) : pH Q = pH P := h.2.2.2.2.2.2.symm
theorem pe_v {P Q : Pj} (hV : vP P) (h : pe_ P Q) : vP Q := by
  have hE := hV.hE
  have e1 := pe_M h
  have e2 := pe_N h
  refine ⟨?_, fun t t0 t1 => ?_, ⟨by rw [e1]; exact hV.hS.1, fun i i0 i1 => ?_⟩, fun i i0 i1 k => ?_, by rw [e2]; exact hV.hn, fun c c0 c1 => ?_, fun i j i0 ij j1 => ?_, by rw [pe_H h]; exact hV.hl, by rw [pe_H h]; exact hV.hh, by rw [pe_H h]; exact hV.hr⟩
  · unfold ok_E at *
    rw [pe_E h (by omega), pe_E h (by omega), pe_E h (by omega), pe_E h (by omega), pe_E h (by omega)]
    exact hE
  · have := hV.hT t t0 t1
    rw [pe_T h t0 t1 (by omega) (by omega), pe_T h t0 t1 (by omega) (by omega), pe_T h t0 t1 (by omega) (by omega), pe_T h t0 t1 (by omega) (by omega), pe_T h t0 t1 (by omega) (by omega), pe_T h t0 t1 (by omega) (by omega), pe_T h t0 t1 (by omega) (by omega)]
    exact this
  · have i1' : i < pM P := by rw [← e1]; exact i1
    have := hV.hS.2 i i0 i1'
    rw [pe_S h i0 i1' (by omega) (by omega), pe_S h i0 i1' (by omega) (by omega), pe_S h i0 i1' (by omega) (by omega), pe_S h i0 i1' (by omega) (by omega)]
    exact this
  · have i1' : i < pM P := by rw [← e1]; exact i1
    rw [pe_S h i0 i1' (by omega) (by omega)] at k ⊢
    exact hV.hS2 i i0 i1' k
  · have c1' : c < pN P := by rw [← e2]; exact c1
    have o := hV.hc c c0 c1'
    have q := fun k k0 k1 => pe_G h (k := k) c0 c1' k0 k1
    have o2 := o.1
    unfold okC at o2
    rw [e1]
    unfold okC
    rw [q 0 (by omega) (by omega), q 1 (by omega) (by omega), q 2 (by omega) (by omega), q 3 (by omega) (by omega), q 4 (by omega) (by omega), q 5 (by omega) (by omega), q 6 (by omega) (by omega), q 7 (by omega) (by omega)]
    rw [pe_S h (by ((try unfold am_in); (try unfold in_ at *); omega)) o.2.1 (by omega) (by omega)]
    exact o
  · have j1' : j < pN P := by rw [← e2]; exact j1
    have := hV.hs i j i0 ij j1'
    unfold bfr_ at *
    rw [pe_G h i0 (by omega) (by omega) (by omega), pe_G h i0 (by omega) (by omega) (by omega), pe_G h i0 (by omega) (by omega) (by omega), pe_G h (by omega) j1' (by omega) (by omega), pe_G h (by omega) j1' (by omega) (by omega)]
    exact this
/-! what sounds is the same then -/
theorem wav_pe {P Q : Pj} (h : pe_ P Q) {s i : Int} (h0 : 0 ≤ s) (h1 : s < pM P) : wav_ (pS Q) s i = wav_ (pS P) s i := by
  unfold wav_
  rw [pe_S h h0 h1 (by omega) (by omega), pe_S h h0 h1 (by omega) (by omega), pe_S h h0 h1 (by omega) (by omega), pe_S h h0 h1 (by omega) (by omega)]
theorem cv_pe {P Q : Pj} (hV : vP P) (h : pe_ P Q) {c k : Int} (h0 : 0 ≤ c) (h1 : c < pN P) : cv_ (pE Q 4) (pS Q) (pG Q) c k = cv_ (pE P 4) (pS P) (pG P) c k := by
  have o := hV.hc c h0 h1
  have o2 := o.1
  unfold okC at o2
  have q := fun k k0 k1 => pe_G h (k := k) h0 h1 k0 k1
  unfold cv_ cv3_ cv2_ cv1_
  rw [pe_E h (by omega), q 2 (by omega) (by omega), q 3 (by omega) (by omega), q 4 (by omega) (by omega), q 5 (by omega) (by omega), q 6 (by omega) (by omega), q 7 (by omega) (by omega), wav_pe h (by ((try unfold am_in); (try unfold in_ at *); omega)) o.2.1]
theorem ont_pe {P Q : Pj} (hV : vP P) (h : pe_ P Q) {t f : Int} : ont_ (pN Q) (pG Q) t f = ont_ (pN P) (pG P) t f := by
  unfold ont_
  rw [pe_N h]
  refine fst_c hV.hn.1 (fun i i0 i1 => ?_)
  unfold on_p en_
  rw [pe_G h i0 i1 (by omega) (by omega), pe_G h i0 i1 (by omega) (by omega), pe_G h i0 i1 (by omega) (by omega)]
theorem vt_pe {P Q : Pj} (hV : vP P) (h : pe_ P Q) {t f : Int} : vt_ (pE Q 4) (pS Q) (pN Q) (pG Q) t f = vt_ (pE P 4) (pS P) (pN P) (pG P) t f := by
  unfold vt_
  rw [ont_pe hV h]
  by_cases c : ont_ (pN P) (pG P) t f < 0
  · rw [if_pos c, if_pos c]
  · rw [if_neg c, if_neg c]
    rcases ont_c (g := pG P) hV.hn.1 t f with ⟨e, -⟩ | ⟨a1, a2, a3⟩
    · omega
    · rw [cv_pe hV h a1 a2, pe_G h a1 a2 (by omega) (by omega)]
theorem dr_pe {P Q : Pj} (hV : vP P) (h : pe_ P Q) {t f : Int} (h0 : 0 ≤ t) (h1 : t < 4) : dr_ (pE Q 4) (pT Q) (pS Q) (pN Q) (pG Q) t f = dr_ (pE P 4) (pT P) (pS P) (pN P) (pG P) t f := by
  unfold dr_
  rw [vt_pe hV h, pe_T h h0 h1 (by omega) (by omega)]
theorem duk_pe {P Q : Pj} (hV : vP P) (h : pe_ P Q) {t f : Int} (h0 : 0 ≤ t) (h1 : t < 4) : duk_ (pE Q 4) (pT Q) (pS Q) (pN Q) (pG Q) t f ↔ duk_ (pE P 4) (pT P) (pS P) (pN P) (pG P) t f := by
  unfold duk_ du_
  rw [pe_T h h0 h1 (by omega) (by omega), pe_T h h0 h1 (by omega) (by omega), pe_T h h0 h1 (by omega) (by omega)]
  have k := (hV.hT t h0 h1).2.2.2.1
  constructor
  · rintro ⟨a, j, b, c, d, e⟩
    rw [dr_pe hV h a (by ((try unfold am_in); (try unfold in_ at *); omega))] at d
    exact ⟨a, j, b, c, d, e⟩
  · rintro ⟨a, j, b, c, d, e⟩
    refine ⟨a, j, b, c, ?_, e⟩
    rw [dr_pe hV h a (by ((try unfold am_in); (try unfold in_ at *); omega))]
    exact d
theorem we_pe {P Q : Pj} (hV : vP P) (h : pe_ P Q) {t f : Int} (h0 : 0 ≤ t) (h1 : t < 4) : we_ (pE Q 4) (pT Q) (pS Q) (pN Q) (pG Q) t f = we_ (pE P 4) (pT P) (pS P) (pN P) (pG P) t f := by
  unfold we_
  rw [dr_pe hV h h0 h1, pe_T h h0 h1 (by omega) (by omega), propext (duk_pe hV h (f := f) h0 h1)]
theorem solo_pe {P Q : Pj} (h : pe_ P Q) : solo_ (pT Q) ↔ solo_ (pT P) := by
  unfold solo_
  constructor
  · rintro ⟨u, a, b, c⟩
    rw [pe_T h a b (by omega) (by omega)] at c
    exact ⟨u, a, b, c⟩
  · rintro ⟨u, a, b, c⟩
    refine ⟨u, a, b, ?_⟩
    rw [pe_T h a b (by omega) (by omega)]
    exact c
theorem aud_pe {P Q : Pj} (h : pe_ P Q) {t : Int} (h0 : 0 ≤ t) (h1 : t < 4) : aud_ (pT Q) t ↔ aud_ (pT P) t := by
  unfold aud_
  rw [pe_T h h0 h1 (by omega) (by omega), pe_T h h0 h1 (by omega) (by omega), propext (solo_pe h)]
theorem su_pe {P Q : Pj} (hV : vP P) (h : pe_ P Q) {f : Int} : su_ (pE Q 4) (pT Q) (pS Q) (pN Q) (pG Q) f 4 = su_ (pE P 4) (pT P) (pS P) (pN P) (pG P) f 4 := by
  unfold su_
  refine fI_c (fun i b i0 i1 => ?_)
  rw [we_pe hV h i0 i1, propext (aud_pe h i0 i1)]
/-! the class's state -/
/-- cells that hold what is worked out -/
def chL : List Nat := rfL ++ [144, 145, 146, 147, 148, 149, 150]
def bsL : List Nat := pjC 1 ++ pjC 10 ++ chL
theorem snd_pe {ks : List Nat} {μ m : am_M} (hV : vC μ) (h : fr_ ks μ m) (hk : ∀ k ∈ ks, k < 131 ∨ 143 < k) (hp : pe_ (pC μ 1) (pC m 1)) (hs : snd_ μ) : snd_ m := by
  obtain ⟨h1, h2, h3, h4⟩ := hs
  have e : ∀ k, 131 ≤ k → k ≤ 143 → m k = μ k := fun k a b => h k (fun q => by have := hk _ q; omega)
  have hn := hV.hS.1
  unfold in_ at hn
  refine ⟨fun s s0 s1 i i0 i1 => ?_, fun t f ht hf => ?_, fun f hf => ⟨?_, fun u hu => ?_⟩, fun f hf => ?_⟩
  · have s1' : s < μ 1 5 := by rw [← show m 1 5 = μ 1 5 from pe_M hp]; exact s1
    rw [show tg (m 4) 4 s 1 = tg (μ 4) 4 s 1 from pe_S hp s0 s1' (by omega) (by omega)] at i1
    rw [e (131 + s.toNat) (by omega) (by omega), h1 s s0 s1' i i0 i1]
    exact (wav_pe hp (i := i) s0 s1').symm
  · rw [e (138 + t.toNat) (by omega) (by ((try unfold am_in); (try unfold in_ at *); omega)), h2 t f ht hf]
    exact (dr_pe hV hp ht.1 ht.2).symm
  · rw [e 142 (by omega) (by omega)]
    exact (h3 f hf).1
  · rw [e 142 (by omega) (by omega), (h3 f hf).2 u hu]
    exact (duk_pe hV hp hu.1 hu.2).symm
  · show m 143 f.toNat = _
    rw [e 143 (by omega) (by omega), h4 f hf]
    exact (su_pe hV hp).symm
theorem pq_pe {μ m : am_M} {a b : Nat} (hV : vP (pC μ a)) (h : pq_ μ a m b) : pe_ (pC μ a) (pC m b) := by
  obtain ⟨h1, h2, h3, h4, h5, h6, h7, h8, h9⟩ := h
  have hn : in_ 0 25 (μ (a + 4) 1) := hV.hn
  have hs : in_ 0 7 (μ a 5) := hV.hS.1
  have hl : (hCa μ (a + 6)).length ≤ 12 := hV.hl
  unfold in_ at hn hs
  refine ⟨fun i hi => (h4 i hi).symm, fun i k i0 i1 k0 k1 => ?_, h1.symm, fun i k i0 i1 k0 k1 => ?_, h2.symm, fun i k i0 i1 k0 k1 => ?_, ?_⟩
  · show μ (a + 2) (i * 7 + k).toNat = m (b + 2) (i * 7 + k).toNat
    rw [h5 _ (by omega)]
  · have i1' : i < μ a 5 := i1
    show μ (a + 3) (i * 4 + k).toNat = m (b + 3) (i * 4 + k).toNat
    rw [h6 _ (by omega)]
  · have i1' : i < μ (a + 4) 1 := i1
    show μ (a + 5) (i * 8 + k).toNat = m (b + 5) (i * 8 + k).toNat
    rw [h7 _ (by omega)]
  · show hCa μ (a + 6) = hCa m (b + 6)
    unfold hCa at hl ⊢
    rw [h3]
    simp at hl
    refine List.map_congr_left (fun i hi => ?_)
    have := List.mem_range.mp hi
    rw [h8 i (by omega), h9 i (by omega)]
/-- between calls, after at most K of them -/
def CI (K : Int) (μ : am_M) : Prop := vC μ ∧ in_ 0 11 (μ 28 1) ∧ (0 ≤ μ 28 2 ∧ 0 ≤ μ 28 3 ∧ μ 28 2 + μ 28 3 ≤ 10) ∧ in_ 0 (K + 1) (μ 28 4) ∧ (∀ i, 0 ≤ i → i ≤ μ 28 2 + μ 28 3 → vP (pC μ (rg_ (μ 28 1) i))) ∧ (μ 0 9 ≠ 0 → vP (pC μ 19)) ∧ (μ 129 5 = 0 → snd_ μ) ∧ μ 147 0 = 0 ∧ in_ 0 61 (μ 151 4) ∧ (0 ≤ μ 7 2 ∧ (∀ i, 0 ≤ i → i ≤ μ 28 2 + μ 28 3 → 0 ≤ μ (rg_ (μ 28 1) i + 6) 2) ∧ (μ 0 9 ≠ 0 → 0 ≤ μ 25 2)) ∧ ∃ W, wr_ μ W ∧ W.length ≤ 96
/-- nothing has changed that a call shows -/
def un_ (ks : List Nat) (μ m : am_M) : Prop := fr_ (ks ++ bsL) μ m ∧ pe_ (pC μ 1) (pC m 1) ∧ (m 129 5 = 0 → snd_ m) ∧ m 147 0 = 0 ∧ 0 ≤ m 7 2
/-- the project has become P, and that was noted -/
def ch_ (ks : List Nat) (μ m : am_M) (P : Pj) : Prop := pe_ P (pC m 1) ∧ m 129 5 ≠ 0 ∧ m 147 0 = 0 ∧ 0 ≤ m 7 2 ∧ ((μ 28 5 ≠ 0 ∧ fr_ (ks ++ 28 :: bsL) μ m ∧ m 28 1 = μ 28 1 ∧ m 28 2 = μ 28 2 ∧ m 28 3 = 0 ∧ m 28 4 = μ 28 4 + 1 ∧ m 28 5 = μ 28 5) ∨ (μ 28 5 = 0 ∧ ∃ o u, ((μ 28 2 = 10 ∧ o = (μ 28 1 + 1) % 11 ∧ u = 10) ∨ (μ 28 2 ≠ 10 ∧ o = μ 28 1 ∧ u = μ 28 2 + 1)) ∧ fr_ (ks ++ 28 :: (pjC (rg_ o u) ++ bsL)) μ m ∧ m 28 1 = o ∧ m 28 2 = u ∧ m 28 3 = 0 ∧ m 28 4 = μ 28 4 ∧ m 28 5 = μ 28 5 ∧ pe_ P (pC m (rg_ o u)) ∧ 0 ≤ m (rg_ o u + 6) 2))
/-- a command: its answer, and what the project is then -/
def cm_ (ks : List Nat) (μ m : am_M) (z : Int) (R : Int × Pj) : Prop := z = R.1 ∧ (z < 0 → un_ ks μ m) ∧ (0 ≤ z → ch_ ks μ m R.2)
theorem pe_of {ks : List Nat} {μ m : am_M} (h : fr_ ks μ m) {a : Nat} (hk : ∀ k ∈ ks, k < a ∨ a + 8 < k) : pC m a = pC μ a := by
  have e : ∀ j, j ≤ 8 → m (a + j) = μ (a + j) := fun j hj => h (a + j) (fun q => by have := hk _ q; omega)
  have e0 := e 0 (by omega)
  rw [Nat.add_zero] at e0
  unfold pC hCa
  rw [e0, e 1 (by omega), e 2 (by omega), e 3 (by omega), e 4 (by omega), e 5 (by omega), e 6 (by omega), show a + 6 + 1 = a + 7 by omega, show a + 6 + 2 = a + 8 by omega, e 7 (by omega), e 8 (by omega)]
/-- the cells alone that hold what is worked out have changed -/
def cq_ (μ m : am_M) : Prop := fr_ chL μ m ∧ (m 129 5 = 0 → snd_ m) ∧ m 147 0 = 0
theorem CI.v {K : Int} {μ : am_M} (h : CI K μ) : vC μ := h.1
theorem CI.h7 {K : Int} {μ : am_M} (h : CI K μ) : 0 ≤ μ 7 2 := h.2.2.2.2.2.2.2.2.2.1.1
theorem CI.sn {K : Int} {μ : am_M} (h : CI K μ) : μ 129 5 = 0 → snd_ μ := h.2.2.2.2.2.2.1
theorem CI.z {K : Int} {μ : am_M} (h : CI K μ) : μ 147 0 = 0 := h.2.2.2.2.2.2.2.1
theorem cq_un {K : Int} {μ m : am_M} (hI : CI K μ) (h : cq_ μ m) : un_ [] μ m := by
  refine ⟨fr_up h.1 (fun k hk => by unfold bsL; simp; exact Or.inr (Or.inr hk)), ?_, h.2.1, h.2.2, by rw [h.1 7 (by decide)]; exact hI.h7⟩
  rw [pe_of h.1 (a := 1) (by decide)]
  exact pe_rf
theorem cq_rf {K : Int} {μ : am_M} (h : CI K μ) : cq_ μ μ := ⟨fr_rf, h.sn, h.z⟩

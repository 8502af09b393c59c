/-! the class's loudness: what is measured -/
theorem cnt_m {p : Int → Bool} {v : Int → Int} {n B : Int} (hn : 0 ≤ n) (hB : 0 ≤ B) (h : ∀ i, 0 ≤ i → i < n → 0 ≤ v i ∧ v i ≤ B) : 0 ≤ cnt_ p v n ∧ cnt_ p v n ≤ cnt_ p (fun _ => 1) n * B := by
  have key : ∀ j : Nat, (j : Int) ≤ n → 0 ≤ cnt_ p v j ∧ cnt_ p v j ≤ cnt_ p (fun _ => 1) j * B := by
    intro j
    induction j with
    | zero =>
      intro _
      show (0 : Int) ≤ 0 ∧ (0 : Int) ≤ 0 * B
      omega
    | succ j ih =>
      intro hj
      have q := ih (by omega)
      have hv := h j (by omega) (by omega)
      rw [show ((j + 1 : Nat) : Int) = (j : Int) + 1 by omega, cnt_s (by omega), cnt_s (by omega), Int.add_mul]
      split <;> omega
  have := key n.toNat (by omega)
  rw [show ((n.toNat : Nat) : Int) = n by omega] at this
  exact this
theorem cnt_not {p q : Int → Bool} {n : Int} (hn : 0 ≤ n) (h : ∀ i, q i = !p i) : cnt_ p (fun _ => 1) n + cnt_ q (fun _ => 1) n = n := by
  have key : ∀ j : Nat, cnt_ p (fun _ => 1) j + cnt_ q (fun _ => 1) j = j := by
    intro j
    induction j with
    | zero => rfl
    | succ j ih =>
      rw [show ((j + 1 : Nat) : Int) = (j : Int) + 1 by omega, cnt_s (by omega), cnt_s (by omega), h j]
      cases p j <;> simp <;> omega
  have := key n.toNat
  rw [show ((n.toNat : Nat) : Int) = n by omega] at this
  exact this
def lq_ (L : Int → Int) (n gt : Int) : Int := cnt_ (fun k => decide (L k < gt)) (fun _ => 1) n
def l1_ (L : Int → Int) (n gt : Int) : Int := cnt_ (fun k => decide (gt ≤ L k)) L n
def lm_ (L : Int → Int) (n gt : Int) : Int := if lq_ L n gt < n then l1_ L n gt / (n - lq_ L n gt) else 0
def ll_ (L : Int → Int) (n gt sh : Int) : Int := cnt_ (fun k => decide (gt ≤ L k ∧ 100 * L k < lm_ L n gt * sh)) (fun _ => 1) n
def l2_ (L : Int → Int) (n gt sh : Int) : Int := cnt_ (fun k => decide (gt ≤ L k ∧ lm_ L n gt * sh ≤ 100 * L k)) L n
/-- the loudness -/
def lo_ (L : Int → Int) (n gt sh : Int) : Int := if 0 < n - lq_ L n gt - ll_ L n gt sh then l2_ L n gt sh / (n - lq_ L n gt - ll_ L n gt sh) else 0
theorem lm_b {L : Int → Int} {n gt : Int} (hn : 0 ≤ n) (h : ∀ k, 0 ≤ k → k < n → 0 ≤ L k ∧ L k ≤ 998001) : 0 ≤ lm_ L n gt ∧ lm_ L n gt ≤ 998001 := by
  have a := cnt_m (p := fun k => decide (gt ≤ L k)) hn (by omega) h
  have b := cnt_not (p := fun k => decide (L k < gt)) (q := fun k => decide (gt ≤ L k)) hn (fun i => by
    by_cases c : L i < gt
    · simp [c, Int.not_le.mpr c]
    · simp [c, Int.not_lt.mp c])
  unfold lm_
  split
  · rename_i q
    unfold lq_ l1_ at *
    have e : n - cnt_ (fun k => decide (L k < gt)) (fun _ => 1) n = cnt_ (fun k => decide (gt ≤ L k)) (fun _ => 1) n := by omega
    rw [e]
    refine ⟨Int.ediv_nonneg a.1 (by omega), ?_⟩
    refine Int.le_trans (Int.ediv_le_ediv (by omega) a.2) ?_
    rw [Int.mul_ediv_cancel_left _ (by omega)]
    omega
  · omega
theorem lvl_b {F : Int → Int} {ms w k la : Int} (hF : ∀ f, in_ 0 8000 (F f)) (hm : in_ 0 401 ms) (hw : in_ 4 51 w) (hla : in_ 0 601 la) (hk : 0 ≤ k ∧ k < win_ la w) : 0 ≤ lvl_ F ms w k ∧ lvl_ F ms w k ≤ 998001 := by
  have kb := (win_b hla hw).2 k hk.1 hk.2
  unfold in_ at hw hla
  have hb : k * w ≤ (if (k + 1) * w < 600 then (k + 1) * w else 600) ∧ (if (k + 1) * w < 600 then (k + 1) * w else 600) ≤ k * w + w := by rw [kb.2.2]; split <;> omega
  have s := sm_b (f := fun i => sq_ F ms (k * w + i)) (n := (if (k + 1) * w < 600 then (k + 1) * w else 600) - k * w) (B := 998001) (by omega) (by omega) (fun i _ _ => sq_b (hF _) hm)
  unfold lvl_
  refine ⟨Int.ediv_nonneg s.1 (by omega), ?_⟩
  refine Int.le_trans (Int.ediv_le_ediv (b := w * 998001) (by omega) (by omega)) ?_
  rw [Int.mul_ediv_cancel_left _ (by omega)]
  omega

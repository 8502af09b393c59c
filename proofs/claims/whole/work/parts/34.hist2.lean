/-! levels with how often they are: a second way -/
def ih_ (x : Int) (H : Hl) : Hl := bef_ x H ++ (match aft_ x H with
  | [] => [(x, 1)]
  | p :: B => if p.1 = x then (p.1, p.2 + 1) :: B else (x, 1) :: p :: B)
def hw_ (p : Int → Bool) (H : Hl) : Int := (H.map (fun q => if p q.1 = true then q.2 else 0)).sum
def hv_ (p : Int → Bool) (H : Hl) : Int := (H.map (fun q => if p q.1 = true then q.1 * q.2 else 0)).sum
theorem hw_app {p : Int → Bool} {A B : Hl} : hw_ p (A ++ B) = hw_ p A + hw_ p B := by simp [hw_]
theorem hv_app {p : Int → Bool} {A B : Hl} : hv_ p (A ++ B) = hv_ p A + hv_ p B := by simp [hv_]
theorem hw_c {p : Int → Bool} {q : Int × Int} {B : Hl} : hw_ p (q :: B) = (if p q.1 = true then q.2 else 0) + hw_ p B := by simp [hw_]
theorem hv_c {p : Int → Bool} {q : Int × Int} {B : Hl} : hv_ p (q :: B) = (if p q.1 = true then q.1 * q.2 else 0) + hv_ p B := by simp [hv_]
theorem ih_w {p : Int → Bool} {x : Int} {H : Hl} : hw_ p (ih_ x H) = hw_ p H + if p x = true then 1 else 0 := by
  have hb := bef_aft x H
  unfold ih_
  rw [hw_app]
  cases ha : aft_ x H with
  | nil =>
    rw [ha] at hb
    simp at hb
    simp only
    rw [hw_c, hb]
    simp [hw_]
  | cons q B =>
    rw [ha] at hb
    have e : hw_ p H = hw_ p (bef_ x H) + ((if p q.1 = true then q.2 else 0) + hw_ p B) := by rw [← hw_c, ← hw_app, hb]
    rw [e]
    simp only
    split
    · rename_i q1
      rw [hw_c]
      simp only [q1]
      split <;> omega
    · rw [hw_c, hw_c]
      simp only
      omega
theorem ih_v {p : Int → Bool} {x : Int} {H : Hl} : hv_ p (ih_ x H) = hv_ p H + if p x = true then x else 0 := by
  have hb := bef_aft x H
  unfold ih_
  rw [hv_app]
  cases ha : aft_ x H with
  | nil =>
    rw [ha] at hb
    simp at hb
    simp only
    rw [hv_c, hb]
    simp [hv_]
  | cons q B =>
    rw [ha] at hb
    have e : hv_ p H = hv_ p (bef_ x H) + ((if p q.1 = true then q.1 * q.2 else 0) + hv_ p B) := by rw [← hv_c, ← hv_app, hb]
    rw [e]
    simp only
    split
    · rename_i q1
      rw [hv_c]
      simp only [q1, Int.mul_add, Int.mul_one]
      split <;> omega
    · rw [hv_c, hv_c]
      simp only [Int.mul_one]
      omega
theorem ih_l {x : Int} {H : Hl} : (ih_ x H).length ≤ H.length + 1 ∧ H.length ≤ (ih_ x H).length := by
  have hb := congrArg List.length (bef_aft x H)
  unfold ih_
  rw [List.length_append] at hb ⊢
  cases ha : aft_ x H with
  | nil => rw [ha] at hb; simp at hb ⊢; omega
  | cons q B =>
    rw [ha] at hb
    simp only [List.length_cons] at hb ⊢
    split <;> simp only [List.length_cons] <;> omega
def up_H (H : Hl) : Prop := H.Pairwise (fun p q => p.1 < q.1)
theorem bef_lt {x : Int} {H : Hl} : ∀ p ∈ bef_ x H, p.1 < x := fun p hp => by
  have : decide (p.1 < x) = true := by
    unfold bef_ at hp
    induction H with
    | nil => simp at hp
    | cons q H ih =>
      rw [List.takeWhile_cons] at hp
      split at hp
      · rename_i h
        rcases List.mem_cons.mp hp with e | e
        · rw [e]; exact h
        · exact ih e
      · simp at hp
  exact of_decide_eq_true this
theorem aft_ge {x : Int} {H : Hl} (h : up_H H) : ∀ p ∈ aft_ x H, x ≤ p.1 := by
  induction H with
  | nil => intro p hp; simp [aft_] at hp
  | cons q H ih =>
    intro p hp
    rw [aft_c] at hp
    have h2 := List.pairwise_cons.mp h
    split at hp
    · exact ih h2.2 p hp
    · rcases List.mem_cons.mp hp with e | e
      · rw [e]; omega
      · have := h2.1 p e; omega
theorem ih_up {x : Int} {H : Hl} (h : up_H H) : up_H (ih_ x H) := by
  have hb := bef_aft x H
  have hge := aft_ge (x := x) h
  have h' := h
  unfold up_H at h' ⊢
  rw [← hb, List.pairwise_append] at h'
  obtain ⟨h1, h2, h3⟩ := h'
  unfold ih_
  rw [List.pairwise_append]
  refine ⟨h1, ?_, ?_⟩
  · cases ha : aft_ x H with
    | nil => simp
    | cons q B =>
      rw [ha] at h2 hge
      have h4 := List.pairwise_cons.mp h2
      simp only
      split
      · exact List.pairwise_cons.mpr ⟨fun p hp => h4.1 p hp, h4.2⟩
      · rename_i ne
        refine List.pairwise_cons.mpr ⟨fun p hp => ?_, h2⟩
        have hq := hge q List.mem_cons_self
        rcases List.mem_cons.mp hp with e | e
        · rw [e]; simp only; omega
        · have := h4.1 p e
          simp only
          omega
  · intro p hp r hr
    have := bef_lt p hp
    cases ha : aft_ x H with
    | nil => rw [ha] at hr; simp at hr; rw [hr]; exact this
    | cons q B =>
      rw [ha] at hr hge
      simp only at hr
      have : x ≤ r.1 := by
        split at hr
        · rcases List.mem_cons.mp hr with e | e
          · rw [e]; simp only; omega
          · exact hge r (List.mem_cons_of_mem _ e)
        · rcases List.mem_cons.mp hr with e | e
          · rw [e]
            exact Int.le_refl _
          · exact hge r e
      omega
def hi_ (L : Int → Int) (k : Int) : Hl := fI (fun H i => ih_ (L i) H) [] k
theorem hi_s {L : Int → Int} {k : Int} (h : 0 ≤ k) : hi_ L (k + 1) = ih_ (L k) (hi_ L k) := fI_s _ _ h
theorem hi_up {L : Int → Int} {k : Int} (h : 0 ≤ k) : up_H (hi_ L k) ∧ ((hi_ L k).length : Int) ≤ k := by
  refine fI_i (fun (H : Hl) i => up_H H ∧ (H.length : Int) ≤ i) ⟨List.Pairwise.nil, by simp⟩ h (fun i H i0 i1 ⟨h1, h2⟩ => ⟨ih_up h1, ?_⟩)
  have := (ih_l (x := L i) (H := H)).1
  omega
theorem hi_w {L : Int → Int} {p : Int → Bool} : ∀ k : Nat, hw_ p (hi_ L k) = cnt_ (fun i => p (L i)) (fun _ => 1) k ∧ hv_ p (hi_ L k) = cnt_ (fun i => p (L i)) L k
  | 0 => ⟨rfl, rfl⟩
  | k + 1 => by
    have := hi_w (L := L) (p := p) k
    rw [show ((k + 1 : Nat) : Int) = (k : Int) + 1 by omega, hi_s (by omega), ih_w, ih_v, cnt_s (by omega), cnt_s (by omega), this.1, this.2]
    exact ⟨rfl, rfl⟩
/-- what stands from a level on, for an upward property -/
theorem hw_aft {p : Int → Bool} {A B : Hl} (ha : ∀ q ∈ A, p q.1 = false) (hb : ∀ q ∈ B, p q.1 = true) : hw_ p (A ++ B) = hw_ (fun _ => true) B ∧ hv_ p (A ++ B) = hv_ (fun _ => true) B := by
  have a0 : hw_ p A = 0 ∧ hv_ p A = 0 := by
    induction A with
    | nil => exact ⟨rfl, rfl⟩
    | cons q A ih =>
      have := ih (fun r hr => ha r (List.mem_cons_of_mem _ hr))
      have h1 := ha q List.mem_cons_self
      rw [hw_c, hv_c, this.1, this.2]
      simp [h1]
  have b1 : hw_ p B = hw_ (fun _ => true) B ∧ hv_ p B = hv_ (fun _ => true) B := by
    clear a0 ha
    induction B with
    | nil => exact ⟨rfl, rfl⟩
    | cons q B ih =>
      have := ih (fun r hr => hb r (List.mem_cons_of_mem _ hr))
      have h1 := hb q List.mem_cons_self
      rw [hw_c, hv_c, hw_c, hv_c, this.1, this.2]
      simp [h1]
  rw [hw_app, hv_app, a0.1, a0.2, b1.1, b1.2]
  omega

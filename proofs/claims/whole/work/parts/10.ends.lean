/-! a walk and a contract in a world whose cells stand -/
abbrev at_I (K : am_K) (d : Nat) (M : am_T) (pc : Nat) (L st : List am_V) (μ : am_M) (Q : Int → am_M → Prop) : Prop := am_Ag false d 0 0 M K.1 K.2 μ pc L st (fun r n S m => (n = K.1 ∧ S = K.2) ∧ ∃ z, r = some (vI z) ∧ Q z m)
abbrev at_V (K : am_K) (d : Nat) (M : am_T) (pc : Nat) (L st : List am_V) (μ : am_M) (Q : am_M → Prop) : Prop := am_Ag false d 0 0 M K.1 K.2 μ pc L st (fun r n S m => (n = K.1 ∧ S = K.2) ∧ r = none ∧ Q m)
abbrev at_R (K : am_K) (d : Nat) (M : am_T) (pc : Nat) (L st : List am_V) (μ : am_M) (Q : Nat → am_M → Prop) : Prop := am_Ag false d 0 0 M K.1 K.2 μ pc L st (fun r n S m => (n = K.1 ∧ S = K.2) ∧ ∃ k, r = some (vR k) ∧ Q k m)
abbrev cl_I (K : am_K) (d : Nat) (M : am_T) (As : List am_V) (μ : am_M) (Q : Int → am_M → Prop) : Prop := am_Cg false d 0 0 M K.1 K.2 μ As (fun r n S m => (n = K.1 ∧ S = K.2) ∧ ∃ z, r = some (vI z) ∧ Q z m)
abbrev cl_V (K : am_K) (d : Nat) (M : am_T) (As : List am_V) (μ : am_M) (Q : am_M → Prop) : Prop := am_Cg false d 0 0 M K.1 K.2 μ As (fun r n S m => (n = K.1 ∧ S = K.2) ∧ r = none ∧ Q m)
abbrev cl_R (K : am_K) (d : Nat) (M : am_T) (As : List am_V) (μ : am_M) (Q : Nat → am_M → Prop) : Prop := am_Cg false d 0 0 M K.1 K.2 μ As (fun r n S m => (n = K.1 ∧ S = K.2) ∧ ∃ k, r = some (vR k) ∧ Q k m)
/-- fewer known places -/
theorem am_less {al : Bool} {d bc bs : Nat} {M : am_T} {n : Nat} {S : Nat → am_C} {μ : am_M} {pc : Nat} {L L' st : List am_V} {Q : am_P} (h : am_Ag al d bc bs M n S μ pc L st Q) (hl : ∀ (i : Nat) (v : am_V), L[i]? = some v → v ≠ vU → L'[i]? = some v) (hn : L.length ≤ L'.length) : am_Ag al d bc bs M n S μ pc L' st Q := by
  intro G p l e R s m args below meth c H locs cells slots nb ls X hc hs hnb hS hR hz hL oL os om
  refine h G p l e R s m args below meth c H locs cells slots nb ls X hc hs hnb hS hR hz ⟨hL.1, hL.2.1, Nat.le_trans hn hL.2.2.1, fun i v hi hv => hL.2.2.2 i v (hl i v hi hv) hv⟩ (fun v hv => ?_) os om
  obtain ⟨i, hi⟩ := List.getElem?_of_mem hv
  by_cases hu : v = vU
  · rw [hu]; exact trivial
  · exact oL v (List.mem_of_getElem? (hl i v hi hu))
/-- what is known of the values while they are in range -/
theorem am_know {al : Bool} {d bc bs : Nat} {M : am_T} {n : Nat} {S : Nat → am_C} {μ : am_M} {pc : Nat} {L st : List am_V} {Q : am_P} (h : am_oks L → am_oks st → am_okm μ → am_Ag al d bc bs M n S μ pc L st Q) : am_Ag al d bc bs M n S μ pc L st Q := by
  intro G p l e R s m args below meth c H locs cells slots nb ls X hc hs hnb hS hR hz hL oL os om
  exact h oL os om G p l e R s m args below meth c H locs cells slots nb ls X hc hs hnb hS hR hz hL oL os om
theorem cl_know {al : Bool} {d bc bs : Nat} {M : am_T} {n : Nat} {S : Nat → am_C} {μ : am_M} {As : List am_V} {Q : am_P} (h : am_oks As → am_okm μ → am_Cg al d bc bs M n S μ As Q) : am_Cg al d bc bs M n S μ As Q := fun oA om => h oA om oA om
theorem s_idivp {al : Bool} {d bc bs : Nat} {M : am_T} {n : Nat} {S : Nat → am_C} {μ : am_M} {pc : Nat} {L st : List am_V} {Q : am_P} {x y z : Int} (hd : decode M.2.1 pc = .ok (.idiv, 1)) (hx : 0 ≤ x) (hy : 0 < y) (hzz : x / y = z) (k : am_Ag al d bc bs M n S μ (pc + 1) L (vI z :: st) Q) : am_Ag al d bc bs M n S μ pc L (vI y :: vI x :: st) Q := by
  refine am_know (fun oL os om => ?_)
  have o2 : am_in x := am_oks_hd (am_oks_tl os)
  refine s_idiv hd (by omega) ?_ k
  have h1 : x / y ≤ x := Int.ediv_le_self y hx
  have h2 : 0 ≤ x / y := Int.ediv_nonneg hx (by omega)
  rw [Int.tdiv_eq_ediv_of_nonneg hx, ← hzz]
  unfold am_in at o2
  exact am_w_id (by unfold am_in; omega)
theorem s_iremp {al : Bool} {d bc bs : Nat} {M : am_T} {n : Nat} {S : Nat → am_C} {μ : am_M} {pc : Nat} {L st : List am_V} {Q : am_P} {x y z : Int} (hd : decode M.2.1 pc = .ok (.irem, 1)) (hx : 0 ≤ x) (hy : 0 < y) (hzz : x % y = z) (k : am_Ag al d bc bs M n S μ (pc + 1) L (vI z :: st) Q) : am_Ag al d bc bs M n S μ pc L (vI y :: vI x :: st) Q :=
  s_irem hd (by omega) (by rw [Int.tmod_eq_emod_of_nonneg hx, hzz]) k
def am_sub : List am_V → List am_V → Prop
  | [], _ => True
  | _ :: _, [] => False
  | v :: l, w :: l' => (v = vU ∨ v = w) ∧ am_sub l l'
theorem am_sub_at : ∀ (L L' : List am_V), am_sub L L' → L.length ≤ L'.length ∧ ∀ (i : Nat) (v : am_V), L[i]? = some v → v ≠ vU → L'[i]? = some v
  | [], _, _ => ⟨Nat.zero_le _, fun i v h => by simp at h⟩
  | _ :: _, [], h => h.elim
  | a :: l, w :: l', h => by
    obtain ⟨h1, h2⟩ := h
    obtain ⟨q1, q2⟩ := am_sub_at l l' h2
    refine ⟨by simp only [List.length_cons]; omega, fun i v hi hv => ?_⟩
    cases i with
    | zero =>
      have e : a = v := by simpa using hi
      rcases h1 with h1 | h1
      · exact absurd (e.symm.trans h1) hv
      · rw [← h1, e]; rfl
    | succ i => exact q2 i v (by simpa using hi) hv
theorem am_lesS {al : Bool} {d bc bs : Nat} {M : am_T} {n : Nat} {S : Nat → am_C} {μ : am_M} {pc : Nat} {L L' st : List am_V} {Q : am_P} (h : am_Ag al d bc bs M n S μ pc L st Q) (hl : am_sub L L') : am_Ag al d bc bs M n S μ pc L' st Q := am_less h (am_sub_at L L' hl).2 (am_sub_at L L' hl).1
def in_ (lo hi x : Int) : Prop := lo ≤ x ∧ x < hi

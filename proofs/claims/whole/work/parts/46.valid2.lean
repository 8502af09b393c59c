/-! ripples and chapters keep a project valid -/
def wLH (P : Pj) (L : List Rw) (H : Hl) : Pj := (pE P, pT P, pM P, pS P, (L.length : Int), ofL L, H)
def wH (P : Pj) (H : Hl) : Pj := (pE P, pT P, pM P, pS P, pN P, pG P, H)
def vH (H : Hl) : Prop := H.length ≤ 12 ∧ (∀ p ∈ H, in_ 0 600 p.1 ∧ in_ 0 100 p.2) ∧ H.Pairwise (fun p q => p.1 < q.1)
theorem vP_H {P : Pj} (h : vP P) : vH (pH P) := ⟨h.hl, h.hh, h.hr⟩
theorem wLH_v {P : Pj} (h : vP P) {L : List Rw} {H : Hl} (hL : vL (pM P) (pS P) L) (hH : vH H) : vP (wLH P L H) := by
  have w := wL_v h hL
  exact ⟨w.hE, w.hT, w.hS, w.hS2, w.hn, w.hc, w.hs, hH.1, hH.2.1, hH.2.2⟩
theorem wH_v {P : Pj} (h : vP P) {H : Hl} (hH : vH H) : vP (wH P H) := ⟨h.hE, h.hT, h.hS, h.hS2, h.hn, h.hc, h.hs, hH.1, hH.2.1, hH.2.2⟩
def o_LH (P : Pj) (R : Int × List Rw × Hl) : Int × Pj := (R.1, wLH P R.2.1 R.2.2)
def o_H (P : Pj) (R : Int × Hl) : Int × Pj := (R.1, wH P R.2)
def phi_ (a b x : Int) : Int := if x ≤ a then x else if x < b then a else x - (b - a)
theorem cuF_in {M : Int} {S : Tb} {a b : Int} {r : Rw} (hab : 0 ≤ a ∧ a < b ∧ b ≤ 600) (h : cokR M S r) : (∀ x ∈ cuF a b r, cokR M S x ∧ x 0 = r 0 ∧ phi_ a b (r 1) ≤ x 1 ∧ x 1 + x 4 ≤ phi_ a b (r 1 + r 4)) ∧ srt_ (cuF a b r) := by
  obtain ⟨o, o2, o3⟩ := h
  unfold okC in_ at o
  have e1 : ∀ q : Int, spl1 r q 1 = r 1 ∧ spl1 r q 4 = q ∧ spl1 r q 0 = r 0 := fun q => by simp [spl1]
  have e2 : ∀ q d : Int, shf (spl2 r q) d 1 = r 1 + q + d ∧ shf (spl2 r q) d 4 = r 4 - q ∧ shf (spl2 r q) d 0 = r 0 := fun q d => by simp [shf, spl2]
  have p1 : r 1 < a → ∃ x, (if r 1 + r 4 ≤ a then r else spl1 r (a - r 1)) = x ∧ cokR M S x ∧ x 0 = r 0 ∧ x 1 = r 1 ∧ r 1 + x 4 ≤ a ∧ x 4 ≤ r 4 := fun h1 => by
    by_cases c : r 1 + r 4 ≤ a
    · exact ⟨r, if_pos c, ⟨by unfold okC in_; omega, o2, o3⟩, rfl, rfl, c, by omega⟩
    · refine ⟨_, if_neg c, ⟨?_, by simpa [spl1] using o2, by simp [spl1]; omega⟩, by simp [spl1], by simp [spl1], by simp [spl1]; omega, by simp [spl1]; omega⟩
      unfold okC in_ spl1
      simp
      split <;> omega
  have p2 : b < r 1 + r 4 → ∃ y, (if b ≤ r 1 then shf r (a - b) else shf (spl2 r (b - r 1)) (a - b)) = y ∧ cokR M S y ∧ y 0 = r 0 ∧ a ≤ y 1 ∧ (b ≤ r 1 → y 1 = r 1 - (b - a)) ∧ y 1 + y 4 = r 1 + r 4 - (b - a) := fun h1 => by
    by_cases c : b ≤ r 1
    · refine ⟨_, if_pos c, ⟨?_, by simpa [shf] using o2, by simpa [shf] using o3⟩, by simp [shf], by simp [shf]; omega, fun _ => by simp [shf]; omega, by simp [shf]; omega⟩
      unfold okC in_ shf
      simp
      omega
    · refine ⟨_, if_neg c, ⟨?_, by simpa [shf, spl2] using o2, by simp [shf, spl2]; omega⟩, by simp [shf, spl2], by simp [shf, spl2]; omega, fun z => absurd z c, by simp [shf, spl2]; omega⟩
      unfold okC in_ shf spl2
      simp
      split <;> omega
  unfold cuF
  by_cases c1 : r 1 < a
  · obtain ⟨x, ex, x1, x2, x3, x4, x5⟩ := p1 c1
    by_cases c2 : b < r 1 + r 4
    · obtain ⟨y, ey, y1, y2, y3, y4, y5⟩ := p2 c2
      rw [if_pos c1, if_pos c2, ex, ey]
      refine ⟨fun z hz => ?_, ?_⟩
      · simp only [List.cons_append, List.nil_append, List.mem_cons, List.not_mem_nil, or_false] at hz
        rcases hz with rfl | rfl
        · refine ⟨x1, x2, ?_, ?_⟩
          · unfold phi_; rw [if_pos (by omega)]; omega
          · unfold phi_; rw [if_neg (by omega), if_neg (by omega)]; omega
        · refine ⟨y1, y2, ?_, ?_⟩
          · unfold phi_; rw [if_pos (by omega)]; omega
          · unfold phi_; rw [if_neg (by omega), if_neg (by omega)]; omega
      · unfold srt_
        simp only [List.cons_append, List.nil_append, List.pairwise_cons, List.mem_cons, List.not_mem_nil, or_false, forall_eq, List.Pairwise.nil, and_true]
        refine ⟨?_, fun _ h => absurd h id⟩
        unfold bfr_
        omega
    · rw [if_pos c1, if_neg c2, ex]
      refine ⟨fun z hz => ?_, by unfold srt_; simp⟩
      simp only [List.append_nil, List.mem_cons, List.not_mem_nil, or_false] at hz
      subst hz
      refine ⟨x1, x2, ?_, ?_⟩
      · unfold phi_; rw [if_pos (by omega)]; omega
      · unfold phi_
        split
        · omega
        · split <;> omega
  · by_cases c2 : b < r 1 + r 4
    · obtain ⟨y, ey, y1, y2, y3, y4, y5⟩ := p2 c2
      rw [if_neg c1, if_pos c2, ey]
      refine ⟨fun z hz => ?_, by unfold srt_; simp⟩
      simp only [List.nil_append, List.mem_cons, List.not_mem_nil, or_false] at hz
      subst hz
      refine ⟨y1, y2, ?_, ?_⟩
      · unfold phi_
        by_cases c3 : b ≤ r 1
        · have := y4 c3
          split
          · omega
          · split <;> omega
        · split
          · omega
          · split <;> omega
      · unfold phi_; rw [if_neg (by omega), if_neg (by omega)]; omega
    · rw [if_neg c1, if_neg c2]
      exact ⟨fun x hx => by simp at hx, by unfold srt_; simp⟩
theorem phi_m {a b x y : Int} (hab : a < b) (h : x ≤ y) : phi_ a b x ≤ phi_ a b y := by
  unfold phi_
  (repeat' split) <;> omega
theorem cut_vL {M : Int} {S : Tb} {a b : Int} {L : List Rw} (hab : 0 ≤ a ∧ a < b ∧ b ≤ 600) (h : vL M S L) (hl : (L.flatMap (cuF a b)).length ≤ 24) : vL M S (L.flatMap (cuF a b)) := by
  refine ⟨fun r hr => ?_, ?_, hl⟩
  · obtain ⟨s, hs, hr⟩ := List.mem_flatMap.mp hr
    exact ((cuF_in hab (h.1 s hs)).1 r hr).1
  · unfold srt_
    rw [List.pairwise_flatMap]
    refine ⟨fun r hr => (cuF_in hab (h.1 r hr)).2, List.Pairwise.imp_of_mem (fun {r s} hr hs hrs x hx y hy => ?_) h.2.1⟩
    have h1 := (cuF_in hab (h.1 r hr)).1 x hx
    have h2 := (cuF_in hab (h.1 s hs)).1 y hy
    unfold bfr_ at *
    rcases hrs with q | q
    · left; omega
    · right
      have := phi_m hab.2.1 q.2
      omega
theorem ded_v {K : Hl} : ∀ (l : Option Int), (∀ p ∈ K, ∀ v, l = some v → v ≤ p.1) → K.Pairwise (fun p q => p.1 ≤ q.1) → (∀ p ∈ h_ded l K, p ∈ K ∧ ∀ v, l = some v → v < p.1) ∧ (h_ded l K).Pairwise (fun p q => p.1 < q.1) ∧ (h_ded l K).length ≤ K.length := by
  induction K with
  | nil => intro l _ _; exact ⟨fun p hp => by simp [h_ded] at hp, by simp [h_ded], by simp [h_ded]⟩
  | cons q K ih =>
    intro l h1 h2
    have h3 := List.pairwise_cons.mp h2
    show _ ∧ _ ∧ _
    unfold h_ded
    by_cases c : l = some q.1
    · rw [if_pos c]
      obtain ⟨a1, a2, a3⟩ := ih l (fun p hp => h1 p (List.mem_cons_of_mem _ hp)) h3.2
      exact ⟨fun p hp => ⟨List.mem_cons_of_mem _ (a1 p hp).1, (a1 p hp).2⟩, a2, by rw [List.length_cons]; omega⟩
    · rw [if_neg c]
      obtain ⟨a1, a2, a3⟩ := ih (some q.1) (fun p hp v hv => by cases hv; exact h3.1 p hp) h3.2
      have hq : ∀ v, l = some v → v < q.1 := fun v hv => by
        have := h1 q List.mem_cons_self v hv
        have : v ≠ q.1 := fun e => c (by rw [hv, e])
        omega
      refine ⟨fun p hp => ?_, List.pairwise_cons.mpr ⟨fun p hp => (a1 p hp).2 q.1 rfl, a2⟩, by rw [List.length_cons, List.length_cons]; omega⟩
      rcases List.mem_cons.mp hp with e | e
      · rw [e]; exact ⟨List.mem_cons_self, hq⟩
      · refine ⟨List.mem_cons_of_mem _ (a1 p e).1, fun v hv => ?_⟩
        have := hq v hv
        have := (a1 p e).2 q.1 rfl
        omega
theorem cut_vH {a b : Int} {H : Hl} (hab : 0 ≤ a ∧ a < b ∧ b ≤ 600) (h : vH H) : vH (h_cut a b H) := by
  have hm : (H.map (mvF a b)).Pairwise (fun p q => p.1 ≤ q.1) := by
    rw [List.pairwise_map]
    refine List.Pairwise.imp (fun {p q} hpq => ?_) h.2.2
    show (mvF a b p).1 ≤ (mvF a b q).1
    unfold mvF
    simp only
    (repeat' split) <;> omega
  obtain ⟨a1, a2, a3⟩ := ded_v (K := H.map (mvF a b)) none (fun p _ v hv => by cases hv) hm
  unfold h_cut
  refine ⟨by rw [List.length_map] at a3; have := h.1; omega, fun p hp => ?_, a2⟩
  obtain ⟨q, hq, rfl⟩ := List.mem_map.mp (a1 p hp).1
  have := h.2.1 q hq
  unfold in_ at *
  refine ⟨?_, this.2⟩
  unfold mvF
  simp only
  (repeat' split) <;> omega
/-- an error leaves all as it was; otherwise clips and chapters are valid -/
def lhv_ (M : Int) (S : Tb) (L : List Rw) (H : Hl) (R : Int × List Rw × Hl) : Prop := (R.1 < 0 → R.2 = (L, H)) ∧ vL M S R.2.1 ∧ vH R.2.2
theorem lhv_c {M : Int} {S : Tb} {L : List Rw} {H : Hl} {p : Prop} {a b : Int × List Rw × Hl} (h1 : p → lhv_ M S L H a) (h2 : ¬ p → lhv_ M S L H b) : lhv_ M S L H (cif p a b) := by
  by_cases c : p
  · rw [cif_t c]; exact h1 c
  · rw [cif_f c]; exact h2 c
theorem sum_nn {F : Rw → Int} {L : List Rw} (h : ∀ r ∈ L, 0 ≤ F r) : 0 ≤ (L.map F).sum := by
  induction L with
  | nil => simp
  | cons r L ih =>
    have h1 := h r List.mem_cons_self
    have h2 := ih (fun s hs => h s (List.mem_cons_of_mem _ hs))
    rw [List.map_cons, List.sum_cons]
    omega
theorem cut_v {M : Int} {S : Tb} {L : List Rw} {H : Hl} (h : vL M S L) (hH : vH H) (a b : Int) : lhv_ M S L H (r_cut L H a b) := by
  refine lhv_c (fun _ => ⟨fun _ => rfl, h, hH⟩) (fun q => lhv_c (fun _ => ⟨fun _ => rfl, h, hH⟩) (fun q2 => ⟨fun z => ?_, cut_vL (by omega) h (by omega), cut_vH (by omega) hH⟩))
  have : 0 ≤ (((L.flatMap (spF a)).flatMap (spF b)).map (inn_ a b)).sum := sum_nn (fun r hr => by
    have := okC_sp (f := b) (okC_sp (f := a) h.ok) r hr
    unfold okC in_ at this
    unfold inn_
    (repeat' split) <;> omega)
  have z2 : (((L.flatMap (spF a)).flatMap (spF b)).map (inn_ a b)).sum < 0 := z
  omega
theorem la_ge {L : List Rw} : ∀ r ∈ L, r 1 + r 4 ≤ la_ (ofL L) L.length := by
  intro r hr
  obtain ⟨i, hi⟩ := List.getElem?_of_mem hr
  have hl := (List.getElem?_eq_some_iff.mp hi).1
  have key := fI_i (f := fun a i => if a < en_ (ofL L) i then en_ (ofL L) i else a) (a := 0) (n := (L.length : Int)) (fun a j => ∀ k : Int, 0 ≤ k → k < j → en_ (ofL L) k ≤ a) (fun k k0 k1 => by omega) (by omega) (fun j b j0 j1 hb k k0 k1 => by
    by_cases c : k = j
    · rw [c]; split <;> omega
    · have := hb k k0 (by omega)
      split <;> omega)
  have := key i (by omega) (by omega)
  have e : ofL L (i : Int) = r := by
    unfold ofL
    rw [List.getD_eq_getElem?_getD, show ((i : Int)).toNat = i by omega, hi]
    rfl
  unfold en_ at this
  rw [e] at this
  exact this
theorem ins_vL {M : Int} {S : Tb} {a l : Int} {L : List Rw} {H : Hl} (hl : 1 ≤ l ∧ l ≤ 600) (h : vL M S L) (hb : bck_ L.length (ofL L) H a l) (h24 : (L.flatMap (spF a)).length ≤ 24) : vL M S ((L.flatMap (spF a)).map (gvR a l)) := by
  have hp : ∀ x ∈ L.flatMap (spF a), cokR M S x ∧ ¬ (x 1 < a ∧ a < x 1 + x 4) ∧ (a ≤ x 1 → x 1 + x 4 + l ≤ 600) := fun x hx => by
    obtain ⟨r, hr, hx⟩ := List.mem_flatMap.mp hx
    have o := h.1 r hr
    have ge := la_ge r hr
    have hb1 := hb.1
    have o2 := o.1
    unfold okC in_ at o2
    unfold spF at hx
    split at hx
    · rename_i c
      have ok := (h.1 r hr).1.sp a
      unfold spF at ok
      rw [if_pos c] at ok
      simp only [List.mem_cons, List.not_mem_nil, or_false] at hx
      rcases hx with rfl | rfl
      · refine ⟨⟨ok _ (by simp), by simpa [spl1] using o.2.1, by have := o.2.2; simp [spl1]; omega⟩, by simp [spl1]; omega, by simp [spl1]; omega⟩
      · refine ⟨⟨ok _ (by simp), by simpa [spl2] using o.2.1, by have := o.2.2; simp [spl2]; omega⟩, by simp [spl2]; omega, by simp [spl2]; omega⟩
    · rename_i c
      simp only [List.mem_cons, List.not_mem_nil, or_false] at hx
      subst hx
      exact ⟨o, c, fun q => by omega⟩
  refine ⟨fun x hx => ?_, ?_, by rw [List.length_map]; exact h24⟩
  · obtain ⟨y, hy, rfl⟩ := List.mem_map.mp hx
    obtain ⟨o, c, k⟩ := hp y hy
    unfold gvR
    split
    · rename_i q
      have := k q
      have o2 := o.1
      refine ⟨?_, by simpa [shf] using o.2.1, by simpa [shf] using o.2.2⟩
      unfold okC in_ at o2 ⊢
      simp [shf]
      omega
    · exact o
  · have s1 := srt_sp (f := a) h.2.1 h.ok
    unfold srt_ at s1 ⊢
    rw [List.pairwise_map]
    refine List.Pairwise.imp_of_mem (fun {x y} hx hy hxy => ?_) s1
    obtain ⟨o, c, k⟩ := hp x hx
    obtain ⟨o', c', k'⟩ := hp y hy
    have o2 := o.1
    unfold okC in_ at o2
    unfold bfr_ gvR at *
    by_cases q : a ≤ x 1
    · by_cases q2 : a ≤ y 1
      · rw [if_pos q, if_pos q2]
        simp only [shf]
        simp
        omega
      · rw [if_pos q, if_neg q2]
        simp only [shf]
        simp
        omega
    · by_cases q2 : a ≤ y 1
      · rw [if_neg q, if_pos q2]
        simp only [shf]
        simp
        omega
      · rw [if_neg q, if_neg q2]
        exact hxy
theorem giv_vH {a l : Int} {H : Hl} (hl : 1 ≤ l) (h : vH H) (hb : ∀ p, H.getLast? = some p → p.1 < a ∨ p.1 + l < 600) : vH (h_giv l (bef_ a H) (aft_ a H)) := by
  obtain ⟨h1, h2, h3⟩ := h
  have hba := bef_aft a H
  have h3' := h3
  rw [← hba, List.pairwise_append] at h3
  have hge := aft_ge (x := a) h3'
  unfold h_giv
  refine ⟨?_, fun p hp => ?_, ?_⟩
  · have e := congrArg List.length hba
    rw [List.length_append] at e ⊢
    rw [List.length_map]
    omega
  · rcases List.mem_append.mp hp with q | q
    · exact h2 p (by rw [← hba]; exact List.mem_append_left _ q)
    · obtain ⟨x, hx, rfl⟩ := List.mem_map.mp q
      have hxH : x ∈ H := by rw [← hba]; exact List.mem_append_right _ hx
      have o := h2 x hxH
      have g := hge x hx
      refine ⟨?_, o.2⟩
      have : x.1 + l < 600 := by
        cases hg : H.getLast? with
        | none => rw [List.getLast?_eq_none_iff] at hg; rw [hg] at hxH; simp at hxH
        | some p =>
          have hle : x.1 ≤ p.1 := by
            obtain ⟨K, hK⟩ := List.getLast?_eq_some_iff.mp hg
            rw [hK] at h3' hxH
            rcases List.mem_append.mp hxH with e | e
            · have := (List.pairwise_append.mp h3').2.2 x e p (by simp)
              omega
            · simp at e
              rw [e]
              omega
          have := hb p hg
          omega
      unfold in_ at *
      show 0 ≤ x.1 + l ∧ x.1 + l < 600
      omega
  · rw [List.pairwise_append]
    refine ⟨h3.1, ?_, fun p hp q hq => ?_⟩
    · rw [List.pairwise_map]
      refine List.Pairwise.imp (fun {x y} hxy => ?_) h3.2.1
      show x.1 + l < y.1 + l
      omega
    · obtain ⟨x, hx, rfl⟩ := List.mem_map.mp hq
      have := bef_lt p hp
      have := hge x hx
      show p.1 < x.1 + l
      omega
theorem ins_v {M : Int} {S : Tb} {L : List Rw} {H : Hl} (h : vL M S L) (hH : vH H) (a l : Int) : lhv_ M S L H (r_ins L H a l) := by
  refine lhv_c (fun _ => ⟨fun _ => rfl, h, hH⟩) (fun q => lhv_c (fun _ => ⟨fun _ => rfl, h, hH⟩) (fun q2 => lhv_c (fun _ => ⟨fun _ => rfl, h, hH⟩) (fun q3 => ?_)))
  have hb : bck_ L.length (ofL L) H a l := Classical.byContradiction fun z => q2 z
  refine ⟨fun z => ?_, ins_vL (by omega) h hb (by omega), giv_vH (by omega) hH hb.2⟩
  have z2 : ((L.flatMap (spF a)).length : Int) < 0 := z
  omega
def hv0_ (H : Hl) (R : Int × Hl) : Prop := (R.1 < 0 → R.2 = H) ∧ vH R.2
theorem ent_v {H : Hl} (h : vH H) (f t : Int) : hv0_ H (h_ent H f t) := by
  unfold h_ent
  by_cases c : f < 0 ∨ 600 ≤ f ∨ t < 0 ∨ 99 < t
  · rw [cif_t c]
    exact ⟨fun _ => rfl, h⟩
  · rw [cif_f c]
    obtain ⟨h1, h2, h3⟩ := h
    have hba := bef_aft f H
    have hge := aft_ge (x := f) h3
    have hlen := congrArg List.length hba
    rw [List.length_append] at hlen
    have h3' := h3
    rw [← hba, List.pairwise_append] at h3'
    have mem1 : ∀ p ∈ bef_ f H, p ∈ H := fun p hp => by rw [← hba]; exact List.mem_append_left _ hp
    cases ha : aft_ f H with
    | nil =>
      rw [ha] at hlen
      simp only [List.length_nil] at hlen
      simp only
      split
      · exact ⟨fun _ => rfl, h1, h2, h3⟩
      · refine ⟨fun z => by have z2 : ((bef_ f H).length : Int) < 0 := z; omega, by rw [List.length_append, List.length_cons, List.length_nil]; omega, fun p hp => ?_, ?_⟩
        · rcases List.mem_append.mp hp with q | q
          · exact h2 p (mem1 p q)
          · simp at q
            rw [q]
            exact ⟨by unfold in_; simp only; omega, by unfold in_; simp only; omega⟩
        · show (bef_ f H ++ [(f, t)]).Pairwise _
          rw [List.pairwise_append]
          refine ⟨h3'.1, by simp, fun p hp q hq => ?_⟩
          simp at hq
          rw [hq]
          exact bef_lt p hp
    | cons p B =>
      rw [ha] at hlen h3' hge
      simp only [List.length_cons] at hlen
      have h4 := List.pairwise_cons.mp h3'.2.1
      have mem2 : ∀ q ∈ p :: B, q ∈ H := fun q hq => by rw [← hba, ha]; exact List.mem_append_right _ hq
      simp only
      split
      · rename_i e
        refine ⟨fun z => by have z2 : ((bef_ f H).length : Int) < 0 := z; omega, by rw [List.length_append, List.length_cons]; omega, fun q hq => ?_, ?_⟩
        · rcases List.mem_append.mp hq with q1 | q1
          · exact h2 q (mem1 q q1)
          · rcases List.mem_cons.mp q1 with q2 | q2
            · rw [q2]
              exact ⟨by unfold in_; simp only; omega, by unfold in_; simp only; omega⟩
            · exact h2 q (mem2 q (List.mem_cons_of_mem _ q2))
        · show (bef_ f H ++ (f, t) :: B).Pairwise _
          rw [List.pairwise_append]
          refine ⟨h3'.1, List.pairwise_cons.mpr ⟨fun q hq => by have := h4.1 q hq; show f < q.1; omega, h4.2⟩, fun q hq r hr => ?_⟩
          have := bef_lt q hq
          rcases List.mem_cons.mp hr with e2 | e2
          · rw [e2]; exact this
          · have := h4.1 r e2
            omega
      · rename_i e
        split
        · exact ⟨fun _ => rfl, h1, h2, h3⟩
        · refine ⟨fun z => by have z2 : ((bef_ f H).length : Int) < 0 := z; omega, by rw [List.length_append, List.length_cons, List.length_cons]; omega, fun q hq => ?_, ?_⟩
          · rcases List.mem_append.mp hq with q1 | q1
            · exact h2 q (mem1 q q1)
            · rcases List.mem_cons.mp q1 with q2 | q2
              · rw [q2]
                exact ⟨by unfold in_; simp only; omega, by unfold in_; simp only; omega⟩
              · exact h2 q (mem2 q q2)
          · show (bef_ f H ++ (f, t) :: p :: B).Pairwise _
            rw [List.pairwise_append]
            have hp := hge p List.mem_cons_self
            refine ⟨h3'.1, List.pairwise_cons.mpr ⟨fun q hq => ?_, h3'.2.1⟩, fun q hq r hr => ?_⟩
            · show f < q.1
              rcases List.mem_cons.mp hq with e2 | e2
              · rw [e2]; omega
              · have := h4.1 q e2; omega
            · have := bef_lt q hq
              rcases List.mem_cons.mp hr with e2 | e2
              · rw [e2]; exact this
              · have := hge r e2
                omega
theorem out_v {H : Hl} (h : vH H) (c : Int) : hv0_ H (h_out H c) := by
  unfold h_out
  by_cases q : ¬ (0 ≤ c ∧ c < H.length)
  · rw [cif_t q]
    exact ⟨fun _ => rfl, h⟩
  · rw [cif_f q]
    have hs : (H.eraseIdx c.toNat).Sublist H := List.eraseIdx_sublist H c.toNat
    refine ⟨fun z => by have z2 : (H.length : Int) - 1 < 0 := z; omega, ?_, fun p hp => h.2.1 p (hs.subset hp), h.2.2.sublist hs⟩
    have := hs.length_le
    have := h.1
    show (H.eraseIdx c.toNat).length ≤ 12
    omega

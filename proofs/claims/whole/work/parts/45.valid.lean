/-! commands keep a project valid -/
def cokR (M : Int) (S : Tb) (r : Rw) : Prop := okC r ∧ r 2 < M ∧ r 3 + r 4 ≤ S (r 2) 1
def vL (M : Int) (S : Tb) (L : List Rw) : Prop := (∀ r ∈ L, cokR M S r) ∧ srt_ L ∧ L.length ≤ 24
theorem vL.l4 {M : Int} {S : Tb} {L : List Rw} (h : vL M S L) : ∀ x ∈ L, 1 ≤ x 4 := fun x hx => by
  have := (h.1 x hx).1
  unfold okC in_ at this
  omega
theorem vL.ok {M : Int} {S : Tb} {L : List Rw} (h : vL M S L) : ∀ x ∈ L, okC x := fun x hx => (h.1 x hx).1
/-- a row without what lies beyond its numbers -/
def mk8 (r : Rw) : Rw := fun k => if 0 ≤ k ∧ k < 8 then r k else 0
theorem mk8_is {r : Rw} {k : Int} (h0 : 0 ≤ k) (h1 : k < 8) : mk8 r k = r k := if_pos ⟨h0, h1⟩
def pL (P : Pj) : List Rw := (toL (pN P) (pG P)).map mk8
theorem tl_mk {n : Int} {g : Tb} {L : List Rw} (h : tl_ n g L) : tl_ n g (L.map mk8) := by
  refine ⟨by rw [List.length_map]; exact h.1, fun i r hi k k0 k1 => ?_⟩
  rw [List.getElem?_map] at hi
  cases hL : L[i]? with
  | none => rw [hL] at hi; simp at hi
  | some s =>
    rw [hL] at hi
    simp at hi
    rw [← hi, mk8_is k0 k1]
    exact h.2 i s hL k k0 k1
theorem pL_tl {P : Pj} (h : vP P) : tl_ (pN P) (pG P) (pL P) := tl_mk (tl_toL h.hn.1)
theorem pL_v {P : Pj} (h : vP P) : vL (pM P) (pS P) (pL P) := by
  have hn := h.hn
  unfold in_ at hn
  refine ⟨fun r hr => ?_, ?_, ?_⟩
  · unfold pL toL at hr
    rw [List.map_map] at hr
    obtain ⟨i, hi, rfl⟩ := List.mem_map.mp hr
    have := List.mem_range.mp hi
    have o := h.hc i (by omega) (by omega)
    unfold cokR okC at *
    simp only [Function.comp_apply]
    rw [mk8_is (by omega) (by omega), mk8_is (by omega) (by omega), mk8_is (by omega) (by omega), mk8_is (by omega) (by omega), mk8_is (by omega) (by omega), mk8_is (by omega) (by omega), mk8_is (by omega) (by omega), mk8_is (by omega) (by omega)]
    exact o
  · unfold srt_ pL toL
    rw [List.map_map, List.pairwise_map]
    refine List.Pairwise.imp_of_mem (fun {a b} ha hb hab => ?_) (List.pairwise_lt_range)
    have := List.mem_range.mp ha
    have := List.mem_range.mp hb
    have o := h.hs a b (by omega) (by omega) (by omega)
    unfold bfr_ at *
    simp only [Function.comp_apply]
    rw [mk8_is (by omega) (by omega), mk8_is (by omega) (by omega), mk8_is (by omega) (by omega), mk8_is (by omega) (by omega), mk8_is (by omega) (by omega)]
    exact o
  · unfold pL toL
    simp
    omega
theorem pL_pe {P Q : Pj} (h : pe_ P Q) : pL P = pL Q := by
  unfold pL toL
  rw [pe_N h, List.map_map, List.map_map]
  refine List.map_congr_left (fun i hi => ?_)
  have := List.mem_range.mp hi
  funext k
  simp only [Function.comp_apply]
  by_cases c : 0 ≤ k ∧ k < 8
  · rw [mk8_is c.1 c.2, mk8_is c.1 c.2, pe_G h (by omega) (by omega) c.1 c.2]
  · unfold mk8
    rw [if_neg c, if_neg c]
/-- another list of clips -/
def wL (P : Pj) (L : List Rw) : Pj := (pE P, pT P, pM P, pS P, (L.length : Int), ofL L, pH P)
theorem of_mem {L : List Rw} {i : Int} (h0 : 0 ≤ i) (h1 : i < L.length) : ofL L i ∈ L := by
  unfold ofL
  have hl : i.toNat < L.length := by omega
  rw [List.getD_eq_getElem?_getD, List.getElem?_eq_getElem hl]
  exact List.getElem_mem hl
theorem wL_v {P : Pj} (h : vP P) {L : List Rw} (hL : vL (pM P) (pS P) L) : vP (wL P L) := by
  have hl := hL.2.2
  refine ⟨h.hE, h.hT, h.hS, h.hS2, ⟨by show (0 : Int) ≤ L.length; omega, by show (L.length : Int) < 25; omega⟩, fun c c0 c1 => hL.1 _ (of_mem c0 c1), fun i j i0 ij j1 => ?_, h.hl, h.hh, h.hr⟩
  have j1' : j < L.length := j1
  have hs := hL.2.1
  unfold srt_ at hs
  rw [List.pairwise_iff_getElem] at hs
  have a1 : i.toNat < L.length := by omega
  have a2 : j.toNat < L.length := by omega
  have := hs i.toNat j.toNat a1 a2 (by omega)
  show bfr_ (ofL L i) (ofL L j)
  unfold ofL
  rw [List.getD_eq_getElem?_getD, List.getElem?_eq_getElem a1, List.getD_eq_getElem?_getD, List.getElem?_eq_getElem a2]
  exact this
def o_L (P : Pj) (R : Rl) : Int × Pj := (R.1, wL P R.2)
theorem wL_id {P : Pj} (h : vP P) : pe_ (wL P (pL P)) P := by
  have ht := pL_tl h
  exact ⟨fun _ _ => rfl, eq_T.rf, rfl, eq_T.rf, ht.1.symm, fun i k i0 i1 k0 k1 => (tl_of ht i k i0 (by rw [ht.1]; exact i1) k0 k1).symm, rfl⟩
theorem vL_ins {M : Int} {S : Tb} {L : List Rw} {r : Rw} (h : vL M S L) (hr : cokR M S r) (hf : freR L r) (hl : L.length < 24) : vL M S (insR r L) := by
  have hl4 := h.l4
  obtain ⟨A, B, eL, ha, hb⟩ := ls_split r h.2.1 hl4
  have ia := (ins_at ha hb).1
  rw [← eL] at ia
  rw [ia]
  have hs := h.2.1
  rw [eL] at hs hl
  unfold srt_ at hs
  rw [List.pairwise_append] at hs
  have hr4 : 1 ≤ r 4 := by have := hr.1; unfold okC in_ at this; omega
  refine ⟨fun s hs => ?_, ?_, ?_⟩
  · rcases List.mem_append.mp hs with q | q
    · exact h.1 s (by rw [eL]; exact List.mem_append_left _ q)
    · rcases List.mem_cons.mp q with q | q
      · rw [q]; exact hr
      · exact h.1 s (by rw [eL]; exact List.mem_append_right _ q)
  · have bA : ∀ a ∈ A, bfr_ a r := fun a q => by
      have f := hf a (by rw [eL]; exact List.mem_append_left _ q)
      have l := ha a q
      unfold lsR at l
      simp only [decide_eq_true_eq] at l
      unfold bfr_
      omega
    have bB : ∀ b ∈ B, bfr_ r b := fun b q => by
      have f := hf b (by rw [eL]; exact List.mem_append_right _ q)
      have l := hb b q
      have l4 := hl4 b (by rw [eL]; exact List.mem_append_right _ q)
      unfold lsR at l
      simp only [decide_eq_false_iff_not] at l
      unfold bfr_
      omega
    unfold srt_
    rw [List.pairwise_append]
    refine ⟨hs.1, List.pairwise_cons.mpr ⟨bB, hs.2.1⟩, fun a qa b qb => ?_⟩
    rcases List.mem_cons.mp qb with q | q
    · rw [q]; exact bA a qa
    · exact hs.2.2 a qa b q
  · rw [List.length_append] at hl ⊢
    rw [List.length_cons]
    omega
theorem vL_er {M : Int} {S : Tb} {A B : List Rw} {r : Rw} (h : vL M S (A ++ r :: B)) : vL M S (A ++ B) ∧ cokR M S r ∧ (∀ a ∈ A, bfr_ a r) ∧ (∀ b ∈ B, bfr_ r b) := by
  obtain ⟨h1, h2, h3⟩ := h
  unfold srt_ at h2
  rw [List.pairwise_append] at h2
  have h4 := List.pairwise_cons.mp h2.2.1
  refine ⟨⟨fun s hs => h1 s ?_, ?_, ?_⟩, h1 r (by simp), fun a q => h2.2.2 a q r List.mem_cons_self, h4.1⟩
  · rcases List.mem_append.mp hs with q | q
    · simp [q]
    · simp [q]
  · unfold srt_
    rw [List.pairwise_append]
    exact ⟨h2.1, h4.2, fun a qa b qb => h2.2.2 a qa b (List.mem_cons_of_mem _ qb)⟩
  · simp at h3 ⊢
    omega
theorem vL_put {M : Int} {S : Tb} {A B : List Rw} {r : Rw} (h : vL M S (A ++ B)) (hr : cokR M S r) (ha : ∀ a ∈ A, bfr_ a r) (hb : ∀ b ∈ B, bfr_ r b) (hl : (A ++ B).length < 24) : vL M S (A ++ r :: B) := by
  obtain ⟨h1, h2, h3⟩ := h
  unfold srt_ at h2
  rw [List.pairwise_append] at h2
  refine ⟨fun s hs => ?_, ?_, ?_⟩
  · rcases List.mem_append.mp hs with q | q
    · exact h1 s (List.mem_append_left _ q)
    · rcases List.mem_cons.mp q with q | q
      · rw [q]; exact hr
      · exact h1 s (List.mem_append_right _ q)
  · unfold srt_
    rw [List.pairwise_append]
    refine ⟨h2.1, List.pairwise_cons.mpr ⟨hb, h2.2.1⟩, fun a qa b qb => ?_⟩
    rcases List.mem_cons.mp qb with q | q
    · rw [q]; exact ha a qa
    · exact h2.2.2 a qa b q
  · simp at hl ⊢
    omega
/-- an error leaves all as it was; otherwise the list is valid -/
def lv_ (M : Int) (S : Tb) (L : List Rw) (R : Rl) : Prop := (R.1 < 0 → R.2 = L) ∧ vL M S R.2
theorem lv_c {M : Int} {S : Tb} {L : List Rw} {p : Prop} {a b : Rl} (h1 : p → lv_ M S L a) (h2 : ¬ p → lv_ M S L b) : lv_ M S L (cif p a b) := by
  by_cases c : p
  · rw [cif_t c]; exact h1 c
  · rw [cif_f c]; exact h2 c
theorem lv_e {M : Int} {S : Tb} {L : List Rw} (h : vL M S L) (z : Int) : lv_ M S L (z, L) := ⟨fun _ => rfl, h⟩
theorem l_set_v {M : Int} {S : Tb} {L : List Rw} (h : vL M S L) (c w v : Int) : lv_ M S L (l_set L c w v) := by
  refine lv_c (fun _ => lv_e h _) (fun q => lv_c (fun _ => lv_e h _) (fun q2 => ?_))
  have hc : 0 ≤ c ∧ c < L.length := Classical.byContradiction fun z => q z
  obtain ⟨A, r, B, eL, hA⟩ := split_last (L := L) hc.1 hc.2
  have e1 : gt_ L c = r := by rw [eL]; exact gt_at hA
  rw [e1] at q2 ⊢
  rw [eL] at h ⊢
  have he := vL_er h
  have hl := h.2.2
  have o := he.2.1
  have o2 := o.1
  unfold okC in_ at o2
  refine ⟨fun z => ?_, ?_⟩
  · have : r (5 + w) < 0 := z
    have hw : w = 0 ∨ w = 1 ∨ w = 2 := by omega
    rcases hw with rfl | rfl | rfl
    · have z2 : r 5 < 0 := z; omega
    · have z2 : r 6 < 0 := z; omega
    · have z2 : r 7 < 0 := z; omega
  · show vL M S ((A ++ r :: B).set c.toNat _)
    rw [set_at hA]
    have hw : w = 0 ∨ w = 1 ∨ w = 2 := by omega
    refine vL_put he.1 ?_ (fun a qa => ?_) (fun b qb => ?_) (by simp at hl ⊢; omega)
    · refine ⟨?_, ?_, ?_⟩
      · unfold okC in_
        rcases hw with rfl | rfl | rfl
        · simp; omega
        · simp; omega
        · simp; omega
      · rcases hw with rfl | rfl | rfl
        · simpa using o.2.1
        · simpa using o.2.1
        · simpa using o.2.1
      · rcases hw with rfl | rfl | rfl
        · simpa using o.2.2
        · simpa using o.2.2
        · simpa using o.2.2
    · have := he.2.2.1 a qa
      unfold bfr_ at this ⊢
      rcases hw with rfl | rfl | rfl
      · simpa using this
      · simpa using this
      · simpa using this
    · have := he.2.2.2 b qb
      unfold bfr_ at this ⊢
      rcases hw with rfl | rfl | rfl
      · simpa using this
      · simpa using this
      · simpa using this
theorem mv_ok {M : Int} {S : Tb} {r : Rw} (o : cokR M S r) {t s : Int} (ht : 0 ≤ t ∧ t < 4) (hs : ¬ (s < 0 ∨ 600 - r 4 < s)) : cokR M S (mvR r t s) := by
  obtain ⟨o1, o2, o3⟩ := o
  refine ⟨?_, by simpa [mvR] using o2, by simpa [mvR] using o3⟩
  unfold okC in_ at *
  simp [mvR]
  omega
theorem l_mov_v {M : Int} {S : Tb} {L : List Rw} (h : vL M S L) (c t s : Int) : lv_ M S L (l_mov L c t s) := by
  refine lv_c (fun _ => lv_e h _) (fun q => lv_c (fun _ => lv_e h _) (fun q2 => lv_c (fun _ => lv_e h _) (fun q3 => ⟨fun z => ?_, ?_⟩)))
  · exact absurd z (by unfold insN; simp)
  · have hc : (0 ≤ c ∧ c < L.length) ∧ 0 ≤ t ∧ t < 4 := Classical.byContradiction fun z => q z
    have hf : freR (L.eraseIdx c.toNat) (mvR (gt_ L c) t s) := Classical.byContradiction fun z => q3 z
    obtain ⟨A, r, B, eL, hA⟩ := split_last (L := L) hc.1.1 hc.1.2
    have e1 : gt_ L c = r := by rw [eL]; exact gt_at hA
    have e2 : L.eraseIdx c.toNat = A ++ B := by rw [eL]; exact er_at hA
    rw [e1, e2] at hf ⊢
    rw [e1] at q2
    rw [eL] at h
    have he := vL_er h
    have hl := h.2.2
    exact vL_ins he.1 (mv_ok he.2.1 hc.2 q2) hf (by simp at hl ⊢; omega)
theorem l_dup_v {M : Int} {S : Tb} {L : List Rw} (h : vL M S L) (c t s : Int) : lv_ M S L (l_dup L c t s) := by
  refine lv_c (fun _ => lv_e h _) (fun q => lv_c (fun _ => lv_e h _) (fun q2 => lv_c (fun _ => lv_e h _) (fun q3 => lv_c (fun _ => lv_e h _) (fun q4 => ⟨fun z => ?_, ?_⟩))))
  · exact absurd z (by unfold insN; simp)
  · have hc : (0 ≤ c ∧ c < L.length) ∧ 0 ≤ t ∧ t < 4 := Classical.byContradiction fun z => q z
    have hf : freR L (mvR (gt_ L c) t s) := Classical.byContradiction fun z => q4 z
    obtain ⟨A, r, B, eL, hA⟩ := split_last (L := L) hc.1.1 hc.1.2
    have e1 : gt_ L c = r := by rw [eL]; exact gt_at hA
    have hr : cokR M S (gt_ L c) := h.1 _ (by rw [e1, eL]; simp)
    exact vL_ins h (mv_ok hr hc.2 q2) hf (by omega)
theorem l_rem_v {M : Int} {S : Tb} {L : List Rw} (h : vL M S L) (c : Int) : lv_ M S L (l_rem L c) := by
  refine lv_c (fun _ => lv_e h _) (fun q => ⟨fun z => ?_, ?_⟩)
  · have z2 : (L.length : Int) - 1 < 0 := z
    omega
  · have hc : 0 ≤ c ∧ c < L.length := Classical.byContradiction fun z => q z
    obtain ⟨A, r, B, eL, hA⟩ := split_last (L := L) hc.1 hc.2
    rw [eL] at h ⊢
    show vL M S ((A ++ r :: B).eraseIdx c.toNat)
    rw [er_at hA]
    exact (vL_er h).1
theorem l_add_v {M : Int} {S : Tb} {L : List Rw} (h : vL M S L) (hS : ok_S S M) (t s so of ln : Int) : lv_ M S L (l_add M S L t s so of ln) := by
  refine lv_c (fun _ => lv_e h _) (fun q => lv_c (fun _ => lv_e h _) (fun q2 => lv_c (fun _ => lv_e h _) (fun q3 => lv_c (fun _ => lv_e h _) (fun q4 => ⟨fun z => ?_, ?_⟩))))
  · exact absurd z (by unfold insN; simp)
  · have hc : (0 ≤ t ∧ t < 4) ∧ 0 ≤ so ∧ so < M := Classical.byContradiction fun z => q z
    have hf : freR L (row8 t s so of ln) := Classical.byContradiction fun z => q4 z
    have hM := hS.1
    have hb := (hS.2 so hc.2.1 hc.2.2).2.1
    refine vL_ins h ⟨?_, ?_, ?_⟩ hf (by omega)
    · unfold okC in_ row8
      unfold in_ at hM hb
      simp
      omega
    · show so < M
      exact hc.2.2
    · show of + ln ≤ S so 1
      omega
theorem l_div_v {M : Int} {S : Tb} {L : List Rw} (h : vL M S L) (c a : Int) : lv_ M S L (l_div L c a) := by
  refine lv_c (fun _ => lv_e h _) (fun q => lv_c (fun _ => lv_e h _) (fun q2 => lv_c (fun _ => lv_e h _) (fun q3 => ⟨fun z => ?_, ?_⟩)))
  · have z2 : c + 1 < 0 := z
    omega
  · have hc : 0 ≤ c ∧ c < L.length := Classical.byContradiction fun z => q z
    obtain ⟨A, r, B, eL, hA⟩ := split_last (L := L) hc.1 hc.2
    have e1 : gt_ L c = r := by rw [eL]; exact gt_at hA
    rw [e1] at q2 ⊢
    rw [eL] at h q3 ⊢
    show vL M S ((A ++ r :: B).take c.toNat ++ spl1 r a :: spl2 r a :: (A ++ r :: B).drop (c.toNat + 1))
    rw [(td_at hA).1, (td_at hA).2]
    have he := vL_er h
    have hl := h.2.2
    have o := he.2.1
    have o2 := o.1
    unfold okC in_ at o2
    have k1 : cokR M S (spl1 r a) := by
      refine ⟨?_, by simpa [spl1] using o.2.1, by have := o.2.2; simp [spl1]; omega⟩
      unfold okC in_ spl1
      simp
      split <;> omega
    have k2 : cokR M S (spl2 r a) := by
      refine ⟨?_, by simpa [spl2] using o.2.1, by have := o.2.2; simp [spl2]; omega⟩
      unfold okC in_ spl2
      simp
      split <;> omega
    have s1 : vL M S (A ++ spl2 r a :: B) := vL_put he.1 k2 (fun x hx => by
      have := he.2.2.1 x hx
      unfold bfr_ at this ⊢
      simp [spl2]
      omega) (fun x hx => by
      have := he.2.2.2 x hx
      unfold bfr_ at this ⊢
      simp [spl2]
      omega) (by simp at hl ⊢; omega)
    refine vL_put s1 k1 (fun x hx => by
      have := he.2.2.1 x hx
      unfold bfr_ at this ⊢
      simpa [spl1] using this) (fun x hx => ?_) (by simp at q3 ⊢; omega)
    rcases List.mem_cons.mp hx with e | e
    · rw [e]
      unfold bfr_
      simp [spl1, spl2]
    · have := he.2.2.2 x e
      unfold bfr_ at this ⊢
      simp [spl1]
      omega
theorem l_trm_v {M : Int} {S : Tb} {L : List Rw} (h : vL M S L) (hS : ok_S S M) (c sd fr : Int) : lv_ M S L (l_trm S L c sd fr) := by
  refine lv_c (fun _ => lv_e h _) (fun q => lv_c (fun _ => lv_e h _) (fun q2 => lv_c (fun _ => lv_e h _) (fun q3 => lv_c (fun _ => lv_e h _) (fun q4 => ⟨fun z => ?_, ?_⟩))))
  · have z2 : gt_ L c 4 - fr < 0 := z
    omega
  · have hc : 0 ≤ c ∧ c < L.length := Classical.byContradiction fun z => q z
    have hf : freR (L.eraseIdx c.toNat) (trR (gt_ L c) sd fr) := Classical.byContradiction fun z => q4 z
    obtain ⟨A, r, B, eL, hA⟩ := split_last (L := L) hc.1 hc.2
    have e1 : gt_ L c = r := by rw [eL]; exact gt_at hA
    have e2 : L.eraseIdx c.toNat = A ++ B := by rw [eL]; exact er_at hA
    rw [e1] at q2 q3 hf ⊢
    rw [e2] at hf
    rw [eL] at h ⊢
    show vL M S ((A ++ r :: B).set c.toNat _)
    rw [set_at hA]
    have he := vL_er h
    have hl := h.2.2
    have o := he.2.1
    have o2 := o.1
    unfold okC in_ at o2
    have sb := (hS.2 (r 2) (by omega) o.2.1).2.1
    unfold in_ at sb
    have t0 : trR r sd fr 0 = r 0 := by simp [trR]
    have t1 : trR r sd fr 1 = r 1 + (if sd = 0 then fr else 0) := by simp [trR]
    have t2 : trR r sd fr 2 = r 2 := by simp [trR]
    have t3 : trR r sd fr 3 = r 3 + (if sd = 0 then fr else 0) := by simp [trR]
    have t4 : trR r sd fr 4 = r 4 - fr := by simp [trR]
    have t5 : trR r sd fr 5 = r 5 := by simp [trR]
    have t6 : trR r sd fr 6 = if r 4 - fr < r 6 then r 4 - fr else r 6 := by simp [trR]
    have t7 : trR r sd fr 7 = if r 4 - fr - (if r 4 - fr < r 6 then r 4 - fr else r 6) < r 7 then r 4 - fr - (if r 4 - fr < r 6 then r 4 - fr else r 6) else r 7 := by simp [trR]
    rw [t1, t3] at q3
    have hf2 : ∀ x ∈ A ++ B, ¬ (x 0 = r 0 ∧ trR r sd fr 1 < x 1 + x 4 ∧ x 1 < trR r sd fr 1 + trR r sd fr 4) := fun x hx => by
      have := hf x hx
      rw [t0] at this
      exact this
    have hl4 := he.1.l4
    refine vL_put he.1 ⟨?_, by rw [t2]; exact o.2.1, by rw [t2, t3, t4]; omega⟩ (fun x hx => ?_) (fun x hx => ?_) (by simp at hl ⊢; omega)
    · unfold okC in_
      rw [t0, t1, t2, t3, t4, t5, t6, t7]
      (repeat' split) <;> omega
    · have b := he.2.2.1 x hx
      have f := hf2 x (List.mem_append_left _ hx)
      have l4 := hl4 x (List.mem_append_left _ hx)
      rw [t1, t4] at f
      unfold bfr_ at b ⊢
      rw [t0, t1]
      by_cases c0 : sd = 0
      · rw [if_pos c0] at *
        omega
      · rw [if_neg c0] at *
        omega
    · have b := he.2.2.2 x hx
      have f := hf2 x (List.mem_append_right _ hx)
      have l4 := hl4 x (List.mem_append_right _ hx)
      rw [t1, t4] at f
      unfold bfr_ at b ⊢
      rw [t0, t1, t4]
      by_cases c0 : sd = 0
      · rw [if_pos c0] at *
        omega
      · rw [if_neg c0] at *
        omega

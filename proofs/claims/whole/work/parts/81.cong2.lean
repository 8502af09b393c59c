/-! commands do the same to projects that are the same -/
theorem o_L_pe {P Q : Pj} (h : pe_ P Q) {R S : Rl} (e : R = S) : oe_ (o_L P R) (o_L Q S) := by
  subst e
  exact ⟨rfl, wL_pe h _⟩
theorem cset_pe {P Q : Pj} (h : pe_ P Q) (c w v : Int) : oe_ (o_cset P c w v) (o_cset Q c w v) := by
  unfold o_cset
  rw [pL_pe h]
  exact o_L_pe h rfl
theorem dup_pe {P Q : Pj} (h : pe_ P Q) (c t s : Int) : oe_ (o_dup P c t s) (o_dup Q c t s) := by
  unfold o_dup
  rw [pL_pe h]
  exact o_L_pe h rfl
theorem add_pe {P Q : Pj} (h : pe_ P Q) (t s so of ln : Int) : oe_ (o_add P t s so of ln) (o_add Q t s so of ln) := by
  unfold o_add
  rw [← pL_pe h]
  refine o_L_pe h ?_
  unfold l_add
  refine cif_g (by rw [pe_M h]) (fun _ => rfl) (fun c => ?_)
  rw [pe_M h] at c
  have c' : (0 ≤ t ∧ t < 4) ∧ 0 ≤ so ∧ so < pM P := Classical.byContradiction c
  rw [pe_S h c'.2.1 c'.2.2 (by omega) (by omega)]
theorem trm_pe {P Q : Pj} (hV : vP P) (h : pe_ P Q) (c sd fr : Int) : oe_ (o_trm P c sd fr) (o_trm Q c sd fr) := by
  unfold o_trm
  rw [← pL_pe h]
  refine o_L_pe h ?_
  unfold l_trm
  refine cif_g Iff.rfl (fun _ => rfl) (fun q => ?_)
  have c' : 0 ≤ c ∧ c < (pL P).length := Classical.byContradiction q
  obtain ⟨A, r, B, e, hc⟩ := split_last (L := pL P) c'.1 c'.2
  have o := (pL_v hV).1 r (by rw [e]; simp)
  have o2 := o.1
  unfold okC in_ at o2
  have hg : gt_ (pL P) c = r := by rw [e]; exact gt_at hc
  rw [hg, pe_S h (i := r 2) (by omega) o.2.1 (by omega) (by omega)]
theorem out_pe {P Q : Pj} (h : pe_ P Q) (c : Int) : oe_ (o_out P c) (o_out Q c) := by
  unfold o_out
  rw [pe_H h]
  exact ⟨rfl, wH_pe h _⟩
theorem set_pe {P Q : Pj} (h : pe_ P Q) (w v : Int) : oe_ (o_set P w v) (o_set Q w v) := by
  unfold o_set
  by_cases c : badE w v
  · rw [cif_t c, cif_t c]; exact ⟨rfl, h⟩
  · rw [cif_f c, cif_f c]
    have hw : 0 ≤ w ∧ w < 5 := by
      unfold badE at c
      omega
    refine ⟨h.1 _ (by omega), fun i i5 => ?_, h.2⟩
    show am_up (pE P) w.toNat v i = am_up (pE Q) w.toNat v i
    by_cases q : i = w.toNat
    · rw [q, up_s, up_s]
    · rw [up_n q, up_n q]
      exact h.1 i i5
theorem setE_pe {P Q : Pj} (h : pe_ P Q) (v : Int) : pe_ (am_up (pE P) 0 v, P.2) (am_up (pE Q) 0 v, Q.2) := by
  refine ⟨fun i i5 => ?_, h.2⟩
  show am_up (pE P) 0 v i = am_up (pE Q) 0 v i
  by_cases q : i = 0
  · rw [q, up_s, up_s]
  · rw [up_n q, up_n q]
    exact h.1 i i5
theorem nor_pe {P Q : Pj} (hV : vP P) (h : pe_ P Q) (t : Int) : oe_ (o_nor P t) (o_nor Q t) := by
  unfold o_nor
  rw [master_pe hV h]
  refine ⟨rfl, ?_⟩
  show pe_ (if 0 < q_master P t then _ else _) (if 0 < q_master P t then _ else _)
  split
  · exact setE_pe h _
  · exact h
theorem trk_pe {P Q : Pj} (h : pe_ P Q) (t w v : Int) : oe_ (o_trk P t w v) (o_trk Q t w v) := by
  by_cases c : 0 ≤ t ∧ t < 4
  · by_cases c2 : okTr t w v
    · rw [trk_3 ⟨c, c2⟩, trk_3 ⟨c, c2⟩]
      have hw : 0 ≤ w ∧ w < 7 := ⟨c2.1, c2.2.1⟩
      refine ⟨(tn_pe h c.1 c.2 hw.1 hw.2).symm, h.1, ?_, h.2.2⟩
      show eq_T 4 7 (up_T (pT P) t w v) (up_T (pT Q) t w v)
      exact eq_T.up h.2.1 t w v
    · rw [trk_2 c c2, trk_2 c c2]; exact ⟨rfl, h⟩
  · rw [trk_1 c, trk_1 c]; exact ⟨rfl, h⟩
theorem src_pe {P Q : Pj} (h : pe_ P Q) (k n a b : Int) : oe_ (o_src P k n a b) (o_src Q k n a b) := by
  unfold o_src r_src
  rw [pe_M h]
  by_cases c : badS k n a b
  · rw [cif_t c, cif_t c]
    exact ⟨rfl, h.1, h.2.1, rfl, h.2.2.2.1, h.2.2.2.2⟩
  · rw [cif_f c, cif_f c]
    by_cases c2 : 6 ≤ pM P
    · rw [cif_t c2, cif_t c2]
      exact ⟨rfl, h.1, h.2.1, rfl, h.2.2.2.1, h.2.2.2.2⟩
    · rw [cif_f c2, cif_f c2]
      refine ⟨rfl, h.1, h.2.1, rfl, fun i j i0 i1 j0 j1 => ?_, h.2.2.2.2⟩
      have i1' : i < pM P + 1 := i1
      show ins_T (pS P) (pM P) (row4 k n a b) i j = ins_T (pS Q) (pM P) (row4 k n a b) i j
      unfold ins_T
      by_cases q : i < pM P
      · rw [if_pos q, if_pos q]
        exact h.2.2.2.1 i j i0 q j0 j1
      · rw [if_neg q, if_neg q, if_pos (by omega), if_pos (by omega)]
theorem tigk_pe {S : Sl} {n : Int} : ∀ (k : Nat) (x : Int) {P Q : Pj}, pe_ P Q → oe_ (tig_ S n k x P) (tig_ S n k x Q)
  | 0, x, P, Q, h => ⟨rfl, h⟩
  | k + 1, x, P, Q, h => by
    rw [tig_s, tig_s]
    obtain ⟨c1, c2⟩ := cut_pe h ((S.getD k (0, 0)).1 + n) ((S.getD k (0, 0)).1 + (S.getD k (0, 0)).2)
    rw [← c1]
    split
    · exact tigk_pe k _ h
    · split
      · exact ⟨rfl, h⟩
      · exact tigk_pe k _ c2
theorem tig_pe {P Q : Pj} (hV : vP P) (h : pe_ P Q) (v n : Int) : oe_ (o_tig P v n) (o_tig Q v n) := by
  unfold o_tig
  rw [silP_pe hV h]
  by_cases c : ¬ ((1 ≤ v ∧ v ≤ 999) ∧ 1 ≤ n ∧ n ≤ 600)
  · rw [cif_t c, cif_t c]; exact ⟨rfl, h⟩
  · rw [cif_f c, cif_f c]
    have := tigk_pe (S := silP P v n) (n := n) (silP P v n).length 0 h
    rw [← this.1]
    split
    · exact ⟨rfl, h⟩
    · exact this
theorem exe_pe : ∀ (cs : List Cm) (i : Int) {P Q : Pj}, pe_ P Q → (exe_ cs i P).1 = (exe_ cs i Q).1 ∧ (exe_ cs i P).2.1 = (exe_ cs i Q).2.1 ∧ pe_ (exe_ cs i P).2.2 (exe_ cs i Q).2.2
  | [], i, P, Q, h => ⟨rfl, rfl, h⟩
  | c :: cs, i, P, Q, h => by
    rw [exe_s, exe_s]
    obtain ⟨c1, c2⟩ := cmd_pe h c
    rw [← c1]
    split
    · exact ⟨rfl, rfl, h⟩
    · exact exe_pe cs (i + 1) c2
theorem exe_v : ∀ (cs : List Cm) (i : Int) {P : Pj}, vP P → vP (exe_ cs i P).2.2
  | [], i, P, h => h
  | c :: cs, i, P, h => by
    rw [exe_s]
    split
    · exact h
    · exact exe_v cs (i + 1) (ov_cmd h c).2

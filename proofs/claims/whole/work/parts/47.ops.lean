/-! what the commands do to a project's value -/
noncomputable def o_set (P : Pj) (w v : Int) : Int × Pj := cif (badE w v) (-2, P) (pE P w.toNat, (am_up (pE P) w.toNat v, P.2))
noncomputable def o_trk (P : Pj) (t w v : Int) : Int × Pj := cif (¬ (0 ≤ t ∧ t < 4)) (-1, P) (cif (¬ okTr t w v) (-2, P) (q_tn P t w, (pE P, up_T (pT P) t w v, P.2.2)))
noncomputable def o_src (P : Pj) (k n a b : Int) : Int × Pj := ((r_src (pM P) (pS P) k n a b).1, (pE P, pT P, (r_src (pM P) (pS P) k n a b).2.1, (r_src (pM P) (pS P) k n a b).2.2, pN P, pG P, pH P))
noncomputable def o_nor (P : Pj) (t : Int) : Int × Pj := (q_master P t, if 0 < q_master P t then (am_up (pE P) 0 (q_master P t), P.2) else P)
noncomputable def o_add (P : Pj) (t s so of ln : Int) : Int × Pj := o_L P (l_add (pM P) (pS P) (pL P) t s so of ln)
noncomputable def o_cset (P : Pj) (c w v : Int) : Int × Pj := o_L P (l_set (pL P) c w v)
noncomputable def o_mov (P : Pj) (c t s : Int) : Int × Pj := o_L P (l_mov (pL P) c t s)
noncomputable def o_dup (P : Pj) (c t s : Int) : Int × Pj := o_L P (l_dup (pL P) c t s)
noncomputable def o_div (P : Pj) (c a : Int) : Int × Pj := o_L P (l_div (pL P) c a)
noncomputable def o_rem (P : Pj) (c : Int) : Int × Pj := o_L P (l_rem (pL P) c)
noncomputable def o_trm (P : Pj) (c sd fr : Int) : Int × Pj := o_L P (l_trm (pS P) (pL P) c sd fr)
noncomputable def o_cut (P : Pj) (a b : Int) : Int × Pj := o_LH P (r_cut (pL P) (pH P) a b)
noncomputable def o_ins (P : Pj) (a l : Int) : Int × Pj := o_LH P (r_ins (pL P) (pH P) a l)
noncomputable def o_ent (P : Pj) (f t : Int) : Int × Pj := o_H P (h_ent (pH P) f t)
noncomputable def o_out (P : Pj) (c : Int) : Int × Pj := o_H P (h_out (pH P) c)
/-- an error changes nothing; otherwise the project is valid -/
def ov_ (P : Pj) (R : Int × Pj) : Prop := (R.1 < 0 → pe_ R.2 P) ∧ vP R.2
theorem ov_L {P : Pj} (h : vP P) {R : Rl} (hR : lv_ (pM P) (pS P) (pL P) R) : ov_ P (o_L P R) := by
  refine ⟨fun z => ?_, wL_v h hR.2⟩
  show pe_ (wL P R.2) P
  rw [hR.1 z]
  exact wL_id h
theorem ov_LH {P : Pj} (h : vP P) {R : Int × List Rw × Hl} (hR : lhv_ (pM P) (pS P) (pL P) (pH P) R) : ov_ P (o_LH P R) := by
  refine ⟨fun z => ?_, wLH_v h hR.2.1 hR.2.2⟩
  show pe_ (wLH P R.2.1 R.2.2) P
  rw [hR.1 z]
  exact wL_id h
theorem ov_H {P : Pj} (h : vP P) {R : Int × Hl} (hR : hv0_ (pH P) R) : ov_ P (o_H P R) := by
  refine ⟨fun z => ?_, wH_v h hR.2⟩
  show pe_ (wH P R.2) P
  rw [hR.1 z]
  exact pe_rf
theorem ov_add {P : Pj} (h : vP P) (t s so of ln : Int) : ov_ P (o_add P t s so of ln) := ov_L h (l_add_v (pL_v h) h.hS t s so of ln)
theorem ov_cset {P : Pj} (h : vP P) (c w v : Int) : ov_ P (o_cset P c w v) := ov_L h (l_set_v (pL_v h) c w v)
theorem ov_mov {P : Pj} (h : vP P) (c t s : Int) : ov_ P (o_mov P c t s) := ov_L h (l_mov_v (pL_v h) c t s)
theorem ov_dup {P : Pj} (h : vP P) (c t s : Int) : ov_ P (o_dup P c t s) := ov_L h (l_dup_v (pL_v h) c t s)
theorem ov_div {P : Pj} (h : vP P) (c a : Int) : ov_ P (o_div P c a) := ov_L h (l_div_v (pL_v h) c a)
theorem ov_rem {P : Pj} (h : vP P) (c : Int) : ov_ P (o_rem P c) := ov_L h (l_rem_v (pL_v h) c)
theorem ov_trm {P : Pj} (h : vP P) (c sd fr : Int) : ov_ P (o_trm P c sd fr) := ov_L h (l_trm_v (pL_v h) h.hS c sd fr)
theorem ov_cut {P : Pj} (h : vP P) (a b : Int) : ov_ P (o_cut P a b) := ov_LH h (cut_v (pL_v h) (vP_H h) a b)
theorem ov_ins {P : Pj} (h : vP P) (a l : Int) : ov_ P (o_ins P a l) := ov_LH h (ins_v (pL_v h) (vP_H h) a l)
theorem ov_ent {P : Pj} (h : vP P) (f t : Int) : ov_ P (o_ent P f t) := ov_H h (ent_v (vP_H h) f t)
theorem ov_out {P : Pj} (h : vP P) (c : Int) : ov_ P (o_out P c) := ov_H h (out_v (vP_H h) c)
theorem ov_set {P : Pj} (h : vP P) (w v : Int) : ov_ P (o_set P w v) := by
  unfold o_set
  by_cases c : badE w v
  · rw [cif_t c]; exact ⟨fun _ => pe_rf, h⟩
  · rw [cif_f c]
    have hE := h.hE
    unfold badE at c
    have hw : w = 0 ∨ w = 1 ∨ w = 2 ∨ w = 3 ∨ w = 4 := by omega
    unfold ok_E in_ at hE
    refine ⟨fun z => ?_, ?_, h.hT, h.hS, h.hS2, h.hn, h.hc, h.hs, h.hl, h.hh, h.hr⟩
    · have z2 : pE P w.toNat < 0 := z
      rcases hw with rfl | rfl | rfl | rfl | rfl <;> (simp at z2; omega)
    · show ok_E (am_up (pE P) w.toNat v)
      unfold ok_E in_
      rcases hw with rfl | rfl | rfl | rfl | rfl <;> (simp [am_sv] at c; simp [am_up]; omega)
/-- a track's number may be set -/
def b_trk (t w v : Int) : Prop := (0 ≤ t ∧ t < 4) ∧ okTr t w v
theorem trk_v {P : Pj} (h : vP P) {t w v : Int} (b : b_trk t w v) : vP (pE P, up_T (pT P) t w v, P.2.2) := by
  obtain ⟨ht, b⟩ := b
  unfold okTr at b
  have hw : w = 0 ∨ w = 1 ∨ w = 2 ∨ w = 3 ∨ w = 4 ∨ w = 5 ∨ w = 6 := by omega
  refine ⟨h.hE, fun u u0 u1 => ?_, h.hS, h.hS2, h.hn, h.hc, h.hs, h.hl, h.hh, h.hr⟩
  have ku := h.hT u u0 u1
  show in_ 0 201 (up_T (pT P) t w v u 0) ∧ in_ 0 2 (up_T (pT P) t w v u 1) ∧ in_ 0 2 (up_T (pT P) t w v u 2) ∧ in_ (-1) 4 (up_T (pT P) t w v u 3) ∧ up_T (pT P) t w v u 3 ≠ u ∧ in_ 0 1000 (up_T (pT P) t w v u 4) ∧ in_ 0 101 (up_T (pT P) t w v u 5) ∧ in_ 0 21 (up_T (pT P) t w v u 6)
  by_cases e : u = t
  · subst e
    unfold in_ at ku ⊢
    rcases hw with rfl | rfl | rfl | rfl | rfl | rfl | rfl <;> (simp [am_sv] at b; simp [up_T]; omega)
  · unfold up_T
    simp only [e, false_and, if_false]
    exact ku
theorem trk_1 {P : Pj} {t w v : Int} (c : ¬ (0 ≤ t ∧ t < 4)) : o_trk P t w v = (-1, P) := cif_t c
theorem trk_2 {P : Pj} {t w v : Int} (c : 0 ≤ t ∧ t < 4) (c2 : ¬ okTr t w v) : o_trk P t w v = (-2, P) := (cif_f (fun z => z c)).trans (cif_t c2)
theorem trk_3 {P : Pj} {t w v : Int} (b : b_trk t w v) : o_trk P t w v = (q_tn P t w, (pE P, up_T (pT P) t w v, P.2.2)) := (cif_f (fun z => z b.1)).trans (cif_f (fun z => z b.2))
theorem ov_src {P : Pj} (h : vP P) (k n a b : Int) : ov_ P (o_src P k n a b) := by
  unfold o_src r_src
  by_cases c : badS k n a b
  · rw [cif_t c]; exact ⟨fun _ => pe_rf, h⟩
  · rw [cif_f c]
    by_cases c2 : 6 ≤ pM P
    · rw [cif_t c2]; exact ⟨fun _ => pe_rf, h⟩
    · rw [cif_f c2]
      have hM := h.hS.1
      unfold in_ at hM
      unfold badS at c
      have hk : k = 0 ∨ k = 1 ∨ k = 2 ∨ k = 3 := by omega
      have old : ∀ i j, 0 ≤ i → i < pM P → ins_T (pS P) (pM P) (row4 k n a b) i j = pS P i j := fun i j i0 i1 => by unfold ins_T; rw [if_pos i1]
      have new : ∀ j, ins_T (pS P) (pM P) (row4 k n a b) (pM P) j = row4 k n a b j := fun j => by unfold ins_T; rw [if_neg (by omega), if_pos rfl]
      refine ⟨fun z => ?_, h.hE, h.hT, ⟨?_, fun i i0 i1 => ?_⟩, fun i i0 i1 => ?_, h.hn, fun c c0 c1 => ?_, h.hs, h.hl, h.hh, h.hr⟩
      · have z2 : pM P < 0 := z
        omega
      · show in_ 0 7 (pM P + 1)
        unfold in_; omega
      · show in_ 0 4 (ins_T (pS P) (pM P) (row4 k n a b) i 0) ∧ in_ 1 201 (ins_T (pS P) (pM P) (row4 k n a b) i 1) ∧ in_ 0 1000 (ins_T (pS P) (pM P) (row4 k n a b) i 2) ∧ in_ 0 1000 (ins_T (pS P) (pM P) (row4 k n a b) i 3)
        have i1' : i < pM P + 1 := i1
        by_cases q : i < pM P
        · rw [old i 0 i0 q, old i 1 i0 q, old i 2 i0 q, old i 3 i0 q]
          exact h.hS.2 i i0 q
        · have e : i = pM P := by omega
          rw [e, new, new, new, new]
          unfold in_
          rcases hk with rfl | rfl | rfl | rfl <;> (simp [am_sv] at c; simp [row4]; omega)
      · show ins_T (pS P) (pM P) (row4 k n a b) i 0 = 2 → 1 ≤ ins_T (pS P) (pM P) (row4 k n a b) i 3
        have i1' : i < pM P + 1 := i1
        by_cases q : i < pM P
        · rw [old i 0 i0 q, old i 3 i0 q]
          exact h.hS2 i i0 q
        · have e : i = pM P := by omega
          rw [e, new, new]
          rcases hk with rfl | rfl | rfl | rfl <;> (simp [am_sv] at c; simp [row4] <;> omega)
      · obtain ⟨o, o2, o3⟩ := h.hc c c0 c1
        have o4 := o
        unfold okC in_ at o4
        refine ⟨o, ?_, ?_⟩
        · show pG P c 2 < pM P + 1
          omega
        · show pG P c 3 + pG P c 4 ≤ ins_T (pS P) (pM P) (row4 k n a b) (pG P c 2) 1
          rw [old _ 1 (by omega) o2]
          exact o3
theorem ov_nor {P : Pj} (h : vP P) (t : Int) : ov_ P (o_nor P t) := by
  have b : q_master P t < 0 ∨ (1 ≤ q_master P t ∧ q_master P t ≤ 400) := by
    unfold q_master
    by_cases c : t < 1 ∨ 999 < t
    · rw [cif_t c]; omega
    · rw [cif_f c]
      rcases gm_b (F := loP P) (t := t * t) 400 with e | e
      · omega
      · right; exact e
  unfold o_nor
  rcases b with b | b
  · rw [if_neg (by omega)]
    exact ⟨fun _ => pe_rf, h⟩
  · rw [if_pos (by omega)]
    have hE := h.hE
    unfold ok_E in_ at hE
    refine ⟨fun z => ?_, ?_, h.hT, h.hS, h.hS2, h.hn, h.hc, h.hs, h.hl, h.hh, h.hr⟩
    · have z2 : q_master P t < 0 := z
      omega
    · show ok_E (am_up (pE P) 0 (q_master P t))
      unfold ok_E in_
      simp [am_up]
      omega

/-! questions answer the same on projects that are the same -/
theorem mx_c {F G : Int → Int} {n : Int} (h : ∀ i, 0 ≤ i → i < n → F i = G i) : mx_ F n = mx_ G n := fI_c (fun i b h0 h1 => by rw [h i h0 h1])
theorem cif_g {α : Type} {p q : Prop} {a b c d : α} (h : p ↔ q) (h1 : q → a = c) (h2 : ¬ q → b = d) : cif p a b = cif q c d := by
  by_cases c : q
  · rw [cif_t c, cif_t (h.mpr c)]; exact h1 c
  · rw [cif_f c, cif_f (fun z => c (h.mp z))]; exact h2 c
theorem mixP_pe {P Q : Pj} (hV : vP P) (h : pe_ P Q) : mixP Q = mixP P := by
  funext f
  unfold mixP
  rw [suP_pe hV h, pe_E h (by omega)]
theorem winP_pe {P Q : Pj} (h : pe_ P Q) : winP Q = winP P := by
  unfold winP
  rw [la_pe h, pe_E h (by omega)]
theorem lvP_pe {P Q : Pj} (hV : vP P) (h : pe_ P Q) (ms : Int) : lvP Q ms = lvP P ms := by
  unfold lvP
  rw [suP_pe hV h, pe_E h (by omega)]
theorem gtP_pe {P Q : Pj} (h : pe_ P Q) : gtP Q = gtP P := by
  unfold gtP
  rw [pe_E h (by omega)]
theorem silP_pe {P Q : Pj} (hV : vP P) (h : pe_ P Q) (v n : Int) : silP Q v n = silP P v n := by
  unfold silP
  rw [mixP_pe hV h, la_pe h]
theorem onP_pe {P Q : Pj} (hV : vP P) (h : pe_ P Q) (t f : Int) : onP Q t f = onP P t f := ont_pe hV h
theorem tn_pe {P Q : Pj} (h : pe_ P Q) {t w : Int} (t0 : 0 ≤ t) (t1 : t < 4) (w0 : 0 ≤ w) (w1 : w < 7) : q_tn Q t w = q_tn P t w := by
  unfold q_tn
  rw [pe_T h t0 t1 w0 w1, pe_T h t0 t1 (by omega) (by omega)]
theorem source_pe {P Q : Pj} (h : pe_ P Q) (s w : Int) : q_source Q s w = q_source P s w := by
  unfold q_source
  refine cif_g (by rw [pe_M h]) (fun _ => rfl) (fun c => cif_g Iff.rfl (fun _ => rfl) (fun c2 => ?_))
  have c' : 0 ≤ s ∧ s < pM P := Classical.byContradiction c
  have e1 : cnt_ (fun i => decide (pG Q i 2 = s)) (fun _ => 1) (pN Q) = cnt_ (fun i => decide (pG P i 2 = s)) (fun _ => 1) (pN P) := by
    rw [pe_N h]
    exact cnt_c (fun i i0 i1 => ⟨by rw [pe_G h i0 i1 (by omega) (by omega)], rfl⟩)
  have e2 : mx_ (wav_ (pS Q) s) (pS Q s 1) = mx_ (wav_ (pS P) s) (pS P s 1) := by
    rw [pe_S h c'.1 c'.2 (by omega) (by omega)]
    exact mx_c (fun i _ _ => wav_pe h c'.1 c'.2)
  rw [e1, e2]
  by_cases q4 : w = 4
  · rw [if_pos q4, if_pos q4]
  · rw [if_neg q4, if_neg q4]
    by_cases q5 : w = 5
    · rw [if_pos q5, if_pos q5]
    · rw [if_neg q5, if_neg q5, pe_S h c'.1 c'.2 (by omega) (by omega)]
theorem svalue_pe {P Q : Pj} (h : pe_ P Q) (s f : Int) : q_svalue Q s f = q_svalue P s f := by
  unfold q_svalue
  by_cases c : 0 ≤ s ∧ s < pM P
  · exact cif_g (by rw [pe_M h, pe_S h c.1 c.2 (by omega) (by omega)]) (fun _ => rfl) (fun _ => wav_pe h c.1 c.2)
  · rw [cif_t (by rw [pe_M h]; omega), cif_t (by omega)]
theorem track_pe {P Q : Pj} (hV : vP P) (h : pe_ P Q) (t w : Int) : q_track Q t w = q_track P t w := by
  unfold q_track
  refine cif_g Iff.rfl (fun _ => rfl) (fun c => cif_g Iff.rfl (fun _ => rfl) (fun c2 => ?_))
  have c' : 0 ≤ t ∧ t < 4 := Classical.byContradiction c
  have e8 : cnt_ (fun i => decide (pG Q i 0 = t)) (fun _ => 1) (pN Q) = cnt_ (fun i => decide (pG P i 0 = t)) (fun _ => 1) (pN P) := by
    rw [pe_N h]
    exact cnt_c (fun i i0 i1 => ⟨by rw [pe_G h i0 i1 (by omega) (by omega)], rfl⟩)
  have e9 : cnt_ (fun i => decide (pG Q i 0 = t)) (fun i => pG Q i 4) (pN Q) = cnt_ (fun i => decide (pG P i 0 = t)) (fun i => pG P i 4) (pN P) := by
    rw [pe_N h]
    exact cnt_c (fun i i0 i1 => ⟨by rw [pe_G h i0 i1 (by omega) (by omega)], pe_G h i0 i1 (by omega) (by omega)⟩)
  have e10 : sm_ (fun f => cif (dukP Q t f) (1 : Int) 0) (laP Q) = sm_ (fun f => cif (dukP P t f) 1 0) (laP P) := by
    rw [la_pe h]
    exact sm_c (fun f _ _ => cif_g (duk_pe hV h c'.1 c'.2) (fun _ => rfl) (fun _ => rfl))
  have e11 : mx_ (weP Q t) 600 = mx_ (weP P t) 600 := mx_c (fun f _ _ => we_pe hV h c'.1 c'.2)
  rw [e8, e9, e10, e11, bI_c (aud_pe h c'.1 c'.2)]
  by_cases q7 : w < 7
  · rw [if_pos q7, if_pos q7, tn_pe h c'.1 c'.2 (by omega) q7]
  · rw [if_neg q7, if_neg q7]
theorem clip_pe {P Q : Pj} (hV : vP P) (h : pe_ P Q) (c w : Int) : q_clip Q c w = q_clip P c w := by
  unfold q_clip
  refine cif_g (by rw [pe_N h]) (fun _ => rfl) (fun q => cif_g Iff.rfl (fun _ => rfl) (fun q2 => ?_))
  have c' : 0 ≤ c ∧ c < pN P := Classical.byContradiction q
  rw [pe_G h c'.1 c'.2 (k := 4) (by omega) (by omega)]
  have e8 : mx_ (cv_ (pE Q 4) (pS Q) (pG Q) c) (pG P c 4) = mx_ (cv_ (pE P 4) (pS P) (pG P) c) (pG P c 4) := mx_c (fun i _ _ => cv_pe hV h c'.1 c'.2)
  have e9 : sm_ (cv_ (pE Q 4) (pS Q) (pG Q) c) (pG P c 4) = sm_ (cv_ (pE P 4) (pS P) (pG P) c) (pG P c 4) := sm_c (fun i _ _ => cv_pe hV h c'.1 c'.2)
  rw [e8, e9]
  by_cases q8 : w = 8
  · rw [if_pos q8, if_pos q8]
  · rw [if_neg q8, if_neg q8]
    by_cases q9 : w = 9
    · rw [if_pos q9, if_pos q9]
    · rw [if_neg q9, if_neg q9, pe_G h c'.1 c'.2 (by omega) (by omega)]
theorem fre_pe {P Q : Pj} (h : pe_ P Q) {t s l x : Int} : fre_ (pG Q) (pN Q) t s l x ↔ fre_ (pG P) (pN P) t s l x := by
  rw [pe_N h]
  unfold fre_ ov_p en_
  refine forall_congr' (fun i => forall_congr' (fun i0 => forall_congr' (fun i1 => ?_)))
  rw [pe_G h i0 i1 (by omega) (by omega), pe_G h i0 i1 (by omega) (by omega), pe_G h i0 i1 (by omega) (by omega)]
theorem room_pe {P Q : Pj} (h : pe_ P Q) (t f l : Int) : q_room Q t f l = q_room P t f l := by
  unfold q_room
  refine cif_g Iff.rfl (fun _ => rfl) (fun _ => cif_g Iff.rfl (fun _ => rfl) (fun c => fst_c (by omega) (fun s _ _ => and_congr Iff.rfl (fre_pe h))))
theorem clipAt_pe {P Q : Pj} (hV : vP P) (h : pe_ P Q) (t f : Int) : q_clipAt Q t f = q_clipAt P t f := by
  unfold q_clipAt
  rw [onP_pe hV h]
theorem explain_pe {P Q : Pj} (hV : vP P) (h : pe_ P Q) (t f : Int) : q_explain Q t f = q_explain P t f := by
  unfold q_explain
  refine cif_g Iff.rfl (fun _ => rfl) (fun c => ?_)
  have c' : (0 ≤ t ∧ t < 4) ∧ 0 ≤ f ∧ f < 600 := Classical.byContradiction c
  rw [onP_pe hV h, pe_T h c'.1.1 c'.1.2 (by omega) (by omega)]
  by_cases o : onP P t f < 0
  · rw [if_pos o, if_pos o]
  · rw [if_neg o, if_neg o]
    by_cases z : pT P t 1 = 1
    · rw [if_pos z, if_pos z]
    · rw [if_neg z, if_neg z]
      refine cif_g (not_congr (aud_pe h c'.1.1 c'.1.2)) (fun _ => rfl) (fun _ => cif_g (duk_pe hV h c'.1.1 c'.1.2) (fun _ => rfl) (fun _ => cif_g ?_ (fun _ => rfl) (fun _ => rfl)))
      rcases ont_c (g := pG P) hV.hn.1 t f with ⟨e, -⟩ | ⟨a1, a2, -⟩
      · exact absurd (show onP P t f < 0 by show ont_ (pN P) (pG P) t f < 0; omega) o
      · unfold fad_p en_
        rw [pe_G h a1 a2 (by omega) (by omega), pe_G h a1 a2 (by omega) (by omega), pe_G h a1 a2 (by omega) (by omega), pe_G h a1 a2 (by omega) (by omega)]
theorem frm_pe {P Q : Pj} (h : pe_ P Q) (H : Hl) (c : Int) : h_frm (pN Q) (pG Q) H c = h_frm (pN P) (pG P) H c := by
  unfold h_frm
  rw [show la_ (pG Q) (pN Q) = la_ (pG P) (pN P) from la_pe h]
theorem ofChapter_pe {P Q : Pj} (hV : vP P) (h : pe_ P Q) (c w : Int) : q_ofChapter Q c w = q_ofChapter P c w := by
  unfold q_ofChapter
  rw [pe_H h, frm_pe h, mixP_pe hV h]
theorem chapterAt_pe {P Q : Pj} (h : pe_ P Q) (f : Int) : q_chapterAt Q f = q_chapterAt P f := by
  unfold q_chapterAt
  rw [pe_H h]
theorem value_pe {P Q : Pj} (hV : vP P) (h : pe_ P Q) (t f w : Int) : q_value Q t f w = q_value P t f w := by
  unfold q_value
  refine cif_g Iff.rfl (fun _ => rfl) (fun c => ?_)
  have c' : (0 ≤ t ∧ t < 4) ∧ 0 ≤ f ∧ f < 600 := Classical.byContradiction c
  rw [vt_pe hV h, show drP Q t f = drP P t f from dr_pe hV h c'.1.1 c'.1.2, show weP Q t f = weP P t f from we_pe hV h c'.1.1 c'.1.2, bI_c (show dukP Q t f ↔ dukP P t f from duk_pe hV h c'.1.1 c'.1.2)]
theorem mix_pe {P Q : Pj} (hV : vP P) (h : pe_ P Q) (f : Int) : q_mix Q f = q_mix P f := by
  unfold q_mix
  rw [mixP_pe hV h]
theorem peak_pe {P Q : Pj} (hV : vP P) (h : pe_ P Q) (w : Int) : q_peak Q w = q_peak P w := by
  unfold q_peak
  rw [mixP_pe hV h, la_pe h, suP_pe hV h, pe_E h (by omega)]
theorem level_pe {P Q : Pj} (hV : vP P) (h : pe_ P Q) (k : Int) : q_level Q k = q_level P k := by
  unfold q_level
  rw [winP_pe h, lvP_pe hV h, pe_E h (by omega)]
theorem loudness_pe {P Q : Pj} (hV : vP P) (h : pe_ P Q) (w : Int) : q_loudness Q w = q_loudness P w := by
  unfold q_loudness
  rw [winP_pe h, lvP_pe hV h, gtP_pe h, pe_E h (i := 0) (by omega), pe_E h (i := 3) (by omega), loP_pe hV h]
theorem master_pe {P Q : Pj} (hV : vP P) (h : pe_ P Q) (t : Int) : q_master Q t = q_master P t := by
  unfold q_master
  rw [show loP Q = loP P from funext (loP_pe hV h)]
theorem covered_pe {P Q : Pj} (hV : vP P) (h : pe_ P Q) (t : Int) : q_covered Q t = q_covered P t := by
  unfold q_covered
  rw [show (fun f => if onP Q t f < 0 then (0 : Int) else 1) = (fun f => if onP P t f < 0 then 0 else 1) from funext (fun f => by rw [onP_pe hV h])]
theorem silence_pe {P Q : Pj} (hV : vP P) (h : pe_ P Q) (v n i w : Int) : q_silence Q v n i w = q_silence P v n i w := by
  unfold q_silence
  rw [silP_pe hV h]
theorem nxP_pe {P Q : Pj} (h : pe_ P Q) (k : Int) : nxP Q k = nxP P k := by
  unfold nxP nxt_
  rw [pe_N h, pe_H h]
  congr 1
  refine fI_c (fun i b i0 i1 => ?_)
  unfold en_
  rw [pe_G h i0 i1 (by omega) (by omega), pe_G h i0 i1 (by omega) (by omega), pe_G h i0 i1 (by omega) (by omega)]
theorem ev_pe {P Q : Pj} (h : pe_ P Q) : ∀ k : Nat, ev_ Q k = ev_ P k
  | 0 => rfl
  | k + 1 => by
    show nxP Q (ev_ Q k) = nxP P (ev_ P k)
    rw [ev_pe h k, nxP_pe h]
theorem event_pe {P Q : Pj} (h : pe_ P Q) (e w : Int) : q_event Q e w = q_event P e w := by
  unfold q_event
  rw [pe_N h, pe_H h, ev_pe h]
theorem ifCut_pe {P Q : Pj} (hV : vP P) (h : pe_ P Q) (a b w : Int) : q_ifCut Q a b w = q_ifCut P a b w := by
  unfold q_ifCut
  obtain ⟨c1, c2⟩ := cut_pe h a b
  rw [← c1, aft_pe (ov_cut hV a b).2 c2 w]
theorem cnt_pe {P Q : Pj} (h : pe_ P Q) (u r op tn w : Int) : q_cnt Q u r op tn w = q_cnt P u r op tn w := by
  unfold q_cnt
  rw [pe_M h, pe_N h, pe_H h]
  by_cases c : 8 ≤ w ∧ w < 13
  · rw [pe_E h (by omega)]
  · (repeat' split) <;> first | rfl | omega

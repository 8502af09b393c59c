/-! the class's project: cut, insert, the next event -/
theorem hC_at {μ : am_M} {i : Int} (h0 : 0 ≤ i) (h1 : i < μ 7 2) : ∃ p, (hC μ)[i.toNat]? = some p ∧ μ 8 i.toNat = p.1 ∧ μ 9 i.toNat = p.2 := by
  refine ⟨(μ 8 i.toNat, μ 9 i.toNat), ?_, rfl, rfl⟩
  unfold hC
  rw [List.getElem?_map, List.getElem?_range (by omega)]
  rfl
/-- may clips and chapters from a frame on go back -/
def bck_ (n : Int) (g : Tb) (H : Hl) (a l : Int) : Prop := ¬ (a < la_ g n ∧ 600 < la_ g n + l) ∧ ∀ p, H.getLast? = some p → p.1 < a ∨ p.1 + l < 600
theorem la_b {g : Tb} {n : Int} (h : ok_T g n) : in_ 0 1202 (la_ g n) := by
  have q1 := h.1
  refine fI_i (fun a _ => in_ 0 1202 a) (by ((try unfold am_in); (try unfold in_ at *); omega)) q1.1 (fun i b h0 h1 q => ?_)
  obtain ⟨b0, b1, b2, b3, b4, b5, b6, b7⟩ := h.2 i h0 h1
  split
  · unfold en_; ((try unfold am_in); (try unfold in_ at *); omega)
  · exact q
theorem vc_X4_canGoBack_0 {x1 x2 : Int} {μ : am_M} {Q : Int → am_M → Prop} (h : (ok_T (cg μ) (μ 5 1)) ∧ ((la_ (cg μ) (μ 5 1) ≤ x1 → (am_in (μ 7 2 - 1)) ∧ (((0 ≤ μ 7 2 - 1 → (0 ≤ μ 7 2 - 1) ∧ (μ 7 2 - 1 < 12) ∧ ((x1 ≤ μ 8 ((μ 7 2 - 1).toNat) → (0 ≤ μ 7 2 - 1) ∧ (μ 7 2 - 1 < 12) ∧ ((am_in ((μ 8 ((μ 7 2 - 1).toNat)) + x2))))))) ∧ (∀ v1 : Int, v1 = (if μ 7 2 - 1 < 0 then 1 else (if μ 8 ((μ 7 2 - 1).toNat) < x1 then 1 else (if (μ 8 ((μ 7 2 - 1).toNat)) + x2 < 600 then 1 else 0))) → (v1 = 0 ∨ v1 = 1) ∧ Q v1 μ))) ∧ (x1 < la_ (cg μ) (μ 5 1) → (am_in ((la_ (cg μ) (μ 5 1)) + x2)) ∧ (((la_ (cg μ) (μ 5 1)) + x2 ≤ 600 → (am_in (μ 7 2 - 1)) ∧ (((0 ≤ μ 7 2 - 1 → (0 ≤ μ 7 2 - 1) ∧ (μ 7 2 - 1 < 12) ∧ ((x1 ≤ μ 8 ((μ 7 2 - 1).toNat) → (0 ≤ μ 7 2 - 1) ∧ (μ 7 2 - 1 < 12) ∧ ((am_in ((μ 8 ((μ 7 2 - 1).toNat)) + x2))))))) ∧ (∀ v3 : Int, v3 = (if μ 7 2 - 1 < 0 then 1 else (if μ 8 ((μ 7 2 - 1).toNat) < x1 then 1 else (if (μ 8 ((μ 7 2 - 1).toNat)) + x2 < 600 then 1 else 0))) → (v3 = 0 ∨ v3 = 1) ∧ Q v3 μ))) ∧ (600 < (la_ (cg μ) (μ 5 1)) + x2 → Q 0 μ))))) : at_I kC 4 mX4_canGoBack 0 [vR 1, vI x1, vI x2, vU, vU] [] μ Q := by
  refine s_aload_n dX4_canGoBack_0 rfl rfl ?_
  refine s_getR dX4_canGoBack_1 flX4_24 kn1 kk1 rfl kr1_3 ?_
  obtain ⟨p0, h⟩ := h
  refine s_callV (As := []) (rest := []) (k := 5) dX4_canGoBack_4 lkX4_151 kn5 ⟨by rw [kk5]; rfl, by rw [kk5]; decide⟩ lmX1_lastEnd rfl rfl (Nat.le_of_ble_eq_true rfl) (by decide) (Nat.le_refl 0) (Nat.le_refl 0) (hC := sp_X1_lastEnd (Q := fun z m => la_ (cg μ) (μ 5 1) = z ∧ μ = m) p0 ⟨rfl, rfl⟩) (fun r n2 S2 m2 hP => ?_)
  obtain ⟨⟨rfl, rfl⟩, z, rfl, rfl, rfl⟩ := hP
  refine s_istore_n dX4_canGoBack_7 rfl (by decide) (L' := [vR 1, vI x1, vI x2, vI (la_ (cg μ) (μ 5 1)), vU]) rfl ?_
  refine s_iload_n dX4_canGoBack_8 rfl rfl ?_
  refine s_iload_n dX4_canGoBack_9 rfl rfl ?_
  refine s_icmp_le dX4_canGoBack_10 (tgt := 24) (by decide) (fun cc => ?_) (fun cc => ?_)
  · have h := h.1 cc
    refine s_aload_n dX4_canGoBack_24 rfl rfl ?_
    refine s_getR dX4_canGoBack_25 flX4_31 kn1 kk1 rfl kr1_4 ?_
    refine s_getI (x := (μ 7 2)) dX4_canGoBack_28 flX4_63 kn7 kk7 rfl rfl ?_
    refine s_iconst dX4_canGoBack_31 (by decide) ?_
    obtain ⟨c, h⟩ := h
    refine s_isub dX4_canGoBack_32 (am_w_id c) ?_
    refine s_istore dX4_canGoBack_33 (by decide) (L' := [vR 1, vI x1, vI x2, vI (la_ (cg μ) (μ 5 1)), vI (μ 7 2 - 1)]) rfl ?_
    refine s_iload dX4_canGoBack_35 rfl ?_
    obtain ⟨hsd, h⟩ := h
    have kj2 : ∀ (v1 : Int), ((v1 = 0 ∨ v1 = 1) ∧ Q v1 μ) → at_I kC 4 mX4_canGoBack 77 [vU, vU, vU, vU, vU] [vI v1] μ Q := by
      intro v1 h
      exact s_ireturn dX4_canGoBack_77 (Or.inr ⟨rfl, h.1⟩) ⟨⟨rfl, rfl⟩, _, rfl, h.2⟩
    refine s_if_lt dX4_canGoBack_37 (tgt := 72) (by decide) (fun cc => ?_) (fun cc => ?_)
    · have hp0 := cc
      refine s_iconst dX4_canGoBack_72 (by decide) ?_
      refine s_goto dX4_canGoBack_73 (tgt := 77) (by decide) ?_
      exact am_lesS (kj2 1 (h 1 (by rw [if_pos hp0]))) ⟨Or.inl rfl, Or.inl rfl, Or.inl rfl, Or.inl rfl, Or.inl rfl, trivial⟩
    · have hp0 := cc
      have hsd := hsd hp0
      refine s_aload_n dX4_canGoBack_40 rfl rfl ?_
      refine s_getR dX4_canGoBack_41 flX4_31 kn1 kk1 rfl kr1_4 ?_
      refine s_getR dX4_canGoBack_44 flX4_50 kn7 kk7 rfl kr7_0 ?_
      refine s_iload dX4_canGoBack_47 rfl ?_
      obtain ⟨c, c2, hsd⟩ := hsd
      refine s_iald (x := (μ 8 ((μ 7 2 - 1).toNat))) dX4_canGoBack_49 kn8 kk8 kl8 c c2 rfl ?_
      refine s_iload_n dX4_canGoBack_50 rfl rfl ?_
      refine s_icmp_lt dX4_canGoBack_51 (tgt := 72) (by decide) (fun cc => ?_) (fun cc => ?_)
      · have hp1 := cc
        refine s_iconst dX4_canGoBack_72 (by decide) ?_
        refine s_goto dX4_canGoBack_73 (tgt := 77) (by decide) ?_
        exact am_lesS (kj2 1 (h 1 (by rw [if_neg (Int.not_lt.mpr hp0), if_pos hp1]))) ⟨Or.inl rfl, Or.inl rfl, Or.inl rfl, Or.inl rfl, Or.inl rfl, trivial⟩
      · have hp1 := cc
        have hsd := hsd hp1
        refine s_aload_n dX4_canGoBack_54 rfl rfl ?_
        refine s_getR dX4_canGoBack_55 flX4_31 kn1 kk1 rfl kr1_4 ?_
        refine s_getR dX4_canGoBack_58 flX4_50 kn7 kk7 rfl kr7_0 ?_
        refine s_iload dX4_canGoBack_61 rfl ?_
        obtain ⟨c, c2, hsd⟩ := hsd
        refine s_iald (x := (μ 8 ((μ 7 2 - 1).toNat))) dX4_canGoBack_63 kn8 kk8 kl8 c c2 rfl ?_
        refine s_iload_n dX4_canGoBack_64 rfl rfl ?_
        have c := hsd
        refine s_iadd dX4_canGoBack_65 (am_w_id c) ?_
        refine s_sipush dX4_canGoBack_66 (by decide) ?_
        refine s_icmp_ge dX4_canGoBack_69 (tgt := 76) (by decide) (fun cc => ?_) (fun cc => ?_)
        · have hp2 := cc
          refine s_iconst dX4_canGoBack_76 (by decide) ?_
          exact am_lesS (kj2 0 (h 0 (by rw [if_neg (Int.not_lt.mpr hp0), if_neg (Int.not_lt.mpr hp1), if_neg (Int.not_lt.mpr hp2)]))) ⟨Or.inl rfl, Or.inl rfl, Or.inl rfl, Or.inl rfl, Or.inl rfl, trivial⟩
        · have hp2 := cc
          refine s_iconst dX4_canGoBack_72 (by decide) ?_
          refine s_goto dX4_canGoBack_73 (tgt := 77) (by decide) ?_
          exact am_lesS (kj2 1 (h 1 (by rw [if_neg (Int.not_lt.mpr hp0), if_neg (Int.not_lt.mpr hp1), if_pos hp2]))) ⟨Or.inl rfl, Or.inl rfl, Or.inl rfl, Or.inl rfl, Or.inl rfl, trivial⟩
  · have h := h.2 cc
    refine s_iload_n dX4_canGoBack_13 rfl rfl ?_
    refine s_iload_n dX4_canGoBack_14 rfl rfl ?_
    obtain ⟨c, h⟩ := h
    refine s_iadd dX4_canGoBack_15 (am_w_id c) ?_
    refine s_sipush dX4_canGoBack_16 (by decide) ?_
    refine s_icmp_le dX4_canGoBack_19 (tgt := 24) (by decide) (fun cc => ?_) (fun cc => ?_)
    · have h := h.1 cc
      refine s_aload_n dX4_canGoBack_24 rfl rfl ?_
      refine s_getR dX4_canGoBack_25 flX4_31 kn1 kk1 rfl kr1_4 ?_
      refine s_getI (x := (μ 7 2)) dX4_canGoBack_28 flX4_63 kn7 kk7 rfl rfl ?_
      refine s_iconst dX4_canGoBack_31 (by decide) ?_
      obtain ⟨c, h⟩ := h
      refine s_isub dX4_canGoBack_32 (am_w_id c) ?_
      refine s_istore dX4_canGoBack_33 (by decide) (L' := [vR 1, vI x1, vI x2, vI (la_ (cg μ) (μ 5 1)), vI (μ 7 2 - 1)]) rfl ?_
      refine s_iload dX4_canGoBack_35 rfl ?_
      obtain ⟨hsd, h⟩ := h
      have kj4 : ∀ (v3 : Int), ((v3 = 0 ∨ v3 = 1) ∧ Q v3 μ) → at_I kC 4 mX4_canGoBack 77 [vU, vU, vU, vU, vU] [vI v3] μ Q := by
        intro v3 h
        exact s_ireturn dX4_canGoBack_77 (Or.inr ⟨rfl, h.1⟩) ⟨⟨rfl, rfl⟩, _, rfl, h.2⟩
      refine s_if_lt dX4_canGoBack_37 (tgt := 72) (by decide) (fun cc => ?_) (fun cc => ?_)
      · have hp0 := cc
        refine s_iconst dX4_canGoBack_72 (by decide) ?_
        refine s_goto dX4_canGoBack_73 (tgt := 77) (by decide) ?_
        exact am_lesS (kj4 1 (h 1 (by rw [if_pos hp0]))) ⟨Or.inl rfl, Or.inl rfl, Or.inl rfl, Or.inl rfl, Or.inl rfl, trivial⟩
      · have hp0 := cc
        have hsd := hsd hp0
        refine s_aload_n dX4_canGoBack_40 rfl rfl ?_
        refine s_getR dX4_canGoBack_41 flX4_31 kn1 kk1 rfl kr1_4 ?_
        refine s_getR dX4_canGoBack_44 flX4_50 kn7 kk7 rfl kr7_0 ?_
        refine s_iload dX4_canGoBack_47 rfl ?_
        obtain ⟨c, c2, hsd⟩ := hsd
        refine s_iald (x := (μ 8 ((μ 7 2 - 1).toNat))) dX4_canGoBack_49 kn8 kk8 kl8 c c2 rfl ?_
        refine s_iload_n dX4_canGoBack_50 rfl rfl ?_
        refine s_icmp_lt dX4_canGoBack_51 (tgt := 72) (by decide) (fun cc => ?_) (fun cc => ?_)
        · have hp1 := cc
          refine s_iconst dX4_canGoBack_72 (by decide) ?_
          refine s_goto dX4_canGoBack_73 (tgt := 77) (by decide) ?_
          exact am_lesS (kj4 1 (h 1 (by rw [if_neg (Int.not_lt.mpr hp0), if_pos hp1]))) ⟨Or.inl rfl, Or.inl rfl, Or.inl rfl, Or.inl rfl, Or.inl rfl, trivial⟩
        · have hp1 := cc
          have hsd := hsd hp1
          refine s_aload_n dX4_canGoBack_54 rfl rfl ?_
          refine s_getR dX4_canGoBack_55 flX4_31 kn1 kk1 rfl kr1_4 ?_
          refine s_getR dX4_canGoBack_58 flX4_50 kn7 kk7 rfl kr7_0 ?_
          refine s_iload dX4_canGoBack_61 rfl ?_
          obtain ⟨c, c2, hsd⟩ := hsd
          refine s_iald (x := (μ 8 ((μ 7 2 - 1).toNat))) dX4_canGoBack_63 kn8 kk8 kl8 c c2 rfl ?_
          refine s_iload_n dX4_canGoBack_64 rfl rfl ?_
          have c := hsd
          refine s_iadd dX4_canGoBack_65 (am_w_id c) ?_
          refine s_sipush dX4_canGoBack_66 (by decide) ?_
          refine s_icmp_ge dX4_canGoBack_69 (tgt := 76) (by decide) (fun cc => ?_) (fun cc => ?_)
          · have hp2 := cc
            refine s_iconst dX4_canGoBack_76 (by decide) ?_
            exact am_lesS (kj4 0 (h 0 (by rw [if_neg (Int.not_lt.mpr hp0), if_neg (Int.not_lt.mpr hp1), if_neg (Int.not_lt.mpr hp2)]))) ⟨Or.inl rfl, Or.inl rfl, Or.inl rfl, Or.inl rfl, Or.inl rfl, trivial⟩
          · have hp2 := cc
            refine s_iconst dX4_canGoBack_72 (by decide) ?_
            refine s_goto dX4_canGoBack_73 (tgt := 77) (by decide) ?_
            exact am_lesS (kj4 1 (h 1 (by rw [if_neg (Int.not_lt.mpr hp0), if_neg (Int.not_lt.mpr hp1), if_pos hp2]))) ⟨Or.inl rfl, Or.inl rfl, Or.inl rfl, Or.inl rfl, Or.inl rfl, trivial⟩
    · have h := h.2 cc
      refine s_iconst dX4_canGoBack_22 (by decide) ?_
      exact s_ireturn dX4_canGoBack_23 (Or.inr ⟨rfl, by decide⟩) ⟨⟨rfl, rfl⟩, _, rfl, h⟩
theorem ve_X4_canGoBack {x1 x2 : Int} {μ : am_M} {Q : Int → am_M → Prop} (h : at_I kC 4 mX4_canGoBack 0 [vR 1, vI x1, vI x2, vU, vU] [] μ Q) : cl_I kC 4 mX4_canGoBack [vR 1, vI x1, vI x2] μ Q := am_intro pmX4_canGoBack (Nat.le_of_ble_eq_true rfl) rfl h
theorem sp_X4_canGoBack {μ : am_M} {a l : Int} {Q : Int → am_M → Prop} (H : Hl) (h1 : ok_T (cg μ) (μ 5 1)) (ht : hl_ (μ 7 2) (μ 8) (μ 9) H) (hl : H.length ≤ 12) (ho : ∀ p ∈ H, in_ 0 600 p.1) (hb : in_ 1 601 l) (hQ : Q (bI (bck_ (μ 5 1) (cg μ) H a l)) μ) : cl_I kC 4 mX4_canGoBack [vR 1, vI a, vI l] μ Q := by
  have q1 := la_b h1
  have q2 := ht.1
  have key : ∀ v : Int, v = (if μ 7 2 - 1 < 0 then 1 else (if μ 8 ((μ 7 2 - 1).toNat) < a then 1 else (if (μ 8 ((μ 7 2 - 1).toNat)) + l < 600 then 1 else 0))) → v = bI (∀ p, H.getLast? = some p → p.1 < a ∨ p.1 + l < 600) := by
    intro v hv
    rcases List.eq_nil_or_concat H with h | ⟨K, p, h⟩
    · subst h
      simp at q2
      rw [hv, if_pos (by omega), bI_t (by simp)]
    · have ht2 := ht
      rw [h] at ht2 q2
      simp at q2
      have := (hl_at (x := μ 7 2 - 1) (A := K) (B := []) (p := p) (by simpa using ht2) (by omega)).1
      rw [hv, if_neg (by omega), this, h]
      simp only [List.concat_eq_append, List.getLast?_append, List.getLast?_singleton, Option.some_or, Option.some.injEq]
      by_cases c1 : p.1 < a
      · rw [if_pos c1, bI_t (by intro q e; subst e; omega)]
      · rw [if_neg c1]
        by_cases c2 : p.1 + l < 600
        · rw [if_pos c2, bI_t (by intro q e; subst e; omega)]
        · rw [if_neg c2, bI_f (fun z => by have := z p rfl; omega)]
  have rng : 0 ≤ μ 7 2 - 1 → in_ 0 600 (μ 8 ((μ 7 2 - 1).toNat)) := fun h0 => by
    have hi : (μ 7 2 - 1).toNat < H.length := by omega
    have := ht.2 _ _ (List.getElem?_eq_getElem hi)
    rw [this.1]
    exact ho _ (List.getElem_mem hi)
  have fin : ∀ v : Int, ¬ (a < la_ (cg μ) (μ 5 1) ∧ 600 < la_ (cg μ) (μ 5 1) + l) → v = (if μ 7 2 - 1 < 0 then 1 else (if μ 8 ((μ 7 2 - 1).toNat) < a then 1 else (if (μ 8 ((μ 7 2 - 1).toNat)) + l < 600 then 1 else 0))) → (v = 0 ∨ v = 1) ∧ Q v μ := fun v hc hv => by
    rw [key v hv]
    refine ⟨bI_01, ?_⟩
    rw [show bI (∀ p, H.getLast? = some p → p.1 < a ∨ p.1 + l < 600) = bI (bck_ (μ 5 1) (cg μ) H a l) from bI_c ⟨fun h => ⟨hc, h⟩, fun h => h.2⟩]
    exact hQ
  refine ve_X4_canGoBack (vc_X4_canGoBack_0 ⟨h1, fun c1 => ⟨by rw [q2]; ((try unfold am_in); (try unfold in_ at *); omega), fun c2 => ⟨c2, by omega, fun _ => ⟨c2, by omega, by have := rng c2; ((try unfold am_in); (try unfold in_ at *); omega)⟩⟩, fun v hv => fin v (by omega) hv⟩, fun c1 => ⟨(by (try unfold am_in); (try unfold in_ at *); omega), fun c0 => ⟨by rw [q2]; ((try unfold am_in); (try unfold in_ at *); omega), fun c2 => ⟨c2, by omega, fun _ => ⟨c2, by omega, by have := rng c2; ((try unfold am_in); (try unfold in_ at *); omega)⟩⟩, fun v hv => fin v (by omega) hv⟩, fun c0 => ?_⟩⟩)
  rw [bI_f (fun z => z.1 ⟨c1, c0⟩)] at hQ
  exact hQ
/-- rows in their order, no two of a track in a frame -/
def bfr_ (r s : Rw) : Prop := r 0 < s 0 ∨ r 0 = s 0 ∧ r 1 + r 4 ≤ s 1
def srt_ (L : List Rw) : Prop := L.Pairwise bfr_
theorem spF_cnt {f : Int} : ∀ (L : List Rw) (t : Int), 0 ≤ t → t ≤ 4 → srt_ L → (∀ r ∈ L, r 0 < 4 ∧ (t ≤ r 0 ∨ ¬ (r 1 < f ∧ f < r 1 + r 4))) → ((L.flatMap (spF f)).length : Int) ≤ L.length + (4 - t)
  | [], t, h0, h1, _, _ => by simp; omega
  | r :: L, t, h0, h1, hs, ha => by
    have hs2 := List.pairwise_cons.mp hs
    have hr := ha r List.mem_cons_self
    rw [List.flatMap_cons, List.length_append, List.length_cons]
    have l2 := spF_l2 f r
    by_cases h : r 1 < f ∧ f < r 1 + r 4
    · rw [cif_t h] at l2
      have := spF_cnt (f := f) L (r 0 + 1) (by omega) (by omega) hs2.2 (fun s hm => ⟨(ha s (List.mem_cons_of_mem _ hm)).1, by
        have := hs2.1 s hm
        unfold bfr_ at this
        omega⟩)
      omega
    · rw [cif_f h] at l2
      have := spF_cnt (f := f) L t h0 h1 hs2.2 (fun s hm => ha s (List.mem_cons_of_mem _ hm))
      omega
theorem spF_sr {f : Int} {r : Rw} (h : okC r) : srt_ (spF f r) := by
  unfold spF
  split
  · unfold srt_
    simp [bfr_, spl1, spl2]
  · unfold srt_; simp
theorem spF_in {f : Int} {r x : Rw} (hx : x ∈ spF f r) : x 0 = r 0 ∧ r 1 ≤ x 1 ∧ x 1 + x 4 ≤ r 1 + r 4 := by
  unfold spF at hx
  split at hx
  · simp at hx
    rcases hx with rfl | rfl
    · simp [spl1]; omega
    · simp [spl2]; omega
  · simp at hx
    subst hx
    exact ⟨rfl, by omega, by omega⟩
theorem srt_sp {f : Int} {L : List Rw} (h : srt_ L) (hok : ∀ r ∈ L, okC r) : srt_ (L.flatMap (spF f)) := by
  unfold srt_
  rw [List.pairwise_flatMap]
  refine ⟨fun r hr => spF_sr (hok r hr), List.Pairwise.imp (fun {r s} hrs x hx y hy => ?_) h⟩
  have h1 := spF_in hx
  have h2 := spF_in hy
  unfold bfr_ at *
  omega
theorem okC_sp {f : Int} {L : List Rw} (hok : ∀ r ∈ L, okC r) : ∀ r ∈ L.flatMap (spF f), okC r := fun s hs => by
  obtain ⟨t, ht1, ht2⟩ := List.mem_flatMap.mp hs
  exact (hok t ht1).sp f s ht2
theorem sp_l4 {f : Int} {L : List Rw} (h : srt_ L) (hok : ∀ r ∈ L, okC r) : (L.flatMap (spF f)).length ≤ L.length + 4 := by
  have := spF_cnt (f := f) L 0 (by omega) (by omega) h (fun r hr => by have := hok r hr; unfold okC in_ at this; omega)
  omega
theorem cut_is {a b : Int} (hab : a < b) : ∀ {L : List Rw}, (∀ r ∈ L, okC r) → ((L.flatMap (spF a)).flatMap (spF b)).flatMap (tkF a b) = L.flatMap (cuF a b)
  | [], _ => rfl
  | r :: L, h => by
    rw [List.flatMap_cons, List.flatMap_append, List.flatMap_append, List.flatMap_cons, cut_is hab (fun s hs => h s (List.mem_cons_of_mem _ hs)), cuF_is hab (by have := h r List.mem_cons_self; unfold okC in_ at this; omega)]
/-- cut frames out -/
noncomputable def r_cut (L : List Rw) (H : Hl) (a b : Int) : Int × List Rw × Hl :=
  cif (a < 0 ∨ b ≤ a ∨ 600 < b) (-2, L, H) (cif (24 < ((L.flatMap (cuF a b)).length : Int)) (-3, L, H) ((((L.flatMap (spF a)).flatMap (spF b)).map (inn_ a b)).sum, L.flatMap (cuF a b), h_cut a b H))
/-- clips and chapters alone have changed -/
def lk_ (μ m : am_M) (z : Int) (R : Int × List Rw × Hl) : Prop := z = R.1 ∧ fr_ [5, 6, 7, 8, 9] μ m ∧ tl_ (m 5 1) (cg m) R.2.1 ∧ hl_ (m 7 2) (m 8) (m 9) R.2.2
theorem cg_c {m m2 : am_M} (h : m 6 = m2 6) : cg m = cg m2 := by
  unfold cg
  rw [h]
theorem vc_X4_cutFrames_0 {x1 x2 : Int} {μ : am_M} {Q : Int → am_M → Prop} (h : (x1 < 0 → Q (-2) μ) ∧ (0 ≤ x1 → (x2 ≤ x1 → Q (-2) μ) ∧ (x1 < x2 → (x2 ≤ 600 → ∃ P : Int → am_M → Prop, cl_I kC 3 mX1_clipsAfterCut [vR 5, vI x1, vI x2] μ P ∧ (∀ (z1 : Int) (m2 : am_M), P z1 m2 → (z1 ≤ 24 → ∃ P : am_M → Prop, cl_V kC 1 mX0_takeFrames [vR 7, vI x1, vI x2] m2 P ∧ (∀ m4 : am_M, P m4 → ∃ P : am_M → Prop, cl_V kC 4 mX1_divideAllAt [vR 5, vI x1] m4 P ∧ (∀ m6 : am_M, P m6 → ∃ P : am_M → Prop, cl_V kC 4 mX1_divideAllAt [vR 5, vI x2] m6 P ∧ (∀ m8 : am_M, P m8 → ∃ P : Int → am_M → Prop, cl_I kC 3 mX1_takeFrames [vR 5, vI x1, vI x2] m8 P ∧ (∀ (z9 : Int) (m10 : am_M), P z9 m10 → Q z9 m10))))) ∧ (24 < z1 → Q (-3) m2))) ∧ (600 < x2 → Q (-2) μ)))) : at_I kC 6 mX4_cutFrames 0 [vR 1, vI x1, vI x2] [] μ Q := by
  refine s_iload_n dX4_cutFrames_0 rfl rfl ?_
  refine s_if_lt dX4_cutFrames_1 (tgt := 16) (by decide) (fun cc => ?_) (fun cc => ?_)
  · have h := h.1 cc
    refine s_bipush dX4_cutFrames_16 (by decide) ?_
    exact s_ireturn dX4_cutFrames_18 (Or.inl rfl) ⟨⟨rfl, rfl⟩, _, rfl, h⟩
  · have h := h.2 cc
    refine s_iload_n dX4_cutFrames_4 rfl rfl ?_
    refine s_iload_n dX4_cutFrames_5 rfl rfl ?_
    refine s_icmp_ge dX4_cutFrames_6 (tgt := 16) (by decide) (fun cc => ?_) (fun cc => ?_)
    · have h := h.1 cc
      refine s_bipush dX4_cutFrames_16 (by decide) ?_
      exact s_ireturn dX4_cutFrames_18 (Or.inl rfl) ⟨⟨rfl, rfl⟩, _, rfl, h⟩
    · have h := h.2 cc
      refine s_iload_n dX4_cutFrames_9 rfl rfl ?_
      refine s_sipush dX4_cutFrames_10 (by decide) ?_
      refine s_icmp_le dX4_cutFrames_13 (tgt := 19) (by decide) (fun cc => ?_) (fun cc => ?_)
      · have h := h.1 cc
        refine s_aload_n dX4_cutFrames_19 rfl rfl ?_
        refine s_getR dX4_cutFrames_20 flX4_24 kn1 kk1 rfl kr1_3 ?_
        refine s_iload_n dX4_cutFrames_23 rfl rfl ?_
        refine s_iload_n dX4_cutFrames_24 rfl rfl ?_
        obtain ⟨P, hcl, h⟩ := h
        refine s_callV (As := [vI x1, vI x2]) (rest := []) (k := 5) dX4_cutFrames_25 lkX4_124 kn5 ⟨by rw [kk5]; rfl, by rw [kk5]; decide⟩ lmX1_clipsAfterCut rfl rfl (Nat.le_of_ble_eq_true rfl) (by decide) (Nat.le_refl 0) (Nat.le_refl 0) (hC := hcl) (fun r n2 S2 m2 hP => ?_)
        obtain ⟨⟨rfl, rfl⟩, z1, rfl, hq⟩ := hP
        have h := h z1 m2 hq
        refine s_bipush dX4_cutFrames_28 (by decide) ?_
        refine s_icmp_le dX4_cutFrames_30 (tgt := 36) (by decide) (fun cc => ?_) (fun cc => ?_)
        · have h := h.1 cc
          refine s_aload_n dX4_cutFrames_36 rfl rfl ?_
          refine s_getR dX4_cutFrames_37 flX4_31 kn1 kk1 rfl kr1_4 ?_
          refine s_iload_n dX4_cutFrames_40 rfl rfl ?_
          refine s_iload_n dX4_cutFrames_41 rfl rfl ?_
          obtain ⟨P, hcl, h⟩ := h
          refine s_callV (As := [vI x1, vI x2]) (rest := []) (k := 7) dX4_cutFrames_42 lkX4_127 kn7 ⟨by rw [kk7]; rfl, by rw [kk7]; decide⟩ lmX0_takeFrames rfl rfl (Nat.le_of_ble_eq_true rfl) (by decide) (Nat.le_refl 0) (Nat.le_refl 0) (hC := hcl) (fun r n2 S2 m4 hP => ?_)
          obtain ⟨⟨rfl, rfl⟩, rfl, hq⟩ := hP
          have h := h m4 hq
          refine s_aload_n dX4_cutFrames_45 rfl rfl ?_
          refine s_getR dX4_cutFrames_46 flX4_24 kn1 kk1 rfl kr1_3 ?_
          refine s_iload_n dX4_cutFrames_49 rfl rfl ?_
          obtain ⟨P, hcl, h⟩ := h
          refine s_callV (As := [vI x1]) (rest := []) (k := 5) dX4_cutFrames_50 lkX4_131 kn5 ⟨by rw [kk5]; rfl, by rw [kk5]; decide⟩ lmX1_divideAllAt rfl rfl (Nat.le_of_ble_eq_true rfl) (by decide) (Nat.le_refl 0) (Nat.le_refl 0) (hC := hcl) (fun r n2 S2 m6 hP => ?_)
          obtain ⟨⟨rfl, rfl⟩, rfl, hq⟩ := hP
          have h := h m6 hq
          refine s_aload_n dX4_cutFrames_53 rfl rfl ?_
          refine s_getR dX4_cutFrames_54 flX4_24 kn1 kk1 rfl kr1_3 ?_
          refine s_iload_n dX4_cutFrames_57 rfl rfl ?_
          obtain ⟨P, hcl, h⟩ := h
          refine s_callV (As := [vI x2]) (rest := []) (k := 5) dX4_cutFrames_58 lkX4_131 kn5 ⟨by rw [kk5]; rfl, by rw [kk5]; decide⟩ lmX1_divideAllAt rfl rfl (Nat.le_of_ble_eq_true rfl) (by decide) (Nat.le_refl 0) (Nat.le_refl 0) (hC := hcl) (fun r n2 S2 m8 hP => ?_)
          obtain ⟨⟨rfl, rfl⟩, rfl, hq⟩ := hP
          have h := h m8 hq
          refine s_aload_n dX4_cutFrames_61 rfl rfl ?_
          refine s_getR dX4_cutFrames_62 flX4_24 kn1 kk1 rfl kr1_3 ?_
          refine s_iload_n dX4_cutFrames_65 rfl rfl ?_
          refine s_iload_n dX4_cutFrames_66 rfl rfl ?_
          obtain ⟨P, hcl, h⟩ := h
          refine s_callV (As := [vI x1, vI x2]) (rest := []) (k := 5) dX4_cutFrames_67 lkX4_134 kn5 ⟨by rw [kk5]; rfl, by rw [kk5]; decide⟩ lmX1_takeFrames rfl rfl (Nat.le_of_ble_eq_true rfl) (by decide) (Nat.le_refl 0) (Nat.le_refl 0) (hC := hcl) (fun r n2 S2 m10 hP => ?_)
          obtain ⟨⟨rfl, rfl⟩, z9, rfl, hq⟩ := hP
          have h := h z9 m10 hq
          exact s_ireturn dX4_cutFrames_70 (Or.inl rfl) ⟨⟨rfl, rfl⟩, _, rfl, h⟩
        · have h := h.2 cc
          refine s_bipush dX4_cutFrames_33 (by decide) ?_
          exact s_ireturn dX4_cutFrames_35 (Or.inl rfl) ⟨⟨rfl, rfl⟩, _, rfl, h⟩
      · have h := h.2 cc
        refine s_bipush dX4_cutFrames_16 (by decide) ?_
        exact s_ireturn dX4_cutFrames_18 (Or.inl rfl) ⟨⟨rfl, rfl⟩, _, rfl, h⟩
theorem ve_X4_cutFrames {x1 x2 : Int} {μ : am_M} {Q : Int → am_M → Prop} (h : at_I kC 6 mX4_cutFrames 0 [vR 1, vI x1, vI x2] [] μ Q) : cl_I kC 6 mX4_cutFrames [vR 1, vI x1, vI x2] μ Q := am_intro pmX4_cutFrames (Nat.le_of_ble_eq_true rfl) rfl h
theorem sp_X4_cutFrames {μ : am_M} {a b : Int} (L : List Rw) (H : Hl) (ht : tl_ (μ 5 1) (cg μ) L) (hh : hl_ (μ 7 2) (μ 8) (μ 9) H) (hok : ∀ r ∈ L, okC r) (hs : srt_ L) (hl : L.length ≤ 24) (hlh : H.length ≤ 12) (hho : ∀ p ∈ H, in_ 0 600 p.1) : cl_I kC 6 mX4_cutFrames [vR 1, vI a, vI b] μ (fun z m => lk_ μ m z (r_cut L H a b)) := by
  have bad : (a < 0 ∨ b ≤ a ∨ 600 < b) → lk_ μ μ (-2) (r_cut L H a b) := fun h => by
    rw [show r_cut L H a b = (-2, L, H) from cif_t h]
    exact ⟨rfl, fr_rf, ht, hh⟩
  refine ve_X4_cutFrames (vc_X4_cutFrames_0 ⟨fun h => bad (by omega), fun a0 => ⟨fun h => bad (by omega), fun a1 => ⟨fun a2 => ?_, fun h => bad (by omega)⟩⟩⟩)
  refine ⟨_, sp_X1_clipsAfterCut (Q := fun z m => z = ((L.flatMap (cuF a b)).length : Int) ∧ m = μ) L a1 ht hok (by omega) ⟨rfl, rfl⟩, ?_⟩
  rintro z m2 ⟨hz, rfl⟩
  refine ⟨fun h24 => ?_, fun h24 => ?_⟩
  · rw [hz] at h24
    have l1 := sp_l4 (f := a) hs hok
    have s1 := srt_sp (f := a) hs hok
    have o1 := okC_sp (f := a) hok
    have l2 := sp_l4 (f := b) s1 o1
    have o2 := okC_sp (f := b) o1
    refine ⟨_, sp_X0_takeFrames H ⟨a0, a1, a2⟩ hh hlh hho, fun m4 k4 => ?_⟩
    have e5 := k4.1 5 (by decide)
    have e6 := k4.1 6 (by decide)
    refine ⟨_, sp_X1_divideAllAt L (by (try unfold am_in); (try unfold in_ at *); omega) (by rw [e5, cg_c e6]; exact ht) hok (by omega), fun m6 k6 => ?_⟩
    refine ⟨_, sp_X1_divideAllAt _ (by (try unfold am_in); (try unfold in_ at *); omega) k6.2 o1 (by omega), fun m8 k8 => ?_⟩
    refine ⟨_, sp_X1_takeFrames _ ⟨a0, a1, a2⟩ k8.2 o2 (by omega), fun z9 m10 k10 => ?_⟩
    rw [show r_cut L H a b = _ from (cif_f (by omega)).trans (cif_f (by omega))]
    refine ⟨k10.1, ?_, by rw [← cut_is a1 hok]; exact k10.2.2, ?_⟩
    · exact fr_tr (fr_tr (fr_tr (fr_up k4.1 (by simp)) (fr_up k6.1 (by simp))) (fr_up k8.1 (by simp))) (fr_up k10.2.1 (by simp))
    · have w := fr_tr (fr_tr k6.1 k8.1) k10.2.1
      rw [w 7 (by decide), w 8 (by decide), w 9 (by decide)]
      exact k4.2
  · rw [hz] at h24
    rw [show r_cut L H a b = _ from (cif_f (by omega)).trans (cif_t h24)]
    exact ⟨rfl, fr_rf, ht, hh⟩
/-- insert frames -/
noncomputable def r_ins (L : List Rw) (H : Hl) (a l : Int) : Int × List Rw × Hl :=
  cif (a < 0 ∨ 600 ≤ a ∨ l < 1 ∨ 600 < l) (-2, L, H) (cif (¬ bck_ L.length (ofL L) H a l) (-2, L, H) (cif (24 < ((L.flatMap (spF a)).length : Int)) (-3, L, H) (((L.flatMap (spF a)).length, (L.flatMap (spF a)).map (gvR a l), h_giv l (bef_ a H) (aft_ a H)))))
theorem la_c {g h : Tb} {n : Int} (e : eq_T n 8 g h) : la_ g n = la_ h n := fI_c (fun i b h0 h1 => by
  unfold en_
  rw [e i 1 h0 h1 (by omega) (by omega), e i 4 h0 h1 (by omega) (by omega)])
theorem bck_L {n : Int} {g : Tb} {L : List Rw} (h : tl_ n g L) {H : Hl} {a l : Int} : bck_ n g H a l ↔ bck_ L.length (ofL L) H a l := by
  unfold bck_
  rw [la_c (tl_of h), h.1]
theorem vc_X4_insertFrames_0 {x1 x2 : Int} {μ : am_M} {Q : Int → am_M → Prop} (h : (¬ (0 ≤ x1 ∧ x1 < 600) → Q (-2) μ) ∧ (0 ≤ x1 ∧ x1 < 600 → (x2 < 1 → Q (-2) μ) ∧ (1 ≤ x2 → (600 < x2 → Q (-2) μ) ∧ (x2 ≤ 600 → ∃ P : Int → am_M → Prop, cl_I kC 4 mX4_canGoBack [vR 1, vI x1, vI x2] μ P ∧ (∀ (z1 : Int) (m2 : am_M), P z1 m2 → (z1 ≠ 0 → ∃ P : Int → am_M → Prop, cl_I kC 4 mX1_clipsAcross [vR 5, vI x1] m2 P ∧ (∀ (z3 : Int) (m4 : am_M), P z3 m4 → (am_in (m2 5 1 + z3)) ∧ ((m2 5 1 + z3 ≤ 24 → ∃ P : am_M → Prop, cl_V kC 2 mX0_giveFrames [vR 7, vI x1, vI x2] m4 P ∧ (∀ m6 : am_M, P m6 → ∃ P : am_M → Prop, cl_V kC 4 mX1_divideAllAt [vR 5, vI x1] m6 P ∧ (∀ m8 : am_M, P m8 → ∃ P : am_M → Prop, cl_V kC 2 mX1_giveFrames [vR 5, vI x1, vI x2] m8 P ∧ (∀ m10 : am_M, P m10 → Q (m10 5 1) m10)))) ∧ (24 < m2 5 1 + z3 → Q (-3) m4)))) ∧ (z1 = 0 → Q (-2) m2)))))) : at_I kC 6 mX4_insertFrames 0 [vR 1, vI x1, vI x2] [] μ Q := by
  refine s_iload_n dX4_insertFrames_0 rfl rfl ?_
  refine s_callSN (As := [vI x1]) (rest := []) dX4_insertFrames_1 lkX4_136 lmX9_isFrame rfl rfl (Nat.le_of_ble_eq_true rfl) (by decide) (Nat.le_refl 0) (Nat.le_refl 0) (hC := sp_X9_isFrame (Q := fun z m => bI (0 ≤ x1 ∧ x1 < 600) = z ∧ μ = m)  ⟨rfl, rfl⟩) (fun r n2 S2 m2 hP => ?_)
  obtain ⟨⟨rfl, rfl⟩, z, rfl, rfl, rfl⟩ := hP
  refine s_if_eq dX4_insertFrames_4 (tgt := 28) (by decide) (fun cc => ?_) (fun cc => ?_)
  · have h := h.1 (bI_eq cc)
    refine s_bipush dX4_insertFrames_28 (by decide) ?_
    exact s_ireturn dX4_insertFrames_30 (Or.inl rfl) ⟨⟨rfl, rfl⟩, _, rfl, h⟩
  · have h := h.2 (bI_ne cc)
    refine s_iload_n dX4_insertFrames_7 rfl rfl ?_
    refine s_iconst dX4_insertFrames_8 (by decide) ?_
    refine s_icmp_lt dX4_insertFrames_9 (tgt := 28) (by decide) (fun cc => ?_) (fun cc => ?_)
    · have h := h.1 cc
      refine s_bipush dX4_insertFrames_28 (by decide) ?_
      exact s_ireturn dX4_insertFrames_30 (Or.inl rfl) ⟨⟨rfl, rfl⟩, _, rfl, h⟩
    · have h := h.2 cc
      refine s_iload_n dX4_insertFrames_12 rfl rfl ?_
      refine s_sipush dX4_insertFrames_13 (by decide) ?_
      refine s_icmp_gt dX4_insertFrames_16 (tgt := 28) (by decide) (fun cc => ?_) (fun cc => ?_)
      · have h := h.1 cc
        refine s_bipush dX4_insertFrames_28 (by decide) ?_
        exact s_ireturn dX4_insertFrames_30 (Or.inl rfl) ⟨⟨rfl, rfl⟩, _, rfl, h⟩
      · have h := h.2 cc
        refine s_aload_n dX4_insertFrames_19 rfl rfl ?_
        refine s_iload_n dX4_insertFrames_20 rfl rfl ?_
        refine s_iload_n dX4_insertFrames_21 rfl rfl ?_
        obtain ⟨P, hcl, h⟩ := h
        refine s_callV (As := [vI x1, vI x2]) (rest := []) (k := 1) dX4_insertFrames_22 lkX4_139 kn1 ⟨by rw [kk1]; rfl, by rw [kk1]; decide⟩ lmX4_canGoBack rfl rfl (Nat.le_of_ble_eq_true rfl) (by decide) (Nat.le_refl 0) (Nat.le_refl 0) (hC := hcl) (fun r n2 S2 m2 hP => ?_)
        obtain ⟨⟨rfl, rfl⟩, z1, rfl, hq⟩ := hP
        have h := h z1 m2 hq
        refine s_if_ne dX4_insertFrames_25 (tgt := 31) (by decide) (fun cc => ?_) (fun cc => ?_)
        · have h := h.1 cc
          refine s_aload_n dX4_insertFrames_31 rfl rfl ?_
          refine s_getR dX4_insertFrames_32 flX4_24 kn1 kk1 rfl kr1_3 ?_
          refine s_getI (x := (m2 5 1)) dX4_insertFrames_35 flX4_60 kn5 kk5 rfl rfl ?_
          refine s_aload_n dX4_insertFrames_38 rfl rfl ?_
          refine s_getR dX4_insertFrames_39 flX4_24 kn1 kk1 rfl kr1_3 ?_
          refine s_iload_n dX4_insertFrames_42 rfl rfl ?_
          obtain ⟨P, hcl, h⟩ := h
          refine s_callV (As := [vI x1]) (rest := [vI (m2 5 1)]) (k := 5) dX4_insertFrames_43 lkX4_143 kn5 ⟨by rw [kk5]; rfl, by rw [kk5]; decide⟩ lmX1_clipsAcross rfl rfl (Nat.le_of_ble_eq_true rfl) (by decide) (Nat.le_refl 0) (Nat.le_refl 0) (hC := hcl) (fun r n2 S2 m4 hP => ?_)
          obtain ⟨⟨rfl, rfl⟩, z3, rfl, hq⟩ := hP
          have h := h z3 m4 hq
          obtain ⟨c, h⟩ := h
          refine s_iadd dX4_insertFrames_46 (am_w_id c) ?_
          refine s_bipush dX4_insertFrames_47 (by decide) ?_
          refine s_icmp_le dX4_insertFrames_49 (tgt := 55) (by decide) (fun cc => ?_) (fun cc => ?_)
          · have h := h.1 cc
            refine s_aload_n dX4_insertFrames_55 rfl rfl ?_
            refine s_getR dX4_insertFrames_56 flX4_31 kn1 kk1 rfl kr1_4 ?_
            refine s_iload_n dX4_insertFrames_59 rfl rfl ?_
            refine s_iload_n dX4_insertFrames_60 rfl rfl ?_
            obtain ⟨P, hcl, h⟩ := h
            refine s_callV (As := [vI x1, vI x2]) (rest := []) (k := 7) dX4_insertFrames_61 lkX4_147 kn7 ⟨by rw [kk7]; rfl, by rw [kk7]; decide⟩ lmX0_giveFrames rfl rfl (Nat.le_of_ble_eq_true rfl) (by decide) (Nat.le_refl 0) (Nat.le_refl 0) (hC := hcl) (fun r n2 S2 m6 hP => ?_)
            obtain ⟨⟨rfl, rfl⟩, rfl, hq⟩ := hP
            have h := h m6 hq
            refine s_aload_n dX4_insertFrames_64 rfl rfl ?_
            refine s_getR dX4_insertFrames_65 flX4_24 kn1 kk1 rfl kr1_3 ?_
            refine s_iload_n dX4_insertFrames_68 rfl rfl ?_
            obtain ⟨P, hcl, h⟩ := h
            refine s_callV (As := [vI x1]) (rest := []) (k := 5) dX4_insertFrames_69 lkX4_131 kn5 ⟨by rw [kk5]; rfl, by rw [kk5]; decide⟩ lmX1_divideAllAt rfl rfl (Nat.le_of_ble_eq_true rfl) (by decide) (Nat.le_refl 0) (Nat.le_refl 0) (hC := hcl) (fun r n2 S2 m8 hP => ?_)
            obtain ⟨⟨rfl, rfl⟩, rfl, hq⟩ := hP
            have h := h m8 hq
            refine s_aload_n dX4_insertFrames_72 rfl rfl ?_
            refine s_getR dX4_insertFrames_73 flX4_24 kn1 kk1 rfl kr1_3 ?_
            refine s_iload_n dX4_insertFrames_76 rfl rfl ?_
            refine s_iload_n dX4_insertFrames_77 rfl rfl ?_
            obtain ⟨P, hcl, h⟩ := h
            refine s_callV (As := [vI x1, vI x2]) (rest := []) (k := 5) dX4_insertFrames_78 lkX4_150 kn5 ⟨by rw [kk5]; rfl, by rw [kk5]; decide⟩ lmX1_giveFrames rfl rfl (Nat.le_of_ble_eq_true rfl) (by decide) (Nat.le_refl 0) (Nat.le_refl 0) (hC := hcl) (fun r n2 S2 m10 hP => ?_)
            obtain ⟨⟨rfl, rfl⟩, rfl, hq⟩ := hP
            have h := h m10 hq
            refine s_aload_n dX4_insertFrames_81 rfl rfl ?_
            refine s_getR dX4_insertFrames_82 flX4_24 kn1 kk1 rfl kr1_3 ?_
            refine s_getI (x := (m10 5 1)) dX4_insertFrames_85 flX4_60 kn5 kk5 rfl rfl ?_
            exact s_ireturn dX4_insertFrames_88 (Or.inl rfl) ⟨⟨rfl, rfl⟩, _, rfl, h⟩
          · have h := h.2 cc
            refine s_bipush dX4_insertFrames_52 (by decide) ?_
            exact s_ireturn dX4_insertFrames_54 (Or.inl rfl) ⟨⟨rfl, rfl⟩, _, rfl, h⟩
        · have h := h.2 cc
          refine s_bipush dX4_insertFrames_28 (by decide) ?_
          exact s_ireturn dX4_insertFrames_30 (Or.inl rfl) ⟨⟨rfl, rfl⟩, _, rfl, h⟩
theorem ve_X4_insertFrames {x1 x2 : Int} {μ : am_M} {Q : Int → am_M → Prop} (h : at_I kC 6 mX4_insertFrames 0 [vR 1, vI x1, vI x2] [] μ Q) : cl_I kC 6 mX4_insertFrames [vR 1, vI x1, vI x2] μ Q := am_intro pmX4_insertFrames (Nat.le_of_ble_eq_true rfl) rfl h
theorem sp_X4_insertFrames {μ : am_M} {a l : Int} (L : List Rw) (H : Hl) (ht : tl_ (μ 5 1) (cg μ) L) (hh : hl_ (μ 7 2) (μ 8) (μ 9) H) (hok : ∀ r ∈ L, okC r) (hs : srt_ L) (hl : L.length ≤ 24) (hlh : H.length ≤ 12) (hho : ∀ p ∈ H, in_ 0 600 p.1) : cl_I kC 6 mX4_insertFrames [vR 1, vI a, vI l] μ (fun z m => lk_ μ m z (r_ins L H a l)) := by
  have bad : (a < 0 ∨ 600 ≤ a ∨ l < 1 ∨ 600 < l) → lk_ μ μ (-2) (r_ins L H a l) := fun h => by
    rw [show r_ins L H a l = (-2, L, H) from cif_t h]
    exact ⟨rfl, fr_rf, ht, hh⟩
  refine ve_X4_insertFrames (vc_X4_insertFrames_0 ⟨fun h => bad (by omega), fun a0 => ⟨fun h => bad (by omega), fun a1 => ⟨fun h => bad (by omega), fun a2 => ?_⟩⟩⟩)
  have okT := ok_of ht (by omega) (fun r hr => (hok r hr).R)
  have hn := ht.1
  refine ⟨_, sp_X4_canGoBack (Q := fun z m => z = bI (bck_ (μ 5 1) (cg μ) H a l) ∧ m = μ) H okT hh hlh hho (by (try unfold am_in); (try unfold in_ at *); omega) ⟨rfl, rfl⟩, ?_⟩
  rintro z m2 ⟨hz, rfl⟩
  have e1 : r_ins L H a l = _ := cif_f (by omega)
  refine ⟨fun hb => ?_, fun hb => ?_⟩
  · have hb2 : bck_ L.length (ofL L) H a l := (bck_L ht).mp (bI_ne (by rw [← hz]; exact hb))
    have e2 := e1.trans (cif_f (fun w => w hb2))
    refine ⟨_, sp_X1_clipsAcross (Q := fun z m => z = ((L.flatMap (spF a)).length : Int) - L.length ∧ m = m2) L ht hok (by omega) ⟨rfl, rfl⟩, ?_⟩
    rintro z3 m4 ⟨hz3, rfl⟩
    have l1 := sp_l4 (f := a) hs hok
    have l0 := flat_len (spF_len a) L
    have o1 := okC_sp (f := a) hok
    refine ⟨(by (try unfold am_in); (try unfold in_ at *); omega), fun h24 => ?_, fun h24 => ?_⟩
    · refine ⟨_, sp_X0_giveFrames H (by (try unfold am_in); (try unfold in_ at *); omega) hh hlh hho, fun m6 k6 => ?_⟩
      have e5 := k6.1 5 (by decide)
      have e6 := k6.1 6 (by decide)
      refine ⟨_, sp_X1_divideAllAt L (by (try unfold am_in); (try unfold in_ at *); omega) (by rw [e5, cg_c e6]; exact ht) hok (by omega), fun m8 k8 => ?_⟩
      refine ⟨_, sp_X1_giveFrames _ (by (try unfold am_in); (try unfold in_ at *); omega) k8.2 o1 (by omega), fun m10 k10 => ?_⟩
      rw [e2.trans (cif_f (by omega))]
      refine ⟨by rw [k10.2.1]; simp, ?_, k10.2, ?_⟩
      · exact fr_tr (fr_tr (fr_up k6.1 (by simp)) (fr_up k8.1 (by simp))) (fr_up k10.1 (by simp))
      · have w := fr_tr k8.1 k10.1
        rw [w 7 (by decide), w 8 (by decide), w 9 (by decide)]
        exact k6.2
    · rw [e2.trans (cif_t (by omega))]
      exact ⟨rfl, fr_rf, ht, hh⟩
  · rw [e1.trans (cif_t (fun w => bI_eq (by rw [← hz]; exact hb) ((bck_L ht).mpr w)))]
    exact ⟨rfl, fr_rf, ht, hh⟩
/-- the frames of a chapter -/
def h_frm (n : Int) (g : Tb) (H : Hl) (c : Int) : Int := (fun e => if 0 < e - (H.getD c.toNat (0, 0)).1 then e - (H.getD c.toNat (0, 0)).1 else 0) (if c + 1 < H.length then (H.getD (c + 1).toNat (0, 0)).1 else la_ g n)
theorem hl_g {n : Int} {f t : Nat → Int} {H : Hl} (h : hl_ n f t H) {c : Int} (h0 : 0 ≤ c) (h1 : c < H.length) : f c.toNat = (H.getD c.toNat (0, 0)).1 ∧ t c.toNat = (H.getD c.toNat (0, 0)).2 := by
  have hl : c.toNat < H.length := by omega
  have := h.2 c.toNat _ (List.getElem?_eq_getElem hl)
  rw [List.getD_eq_getElem?_getD, List.getElem?_eq_getElem hl]
  exact this
theorem ho_g {H : Hl} (ho : ∀ p ∈ H, in_ 0 600 p.1) (c : Int) : in_ 0 600 (H.getD c.toNat (0, 0)).1 := by
  rw [List.getD_eq_getElem?_getD]
  by_cases h : c.toNat < H.length
  · rw [List.getElem?_eq_getElem h]
    exact ho _ (List.getElem_mem h)
  · rw [List.getElem?_eq_none (by omega)]
    exact ⟨by decide, by decide⟩
theorem vc_X4_framesOfChapter_0 {x1 : Int} {μ : am_M} {Q : Int → am_M → Prop} (h : (am_in (x1 + 1)) ∧ (((¬ (0 ≤ (x1 + 1) ∧ (x1 + 1) < μ 7 2) → (ok_T (cg μ) (μ 5 1))) ∧ (0 ≤ (x1 + 1) ∧ (x1 + 1) < μ 7 2 → (am_in (x1 + 1)) ∧ ((0 ≤ x1 + 1) ∧ (x1 + 1 < 12)))) ∧ (∀ v1 : Int, v1 = (cif (0 ≤ (x1 + 1) ∧ (x1 + 1) < μ 7 2) (μ 8 ((x1 + 1).toNat)) (la_ (cg μ) (μ 5 1))) → (0 ≤ x1) ∧ (x1 < 12) ∧ ((am_in (v1 - (μ 8 ((x1).toNat)))) ∧ (Q (if 0 < v1 - (μ 8 ((x1).toNat)) then v1 - (μ 8 ((x1).toNat)) else 0) μ))))) : at_I kC 4 mX4_framesOfChapter 0 [vR 1, vI x1, vU] [] μ Q := by
  refine s_aload_n dX4_framesOfChapter_0 rfl rfl ?_
  refine s_getR dX4_framesOfChapter_1 flX4_31 kn1 kk1 rfl kr1_4 ?_
  refine s_iload_n dX4_framesOfChapter_4 rfl rfl ?_
  refine s_iconst dX4_framesOfChapter_5 (by decide) ?_
  obtain ⟨c, h⟩ := h
  refine s_iadd dX4_framesOfChapter_6 (am_w_id c) ?_
  refine s_callV (As := [vI (x1 + 1)]) (rest := []) (k := 7) dX4_framesOfChapter_7 lkX4_155 kn7 ⟨by rw [kk7]; rfl, by rw [kk7]; decide⟩ lmX0_has rfl rfl (Nat.le_of_ble_eq_true rfl) (by decide) (Nat.le_refl 0) (Nat.le_refl 0) (hC := sp_X0_has (Q := fun z m => bI (0 ≤ (x1 + 1) ∧ (x1 + 1) < μ 7 2) = z ∧ μ = m)  ⟨rfl, rfl⟩) (fun r n2 S2 m2 hP => ?_)
  obtain ⟨⟨rfl, rfl⟩, z, rfl, rfl, rfl⟩ := hP
  obtain ⟨hsd, h⟩ := h
  have kj2 : ∀ (v1 : Int), ((0 ≤ x1) ∧ (x1 < 12) ∧ ((am_in (v1 - (μ 8 ((x1).toNat)))) ∧ (Q (if 0 < v1 - (μ 8 ((x1).toNat)) then v1 - (μ 8 ((x1).toNat)) else 0) μ))) → at_I kC 4 mX4_framesOfChapter 34 [vR 1, vI x1, vU] [vI v1] μ Q := by
    intro v1 h
    refine s_istore_n dX4_framesOfChapter_34 rfl (by decide) (L' := [vR 1, vI x1, vI v1]) rfl ?_
    refine s_iconst dX4_framesOfChapter_35 (by decide) ?_
    refine s_iload_n dX4_framesOfChapter_36 rfl rfl ?_
    refine s_aload_n dX4_framesOfChapter_37 rfl rfl ?_
    refine s_getR dX4_framesOfChapter_38 flX4_31 kn1 kk1 rfl kr1_4 ?_
    refine s_getR dX4_framesOfChapter_41 flX4_50 kn7 kk7 rfl kr7_0 ?_
    refine s_iload_n dX4_framesOfChapter_44 rfl rfl ?_
    obtain ⟨c, c2, h⟩ := h
    refine s_iald (x := (μ 8 ((x1).toNat))) dX4_framesOfChapter_45 kn8 kk8 kl8 c c2 rfl ?_
    obtain ⟨c, h⟩ := h
    refine s_isub dX4_framesOfChapter_46 (am_w_id c) ?_
    refine s_max dX4_framesOfChapter_47 wmX4_156 (Nat.le_of_ble_eq_true rfl) (by decide) rfl ?_
    exact s_ireturn dX4_framesOfChapter_50 (Or.inl rfl) ⟨⟨rfl, rfl⟩, _, rfl, h⟩
  refine s_if_eq dX4_framesOfChapter_10 (tgt := 27) (by decide) (fun cc => ?_) (fun cc => ?_)
  · have hp0 := (bI_eq cc)
    have hsd := hsd.1 hp0
    refine s_aload_n dX4_framesOfChapter_27 rfl rfl ?_
    refine s_getR dX4_framesOfChapter_28 flX4_24 kn1 kk1 rfl kr1_3 ?_
    have p0 := hsd
    refine s_callV (As := []) (rest := []) (k := 5) dX4_framesOfChapter_31 lkX4_151 kn5 ⟨by rw [kk5]; rfl, by rw [kk5]; decide⟩ lmX1_lastEnd rfl rfl (Nat.le_of_ble_eq_true rfl) (by decide) (Nat.le_refl 0) (Nat.le_refl 0) (hC := sp_X1_lastEnd (Q := fun z m => la_ (cg μ) (μ 5 1) = z ∧ μ = m) p0 ⟨rfl, rfl⟩) (fun r n2 S2 m2 hP => ?_)
    obtain ⟨⟨rfl, rfl⟩, z, rfl, rfl, rfl⟩ := hP
    exact kj2 (la_ (cg μ) (μ 5 1)) (h (la_ (cg μ) (μ 5 1)) (by rw [cif_f hp0]))
  · have hp0 := (bI_ne cc)
    have hsd := hsd.2 hp0
    refine s_aload_n dX4_framesOfChapter_13 rfl rfl ?_
    refine s_getR dX4_framesOfChapter_14 flX4_31 kn1 kk1 rfl kr1_4 ?_
    refine s_getR dX4_framesOfChapter_17 flX4_50 kn7 kk7 rfl kr7_0 ?_
    refine s_iload_n dX4_framesOfChapter_20 rfl rfl ?_
    refine s_iconst dX4_framesOfChapter_21 (by decide) ?_
    obtain ⟨c, hsd⟩ := hsd
    refine s_iadd dX4_framesOfChapter_22 (am_w_id c) ?_
    obtain ⟨c, c2⟩ := hsd
    refine s_iald (x := (μ 8 ((x1 + 1).toNat))) dX4_framesOfChapter_23 kn8 kk8 kl8 c c2 rfl ?_
    refine s_goto dX4_framesOfChapter_24 (tgt := 34) (by decide) ?_
    exact kj2 (μ 8 ((x1 + 1).toNat)) (h (μ 8 ((x1 + 1).toNat)) (by rw [cif_t hp0]))
theorem ve_X4_framesOfChapter {x1 : Int} {μ : am_M} {Q : Int → am_M → Prop} (h : at_I kC 4 mX4_framesOfChapter 0 [vR 1, vI x1, vU] [] μ Q) : cl_I kC 4 mX4_framesOfChapter [vR 1, vI x1] μ Q := am_intro pmX4_framesOfChapter (Nat.le_of_ble_eq_true rfl) rfl h
theorem sp_X4_framesOfChapter {μ : am_M} {c : Int} {Q : Int → am_M → Prop} (H : Hl) (h1 : ok_T (cg μ) (μ 5 1)) (ht : hl_ (μ 7 2) (μ 8) (μ 9) H) (hl : H.length ≤ 12) (ho : ∀ p ∈ H, in_ 0 600 p.1) (hc : 0 ≤ c ∧ c < H.length) (hQ : Q (h_frm (μ 5 1) (cg μ) H c) μ) : cl_I kC 4 mX4_framesOfChapter [vR 1, vI c] μ Q := by
  have q1 := la_b h1
  have q2 := ht.1
  have g0 := hl_g ht hc.1 hc.2
  have o0 := ho_g ho c
  have o1 := ho_g ho (c + 1)
  refine ve_X4_framesOfChapter (vc_X4_framesOfChapter_0 ⟨(by (try unfold am_in); (try unfold in_ at *); omega), ⟨fun _ => h1, fun _ => ⟨(by (try unfold am_in); (try unfold in_ at *); omega), (by (try unfold am_in); (try unfold in_ at *); omega), (by (try unfold am_in); (try unfold in_ at *); omega)⟩⟩, fun v hv => ⟨(by (try unfold am_in); (try unfold in_ at *); omega), (by (try unfold am_in); (try unfold in_ at *); omega), ?_⟩⟩)
  have hv2 : v = if c + 1 < H.length then (H.getD (c + 1).toNat (0, 0)).1 else la_ (cg μ) (μ 5 1) := by
    rw [hv]
    by_cases h : c + 1 < H.length
    · rw [if_pos h, cif_t (by omega), (hl_g ht (by omega) h).1]
    · rw [if_neg h, cif_f (by omega)]
  have hv3 : in_ 0 1202 v := by rw [hv2]; split <;> ((try unfold am_in); (try unfold in_ at *); omega)
  rw [g0.1]
  refine ⟨(by (try unfold am_in); (try unfold in_ at *); omega), ?_⟩
  have : h_frm (μ 5 1) (cg μ) H c = if 0 < v - (H.getD c.toNat (0, 0)).1 then v - (H.getD c.toNat (0, 0)).1 else 0 := by
    unfold h_frm
    rw [← hv2]
  rw [← this]
  exact hQ
/-- the least key of an event behind a key -/
def nxt_ (n : Int) (g : Tb) (H : Hl) (k : Int) : Int := (H.map (fun p => (p.1 * 3 + 1) * 4)).foldl (nea_ k) (fI (fun a i => nea_ k (nea_ k a ((en_ g i * 3) * 4 + g i 0)) ((g i 1 * 3 + 2) * 4 + g i 0)) 2147483647 n)
theorem vc_X4_nextEvent_0 {x1 : Int} {μ : am_M} {Q : Int → am_M → Prop} (h : at_I kC 3 mX4_nextEvent 5 [vR 1, vI x1, vI 2147483647, vI 0, vU] [] μ Q) : at_I kC 3 mX4_nextEvent 0 [vR 1, vI x1, vU, vU, vU] [] μ Q := by
  refine s_ldc (z := 2147483647) dX4_nextEvent_0 wcX4_163 (by unfold am_in; decide) ?_
  refine s_istore_n dX4_nextEvent_2 rfl (by decide) (L' := [vR 1, vI x1, vI 2147483647, vU, vU]) rfl ?_
  refine s_iconst dX4_nextEvent_3 (by decide) ?_
  refine s_istore_n dX4_nextEvent_4 rfl (by decide) (L' := [vR 1, vI x1, vI 2147483647, vI 0, vU]) rfl ?_
  exact h
theorem vc_X4_nextEvent_5 {x1 x2 x3 : Int} {μ : am_M} {Q : Int → am_M → Prop} (h : (μ 5 1 ≤ x3 → at_I kC 3 mX4_nextEvent 76 [vR 1, vI x1, vI x2, vI 0, vU] [] μ Q) ∧ (x3 < μ 5 1 → (in_ 0 32 x3) ∧ (in_ 0 8 0) ∧ ((in_ 0 32 x3) ∧ (am_in (en_ (cg μ) x3)) ∧ ((in_ 0 1201 (en_ (cg μ) x3)) ∧ (in_ 0 3 0) ∧ (in_ 0 4 (cg μ x3 0)) ∧ (∀ v1 : Int, v1 = ((en_ (cg μ) x3) * 3 + 0) * 4 + (cg μ x3 0) → (in_ 0 32 x3) ∧ (in_ 0 8 1) ∧ ((in_ 0 1201 (cg μ x3 1)) ∧ (in_ 0 3 2) ∧ (in_ 0 4 (cg μ x3 0)) ∧ (∀ v2 : Int, v2 = ((cg μ x3 1) * 3 + 2) * 4 + (cg μ x3 0) → (am_in (x3 + 1)) ∧ (at_I kC 3 mX4_nextEvent 5 [vR 1, vI x1, vI (nea_ x1 (nea_ x1 x2 v1) v2), vI (x3 + 1), vU] [] μ Q)))))))) : at_I kC 3 mX4_nextEvent 5 [vR 1, vI x1, vI x2, vI x3, vU] [] μ Q := by
  refine s_iload_n dX4_nextEvent_5 rfl rfl ?_
  refine s_aload_n dX4_nextEvent_6 rfl rfl ?_
  refine s_getR dX4_nextEvent_7 flX4_24 kn1 kk1 rfl kr1_3 ?_
  refine s_getI (x := (μ 5 1)) dX4_nextEvent_10 flX4_60 kn5 kk5 rfl rfl ?_
  refine s_icmp_ge dX4_nextEvent_13 (tgt := 74) (by decide) (fun cc => ?_) (fun cc => ?_)
  · have h := h.1 cc
    refine s_iconst dX4_nextEvent_74 (by decide) ?_
    refine s_istore_n dX4_nextEvent_75 rfl (by decide) (L' := [vR 1, vI x1, vI x2, vI 0, vU]) rfl ?_
    exact h
  · have h := h.2 cc
    refine s_aload_n dX4_nextEvent_16 rfl rfl ?_
    refine s_getR dX4_nextEvent_17 flX4_24 kn1 kk1 rfl kr1_3 ?_
    refine s_iload_n dX4_nextEvent_20 rfl rfl ?_
    refine s_iconst dX4_nextEvent_21 (by decide) ?_
    obtain ⟨p0, p1, h⟩ := h
    refine s_callV (As := [vI x3, vI 0]) (rest := []) (k := 5) dX4_nextEvent_22 lkX4_118 kn5 ⟨by rw [kk5]; rfl, by rw [kk5]; decide⟩ lmX1_get rfl rfl (Nat.le_of_ble_eq_true rfl) (by decide) (Nat.le_refl 0) (Nat.le_refl 0) (hC := sp_X1_get (Q := fun z m => cg μ x3 0 = z ∧ μ = m) p0 p1 ⟨rfl, rfl⟩) (fun r n2 S2 m2 hP => ?_)
    obtain ⟨⟨rfl, rfl⟩, z, rfl, rfl, rfl⟩ := hP
    refine s_istore dX4_nextEvent_25 (by decide) (L' := [vR 1, vI x1, vI x2, vI x3, vI (cg μ x3 0)]) rfl ?_
    refine s_iload_n dX4_nextEvent_27 rfl rfl ?_
    refine s_iload_n dX4_nextEvent_28 rfl rfl ?_
    refine s_aload_n dX4_nextEvent_29 rfl rfl ?_
    refine s_getR dX4_nextEvent_30 flX4_24 kn1 kk1 rfl kr1_3 ?_
    refine s_iload_n dX4_nextEvent_33 rfl rfl ?_
    obtain ⟨p0, p1, h⟩ := h
    refine s_callV (As := [vI x3]) (rest := [vI x2, vI x1]) (k := 5) dX4_nextEvent_34 lkX4_164 kn5 ⟨by rw [kk5]; rfl, by rw [kk5]; decide⟩ lmX1_endOf rfl rfl (Nat.le_of_ble_eq_true rfl) (by decide) (Nat.le_refl 0) (Nat.le_refl 0) (hC := sp_X1_endOf (Q := fun z m => en_ (cg μ) x3 = z ∧ μ = m) p0 p1 ⟨rfl, rfl⟩) (fun r n2 S2 m2 hP => ?_)
    obtain ⟨⟨rfl, rfl⟩, z, rfl, rfl, rfl⟩ := hP
    refine s_iconst dX4_nextEvent_37 (by decide) ?_
    refine s_iload dX4_nextEvent_38 rfl ?_
    obtain ⟨p0, p1, p2, h⟩ := h
    refine s_callS (As := [vI (en_ (cg μ) x3), vI 0, vI (cg μ x3 0)]) (rest := [vI x2, vI x1]) dX4_nextEvent_40 lkX4_167 lmX4_eventKey rfl rfl (Nat.le_of_ble_eq_true rfl) (by decide) (Nat.le_refl 0) (Nat.le_refl 0) (hC := sp_X4_eventKey (Q := fun z m => z = ((en_ (cg μ) x3) * 3 + 0) * 4 + (cg μ x3 0) ∧ μ = m) p0 p1 p2 ⟨rfl, rfl⟩) (fun r n2 S2 m2 hP => ?_)
    obtain ⟨⟨rfl, rfl⟩, v1, rfl, hz, rfl⟩ := hP
    have h := h v1 hz
    refine s_callS (As := [vI x1, vI x2, vI v1]) (rest := []) dX4_nextEvent_43 lkX4_171 lmX4_nearer rfl rfl (Nat.le_of_ble_eq_true rfl) (by decide) (Nat.le_refl 0) (Nat.le_refl 0) (hC := sp_X4_nearer (Q := fun z m => nea_ x1 x2 v1 = z ∧ μ = m)  ⟨rfl, rfl⟩) (fun r n2 S2 m2 hP => ?_)
    obtain ⟨⟨rfl, rfl⟩, z, rfl, rfl, rfl⟩ := hP
    refine s_istore_n dX4_nextEvent_46 rfl (by decide) (L' := [vR 1, vI x1, vI (nea_ x1 x2 v1), vI x3, vI (cg μ x3 0)]) rfl ?_
    refine s_iload_n dX4_nextEvent_47 rfl rfl ?_
    refine s_iload_n dX4_nextEvent_48 rfl rfl ?_
    refine s_aload_n dX4_nextEvent_49 rfl rfl ?_
    refine s_getR dX4_nextEvent_50 flX4_24 kn1 kk1 rfl kr1_3 ?_
    refine s_iload_n dX4_nextEvent_53 rfl rfl ?_
    refine s_iconst dX4_nextEvent_54 (by decide) ?_
    obtain ⟨p0, p1, h⟩ := h
    refine s_callV (As := [vI x3, vI 1]) (rest := [vI (nea_ x1 x2 v1), vI x1]) (k := 5) dX4_nextEvent_55 lkX4_118 kn5 ⟨by rw [kk5]; rfl, by rw [kk5]; decide⟩ lmX1_get rfl rfl (Nat.le_of_ble_eq_true rfl) (by decide) (Nat.le_refl 0) (Nat.le_refl 0) (hC := sp_X1_get (Q := fun z m => cg μ x3 1 = z ∧ μ = m) p0 p1 ⟨rfl, rfl⟩) (fun r n2 S2 m2 hP => ?_)
    obtain ⟨⟨rfl, rfl⟩, z, rfl, rfl, rfl⟩ := hP
    refine s_iconst dX4_nextEvent_58 (by decide) ?_
    refine s_iload dX4_nextEvent_59 rfl ?_
    obtain ⟨p0, p1, p2, h⟩ := h
    refine s_callS (As := [vI (cg μ x3 1), vI 2, vI (cg μ x3 0)]) (rest := [vI (nea_ x1 x2 v1), vI x1]) dX4_nextEvent_61 lkX4_167 lmX4_eventKey rfl rfl (Nat.le_of_ble_eq_true rfl) (by decide) (Nat.le_refl 0) (Nat.le_refl 0) (hC := sp_X4_eventKey (Q := fun z m => z = ((cg μ x3 1) * 3 + 2) * 4 + (cg μ x3 0) ∧ μ = m) p0 p1 p2 ⟨rfl, rfl⟩) (fun r n2 S2 m2 hP => ?_)
    obtain ⟨⟨rfl, rfl⟩, v2, rfl, hz, rfl⟩ := hP
    have h := h v2 hz
    refine s_callS (As := [vI x1, vI (nea_ x1 x2 v1), vI v2]) (rest := []) dX4_nextEvent_64 lkX4_171 lmX4_nearer rfl rfl (Nat.le_of_ble_eq_true rfl) (by decide) (Nat.le_refl 0) (Nat.le_refl 0) (hC := sp_X4_nearer (Q := fun z m => nea_ x1 (nea_ x1 x2 v1) v2 = z ∧ μ = m)  ⟨rfl, rfl⟩) (fun r n2 S2 m2 hP => ?_)
    obtain ⟨⟨rfl, rfl⟩, z, rfl, rfl, rfl⟩ := hP
    refine s_istore_n dX4_nextEvent_67 rfl (by decide) (L' := [vR 1, vI x1, vI (nea_ x1 (nea_ x1 x2 v1) v2), vI x3, vI (cg μ x3 0)]) rfl ?_
    obtain ⟨c, h⟩ := h
    refine s_iinc dX4_nextEvent_68 rfl (am_w_id c) (by decide) (L' := [vR 1, vI x1, vI (nea_ x1 (nea_ x1 x2 v1) v2), vI (x3 + 1), vI (cg μ x3 0)]) rfl ?_
    refine s_goto dX4_nextEvent_71 (tgt := 5) (by decide) ?_
    exact am_lesS h ⟨Or.inr rfl, Or.inr rfl, Or.inr rfl, Or.inr rfl, Or.inl rfl, trivial⟩
theorem vc_X4_nextEvent_76 {x1 x2 x3 : Int} {μ : am_M} {Q : Int → am_M → Prop} (h : (μ 7 2 ≤ x3 → Q x2 μ) ∧ (x3 < μ 7 2 → (0 ≤ x3) ∧ (x3 < 12) ∧ ((in_ 0 1201 (μ 8 ((x3).toNat))) ∧ (in_ 0 3 1) ∧ (in_ 0 4 0) ∧ (∀ v1 : Int, v1 = ((μ 8 ((x3).toNat)) * 3 + 1) * 4 + 0 → (am_in (x3 + 1)) ∧ (at_I kC 3 mX4_nextEvent 76 [vR 1, vI x1, vI (nea_ x1 x2 v1), vI (x3 + 1), vU] [] μ Q))))) : at_I kC 3 mX4_nextEvent 76 [vR 1, vI x1, vI x2, vI x3, vU] [] μ Q := by
  refine s_iload_n dX4_nextEvent_76 rfl rfl ?_
  refine s_aload_n dX4_nextEvent_77 rfl rfl ?_
  refine s_getR dX4_nextEvent_78 flX4_31 kn1 kk1 rfl kr1_4 ?_
  refine s_getI (x := (μ 7 2)) dX4_nextEvent_81 flX4_63 kn7 kk7 rfl rfl ?_
  refine s_icmp_ge dX4_nextEvent_84 (tgt := 113) (by decide) (fun cc => ?_) (fun cc => ?_)
  · have h := h.1 cc
    refine s_iload_n dX4_nextEvent_113 rfl rfl ?_
    exact s_ireturn dX4_nextEvent_114 (Or.inl rfl) ⟨⟨rfl, rfl⟩, _, rfl, h⟩
  · have h := h.2 cc
    refine s_iload_n dX4_nextEvent_87 rfl rfl ?_
    refine s_iload_n dX4_nextEvent_88 rfl rfl ?_
    refine s_aload_n dX4_nextEvent_89 rfl rfl ?_
    refine s_getR dX4_nextEvent_90 flX4_31 kn1 kk1 rfl kr1_4 ?_
    refine s_getR dX4_nextEvent_93 flX4_50 kn7 kk7 rfl kr7_0 ?_
    refine s_iload_n dX4_nextEvent_96 rfl rfl ?_
    obtain ⟨c, c2, h⟩ := h
    refine s_iald (x := (μ 8 ((x3).toNat))) dX4_nextEvent_97 kn8 kk8 kl8 c c2 rfl ?_
    refine s_iconst dX4_nextEvent_98 (by decide) ?_
    refine s_iconst dX4_nextEvent_99 (by decide) ?_
    obtain ⟨p0, p1, p2, h⟩ := h
    refine s_callS (As := [vI (μ 8 ((x3).toNat)), vI 1, vI 0]) (rest := [vI x2, vI x1]) dX4_nextEvent_100 lkX4_167 lmX4_eventKey rfl rfl (Nat.le_of_ble_eq_true rfl) (by decide) (Nat.le_refl 0) (Nat.le_refl 0) (hC := sp_X4_eventKey (Q := fun z m => z = ((μ 8 ((x3).toNat)) * 3 + 1) * 4 + 0 ∧ μ = m) p0 p1 p2 ⟨rfl, rfl⟩) (fun r n2 S2 m2 hP => ?_)
    obtain ⟨⟨rfl, rfl⟩, v1, rfl, hz, rfl⟩ := hP
    have h := h v1 hz
    refine s_callS (As := [vI x1, vI x2, vI v1]) (rest := []) dX4_nextEvent_103 lkX4_171 lmX4_nearer rfl rfl (Nat.le_of_ble_eq_true rfl) (by decide) (Nat.le_refl 0) (Nat.le_refl 0) (hC := sp_X4_nearer (Q := fun z m => nea_ x1 x2 v1 = z ∧ μ = m)  ⟨rfl, rfl⟩) (fun r n2 S2 m2 hP => ?_)
    obtain ⟨⟨rfl, rfl⟩, z, rfl, rfl, rfl⟩ := hP
    refine s_istore_n dX4_nextEvent_106 rfl (by decide) (L' := [vR 1, vI x1, vI (nea_ x1 x2 v1), vI x3, vU]) rfl ?_
    obtain ⟨c, h⟩ := h
    refine s_iinc dX4_nextEvent_107 rfl (am_w_id c) (by decide) (L' := [vR 1, vI x1, vI (nea_ x1 x2 v1), vI (x3 + 1), vU]) rfl ?_
    refine s_goto dX4_nextEvent_110 (tgt := 76) (by decide) ?_
    exact h
theorem ve_X4_nextEvent {x1 : Int} {μ : am_M} {Q : Int → am_M → Prop} (h : at_I kC 3 mX4_nextEvent 0 [vR 1, vI x1, vU, vU, vU] [] μ Q) : cl_I kC 3 mX4_nextEvent [vR 1, vI x1] μ Q := am_intro pmX4_nextEvent (Nat.le_of_ble_eq_true rfl) rfl h
theorem lp2_X4_nextEvent {μ : am_M} {k : Int} {Q : Int → am_M → Prop} (H : Hl) (ht : hl_ (μ 7 2) (μ 8) (μ 9) H) (hl : H.length ≤ 12) (ho : ∀ p ∈ H, in_ 0 600 p.1) (z : Int) (hQ : Q ((H.map (fun p => (p.1 * 3 + 1) * 4)).foldl (nea_ k) z) μ) : ∀ (B A : Hl) (y x : Int), H = A ++ B → x = A.length → y = (A.map (fun p => (p.1 * 3 + 1) * 4)).foldl (nea_ k) z → at_I kC 3 mX4_nextEvent 76 [vR 1, vI k, vI y, vI x, vU] [] μ Q := by
  intro B
  induction B with
  | nil =>
    intro A y x hH hx hy
    simp at hH
    subst hH
    exact vc_X4_nextEvent_76 ⟨fun _ => by rw [hy]; exact hQ, fun q => by rw [ht.1] at q; omega⟩
  | cons p B ih =>
    intro A y x hH hx hy
    have hn : H.length = A.length + 1 + B.length := by rw [hH]; simp; omega
    have hp := ho p (by rw [hH]; simp)
    have ht2 := ht
    rw [hH] at ht2
    have v := (hl_at ht2 hx).1
    refine vc_X4_nextEvent_76 ⟨fun q => by rw [ht.1] at q; omega, fun q => ⟨(by (try unfold am_in); (try unfold in_ at *); omega), (by (try unfold am_in); (try unfold in_ at *); omega), by rw [v]; ((try unfold am_in); (try unfold in_ at *); omega), (by (try unfold am_in); (try unfold in_ at *); omega), (by (try unfold am_in); (try unfold in_ at *); omega), fun w hw => ⟨(by (try unfold am_in); (try unfold in_ at *); omega), ?_⟩⟩⟩
    refine ih (A ++ [p]) _ (x + 1) (by rw [hH]; simp) (by simp; omega) ?_
    rw [List.map_append, List.foldl_append, ← hy, hw, v]
    simp
theorem sp_X4_nextEvent {μ : am_M} {k : Int} {Q : Int → am_M → Prop} (H : Hl) (h1 : ok_T (cg μ) (μ 5 1)) (ht : hl_ (μ 7 2) (μ 8) (μ 9) H) (hl : H.length ≤ 12) (ho : ∀ p ∈ H, in_ 0 600 p.1) (hQ : Q (nxt_ (μ 5 1) (cg μ) H k) μ) : cl_I kC 3 mX4_nextEvent [vR 1, vI k] μ Q := by
  refine ve_X4_nextEvent (vc_X4_nextEvent_0 ?_)
  have q1 := h1.1
  have : ∀ (j : Nat) (y x : Int), x + j = μ 5 1 → 0 ≤ x → y = fI (fun a i => nea_ k (nea_ k a ((en_ (cg μ) i * 3) * 4 + cg μ i 0)) ((cg μ i 1 * 3 + 2) * 4 + cg μ i 0)) 2147483647 x → at_I kC 3 mX4_nextEvent 5 [vR 1, vI k, vI y, vI x, vU] [] μ Q := by
    intro j
    induction j with
    | zero =>
      intro y x h h0 e
      have h' : x = μ 5 1 := by omega
      exact vc_X4_nextEvent_5 ⟨fun _ => lp2_X4_nextEvent H ht hl ho y (by rw [e, h']; exact hQ) H [] y 0 (by simp) rfl rfl, fun q => by omega⟩
    | succ j ih =>
      intro y x h h0 e
      refine vc_X4_nextEvent_5 ⟨fun q => by omega, fun q => ?_⟩
      obtain ⟨b0, b1, b2, b3, b4, b5, b6, b7⟩ := h1.2 x h0 q
      have e3 : in_ 0 1201 (en_ (cg μ) x) := by unfold en_; ((try unfold am_in); (try unfold in_ at *); omega)
      refine ⟨(by (try unfold am_in); (try unfold in_ at *); omega), (by (try unfold am_in); (try unfold in_ at *); omega), (by (try unfold am_in); (try unfold in_ at *); omega), h1.en h0 q, e3, (by (try unfold am_in); (try unfold in_ at *); omega), b0, fun v1 w1 => ⟨(by (try unfold am_in); (try unfold in_ at *); omega), (by (try unfold am_in); (try unfold in_ at *); omega), (by (try unfold am_in); (try unfold in_ at *); omega), (by (try unfold am_in); (try unfold in_ at *); omega), b0, fun v2 w2 => ⟨(by (try unfold am_in); (try unfold in_ at *); omega), ih _ _ (by omega) (by omega) ?_⟩⟩⟩
      rw [fI_s _ _ h0, ← e, w1, w2]
      simp
  exact this (μ 5 1).toNat 2147483647 0 (by (try unfold am_in); (try unfold in_ at *); omega) (by omega) rfl

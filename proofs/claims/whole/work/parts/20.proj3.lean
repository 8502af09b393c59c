/-! the class's project: cut, insert, the next event -/
theorem hC_at {μ : am_M} {i : Int} (h0 : 0 ≤ i) (h1 : i < μ 7 2) : ∃ p, (hC μ)[i.toNat]? = some p ∧ μ 8 i.toNat = p.1 ∧ μ 9 i.toNat = p.2 := by
  refine ⟨(μ 8 i.toNat, μ 9 i.toNat), ?_, rfl, rfl⟩
  unfold hC
  rw [List.getElem?_map, List.getElem?_range (by omega)]
  rfl
/-- may clips and chapters from a frame on go back -/
def bck_ (n : Int) (g : Tb) (H : Hl) (a l : Int) : Prop := ¬ (a < la_ g n ∧ 600 < la_ g n + l) ∧ ∀ p, H.getLast? = some p → p.1 < a ∨ p.1 + l < 600
theorem la_b {g : Tb} {n : Int} (h : ok_T g n) : in_ 0 1202 (la_ g n) := by
  have q1 := h.1
  refine fI_i (fun a _ => in_ 0 1202 a) (by ((try unfold am_in); (try unfold in_ at *); omega)) q1.1 (fun i b h0 h1 q => ?_)
  obtain ⟨b0, b1, b2, b3, b4, b5, b6, b7⟩ := h.2 i h0 h1
  split
  · unfold en_; ((try unfold am_in); (try unfold in_ at *); omega)
  · exact q
theorem vc_X4_canGoBack_0 {x1 x2 : Int} {μ : am_M} {Q : Int → am_M → Prop} (h : (ok_T (cg μ) (μ 5 1)) ∧ ((la_ (cg μ) (μ 5 1) ≤ x1 → (am_in (μ 7 2 - 1)) ∧ (((0 ≤ μ 7 2 - 1 → (0 ≤ μ 7 2 - 1) ∧ (μ 7 2 - 1 < 12) ∧ ((x1 ≤ μ 8 ((μ 7 2 - 1).toNat) → (0 ≤ μ 7 2 - 1) ∧ (μ 7 2 - 1 < 12) ∧ ((am_in ((μ 8 ((μ 7 2 - 1).toNat)) + x2))))))) ∧ (∀ v1 : Int, v1 = (if μ 7 2 - 1 < 0 then 1 else (if μ 8 ((μ 7 2 - 1).toNat) < x1 then 1 else (if (μ 8 ((μ 7 2 - 1).toNat)) + x2 < 600 then 1 else 0))) → (v1 = 0 ∨ v1 = 1) ∧ Q v1 μ))) ∧ (x1 < la_ (cg μ) (μ 5 1) → (am_in ((la_ (cg μ) (μ 5 1)) + x2)) ∧ (((la_ (cg μ) (μ 5 1)) + x2 ≤ 600 → (am_in (μ 7 2 - 1)) ∧ (((0 ≤ μ 7 2 - 1 → (0 ≤ μ 7 2 - 1) ∧ (μ 7 2 - 1 < 12) ∧ ((x1 ≤ μ 8 ((μ 7 2 - 1).toNat) → (0 ≤ μ 7 2 - 1) ∧ (μ 7 2 - 1 < 12) ∧ ((am_in ((μ 8 ((μ 7 2 - 1).toNat)) + x2))))))) ∧ (∀ v3 : Int, v3 = (if μ 7 2 - 1 < 0 then 1 else (if μ 8 ((μ 7 2 - 1).toNat) < x1 then 1 else (if (μ 8 ((μ 7 2 - 1).toNat)) + x2 < 600 then 1 else 0))) → (v3 = 0 ∨ v3 = 1) ∧ Q v3 μ))) ∧ (600 < (la_ (cg μ) (μ 5 1)) + x2 → Q 0 μ))))) : at_I kC 4 mX4_canGoBack 0 [vR 1, vI x1, vI x2, vU, vU] [] μ Q := by
  refine s_aload_n dX4_canGoBack_0 rfl rfl ?_
  refine s_getR dX4_canGoBack_1 flX4_24 kn1 kk1 rfl kr1_3 ?_
  obtain ⟨p0, h⟩ := h
  refine s_callV (As := []) (rest := []) (k := 5) dX4_canGoBack_4 lkX4_151 kn5 ⟨by rw [kk5]; rfl, by rw [kk5]; decide⟩ lmX1_lastEnd rfl rfl (Nat.le_of_ble_eq_true rfl) (by decide) (Nat.le_refl 0) (Nat.le_refl 0) (hC := sp_X1_lastEnd (Q := fun z m => la_ (cg μ) (μ 5 1) = z ∧ μ = m) p0 ⟨rfl, rfl⟩) (fun r n2 S2 m2 hP => ?_)
  obtain ⟨⟨rfl, rfl⟩, z, rfl, rfl, rfl⟩ := hP
  refine s_istore_n dX4_canGoBack_7 rfl (by decide) (L' := [vR 1, vI x1, vI x2, vI (la_ (cg μ) (μ 5 1)), vU]) rfl ?_
  refine s_iload_n dX4_canGoBack_8 rfl rfl ?_
  refine s_iload_n dX4_canGoBack_9 rfl rfl ?_
  refine s_icmp_le dX4_canGoBack_10 (tgt := 24) (by decide) (fun cc => ?_) (fun cc => ?_)
  · have h := h.1 cc
    refine s_aload_n dX4_canGoBack_24 rfl rfl ?_
    refine s_getR dX4_canGoBack_25 flX4_31 kn1 kk1 rfl kr1_4 ?_
    refine s_getI dX4_canGoBack_28 flX4_63 kn7 kk7 rfl rfl ?_
    refine s_iconst dX4_canGoBack_31 (by decide) ?_
    obtain ⟨c, h⟩ := h
    refine s_isub dX4_canGoBack_32 (am_w_id c) ?_
    refine s_istore dX4_canGoBack_33 (by decide) (L' := [vR 1, vI x1, vI x2, vI (la_ (cg μ) (μ 5 1)), vI (μ 7 2 - 1)]) rfl ?_
    refine s_iload dX4_canGoBack_35 rfl ?_
    obtain ⟨hsd, h⟩ := h
    have kj2 : ∀ (v1 : Int), ((v1 = 0 ∨ v1 = 1) ∧ Q v1 μ) → at_I kC 4 mX4_canGoBack 77 [vU, vU, vU, vU, vU] [vI v1] μ Q := by
      intro v1 h
      exact s_ireturn dX4_canGoBack_77 (Or.inr ⟨rfl, h.1⟩) ⟨⟨rfl, rfl⟩, _, rfl, h.2⟩
    refine s_if_lt dX4_canGoBack_37 (tgt := 72) (by decide) (fun cc => ?_) (fun cc => ?_)
    · have hp0 := cc
      refine s_iconst dX4_canGoBack_72 (by decide) ?_
      refine s_goto dX4_canGoBack_73 (tgt := 77) (by decide) ?_
      exact am_lesS (kj2 1 (h 1 (by rw [if_pos hp0]))) ⟨Or.inl rfl, Or.inl rfl, Or.inl rfl, Or.inl rfl, Or.inl rfl, trivial⟩
    · have hp0 := cc
      have hsd := hsd hp0
      refine s_aload_n dX4_canGoBack_40 rfl rfl ?_
      refine s_getR dX4_canGoBack_41 flX4_31 kn1 kk1 rfl kr1_4 ?_
      refine s_getR dX4_canGoBack_44 flX4_50 kn7 kk7 rfl kr7_0 ?_
      refine s_iload dX4_canGoBack_47 rfl ?_
      obtain ⟨c, c2, hsd⟩ := hsd
      refine s_iald dX4_canGoBack_49 kn8 kk8 kl8 c c2 rfl ?_
      refine s_iload_n dX4_canGoBack_50 rfl rfl ?_
      refine s_icmp_lt dX4_canGoBack_51 (tgt := 72) (by decide) (fun cc => ?_) (fun cc => ?_)
      · have hp1 := cc
        refine s_iconst dX4_canGoBack_72 (by decide) ?_
        refine s_goto dX4_canGoBack_73 (tgt := 77) (by decide) ?_
        exact am_lesS (kj2 1 (h 1 (by rw [if_neg (Int.not_lt.mpr hp0), if_pos hp1]))) ⟨Or.inl rfl, Or.inl rfl, Or.inl rfl, Or.inl rfl, Or.inl rfl, trivial⟩
      · have hp1 := cc
        have hsd := hsd hp1
        refine s_aload_n dX4_canGoBack_54 rfl rfl ?_
        refine s_getR dX4_canGoBack_55 flX4_31 kn1 kk1 rfl kr1_4 ?_
        refine s_getR dX4_canGoBack_58 flX4_50 kn7 kk7 rfl kr7_0 ?_
        refine s_iload dX4_canGoBack_61 rfl ?_
        obtain ⟨c, c2, hsd⟩ := hsd
        refine s_iald dX4_canGoBack_63 kn8 kk8 kl8 c c2 rfl ?_
        refine s_iload_n dX4_canGoBack_64 rfl rfl ?_
        have c := hsd
        refine s_iadd dX4_canGoBack_65 (am_w_id c) ?_
        refine s_sipush dX4_canGoBack_66 (by decide) ?_
        refine s_icmp_ge dX4_canGoBack_69 (tgt := 76) (by decide) (fun cc => ?_) (fun cc => ?_)
        · have hp2 := cc
          refine s_iconst dX4_canGoBack_76 (by decide) ?_
          exact am_lesS (kj2 0 (h 0 (by rw [if_neg (Int.not_lt.mpr hp0), if_neg (Int.not_lt.mpr hp1), if_neg (Int.not_lt.mpr hp2)]))) ⟨Or.inl rfl, Or.inl rfl, Or.inl rfl, Or.inl rfl, Or.inl rfl, trivial⟩
        · have hp2 := cc
          refine s_iconst dX4_canGoBack_72 (by decide) ?_
          refine s_goto dX4_canGoBack_73 (tgt := 77) (by decide) ?_
          exact am_lesS (kj2 1 (h 1 (by rw [if_neg (Int.not_lt.mpr hp0), if_neg (Int.not_lt.mpr hp1), if_pos hp2]))) ⟨Or.inl rfl, Or.inl rfl, Or.inl rfl, Or.inl rfl, Or.inl rfl, trivial⟩
  · have h := h.2 cc
    refine s_iload_n dX4_canGoBack_13 rfl rfl ?_
    refine s_iload_n dX4_canGoBack_14 rfl rfl ?_
    obtain ⟨c, h⟩ := h
    refine s_iadd dX4_canGoBack_15 (am_w_id c) ?_
    refine s_sipush dX4_canGoBack_16 (by decide) ?_
    refine s_icmp_le dX4_canGoBack_19 (tgt := 24) (by decide) (fun cc => ?_) (fun cc => ?_)
    · have h := h.1 cc
      refine s_aload_n dX4_canGoBack_24 rfl rfl ?_
      refine s_getR dX4_canGoBack_25 flX4_31 kn1 kk1 rfl kr1_4 ?_
      refine s_getI dX4_canGoBack_28 flX4_63 kn7 kk7 rfl rfl ?_
      refine s_iconst dX4_canGoBack_31 (by decide) ?_
      obtain ⟨c, h⟩ := h
      refine s_isub dX4_canGoBack_32 (am_w_id c) ?_
      refine s_istore dX4_canGoBack_33 (by decide) (L' := [vR 1, vI x1, vI x2, vI (la_ (cg μ) (μ 5 1)), vI (μ 7 2 - 1)]) rfl ?_
      refine s_iload dX4_canGoBack_35 rfl ?_
      obtain ⟨hsd, h⟩ := h
      have kj4 : ∀ (v3 : Int), ((v3 = 0 ∨ v3 = 1) ∧ Q v3 μ) → at_I kC 4 mX4_canGoBack 77 [vU, vU, vU, vU, vU] [vI v3] μ Q := by
        intro v3 h
        exact s_ireturn dX4_canGoBack_77 (Or.inr ⟨rfl, h.1⟩) ⟨⟨rfl, rfl⟩, _, rfl, h.2⟩
      refine s_if_lt dX4_canGoBack_37 (tgt := 72) (by decide) (fun cc => ?_) (fun cc => ?_)
      · have hp0 := cc
        refine s_iconst dX4_canGoBack_72 (by decide) ?_
        refine s_goto dX4_canGoBack_73 (tgt := 77) (by decide) ?_
        exact am_lesS (kj4 1 (h 1 (by rw [if_pos hp0]))) ⟨Or.inl rfl, Or.inl rfl, Or.inl rfl, Or.inl rfl, Or.inl rfl, trivial⟩
      · have hp0 := cc
        have hsd := hsd hp0
        refine s_aload_n dX4_canGoBack_40 rfl rfl ?_
        refine s_getR dX4_canGoBack_41 flX4_31 kn1 kk1 rfl kr1_4 ?_
        refine s_getR dX4_canGoBack_44 flX4_50 kn7 kk7 rfl kr7_0 ?_
        refine s_iload dX4_canGoBack_47 rfl ?_
        obtain ⟨c, c2, hsd⟩ := hsd
        refine s_iald dX4_canGoBack_49 kn8 kk8 kl8 c c2 rfl ?_
        refine s_iload_n dX4_canGoBack_50 rfl rfl ?_
        refine s_icmp_lt dX4_canGoBack_51 (tgt := 72) (by decide) (fun cc => ?_) (fun cc => ?_)
        · have hp1 := cc
          refine s_iconst dX4_canGoBack_72 (by decide) ?_
          refine s_goto dX4_canGoBack_73 (tgt := 77) (by decide) ?_
          exact am_lesS (kj4 1 (h 1 (by rw [if_neg (Int.not_lt.mpr hp0), if_pos hp1]))) ⟨Or.inl rfl, Or.inl rfl, Or.inl rfl, Or.inl rfl, Or.inl rfl, trivial⟩
        · have hp1 := cc
          have hsd := hsd hp1
          refine s_aload_n dX4_canGoBack_54 rfl rfl ?_
          refine s_getR dX4_canGoBack_55 flX4_31 kn1 kk1 rfl kr1_4 ?_
          refine s_getR dX4_canGoBack_58 flX4_50 kn7 kk7 rfl kr7_0 ?_
          refine s_iload dX4_canGoBack_61 rfl ?_
          obtain ⟨c, c2, hsd⟩ := hsd
          refine s_iald dX4_canGoBack_63 kn8 kk8 kl8 c c2 rfl ?_
          refine s_iload_n dX4_canGoBack_64 rfl rfl ?_
          have c := hsd
          refine s_iadd dX4_canGoBack_65 (am_w_id c) ?_
          refine s_sipush dX4_canGoBack_66 (by decide) ?_
          refine s_icmp_ge dX4_canGoBack_69 (tgt := 76) (by decide) (fun cc => ?_) (fun cc => ?_)
          · have hp2 := cc
            refine s_iconst dX4_canGoBack_76 (by decide) ?_
            exact am_lesS (kj4 0 (h 0 (by rw [if_neg (Int.not_lt.mpr hp0), if_neg (Int.not_lt.mpr hp1), if_neg (Int.not_lt.mpr hp2)]))) ⟨Or.inl rfl, Or.inl rfl, Or.inl rfl, Or.inl rfl, Or.inl rfl, trivial⟩
          · have hp2 := cc
            refine s_iconst dX4_canGoBack_72 (by decide) ?_
            refine s_goto dX4_canGoBack_73 (tgt := 77) (by decide) ?_
            exact am_lesS (kj4 1 (h 1 (by rw [if_neg (Int.not_lt.mpr hp0), if_neg (Int.not_lt.mpr hp1), if_pos hp2]))) ⟨Or.inl rfl, Or.inl rfl, Or.inl rfl, Or.inl rfl, Or.inl rfl, trivial⟩
    · have h := h.2 cc
      refine s_iconst dX4_canGoBack_22 (by decide) ?_
      exact s_ireturn dX4_canGoBack_23 (Or.inr ⟨rfl, by decide⟩) ⟨⟨rfl, rfl⟩, _, rfl, h⟩
theorem ve_X4_canGoBack {x1 x2 : Int} {μ : am_M} {Q : Int → am_M → Prop} (h : at_I kC 4 mX4_canGoBack 0 [vR 1, vI x1, vI x2, vU, vU] [] μ Q) : cl_I kC 4 mX4_canGoBack [vR 1, vI x1, vI x2] μ Q := am_intro pmX4_canGoBack (Nat.le_of_ble_eq_true rfl) rfl h
theorem sp_X4_canGoBack {μ : am_M} {a l : Int} {Q : Int → am_M → Prop} (H : Hl) (h1 : ok_T (cg μ) (μ 5 1)) (ht : hl_ (μ 7 2) (μ 8) (μ 9) H) (hl : H.length ≤ 12) (ho : ∀ p ∈ H, in_ 0 600 p.1) (hb : in_ 1 601 l) (hQ : Q (bI (bck_ (μ 5 1) (cg μ) H a l)) μ) : cl_I kC 4 mX4_canGoBack [vR 1, vI a, vI l] μ Q := by
  have q1 := la_b h1
  have q2 := ht.1
  have key : ∀ v : Int, v = (if μ 7 2 - 1 < 0 then 1 else (if μ 8 ((μ 7 2 - 1).toNat) < a then 1 else (if (μ 8 ((μ 7 2 - 1).toNat)) + l < 600 then 1 else 0))) → v = bI (∀ p, H.getLast? = some p → p.1 < a ∨ p.1 + l < 600) := by
    intro v hv
    rcases List.eq_nil_or_concat H with h | ⟨K, p, h⟩
    · subst h
      simp at q2
      rw [hv, if_pos (by omega), bI_t (by simp)]
    · have ht2 := ht
      rw [h] at ht2 q2
      simp at q2
      have := (hl_at (x := μ 7 2 - 1) (A := K) (B := []) (p := p) (by simpa using ht2) (by omega)).1
      rw [hv, if_neg (by omega), this, h]
      simp only [List.concat_eq_append, List.getLast?_append, List.getLast?_singleton, Option.some_or, Option.some.injEq]
      by_cases c1 : p.1 < a
      · rw [if_pos c1, bI_t (by intro q e; subst e; omega)]
      · rw [if_neg c1]
        by_cases c2 : p.1 + l < 600
        · rw [if_pos c2, bI_t (by intro q e; subst e; omega)]
        · rw [if_neg c2, bI_f (fun z => by have := z p rfl; omega)]
  have rng : 0 ≤ μ 7 2 - 1 → in_ 0 600 (μ 8 ((μ 7 2 - 1).toNat)) := fun h0 => by
    have hi : (μ 7 2 - 1).toNat < H.length := by omega
    have := ht.2 _ _ (List.getElem?_eq_getElem hi)
    rw [this.1]
    exact ho _ (List.getElem_mem hi)
  have fin : ∀ v : Int, ¬ (a < la_ (cg μ) (μ 5 1) ∧ 600 < la_ (cg μ) (μ 5 1) + l) → v = (if μ 7 2 - 1 < 0 then 1 else (if μ 8 ((μ 7 2 - 1).toNat) < a then 1 else (if (μ 8 ((μ 7 2 - 1).toNat)) + l < 600 then 1 else 0))) → (v = 0 ∨ v = 1) ∧ Q v μ := fun v hc hv => by
    rw [key v hv]
    refine ⟨bI_01, ?_⟩
    rw [show bI (∀ p, H.getLast? = some p → p.1 < a ∨ p.1 + l < 600) = bI (bck_ (μ 5 1) (cg μ) H a l) from bI_c ⟨fun h => ⟨hc, h⟩, fun h => h.2⟩]
    exact hQ
  refine ve_X4_canGoBack (vc_X4_canGoBack_0 ⟨h1, fun c1 => ⟨by rw [q2]; ((try unfold am_in); (try unfold in_ at *); omega), fun c2 => ⟨c2, by omega, fun _ => ⟨c2, by omega, by have := rng c2; ((try unfold am_in); (try unfold in_ at *); omega)⟩⟩, fun v hv => fin v (by omega) hv⟩, fun c1 => ⟨(by (try unfold am_in); (try unfold in_ at *); omega), fun c0 => ⟨by rw [q2]; ((try unfold am_in); (try unfold in_ at *); omega), fun c2 => ⟨c2, by omega, fun _ => ⟨c2, by omega, by have := rng c2; ((try unfold am_in); (try unfold in_ at *); omega)⟩⟩, fun v hv => fin v (by omega) hv⟩, fun c0 => ?_⟩⟩)
  rw [bI_f (fun z => z.1 ⟨c1, c0⟩)] at hQ
  exact hQ

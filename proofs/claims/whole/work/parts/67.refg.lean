/-! the reference inserts frames -/
/-- in v, clips and chapters alone have changed -/
def fe_ (ν m : am_M) : Prop := ∀ i : Nat, i ≠ 25 → i ≠ 438 → (i < 26 ∨ 410 ≤ i ∧ i < 439 ∨ 463 ≤ i) → m 1 i = ν 1 i
theorem fe_rf {ν : am_M} : fe_ ν ν := fun _ _ _ _ => rfl
theorem fe_tr {a b c : am_M} (h : fe_ a b) (g : fe_ b c) : fe_ a c := fun i a1 a2 a3 => (g i a1 a2 a3).trans (h i a1 a2 a3)
theorem fv_fe {a b : am_M} (h : fv_ a b) : fe_ a b := fun i a1 a2 a3 => h i a1 (by omega)
theorem fh_fe {a b : am_M} (h : fh_ a b) : fe_ a b := fun i a1 a2 a3 => h i a2 (by omega)
/-- clips and chapters have become R's, z is its answer -/
def lz_ (μ m : am_M) (z : Int) (R : Int × List Rw × Hl) : Prop := z = R.1 ∧ fr_ [1, 14] μ m ∧ fe_ μ m ∧ tr_ m R.2.1 ∧ hz_ m R.2.2
theorem la_is {L : List Rw} : la_ (ofL L) L.length = 0 ∨ ∃ r ∈ L, r 1 + r 4 = la_ (ofL L) L.length := by
  unfold la_
  refine fI_i (fun v i => v = 0 ∨ ∃ r ∈ L, r 1 + r 4 = v) (Or.inl rfl) (by omega) (fun i b i0 i1 h => ?_)
  by_cases c : b < en_ (ofL L) i
  · right
    have hl : i.toNat < L.length := by omega
    refine ⟨L[i.toNat], List.getElem_mem hl, ?_⟩
    rw [if_pos c]
    have e : ofL L i = L[i.toNat] := by
      unfold ofL
      rw [List.getD_eq_getElem?_getD, List.getElem?_eq_getElem hl]
      rfl
    unfold en_
    rw [e]
  · rw [if_neg c]
    exact h
theorem bck_is {L : List Rw} {H : Hl} {a l : Int} (hH : vH H) (ha : 0 ≤ a) : bck_ L.length (ofL L) H a l ↔ (∀ r ∈ L, ¬ (a < r 1 + r 4 ∧ 600 < r 1 + r 4 + l)) ∧ ∀ p ∈ H, p.1 < a ∨ p.1 + l < 600 := by
  unfold bck_
  refine and_congr ⟨fun h r hr q => h ?_, fun h q => ?_⟩ ⟨fun h p hp => ?_, fun h p hp => h p (List.mem_of_getLast? hp)⟩
  · have := la_ge r hr
    omega
  · rcases la_is (L := L) with e | ⟨r, hr, e⟩
    · omega
    · exact h r hr (by omega)
  · rcases List.eq_nil_or_concat H with e | ⟨K, q, e⟩
    · rw [e] at hp; simp at hp
    · have hq := h q (by rw [e]; simp)
      have hp2 := hH.2.2
      rw [e] at hp hp2
      simp only [List.concat_eq_append] at hp hp2
      have h3 := List.pairwise_append.mp hp2
      rcases List.mem_append.mp hp with w | w
      · have := h3.2.2 p w q (by simp)
        omega
      · simp at w
        rw [w]
        exact hq
theorem giv_is {a l : Int} : ∀ {H : Hl}, H.Pairwise (fun p q => p.1 < q.1) → H.map (fun p => (if p.1 < a then p.1 else p.1 + l, p.2)) = h_giv l (bef_ a H) (aft_ a H)
  | [], _ => rfl
  | p :: H, h => by
    have h2 := List.pairwise_cons.mp h
    rw [bef_c, aft_c, List.map_cons]
    by_cases c : p.1 < a
    · rw [if_pos c, if_pos c, if_pos c, giv_is h2.2]
      rfl
    · rw [if_neg c, if_neg c, if_neg c]
      show _ = (p.1 + l, p.2) :: H.map (fun p => (p.1 + l, p.2))
      congr 1
      refine List.map_congr_left (fun q hq => ?_)
      have := h2.1 q hq
      rw [if_neg (by omega)]
theorem vc_X10_inserts_0 {x1 x2 : Int} {μ : am_M} {Q : Int → am_M → Prop} (h : (¬ (0 ≤ x1 ∧ x1 ≤ 599) → Q (-2) μ) ∧ (0 ≤ x1 ∧ x1 ≤ 599 → (1 ≤ x2 ∧ x2 ≤ 600 → at_I kR 5 mX10_inserts 27 [vR 0, vI x1, vI x2, vI 0] [] μ Q) ∧ (¬ (1 ≤ x2 ∧ x2 ≤ 600) → Q (-2) μ))) : at_I kR 5 mX10_inserts 0 [vR 0, vI x1, vI x2, vU] [] μ Q := by
  refine s_iload_n dX10_inserts_0 rfl rfl ?_
  refine s_iconst dX10_inserts_1 (by decide) ?_
  refine s_sipush dX10_inserts_2 (by decide) ?_
  refine s_callS (As := [vI x1, vI 0, vI 599]) (rest := []) dX10_inserts_5 lkX10_103 lmX10_isIn rfl rfl (Nat.le_of_ble_eq_true rfl) (by decide) (Nat.le_refl 0) (Nat.le_refl 0) (hC := sp_X10_isIn (Q := fun z m => bI (0 ≤ x1 ∧ x1 ≤ 599) = z ∧ μ = m)  ⟨rfl, rfl⟩) (fun r n2 S2 m2 hP => ?_)
  obtain ⟨⟨rfl, rfl⟩, z, rfl, rfl, rfl⟩ := hP
  refine s_if_eq dX10_inserts_8 (tgt := 22) (by decide) (fun cc => ?_) (fun cc => ?_)
  · have h := h.1 (bI_eq cc)
    refine s_bipush dX10_inserts_22 (by decide) ?_
    exact s_ireturn dX10_inserts_24 (Or.inl rfl) ⟨⟨rfl, rfl⟩, _, rfl, h⟩
  · have h := h.2 (bI_ne cc)
    refine s_iload_n dX10_inserts_11 rfl rfl ?_
    refine s_iconst dX10_inserts_12 (by decide) ?_
    refine s_sipush dX10_inserts_13 (by decide) ?_
    refine s_callS (As := [vI x2, vI 1, vI 600]) (rest := []) dX10_inserts_16 lkX10_103 lmX10_isIn rfl rfl (Nat.le_of_ble_eq_true rfl) (by decide) (Nat.le_refl 0) (Nat.le_refl 0) (hC := sp_X10_isIn (Q := fun z m => bI (1 ≤ x2 ∧ x2 ≤ 600) = z ∧ μ = m)  ⟨rfl, rfl⟩) (fun r n2 S2 m2 hP => ?_)
    obtain ⟨⟨rfl, rfl⟩, z, rfl, rfl, rfl⟩ := hP
    refine s_if_ne dX10_inserts_19 (tgt := 25) (by decide) (fun cc => ?_) (fun cc => ?_)
    · have h := h.1 (bI_ne cc)
      refine s_iconst dX10_inserts_25 (by decide) ?_
      refine s_istore_n dX10_inserts_26 rfl (by decide) (L' := [vR 0, vI x1, vI x2, vI 0]) rfl ?_
      exact h
    · have h := h.2 (bI_eq cc)
      refine s_bipush dX10_inserts_22 (by decide) ?_
      exact s_ireturn dX10_inserts_24 (Or.inl rfl) ⟨⟨rfl, rfl⟩, _, rfl, h⟩
theorem vc_X10_inserts_27 {x1 x2 x3 : Int} {μ : am_M} {Q : Int → am_M → Prop} (h : (μ 1 25 ≤ x3 → at_I kR 5 mX10_inserts 87 [vR 0, vI x1, vI x2, vI 0] [] μ Q) ∧ (x3 < μ 1 25 → (in_ 0 48 x3) ∧ (in_ 0 8 1) ∧ ((in_ 0 48 x3) ∧ (in_ 0 8 4) ∧ ((am_in (rg μ x3 1 + (rg μ x3 4))) ∧ ((rg μ x3 1 + (rg μ x3 4) ≤ x1 → (am_in (x3 + 1)) ∧ (at_I kR 5 mX10_inserts 27 [vR 0, vI x1, vI x2, vI (x3 + 1)] [] μ Q)) ∧ (x1 < rg μ x3 1 + (rg μ x3 4) → (in_ 0 48 x3) ∧ (in_ 0 8 1) ∧ ((in_ 0 48 x3) ∧ (in_ 0 8 4) ∧ ((am_in (rg μ x3 1 + (rg μ x3 4))) ∧ ((am_in ((rg μ x3 1 + (rg μ x3 4)) + x2)) ∧ (((rg μ x3 1 + (rg μ x3 4)) + x2 ≤ 600 → (am_in (x3 + 1)) ∧ (at_I kR 5 mX10_inserts 27 [vR 0, vI x1, vI x2, vI (x3 + 1)] [] μ Q)) ∧ (600 < (rg μ x3 1 + (rg μ x3 4)) + x2 → Q (-2) μ))))))))))) : at_I kR 5 mX10_inserts 27 [vR 0, vI x1, vI x2, vI x3] [] μ Q := by
  refine s_iload_n dX10_inserts_27 rfl rfl ?_
  refine s_aload_n dX10_inserts_28 rfl rfl ?_
  refine s_getR dX10_inserts_29 flX10_9 rn0 rk0 rfl rr0_0 ?_
  refine s_bipush dX10_inserts_32 (by decide) ?_
  refine s_iald (x := (μ 1 25)) dX10_inserts_34 rn1 rk1 rl1 (by decide) (by decide) rfl ?_
  refine s_icmp_ge dX10_inserts_35 (tgt := 85) (by decide) (fun cc => ?_) (fun cc => ?_)
  · have h := h.1 cc
    refine s_iconst dX10_inserts_85 (by decide) ?_
    refine s_istore_n dX10_inserts_86 rfl (by decide) (L' := [vR 0, vI x1, vI x2, vI 0]) rfl ?_
    exact h
  · have h := h.2 cc
    refine s_aload_n dX10_inserts_38 rfl rfl ?_
    refine s_iload_n dX10_inserts_39 rfl rfl ?_
    refine s_iconst dX10_inserts_40 (by decide) ?_
    obtain ⟨p0, p1, h⟩ := h
    refine s_callV (As := [vI x3, vI 1]) (rest := []) (k := 0) dX10_inserts_41 lkX10_126 rn0 ⟨by rw [rk0]; rfl, by rw [rk0]; decide⟩ lmX10_of rfl rfl (Nat.le_of_ble_eq_true rfl) (by decide) (Nat.le_refl 0) (Nat.le_refl 0) (hC := sp_X10_of (Q := fun z m => rg μ x3 1 = z ∧ μ = m) p0 p1 ⟨rfl, rfl⟩) (fun r n2 S2 m2 hP => ?_)
    obtain ⟨⟨rfl, rfl⟩, z, rfl, rfl, rfl⟩ := hP
    refine s_aload_n dX10_inserts_44 rfl rfl ?_
    refine s_iload_n dX10_inserts_45 rfl rfl ?_
    refine s_iconst dX10_inserts_46 (by decide) ?_
    obtain ⟨p0, p1, h⟩ := h
    refine s_callV (As := [vI x3, vI 4]) (rest := [vI (rg μ x3 1)]) (k := 0) dX10_inserts_47 lkX10_126 rn0 ⟨by rw [rk0]; rfl, by rw [rk0]; decide⟩ lmX10_of rfl rfl (Nat.le_of_ble_eq_true rfl) (by decide) (Nat.le_refl 0) (Nat.le_refl 0) (hC := sp_X10_of (Q := fun z m => rg μ x3 4 = z ∧ μ = m) p0 p1 ⟨rfl, rfl⟩) (fun r n2 S2 m2 hP => ?_)
    obtain ⟨⟨rfl, rfl⟩, z, rfl, rfl, rfl⟩ := hP
    obtain ⟨c, h⟩ := h
    refine s_iadd dX10_inserts_50 (am_w_id c) ?_
    refine s_iload_n dX10_inserts_51 rfl rfl ?_
    refine s_icmp_le dX10_inserts_52 (tgt := 79) (by decide) (fun cc => ?_) (fun cc => ?_)
    · have h := h.1 cc
      obtain ⟨c, h⟩ := h
      refine s_iinc dX10_inserts_79 rfl (am_w_id c) (by decide) (L' := [vR 0, vI x1, vI x2, vI (x3 + 1)]) rfl ?_
      refine s_goto dX10_inserts_82 (tgt := 27) (by decide) ?_
      exact h
    · have h := h.2 cc
      refine s_aload_n dX10_inserts_55 rfl rfl ?_
      refine s_iload_n dX10_inserts_56 rfl rfl ?_
      refine s_iconst dX10_inserts_57 (by decide) ?_
      obtain ⟨p0, p1, h⟩ := h
      refine s_callV (As := [vI x3, vI 1]) (rest := []) (k := 0) dX10_inserts_58 lkX10_126 rn0 ⟨by rw [rk0]; rfl, by rw [rk0]; decide⟩ lmX10_of rfl rfl (Nat.le_of_ble_eq_true rfl) (by decide) (Nat.le_refl 0) (Nat.le_refl 0) (hC := sp_X10_of (Q := fun z m => rg μ x3 1 = z ∧ μ = m) p0 p1 ⟨rfl, rfl⟩) (fun r n2 S2 m2 hP => ?_)
      obtain ⟨⟨rfl, rfl⟩, z, rfl, rfl, rfl⟩ := hP
      refine s_aload_n dX10_inserts_61 rfl rfl ?_
      refine s_iload_n dX10_inserts_62 rfl rfl ?_
      refine s_iconst dX10_inserts_63 (by decide) ?_
      obtain ⟨p0, p1, h⟩ := h
      refine s_callV (As := [vI x3, vI 4]) (rest := [vI (rg μ x3 1)]) (k := 0) dX10_inserts_64 lkX10_126 rn0 ⟨by rw [rk0]; rfl, by rw [rk0]; decide⟩ lmX10_of rfl rfl (Nat.le_of_ble_eq_true rfl) (by decide) (Nat.le_refl 0) (Nat.le_refl 0) (hC := sp_X10_of (Q := fun z m => rg μ x3 4 = z ∧ μ = m) p0 p1 ⟨rfl, rfl⟩) (fun r n2 S2 m2 hP => ?_)
      obtain ⟨⟨rfl, rfl⟩, z, rfl, rfl, rfl⟩ := hP
      obtain ⟨c, h⟩ := h
      refine s_iadd dX10_inserts_67 (am_w_id c) ?_
      refine s_iload_n dX10_inserts_68 rfl rfl ?_
      obtain ⟨c, h⟩ := h
      refine s_iadd dX10_inserts_69 (am_w_id c) ?_
      refine s_sipush dX10_inserts_70 (by decide) ?_
      refine s_icmp_le dX10_inserts_73 (tgt := 79) (by decide) (fun cc => ?_) (fun cc => ?_)
      · have h := h.1 cc
        obtain ⟨c, h⟩ := h
        refine s_iinc dX10_inserts_79 rfl (am_w_id c) (by decide) (L' := [vR 0, vI x1, vI x2, vI (x3 + 1)]) rfl ?_
        refine s_goto dX10_inserts_82 (tgt := 27) (by decide) ?_
        exact h
      · have h := h.2 cc
        refine s_bipush dX10_inserts_76 (by decide) ?_
        exact s_ireturn dX10_inserts_78 (Or.inl rfl) ⟨⟨rfl, rfl⟩, _, rfl, h⟩
theorem vc_X10_inserts_87 {x1 x2 x3 : Int} {μ : am_M} {Q : Int → am_M → Prop} (h : (μ 1 438 ≤ x3 → ∃ P : Int → am_M → Prop, cl_I kR 2 mX10_crossing [vR 0, vI x1] μ P ∧ (∀ (z1 : Int) (m2 : am_M), P z1 m2 → (am_in (μ 1 25 + z1)) ∧ ((μ 1 25 + z1 ≤ 24 → ∃ P : am_M → Prop, cl_V kR 4 mX10_dividesAll [vR 0, vI x1] m2 P ∧ (∀ m4 : am_M, P m4 → at_I kR 5 mX10_inserts 172 [vR 0, vI x1, vI x2, vI 0] [] m4 Q)) ∧ (24 < μ 1 25 + z1 → Q (-3) m2)))) ∧ (x3 < μ 1 438 → (am_in (2 * x3)) ∧ ((am_in (439 + (2 * x3))) ∧ ((0 ≤ 439 + (2 * x3)) ∧ (439 + (2 * x3) < 470) ∧ ((μ 1 ((439 + (2 * x3)).toNat) < x1 → (am_in (x3 + 1)) ∧ (at_I kR 5 mX10_inserts 87 [vR 0, vI x1, vI x2, vI (x3 + 1)] [] μ Q)) ∧ (x1 ≤ μ 1 ((439 + (2 * x3)).toNat) → (am_in (2 * x3)) ∧ ((am_in (439 + (2 * x3))) ∧ ((0 ≤ 439 + (2 * x3)) ∧ (439 + (2 * x3) < 470) ∧ ((am_in ((μ 1 ((439 + (2 * x3)).toNat)) + x2)) ∧ (((μ 1 ((439 + (2 * x3)).toNat)) + x2 < 600 → (am_in (x3 + 1)) ∧ (at_I kR 5 mX10_inserts 87 [vR 0, vI x1, vI x2, vI (x3 + 1)] [] μ Q)) ∧ (600 ≤ (μ 1 ((439 + (2 * x3)).toNat)) + x2 → Q (-2) μ))))))))))) : at_I kR 5 mX10_inserts 87 [vR 0, vI x1, vI x2, vI x3] [] μ Q := by
  refine s_iload_n dX10_inserts_87 rfl rfl ?_
  refine s_aload_n dX10_inserts_88 rfl rfl ?_
  refine s_getR dX10_inserts_89 flX10_9 rn0 rk0 rfl rr0_0 ?_
  refine s_sipush dX10_inserts_92 (by decide) ?_
  refine s_iald (x := (μ 1 438)) dX10_inserts_95 rn1 rk1 rl1 (by decide) (by decide) rfl ?_
  refine s_icmp_ge dX10_inserts_96 (tgt := 144) (by decide) (fun cc => ?_) (fun cc => ?_)
  · have h := h.1 cc
    refine s_aload_n dX10_inserts_144 rfl rfl ?_
    refine s_getR dX10_inserts_145 flX10_9 rn0 rk0 rfl rr0_0 ?_
    refine s_bipush dX10_inserts_148 (by decide) ?_
    refine s_iald (x := (μ 1 25)) dX10_inserts_150 rn1 rk1 rl1 (by decide) (by decide) rfl ?_
    refine s_aload_n dX10_inserts_151 rfl rfl ?_
    refine s_iload_n dX10_inserts_152 rfl rfl ?_
    obtain ⟨P, hcl, h⟩ := h
    refine s_callV (As := [vI x1]) (rest := [vI (μ 1 25)]) (k := 0) dX10_inserts_153 lkX10_209 rn0 ⟨by rw [rk0]; rfl, by rw [rk0]; decide⟩ lmX10_crossing rfl rfl (Nat.le_of_ble_eq_true rfl) (by decide) (Nat.le_refl 0) (Nat.le_refl 0) (hC := hcl) (fun r n2 S2 m2 hP => ?_)
    obtain ⟨⟨rfl, rfl⟩, z1, rfl, hq⟩ := hP
    have h := h z1 m2 hq
    obtain ⟨c, h⟩ := h
    refine s_iadd dX10_inserts_156 (am_w_id c) ?_
    refine s_bipush dX10_inserts_157 (by decide) ?_
    refine s_icmp_le dX10_inserts_159 (tgt := 165) (by decide) (fun cc => ?_) (fun cc => ?_)
    · have h := h.1 cc
      refine s_aload_n dX10_inserts_165 rfl rfl ?_
      refine s_iload_n dX10_inserts_166 rfl rfl ?_
      obtain ⟨P, hcl, h⟩ := h
      refine s_callV (As := [vI x1]) (rest := []) (k := 0) dX10_inserts_167 lkX10_212 rn0 ⟨by rw [rk0]; rfl, by rw [rk0]; decide⟩ lmX10_dividesAll rfl rfl (Nat.le_of_ble_eq_true rfl) (by decide) (Nat.le_refl 0) (Nat.le_refl 0) (hC := hcl) (fun r n2 S2 m4 hP => ?_)
      obtain ⟨⟨rfl, rfl⟩, rfl, hq⟩ := hP
      have h := h m4 hq
      refine s_iconst dX10_inserts_170 (by decide) ?_
      refine s_istore_n dX10_inserts_171 rfl (by decide) (L' := [vR 0, vI x1, vI x2, vI 0]) rfl ?_
      exact h
    · have h := h.2 cc
      refine s_bipush dX10_inserts_162 (by decide) ?_
      exact s_ireturn dX10_inserts_164 (Or.inl rfl) ⟨⟨rfl, rfl⟩, _, rfl, h⟩
  · have h := h.2 cc
    refine s_aload_n dX10_inserts_99 rfl rfl ?_
    refine s_getR dX10_inserts_100 flX10_9 rn0 rk0 rfl rr0_0 ?_
    refine s_sipush dX10_inserts_103 (by decide) ?_
    refine s_iconst dX10_inserts_106 (by decide) ?_
    refine s_iload_n dX10_inserts_107 rfl rfl ?_
    obtain ⟨c, h⟩ := h
    refine s_imul dX10_inserts_108 (am_w_id c) ?_
    obtain ⟨c, h⟩ := h
    refine s_iadd dX10_inserts_109 (am_w_id c) ?_
    obtain ⟨c, c2, h⟩ := h
    refine s_iald (x := (μ 1 ((439 + (2 * x3)).toNat))) dX10_inserts_110 rn1 rk1 rl1 c c2 rfl ?_
    refine s_iload_n dX10_inserts_111 rfl rfl ?_
    refine s_icmp_lt dX10_inserts_112 (tgt := 138) (by decide) (fun cc => ?_) (fun cc => ?_)
    · have h := h.1 cc
      obtain ⟨c, h⟩ := h
      refine s_iinc dX10_inserts_138 rfl (am_w_id c) (by decide) (L' := [vR 0, vI x1, vI x2, vI (x3 + 1)]) rfl ?_
      refine s_goto dX10_inserts_141 (tgt := 87) (by decide) ?_
      exact h
    · have h := h.2 cc
      refine s_aload_n dX10_inserts_115 rfl rfl ?_
      refine s_getR dX10_inserts_116 flX10_9 rn0 rk0 rfl rr0_0 ?_
      refine s_sipush dX10_inserts_119 (by decide) ?_
      refine s_iconst dX10_inserts_122 (by decide) ?_
      refine s_iload_n dX10_inserts_123 rfl rfl ?_
      obtain ⟨c, h⟩ := h
      refine s_imul dX10_inserts_124 (am_w_id c) ?_
      obtain ⟨c, h⟩ := h
      refine s_iadd dX10_inserts_125 (am_w_id c) ?_
      obtain ⟨c, c2, h⟩ := h
      refine s_iald (x := (μ 1 ((439 + (2 * x3)).toNat))) dX10_inserts_126 rn1 rk1 rl1 c c2 rfl ?_
      refine s_iload_n dX10_inserts_127 rfl rfl ?_
      obtain ⟨c, h⟩ := h
      refine s_iadd dX10_inserts_128 (am_w_id c) ?_
      refine s_sipush dX10_inserts_129 (by decide) ?_
      refine s_icmp_lt dX10_inserts_132 (tgt := 138) (by decide) (fun cc => ?_) (fun cc => ?_)
      · have h := h.1 cc
        obtain ⟨c, h⟩ := h
        refine s_iinc dX10_inserts_138 rfl (am_w_id c) (by decide) (L' := [vR 0, vI x1, vI x2, vI (x3 + 1)]) rfl ?_
        refine s_goto dX10_inserts_141 (tgt := 87) (by decide) ?_
        exact h
      · have h := h.2 cc
        refine s_bipush dX10_inserts_135 (by decide) ?_
        exact s_ireturn dX10_inserts_137 (Or.inl rfl) ⟨⟨rfl, rfl⟩, _, rfl, h⟩
theorem vc_X10_inserts_172 {x1 x2 x3 : Int} {μ : am_M} {Q : Int → am_M → Prop} (h : (μ 1 25 ≤ x3 → at_I kR 5 mX10_inserts 223 [vR 0, vI x1, vI x2, vI 0] [] μ Q) ∧ (x3 < μ 1 25 → (am_in (8 * x3)) ∧ ((am_in (26 + (8 * x3))) ∧ ((am_in ((26 + (8 * x3)) + 1)) ∧ ((0 ≤ (26 + (8 * x3)) + 1) ∧ ((26 + (8 * x3)) + 1 < 470) ∧ ((in_ 0 48 x3) ∧ (in_ 0 8 1) ∧ (∀ v1 : Int, v1 = (if rg μ x3 1 < x1 then 0 else x2) → (am_in ((μ 1 (((26 + (8 * x3)) + 1).toNat)) + v1)) ∧ ((0 ≤ (26 + (8 * x3)) + 1) ∧ ((26 + (8 * x3)) + 1 < 470) ∧ (∀ m2 : am_M, m2 = am_st μ 1 (am_up (μ 1) ((26 + (8 * x3)) + 1).toNat ((μ 1 (((26 + (8 * x3)) + 1).toNat)) + v1)) → (am_in (x3 + 1)) ∧ (at_I kR 5 mX10_inserts 172 [vR 0, vI x1, vI x2, vI (x3 + 1)] [] m2 Q)))))))))) : at_I kR 5 mX10_inserts 172 [vR 0, vI x1, vI x2, vI x3] [] μ Q := by
  refine s_iload_n dX10_inserts_172 rfl rfl ?_
  refine s_aload_n dX10_inserts_173 rfl rfl ?_
  refine s_getR dX10_inserts_174 flX10_9 rn0 rk0 rfl rr0_0 ?_
  refine s_bipush dX10_inserts_177 (by decide) ?_
  refine s_iald (x := (μ 1 25)) dX10_inserts_179 rn1 rk1 rl1 (by decide) (by decide) rfl ?_
  refine s_icmp_ge dX10_inserts_180 (tgt := 221) (by decide) (fun cc => ?_) (fun cc => ?_)
  · have h := h.1 cc
    refine s_iconst dX10_inserts_221 (by decide) ?_
    refine s_istore_n dX10_inserts_222 rfl (by decide) (L' := [vR 0, vI x1, vI x2, vI 0]) rfl ?_
    exact h
  · have h := h.2 cc
    refine s_aload_n dX10_inserts_183 rfl rfl ?_
    refine s_getR dX10_inserts_184 flX10_9 rn0 rk0 rfl rr0_0 ?_
    refine s_bipush dX10_inserts_187 (by decide) ?_
    refine s_bipush dX10_inserts_189 (by decide) ?_
    refine s_iload_n dX10_inserts_191 rfl rfl ?_
    obtain ⟨c, h⟩ := h
    refine s_imul dX10_inserts_192 (am_w_id c) ?_
    obtain ⟨c, h⟩ := h
    refine s_iadd dX10_inserts_193 (am_w_id c) ?_
    refine s_iconst dX10_inserts_194 (by decide) ?_
    obtain ⟨c, h⟩ := h
    refine s_iadd dX10_inserts_195 (am_w_id c) ?_
    refine s_dup2 dX10_inserts_196 ?_
    obtain ⟨c, c2, h⟩ := h
    refine s_iald (x := (μ 1 (((26 + (8 * x3)) + 1).toNat))) dX10_inserts_197 rn1 rk1 rl1 c c2 rfl ?_
    refine s_aload_n dX10_inserts_198 rfl rfl ?_
    refine s_iload_n dX10_inserts_199 rfl rfl ?_
    refine s_iconst dX10_inserts_200 (by decide) ?_
    obtain ⟨p0, p1, h⟩ := h
    refine s_callV (As := [vI x3, vI 1]) (rest := [vI (μ 1 (((26 + (8 * x3)) + 1).toNat)), vI ((26 + (8 * x3)) + 1), vR 1]) (k := 0) dX10_inserts_201 lkX10_126 rn0 ⟨by rw [rk0]; rfl, by rw [rk0]; decide⟩ lmX10_of rfl rfl (Nat.le_of_ble_eq_true rfl) (by decide) (Nat.le_refl 0) (Nat.le_refl 0) (hC := sp_X10_of (Q := fun z m => rg μ x3 1 = z ∧ μ = m) p0 p1 ⟨rfl, rfl⟩) (fun r n2 S2 m2 hP => ?_)
    obtain ⟨⟨rfl, rfl⟩, z, rfl, rfl, rfl⟩ := hP
    refine s_iload_n dX10_inserts_204 rfl rfl ?_
    have kj3 : ∀ (v1 : Int), ((am_in ((μ 1 (((26 + (8 * x3)) + 1).toNat)) + v1)) ∧ ((0 ≤ (26 + (8 * x3)) + 1) ∧ ((26 + (8 * x3)) + 1 < 470) ∧ (∀ m2 : am_M, m2 = am_st μ 1 (am_up (μ 1) ((26 + (8 * x3)) + 1).toNat ((μ 1 (((26 + (8 * x3)) + 1).toNat)) + v1)) → (am_in (x3 + 1)) ∧ (at_I kR 5 mX10_inserts 172 [vR 0, vI x1, vI x2, vI (x3 + 1)] [] m2 Q)))) → at_I kR 5 mX10_inserts 213 [vR 0, vI x1, vI x2, vI x3] [vI v1, vI (μ 1 (((26 + (8 * x3)) + 1).toNat)), vI ((26 + (8 * x3)) + 1), vR 1] μ Q := by
      intro v1 h
      obtain ⟨c, h⟩ := h
      refine s_iadd dX10_inserts_213 (am_w_id c) ?_
      obtain ⟨c, c2, h⟩ := h
      obtain ⟨m2, hm2⟩ : ∃ x : am_M, x = am_st μ 1 (am_up (μ 1) ((26 + (8 * x3)) + 1).toNat ((μ 1 (((26 + (8 * x3)) + 1).toNat)) + v1)) := ⟨_, rfl⟩
      have h := h m2 hm2
      refine s_iast dX10_inserts_214 rn1 rk1 rl1 c c2 hm2.symm ?_
      obtain ⟨c, h⟩ := h
      refine s_iinc dX10_inserts_215 rfl (am_w_id c) (by decide) (L' := [vR 0, vI x1, vI x2, vI (x3 + 1)]) rfl ?_
      refine s_goto dX10_inserts_218 (tgt := 172) (by decide) ?_
      exact h
    refine s_icmp_lt dX10_inserts_205 (tgt := 212) (by decide) (fun cc => ?_) (fun cc => ?_)
    · have hp0 := cc
      refine s_iconst dX10_inserts_212 (by decide) ?_
      exact kj3 0 (h 0 (by rw [if_pos hp0]))
    · have hp0 := cc
      refine s_iload_n dX10_inserts_208 rfl rfl ?_
      refine s_goto dX10_inserts_209 (tgt := 213) (by decide) ?_
      exact kj3 x2 (h x2 (by rw [if_neg (Int.not_lt.mpr hp0)]))
theorem vc_X10_inserts_223 {x1 x2 x3 : Int} {μ : am_M} {Q : Int → am_M → Prop} (h : (μ 1 438 ≤ x3 → Q (μ 1 25) μ) ∧ (x3 < μ 1 438 → (am_in (2 * x3)) ∧ ((am_in (439 + (2 * x3))) ∧ ((0 ≤ 439 + (2 * x3)) ∧ (439 + (2 * x3) < 470) ∧ ((am_in (2 * x3)) ∧ ((am_in (439 + (2 * x3))) ∧ ((0 ≤ 439 + (2 * x3)) ∧ (439 + (2 * x3) < 470) ∧ (∀ v1 : Int, v1 = (if μ 1 ((439 + (2 * x3)).toNat) < x1 then 0 else x2) → (am_in ((μ 1 ((439 + (2 * x3)).toNat)) + v1)) ∧ ((0 ≤ 439 + (2 * x3)) ∧ (439 + (2 * x3) < 470) ∧ (∀ m2 : am_M, m2 = am_st μ 1 (am_up (μ 1) (439 + (2 * x3)).toNat ((μ 1 ((439 + (2 * x3)).toNat)) + v1)) → (am_in (x3 + 1)) ∧ (at_I kR 5 mX10_inserts 223 [vR 0, vI x1, vI x2, vI (x3 + 1)] [] m2 Q))))))))))) : at_I kR 5 mX10_inserts 223 [vR 0, vI x1, vI x2, vI x3] [] μ Q := by
  refine s_iload_n dX10_inserts_223 rfl rfl ?_
  refine s_aload_n dX10_inserts_224 rfl rfl ?_
  refine s_getR dX10_inserts_225 flX10_9 rn0 rk0 rfl rr0_0 ?_
  refine s_sipush dX10_inserts_228 (by decide) ?_
  refine s_iald (x := (μ 1 438)) dX10_inserts_231 rn1 rk1 rl1 (by decide) (by decide) rfl ?_
  refine s_icmp_ge dX10_inserts_232 (tgt := 277) (by decide) (fun cc => ?_) (fun cc => ?_)
  · have h := h.1 cc
    refine s_aload_n dX10_inserts_277 rfl rfl ?_
    refine s_getR dX10_inserts_278 flX10_9 rn0 rk0 rfl rr0_0 ?_
    refine s_bipush dX10_inserts_281 (by decide) ?_
    refine s_iald (x := (μ 1 25)) dX10_inserts_283 rn1 rk1 rl1 (by decide) (by decide) rfl ?_
    exact s_ireturn dX10_inserts_284 (Or.inl rfl) ⟨⟨rfl, rfl⟩, _, rfl, h⟩
  · have h := h.2 cc
    refine s_aload_n dX10_inserts_235 rfl rfl ?_
    refine s_getR dX10_inserts_236 flX10_9 rn0 rk0 rfl rr0_0 ?_
    refine s_sipush dX10_inserts_239 (by decide) ?_
    refine s_iconst dX10_inserts_242 (by decide) ?_
    refine s_iload_n dX10_inserts_243 rfl rfl ?_
    obtain ⟨c, h⟩ := h
    refine s_imul dX10_inserts_244 (am_w_id c) ?_
    obtain ⟨c, h⟩ := h
    refine s_iadd dX10_inserts_245 (am_w_id c) ?_
    refine s_dup2 dX10_inserts_246 ?_
    obtain ⟨c, c2, h⟩ := h
    refine s_iald (x := (μ 1 ((439 + (2 * x3)).toNat))) dX10_inserts_247 rn1 rk1 rl1 c c2 rfl ?_
    refine s_aload_n dX10_inserts_248 rfl rfl ?_
    refine s_getR dX10_inserts_249 flX10_9 rn0 rk0 rfl rr0_0 ?_
    refine s_sipush dX10_inserts_252 (by decide) ?_
    refine s_iconst dX10_inserts_255 (by decide) ?_
    refine s_iload_n dX10_inserts_256 rfl rfl ?_
    obtain ⟨c, h⟩ := h
    refine s_imul dX10_inserts_257 (am_w_id c) ?_
    obtain ⟨c, h⟩ := h
    refine s_iadd dX10_inserts_258 (am_w_id c) ?_
    obtain ⟨c, c2, h⟩ := h
    refine s_iald (x := (μ 1 ((439 + (2 * x3)).toNat))) dX10_inserts_259 rn1 rk1 rl1 c c2 rfl ?_
    refine s_iload_n dX10_inserts_260 rfl rfl ?_
    have kj3 : ∀ (v1 : Int), ((am_in ((μ 1 ((439 + (2 * x3)).toNat)) + v1)) ∧ ((0 ≤ 439 + (2 * x3)) ∧ (439 + (2 * x3) < 470) ∧ (∀ m2 : am_M, m2 = am_st μ 1 (am_up (μ 1) (439 + (2 * x3)).toNat ((μ 1 ((439 + (2 * x3)).toNat)) + v1)) → (am_in (x3 + 1)) ∧ (at_I kR 5 mX10_inserts 223 [vR 0, vI x1, vI x2, vI (x3 + 1)] [] m2 Q)))) → at_I kR 5 mX10_inserts 269 [vR 0, vI x1, vI x2, vI x3] [vI v1, vI (μ 1 ((439 + (2 * x3)).toNat)), vI (439 + (2 * x3)), vR 1] μ Q := by
      intro v1 h
      obtain ⟨c, h⟩ := h
      refine s_iadd dX10_inserts_269 (am_w_id c) ?_
      obtain ⟨c, c2, h⟩ := h
      obtain ⟨m2, hm2⟩ : ∃ x : am_M, x = am_st μ 1 (am_up (μ 1) (439 + (2 * x3)).toNat ((μ 1 ((439 + (2 * x3)).toNat)) + v1)) := ⟨_, rfl⟩
      have h := h m2 hm2
      refine s_iast dX10_inserts_270 rn1 rk1 rl1 c c2 hm2.symm ?_
      obtain ⟨c, h⟩ := h
      refine s_iinc dX10_inserts_271 rfl (am_w_id c) (by decide) (L' := [vR 0, vI x1, vI x2, vI (x3 + 1)]) rfl ?_
      refine s_goto dX10_inserts_274 (tgt := 223) (by decide) ?_
      exact h
    refine s_icmp_lt dX10_inserts_261 (tgt := 268) (by decide) (fun cc => ?_) (fun cc => ?_)
    · have hp0 := cc
      refine s_iconst dX10_inserts_268 (by decide) ?_
      exact kj3 0 (h 0 (by rw [if_pos hp0]))
    · have hp0 := cc
      refine s_iload_n dX10_inserts_264 rfl rfl ?_
      refine s_goto dX10_inserts_265 (tgt := 269) (by decide) ?_
      exact kj3 x2 (h x2 (by rw [if_neg (Int.not_lt.mpr hp0)]))
theorem ve_X10_inserts {x1 x2 : Int} {μ : am_M} {Q : Int → am_M → Prop} (h : at_I kR 5 mX10_inserts 0 [vR 0, vI x1, vI x2, vU] [] μ Q) : cl_I kR 5 mX10_inserts [vR 0, vI x1, vI x2] μ Q := am_intro pmX10_inserts (Nat.le_of_ble_eq_true rfl) rfl h
theorem sp_X10_inserts {μ : am_M} {a l : Int} (L : List Rw) (H : Hl) (ht : tr_ μ L) (hh : hz_ μ H) (hok : ∀ r ∈ L, okC r) (hs : srt_ L) (hl : L.length ≤ 24) (hH : vH H) : cl_I kR 5 mX10_inserts [vR 0, vI a, vI l] μ (fun z m => lz_ μ m z (r_ins L H a l)) := by
  have hlh := hH.1
  have hn := ht.1
  have hm := hh.1
  have bad : ∀ z : Int, (a < 0 ∨ 600 ≤ a ∨ l < 1 ∨ 600 < l) → z = -2 → lz_ μ μ z (r_ins L H a l) := fun z h hz => by
    rw [show r_ins L H a l = (-2, L, H) from cif_t h]
    exact ⟨hz, fr_rf, fe_rf, ht, hh⟩
  refine ve_X10_inserts (vc_X10_inserts_0 ⟨fun c => bad _ (by omega) rfl, fun c1 => ⟨fun c2 => ?_, fun c => bad _ (by omega) rfl⟩⟩)
  have e0 : r_ins L H a l = _ := cif_f (by omega)
  have hb := bck_is (L := L) (l := l) hH c1.1
  have bad2 : ¬ bck_ L.length (ofL L) H a l → lz_ μ μ (-2) (r_ins L H a l) := fun h => by
    rw [e0.trans (cif_t h)]
    exact ⟨rfl, fr_rf, fe_rf, ht, hh⟩
  -- chapters move back
  have fourth : bck_ L.length (ofL L) H a l → ¬ 24 < ((L.flatMap (spF a)).length : Int) → ∀ (B A : Hl) (x : Int) (m : am_M), H = A ++ B → x = A.length → fr_ [1, 14] μ m → fe_ μ m → tr_ m ((L.flatMap (spF a)).map (gvR a l)) → hz_ m (A.map (fun p => (if p.1 < a then p.1 else p.1 + l, p.2)) ++ B) → at_I kR 5 mX10_inserts 223 [vR 0, vI a, vI l, vI x] [] m (fun z m => lz_ μ m z (r_ins L H a l)) := by
    intro hbk h24 B
    induction B with
    | nil =>
      intro A x m hA hx g1 g2 g3 g4
      rw [List.append_nil] at hA g4
      have lA : H.length = A.length := by rw [hA]
      have nm := g4.1
      rw [List.length_map] at nm
      refine vc_X10_inserts_223 ⟨fun _ => ?_, fun q => by omega⟩
      rw [(e0.trans (cif_f (fun w => w hbk))).trans (cif_f h24)]
      refine ⟨by rw [g3.1]; simp, g1, g2, g3, ?_⟩
      show hz_ m (h_giv l (bef_ a H) (aft_ a H))
      rw [← giv_is hH.2.2, hA]
      exact g4
    | cons p B ih =>
      intro A x m hA hx g1 g2 g3 g4
      have lA : H.length = A.length + 1 + B.length := by rw [hA]; simp; omega
      have hx' : x = (A.map (fun p : Int × Int => (if p.1 < a then p.1 else p.1 + l, p.2))).length := by simpa using hx
      have v := (hz_at g4 hx').1
      have nn := hz_len g4
      rw [List.length_map] at nn
      have po := (hH.2.1 p (by rw [hA]; simp)).1
      refine vc_X10_inserts_223 ⟨fun q => by omega, fun q => ⟨(by (try unfold am_in); (try unfold in_ at *); omega), (by (try unfold am_in); (try unfold in_ at *); omega), by omega, by omega, (by (try unfold am_in); (try unfold in_ at *); omega), (by (try unfold am_in); (try unfold in_ at *); omega), by omega, by omega, ?_⟩⟩
      rw [v]
      refine fun v1 hv => ⟨by ((try unfold am_in); (try unfold in_ at *); omega), by omega, by omega, fun m2 e2 => ⟨(by (try unfold am_in); (try unfold in_ at *); omega), ?_⟩⟩
      obtain ⟨w1, w2, w3⟩ := hz_up g4 hx' (by simp; omega) e2
      refine ih (A ++ [p]) (x + 1) m2 (by rw [hA]; simp) (by simp; omega) (fr_tr g1 (fr_up w1 (by simp))) (fe_tr g2 (fh_fe w2)) (tr_fh w2 ?_ g3) ?_
      · simp; simp at h24; omega
      · have e3 : p.1 + v1 = if p.1 < a then p.1 else p.1 + l := by rw [hv]; split <;> omega
        rw [e3] at w3
        simpa using w3
  -- clips move back
  have third : bck_ L.length (ofL L) H a l → ¬ 24 < ((L.flatMap (spF a)).length : Int) → ∀ (B A : List Rw) (x : Int) (m : am_M), L.flatMap (spF a) = A ++ B → x = A.length → fr_ [1, 14] μ m → fe_ μ m → tr_ m (A.map (gvR a l) ++ B) → hz_ m H → at_I kR 5 mX10_inserts 172 [vR 0, vI a, vI l, vI x] [] m (fun z m => lz_ μ m z (r_ins L H a l)) := by
    intro hbk h24 B
    induction B with
    | nil =>
      intro A x m hA hx g1 g2 g3 g4
      rw [List.append_nil] at hA g3
      have nm := g3.1
      rw [List.length_map] at nm
      exact vc_X10_inserts_172 ⟨fun _ => fourth hbk h24 H [] 0 m (by simp) rfl g1 g2 (by rw [hA]; exact g3) (by simpa using g4), fun q => by omega⟩
    | cons r B ih =>
      intro A x m hA hx g1 g2 g3 g4
      have lA : (L.flatMap (spF a)).length = A.length + 1 + B.length := by rw [hA]; simp; omega
      have hx' : x = (A.map (gvR a l)).length := by simpa using hx
      have v := tr_at (k := 1) g3 hx' (by omega) (by omega)
      have v' : m 1 (((26 + (8 * x)) + 1).toNat) = r 1 := v
      have nn := tr_len g3
      rw [List.length_map] at nn
      have ro := okC_sp (f := a) hok r (by rw [hA]; simp)
      unfold okC in_ at ro
      refine vc_X10_inserts_172 ⟨fun q => by omega, fun q => ⟨(by (try unfold am_in); (try unfold in_ at *); omega), (by (try unfold am_in); (try unfold in_ at *); omega), (by (try unfold am_in); (try unfold in_ at *); omega), by omega, by omega, (by (try unfold am_in); (try unfold in_ at *); omega), (by (try unfold am_in); (try unfold in_ at *); omega), ?_⟩⟩
      rw [v, v']
      refine fun v1 hv => ⟨by ((try unfold am_in); (try unfold in_ at *); omega), by omega, by omega, fun m2 e2 => ⟨(by (try unfold am_in); (try unfold in_ at *); omega), ?_⟩⟩
      obtain ⟨w1, w2, w3⟩ := tr_up (s := gvR a l r) g3 hx' (by simp; omega) (by omega) (by omega) e2 (fun k k0 k1 => by
        unfold gvR shf
        by_cases c : r 1 < a
        · rw [if_neg (by omega)]
          rw [if_pos c] at hv
          by_cases q : k = 1
          · rw [if_pos q, q, hv]; omega
          · rw [if_neg q]
        · rw [if_pos (by omega)]
          rw [if_neg c] at hv
          rw [hv])
      exact ih (A ++ [r]) (x + 1) m2 (by rw [hA]; simp) (by simp; omega) (fr_tr g1 (fr_up w1 (by simp))) (fe_tr g2 (fv_fe w2)) (by simpa using w3) (hz_fv w2 hlh g4)
  have second : (∀ r ∈ L, ¬ (a < r 1 + r 4 ∧ 600 < r 1 + r 4 + l)) → ∀ (B A : Hl) (x : Int), H = A ++ B → x = A.length → (∀ p ∈ A, p.1 < a ∨ p.1 + l < 600) → at_I kR 5 mX10_inserts 87 [vR 0, vI a, vI l, vI x] [] μ (fun z m => lz_ μ m z (r_ins L H a l)) := by
    intro hL B
    induction B with
    | nil =>
      intro A x hA hx h1
      rw [List.append_nil] at hA
      have lA : H.length = A.length := by rw [hA]
      have hbk : bck_ L.length (ofL L) H a l := hb.mpr ⟨hL, by rw [hA]; exact h1⟩
      refine vc_X10_inserts_87 ⟨fun _ => ?_, fun q => by omega⟩
      refine ⟨_, sp_X10_crossing (Q := fun z m => z = ((L.flatMap (spF a)).length : Int) - L.length ∧ m = μ) L ht hok (by omega) ⟨rfl, rfl⟩, ?_⟩
      rintro z m2 ⟨hz, rfl⟩
      have l4 := sp_l4 (f := a) hs hok
      have l0 := flat_len (spF_len a) L
      refine ⟨(by (try unfold am_in); (try unfold in_ at *); omega), fun c => ?_, fun c => ?_⟩
      · refine ⟨_, sp_X10_dividesAll L ht hok hs (by (try unfold am_in); (try unfold in_ at *); omega) (by omega), fun m4 ⟨k1, k2, k3⟩ => ?_⟩
        exact third hbk (by omega) (L.flatMap (spF a)) [] 0 m4 (by simp) rfl k1 (fv_fe k2) (by simpa using k3) (hz_fv k2 hlh hh)
      · rw [(e0.trans (cif_f (fun w => w hbk))).trans (cif_t (by omega))]
        exact ⟨rfl, fr_rf, fe_rf, ht, hh⟩
    | cons p B ih =>
      intro A x hA hx h1
      have lA : H.length = A.length + 1 + B.length := by rw [hA]; simp; omega
      have hh' := hh
      rw [hA] at hh'
      have v := (hz_at hh' hx).1
      have po := (hH.2.1 p (by rw [hA]; simp)).1
      have go : (p.1 < a ∨ p.1 + l < 600) → at_I kR 5 mX10_inserts 87 [vR 0, vI a, vI l, vI (x + 1)] [] μ (fun z m => lz_ μ m z (r_ins L H a l)) := fun h => ih (A ++ [p]) (x + 1) (by rw [hA]; simp) (by simp; omega) (fun q hq => by
        rcases List.mem_append.mp hq with w | w
        · exact h1 q w
        · simp at w
          rw [w]
          exact h)
      refine vc_X10_inserts_87 ⟨fun q => by omega, fun q => ⟨(by (try unfold am_in); (try unfold in_ at *); omega), (by (try unfold am_in); (try unfold in_ at *); omega), by omega, by omega, ?_⟩⟩
      rw [v]
      exact ⟨fun c => ⟨(by (try unfold am_in); (try unfold in_ at *); omega), go (Or.inl c)⟩, fun c => ⟨(by (try unfold am_in); (try unfold in_ at *); omega), (by (try unfold am_in); (try unfold in_ at *); omega), by omega, by omega, (by (try unfold am_in); (try unfold in_ at *); omega), fun c2 => ⟨(by (try unfold am_in); (try unfold in_ at *); omega), go (Or.inr c2)⟩, fun c2 => bad2 (fun w => by
        have := (hb.mp w).2 p (by rw [hA]; simp)
        omega)⟩⟩
  have first : ∀ (B A : List Rw) (x : Int), L = A ++ B → x = A.length → (∀ r ∈ A, ¬ (a < r 1 + r 4 ∧ 600 < r 1 + r 4 + l)) → at_I kR 5 mX10_inserts 27 [vR 0, vI a, vI l, vI x] [] μ (fun z m => lz_ μ m z (r_ins L H a l)) := by
    intro B
    induction B with
    | nil =>
      intro A x hA hx h1
      rw [List.append_nil] at hA
      have lA : L.length = A.length := by rw [hA]
      exact vc_X10_inserts_27 ⟨fun _ => second (by rw [hA]; exact h1) H [] 0 (by simp) rfl (by simp), fun q => by omega⟩
    | cons r B ih =>
      intro A x hA hx h1
      have lA : L.length = A.length + 1 + B.length := by rw [hA]; simp; omega
      have ht' := ht
      rw [hA] at ht'
      have v := fun k k0 k1 => tr_at (k := k) ht' hx k0 k1
      have ro := hok r (by rw [hA]; simp)
      unfold okC in_ at ro
      have go : ¬ (a < r 1 + r 4 ∧ 600 < r 1 + r 4 + l) → at_I kR 5 mX10_inserts 27 [vR 0, vI a, vI l, vI (x + 1)] [] μ (fun z m => lz_ μ m z (r_ins L H a l)) := fun h => ih (A ++ [r]) (x + 1) (by rw [hA]; simp) (by simp; omega) (fun q hq => by
        rcases List.mem_append.mp hq with w | w
        · exact h1 q w
        · simp at w
          rw [w]
          exact h)
      refine vc_X10_inserts_27 ⟨fun q => by omega, fun q => ⟨(by (try unfold am_in); (try unfold in_ at *); omega), (by (try unfold am_in); (try unfold in_ at *); omega), (by (try unfold am_in); (try unfold in_ at *); omega), (by (try unfold am_in); (try unfold in_ at *); omega), ?_⟩⟩
      rw [v 1 (by omega) (by omega), v 4 (by omega) (by omega)]
      exact ⟨(by (try unfold am_in); (try unfold in_ at *); omega), fun c => ⟨(by (try unfold am_in); (try unfold in_ at *); omega), go (by omega)⟩, fun c => ⟨(by (try unfold am_in); (try unfold in_ at *); omega), (by (try unfold am_in); (try unfold in_ at *); omega), (by (try unfold am_in); (try unfold in_ at *); omega), (by (try unfold am_in); (try unfold in_ at *); omega), (by (try unfold am_in); (try unfold in_ at *); omega), (by (try unfold am_in); (try unfold in_ at *); omega), fun c2 => ⟨(by (try unfold am_in); (try unfold in_ at *); omega), go (by omega)⟩, fun c2 => bad2 (fun w => by
        have := (hb.mp w).1 r (by rw [hA]; simp)
        omega)⟩⟩
  exact first L [] 0 (by simp) rfl (by simp)

/-! the reference cuts frames -/
/-- a row's frames within -/
def ovl_ (a b : Int) (r : Rw) : Int := if (if a < r 1 then r 1 else a) < (if r 1 + r 4 < b then r 1 + r 4 else b) then (if r 1 + r 4 < b then r 1 + r 4 else b) - (if a < r 1 then r 1 else a) else 0
theorem ovl_is {a b : Int} (hab : a < b) {r : Rw} (h : 1 ≤ r 4) : (((spF a r).flatMap (spF b)).map (inn_ a b)).sum = ovl_ a b r := by
  unfold ovl_
  have i1 : ∀ s : Rw, s 1 < a → inn_ a b s = 0 := fun s hs => by unfold inn_; rw [if_neg (by omega), if_neg (by omega)]
  have i2 : ∀ s : Rw, b ≤ s 1 → inn_ a b s = 0 := fun s hs => by unfold inn_; rw [if_pos hs]
  have i3 : ∀ s : Rw, a ≤ s 1 → s 1 < b → inn_ a b s = s 4 := fun s h1 h2 => by unfold inn_; rw [if_neg (by omega), if_pos h1]
  by_cases h1 : r 1 < a
  · by_cases h2 : r 1 + r 4 ≤ a
    · have e1 : spF a r = [r] := by unfold spF; rw [if_neg (by omega)]
      have e2 : spF b r = [r] := by unfold spF; rw [if_neg (by omega)]
      rw [e1, List.flatMap_cons, e2]
      simp [i1 r h1]
      (repeat' split) <;> omega
    · have e1 : spF a r = [spl1 r (a - r 1), spl2 r (a - r 1)] := by unfold spF; rw [if_pos (by omega)]
      have a1 : spl1 r (a - r 1) 1 = r 1 := by simp [spl1]
      have a4 : spl1 r (a - r 1) 4 = a - r 1 := by simp [spl1]
      have b1 : spl2 r (a - r 1) 1 = a := by simp [spl2]; omega
      have b4 : spl2 r (a - r 1) 4 = r 4 - (a - r 1) := by simp [spl2]
      have e2 : spF b (spl1 r (a - r 1)) = [spl1 r (a - r 1)] := by unfold spF; rw [a1, a4, if_neg (by omega)]
      rw [e1, List.flatMap_cons, e2, List.flatMap_cons]
      by_cases h3 : b < r 1 + r 4
      · have e3 : spF b (spl2 r (a - r 1)) = [spl1 (spl2 r (a - r 1)) (b - a), spl2 (spl2 r (a - r 1)) (b - a)] := by unfold spF; rw [b1, b4, if_pos (by omega)]
        rw [e3]
        have c1 : spl1 (spl2 r (a - r 1)) (b - a) 1 = a := by simp [spl1, b1]
        have c4 : spl1 (spl2 r (a - r 1)) (b - a) 4 = b - a := by simp [spl1]
        have d1 : spl2 (spl2 r (a - r 1)) (b - a) 1 = b := by simp [spl2]; omega
        simp [i1 _ (by omega : spl1 r (a - r 1) 1 < a), i3 _ (by omega : a ≤ spl1 (spl2 r (a - r 1)) (b - a) 1) (by omega), i2 _ (by omega : b ≤ spl2 (spl2 r (a - r 1)) (b - a) 1), c4]
        (repeat' split) <;> omega
      · have e3 : spF b (spl2 r (a - r 1)) = [spl2 r (a - r 1)] := by unfold spF; rw [b1, b4, if_neg (by omega)]
        rw [e3]
        simp [i1 _ (by omega : spl1 r (a - r 1) 1 < a), i3 _ (by omega : a ≤ spl2 r (a - r 1) 1) (by omega), b4]
        (repeat' split) <;> omega
  · have e1 : spF a r = [r] := by unfold spF; rw [if_neg (by omega)]
    rw [e1, List.flatMap_cons]
    by_cases h2 : r 1 < b ∧ b < r 1 + r 4
    · have e2 : spF b r = [spl1 r (b - r 1), spl2 r (b - r 1)] := by unfold spF; rw [if_pos h2]
      have a1 : spl1 r (b - r 1) 1 = r 1 := by simp [spl1]
      have a4 : spl1 r (b - r 1) 4 = b - r 1 := by simp [spl1]
      have b1 : spl2 r (b - r 1) 1 = b := by simp [spl2]; omega
      rw [e2]
      simp [i3 _ (by omega : a ≤ spl1 r (b - r 1) 1) (by omega), i2 _ (by omega : b ≤ spl2 r (b - r 1) 1), a4]
      (repeat' split) <;> omega
    · have e2 : spF b r = [r] := by unfold spF; rw [if_neg h2]
      rw [e2]
      by_cases h3 : b ≤ r 1
      · simp [i2 r h3]
        (repeat' split) <;> omega
      · simp [i3 r (by omega) (by omega)]
        (repeat' split) <;> omega
theorem ovl_s {a b : Int} (hab : a < b) : ∀ {L : List Rw}, (∀ r ∈ L, okC r) → (((L.flatMap (spF a)).flatMap (spF b)).map (inn_ a b)).sum = (L.map (ovl_ a b)).sum
  | [], _ => rfl
  | r :: L, h => by
    have hr := h r List.mem_cons_self
    unfold okC in_ at hr
    rw [List.flatMap_cons, List.flatMap_append, sum_app, ovl_is hab (by omega), ovl_s hab (fun s hs => h s (List.mem_cons_of_mem _ hs))]
    simp
theorem ovl_b {a b : Int} {r : Rw} (h : 1 ≤ r 4) : 0 ≤ ovl_ a b r ∧ ovl_ a b r ≤ r 4 := by
  unfold ovl_
  (repeat' split) <;> omega
theorem cuF_n {a b : Int} (hab : a < b) {r : Rw} (h : 1 ≤ r 4) : ((cuF a b r).length : Int) = 1 + (if r 1 < a then (if b < r 1 + r 4 then 1 else 0) else (if b < r 1 + r 4 then 0 else -1)) := by
  unfold cuF
  rw [List.length_append]
  by_cases c1 : r 1 < a
  · rw [if_pos c1, if_pos c1]
    by_cases c2 : b < r 1 + r 4
    · rw [if_pos c2, if_pos c2]; rfl
    · rw [if_neg c2, if_neg c2]; rfl
  · rw [if_neg c1, if_neg c1]
    by_cases c2 : b < r 1 + r 4
    · rw [if_pos c2, if_pos c2]; rfl
    · rw [if_neg c2, if_neg c2]; rfl
theorem cuF_l2 {a b : Int} {r : Rw} : (cuF a b r).length ≤ 2 := by
  unfold cuF
  rw [List.length_append]
  (repeat' split) <;> simp
theorem cuF_L2 {a b : Int} : ∀ L : List Rw, (L.flatMap (cuF a b)).length ≤ 2 * L.length
  | [] => by simp
  | r :: L => by
    rw [List.flatMap_cons, List.length_append, List.length_cons]
    have := cuF_l2 (a := a) (b := b) (r := r)
    have := cuF_L2 (a := a) (b := b) L
    omega
theorem ded_s (v : Int) (p : Int × Int) (H : Hl) : h_ded (some v) (p :: H) = (if p.1 = v then [] else [p]) ++ h_ded (some p.1) H := by
  show (if some v = some p.1 then h_ded (some v) H else p :: h_ded (some p.1) H) = _
  by_cases c : p.1 = v
  · rw [if_pos c, if_pos (by rw [c]), c]; rfl
  · rw [if_neg c, if_neg (fun e => c (Option.some.inj e).symm)]; rfl
theorem vc_X10_cuts_0 {x1 x2 : Int} {μ : am_M} {Q : Int → am_M → Prop} (h : (x1 < 0 → Q (-2) μ) ∧ (0 ≤ x1 → (x2 ≤ x1 → Q (-2) μ) ∧ (x1 < x2 → (x2 ≤ 600 → at_I kR 5 mX10_cuts 27 [vR 0, vI x1, vI x2, vI 0, vI 0, vI 0, vU, vU, vU, vU, vU, vU] [] μ Q) ∧ (600 < x2 → Q (-2) μ)))) : at_I kR 5 mX10_cuts 0 [vR 0, vI x1, vI x2, vU, vU, vU, vU, vU, vU, vU, vU, vU] [] μ Q := by
  refine s_iload_n dX10_cuts_0 rfl rfl ?_
  refine s_if_lt dX10_cuts_1 (tgt := 16) (by decide) (fun cc => ?_) (fun cc => ?_)
  · have h := h.1 cc
    refine s_bipush dX10_cuts_16 (by decide) ?_
    exact s_ireturn dX10_cuts_18 (Or.inl rfl) ⟨⟨rfl, rfl⟩, _, rfl, h⟩
  · have h := h.2 cc
    refine s_iload_n dX10_cuts_4 rfl rfl ?_
    refine s_iload_n dX10_cuts_5 rfl rfl ?_
    refine s_icmp_ge dX10_cuts_6 (tgt := 16) (by decide) (fun cc => ?_) (fun cc => ?_)
    · have h := h.1 cc
      refine s_bipush dX10_cuts_16 (by decide) ?_
      exact s_ireturn dX10_cuts_18 (Or.inl rfl) ⟨⟨rfl, rfl⟩, _, rfl, h⟩
    · have h := h.2 cc
      refine s_iload_n dX10_cuts_9 rfl rfl ?_
      refine s_sipush dX10_cuts_10 (by decide) ?_
      refine s_icmp_le dX10_cuts_13 (tgt := 19) (by decide) (fun cc => ?_) (fun cc => ?_)
      · have h := h.1 cc
        refine s_iconst dX10_cuts_19 (by decide) ?_
        refine s_istore_n dX10_cuts_20 rfl (by decide) (L' := [vR 0, vI x1, vI x2, vI 0, vU, vU, vU, vU, vU, vU, vU, vU]) rfl ?_
        refine s_iconst dX10_cuts_21 (by decide) ?_
        refine s_istore dX10_cuts_22 (by decide) (L' := [vR 0, vI x1, vI x2, vI 0, vI 0, vU, vU, vU, vU, vU, vU, vU]) rfl ?_
        refine s_iconst dX10_cuts_24 (by decide) ?_
        refine s_istore dX10_cuts_25 (by decide) (L' := [vR 0, vI x1, vI x2, vI 0, vI 0, vI 0, vU, vU, vU, vU, vU, vU]) rfl ?_
        exact h
      · have h := h.2 cc
        refine s_bipush dX10_cuts_16 (by decide) ?_
        exact s_ireturn dX10_cuts_18 (Or.inl rfl) ⟨⟨rfl, rfl⟩, _, rfl, h⟩
theorem vc_X10_cuts_27 {x1 x2 x3 x4 x5 : Int} {μ : am_M} {Q : Int → am_M → Prop} (h : (μ 1 25 ≤ x5 → (am_in (μ 1 25 + x3)) ∧ ((μ 1 25 + x3 ≤ 24 → (am_in (x2 - x1)) ∧ ((am_in (μ 1 25 - 1)) ∧ (at_I kR 5 mX10_cuts 184 [vR 0, vI x1, vI x2, vU, vI x4, vI (x2 - x1), vI (μ 1 25 - 1), vU, vU, vU, vU, vU] [] μ Q))) ∧ (24 < μ 1 25 + x3 → Q (-3) μ))) ∧ (x5 < μ 1 25 → (in_ 0 48 x5) ∧ (in_ 0 8 1) ∧ ((in_ 0 48 x5) ∧ (in_ 0 8 4) ∧ ((am_in (rg μ x5 1 + (rg μ x5 4))) ∧ (∀ v1 : Int, v1 = (if rg μ x5 1 < x1 then (if x2 < rg μ x5 1 + (rg μ x5 4) then 1 else (if rg μ x5 1 < x1 then 0 else (if x2 < rg μ x5 1 + (rg μ x5 4) then 0 else (-1)))) else (if rg μ x5 1 < x1 then 0 else (if x2 < rg μ x5 1 + (rg μ x5 4) then 0 else (-1)))) → (am_in (x3 + v1)) ∧ (∀ v2 : Int, v2 = (if x1 < rg μ x5 1 then rg μ x5 1 else x1) → ∀ v3 : Int, v3 = (if rg μ x5 1 + (rg μ x5 4) < x2 then rg μ x5 1 + (rg μ x5 4) else x2) → ((v2 < v3 → (am_in (v3 - v2)))) ∧ (∀ v4 : Int, v4 = (if v2 < v3 then v3 - v2 else 0) → (am_in (x4 + v4)) ∧ ((am_in (x5 + 1)) ∧ (at_I kR 5 mX10_cuts 27 [vR 0, vI x1, vI x2, vI (x3 + v1), vI (x4 + v4), vI (x5 + 1), vU, vU, vU, vU, vU, vU] [] μ Q))))))))) : at_I kR 5 mX10_cuts 27 [vR 0, vI x1, vI x2, vI x3, vI x4, vI x5, vU, vU, vU, vU, vU, vU] [] μ Q := by
  refine s_iload dX10_cuts_27 rfl ?_
  refine s_aload_n dX10_cuts_29 rfl rfl ?_
  refine s_getR dX10_cuts_30 flX10_9 rn0 rk0 rfl rr0_0 ?_
  refine s_bipush dX10_cuts_33 (by decide) ?_
  refine s_iald (x := (μ 1 25)) dX10_cuts_35 rn1 rk1 rl1 (by decide) (by decide) rfl ?_
  refine s_icmp_ge dX10_cuts_36 (tgt := 151) (by decide) (fun cc => ?_) (fun cc => ?_)
  · have h := h.1 cc
    refine s_aload_n dX10_cuts_151 rfl rfl ?_
    refine s_getR dX10_cuts_152 flX10_9 rn0 rk0 rfl rr0_0 ?_
    refine s_bipush dX10_cuts_155 (by decide) ?_
    refine s_iald (x := (μ 1 25)) dX10_cuts_157 rn1 rk1 rl1 (by decide) (by decide) rfl ?_
    refine s_iload_n dX10_cuts_158 rfl rfl ?_
    obtain ⟨c, h⟩ := h
    refine s_iadd dX10_cuts_159 (am_w_id c) ?_
    refine s_bipush dX10_cuts_160 (by decide) ?_
    refine s_icmp_le dX10_cuts_162 (tgt := 168) (by decide) (fun cc => ?_) (fun cc => ?_)
    · have h := h.1 cc
      refine s_iload_n dX10_cuts_168 rfl rfl ?_
      refine s_iload_n dX10_cuts_169 rfl rfl ?_
      obtain ⟨c, h⟩ := h
      refine s_isub dX10_cuts_170 (am_w_id c) ?_
      refine s_istore dX10_cuts_171 (by decide) (L' := [vR 0, vI x1, vI x2, vI x3, vI x4, vI (x2 - x1), vU, vU, vU, vU, vU, vU]) rfl ?_
      refine s_aload_n dX10_cuts_173 rfl rfl ?_
      refine s_getR dX10_cuts_174 flX10_9 rn0 rk0 rfl rr0_0 ?_
      refine s_bipush dX10_cuts_177 (by decide) ?_
      refine s_iald (x := (μ 1 25)) dX10_cuts_179 rn1 rk1 rl1 (by decide) (by decide) rfl ?_
      refine s_iconst dX10_cuts_180 (by decide) ?_
      obtain ⟨c, h⟩ := h
      refine s_isub dX10_cuts_181 (am_w_id c) ?_
      refine s_istore dX10_cuts_182 (by decide) (L' := [vR 0, vI x1, vI x2, vI x3, vI x4, vI (x2 - x1), vI (μ 1 25 - 1), vU, vU, vU, vU, vU]) rfl ?_
      exact am_lesS h ⟨Or.inr rfl, Or.inr rfl, Or.inr rfl, Or.inl rfl, Or.inr rfl, Or.inr rfl, Or.inr rfl, Or.inl rfl, Or.inl rfl, Or.inl rfl, Or.inl rfl, Or.inl rfl, trivial⟩
    · have h := h.2 cc
      refine s_bipush dX10_cuts_165 (by decide) ?_
      exact s_ireturn dX10_cuts_167 (Or.inl rfl) ⟨⟨rfl, rfl⟩, _, rfl, h⟩
  · have h := h.2 cc
    refine s_aload_n dX10_cuts_39 rfl rfl ?_
    refine s_iload dX10_cuts_40 rfl ?_
    refine s_iconst dX10_cuts_42 (by decide) ?_
    obtain ⟨p0, p1, h⟩ := h
    refine s_callV (As := [vI x5, vI 1]) (rest := []) (k := 0) dX10_cuts_43 lkX10_126 rn0 ⟨by rw [rk0]; rfl, by rw [rk0]; decide⟩ lmX10_of rfl rfl (Nat.le_of_ble_eq_true rfl) (by decide) (Nat.le_refl 0) (Nat.le_refl 0) (hC := sp_X10_of (Q := fun z m => rg μ x5 1 = z ∧ μ = m) p0 p1 ⟨rfl, rfl⟩) (fun r n2 S2 m2 hP => ?_)
    obtain ⟨⟨rfl, rfl⟩, z, rfl, rfl, rfl⟩ := hP
    refine s_istore dX10_cuts_46 (by decide) (L' := [vR 0, vI x1, vI x2, vI x3, vI x4, vI x5, vI (rg μ x5 1), vU, vU, vU, vU, vU]) rfl ?_
    refine s_iload dX10_cuts_48 rfl ?_
    refine s_aload_n dX10_cuts_50 rfl rfl ?_
    refine s_iload dX10_cuts_51 rfl ?_
    refine s_iconst dX10_cuts_53 (by decide) ?_
    obtain ⟨p0, p1, h⟩ := h
    refine s_callV (As := [vI x5, vI 4]) (rest := [vI (rg μ x5 1)]) (k := 0) dX10_cuts_54 lkX10_126 rn0 ⟨by rw [rk0]; rfl, by rw [rk0]; decide⟩ lmX10_of rfl rfl (Nat.le_of_ble_eq_true rfl) (by decide) (Nat.le_refl 0) (Nat.le_refl 0) (hC := sp_X10_of (Q := fun z m => rg μ x5 4 = z ∧ μ = m) p0 p1 ⟨rfl, rfl⟩) (fun r n2 S2 m2 hP => ?_)
    obtain ⟨⟨rfl, rfl⟩, z, rfl, rfl, rfl⟩ := hP
    obtain ⟨c, h⟩ := h
    refine s_iadd dX10_cuts_57 (am_w_id c) ?_
    refine s_istore dX10_cuts_58 (by decide) (L' := [vR 0, vI x1, vI x2, vI x3, vI x4, vI x5, vI (rg μ x5 1), vI (rg μ x5 1 + (rg μ x5 4)), vU, vU, vU, vU]) rfl ?_
    refine s_iload_n dX10_cuts_60 rfl rfl ?_
    refine s_iload dX10_cuts_61 rfl ?_
    refine s_iload_n dX10_cuts_63 rfl rfl ?_
    have kj8 : ∀ (v1 : Int), ((am_in (x3 + v1)) ∧ (∀ v2 : Int, v2 = (if x1 < rg μ x5 1 then rg μ x5 1 else x1) → ∀ v3 : Int, v3 = (if rg μ x5 1 + (rg μ x5 4) < x2 then rg μ x5 1 + (rg μ x5 4) else x2) → ((v2 < v3 → (am_in (v3 - v2)))) ∧ (∀ v4 : Int, v4 = (if v2 < v3 then v3 - v2 else 0) → (am_in (x4 + v4)) ∧ ((am_in (x5 + 1)) ∧ (at_I kR 5 mX10_cuts 27 [vR 0, vI x1, vI x2, vI (x3 + v1), vI (x4 + v4), vI (x5 + 1), vU, vU, vU, vU, vU, vU] [] μ Q))))) → at_I kR 5 mX10_cuts 94 [vR 0, vI x1, vI x2, vU, vI x4, vI x5, vI (rg μ x5 1), vI (rg μ x5 1 + (rg μ x5 4)), vU, vU, vU, vU] [vI v1, vI x3] μ Q := by
      intro v1 h
      obtain ⟨c, h⟩ := h
      refine s_iadd dX10_cuts_94 (am_w_id c) ?_
      refine s_istore_n dX10_cuts_95 rfl (by decide) (L' := [vR 0, vI x1, vI x2, vI (x3 + v1), vI x4, vI x5, vI (rg μ x5 1), vI (rg μ x5 1 + (rg μ x5 4)), vU, vU, vU, vU]) rfl ?_
      refine s_iload dX10_cuts_96 rfl ?_
      refine s_iload_n dX10_cuts_98 rfl rfl ?_
      have kj7 : ∀ (v2 : Int), (∀ v3 : Int, v3 = (if rg μ x5 1 + (rg μ x5 4) < x2 then rg μ x5 1 + (rg μ x5 4) else x2) → ((v2 < v3 → (am_in (v3 - v2)))) ∧ (∀ v4 : Int, v4 = (if v2 < v3 then v3 - v2 else 0) → (am_in (x4 + v4)) ∧ ((am_in (x5 + 1)) ∧ (at_I kR 5 mX10_cuts 27 [vR 0, vI x1, vI x2, vI (x3 + v1), vI (x4 + v4), vI (x5 + 1), vU, vU, vU, vU, vU, vU] [] μ Q)))) → at_I kR 5 mX10_cuts 108 [vR 0, vI x1, vI x2, vI (x3 + v1), vI x4, vI x5, vU, vI (rg μ x5 1 + (rg μ x5 4)), vU, vU, vU, vU] [vI v2] μ Q := by
        intro v2 h
        refine s_istore dX10_cuts_108 (by decide) (L' := [vR 0, vI x1, vI x2, vI (x3 + v1), vI x4, vI x5, vU, vI (rg μ x5 1 + (rg μ x5 4)), vI v2, vU, vU, vU]) rfl ?_
        refine s_iload dX10_cuts_110 rfl ?_
        refine s_iload_n dX10_cuts_112 rfl rfl ?_
        have kj6 : ∀ (v3 : Int), (((v2 < v3 → (am_in (v3 - v2)))) ∧ (∀ v4 : Int, v4 = (if v2 < v3 then v3 - v2 else 0) → (am_in (x4 + v4)) ∧ ((am_in (x5 + 1)) ∧ (at_I kR 5 mX10_cuts 27 [vR 0, vI x1, vI x2, vI (x3 + v1), vI (x4 + v4), vI (x5 + 1), vU, vU, vU, vU, vU, vU] [] μ Q)))) → at_I kR 5 mX10_cuts 122 [vR 0, vI x1, vI x2, vI (x3 + v1), vI x4, vI x5, vU, vU, vI v2, vU, vU, vU] [vI v3] μ Q := by
          intro v3 h
          refine s_istore dX10_cuts_122 (by decide) (L' := [vR 0, vI x1, vI x2, vI (x3 + v1), vI x4, vI x5, vU, vU, vI v2, vI v3, vU, vU]) rfl ?_
          refine s_iload dX10_cuts_124 rfl ?_
          refine s_iload dX10_cuts_126 rfl ?_
          refine s_iload dX10_cuts_128 rfl ?_
          obtain ⟨hsd, h⟩ := h
          have kj5 : ∀ (v4 : Int), ((am_in (x4 + v4)) ∧ ((am_in (x5 + 1)) ∧ (at_I kR 5 mX10_cuts 27 [vR 0, vI x1, vI x2, vI (x3 + v1), vI (x4 + v4), vI (x5 + 1), vU, vU, vU, vU, vU, vU] [] μ Q))) → at_I kR 5 mX10_cuts 142 [vR 0, vI x1, vI x2, vI (x3 + v1), vU, vI x5, vU, vU, vU, vU, vU, vU] [vI v4, vI x4] μ Q := by
            intro v4 h
            obtain ⟨c, h⟩ := h
            refine s_iadd dX10_cuts_142 (am_w_id c) ?_
            refine s_istore dX10_cuts_143 (by decide) (L' := [vR 0, vI x1, vI x2, vI (x3 + v1), vI (x4 + v4), vI x5, vU, vU, vU, vU, vU, vU]) rfl ?_
            obtain ⟨c, h⟩ := h
            refine s_iinc dX10_cuts_145 rfl (am_w_id c) (by decide) (L' := [vR 0, vI x1, vI x2, vI (x3 + v1), vI (x4 + v4), vI (x5 + 1), vU, vU, vU, vU, vU, vU]) rfl ?_
            refine s_goto dX10_cuts_148 (tgt := 27) (by decide) ?_
            exact h
          refine s_icmp_le dX10_cuts_130 (tgt := 141) (by decide) (fun cc => ?_) (fun cc => ?_)
          · have hp0 := cc
            refine s_iconst dX10_cuts_141 (by decide) ?_
            exact am_lesS (kj5 0 (h 0 (by rw [if_neg (Int.not_lt.mpr hp0)]))) ⟨Or.inr rfl, Or.inr rfl, Or.inr rfl, Or.inr rfl, Or.inl rfl, Or.inr rfl, Or.inl rfl, Or.inl rfl, Or.inl rfl, Or.inl rfl, Or.inl rfl, Or.inl rfl, trivial⟩
          · have hp0 := cc
            have hsd := hsd hp0
            refine s_iload dX10_cuts_133 rfl ?_
            refine s_iload dX10_cuts_135 rfl ?_
            have c := hsd
            refine s_isub dX10_cuts_137 (am_w_id c) ?_
            refine s_goto dX10_cuts_138 (tgt := 142) (by decide) ?_
            exact am_lesS (kj5 (v3 - v2) (h (v3 - v2) (by rw [if_pos hp0]))) ⟨Or.inr rfl, Or.inr rfl, Or.inr rfl, Or.inr rfl, Or.inl rfl, Or.inr rfl, Or.inl rfl, Or.inl rfl, Or.inl rfl, Or.inl rfl, Or.inl rfl, Or.inl rfl, trivial⟩
        refine s_icmp_ge dX10_cuts_113 (tgt := 121) (by decide) (fun cc => ?_) (fun cc => ?_)
        · have hp0 := cc
          refine s_iload_n dX10_cuts_121 rfl rfl ?_
          exact am_lesS (kj6 x2 (h x2 (by rw [if_neg (Int.not_lt.mpr hp0)]))) ⟨Or.inr rfl, Or.inr rfl, Or.inr rfl, Or.inr rfl, Or.inr rfl, Or.inr rfl, Or.inl rfl, Or.inl rfl, Or.inr rfl, Or.inl rfl, Or.inl rfl, Or.inl rfl, trivial⟩
        · have hp0 := cc
          refine s_iload dX10_cuts_116 rfl ?_
          refine s_goto dX10_cuts_118 (tgt := 122) (by decide) ?_
          exact am_lesS (kj6 (rg μ x5 1 + (rg μ x5 4)) (h (rg μ x5 1 + (rg μ x5 4)) (by rw [if_pos hp0]))) ⟨Or.inr rfl, Or.inr rfl, Or.inr rfl, Or.inr rfl, Or.inr rfl, Or.inr rfl, Or.inl rfl, Or.inl rfl, Or.inr rfl, Or.inl rfl, Or.inl rfl, Or.inl rfl, trivial⟩
      refine s_icmp_le dX10_cuts_99 (tgt := 107) (by decide) (fun cc => ?_) (fun cc => ?_)
      · have hp0 := cc
        refine s_iload_n dX10_cuts_107 rfl rfl ?_
        exact am_lesS (kj7 x1 (h x1 (by rw [if_neg (Int.not_lt.mpr hp0)]))) ⟨Or.inr rfl, Or.inr rfl, Or.inr rfl, Or.inr rfl, Or.inr rfl, Or.inr rfl, Or.inl rfl, Or.inr rfl, Or.inl rfl, Or.inl rfl, Or.inl rfl, Or.inl rfl, trivial⟩
      · have hp0 := cc
        refine s_iload dX10_cuts_102 rfl ?_
        refine s_goto dX10_cuts_104 (tgt := 108) (by decide) ?_
        exact am_lesS (kj7 (rg μ x5 1) (h (rg μ x5 1) (by rw [if_pos hp0]))) ⟨Or.inr rfl, Or.inr rfl, Or.inr rfl, Or.inr rfl, Or.inr rfl, Or.inr rfl, Or.inl rfl, Or.inr rfl, Or.inl rfl, Or.inl rfl, Or.inl rfl, Or.inl rfl, trivial⟩
    refine s_icmp_ge dX10_cuts_64 (tgt := 77) (by decide) (fun cc => ?_) (fun cc => ?_)
    · have hp0 := cc
      refine s_iload dX10_cuts_77 rfl ?_
      refine s_iload_n dX10_cuts_79 rfl rfl ?_
      refine s_icmp_lt dX10_cuts_80 (tgt := 93) (by decide) (fun cc => ?_) (fun cc => ?_)
      · have hp1 := cc
        refine s_iconst dX10_cuts_93 (by decide) ?_
        exact am_lesS (kj8 0 (h 0 (by rw [if_neg (Int.not_lt.mpr hp0), if_pos hp1]))) ⟨Or.inr rfl, Or.inr rfl, Or.inr rfl, Or.inl rfl, Or.inr rfl, Or.inr rfl, Or.inr rfl, Or.inr rfl, Or.inl rfl, Or.inl rfl, Or.inl rfl, Or.inl rfl, trivial⟩
      · have hp1 := cc
        refine s_iload dX10_cuts_83 rfl ?_
        refine s_iload_n dX10_cuts_85 rfl rfl ?_
        refine s_icmp_gt dX10_cuts_86 (tgt := 93) (by decide) (fun cc => ?_) (fun cc => ?_)
        · have hp2 := cc
          refine s_iconst dX10_cuts_93 (by decide) ?_
          exact am_lesS (kj8 0 (h 0 (by rw [if_neg (Int.not_lt.mpr hp0), if_neg (Int.not_lt.mpr hp1), if_pos hp2]))) ⟨Or.inr rfl, Or.inr rfl, Or.inr rfl, Or.inl rfl, Or.inr rfl, Or.inr rfl, Or.inr rfl, Or.inr rfl, Or.inl rfl, Or.inl rfl, Or.inl rfl, Or.inl rfl, trivial⟩
        · have hp2 := cc
          refine s_iconst dX10_cuts_89 (by decide) ?_
          refine s_goto dX10_cuts_90 (tgt := 94) (by decide) ?_
          exact am_lesS (kj8 (-1) (h (-1) (by rw [if_neg (Int.not_lt.mpr hp0), if_neg (Int.not_lt.mpr hp1), if_neg (Int.not_lt.mpr hp2)]))) ⟨Or.inr rfl, Or.inr rfl, Or.inr rfl, Or.inl rfl, Or.inr rfl, Or.inr rfl, Or.inr rfl, Or.inr rfl, Or.inl rfl, Or.inl rfl, Or.inl rfl, Or.inl rfl, trivial⟩
    · have hp0 := cc
      refine s_iload dX10_cuts_67 rfl ?_
      refine s_iload_n dX10_cuts_69 rfl rfl ?_
      refine s_icmp_le dX10_cuts_70 (tgt := 77) (by decide) (fun cc => ?_) (fun cc => ?_)
      · have hp1 := cc
        refine s_iload dX10_cuts_77 rfl ?_
        refine s_iload_n dX10_cuts_79 rfl rfl ?_
        refine s_icmp_lt dX10_cuts_80 (tgt := 93) (by decide) (fun cc => ?_) (fun cc => ?_)
        · have hp2 := cc
          refine s_iconst dX10_cuts_93 (by decide) ?_
          exact am_lesS (kj8 0 (h 0 (by rw [if_pos hp0, if_neg (Int.not_lt.mpr hp1), if_pos hp2]))) ⟨Or.inr rfl, Or.inr rfl, Or.inr rfl, Or.inl rfl, Or.inr rfl, Or.inr rfl, Or.inr rfl, Or.inr rfl, Or.inl rfl, Or.inl rfl, Or.inl rfl, Or.inl rfl, trivial⟩
        · have hp2 := cc
          refine s_iload dX10_cuts_83 rfl ?_
          refine s_iload_n dX10_cuts_85 rfl rfl ?_
          refine s_icmp_gt dX10_cuts_86 (tgt := 93) (by decide) (fun cc => ?_) (fun cc => ?_)
          · have hp3 := cc
            refine s_iconst dX10_cuts_93 (by decide) ?_
            exact am_lesS (kj8 0 (h 0 (by rw [if_pos hp0, if_neg (Int.not_lt.mpr hp1), if_neg (Int.not_lt.mpr hp2), if_pos hp3]))) ⟨Or.inr rfl, Or.inr rfl, Or.inr rfl, Or.inl rfl, Or.inr rfl, Or.inr rfl, Or.inr rfl, Or.inr rfl, Or.inl rfl, Or.inl rfl, Or.inl rfl, Or.inl rfl, trivial⟩
          · have hp3 := cc
            refine s_iconst dX10_cuts_89 (by decide) ?_
            refine s_goto dX10_cuts_90 (tgt := 94) (by decide) ?_
            exact am_lesS (kj8 (-1) (h (-1) (by rw [if_pos hp0, if_neg (Int.not_lt.mpr hp1), if_neg (Int.not_lt.mpr hp2), if_neg (Int.not_lt.mpr hp3)]))) ⟨Or.inr rfl, Or.inr rfl, Or.inr rfl, Or.inl rfl, Or.inr rfl, Or.inr rfl, Or.inr rfl, Or.inr rfl, Or.inl rfl, Or.inl rfl, Or.inl rfl, Or.inl rfl, trivial⟩
      · have hp1 := cc
        refine s_iconst dX10_cuts_73 (by decide) ?_
        refine s_goto dX10_cuts_74 (tgt := 94) (by decide) ?_
        exact am_lesS (kj8 1 (h 1 (by rw [if_pos hp0, if_pos hp1]))) ⟨Or.inr rfl, Or.inr rfl, Or.inr rfl, Or.inl rfl, Or.inr rfl, Or.inr rfl, Or.inr rfl, Or.inr rfl, Or.inl rfl, Or.inl rfl, Or.inl rfl, Or.inl rfl, trivial⟩
theorem vc_X10_cuts_184 {x1 x2 x4 x5 x6 : Int} {μ : am_M} {Q : Int → am_M → Prop} (h : (x6 < 0 → at_I kR 5 mX10_cuts 527 [vR 0, vI x1, vI x2, vU, vI x4, vI x5, vI 0, vU, vU, vU, vU, vU] [] μ Q) ∧ (0 ≤ x6 → (in_ 0 48 x6) ∧ (in_ 0 8 1) ∧ ((in_ 0 48 x6) ∧ (in_ 0 8 4) ∧ ((am_in (rg μ x6 1 + (rg μ x6 4))) ∧ ((x1 < rg μ x6 1 + (rg μ x6 4) → (rg μ x6 1 < x1 → (rg μ x6 1 < x2 → ∀ v1 : Int, v1 = (if rg μ x6 1 < x1 then (if x2 < rg μ x6 1 + (rg μ x6 4) then 1 else 0) else 0) → ∃ P : am_M → Prop, cl_V kR 2 mX10_takes [vR 0, vI x6] μ P ∧ (∀ m3 : am_M, P m3 → ((x1 ≤ rg μ x6 1 → (am_in ((rg μ x6 1 + (rg μ x6 4)) - x2))) ∧ (rg μ x6 1 < x1 → (am_in (x1 - (rg μ x6 1))))) ∧ (∀ v4 : Int, v4 = (if rg μ x6 1 < x1 then x1 - (rg μ x6 1) else (rg μ x6 1 + (rg μ x6 4)) - x2) → ∀ m5 : am_M, m5 = am_st m3 14 (am_up (m3 14) 4 v4) → ∀ v6 : Int, v6 = (if rg μ x6 1 < x1 then rg μ x6 1 else x1) → ∀ m7 : am_M, m7 = am_st m5 14 (am_up (m5 14) 1 v6) → ((x1 ≤ rg μ x6 1 → (am_in (x2 - (rg μ x6 1))))) ∧ (∀ v8 : Int, v8 = (if rg μ x6 1 < x1 then 0 else x2 - (rg μ x6 1)) → (am_in (m3 14 3 + v8)) ∧ (∀ m9 : am_M, m9 = am_st m7 14 (am_up (m7 14) 3 (m3 14 3 + v8)) → ∀ v10 : Int, v10 = (if rg μ x6 1 < x1 then m3 14 6 else 0) → ∀ m11 : am_M, m11 = am_st m9 14 (am_up (m9 14) 6 v10) → ∀ v12 : Int, v12 = (if rg μ x6 1 < x1 then 0 else m3 14 7) → ∀ m13 : am_M, m13 = am_st m11 14 (am_up (m11 14) 7 v12) → ∃ P : am_M → Prop, cl_V kR 1 mX10_shortens [vR 0] m13 P ∧ (∀ m15 : am_M, P m15 → at_I kR 5 mX10_cuts 417 [vR 0, vI x1, vI x2, vU, vI x4, vI x5, vI x6, vI (rg μ x6 1), vI (rg μ x6 1 + (rg μ x6 4)), vI v1, vI (m3 14 7), vI 0] [] m15 Q)))))) ∧ (x2 ≤ rg μ x6 1 → (am_in (8 * x6)) ∧ ((am_in (26 + (8 * x6))) ∧ ((am_in ((26 + (8 * x6)) + 1)) ∧ ((0 ≤ (26 + (8 * x6)) + 1) ∧ ((26 + (8 * x6)) + 1 < 470) ∧ ((am_in ((μ 1 (((26 + (8 * x6)) + 1).toNat)) - x5)) ∧ ((0 ≤ (26 + (8 * x6)) + 1) ∧ ((26 + (8 * x6)) + 1 < 470) ∧ (∀ m22 : am_M, m22 = am_st μ 1 (am_up (μ 1) ((26 + (8 * x6)) + 1).toNat ((μ 1 (((26 + (8 * x6)) + 1).toNat)) - x5)) → (am_in (x6 - 1)) ∧ (at_I kR 5 mX10_cuts 184 [vR 0, vI x1, vI x2, vU, vI x4, vI x5, vI (x6 - 1), vU, vU, vU, vU, vU] [] m22 Q))))))))) ∧ (x1 ≤ rg μ x6 1 → (x2 < rg μ x6 1 + (rg μ x6 4) → (rg μ x6 1 < x2 → ∀ v23 : Int, v23 = (if rg μ x6 1 < x1 then (if x2 < rg μ x6 1 + (rg μ x6 4) then 1 else 0) else 0) → ∃ P : am_M → Prop, cl_V kR 2 mX10_takes [vR 0, vI x6] μ P ∧ (∀ m25 : am_M, P m25 → ((x1 ≤ rg μ x6 1 → (am_in ((rg μ x6 1 + (rg μ x6 4)) - x2))) ∧ (rg μ x6 1 < x1 → (am_in (x1 - (rg μ x6 1))))) ∧ (∀ v26 : Int, v26 = (if rg μ x6 1 < x1 then x1 - (rg μ x6 1) else (rg μ x6 1 + (rg μ x6 4)) - x2) → ∀ m27 : am_M, m27 = am_st m25 14 (am_up (m25 14) 4 v26) → ∀ v28 : Int, v28 = (if rg μ x6 1 < x1 then rg μ x6 1 else x1) → ∀ m29 : am_M, m29 = am_st m27 14 (am_up (m27 14) 1 v28) → ((x1 ≤ rg μ x6 1 → (am_in (x2 - (rg μ x6 1))))) ∧ (∀ v30 : Int, v30 = (if rg μ x6 1 < x1 then 0 else x2 - (rg μ x6 1)) → (am_in (m25 14 3 + v30)) ∧ (∀ m31 : am_M, m31 = am_st m29 14 (am_up (m29 14) 3 (m25 14 3 + v30)) → ∀ v32 : Int, v32 = (if rg μ x6 1 < x1 then m25 14 6 else 0) → ∀ m33 : am_M, m33 = am_st m31 14 (am_up (m31 14) 6 v32) → ∀ v34 : Int, v34 = (if rg μ x6 1 < x1 then 0 else m25 14 7) → ∀ m35 : am_M, m35 = am_st m33 14 (am_up (m33 14) 7 v34) → ∃ P : am_M → Prop, cl_V kR 1 mX10_shortens [vR 0] m35 P ∧ (∀ m37 : am_M, P m37 → at_I kR 5 mX10_cuts 417 [vR 0, vI x1, vI x2, vU, vI x4, vI x5, vI x6, vI (rg μ x6 1), vI (rg μ x6 1 + (rg μ x6 4)), vI v23, vI (m25 14 7), vI 0] [] m37 Q)))))) ∧ (x2 ≤ rg μ x6 1 → (am_in (8 * x6)) ∧ ((am_in (26 + (8 * x6))) ∧ ((am_in ((26 + (8 * x6)) + 1)) ∧ ((0 ≤ (26 + (8 * x6)) + 1) ∧ ((26 + (8 * x6)) + 1 < 470) ∧ ((am_in ((μ 1 (((26 + (8 * x6)) + 1).toNat)) - x5)) ∧ ((0 ≤ (26 + (8 * x6)) + 1) ∧ ((26 + (8 * x6)) + 1 < 470) ∧ (∀ m44 : am_M, m44 = am_st μ 1 (am_up (μ 1) ((26 + (8 * x6)) + 1).toNat ((μ 1 (((26 + (8 * x6)) + 1).toNat)) - x5)) → (am_in (x6 - 1)) ∧ (at_I kR 5 mX10_cuts 184 [vR 0, vI x1, vI x2, vU, vI x4, vI x5, vI (x6 - 1), vU, vU, vU, vU, vU] [] m44 Q))))))))) ∧ (rg μ x6 1 + (rg μ x6 4) ≤ x2 → ∃ P : am_M → Prop, cl_V kR 1 mX10_drops [vR 0, vI x6] μ P ∧ (∀ m46 : am_M, P m46 → (am_in (x6 - 1)) ∧ (at_I kR 5 mX10_cuts 184 [vR 0, vI x1, vI x2, vU, vI x4, vI x5, vI (x6 - 1), vU, vU, vU, vU, vU] [] m46 Q))))) ∧ (rg μ x6 1 + (rg μ x6 4) ≤ x1 → (am_in (x6 - 1)) ∧ (at_I kR 5 mX10_cuts 184 [vR 0, vI x1, vI x2, vU, vI x4, vI x5, vI (x6 - 1), vU, vU, vU, vU, vU] [] μ Q))))))) : at_I kR 5 mX10_cuts 184 [vR 0, vI x1, vI x2, vU, vI x4, vI x5, vI x6, vU, vU, vU, vU, vU] [] μ Q := by
  refine s_iload dX10_cuts_184 rfl ?_
  refine s_if_lt dX10_cuts_186 (tgt := 524) (by decide) (fun cc => ?_) (fun cc => ?_)
  · have h := h.1 cc
    refine s_iconst dX10_cuts_524 (by decide) ?_
    refine s_istore dX10_cuts_525 (by decide) (L' := [vR 0, vI x1, vI x2, vU, vI x4, vI x5, vI 0, vU, vU, vU, vU, vU]) rfl ?_
    exact h
  · have h := h.2 cc
    refine s_aload_n dX10_cuts_189 rfl rfl ?_
    refine s_iload dX10_cuts_190 rfl ?_
    refine s_iconst dX10_cuts_192 (by decide) ?_
    obtain ⟨p0, p1, h⟩ := h
    refine s_callV (As := [vI x6, vI 1]) (rest := []) (k := 0) dX10_cuts_193 lkX10_126 rn0 ⟨by rw [rk0]; rfl, by rw [rk0]; decide⟩ lmX10_of rfl rfl (Nat.le_of_ble_eq_true rfl) (by decide) (Nat.le_refl 0) (Nat.le_refl 0) (hC := sp_X10_of (Q := fun z m => rg μ x6 1 = z ∧ μ = m) p0 p1 ⟨rfl, rfl⟩) (fun r n2 S2 m2 hP => ?_)
    obtain ⟨⟨rfl, rfl⟩, z, rfl, rfl, rfl⟩ := hP
    refine s_istore dX10_cuts_196 (by decide) (L' := [vR 0, vI x1, vI x2, vU, vI x4, vI x5, vI x6, vI (rg μ x6 1), vU, vU, vU, vU]) rfl ?_
    refine s_iload dX10_cuts_198 rfl ?_
    refine s_aload_n dX10_cuts_200 rfl rfl ?_
    refine s_iload dX10_cuts_201 rfl ?_
    refine s_iconst dX10_cuts_203 (by decide) ?_
    obtain ⟨p0, p1, h⟩ := h
    refine s_callV (As := [vI x6, vI 4]) (rest := [vI (rg μ x6 1)]) (k := 0) dX10_cuts_204 lkX10_126 rn0 ⟨by rw [rk0]; rfl, by rw [rk0]; decide⟩ lmX10_of rfl rfl (Nat.le_of_ble_eq_true rfl) (by decide) (Nat.le_refl 0) (Nat.le_refl 0) (hC := sp_X10_of (Q := fun z m => rg μ x6 4 = z ∧ μ = m) p0 p1 ⟨rfl, rfl⟩) (fun r n2 S2 m2 hP => ?_)
    obtain ⟨⟨rfl, rfl⟩, z, rfl, rfl, rfl⟩ := hP
    obtain ⟨c, h⟩ := h
    refine s_iadd dX10_cuts_207 (am_w_id c) ?_
    refine s_istore dX10_cuts_208 (by decide) (L' := [vR 0, vI x1, vI x2, vU, vI x4, vI x5, vI x6, vI (rg μ x6 1), vI (rg μ x6 1 + (rg μ x6 4)), vU, vU, vU]) rfl ?_
    refine s_iload dX10_cuts_210 rfl ?_
    refine s_iload_n dX10_cuts_212 rfl rfl ?_
    refine s_icmp_gt dX10_cuts_213 (tgt := 219) (by decide) (fun cc => ?_) (fun cc => ?_)
    · have h := h.1 cc
      refine s_iload dX10_cuts_219 rfl ?_
      refine s_iload_n dX10_cuts_221 rfl rfl ?_
      refine s_icmp_lt dX10_cuts_222 (tgt := 240) (by decide) (fun cc => ?_) (fun cc => ?_)
      · have h := h.1 cc
        refine s_iload dX10_cuts_240 rfl ?_
        refine s_iload_n dX10_cuts_242 rfl rfl ?_
        refine s_icmp_lt dX10_cuts_243 (tgt := 269) (by decide) (fun cc => ?_) (fun cc => ?_)
        · have h := h.1 cc
          refine s_iload dX10_cuts_269 rfl ?_
          refine s_iload_n dX10_cuts_271 rfl rfl ?_
          have kj21 : ∀ (v1 : Int), (∃ P : am_M → Prop, cl_V kR 2 mX10_takes [vR 0, vI x6] μ P ∧ (∀ m3 : am_M, P m3 → ((x1 ≤ rg μ x6 1 → (am_in ((rg μ x6 1 + (rg μ x6 4)) - x2))) ∧ (rg μ x6 1 < x1 → (am_in (x1 - (rg μ x6 1))))) ∧ (∀ v4 : Int, v4 = (if rg μ x6 1 < x1 then x1 - (rg μ x6 1) else (rg μ x6 1 + (rg μ x6 4)) - x2) → ∀ m5 : am_M, m5 = am_st m3 14 (am_up (m3 14) 4 v4) → ∀ v6 : Int, v6 = (if rg μ x6 1 < x1 then rg μ x6 1 else x1) → ∀ m7 : am_M, m7 = am_st m5 14 (am_up (m5 14) 1 v6) → ((x1 ≤ rg μ x6 1 → (am_in (x2 - (rg μ x6 1))))) ∧ (∀ v8 : Int, v8 = (if rg μ x6 1 < x1 then 0 else x2 - (rg μ x6 1)) → (am_in (m3 14 3 + v8)) ∧ (∀ m9 : am_M, m9 = am_st m7 14 (am_up (m7 14) 3 (m3 14 3 + v8)) → ∀ v10 : Int, v10 = (if rg μ x6 1 < x1 then m3 14 6 else 0) → ∀ m11 : am_M, m11 = am_st m9 14 (am_up (m9 14) 6 v10) → ∀ v12 : Int, v12 = (if rg μ x6 1 < x1 then 0 else m3 14 7) → ∀ m13 : am_M, m13 = am_st m11 14 (am_up (m11 14) 7 v12) → ∃ P : am_M → Prop, cl_V kR 1 mX10_shortens [vR 0] m13 P ∧ (∀ m15 : am_M, P m15 → at_I kR 5 mX10_cuts 417 [vR 0, vI x1, vI x2, vU, vI x4, vI x5, vI x6, vI (rg μ x6 1), vI (rg μ x6 1 + (rg μ x6 4)), vI v1, vI (m3 14 7), vI 0] [] m15 Q)))))) → at_I kR 5 mX10_cuts 286 [vR 0, vI x1, vI x2, vU, vI x4, vI x5, vI x6, vI (rg μ x6 1), vI (rg μ x6 1 + (rg μ x6 4)), vU, vU, vU] [vI v1] μ Q := by
            intro v1 h
            refine s_istore dX10_cuts_286 (by decide) (L' := [vR 0, vI x1, vI x2, vU, vI x4, vI x5, vI x6, vI (rg μ x6 1), vI (rg μ x6 1 + (rg μ x6 4)), vI v1, vU, vU]) rfl ?_
            refine s_aload_n dX10_cuts_288 rfl rfl ?_
            refine s_iload dX10_cuts_289 rfl ?_
            obtain ⟨P, hcl, h⟩ := h
            refine s_callV (As := [vI x6]) (rest := []) (k := 0) dX10_cuts_291 lkX10_168 rn0 ⟨by rw [rk0]; rfl, by rw [rk0]; decide⟩ lmX10_takes rfl rfl (Nat.le_of_ble_eq_true rfl) (by decide) (Nat.le_refl 0) (Nat.le_refl 0) (hC := hcl) (fun r n2 S2 m3 hP => ?_)
            obtain ⟨⟨rfl, rfl⟩, rfl, hq⟩ := hP
            have h := h m3 hq
            refine s_aload_n dX10_cuts_294 rfl rfl ?_
            refine s_getR dX10_cuts_295 flX10_50 rn0 rk0 rfl rr0_18 ?_
            refine s_bipush dX10_cuts_298 (by decide) ?_
            refine s_iald (x := (m3 14 7)) dX10_cuts_300 rn14 rk14 rl14 (by decide) (by decide) rfl ?_
            refine s_istore dX10_cuts_301 (by decide) (L' := [vR 0, vI x1, vI x2, vU, vI x4, vI x5, vI x6, vI (rg μ x6 1), vI (rg μ x6 1 + (rg μ x6 4)), vI v1, vI (m3 14 7), vU]) rfl ?_
            refine s_aload_n dX10_cuts_303 rfl rfl ?_
            refine s_getR dX10_cuts_304 flX10_50 rn0 rk0 rfl rr0_18 ?_
            refine s_iconst dX10_cuts_307 (by decide) ?_
            refine s_iload dX10_cuts_308 rfl ?_
            refine s_iload_n dX10_cuts_310 rfl rfl ?_
            obtain ⟨hsd, h⟩ := h
            have kj20 : ∀ (v4 : Int), (∀ m5 : am_M, m5 = am_st m3 14 (am_up (m3 14) 4 v4) → ∀ v6 : Int, v6 = (if rg μ x6 1 < x1 then rg μ x6 1 else x1) → ∀ m7 : am_M, m7 = am_st m5 14 (am_up (m5 14) 1 v6) → ((x1 ≤ rg μ x6 1 → (am_in (x2 - (rg μ x6 1))))) ∧ (∀ v8 : Int, v8 = (if rg μ x6 1 < x1 then 0 else x2 - (rg μ x6 1)) → (am_in (m3 14 3 + v8)) ∧ (∀ m9 : am_M, m9 = am_st m7 14 (am_up (m7 14) 3 (m3 14 3 + v8)) → ∀ v10 : Int, v10 = (if rg μ x6 1 < x1 then m3 14 6 else 0) → ∀ m11 : am_M, m11 = am_st m9 14 (am_up (m9 14) 6 v10) → ∀ v12 : Int, v12 = (if rg μ x6 1 < x1 then 0 else m3 14 7) → ∀ m13 : am_M, m13 = am_st m11 14 (am_up (m11 14) 7 v12) → ∃ P : am_M → Prop, cl_V kR 1 mX10_shortens [vR 0] m13 P ∧ (∀ m15 : am_M, P m15 → at_I kR 5 mX10_cuts 417 [vR 0, vI x1, vI x2, vU, vI x4, vI x5, vI x6, vI (rg μ x6 1), vI (rg μ x6 1 + (rg μ x6 4)), vI v1, vI (m3 14 7), vI 0] [] m15 Q)))) → at_I kR 5 mX10_cuts 325 [vR 0, vI x1, vI x2, vU, vI x4, vI x5, vI x6, vI (rg μ x6 1), vI (rg μ x6 1 + (rg μ x6 4)), vI v1, vI (m3 14 7), vU] [vI v4, vI 4, vR 14] m3 Q := by
              intro v4 h
              obtain ⟨m5, hm5⟩ : ∃ x : am_M, x = am_st m3 14 (am_up (m3 14) 4 v4) := ⟨_, rfl⟩
              have h := h m5 hm5
              refine s_iast dX10_cuts_325 rn14 rk14 rl14 (by decide) (by decide) hm5.symm ?_
              refine s_aload_n dX10_cuts_326 rfl rfl ?_
              refine s_getR dX10_cuts_327 flX10_50 rn0 rk0 rfl rr0_18 ?_
              refine s_iconst dX10_cuts_330 (by decide) ?_
              refine s_iload dX10_cuts_331 rfl ?_
              refine s_iload_n dX10_cuts_333 rfl rfl ?_
              have kj19 : ∀ (v6 : Int), (∀ m7 : am_M, m7 = am_st m5 14 (am_up (m5 14) 1 v6) → ((x1 ≤ rg μ x6 1 → (am_in (x2 - (rg μ x6 1))))) ∧ (∀ v8 : Int, v8 = (if rg μ x6 1 < x1 then 0 else x2 - (rg μ x6 1)) → (am_in (m3 14 3 + v8)) ∧ (∀ m9 : am_M, m9 = am_st m7 14 (am_up (m7 14) 3 (m3 14 3 + v8)) → ∀ v10 : Int, v10 = (if rg μ x6 1 < x1 then m3 14 6 else 0) → ∀ m11 : am_M, m11 = am_st m9 14 (am_up (m9 14) 6 v10) → ∀ v12 : Int, v12 = (if rg μ x6 1 < x1 then 0 else m3 14 7) → ∀ m13 : am_M, m13 = am_st m11 14 (am_up (m11 14) 7 v12) → ∃ P : am_M → Prop, cl_V kR 1 mX10_shortens [vR 0] m13 P ∧ (∀ m15 : am_M, P m15 → at_I kR 5 mX10_cuts 417 [vR 0, vI x1, vI x2, vU, vI x4, vI x5, vI x6, vI (rg μ x6 1), vI (rg μ x6 1 + (rg μ x6 4)), vI v1, vI (m3 14 7), vI 0] [] m15 Q)))) → at_I kR 5 mX10_cuts 343 [vR 0, vI x1, vI x2, vU, vI x4, vI x5, vI x6, vI (rg μ x6 1), vI (rg μ x6 1 + (rg μ x6 4)), vI v1, vI (m3 14 7), vU] [vI v6, vI 1, vR 14] m5 Q := by
                intro v6 h
                obtain ⟨m7, hm7⟩ : ∃ x : am_M, x = am_st m5 14 (am_up (m5 14) 1 v6) := ⟨_, rfl⟩
                have h := h m7 hm7
                refine s_iast dX10_cuts_343 rn14 rk14 rl14 (by decide) (by decide) hm7.symm ?_
                refine s_aload_n dX10_cuts_344 rfl rfl ?_
                refine s_getR dX10_cuts_345 flX10_50 rn0 rk0 rfl rr0_18 ?_
                refine s_iconst dX10_cuts_348 (by decide) ?_
                refine s_dup2 dX10_cuts_349 ?_
                refine s_iald (x := (m3 14 3)) dX10_cuts_350 rn14 rk14 rl14 (by decide) (by decide) (by subst hm7; subst hm5; rfl) ?_
                refine s_iload dX10_cuts_351 rfl ?_
                refine s_iload_n dX10_cuts_353 rfl rfl ?_
                obtain ⟨hsd, h⟩ := h
                have kj18 : ∀ (v8 : Int), ((am_in (m3 14 3 + v8)) ∧ (∀ m9 : am_M, m9 = am_st m7 14 (am_up (m7 14) 3 (m3 14 3 + v8)) → ∀ v10 : Int, v10 = (if rg μ x6 1 < x1 then m3 14 6 else 0) → ∀ m11 : am_M, m11 = am_st m9 14 (am_up (m9 14) 6 v10) → ∀ v12 : Int, v12 = (if rg μ x6 1 < x1 then 0 else m3 14 7) → ∀ m13 : am_M, m13 = am_st m11 14 (am_up (m11 14) 7 v12) → ∃ P : am_M → Prop, cl_V kR 1 mX10_shortens [vR 0] m13 P ∧ (∀ m15 : am_M, P m15 → at_I kR 5 mX10_cuts 417 [vR 0, vI x1, vI x2, vU, vI x4, vI x5, vI x6, vI (rg μ x6 1), vI (rg μ x6 1 + (rg μ x6 4)), vI v1, vI (m3 14 7), vI 0] [] m15 Q))) → at_I kR 5 mX10_cuts 365 [vR 0, vI x1, vI x2, vU, vI x4, vI x5, vI x6, vI (rg μ x6 1), vI (rg μ x6 1 + (rg μ x6 4)), vI v1, vI (m3 14 7), vU] [vI v8, vI (m3 14 3), vI 3, vR 14] m7 Q := by
                  intro v8 h
                  obtain ⟨c, h⟩ := h
                  refine s_iadd dX10_cuts_365 (am_w_id c) ?_
                  obtain ⟨m9, hm9⟩ : ∃ x : am_M, x = am_st m7 14 (am_up (m7 14) 3 (m3 14 3 + v8)) := ⟨_, rfl⟩
                  have h := h m9 hm9
                  refine s_iast dX10_cuts_366 rn14 rk14 rl14 (by decide) (by decide) hm9.symm ?_
                  refine s_aload_n dX10_cuts_367 rfl rfl ?_
                  refine s_getR dX10_cuts_368 flX10_50 rn0 rk0 rfl rr0_18 ?_
                  refine s_bipush dX10_cuts_371 (by decide) ?_
                  refine s_iload dX10_cuts_373 rfl ?_
                  refine s_iload_n dX10_cuts_375 rfl rfl ?_
                  have kj17 : ∀ (v10 : Int), (∀ m11 : am_M, m11 = am_st m9 14 (am_up (m9 14) 6 v10) → ∀ v12 : Int, v12 = (if rg μ x6 1 < x1 then 0 else m3 14 7) → ∀ m13 : am_M, m13 = am_st m11 14 (am_up (m11 14) 7 v12) → ∃ P : am_M → Prop, cl_V kR 1 mX10_shortens [vR 0] m13 P ∧ (∀ m15 : am_M, P m15 → at_I kR 5 mX10_cuts 417 [vR 0, vI x1, vI x2, vU, vI x4, vI x5, vI x6, vI (rg μ x6 1), vI (rg μ x6 1 + (rg μ x6 4)), vI v1, vI (m3 14 7), vI 0] [] m15 Q)) → at_I kR 5 mX10_cuts 390 [vR 0, vI x1, vI x2, vU, vI x4, vI x5, vI x6, vI (rg μ x6 1), vI (rg μ x6 1 + (rg μ x6 4)), vI v1, vI (m3 14 7), vU] [vI v10, vI 6, vR 14] m9 Q := by
                    intro v10 h
                    obtain ⟨m11, hm11⟩ : ∃ x : am_M, x = am_st m9 14 (am_up (m9 14) 6 v10) := ⟨_, rfl⟩
                    have h := h m11 hm11
                    refine s_iast dX10_cuts_390 rn14 rk14 rl14 (by decide) (by decide) hm11.symm ?_
                    refine s_aload_n dX10_cuts_391 rfl rfl ?_
                    refine s_getR dX10_cuts_392 flX10_50 rn0 rk0 rfl rr0_18 ?_
                    refine s_bipush dX10_cuts_395 (by decide) ?_
                    refine s_iload dX10_cuts_397 rfl ?_
                    refine s_iload_n dX10_cuts_399 rfl rfl ?_
                    have kj16 : ∀ (v12 : Int), (∀ m13 : am_M, m13 = am_st m11 14 (am_up (m11 14) 7 v12) → ∃ P : am_M → Prop, cl_V kR 1 mX10_shortens [vR 0] m13 P ∧ (∀ m15 : am_M, P m15 → at_I kR 5 mX10_cuts 417 [vR 0, vI x1, vI x2, vU, vI x4, vI x5, vI x6, vI (rg μ x6 1), vI (rg μ x6 1 + (rg μ x6 4)), vI v1, vI (m3 14 7), vI 0] [] m15 Q)) → at_I kR 5 mX10_cuts 409 [vR 0, vI x1, vI x2, vU, vI x4, vI x5, vI x6, vI (rg μ x6 1), vI (rg μ x6 1 + (rg μ x6 4)), vI v1, vI (m3 14 7), vU] [vI v12, vI 7, vR 14] m11 Q := by
                      intro v12 h
                      obtain ⟨m13, hm13⟩ : ∃ x : am_M, x = am_st m11 14 (am_up (m11 14) 7 v12) := ⟨_, rfl⟩
                      have h := h m13 hm13
                      refine s_iast dX10_cuts_409 rn14 rk14 rl14 (by decide) (by decide) hm13.symm ?_
                      refine s_aload_n dX10_cuts_410 rfl rfl ?_
                      obtain ⟨P, hcl, h⟩ := h
                      refine s_callV (As := []) (rest := []) (k := 0) dX10_cuts_411 lkX10_181 rn0 ⟨by rw [rk0]; rfl, by rw [rk0]; decide⟩ lmX10_shortens rfl rfl (Nat.le_of_ble_eq_true rfl) (by decide) (Nat.le_refl 0) (Nat.le_refl 0) (hC := hcl) (fun r n2 S2 m15 hP => ?_)
                      obtain ⟨⟨rfl, rfl⟩, rfl, hq⟩ := hP
                      have h := h m15 hq
                      refine s_iconst dX10_cuts_414 (by decide) ?_
                      refine s_istore dX10_cuts_415 (by decide) (L' := [vR 0, vI x1, vI x2, vU, vI x4, vI x5, vI x6, vI (rg μ x6 1), vI (rg μ x6 1 + (rg μ x6 4)), vI v1, vI (m3 14 7), vI 0]) rfl ?_
                      exact h
                    refine s_icmp_ge dX10_cuts_400 (tgt := 407) (by decide) (fun cc => ?_) (fun cc => ?_)
                    · have hp0 := cc
                      refine s_iload dX10_cuts_407 rfl ?_
                      exact kj16 (m3 14 7) (h (m3 14 7) (by rw [if_neg (Int.not_lt.mpr hp0)]))
                    · have hp0 := cc
                      refine s_iconst dX10_cuts_403 (by decide) ?_
                      refine s_goto dX10_cuts_404 (tgt := 409) (by decide) ?_
                      exact kj16 0 (h 0 (by rw [if_pos hp0]))
                  refine s_icmp_ge dX10_cuts_376 (tgt := 389) (by decide) (fun cc => ?_) (fun cc => ?_)
                  · have hp0 := cc
                    refine s_iconst dX10_cuts_389 (by decide) ?_
                    exact kj17 0 (h 0 (by rw [if_neg (Int.not_lt.mpr hp0)]))
                  · have hp0 := cc
                    refine s_aload_n dX10_cuts_379 rfl rfl ?_
                    refine s_getR dX10_cuts_380 flX10_50 rn0 rk0 rfl rr0_18 ?_
                    refine s_bipush dX10_cuts_383 (by decide) ?_
                    refine s_iald (x := (m3 14 6)) dX10_cuts_385 rn14 rk14 rl14 (by decide) (by decide) (by subst hm9; subst hm7; subst hm5; rfl) ?_
                    refine s_goto dX10_cuts_386 (tgt := 390) (by decide) ?_
                    exact kj17 (m3 14 6) (h (m3 14 6) (by rw [if_pos hp0]))
                refine s_icmp_ge dX10_cuts_354 (tgt := 361) (by decide) (fun cc => ?_) (fun cc => ?_)
                · have hp0 := cc
                  have hsd := hsd hp0
                  refine s_iload_n dX10_cuts_361 rfl rfl ?_
                  refine s_iload dX10_cuts_362 rfl ?_
                  have c := hsd
                  refine s_isub dX10_cuts_364 (am_w_id c) ?_
                  exact kj18 (x2 - (rg μ x6 1)) (h (x2 - (rg μ x6 1)) (by rw [if_neg (Int.not_lt.mpr hp0)]))
                · have hp0 := cc
                  refine s_iconst dX10_cuts_357 (by decide) ?_
                  refine s_goto dX10_cuts_358 (tgt := 365) (by decide) ?_
                  exact kj18 0 (h 0 (by rw [if_pos hp0]))
              refine s_icmp_ge dX10_cuts_334 (tgt := 342) (by decide) (fun cc => ?_) (fun cc => ?_)
              · have hp0 := cc
                refine s_iload_n dX10_cuts_342 rfl rfl ?_
                exact kj19 x1 (h x1 (by rw [if_neg (Int.not_lt.mpr hp0)]))
              · have hp0 := cc
                refine s_iload dX10_cuts_337 rfl ?_
                refine s_goto dX10_cuts_339 (tgt := 343) (by decide) ?_
                exact kj19 (rg μ x6 1) (h (rg μ x6 1) (by rw [if_pos hp0]))
            refine s_icmp_ge dX10_cuts_311 (tgt := 321) (by decide) (fun cc => ?_) (fun cc => ?_)
            · have hp0 := cc
              have hsd := hsd.1 hp0
              refine s_iload dX10_cuts_321 rfl ?_
              refine s_iload_n dX10_cuts_323 rfl rfl ?_
              have c := hsd
              refine s_isub dX10_cuts_324 (am_w_id c) ?_
              exact kj20 ((rg μ x6 1 + (rg μ x6 4)) - x2) (h ((rg μ x6 1 + (rg μ x6 4)) - x2) (by rw [if_neg (Int.not_lt.mpr hp0)]))
            · have hp0 := cc
              have hsd := hsd.2 hp0
              refine s_iload_n dX10_cuts_314 rfl rfl ?_
              refine s_iload dX10_cuts_315 rfl ?_
              have c := hsd
              refine s_isub dX10_cuts_317 (am_w_id c) ?_
              refine s_goto dX10_cuts_318 (tgt := 325) (by decide) ?_
              exact kj20 (x1 - (rg μ x6 1)) (h (x1 - (rg μ x6 1)) (by rw [if_pos hp0]))
          refine s_icmp_ge dX10_cuts_272 (tgt := 285) (by decide) (fun cc => ?_) (fun cc => ?_)
          · have hp0 := cc
            refine s_iconst dX10_cuts_285 (by decide) ?_
            exact kj21 0 (h 0 (by rw [if_neg (Int.not_lt.mpr hp0)]))
          · have hp0 := cc
            refine s_iload dX10_cuts_275 rfl ?_
            refine s_iload_n dX10_cuts_277 rfl rfl ?_
            refine s_icmp_le dX10_cuts_278 (tgt := 285) (by decide) (fun cc => ?_) (fun cc => ?_)
            · have hp1 := cc
              refine s_iconst dX10_cuts_285 (by decide) ?_
              exact kj21 0 (h 0 (by rw [if_pos hp0, if_neg (Int.not_lt.mpr hp1)]))
            · have hp1 := cc
              refine s_iconst dX10_cuts_281 (by decide) ?_
              refine s_goto dX10_cuts_282 (tgt := 286) (by decide) ?_
              exact kj21 1 (h 1 (by rw [if_pos hp0, if_pos hp1]))
        · have h := h.2 cc
          refine s_aload_n dX10_cuts_246 rfl rfl ?_
          refine s_getR dX10_cuts_247 flX10_9 rn0 rk0 rfl rr0_0 ?_
          refine s_bipush dX10_cuts_250 (by decide) ?_
          refine s_bipush dX10_cuts_252 (by decide) ?_
          refine s_iload dX10_cuts_254 rfl ?_
          obtain ⟨c, h⟩ := h
          refine s_imul dX10_cuts_256 (am_w_id c) ?_
          obtain ⟨c, h⟩ := h
          refine s_iadd dX10_cuts_257 (am_w_id c) ?_
          refine s_iconst dX10_cuts_258 (by decide) ?_
          obtain ⟨c, h⟩ := h
          refine s_iadd dX10_cuts_259 (am_w_id c) ?_
          refine s_dup2 dX10_cuts_260 ?_
          obtain ⟨c, c2, h⟩ := h
          refine s_iald (x := (μ 1 (((26 + (8 * x6)) + 1).toNat))) dX10_cuts_261 rn1 rk1 rl1 c c2 rfl ?_
          refine s_iload dX10_cuts_262 rfl ?_
          obtain ⟨c, h⟩ := h
          refine s_isub dX10_cuts_264 (am_w_id c) ?_
          obtain ⟨c, c2, h⟩ := h
          obtain ⟨m22, hm22⟩ : ∃ x : am_M, x = am_st μ 1 (am_up (μ 1) ((26 + (8 * x6)) + 1).toNat ((μ 1 (((26 + (8 * x6)) + 1).toNat)) - x5)) := ⟨_, rfl⟩
          have h := h m22 hm22
          refine s_iast dX10_cuts_265 rn1 rk1 rl1 c c2 hm22.symm ?_
          refine s_goto dX10_cuts_266 (tgt := 518) (by decide) ?_
          obtain ⟨c, h⟩ := h
          refine s_iinc dX10_cuts_518 rfl (am_w_id c) (by decide) (L' := [vR 0, vI x1, vI x2, vU, vI x4, vI x5, vI (x6 - 1), vI (rg μ x6 1), vI (rg μ x6 1 + (rg μ x6 4)), vU, vU, vU]) rfl ?_
          refine s_goto dX10_cuts_521 (tgt := 184) (by decide) ?_
          exact am_lesS h ⟨Or.inr rfl, Or.inr rfl, Or.inr rfl, Or.inl rfl, Or.inr rfl, Or.inr rfl, Or.inr rfl, Or.inl rfl, Or.inl rfl, Or.inl rfl, Or.inl rfl, Or.inl rfl, trivial⟩
      · have h := h.2 cc
        refine s_iload dX10_cuts_225 rfl ?_
        refine s_iload_n dX10_cuts_227 rfl rfl ?_
        refine s_icmp_gt dX10_cuts_228 (tgt := 240) (by decide) (fun cc => ?_) (fun cc => ?_)
        · have h := h.1 cc
          refine s_iload dX10_cuts_240 rfl ?_
          refine s_iload_n dX10_cuts_242 rfl rfl ?_
          refine s_icmp_lt dX10_cuts_243 (tgt := 269) (by decide) (fun cc => ?_) (fun cc => ?_)
          · have h := h.1 cc
            refine s_iload dX10_cuts_269 rfl ?_
            refine s_iload_n dX10_cuts_271 rfl rfl ?_
            have kj43 : ∀ (v23 : Int), (∃ P : am_M → Prop, cl_V kR 2 mX10_takes [vR 0, vI x6] μ P ∧ (∀ m25 : am_M, P m25 → ((x1 ≤ rg μ x6 1 → (am_in ((rg μ x6 1 + (rg μ x6 4)) - x2))) ∧ (rg μ x6 1 < x1 → (am_in (x1 - (rg μ x6 1))))) ∧ (∀ v26 : Int, v26 = (if rg μ x6 1 < x1 then x1 - (rg μ x6 1) else (rg μ x6 1 + (rg μ x6 4)) - x2) → ∀ m27 : am_M, m27 = am_st m25 14 (am_up (m25 14) 4 v26) → ∀ v28 : Int, v28 = (if rg μ x6 1 < x1 then rg μ x6 1 else x1) → ∀ m29 : am_M, m29 = am_st m27 14 (am_up (m27 14) 1 v28) → ((x1 ≤ rg μ x6 1 → (am_in (x2 - (rg μ x6 1))))) ∧ (∀ v30 : Int, v30 = (if rg μ x6 1 < x1 then 0 else x2 - (rg μ x6 1)) → (am_in (m25 14 3 + v30)) ∧ (∀ m31 : am_M, m31 = am_st m29 14 (am_up (m29 14) 3 (m25 14 3 + v30)) → ∀ v32 : Int, v32 = (if rg μ x6 1 < x1 then m25 14 6 else 0) → ∀ m33 : am_M, m33 = am_st m31 14 (am_up (m31 14) 6 v32) → ∀ v34 : Int, v34 = (if rg μ x6 1 < x1 then 0 else m25 14 7) → ∀ m35 : am_M, m35 = am_st m33 14 (am_up (m33 14) 7 v34) → ∃ P : am_M → Prop, cl_V kR 1 mX10_shortens [vR 0] m35 P ∧ (∀ m37 : am_M, P m37 → at_I kR 5 mX10_cuts 417 [vR 0, vI x1, vI x2, vU, vI x4, vI x5, vI x6, vI (rg μ x6 1), vI (rg μ x6 1 + (rg μ x6 4)), vI v23, vI (m25 14 7), vI 0] [] m37 Q)))))) → at_I kR 5 mX10_cuts 286 [vR 0, vI x1, vI x2, vU, vI x4, vI x5, vI x6, vI (rg μ x6 1), vI (rg μ x6 1 + (rg μ x6 4)), vU, vU, vU] [vI v23] μ Q := by
              intro v23 h
              refine s_istore dX10_cuts_286 (by decide) (L' := [vR 0, vI x1, vI x2, vU, vI x4, vI x5, vI x6, vI (rg μ x6 1), vI (rg μ x6 1 + (rg μ x6 4)), vI v23, vU, vU]) rfl ?_
              refine s_aload_n dX10_cuts_288 rfl rfl ?_
              refine s_iload dX10_cuts_289 rfl ?_
              obtain ⟨P, hcl, h⟩ := h
              refine s_callV (As := [vI x6]) (rest := []) (k := 0) dX10_cuts_291 lkX10_168 rn0 ⟨by rw [rk0]; rfl, by rw [rk0]; decide⟩ lmX10_takes rfl rfl (Nat.le_of_ble_eq_true rfl) (by decide) (Nat.le_refl 0) (Nat.le_refl 0) (hC := hcl) (fun r n2 S2 m25 hP => ?_)
              obtain ⟨⟨rfl, rfl⟩, rfl, hq⟩ := hP
              have h := h m25 hq
              refine s_aload_n dX10_cuts_294 rfl rfl ?_
              refine s_getR dX10_cuts_295 flX10_50 rn0 rk0 rfl rr0_18 ?_
              refine s_bipush dX10_cuts_298 (by decide) ?_
              refine s_iald (x := (m25 14 7)) dX10_cuts_300 rn14 rk14 rl14 (by decide) (by decide) rfl ?_
              refine s_istore dX10_cuts_301 (by decide) (L' := [vR 0, vI x1, vI x2, vU, vI x4, vI x5, vI x6, vI (rg μ x6 1), vI (rg μ x6 1 + (rg μ x6 4)), vI v23, vI (m25 14 7), vU]) rfl ?_
              refine s_aload_n dX10_cuts_303 rfl rfl ?_
              refine s_getR dX10_cuts_304 flX10_50 rn0 rk0 rfl rr0_18 ?_
              refine s_iconst dX10_cuts_307 (by decide) ?_
              refine s_iload dX10_cuts_308 rfl ?_
              refine s_iload_n dX10_cuts_310 rfl rfl ?_
              obtain ⟨hsd, h⟩ := h
              have kj42 : ∀ (v26 : Int), (∀ m27 : am_M, m27 = am_st m25 14 (am_up (m25 14) 4 v26) → ∀ v28 : Int, v28 = (if rg μ x6 1 < x1 then rg μ x6 1 else x1) → ∀ m29 : am_M, m29 = am_st m27 14 (am_up (m27 14) 1 v28) → ((x1 ≤ rg μ x6 1 → (am_in (x2 - (rg μ x6 1))))) ∧ (∀ v30 : Int, v30 = (if rg μ x6 1 < x1 then 0 else x2 - (rg μ x6 1)) → (am_in (m25 14 3 + v30)) ∧ (∀ m31 : am_M, m31 = am_st m29 14 (am_up (m29 14) 3 (m25 14 3 + v30)) → ∀ v32 : Int, v32 = (if rg μ x6 1 < x1 then m25 14 6 else 0) → ∀ m33 : am_M, m33 = am_st m31 14 (am_up (m31 14) 6 v32) → ∀ v34 : Int, v34 = (if rg μ x6 1 < x1 then 0 else m25 14 7) → ∀ m35 : am_M, m35 = am_st m33 14 (am_up (m33 14) 7 v34) → ∃ P : am_M → Prop, cl_V kR 1 mX10_shortens [vR 0] m35 P ∧ (∀ m37 : am_M, P m37 → at_I kR 5 mX10_cuts 417 [vR 0, vI x1, vI x2, vU, vI x4, vI x5, vI x6, vI (rg μ x6 1), vI (rg μ x6 1 + (rg μ x6 4)), vI v23, vI (m25 14 7), vI 0] [] m37 Q)))) → at_I kR 5 mX10_cuts 325 [vR 0, vI x1, vI x2, vU, vI x4, vI x5, vI x6, vI (rg μ x6 1), vI (rg μ x6 1 + (rg μ x6 4)), vI v23, vI (m25 14 7), vU] [vI v26, vI 4, vR 14] m25 Q := by
                intro v26 h
                obtain ⟨m27, hm27⟩ : ∃ x : am_M, x = am_st m25 14 (am_up (m25 14) 4 v26) := ⟨_, rfl⟩
                have h := h m27 hm27
                refine s_iast dX10_cuts_325 rn14 rk14 rl14 (by decide) (by decide) hm27.symm ?_
                refine s_aload_n dX10_cuts_326 rfl rfl ?_
                refine s_getR dX10_cuts_327 flX10_50 rn0 rk0 rfl rr0_18 ?_
                refine s_iconst dX10_cuts_330 (by decide) ?_
                refine s_iload dX10_cuts_331 rfl ?_
                refine s_iload_n dX10_cuts_333 rfl rfl ?_
                have kj41 : ∀ (v28 : Int), (∀ m29 : am_M, m29 = am_st m27 14 (am_up (m27 14) 1 v28) → ((x1 ≤ rg μ x6 1 → (am_in (x2 - (rg μ x6 1))))) ∧ (∀ v30 : Int, v30 = (if rg μ x6 1 < x1 then 0 else x2 - (rg μ x6 1)) → (am_in (m25 14 3 + v30)) ∧ (∀ m31 : am_M, m31 = am_st m29 14 (am_up (m29 14) 3 (m25 14 3 + v30)) → ∀ v32 : Int, v32 = (if rg μ x6 1 < x1 then m25 14 6 else 0) → ∀ m33 : am_M, m33 = am_st m31 14 (am_up (m31 14) 6 v32) → ∀ v34 : Int, v34 = (if rg μ x6 1 < x1 then 0 else m25 14 7) → ∀ m35 : am_M, m35 = am_st m33 14 (am_up (m33 14) 7 v34) → ∃ P : am_M → Prop, cl_V kR 1 mX10_shortens [vR 0] m35 P ∧ (∀ m37 : am_M, P m37 → at_I kR 5 mX10_cuts 417 [vR 0, vI x1, vI x2, vU, vI x4, vI x5, vI x6, vI (rg μ x6 1), vI (rg μ x6 1 + (rg μ x6 4)), vI v23, vI (m25 14 7), vI 0] [] m37 Q)))) → at_I kR 5 mX10_cuts 343 [vR 0, vI x1, vI x2, vU, vI x4, vI x5, vI x6, vI (rg μ x6 1), vI (rg μ x6 1 + (rg μ x6 4)), vI v23, vI (m25 14 7), vU] [vI v28, vI 1, vR 14] m27 Q := by
                  intro v28 h
                  obtain ⟨m29, hm29⟩ : ∃ x : am_M, x = am_st m27 14 (am_up (m27 14) 1 v28) := ⟨_, rfl⟩
                  have h := h m29 hm29
                  refine s_iast dX10_cuts_343 rn14 rk14 rl14 (by decide) (by decide) hm29.symm ?_
                  refine s_aload_n dX10_cuts_344 rfl rfl ?_
                  refine s_getR dX10_cuts_345 flX10_50 rn0 rk0 rfl rr0_18 ?_
                  refine s_iconst dX10_cuts_348 (by decide) ?_
                  refine s_dup2 dX10_cuts_349 ?_
                  refine s_iald (x := (m25 14 3)) dX10_cuts_350 rn14 rk14 rl14 (by decide) (by decide) (by subst hm29; subst hm27; rfl) ?_
                  refine s_iload dX10_cuts_351 rfl ?_
                  refine s_iload_n dX10_cuts_353 rfl rfl ?_
                  obtain ⟨hsd, h⟩ := h
                  have kj40 : ∀ (v30 : Int), ((am_in (m25 14 3 + v30)) ∧ (∀ m31 : am_M, m31 = am_st m29 14 (am_up (m29 14) 3 (m25 14 3 + v30)) → ∀ v32 : Int, v32 = (if rg μ x6 1 < x1 then m25 14 6 else 0) → ∀ m33 : am_M, m33 = am_st m31 14 (am_up (m31 14) 6 v32) → ∀ v34 : Int, v34 = (if rg μ x6 1 < x1 then 0 else m25 14 7) → ∀ m35 : am_M, m35 = am_st m33 14 (am_up (m33 14) 7 v34) → ∃ P : am_M → Prop, cl_V kR 1 mX10_shortens [vR 0] m35 P ∧ (∀ m37 : am_M, P m37 → at_I kR 5 mX10_cuts 417 [vR 0, vI x1, vI x2, vU, vI x4, vI x5, vI x6, vI (rg μ x6 1), vI (rg μ x6 1 + (rg μ x6 4)), vI v23, vI (m25 14 7), vI 0] [] m37 Q))) → at_I kR 5 mX10_cuts 365 [vR 0, vI x1, vI x2, vU, vI x4, vI x5, vI x6, vI (rg μ x6 1), vI (rg μ x6 1 + (rg μ x6 4)), vI v23, vI (m25 14 7), vU] [vI v30, vI (m25 14 3), vI 3, vR 14] m29 Q := by
                    intro v30 h
                    obtain ⟨c, h⟩ := h
                    refine s_iadd dX10_cuts_365 (am_w_id c) ?_
                    obtain ⟨m31, hm31⟩ : ∃ x : am_M, x = am_st m29 14 (am_up (m29 14) 3 (m25 14 3 + v30)) := ⟨_, rfl⟩
                    have h := h m31 hm31
                    refine s_iast dX10_cuts_366 rn14 rk14 rl14 (by decide) (by decide) hm31.symm ?_
                    refine s_aload_n dX10_cuts_367 rfl rfl ?_
                    refine s_getR dX10_cuts_368 flX10_50 rn0 rk0 rfl rr0_18 ?_
                    refine s_bipush dX10_cuts_371 (by decide) ?_
                    refine s_iload dX10_cuts_373 rfl ?_
                    refine s_iload_n dX10_cuts_375 rfl rfl ?_
                    have kj39 : ∀ (v32 : Int), (∀ m33 : am_M, m33 = am_st m31 14 (am_up (m31 14) 6 v32) → ∀ v34 : Int, v34 = (if rg μ x6 1 < x1 then 0 else m25 14 7) → ∀ m35 : am_M, m35 = am_st m33 14 (am_up (m33 14) 7 v34) → ∃ P : am_M → Prop, cl_V kR 1 mX10_shortens [vR 0] m35 P ∧ (∀ m37 : am_M, P m37 → at_I kR 5 mX10_cuts 417 [vR 0, vI x1, vI x2, vU, vI x4, vI x5, vI x6, vI (rg μ x6 1), vI (rg μ x6 1 + (rg μ x6 4)), vI v23, vI (m25 14 7), vI 0] [] m37 Q)) → at_I kR 5 mX10_cuts 390 [vR 0, vI x1, vI x2, vU, vI x4, vI x5, vI x6, vI (rg μ x6 1), vI (rg μ x6 1 + (rg μ x6 4)), vI v23, vI (m25 14 7), vU] [vI v32, vI 6, vR 14] m31 Q := by
                      intro v32 h
                      obtain ⟨m33, hm33⟩ : ∃ x : am_M, x = am_st m31 14 (am_up (m31 14) 6 v32) := ⟨_, rfl⟩
                      have h := h m33 hm33
                      refine s_iast dX10_cuts_390 rn14 rk14 rl14 (by decide) (by decide) hm33.symm ?_
                      refine s_aload_n dX10_cuts_391 rfl rfl ?_
                      refine s_getR dX10_cuts_392 flX10_50 rn0 rk0 rfl rr0_18 ?_
                      refine s_bipush dX10_cuts_395 (by decide) ?_
                      refine s_iload dX10_cuts_397 rfl ?_
                      refine s_iload_n dX10_cuts_399 rfl rfl ?_
                      have kj38 : ∀ (v34 : Int), (∀ m35 : am_M, m35 = am_st m33 14 (am_up (m33 14) 7 v34) → ∃ P : am_M → Prop, cl_V kR 1 mX10_shortens [vR 0] m35 P ∧ (∀ m37 : am_M, P m37 → at_I kR 5 mX10_cuts 417 [vR 0, vI x1, vI x2, vU, vI x4, vI x5, vI x6, vI (rg μ x6 1), vI (rg μ x6 1 + (rg μ x6 4)), vI v23, vI (m25 14 7), vI 0] [] m37 Q)) → at_I kR 5 mX10_cuts 409 [vR 0, vI x1, vI x2, vU, vI x4, vI x5, vI x6, vI (rg μ x6 1), vI (rg μ x6 1 + (rg μ x6 4)), vI v23, vI (m25 14 7), vU] [vI v34, vI 7, vR 14] m33 Q := by
                        intro v34 h
                        obtain ⟨m35, hm35⟩ : ∃ x : am_M, x = am_st m33 14 (am_up (m33 14) 7 v34) := ⟨_, rfl⟩
                        have h := h m35 hm35
                        refine s_iast dX10_cuts_409 rn14 rk14 rl14 (by decide) (by decide) hm35.symm ?_
                        refine s_aload_n dX10_cuts_410 rfl rfl ?_
                        obtain ⟨P, hcl, h⟩ := h
                        refine s_callV (As := []) (rest := []) (k := 0) dX10_cuts_411 lkX10_181 rn0 ⟨by rw [rk0]; rfl, by rw [rk0]; decide⟩ lmX10_shortens rfl rfl (Nat.le_of_ble_eq_true rfl) (by decide) (Nat.le_refl 0) (Nat.le_refl 0) (hC := hcl) (fun r n2 S2 m37 hP => ?_)
                        obtain ⟨⟨rfl, rfl⟩, rfl, hq⟩ := hP
                        have h := h m37 hq
                        refine s_iconst dX10_cuts_414 (by decide) ?_
                        refine s_istore dX10_cuts_415 (by decide) (L' := [vR 0, vI x1, vI x2, vU, vI x4, vI x5, vI x6, vI (rg μ x6 1), vI (rg μ x6 1 + (rg μ x6 4)), vI v23, vI (m25 14 7), vI 0]) rfl ?_
                        exact h
                      refine s_icmp_ge dX10_cuts_400 (tgt := 407) (by decide) (fun cc => ?_) (fun cc => ?_)
                      · have hp0 := cc
                        refine s_iload dX10_cuts_407 rfl ?_
                        exact kj38 (m25 14 7) (h (m25 14 7) (by rw [if_neg (Int.not_lt.mpr hp0)]))
                      · have hp0 := cc
                        refine s_iconst dX10_cuts_403 (by decide) ?_
                        refine s_goto dX10_cuts_404 (tgt := 409) (by decide) ?_
                        exact kj38 0 (h 0 (by rw [if_pos hp0]))
                    refine s_icmp_ge dX10_cuts_376 (tgt := 389) (by decide) (fun cc => ?_) (fun cc => ?_)
                    · have hp0 := cc
                      refine s_iconst dX10_cuts_389 (by decide) ?_
                      exact kj39 0 (h 0 (by rw [if_neg (Int.not_lt.mpr hp0)]))
                    · have hp0 := cc
                      refine s_aload_n dX10_cuts_379 rfl rfl ?_
                      refine s_getR dX10_cuts_380 flX10_50 rn0 rk0 rfl rr0_18 ?_
                      refine s_bipush dX10_cuts_383 (by decide) ?_
                      refine s_iald (x := (m25 14 6)) dX10_cuts_385 rn14 rk14 rl14 (by decide) (by decide) (by subst hm31; subst hm29; subst hm27; rfl) ?_
                      refine s_goto dX10_cuts_386 (tgt := 390) (by decide) ?_
                      exact kj39 (m25 14 6) (h (m25 14 6) (by rw [if_pos hp0]))
                  refine s_icmp_ge dX10_cuts_354 (tgt := 361) (by decide) (fun cc => ?_) (fun cc => ?_)
                  · have hp0 := cc
                    have hsd := hsd hp0
                    refine s_iload_n dX10_cuts_361 rfl rfl ?_
                    refine s_iload dX10_cuts_362 rfl ?_
                    have c := hsd
                    refine s_isub dX10_cuts_364 (am_w_id c) ?_
                    exact kj40 (x2 - (rg μ x6 1)) (h (x2 - (rg μ x6 1)) (by rw [if_neg (Int.not_lt.mpr hp0)]))
                  · have hp0 := cc
                    refine s_iconst dX10_cuts_357 (by decide) ?_
                    refine s_goto dX10_cuts_358 (tgt := 365) (by decide) ?_
                    exact kj40 0 (h 0 (by rw [if_pos hp0]))
                refine s_icmp_ge dX10_cuts_334 (tgt := 342) (by decide) (fun cc => ?_) (fun cc => ?_)
                · have hp0 := cc
                  refine s_iload_n dX10_cuts_342 rfl rfl ?_
                  exact kj41 x1 (h x1 (by rw [if_neg (Int.not_lt.mpr hp0)]))
                · have hp0 := cc
                  refine s_iload dX10_cuts_337 rfl ?_
                  refine s_goto dX10_cuts_339 (tgt := 343) (by decide) ?_
                  exact kj41 (rg μ x6 1) (h (rg μ x6 1) (by rw [if_pos hp0]))
              refine s_icmp_ge dX10_cuts_311 (tgt := 321) (by decide) (fun cc => ?_) (fun cc => ?_)
              · have hp0 := cc
                have hsd := hsd.1 hp0
                refine s_iload dX10_cuts_321 rfl ?_
                refine s_iload_n dX10_cuts_323 rfl rfl ?_
                have c := hsd
                refine s_isub dX10_cuts_324 (am_w_id c) ?_
                exact kj42 ((rg μ x6 1 + (rg μ x6 4)) - x2) (h ((rg μ x6 1 + (rg μ x6 4)) - x2) (by rw [if_neg (Int.not_lt.mpr hp0)]))
              · have hp0 := cc
                have hsd := hsd.2 hp0
                refine s_iload_n dX10_cuts_314 rfl rfl ?_
                refine s_iload dX10_cuts_315 rfl ?_
                have c := hsd
                refine s_isub dX10_cuts_317 (am_w_id c) ?_
                refine s_goto dX10_cuts_318 (tgt := 325) (by decide) ?_
                exact kj42 (x1 - (rg μ x6 1)) (h (x1 - (rg μ x6 1)) (by rw [if_pos hp0]))
            refine s_icmp_ge dX10_cuts_272 (tgt := 285) (by decide) (fun cc => ?_) (fun cc => ?_)
            · have hp0 := cc
              refine s_iconst dX10_cuts_285 (by decide) ?_
              exact kj43 0 (h 0 (by rw [if_neg (Int.not_lt.mpr hp0)]))
            · have hp0 := cc
              refine s_iload dX10_cuts_275 rfl ?_
              refine s_iload_n dX10_cuts_277 rfl rfl ?_
              refine s_icmp_le dX10_cuts_278 (tgt := 285) (by decide) (fun cc => ?_) (fun cc => ?_)
              · have hp1 := cc
                refine s_iconst dX10_cuts_285 (by decide) ?_
                exact kj43 0 (h 0 (by rw [if_pos hp0, if_neg (Int.not_lt.mpr hp1)]))
              · have hp1 := cc
                refine s_iconst dX10_cuts_281 (by decide) ?_
                refine s_goto dX10_cuts_282 (tgt := 286) (by decide) ?_
                exact kj43 1 (h 1 (by rw [if_pos hp0, if_pos hp1]))
          · have h := h.2 cc
            refine s_aload_n dX10_cuts_246 rfl rfl ?_
            refine s_getR dX10_cuts_247 flX10_9 rn0 rk0 rfl rr0_0 ?_
            refine s_bipush dX10_cuts_250 (by decide) ?_
            refine s_bipush dX10_cuts_252 (by decide) ?_
            refine s_iload dX10_cuts_254 rfl ?_
            obtain ⟨c, h⟩ := h
            refine s_imul dX10_cuts_256 (am_w_id c) ?_
            obtain ⟨c, h⟩ := h
            refine s_iadd dX10_cuts_257 (am_w_id c) ?_
            refine s_iconst dX10_cuts_258 (by decide) ?_
            obtain ⟨c, h⟩ := h
            refine s_iadd dX10_cuts_259 (am_w_id c) ?_
            refine s_dup2 dX10_cuts_260 ?_
            obtain ⟨c, c2, h⟩ := h
            refine s_iald (x := (μ 1 (((26 + (8 * x6)) + 1).toNat))) dX10_cuts_261 rn1 rk1 rl1 c c2 rfl ?_
            refine s_iload dX10_cuts_262 rfl ?_
            obtain ⟨c, h⟩ := h
            refine s_isub dX10_cuts_264 (am_w_id c) ?_
            obtain ⟨c, c2, h⟩ := h
            obtain ⟨m44, hm44⟩ : ∃ x : am_M, x = am_st μ 1 (am_up (μ 1) ((26 + (8 * x6)) + 1).toNat ((μ 1 (((26 + (8 * x6)) + 1).toNat)) - x5)) := ⟨_, rfl⟩
            have h := h m44 hm44
            refine s_iast dX10_cuts_265 rn1 rk1 rl1 c c2 hm44.symm ?_
            refine s_goto dX10_cuts_266 (tgt := 518) (by decide) ?_
            obtain ⟨c, h⟩ := h
            refine s_iinc dX10_cuts_518 rfl (am_w_id c) (by decide) (L' := [vR 0, vI x1, vI x2, vU, vI x4, vI x5, vI (x6 - 1), vI (rg μ x6 1), vI (rg μ x6 1 + (rg μ x6 4)), vU, vU, vU]) rfl ?_
            refine s_goto dX10_cuts_521 (tgt := 184) (by decide) ?_
            exact am_lesS h ⟨Or.inr rfl, Or.inr rfl, Or.inr rfl, Or.inl rfl, Or.inr rfl, Or.inr rfl, Or.inr rfl, Or.inl rfl, Or.inl rfl, Or.inl rfl, Or.inl rfl, Or.inl rfl, trivial⟩
        · have h := h.2 cc
          refine s_aload_n dX10_cuts_231 rfl rfl ?_
          refine s_iload dX10_cuts_232 rfl ?_
          obtain ⟨P, hcl, h⟩ := h
          refine s_callV (As := [vI x6]) (rest := []) (k := 0) dX10_cuts_234 lkX10_172 rn0 ⟨by rw [rk0]; rfl, by rw [rk0]; decide⟩ lmX10_drops rfl rfl (Nat.le_of_ble_eq_true rfl) (by decide) (Nat.le_refl 0) (Nat.le_refl 0) (hC := hcl) (fun r n2 S2 m46 hP => ?_)
          obtain ⟨⟨rfl, rfl⟩, rfl, hq⟩ := hP
          have h := h m46 hq
          refine s_goto dX10_cuts_237 (tgt := 518) (by decide) ?_
          obtain ⟨c, h⟩ := h
          refine s_iinc dX10_cuts_518 rfl (am_w_id c) (by decide) (L' := [vR 0, vI x1, vI x2, vU, vI x4, vI x5, vI (x6 - 1), vI (rg μ x6 1), vI (rg μ x6 1 + (rg μ x6 4)), vU, vU, vU]) rfl ?_
          refine s_goto dX10_cuts_521 (tgt := 184) (by decide) ?_
          exact am_lesS h ⟨Or.inr rfl, Or.inr rfl, Or.inr rfl, Or.inl rfl, Or.inr rfl, Or.inr rfl, Or.inr rfl, Or.inl rfl, Or.inl rfl, Or.inl rfl, Or.inl rfl, Or.inl rfl, trivial⟩
    · have h := h.2 cc
      refine s_goto dX10_cuts_216 (tgt := 518) (by decide) ?_
      obtain ⟨c, h⟩ := h
      refine s_iinc dX10_cuts_518 rfl (am_w_id c) (by decide) (L' := [vR 0, vI x1, vI x2, vU, vI x4, vI x5, vI (x6 - 1), vI (rg μ x6 1), vI (rg μ x6 1 + (rg μ x6 4)), vU, vU, vU]) rfl ?_
      refine s_goto dX10_cuts_521 (tgt := 184) (by decide) ?_
      exact am_lesS h ⟨Or.inr rfl, Or.inr rfl, Or.inr rfl, Or.inl rfl, Or.inr rfl, Or.inr rfl, Or.inr rfl, Or.inl rfl, Or.inl rfl, Or.inl rfl, Or.inl rfl, Or.inl rfl, trivial⟩
theorem vc_X10_cuts_417 {x1 x2 x4 x5 x6 x7 x8 x9 x10 x11 : Int} {μ : am_M} {Q : Int → am_M → Prop} (h : (8 ≤ x11 → (x9 ≠ 0 → ∀ m1 : am_M, m1 = am_st μ 14 (am_up (μ 14) 1 x1) → (am_in (x2 - x7)) ∧ ((am_in (μ 14 3 + (x2 - x7))) ∧ (∀ m2 : am_M, m2 = am_st m1 14 (am_up (m1 14) 3 (μ 14 3 + (x2 - x7))) → (am_in (x8 - x2)) ∧ (∀ m3 : am_M, m3 = am_st m2 14 (am_up (m2 14) 4 (x8 - x2)) → ∀ m4 : am_M, m4 = am_st m3 14 (am_up (m3 14) 6 0) → ∀ m5 : am_M, m5 = am_st m4 14 (am_up (m4 14) 7 x10) → ∃ P : am_M → Prop, cl_V kR 1 mX10_shortens [vR 0] m5 P ∧ (∀ m7 : am_M, P m7 → ∃ P : Int → am_M → Prop, cl_I kR 2 mX10_lays [vR 0] m7 P ∧ (∀ (z8 : Int) (m9 : am_M), P z8 m9 → (am_in (x6 - 1)) ∧ (at_I kR 5 mX10_cuts 184 [vR 0, vI x1, vI x2, vU, vI x4, vI x5, vI (x6 - 1), vU, vU, vU, vU, vU] [] m9 Q))))))) ∧ (x9 = 0 → (am_in (x6 - 1)) ∧ (at_I kR 5 mX10_cuts 184 [vR 0, vI x1, vI x2, vU, vI x4, vI x5, vI (x6 - 1), vU, vU, vU, vU, vU] [] μ Q))) ∧ (x11 < 8 → (am_in (8 * x6)) ∧ ((am_in (26 + (8 * x6))) ∧ ((am_in ((26 + (8 * x6)) + x11)) ∧ ((0 ≤ x11) ∧ (x11 < 8) ∧ ((0 ≤ (26 + (8 * x6)) + x11) ∧ ((26 + (8 * x6)) + x11 < 470) ∧ (∀ m10 : am_M, m10 = am_st μ 1 (am_up (μ 1) ((26 + (8 * x6)) + x11).toNat (μ 14 ((x11).toNat))) → (am_in (x11 + 1)) ∧ (at_I kR 5 mX10_cuts 417 [vR 0, vI x1, vI x2, vU, vI x4, vI x5, vI x6, vI x7, vI x8, vI x9, vI x10, vI (x11 + 1)] [] m10 Q)))))))) : at_I kR 5 mX10_cuts 417 [vR 0, vI x1, vI x2, vU, vI x4, vI x5, vI x6, vI x7, vI x8, vI x9, vI x10, vI x11] [] μ Q := by
  refine s_iload dX10_cuts_417 rfl ?_
  refine s_bipush dX10_cuts_419 (by decide) ?_
  refine s_icmp_ge dX10_cuts_421 (tgt := 453) (by decide) (fun cc => ?_) (fun cc => ?_)
  · have h := h.1 cc
    refine s_iload dX10_cuts_453 rfl ?_
    refine s_if_ne dX10_cuts_455 (tgt := 461) (by decide) (fun cc => ?_) (fun cc => ?_)
    · have h := h.1 cc
      refine s_aload_n dX10_cuts_461 rfl rfl ?_
      refine s_getR dX10_cuts_462 flX10_50 rn0 rk0 rfl rr0_18 ?_
      refine s_iconst dX10_cuts_465 (by decide) ?_
      refine s_iload_n dX10_cuts_466 rfl rfl ?_
      obtain ⟨m1, hm1⟩ : ∃ x : am_M, x = am_st μ 14 (am_up (μ 14) 1 x1) := ⟨_, rfl⟩
      have h := h m1 hm1
      refine s_iast dX10_cuts_467 rn14 rk14 rl14 (by decide) (by decide) hm1.symm ?_
      refine s_aload_n dX10_cuts_468 rfl rfl ?_
      refine s_getR dX10_cuts_469 flX10_50 rn0 rk0 rfl rr0_18 ?_
      refine s_iconst dX10_cuts_472 (by decide) ?_
      refine s_dup2 dX10_cuts_473 ?_
      refine s_iald (x := (μ 14 3)) dX10_cuts_474 rn14 rk14 rl14 (by decide) (by decide) (by subst hm1; rfl) ?_
      refine s_iload_n dX10_cuts_475 rfl rfl ?_
      refine s_iload dX10_cuts_476 rfl ?_
      obtain ⟨c, h⟩ := h
      refine s_isub dX10_cuts_478 (am_w_id c) ?_
      obtain ⟨c, h⟩ := h
      refine s_iadd dX10_cuts_479 (am_w_id c) ?_
      obtain ⟨m2, hm2⟩ : ∃ x : am_M, x = am_st m1 14 (am_up (m1 14) 3 (μ 14 3 + (x2 - x7))) := ⟨_, rfl⟩
      have h := h m2 hm2
      refine s_iast dX10_cuts_480 rn14 rk14 rl14 (by decide) (by decide) hm2.symm ?_
      refine s_aload_n dX10_cuts_481 rfl rfl ?_
      refine s_getR dX10_cuts_482 flX10_50 rn0 rk0 rfl rr0_18 ?_
      refine s_iconst dX10_cuts_485 (by decide) ?_
      refine s_iload dX10_cuts_486 rfl ?_
      refine s_iload_n dX10_cuts_488 rfl rfl ?_
      obtain ⟨c, h⟩ := h
      refine s_isub dX10_cuts_489 (am_w_id c) ?_
      obtain ⟨m3, hm3⟩ : ∃ x : am_M, x = am_st m2 14 (am_up (m2 14) 4 (x8 - x2)) := ⟨_, rfl⟩
      have h := h m3 hm3
      refine s_iast dX10_cuts_490 rn14 rk14 rl14 (by decide) (by decide) hm3.symm ?_
      refine s_aload_n dX10_cuts_491 rfl rfl ?_
      refine s_getR dX10_cuts_492 flX10_50 rn0 rk0 rfl rr0_18 ?_
      refine s_bipush dX10_cuts_495 (by decide) ?_
      refine s_iconst dX10_cuts_497 (by decide) ?_
      obtain ⟨m4, hm4⟩ : ∃ x : am_M, x = am_st m3 14 (am_up (m3 14) 6 0) := ⟨_, rfl⟩
      have h := h m4 hm4
      refine s_iast dX10_cuts_498 rn14 rk14 rl14 (by decide) (by decide) hm4.symm ?_
      refine s_aload_n dX10_cuts_499 rfl rfl ?_
      refine s_getR dX10_cuts_500 flX10_50 rn0 rk0 rfl rr0_18 ?_
      refine s_bipush dX10_cuts_503 (by decide) ?_
      refine s_iload dX10_cuts_505 rfl ?_
      obtain ⟨m5, hm5⟩ : ∃ x : am_M, x = am_st m4 14 (am_up (m4 14) 7 x10) := ⟨_, rfl⟩
      have h := h m5 hm5
      refine s_iast dX10_cuts_507 rn14 rk14 rl14 (by decide) (by decide) hm5.symm ?_
      refine s_aload_n dX10_cuts_508 rfl rfl ?_
      obtain ⟨P, hcl, h⟩ := h
      refine s_callV (As := []) (rest := []) (k := 0) dX10_cuts_509 lkX10_181 rn0 ⟨by rw [rk0]; rfl, by rw [rk0]; decide⟩ lmX10_shortens rfl rfl (Nat.le_of_ble_eq_true rfl) (by decide) (Nat.le_refl 0) (Nat.le_refl 0) (hC := hcl) (fun r n2 S2 m7 hP => ?_)
      obtain ⟨⟨rfl, rfl⟩, rfl, hq⟩ := hP
      have h := h m7 hq
      refine s_aload_n dX10_cuts_512 rfl rfl ?_
      obtain ⟨P, hcl, h⟩ := h
      refine s_callV (As := []) (rest := []) (k := 0) dX10_cuts_513 lkX10_162 rn0 ⟨by rw [rk0]; rfl, by rw [rk0]; decide⟩ lmX10_lays rfl rfl (Nat.le_of_ble_eq_true rfl) (by decide) (Nat.le_refl 0) (Nat.le_refl 0) (hC := hcl) (fun r n2 S2 m9 hP => ?_)
      obtain ⟨⟨rfl, rfl⟩, z8, rfl, hq⟩ := hP
      have h := h z8 m9 hq
      refine s_istore dX10_cuts_516 (by decide) (L' := [vR 0, vI x1, vI x2, vU, vI x4, vI x5, vI x6, vI x7, vI x8, vI x9, vI x10, vI z8]) rfl ?_
      obtain ⟨c, h⟩ := h
      refine s_iinc dX10_cuts_518 rfl (am_w_id c) (by decide) (L' := [vR 0, vI x1, vI x2, vU, vI x4, vI x5, vI (x6 - 1), vI x7, vI x8, vI x9, vI x10, vI z8]) rfl ?_
      refine s_goto dX10_cuts_521 (tgt := 184) (by decide) ?_
      exact am_lesS h ⟨Or.inr rfl, Or.inr rfl, Or.inr rfl, Or.inl rfl, Or.inr rfl, Or.inr rfl, Or.inr rfl, Or.inl rfl, Or.inl rfl, Or.inl rfl, Or.inl rfl, Or.inl rfl, trivial⟩
    · have h := h.2 cc
      refine s_goto dX10_cuts_458 (tgt := 518) (by decide) ?_
      obtain ⟨c, h⟩ := h
      refine s_iinc dX10_cuts_518 rfl (am_w_id c) (by decide) (L' := [vR 0, vI x1, vI x2, vU, vI x4, vI x5, vI (x6 - 1), vI x7, vI x8, vI x9, vI x10, vI x11]) rfl ?_
      refine s_goto dX10_cuts_521 (tgt := 184) (by decide) ?_
      exact am_lesS h ⟨Or.inr rfl, Or.inr rfl, Or.inr rfl, Or.inl rfl, Or.inr rfl, Or.inr rfl, Or.inr rfl, Or.inl rfl, Or.inl rfl, Or.inl rfl, Or.inl rfl, Or.inl rfl, trivial⟩
  · have h := h.2 cc
    refine s_aload_n dX10_cuts_424 rfl rfl ?_
    refine s_getR dX10_cuts_425 flX10_9 rn0 rk0 rfl rr0_0 ?_
    refine s_bipush dX10_cuts_428 (by decide) ?_
    refine s_bipush dX10_cuts_430 (by decide) ?_
    refine s_iload dX10_cuts_432 rfl ?_
    obtain ⟨c, h⟩ := h
    refine s_imul dX10_cuts_434 (am_w_id c) ?_
    obtain ⟨c, h⟩ := h
    refine s_iadd dX10_cuts_435 (am_w_id c) ?_
    refine s_iload dX10_cuts_436 rfl ?_
    obtain ⟨c, h⟩ := h
    refine s_iadd dX10_cuts_438 (am_w_id c) ?_
    refine s_aload_n dX10_cuts_439 rfl rfl ?_
    refine s_getR dX10_cuts_440 flX10_50 rn0 rk0 rfl rr0_18 ?_
    refine s_iload dX10_cuts_443 rfl ?_
    obtain ⟨c, c2, h⟩ := h
    refine s_iald (x := (μ 14 ((x11).toNat))) dX10_cuts_445 rn14 rk14 rl14 c c2 rfl ?_
    obtain ⟨c, c2, h⟩ := h
    obtain ⟨m10, hm10⟩ : ∃ x : am_M, x = am_st μ 1 (am_up (μ 1) ((26 + (8 * x6)) + x11).toNat (μ 14 ((x11).toNat))) := ⟨_, rfl⟩
    have h := h m10 hm10
    refine s_iast dX10_cuts_446 rn1 rk1 rl1 c c2 hm10.symm ?_
    obtain ⟨c, h⟩ := h
    refine s_iinc dX10_cuts_447 rfl (am_w_id c) (by decide) (L' := [vR 0, vI x1, vI x2, vU, vI x4, vI x5, vI x6, vI x7, vI x8, vI x9, vI x10, vI (x11 + 1)]) rfl ?_
    refine s_goto dX10_cuts_450 (tgt := 417) (by decide) ?_
    exact h
theorem vc_X10_cuts_527 {x1 x2 x4 x5 x6 : Int} {μ : am_M} {Q : Int → am_M → Prop} (h : (μ 1 438 ≤ x6 → (am_in (μ 1 438 - 1)) ∧ (at_I kR 5 mX10_cuts 612 [vR 0, vU, vU, vU, vI x4, vU, vI (μ 1 438 - 1), vU, vU, vU, vU, vU] [] μ Q)) ∧ (x6 < μ 1 438 → (am_in (2 * x6)) ∧ ((am_in (439 + (2 * x6))) ∧ ((0 ≤ 439 + (2 * x6)) ∧ (439 + (2 * x6) < 470) ∧ ((am_in (2 * x6)) ∧ ((am_in (439 + (2 * x6))) ∧ (((x2 ≤ μ 1 ((439 + (2 * x6)).toNat) → (am_in ((μ 1 ((439 + (2 * x6)).toNat)) - x5)))) ∧ (∀ v1 : Int, v1 = (if μ 1 ((439 + (2 * x6)).toNat) < x2 then (if x1 < μ 1 ((439 + (2 * x6)).toNat) then x1 else μ 1 ((439 + (2 * x6)).toNat)) else (μ 1 ((439 + (2 * x6)).toNat)) - x5) → (0 ≤ 439 + (2 * x6)) ∧ (439 + (2 * x6) < 470) ∧ (∀ m2 : am_M, m2 = am_st μ 1 (am_up (μ 1) (439 + (2 * x6)).toNat v1) → (am_in (x6 + 1)) ∧ (at_I kR 5 mX10_cuts 527 [vR 0, vI x1, vI x2, vU, vI x4, vI x5, vI (x6 + 1), vU, vU, vU, vU, vU] [] m2 Q)))))))))) : at_I kR 5 mX10_cuts 527 [vR 0, vI x1, vI x2, vU, vI x4, vI x5, vI x6, vU, vU, vU, vU, vU] [] μ Q := by
  refine s_iload dX10_cuts_527 rfl ?_
  refine s_aload_n dX10_cuts_529 rfl rfl ?_
  refine s_getR dX10_cuts_530 flX10_9 rn0 rk0 rfl rr0_0 ?_
  refine s_sipush dX10_cuts_533 (by decide) ?_
  refine s_iald (x := (μ 1 438)) dX10_cuts_536 rn1 rk1 rl1 (by decide) (by decide) rfl ?_
  refine s_icmp_ge dX10_cuts_537 (tgt := 600) (by decide) (fun cc => ?_) (fun cc => ?_)
  · have h := h.1 cc
    refine s_aload_n dX10_cuts_600 rfl rfl ?_
    refine s_getR dX10_cuts_601 flX10_9 rn0 rk0 rfl rr0_0 ?_
    refine s_sipush dX10_cuts_604 (by decide) ?_
    refine s_iald (x := (μ 1 438)) dX10_cuts_607 rn1 rk1 rl1 (by decide) (by decide) rfl ?_
    refine s_iconst dX10_cuts_608 (by decide) ?_
    obtain ⟨c, h⟩ := h
    refine s_isub dX10_cuts_609 (am_w_id c) ?_
    refine s_istore dX10_cuts_610 (by decide) (L' := [vR 0, vI x1, vI x2, vU, vI x4, vI x5, vI (μ 1 438 - 1), vU, vU, vU, vU, vU]) rfl ?_
    exact am_lesS h ⟨Or.inr rfl, Or.inl rfl, Or.inl rfl, Or.inl rfl, Or.inr rfl, Or.inl rfl, Or.inr rfl, Or.inl rfl, Or.inl rfl, Or.inl rfl, Or.inl rfl, Or.inl rfl, trivial⟩
  · have h := h.2 cc
    refine s_aload_n dX10_cuts_540 rfl rfl ?_
    refine s_getR dX10_cuts_541 flX10_9 rn0 rk0 rfl rr0_0 ?_
    refine s_sipush dX10_cuts_544 (by decide) ?_
    refine s_iconst dX10_cuts_547 (by decide) ?_
    refine s_iload dX10_cuts_548 rfl ?_
    obtain ⟨c, h⟩ := h
    refine s_imul dX10_cuts_550 (am_w_id c) ?_
    obtain ⟨c, h⟩ := h
    refine s_iadd dX10_cuts_551 (am_w_id c) ?_
    obtain ⟨c, c2, h⟩ := h
    refine s_iald (x := (μ 1 ((439 + (2 * x6)).toNat))) dX10_cuts_552 rn1 rk1 rl1 c c2 rfl ?_
    refine s_istore dX10_cuts_553 (by decide) (L' := [vR 0, vI x1, vI x2, vU, vI x4, vI x5, vI x6, vI (μ 1 ((439 + (2 * x6)).toNat)), vU, vU, vU, vU]) rfl ?_
    refine s_aload_n dX10_cuts_555 rfl rfl ?_
    refine s_getR dX10_cuts_556 flX10_9 rn0 rk0 rfl rr0_0 ?_
    refine s_sipush dX10_cuts_559 (by decide) ?_
    refine s_iconst dX10_cuts_562 (by decide) ?_
    refine s_iload dX10_cuts_563 rfl ?_
    obtain ⟨c, h⟩ := h
    refine s_imul dX10_cuts_565 (am_w_id c) ?_
    obtain ⟨c, h⟩ := h
    refine s_iadd dX10_cuts_566 (am_w_id c) ?_
    refine s_iload dX10_cuts_567 rfl ?_
    refine s_iload_n dX10_cuts_569 rfl rfl ?_
    obtain ⟨hsd, h⟩ := h
    have kj3 : ∀ (v1 : Int), ((0 ≤ 439 + (2 * x6)) ∧ (439 + (2 * x6) < 470) ∧ (∀ m2 : am_M, m2 = am_st μ 1 (am_up (μ 1) (439 + (2 * x6)).toNat v1) → (am_in (x6 + 1)) ∧ (at_I kR 5 mX10_cuts 527 [vR 0, vI x1, vI x2, vU, vI x4, vI x5, vI (x6 + 1), vU, vU, vU, vU, vU] [] m2 Q))) → at_I kR 5 mX10_cuts 593 [vR 0, vI x1, vI x2, vU, vI x4, vI x5, vI x6, vU, vU, vU, vU, vU] [vI v1, vI (439 + (2 * x6)), vR 1] μ Q := by
      intro v1 h
      obtain ⟨c, c2, h⟩ := h
      obtain ⟨m2, hm2⟩ : ∃ x : am_M, x = am_st μ 1 (am_up (μ 1) (439 + (2 * x6)).toNat v1) := ⟨_, rfl⟩
      have h := h m2 hm2
      refine s_iast dX10_cuts_593 rn1 rk1 rl1 c c2 hm2.symm ?_
      obtain ⟨c, h⟩ := h
      refine s_iinc dX10_cuts_594 rfl (am_w_id c) (by decide) (L' := [vR 0, vI x1, vI x2, vU, vI x4, vI x5, vI (x6 + 1), vU, vU, vU, vU, vU]) rfl ?_
      refine s_goto dX10_cuts_597 (tgt := 527) (by decide) ?_
      exact h
    refine s_icmp_lt dX10_cuts_570 (tgt := 581) (by decide) (fun cc => ?_) (fun cc => ?_)
    · have hp0 := cc
      refine s_iload dX10_cuts_581 rfl ?_
      refine s_iload_n dX10_cuts_583 rfl rfl ?_
      refine s_icmp_le dX10_cuts_584 (tgt := 591) (by decide) (fun cc => ?_) (fun cc => ?_)
      · have hp1 := cc
        refine s_iload dX10_cuts_591 rfl ?_
        exact am_lesS (kj3 (μ 1 ((439 + (2 * x6)).toNat)) (h (μ 1 ((439 + (2 * x6)).toNat)) (by rw [if_pos hp0, if_neg (Int.not_lt.mpr hp1)]))) ⟨Or.inr rfl, Or.inr rfl, Or.inr rfl, Or.inl rfl, Or.inr rfl, Or.inr rfl, Or.inr rfl, Or.inl rfl, Or.inl rfl, Or.inl rfl, Or.inl rfl, Or.inl rfl, trivial⟩
      · have hp1 := cc
        refine s_iload_n dX10_cuts_587 rfl rfl ?_
        refine s_goto dX10_cuts_588 (tgt := 593) (by decide) ?_
        exact am_lesS (kj3 x1 (h x1 (by rw [if_pos hp0, if_pos hp1]))) ⟨Or.inr rfl, Or.inr rfl, Or.inr rfl, Or.inl rfl, Or.inr rfl, Or.inr rfl, Or.inr rfl, Or.inl rfl, Or.inl rfl, Or.inl rfl, Or.inl rfl, Or.inl rfl, trivial⟩
    · have hp0 := cc
      have hsd := hsd hp0
      refine s_iload dX10_cuts_573 rfl ?_
      refine s_iload dX10_cuts_575 rfl ?_
      have c := hsd
      refine s_isub dX10_cuts_577 (am_w_id c) ?_
      refine s_goto dX10_cuts_578 (tgt := 593) (by decide) ?_
      exact am_lesS (kj3 ((μ 1 ((439 + (2 * x6)).toNat)) - x5) (h ((μ 1 ((439 + (2 * x6)).toNat)) - x5) (by rw [if_neg (Int.not_lt.mpr hp0)]))) ⟨Or.inr rfl, Or.inr rfl, Or.inr rfl, Or.inl rfl, Or.inr rfl, Or.inr rfl, Or.inr rfl, Or.inl rfl, Or.inl rfl, Or.inl rfl, Or.inl rfl, Or.inl rfl, trivial⟩
theorem vc_X10_cuts_612 {x4 x6 : Int} {μ : am_M} {Q : Int → am_M → Prop} (h : (x6 ≤ 0 → Q x4 μ) ∧ (0 < x6 → (am_in (2 * x6)) ∧ ((am_in (439 + (2 * x6))) ∧ ((0 ≤ 439 + (2 * x6)) ∧ (439 + (2 * x6) < 470) ∧ ((am_in (2 * x6)) ∧ ((am_in (439 + (2 * x6))) ∧ ((am_in ((439 + (2 * x6)) - 2)) ∧ ((0 ≤ (439 + (2 * x6)) - 2) ∧ ((439 + (2 * x6)) - 2 < 470) ∧ ((μ 1 ((439 + (2 * x6)).toNat) ≠ μ 1 (((439 + (2 * x6)) - 2).toNat) → (am_in (x6 - 1)) ∧ (at_I kR 5 mX10_cuts 612 [vR 0, vU, vU, vU, vI x4, vU, vI (x6 - 1), vU, vU, vU, vU, vU] [] μ Q)) ∧ (μ 1 ((439 + (2 * x6)).toNat) = μ 1 (((439 + (2 * x6)) - 2).toNat) → ∃ P : am_M → Prop, cl_V kR 1 mX10_dropsChapter [vR 0, vI x6] μ P ∧ (∀ m2 : am_M, P m2 → (am_in (x6 - 1)) ∧ (at_I kR 5 mX10_cuts 612 [vR 0, vU, vU, vU, vI x4, vU, vI (x6 - 1), vU, vU, vU, vU, vU] [] m2 Q)))))))))))) : at_I kR 5 mX10_cuts 612 [vR 0, vU, vU, vU, vI x4, vU, vI x6, vU, vU, vU, vU, vU] [] μ Q := by
  refine s_iload dX10_cuts_612 rfl ?_
  refine s_if_le dX10_cuts_614 (tgt := 660) (by decide) (fun cc => ?_) (fun cc => ?_)
  · have h := h.1 cc
    refine s_iload dX10_cuts_660 rfl ?_
    exact s_ireturn dX10_cuts_662 (Or.inl rfl) ⟨⟨rfl, rfl⟩, _, rfl, h⟩
  · have h := h.2 cc
    refine s_aload_n dX10_cuts_617 rfl rfl ?_
    refine s_getR dX10_cuts_618 flX10_9 rn0 rk0 rfl rr0_0 ?_
    refine s_sipush dX10_cuts_621 (by decide) ?_
    refine s_iconst dX10_cuts_624 (by decide) ?_
    refine s_iload dX10_cuts_625 rfl ?_
    obtain ⟨c, h⟩ := h
    refine s_imul dX10_cuts_627 (am_w_id c) ?_
    obtain ⟨c, h⟩ := h
    refine s_iadd dX10_cuts_628 (am_w_id c) ?_
    obtain ⟨c, c2, h⟩ := h
    refine s_iald (x := (μ 1 ((439 + (2 * x6)).toNat))) dX10_cuts_629 rn1 rk1 rl1 c c2 rfl ?_
    refine s_aload_n dX10_cuts_630 rfl rfl ?_
    refine s_getR dX10_cuts_631 flX10_9 rn0 rk0 rfl rr0_0 ?_
    refine s_sipush dX10_cuts_634 (by decide) ?_
    refine s_iconst dX10_cuts_637 (by decide) ?_
    refine s_iload dX10_cuts_638 rfl ?_
    obtain ⟨c, h⟩ := h
    refine s_imul dX10_cuts_640 (am_w_id c) ?_
    obtain ⟨c, h⟩ := h
    refine s_iadd dX10_cuts_641 (am_w_id c) ?_
    refine s_iconst dX10_cuts_642 (by decide) ?_
    obtain ⟨c, h⟩ := h
    refine s_isub dX10_cuts_643 (am_w_id c) ?_
    obtain ⟨c, c2, h⟩ := h
    refine s_iald (x := (μ 1 (((439 + (2 * x6)) - 2).toNat))) dX10_cuts_644 rn1 rk1 rl1 c c2 rfl ?_
    refine s_icmp_ne dX10_cuts_645 (tgt := 654) (by decide) (fun cc => ?_) (fun cc => ?_)
    · have h := h.1 cc
      obtain ⟨c, h⟩ := h
      refine s_iinc dX10_cuts_654 rfl (am_w_id c) (by decide) (L' := [vR 0, vU, vU, vU, vI x4, vU, vI (x6 - 1), vU, vU, vU, vU, vU]) rfl ?_
      refine s_goto dX10_cuts_657 (tgt := 612) (by decide) ?_
      exact h
    · have h := h.2 cc
      refine s_aload_n dX10_cuts_648 rfl rfl ?_
      refine s_iload dX10_cuts_649 rfl ?_
      obtain ⟨P, hcl, h⟩ := h
      refine s_callV (As := [vI x6]) (rest := []) (k := 0) dX10_cuts_651 lkX10_187 rn0 ⟨by rw [rk0]; rfl, by rw [rk0]; decide⟩ lmX10_dropsChapter rfl rfl (Nat.le_of_ble_eq_true rfl) (by decide) (Nat.le_refl 0) (Nat.le_refl 0) (hC := hcl) (fun r n2 S2 m2 hP => ?_)
      obtain ⟨⟨rfl, rfl⟩, rfl, hq⟩ := hP
      have h := h m2 hq
      obtain ⟨c, h⟩ := h
      refine s_iinc dX10_cuts_654 rfl (am_w_id c) (by decide) (L' := [vR 0, vU, vU, vU, vI x4, vU, vI (x6 - 1), vU, vU, vU, vU, vU]) rfl ?_
      refine s_goto dX10_cuts_657 (tgt := 612) (by decide) ?_
      exact h
theorem ve_X10_cuts {x1 x2 : Int} {μ : am_M} {Q : Int → am_M → Prop} (h : at_I kR 5 mX10_cuts 0 [vR 0, vI x1, vI x2, vU, vU, vU, vU, vU, vU, vU, vU, vU] [] μ Q) : cl_I kR 5 mX10_cuts [vR 0, vI x1, vI x2] μ Q := am_intro pmX10_cuts (Nat.le_of_ble_eq_true rfl) rfl h
theorem sp_X10_cuts {μ : am_M} {a b : Int} (L : List Rw) (H : Hl) (ht : tr_ μ L) (hh : hz_ μ H) (hok : ∀ r ∈ L, okC r) (hs : srt_ L) (hl : L.length ≤ 24) (hH : vH H) : cl_I kR 5 mX10_cuts [vR 0, vI a, vI b] μ (fun z m => lz_ μ m z (r_cut L H a b)) := by
  have hlh := hH.1
  have hn := ht.1
  have hm := hh.1
  have k8 : ∀ k : Int, 0 ≤ k → k < 8 → k = 0 ∨ k = 1 ∨ k = 2 ∨ k = 3 ∨ k = 4 ∨ k = 5 ∨ k = 6 ∨ k = 7 := fun k _ _ => by omega
  have bad : ∀ z : Int, (a < 0 ∨ b ≤ a ∨ 600 < b) → z = -2 → lz_ μ μ z (r_cut L H a b) := fun z h hz => by
    rw [show r_cut L H a b = (-2, L, H) from cif_t h]
    exact ⟨hz, fr_rf, fe_rf, ht, hh⟩
  refine ve_X10_cuts (vc_X10_cuts_0 ⟨fun c => bad _ (by omega) rfl, fun c1 => ⟨fun c => bad _ (by omega) rfl, fun c2 => ⟨fun c3 => ?_, fun c => bad _ (by omega) rfl⟩⟩⟩)
  have e0 : r_cut L H a b = _ := cif_f (by omega)
  rw [ovl_s c2 hok] at e0
  -- of chapters in one place the first stays
  have fifth : ¬ 24 < ((L.flatMap (cuF a b)).length : Int) → ∀ (n : Nat) (P R : Hl) (p : Int × Int) (m : am_M), P.length = n → H.map (mvF a b) = P ++ p :: R → fr_ [1, 14] μ m → fe_ μ m → tr_ m (L.flatMap (cuF a b)) → hz_ m (P ++ p :: h_ded (some p.1) R) → at_I kR 5 mX10_cuts 612 [vR 0, vU, vU, vU, vI (L.map (ovl_ a b)).sum, vU, vI n, vU, vU, vU, vU, vU] [] m (fun z m => lz_ μ m z (r_cut L H a b)) := by
    intro h24 n
    induction n with
    | zero =>
      intro P R p m hP hK g1 g2 g3 g4
      have : P = [] := List.eq_nil_of_length_eq_zero hP
      subst this
      refine vc_X10_cuts_612 ⟨fun _ => ?_, fun q => by omega⟩
      rw [e0.trans (cif_f h24)]
      refine ⟨rfl, g1, g2, g3, ?_⟩
      show hz_ m (h_ded none (H.map (mvF a b)))
      rw [hK]
      simpa [h_ded] using g4
    | succ n ih =>
      intro P R p m hP hK g1 g2 g3 g4
      obtain ⟨P', q, hPq⟩ : ∃ P' q, P = P' ++ [q] := by
        rcases List.eq_nil_or_concat P with e | ⟨K, q, e⟩
        · rw [e] at hP; simp at hP
        · exact ⟨K, q, by rw [e]; simp⟩
      subst hPq
      have hP' : P'.length = n := by simpa using hP
      have lK : H.length = P'.length + 1 + 1 + R.length := by
        have := congrArg List.length hK
        simp at this
        omega
      have lD : (h_ded (some p.1) R).length ≤ R.length := by
        have key : ∀ (K : Hl) (l : Option Int), (h_ded l K).length ≤ K.length := by
          intro K
          induction K with
          | nil => intro l; simp [h_ded]
          | cons q K ih =>
            intro l
            show (if l = some q.1 then h_ded l K else q :: h_ded (some q.1) K).length ≤ _
            split
            · have := ih l; rw [List.length_cons]; omega
            · have := ih (some q.1); rw [List.length_cons, List.length_cons]; omega
        exact key _ _
      have v1 := (hz_at g4 (x := (n : Int) + 1) (by simp; omega)).1
      have g4' : hz_ m (P' ++ q :: (p :: h_ded (some p.1) R)) := by simpa using g4
      have v2 := (hz_at g4' (x := (n : Int)) (by omega)).1
      rw [show ((439 + (2 * (n : Int))).toNat) = ((439 + (2 * ((n : Int) + 1))) - 2).toNat by omega] at v2
      have en : ((n + 1 : Nat) : Int) = (n : Int) + 1 := by omega
      rw [en]
      refine vc_X10_cuts_612 ⟨fun c => by omega, fun c => ⟨(by (try unfold am_in); (try unfold in_ at *); omega), (by (try unfold am_in); (try unfold in_ at *); omega), by omega, by omega, (by (try unfold am_in); (try unfold in_ at *); omega), (by (try unfold am_in); (try unfold in_ at *); omega), (by (try unfold am_in); (try unfold in_ at *); omega), by omega, by omega, ?_⟩⟩
      rw [v1, v2]
      have e1 : (n : Int) + 1 - 1 = n := by omega
      rw [e1]
      refine ⟨fun c4 => ⟨(by (try unfold am_in); (try unfold in_ at *); omega), ih P' (p :: R) q m hP' (by rw [hK]; simp) g1 g2 g3 ?_⟩, fun c4 => ?_⟩
      · rw [ded_s, if_neg c4]
        exact g4'
      · refine ⟨_, sp_X10_dropsChapter g4 (c := (n : Int) + 1) (by simp; omega) (by simp; omega), fun m2 ⟨k1, k2, k3⟩ => ⟨(by (try unfold am_in); (try unfold in_ at *); omega), ih P' (p :: R) q m2 hP' (by rw [hK]; simp) (fr_tr g1 (fr_up k1 (by simp))) (fe_tr g2 (fh_fe k2)) (tr_fh k2 (by omega) g3) ?_⟩⟩
        rw [ded_s, if_pos c4]
        simpa using k3
  -- chapters move
  have fourth : ¬ 24 < ((L.flatMap (cuF a b)).length : Int) → ∀ (B A : Hl) (x : Int) (m : am_M), H = A ++ B → x = A.length → fr_ [1, 14] μ m → fe_ μ m → tr_ m (L.flatMap (cuF a b)) → hz_ m (A.map (mvF a b) ++ B) → at_I kR 5 mX10_cuts 527 [vR 0, vI a, vI b, vU, vI (L.map (ovl_ a b)).sum, vI (b - a), vI x, vU, vU, vU, vU, vU] [] m (fun z m => lz_ μ m z (r_cut L H a b)) := by
    intro h24 B
    induction B with
    | nil =>
      intro A x m hA hx g1 g2 g3 g4
      rw [List.append_nil] at hA g4
      have lA : H.length = A.length := by rw [hA]
      have nm := g4.1
      rw [List.length_map] at nm
      refine vc_X10_cuts_527 ⟨fun _ => ⟨(by (try unfold am_in); (try unfold in_ at *); omega), ?_⟩, fun q => by omega⟩
      rcases List.eq_nil_or_concat (H.map (mvF a b)) with e | ⟨K, q, e⟩
      · have hH0 : H = [] := by simpa using e
        rw [hH0] at hA lA
        simp at lA
        refine vc_X10_cuts_612 ⟨fun _ => ?_, fun q => by rw [nm, ← hA] at q; simp at q⟩
        rw [e0.trans (cif_f h24)]
        refine ⟨rfl, g1, g2, g3, ?_⟩
        rw [← hA] at g4
        show hz_ m (h_cut a b H)
        rw [hH0]
        exact g4
      · rw [List.concat_eq_append] at e
        have lK : H.length = K.length + 1 := by
          have := congrArg List.length e
          simpa using this
        rw [show m 1 438 - 1 = (K.length : Int) by omega]
        rw [← hA] at g4
        exact fifth h24 K.length K [] q m rfl (by rw [e]) g1 g2 g3 (by rw [e] at g4; exact g4)
    | cons p B ih =>
      intro A x m hA hx g1 g2 g3 g4
      have lA : H.length = A.length + 1 + B.length := by rw [hA]; simp; omega
      have hx' : x = (A.map (mvF a b)).length := by simpa using hx
      have v := (hz_at g4 hx').1
      have nn := hz_len g4
      rw [List.length_map] at nn
      have po := (hH.2.1 p (by rw [hA]; simp)).1
      refine vc_X10_cuts_527 ⟨fun q => by omega, fun q => ⟨(by (try unfold am_in); (try unfold in_ at *); omega), (by (try unfold am_in); (try unfold in_ at *); omega), by omega, by omega, (by (try unfold am_in); (try unfold in_ at *); omega), (by (try unfold am_in); (try unfold in_ at *); omega), ?_⟩⟩
      rw [v]
      refine ⟨fun _ => (by (try unfold am_in); (try unfold in_ at *); omega), fun v1 hv => ⟨by omega, by omega, fun m2 e2 => ⟨(by (try unfold am_in); (try unfold in_ at *); omega), ?_⟩⟩⟩
      obtain ⟨w1, w2, w3⟩ := hz_up g4 hx' (by simp; omega) e2
      refine ih (A ++ [p]) (x + 1) m2 (by rw [hA]; simp) (by simp; omega) (fr_tr g1 (fr_up w1 (by simp))) (fe_tr g2 (fh_fe w2)) (tr_fh w2 (by omega) g3) ?_
      have e3 : (v1, p.2) = mvF a b p := by unfold mvF; rw [hv]
      rw [e3] at w3
      simpa using w3
  -- clips, from the last
  have third : ¬ 24 < ((L.flatMap (cuF a b)).length : Int) → ∀ (n : Nat) (P B : List Rw) (m : am_M), P.length = n → L = P ++ B → fr_ [1, 14] μ m → fe_ μ m → tr_ m (P ++ B.flatMap (cuF a b)) → hz_ m H → at_I kR 5 mX10_cuts 184 [vR 0, vI a, vI b, vU, vI (L.map (ovl_ a b)).sum, vI (b - a), vI (n - 1), vU, vU, vU, vU, vU] [] m (fun z m => lz_ μ m z (r_cut L H a b)) := by
    intro h24 n
    induction n with
    | zero =>
      intro P B m hP hL g1 g2 g3 g4
      have : P = [] := List.eq_nil_of_length_eq_zero hP
      subst this
      refine vc_X10_cuts_184 ⟨fun _ => fourth h24 H [] 0 m (by simp) rfl g1 g2 (by rw [hL]; simpa using g3) (by simpa using g4), fun q => by omega⟩
    | succ n ih =>
      intro P B m hP hL g1 g2 g3 g4
      obtain ⟨P', r, hPq⟩ : ∃ P' q, P = P' ++ [q] := by
        rcases List.eq_nil_or_concat P with e | ⟨K, q, e⟩
        · rw [e] at hP; simp at hP
        · exact ⟨K, q, by rw [e]; simp⟩
      subst hPq
      have hP' : P'.length = n := by simpa using hP
      have hL' : L = P' ++ r :: B := by rw [hL]; simp
      have lL : L.length = P'.length + 1 + B.length := by rw [hL']; simp; omega
      have l2 := cuF_L2 (a := a) (b := b) B
      have g3' : tr_ m (P' ++ r :: B.flatMap (cuF a b)) := by simpa using g3
      have lT : (P' ++ r :: B.flatMap (cuF a b)).length = P'.length + 1 + (B.flatMap (cuF a b)).length := by rw [List.length_append, List.length_cons]; omega
      have hc : (n : Int) = P'.length := by omega
      have en : ((n + 1 : Nat) : Int) - 1 = (n : Int) := by omega
      rw [en]
      have v := fun k k0 k1 => tr_at (k := k) g3' hc k0 k1
      have v1' : m 1 (((26 + (8 * (n : Int))) + 1).toNat) = r 1 := v 1 (by omega) (by omega)
      have ro := hok r (by rw [hL']; simp)
      unfold okC in_ at ro
      have hs' := hs
      rw [hL'] at hs'
      obtain ⟨p1, p2, -, -, -, -⟩ := srt_pt hs'
      -- the row has become C
      have go : ∀ (C : List Rw) (m2 : am_M), cuF a b r = C → fr_ [1, 14] m m2 → fv_ m m2 → tr_ m2 (P' ++ (C ++ B.flatMap (cuF a b))) → at_I kR 5 mX10_cuts 184 [vR 0, vI a, vI b, vU, vI (L.map (ovl_ a b)).sum, vI (b - a), vI (n - 1), vU, vU, vU, vU, vU] [] m2 (fun z m => lz_ μ m z (r_cut L H a b)) := fun C m2 hC w1 w2 w3 =>
        ih P' (r :: B) m2 hP' hL' (fr_tr g1 w1) (fe_tr g2 (fv_fe w2)) (by rw [List.flatMap_cons, hC]; exact w3) (hz_fv w2 hlh g4)
      -- parts
      have part : r 1 < b → a < r 1 + r 4 → (r 1 < a ∨ b < r 1 + r 4) → ∀ v1 : Int, v1 = (if r 1 < a then (if b < r 1 + r 4 then 1 else 0) else 0) → ∃ P : am_M → Prop, cl_V kR 2 mX10_takes [vR 0, vI n] m P ∧ (∀ m3 : am_M, P m3 → ((a ≤ r 1 → (am_in ((r 1 + (r 4)) - b))) ∧ (r 1 < a → (am_in (a - (r 1))))) ∧ (∀ v4 : Int, v4 = (if r 1 < a then a - (r 1) else (r 1 + (r 4)) - b) → ∀ m5 : am_M, m5 = am_st m3 14 (am_up (m3 14) 4 v4) → ∀ v6 : Int, v6 = (if r 1 < a then r 1 else a) → ∀ m7 : am_M, m7 = am_st m5 14 (am_up (m5 14) 1 v6) → ((a ≤ r 1 → (am_in (b - (r 1))))) ∧ (∀ v8 : Int, v8 = (if r 1 < a then 0 else b - (r 1)) → (am_in (m3 14 3 + v8)) ∧ (∀ m9 : am_M, m9 = am_st m7 14 (am_up (m7 14) 3 (m3 14 3 + v8)) → ∀ v10 : Int, v10 = (if r 1 < a then m3 14 6 else 0) → ∀ m11 : am_M, m11 = am_st m9 14 (am_up (m9 14) 6 v10) → ∀ v12 : Int, v12 = (if r 1 < a then 0 else m3 14 7) → ∀ m13 : am_M, m13 = am_st m11 14 (am_up (m11 14) 7 v12) → ∃ P : am_M → Prop, cl_V kR 1 mX10_shortens [vR 0] m13 P ∧ (∀ m15 : am_M, P m15 → at_I kR 5 mX10_cuts 417 [vR 0, vI a, vI b, vU, vI (L.map (ovl_ a b)).sum, vI (b - a), vI n, vI (r 1), vI (r 1 + (r 4)), vI v1, vI (m3 14 7), vI 0] [] m15 (fun z m => lz_ μ m z (r_cut L H a b))))))) := by
        intro q1 q2 q3 v1 hv1
        refine ⟨_, sp_X10_takes (by (try unfold am_in); (try unfold in_ at *); omega), fun m3 ⟨f3, e3⟩ => ⟨⟨fun _ => (by (try unfold am_in); (try unfold in_ at *); omega), fun _ => (by (try unfold am_in); (try unfold in_ at *); omega)⟩, fun v4 h4 m5 e5 v6 h6 m7 e7 => ⟨fun _ => (by (try unfold am_in); (try unfold in_ at *); omega), fun v8 h8 => ?_⟩⟩⟩
        have em3 : em_ m3 r := fun k k0 k1 => (e3 k k0 k1).trans (v k k0 k1)
        obtain ⟨-, -, -, x3, -, -, x6, x7⟩ := em_0 em3
        rw [x3, x6, x7]
        refine ⟨by rw [h8]; split <;> ((try unfold am_in); (try unfold in_ at *); omega), fun m9 e9 v10 h10 m11 e11 v12 h12 m13 e13 => ?_⟩
        have em5 : em_ m5 (fun k => if k = 4 then v4 else r k) := em_up (j := 4) em3 (by rw [e5, st_s]) (fun k k0 k1 => by rcases k8 k k0 k1 with rfl | rfl | rfl | rfl | rfl | rfl | rfl | rfl <;> simp)
        have em7 : em_ m7 (fun k => if k = 1 then v6 else if k = 4 then v4 else r k) := em_up (j := 1) em5 (by rw [e7, st_s]) (fun k k0 k1 => by rcases k8 k k0 k1 with rfl | rfl | rfl | rfl | rfl | rfl | rfl | rfl <;> simp)
        have em9 : em_ m9 (fun k => if k = 3 then r 3 + v8 else if k = 1 then v6 else if k = 4 then v4 else r k) := em_up (j := 3) em7 (by rw [e9, st_s]) (fun k k0 k1 => by rcases k8 k k0 k1 with rfl | rfl | rfl | rfl | rfl | rfl | rfl | rfl <;> simp)
        have em11 : em_ m11 (fun k => if k = 6 then v10 else if k = 3 then r 3 + v8 else if k = 1 then v6 else if k = 4 then v4 else r k) := em_up (j := 6) em9 (by rw [e11, st_s]) (fun k k0 k1 => by rcases k8 k k0 k1 with rfl | rfl | rfl | rfl | rfl | rfl | rfl | rfl <;> simp)
        have em13 : em_ m13 (fun k => if k = 7 then v12 else if k = 6 then v10 else if k = 3 then r 3 + v8 else if k = 1 then v6 else if k = 4 then v4 else r k) := em_up (j := 7) em11 (by rw [e13, st_s]) (fun k k0 k1 => by rcases k8 k k0 k1 with rfl | rfl | rfl | rfl | rfl | rfl | rfl | rfl <;> simp)
        have f13 : fr_ [14] m m13 := by rw [e13, e11, e9, e7, e5]; exact fr_tr f3 (fr_tr (fr_st (by simp)) (fr_tr (fr_st (by simp)) (fr_tr (fr_st (by simp)) (fr_tr (fr_st (by simp)) (fr_st (by simp))))))
        have b4 : 0 ≤ v4 ∧ v4 ≤ 600 := by rw [h4]; split <;> omega
        have b10 : 0 ≤ v10 ∧ v10 ≤ 600 := by rw [h10]; split <;> omega
        have b12 : 0 ≤ v12 ∧ v12 ≤ 600 := by rw [h12]; split <;> omega
        refine ⟨_, sp_X10_shortens em13 (by simp; ((try unfold am_in); (try unfold in_ at *); omega)) (by simp; ((try unfold am_in); (try unfold in_ at *); omega)) (by simp; ((try unfold am_in); (try unfold in_ at *); omega)), fun m15 ⟨f15, e15⟩ => ?_⟩
        have f15' := fr_tr f13 f15
        -- what the row becomes
        obtain ⟨R, hR⟩ : ∃ R, R = (if r 1 < a then spl1 r (a - r 1) else shf (spl2 r (b - r 1)) (a - b)) := ⟨_, rfl⟩
        have em15 : em_ m15 R := fun k k0 k1 => by
          rw [e15 k k0 k1, hR]
          by_cases q : r 1 < a
          · rw [if_pos q] at h4 h6 h8 h10 h12 ⊢
            rcases k8 k k0 k1 with rfl | rfl | rfl | rfl | rfl | rfl | rfl | rfl <;> simp [shR, spl1] <;> (repeat' split) <;> omega
          · rw [if_neg q] at h4 h6 h8 h10 h12 ⊢
            rcases k8 k k0 k1 with rfl | rfl | rfl | rfl | rfl | rfl | rfl | rfl <;> simp [shR, spl2, shf] <;> (repeat' split) <;> omega
        have g15 : tr_ m15 (P' ++ r :: B.flatMap (cuF a b)) := tr_r1 (f15' 1 (by decide)) g3'
        have : ∀ (j : Nat) (x : Int) (m' : am_M), x + j = 8 → 0 ≤ x → wr_c m15 m' n R x → at_I kR 5 mX10_cuts 417 [vR 0, vI a, vI b, vU, vI (L.map (ovl_ a b)).sum, vI (b - a), vI n, vI (r 1), vI (r 1 + (r 4)), vI v1, vI (r 7), vI x] [] m' (fun z m => lz_ μ m z (r_cut L H a b)) := by
          intro j
          induction j with
          | succ j ihj =>
            intro x m' hx x0 hw
            exact vc_X10_cuts_417 ⟨fun q => by omega, fun q => ⟨(by (try unfold am_in); (try unfold in_ at *); omega), (by (try unfold am_in); (try unfold in_ at *); omega), (by (try unfold am_in); (try unfold in_ at *); omega), x0, q, by omega, by omega, fun m2 e2 => ⟨(by (try unfold am_in); (try unfold in_ at *); omega), ihj (x + 1) m2 (by omega) (by omega) (wr_s hw (by omega) x0 em15 q e2)⟩⟩⟩
          | zero =>
            intro x m' hx x0 hw
            have ex : x = 8 := by omega
            subst ex
            obtain ⟨t1, t2, t3⟩ := wr_e hw g15 hc (by omega)
            have f' : fr_ [1, 14] m m' := fr_tr (fr_up f15' (by simp)) (fr_up t1 (by simp))
            have fv' : fv_ m m' := fv_tr (fv_e (f15' 1 (by decide))) t2
            refine vc_X10_cuts_417 ⟨fun _ => ⟨fun c4 => ?_, fun c4 => ⟨(by (try unfold am_in); (try unfold in_ at *); omega), ?_⟩⟩, fun q => by omega⟩
            · -- two parts
              have two : r 1 < a ∧ b < r 1 + r 4 := by
                by_cases w1 : r 1 < a
                · rw [if_pos w1] at hv1
                  by_cases w2 : b < r 1 + r 4
                  · exact ⟨w1, w2⟩
                  · rw [if_neg w2] at hv1; exact absurd hv1 c4
                · rw [if_neg w1] at hv1; exact absurd hv1 c4
              rw [if_pos two.1] at hR
              subst hR
              have em : em_ m' (spl1 r (a - r 1)) := em_fr t1 (by decide) em15
              obtain ⟨-, -, -, y3, -⟩ := em_0 em
              have z3 : spl1 r (a - r 1) 3 = r 3 := by simp [spl1]
              rw [z3] at y3
              intro m1 e1
              refine ⟨(by (try unfold am_in); (try unfold in_ at *); omega), by rw [y3]; ((try unfold am_in); (try unfold in_ at *); omega), fun m2 e2 => ⟨(by (try unfold am_in); (try unfold in_ at *); omega), fun m3 e3 m4 e4 m5 e5 => ?_⟩⟩
              rw [y3] at e2
              have em1 : em_ m1 (fun k => if k = 1 then a else spl1 r (a - r 1) k) := em_up (j := 1) em (by rw [e1, st_s]) (fun k k0 k1 => by rcases k8 k k0 k1 with rfl | rfl | rfl | rfl | rfl | rfl | rfl | rfl <;> simp)
              have em2 : em_ m2 (fun k => if k = 3 then r 3 + (b - r 1) else if k = 1 then a else spl1 r (a - r 1) k) := em_up (j := 3) em1 (by rw [e2, st_s]) (fun k k0 k1 => by rcases k8 k k0 k1 with rfl | rfl | rfl | rfl | rfl | rfl | rfl | rfl <;> simp)
              have em3 : em_ m3 (fun k => if k = 4 then r 1 + r 4 - b else if k = 3 then r 3 + (b - r 1) else if k = 1 then a else spl1 r (a - r 1) k) := em_up (j := 4) em2 (by rw [e3, st_s]) (fun k k0 k1 => by rcases k8 k k0 k1 with rfl | rfl | rfl | rfl | rfl | rfl | rfl | rfl <;> simp)
              have em4 : em_ m4 (fun k => if k = 6 then 0 else if k = 4 then r 1 + r 4 - b else if k = 3 then r 3 + (b - r 1) else if k = 1 then a else spl1 r (a - r 1) k) := em_up (j := 6) em3 (by rw [e4, st_s]) (fun k k0 k1 => by rcases k8 k k0 k1 with rfl | rfl | rfl | rfl | rfl | rfl | rfl | rfl <;> simp)
              have em5 : em_ m5 (fun k => if k = 7 then r 7 else if k = 6 then 0 else if k = 4 then r 1 + r 4 - b else if k = 3 then r 3 + (b - r 1) else if k = 1 then a else spl1 r (a - r 1) k) := em_up (j := 7) em4 (by rw [e5, st_s]) (fun k k0 k1 => by rcases k8 k k0 k1 with rfl | rfl | rfl | rfl | rfl | rfl | rfl | rfl <;> simp)
              have f5 : fr_ [14] m' m5 := by rw [e5, e4, e3, e2, e1]; exact fr_tr (fr_st (by simp)) (fr_tr (fr_st (by simp)) (fr_tr (fr_st (by simp)) (fr_tr (fr_st (by simp)) (fr_st (by simp)))))
              refine ⟨_, sp_X10_shortens em5 (by simp; ((try unfold am_in); (try unfold in_ at *); omega)) (by simp; ((try unfold am_in); (try unfold in_ at *); omega)) (by simp; ((try unfold am_in); (try unfold in_ at *); omega)), fun m7 ⟨f7, e7⟩ => ?_⟩
              have em7 : em_ m7 (shf (spl2 r (b - r 1)) (a - b)) := fun k k0 k1 => by
                rw [e7 k k0 k1]
                rcases k8 k k0 k1 with rfl | rfl | rfl | rfl | rfl | rfl | rfl | rfl <;> simp [shR, spl1, spl2, shf] <;> (repeat' split) <;> omega
              have f7' := fr_tr f5 f7
              have t3' : tr_ m7 ((P' ++ [spl1 r (a - r 1)]) ++ B.flatMap (cuF a b)) := tr_r1 (f7' 1 (by decide)) (by simpa using t3)
              have l7 : ((P' ++ [spl1 r (a - r 1)]) ++ B.flatMap (cuF a b)).length ≤ 47 := by
                rw [List.length_append, List.length_append, List.length_singleton]
                omega
              refine ⟨_, sp_X10_lays t3' em7 l7, fun z8 m9 ⟨hz, f9, v9, t9⟩ => ⟨(by (try unfold am_in); (try unfold in_ at *); omega), ?_⟩⟩
              have w0 : shf (spl2 r (b - r 1)) (a - b) 0 = r 0 := by simp [spl2, shf]
              have w1 : shf (spl2 r (b - r 1)) (a - b) 1 = a := by simp [spl2, shf]; omega
              have ia := ins_at (r := shf (spl2 r (b - r 1)) (a - b)) (A := P' ++ [spl1 r (a - r 1)]) (B := B.flatMap (cuF a b)) (fun y qa => by
                unfold lsR
                simp only [decide_eq_true_eq]
                rw [w0, w1]
                rcases List.mem_append.mp qa with qa | qa
                · have o1 := p1 y qa
                  have o2 := hok y (by rw [hL']; simp [qa])
                  unfold bfr_ at o1
                  unfold okC in_ at o2
                  omega
                · simp at qa
                  rw [qa]
                  right
                  simp [spl1]
                  omega) (fun y qb => by
                unfold lsR
                simp only [decide_eq_false_iff_not]
                rw [w0, w1]
                obtain ⟨s, s1, s2⟩ := List.mem_flatMap.mp qb
                have o1 := p2 s s1
                unfold bfr_ at o1
                unfold cuF at s2
                rcases List.mem_append.mp s2 with s3 | s3
                · split at s3
                  · simp at s3
                    have y01 : y 0 = s 0 ∧ y 1 = s 1 := by
                      rw [s3]
                      split
                      · exact ⟨rfl, rfl⟩
                      · simp [spl1]
                    omega
                  · simp at s3
                · split at s3
                  · simp at s3
                    have y01 : y 0 = s 0 ∧ a ≤ y 1 := by
                      rw [s3]
                      split
                      · simp [shf]; omega
                      · simp [shf, spl2]; omega
                    omega
                  · simp at s3)
              rw [ia.1] at t9
              refine go [spl1 r (a - r 1), shf (spl2 r (b - r 1)) (a - b)] m9 ?_ (fr_tr f' (fr_tr (fr_up f7' (by simp)) (fr_up f9 (by simp)))) (fv_tr fv' (fv_tr (fv_e (f7' 1 (by decide))) v9)) (by simpa using t9)
              unfold cuF
              rw [if_pos two.1, if_pos two.2, if_neg (by omega), if_neg (by omega)]
              rfl
            · refine go [R] m' ?_ f' fv' (by simpa using t3)
              unfold cuF
              by_cases w1 : r 1 < a
              · rw [if_pos w1] at hv1 hR
                have w2 : ¬ b < r 1 + r 4 := fun w2 => by rw [if_pos w2] at hv1; omega
                rw [if_pos w1, if_neg w2, if_neg (by omega), hR]
                rfl
              · rw [if_neg w1] at hR
                rw [if_neg w1, if_pos (by omega), if_neg (by omega), hR]
                rfl
        exact this 8 0 m15 (by omega) (by omega) wr_0
      have shift : b ≤ r 1 → (am_in (8 * (n : Int))) ∧ ((am_in (26 + (8 * (n : Int)))) ∧ ((am_in ((26 + (8 * (n : Int))) + 1)) ∧ ((0 ≤ (26 + (8 * (n : Int))) + 1) ∧ ((26 + (8 * (n : Int))) + 1 < 470) ∧ ((am_in ((r 1) - (b - a))) ∧ ((0 ≤ (26 + (8 * (n : Int))) + 1) ∧ ((26 + (8 * (n : Int))) + 1 < 470) ∧ (∀ m22 : am_M, m22 = am_st m 1 (am_up (m 1) ((26 + (8 * (n : Int))) + 1).toNat ((r 1) - (b - a))) → (am_in ((n : Int) - 1)) ∧ (at_I kR 5 mX10_cuts 184 [vR 0, vI a, vI b, vU, vI (L.map (ovl_ a b)).sum, vI (b - a), vI ((n : Int) - 1), vU, vU, vU, vU, vU] [] m22 (fun z m => lz_ μ m z (r_cut L H a b))))))))) := fun q => by
        refine ⟨(by (try unfold am_in); (try unfold in_ at *); omega), (by (try unfold am_in); (try unfold in_ at *); omega), (by (try unfold am_in); (try unfold in_ at *); omega), by omega, by omega, (by (try unfold am_in); (try unfold in_ at *); omega), by omega, by omega, fun m2 e2 => ⟨(by (try unfold am_in); (try unfold in_ at *); omega), ?_⟩⟩
        obtain ⟨t1, t2, t3⟩ := tr_up (s := shf r (a - b)) g3' hc (by omega) (by omega) (by omega) e2 (fun k k0 k1 => by
          unfold shf
          by_cases q5 : k = 1
          · rw [if_pos q5, if_pos q5]; omega
          · rw [if_neg q5, if_neg q5])
        refine go [shf r (a - b)] m2 ?_ (fr_up t1 (by simp)) t2 (by simpa using t3)
        unfold cuF
        rw [if_neg (by omega), if_pos (by omega), if_pos q]
        rfl
      refine vc_X10_cuts_184 ⟨fun q => by omega, fun q => ⟨(by (try unfold am_in); (try unfold in_ at *); omega), (by (try unfold am_in); (try unfold in_ at *); omega), (by (try unfold am_in); (try unfold in_ at *); omega), (by (try unfold am_in); (try unfold in_ at *); omega), ?_⟩⟩
      rw [v 1 (by omega) (by omega), v 4 (by omega) (by omega), v1']
      refine ⟨(by (try unfold am_in); (try unfold in_ at *); omega), fun d1 => ⟨fun d2 => ⟨fun d3 => part d3 d1 (Or.inl d2), fun d3 => shift d3⟩, fun d2 => ⟨fun d4 => ⟨fun d3 => part d3 d1 (Or.inr d4), fun d3 => shift d3⟩, fun d4 => ?_⟩⟩, fun d1 => ⟨(by (try unfold am_in); (try unfold in_ at *); omega), ?_⟩⟩
      · refine ⟨_, sp_X10_drops g3' hc (by omega), fun m2 ⟨t1, t2, t3⟩ => ⟨(by (try unfold am_in); (try unfold in_ at *); omega), ?_⟩⟩
        refine go [] m2 ?_ (fr_up t1 (by simp)) t2 (by simpa using t3)
        unfold cuF
        rw [if_neg (by omega), if_neg (by omega)]
        rfl
      · refine go [r] m ?_ fr_rf fv_rf (by simpa using g3')
        unfold cuF
        rw [if_pos (by omega), if_pos d1, if_neg (by omega)]
        rfl
  have first : ∀ (B A : List Rw) (x y s : Int), L = A ++ B → x = A.length → y = ((A.flatMap (cuF a b)).length : Int) - A.length → s = (A.map (ovl_ a b)).sum → 0 ≤ s → s ≤ 200 * x → - x ≤ y → y ≤ x → at_I kR 5 mX10_cuts 27 [vR 0, vI a, vI b, vI y, vI s, vI x, vU, vU, vU, vU, vU, vU] [] μ (fun z m => lz_ μ m z (r_cut L H a b)) := by
    intro B
    induction B with
    | nil =>
      intro A x y s hA hx hy hsum s0 s1 y0 y1
      rw [List.append_nil] at hA
      have lA : L.length = A.length := by rw [hA]
      rw [← hA] at hy hsum
      refine vc_X10_cuts_27 ⟨fun _ => ⟨(by (try unfold am_in); (try unfold in_ at *); omega), fun c => ⟨(by (try unfold am_in); (try unfold in_ at *); omega), (by (try unfold am_in); (try unfold in_ at *); omega), ?_⟩, fun c => ?_⟩, fun q => by omega⟩
      · rw [hsum, show μ 1 25 - 1 = (L.length : Int) - 1 by omega]
        exact third (by omega) L.length L [] μ rfl (by simp) fr_rf fe_rf (by simpa using ht) hh
      · rw [e0.trans (cif_t (by omega))]
        exact ⟨rfl, fr_rf, fe_rf, ht, hh⟩
    | cons r B ih =>
      intro A x y s hA hx hy hsum s0 s1 y0 y1
      have lA : L.length = A.length + 1 + B.length := by rw [hA]; simp; omega
      have ht' := ht
      rw [hA] at ht'
      have v := fun k k0 k1 => tr_at (k := k) ht' hx k0 k1
      have ro := hok r (by rw [hA]; simp)
      unfold okC in_ at ro
      refine vc_X10_cuts_27 ⟨fun q => by omega, fun q => ⟨(by (try unfold am_in); (try unfold in_ at *); omega), (by (try unfold am_in); (try unfold in_ at *); omega), (by (try unfold am_in); (try unfold in_ at *); omega), (by (try unfold am_in); (try unfold in_ at *); omega), ?_⟩⟩
      rw [v 1 (by omega) (by omega), v 4 (by omega) (by omega)]
      have nl := cuF_n c2 (r := r) (by omega)
      have ob := ovl_b (a := a) (b := b) (r := r) (by omega)
      refine ⟨(by (try unfold am_in); (try unfold in_ at *); omega), fun v1 h1 => ⟨?_, fun v2 h2 v3 h3 => ⟨fun _ => ?_, fun v4 h4 => ?_⟩⟩⟩
      · have : -1 ≤ v1 ∧ v1 ≤ 1 := by rw [h1]; (repeat' split) <;> omega
        ((try unfold am_in); (try unfold in_ at *); omega)
      · have : 0 ≤ v2 ∧ v2 ≤ 600 := by rw [h2]; (repeat' split) <;> omega
        have : 0 ≤ v3 ∧ v3 ≤ 600 := by rw [h3]; (repeat' split) <;> omega
        ((try unfold am_in); (try unfold in_ at *); omega)
      · have e1 : v1 = ((cuF a b r).length : Int) - 1 := by rw [nl, h1]; (repeat' split) <;> omega
        have e4 : v4 = ovl_ a b r := by rw [h4, h2, h3]; rfl
        have b1 : -1 ≤ v1 ∧ v1 ≤ 1 := by rw [h1]; (repeat' split) <;> omega
        rw [← e4] at ob
        refine ⟨(by (try unfold am_in); (try unfold in_ at *); omega), (by (try unfold am_in); (try unfold in_ at *); omega), ih (A ++ [r]) _ _ _ (by rw [hA]; simp) (by simp; omega) ?_ ?_ (by omega) (by omega) (by omega) (by omega)⟩
        · rw [List.flatMap_append, List.length_append, hy, e1]
          simp
          omega
        · rw [sum_app, hsum, e4]
          simp
  exact first L [] 0 0 0 (by simp) rfl (by simp) (by simp) (by omega) (by omega) (by omega) (by omega)

/-! the reference reads a text -/
theorem vc_X10_here_0 {μ : am_M} {Q : Int → am_M → Prop} (h : ((μ 0 24 < μ 0 23 → (0 ≤ μ 0 24) ∧ (μ 0 24 < 60))) ∧ (∀ v1 : Int, v1 = (if μ 0 24 < μ 0 23 then μ 17 ((μ 0 24).toNat) else (-1)) → Q v1 μ)) : at_I kR 1 mX10_here 0 [vR 0] [] μ Q := by
  refine s_aload_n dX10_here_0 rfl rfl ?_
  refine s_getI (x := (μ 0 24)) dX10_here_1 flX10_246 rn0 rk0 rfl rfl ?_
  refine s_aload_n dX10_here_4 rfl rfl ?_
  refine s_getI (x := (μ 0 23)) dX10_here_5 flX10_243 rn0 rk0 rfl rfl ?_
  obtain ⟨hsd, h⟩ := h
  have kj2 : ∀ (v1 : Int), (Q v1 μ) → at_I kR 1 mX10_here 24 [vU] [vI v1] μ Q := by
    intro v1 h
    exact s_ireturn dX10_here_24 (Or.inl rfl) ⟨⟨rfl, rfl⟩, _, rfl, h⟩
  refine s_icmp_ge dX10_here_8 (tgt := 23) (by decide) (fun cc => ?_) (fun cc => ?_)
  · have hp0 := cc
    refine s_iconst dX10_here_23 (by decide) ?_
    exact am_lesS (kj2 (-1) (h (-1) (by rw [if_neg (Int.not_lt.mpr hp0)]))) ⟨Or.inl rfl, trivial⟩
  · have hp0 := cc
    have hsd := hsd hp0
    refine s_aload_n dX10_here_11 rfl rfl ?_
    refine s_getR dX10_here_12 flX10_59 rn0 rk0 rfl rr0_22 ?_
    refine s_aload_n dX10_here_15 rfl rfl ?_
    refine s_getI (x := (μ 0 24)) dX10_here_16 flX10_246 rn0 rk0 rfl rfl ?_
    obtain ⟨c, c2⟩ := hsd
    refine s_iald (x := (μ 17 ((μ 0 24).toNat))) dX10_here_19 rn17 rk17 rl17 c c2 rfl ?_
    refine s_goto dX10_here_20 (tgt := 24) (by decide) ?_
    exact am_lesS (kj2 (μ 17 ((μ 0 24).toNat)) (h (μ 17 ((μ 0 24).toNat)) (by rw [if_pos hp0]))) ⟨Or.inl rfl, trivial⟩
theorem ve_X10_here {μ : am_M} {Q : Int → am_M → Prop} (h : at_I kR 1 mX10_here 0 [vR 0] [] μ Q) : cl_I kR 1 mX10_here [vR 0] μ Q := am_intro pmX10_here (Nat.le_of_ble_eq_true rfl) rfl h
theorem sp_X10_here {μ : am_M} {Q : Int → am_M → Prop} (h0 : μ 0 23 ≤ 60) (h1 : 0 ≤ μ 0 24) (hQ : Q (hr_ (μ 17) (μ 0 23) (μ 0 24)) μ) : cl_I kR 1 mX10_here [vR 0] μ Q :=
  ve_X10_here (vc_X10_here_0 ⟨fun h => ⟨(by (try unfold am_in); (try unfold in_ at *); omega), (by (try unfold am_in); (try unfold in_ at *); omega)⟩, fun v e => by rw [e]; exact hQ⟩)
def sgR (c : Int) : Int := if sgn_ c = -6 then 0 else sgn_ c
theorem vc_X10_signOf_0 {x0 : Int} {μ : am_M} {Q : Int → am_M → Prop} (h : ∀ v1 : Int, v1 = (if x0 = 120 then 45 else (if x0 = 105 then 43 else (if x0 = 115 then 64 else (if x0 = 109 then 64 else (if x0 = 99 then 61 else (if x0 = 100 then 0 else (-1))))))) → Q v1 μ) : at_I kR 1 mX10_signOf 0 [vI x0] [] μ Q := by
  refine s_iload_n dX10_signOf_0 rfl rfl ?_
  refine s_bipush dX10_signOf_1 (by decide) ?_
  have kj2 : ∀ (v1 : Int), (Q v1 μ) → at_I kR 1 mX10_signOf 61 [vU] [vI v1] μ Q := by
    intro v1 h
    exact s_ireturn dX10_signOf_61 (Or.inl rfl) ⟨⟨rfl, rfl⟩, _, rfl, h⟩
  refine s_icmp_ne dX10_signOf_3 (tgt := 11) (by decide) (fun cc => ?_) (fun cc => ?_)
  · have hp0 := cc
    refine s_iload_n dX10_signOf_11 rfl rfl ?_
    refine s_bipush dX10_signOf_12 (by decide) ?_
    refine s_icmp_ne dX10_signOf_14 (tgt := 22) (by decide) (fun cc => ?_) (fun cc => ?_)
    · have hp1 := cc
      refine s_iload_n dX10_signOf_22 rfl rfl ?_
      refine s_bipush dX10_signOf_23 (by decide) ?_
      refine s_icmp_eq dX10_signOf_25 (tgt := 34) (by decide) (fun cc => ?_) (fun cc => ?_)
      · have hp2 := cc
        refine s_bipush dX10_signOf_34 (by decide) ?_
        refine s_goto dX10_signOf_36 (tgt := 61) (by decide) ?_
        exact am_lesS (kj2 64 (h 64 (by rw [if_neg hp0, if_neg hp1, if_pos hp2]))) ⟨Or.inl rfl, trivial⟩
      · have hp2 := cc
        refine s_iload_n dX10_signOf_28 rfl rfl ?_
        refine s_bipush dX10_signOf_29 (by decide) ?_
        refine s_icmp_ne dX10_signOf_31 (tgt := 39) (by decide) (fun cc => ?_) (fun cc => ?_)
        · have hp3 := cc
          refine s_iload_n dX10_signOf_39 rfl rfl ?_
          refine s_bipush dX10_signOf_40 (by decide) ?_
          refine s_icmp_ne dX10_signOf_42 (tgt := 50) (by decide) (fun cc => ?_) (fun cc => ?_)
          · have hp4 := cc
            refine s_iload_n dX10_signOf_50 rfl rfl ?_
            refine s_bipush dX10_signOf_51 (by decide) ?_
            refine s_icmp_ne dX10_signOf_53 (tgt := 60) (by decide) (fun cc => ?_) (fun cc => ?_)
            · have hp5 := cc
              refine s_iconst dX10_signOf_60 (by decide) ?_
              exact am_lesS (kj2 (-1) (h (-1) (by rw [if_neg hp0, if_neg hp1, if_neg hp2, if_neg hp3, if_neg hp4, if_neg hp5]))) ⟨Or.inl rfl, trivial⟩
            · have hp5 := cc
              refine s_iconst dX10_signOf_56 (by decide) ?_
              refine s_goto dX10_signOf_57 (tgt := 61) (by decide) ?_
              exact am_lesS (kj2 0 (h 0 (by rw [if_neg hp0, if_neg hp1, if_neg hp2, if_neg hp3, if_neg hp4, if_pos hp5]))) ⟨Or.inl rfl, trivial⟩
          · have hp4 := cc
            refine s_bipush dX10_signOf_45 (by decide) ?_
            refine s_goto dX10_signOf_47 (tgt := 61) (by decide) ?_
            exact am_lesS (kj2 61 (h 61 (by rw [if_neg hp0, if_neg hp1, if_neg hp2, if_neg hp3, if_pos hp4]))) ⟨Or.inl rfl, trivial⟩
        · have hp3 := cc
          refine s_bipush dX10_signOf_34 (by decide) ?_
          refine s_goto dX10_signOf_36 (tgt := 61) (by decide) ?_
          exact am_lesS (kj2 64 (h 64 (by rw [if_neg hp0, if_neg hp1, if_neg hp2, if_pos hp3]))) ⟨Or.inl rfl, trivial⟩
    · have hp1 := cc
      refine s_bipush dX10_signOf_17 (by decide) ?_
      refine s_goto dX10_signOf_19 (tgt := 61) (by decide) ?_
      exact am_lesS (kj2 43 (h 43 (by rw [if_neg hp0, if_pos hp1]))) ⟨Or.inl rfl, trivial⟩
  · have hp0 := cc
    refine s_bipush dX10_signOf_6 (by decide) ?_
    refine s_goto dX10_signOf_8 (tgt := 61) (by decide) ?_
    exact am_lesS (kj2 45 (h 45 (by rw [if_pos hp0]))) ⟨Or.inl rfl, trivial⟩
theorem ve_X10_signOf {x0 : Int} {μ : am_M} {Q : Int → am_M → Prop} (h : at_I kR 1 mX10_signOf 0 [vI x0] [] μ Q) : cl_I kR 1 mX10_signOf [vI x0] μ Q := am_intro pmX10_signOf (Nat.le_of_ble_eq_true rfl) rfl h
theorem sp_X10_signOf {μ : am_M} {c : Int} {Q : Int → am_M → Prop} (hQ : Q (sgR c) μ) : cl_I kR 1 mX10_signOf [vI c] μ Q := by
  refine ve_X10_signOf (vc_X10_signOf_0 (fun v1 e => ?_))
  have : v1 = sgR c := by
    rw [e]
    unfold sgR sgn_
    (repeat' split) <;> omega
  rw [this]
  exact hQ
theorem vc_X10_number_0 {μ : am_M} {Q : Int → am_M → Prop} (h : at_I kR 2 mX10_number 4 [vR 0, vI 0, vI 0] [] μ Q) : at_I kR 2 mX10_number 0 [vR 0, vU, vU] [] μ Q := by
  refine s_iconst dX10_number_0 (by decide) ?_
  refine s_istore_n dX10_number_1 rfl (by decide) (L' := [vR 0, vI 0, vU]) rfl ?_
  refine s_iconst dX10_number_2 (by decide) ?_
  refine s_istore_n dX10_number_3 rfl (by decide) (L' := [vR 0, vI 0, vI 0]) rfl ?_
  exact h
theorem vc_X10_number_4 {x1 x2 : Int} {μ : am_M} {Q : Int → am_M → Prop} (h : (μ 0 25 ≠ 0 → ∀ v1 : Int, v1 = (if x2 = 0 then 1 else 0) → (am_or (μ 0 25) v1 = 0 ∨ am_or (μ 0 25) v1 = 1) ∧ (∀ m2 : am_M, m2 = am_st μ 0 (am_up (μ 0) 25 (am_or (μ 0 25) v1)) → Q x1 m2)) ∧ (μ 0 25 = 0 → (3 ≤ x2 → ∀ v4 : Int, v4 = (if x2 = 0 then 1 else 0) → (am_or (μ 0 25) v4 = 0 ∨ am_or (μ 0 25) v4 = 1) ∧ (∀ m5 : am_M, m5 = am_st μ 0 (am_up (μ 0) 25 (am_or (μ 0 25) v4)) → Q x1 m5)) ∧ (x2 < 3 → (μ 0 23 ≤ 60) ∧ (0 ≤ μ 0 24) ∧ ((¬ (48 ≤ (hr_ (μ 17) (μ 0 23) (μ 0 24)) ∧ (hr_ (μ 17) (μ 0 23) (μ 0 24)) ≤ 57) → ∀ v7 : Int, v7 = (if x2 = 0 then 1 else 0) → (am_or (μ 0 25) v7 = 0 ∨ am_or (μ 0 25) v7 = 1) ∧ (∀ m8 : am_M, m8 = am_st μ 0 (am_up (μ 0) 25 (am_or (μ 0 25) v7)) → Q x1 m8)) ∧ (48 ≤ (hr_ (μ 17) (μ 0 23) (μ 0 24)) ∧ (hr_ (μ 17) (μ 0 23) (μ 0 24)) ≤ 57 → (am_in (10 * x1)) ∧ ((μ 0 23 ≤ 60) ∧ (0 ≤ μ 0 24) ∧ ((am_in ((10 * x1) + (hr_ (μ 17) (μ 0 23) (μ 0 24)))) ∧ ((am_in (((10 * x1) + (hr_ (μ 17) (μ 0 23) (μ 0 24))) - 48)) ∧ ((am_in (x2 + 1)) ∧ ((am_in (μ 0 24 + 1)) ∧ (∀ m10 : am_M, m10 = am_st μ 0 (am_up (μ 0) 24 (μ 0 24 + 1)) → at_I kR 2 mX10_number 4 [vR 0, vI (((10 * x1) + (hr_ (μ 17) (μ 0 23) (μ 0 24))) - 48), vI (x2 + 1)] [] m10 Q))))))))))) : at_I kR 2 mX10_number 4 [vR 0, vI x1, vI x2] [] μ Q := by
  refine s_aload_n dX10_number_4 rfl rfl ?_
  refine s_getI (x := (μ 0 25)) dX10_number_5 flX10_249 rn0 rk0 rfl rfl ?_
  refine s_if_ne dX10_number_8 (tgt := 59) (by decide) (fun cc => ?_) (fun cc => ?_)
  · have h := h.1 cc
    refine s_aload_n dX10_number_59 rfl rfl ?_
    refine s_dup dX10_number_60 ?_
    refine s_getI (x := (μ 0 25)) dX10_number_61 flX10_249 rn0 rk0 rfl rfl ?_
    refine s_iload_n dX10_number_64 rfl rfl ?_
    have kj3 : ∀ (v1 : Int), ((am_or (μ 0 25) v1 = 0 ∨ am_or (μ 0 25) v1 = 1) ∧ (∀ m2 : am_M, m2 = am_st μ 0 (am_up (μ 0) 25 (am_or (μ 0 25) v1)) → Q x1 m2)) → at_I kR 2 mX10_number 73 [vU, vI x1, vU] [vI v1, vI (μ 0 25), vR 0] μ Q := by
      intro v1 h
      refine s_ior dX10_number_73 rfl ?_
      obtain ⟨c, h⟩ := h
      obtain ⟨m2, hm2⟩ : ∃ x : am_M, x = am_st μ 0 (am_up (μ 0) 25 (am_or (μ 0 25) v1)) := ⟨_, rfl⟩
      have h := h m2 hm2
      refine s_putI dX10_number_74 flX10_249 rn0 rk0 rfl rfl (Or.inr c) hm2.symm ?_
      refine s_iload_n dX10_number_77 rfl rfl ?_
      exact s_ireturn dX10_number_78 (Or.inl rfl) ⟨⟨rfl, rfl⟩, _, rfl, h⟩
    refine s_if_ne dX10_number_65 (tgt := 72) (by decide) (fun cc => ?_) (fun cc => ?_)
    · have hp0 := cc
      refine s_iconst dX10_number_72 (by decide) ?_
      exact am_lesS (kj3 0 (h 0 (by rw [if_neg hp0]))) ⟨Or.inl rfl, Or.inr rfl, Or.inl rfl, trivial⟩
    · have hp0 := cc
      refine s_iconst dX10_number_68 (by decide) ?_
      refine s_goto dX10_number_69 (tgt := 73) (by decide) ?_
      exact am_lesS (kj3 1 (h 1 (by rw [if_pos hp0]))) ⟨Or.inl rfl, Or.inr rfl, Or.inl rfl, trivial⟩
  · have h := h.2 cc
    refine s_iload_n dX10_number_11 rfl rfl ?_
    refine s_iconst dX10_number_12 (by decide) ?_
    refine s_icmp_ge dX10_number_13 (tgt := 59) (by decide) (fun cc => ?_) (fun cc => ?_)
    · have h := h.1 cc
      refine s_aload_n dX10_number_59 rfl rfl ?_
      refine s_dup dX10_number_60 ?_
      refine s_getI (x := (μ 0 25)) dX10_number_61 flX10_249 rn0 rk0 rfl rfl ?_
      refine s_iload_n dX10_number_64 rfl rfl ?_
      have kj6 : ∀ (v4 : Int), ((am_or (μ 0 25) v4 = 0 ∨ am_or (μ 0 25) v4 = 1) ∧ (∀ m5 : am_M, m5 = am_st μ 0 (am_up (μ 0) 25 (am_or (μ 0 25) v4)) → Q x1 m5)) → at_I kR 2 mX10_number 73 [vU, vI x1, vU] [vI v4, vI (μ 0 25), vR 0] μ Q := by
        intro v4 h
        refine s_ior dX10_number_73 rfl ?_
        obtain ⟨c, h⟩ := h
        obtain ⟨m5, hm5⟩ : ∃ x : am_M, x = am_st μ 0 (am_up (μ 0) 25 (am_or (μ 0 25) v4)) := ⟨_, rfl⟩
        have h := h m5 hm5
        refine s_putI dX10_number_74 flX10_249 rn0 rk0 rfl rfl (Or.inr c) hm5.symm ?_
        refine s_iload_n dX10_number_77 rfl rfl ?_
        exact s_ireturn dX10_number_78 (Or.inl rfl) ⟨⟨rfl, rfl⟩, _, rfl, h⟩
      refine s_if_ne dX10_number_65 (tgt := 72) (by decide) (fun cc => ?_) (fun cc => ?_)
      · have hp0 := cc
        refine s_iconst dX10_number_72 (by decide) ?_
        exact am_lesS (kj6 0 (h 0 (by rw [if_neg hp0]))) ⟨Or.inl rfl, Or.inr rfl, Or.inl rfl, trivial⟩
      · have hp0 := cc
        refine s_iconst dX10_number_68 (by decide) ?_
        refine s_goto dX10_number_69 (tgt := 73) (by decide) ?_
        exact am_lesS (kj6 1 (h 1 (by rw [if_pos hp0]))) ⟨Or.inl rfl, Or.inr rfl, Or.inl rfl, trivial⟩
    · have h := h.2 cc
      refine s_aload_n dX10_number_16 rfl rfl ?_
      obtain ⟨p0, p1, h⟩ := h
      refine s_callV (As := []) (rest := []) (k := 0) dX10_number_17 lkX10_252 rn0 ⟨by rw [rk0]; rfl, by rw [rk0]; decide⟩ lmX10_here rfl rfl (Nat.le_of_ble_eq_true rfl) (by decide) (Nat.le_refl 0) (Nat.le_refl 0) (hC := sp_X10_here (Q := fun z m => hr_ (μ 17) (μ 0 23) (μ 0 24) = z ∧ μ = m) p0 p1 ⟨rfl, rfl⟩) (fun r n2 S2 m2 hP => ?_)
      obtain ⟨⟨rfl, rfl⟩, z, rfl, rfl, rfl⟩ := hP
      refine s_bipush dX10_number_20 (by decide) ?_
      refine s_bipush dX10_number_22 (by decide) ?_
      refine s_callS (As := [vI (hr_ (μ 17) (μ 0 23) (μ 0 24)), vI 48, vI 57]) (rest := []) dX10_number_24 lkX10_103 lmX10_isIn rfl rfl (Nat.le_of_ble_eq_true rfl) (by decide) (Nat.le_refl 0) (Nat.le_refl 0) (hC := sp_X10_isIn (Q := fun z m => bI (48 ≤ (hr_ (μ 17) (μ 0 23) (μ 0 24)) ∧ (hr_ (μ 17) (μ 0 23) (μ 0 24)) ≤ 57) = z ∧ μ = m)  ⟨rfl, rfl⟩) (fun r n2 S2 m2 hP => ?_)
      obtain ⟨⟨rfl, rfl⟩, z, rfl, rfl, rfl⟩ := hP
      refine s_if_eq dX10_number_27 (tgt := 59) (by decide) (fun cc => ?_) (fun cc => ?_)
      · have h := h.1 (bI_eq cc)
        refine s_aload_n dX10_number_59 rfl rfl ?_
        refine s_dup dX10_number_60 ?_
        refine s_getI (x := (μ 0 25)) dX10_number_61 flX10_249 rn0 rk0 rfl rfl ?_
        refine s_iload_n dX10_number_64 rfl rfl ?_
        have kj9 : ∀ (v7 : Int), ((am_or (μ 0 25) v7 = 0 ∨ am_or (μ 0 25) v7 = 1) ∧ (∀ m8 : am_M, m8 = am_st μ 0 (am_up (μ 0) 25 (am_or (μ 0 25) v7)) → Q x1 m8)) → at_I kR 2 mX10_number 73 [vU, vI x1, vU] [vI v7, vI (μ 0 25), vR 0] μ Q := by
          intro v7 h
          refine s_ior dX10_number_73 rfl ?_
          obtain ⟨c, h⟩ := h
          obtain ⟨m8, hm8⟩ : ∃ x : am_M, x = am_st μ 0 (am_up (μ 0) 25 (am_or (μ 0 25) v7)) := ⟨_, rfl⟩
          have h := h m8 hm8
          refine s_putI dX10_number_74 flX10_249 rn0 rk0 rfl rfl (Or.inr c) hm8.symm ?_
          refine s_iload_n dX10_number_77 rfl rfl ?_
          exact s_ireturn dX10_number_78 (Or.inl rfl) ⟨⟨rfl, rfl⟩, _, rfl, h⟩
        refine s_if_ne dX10_number_65 (tgt := 72) (by decide) (fun cc => ?_) (fun cc => ?_)
        · have hp0 := cc
          refine s_iconst dX10_number_72 (by decide) ?_
          exact am_lesS (kj9 0 (h 0 (by rw [if_neg hp0]))) ⟨Or.inl rfl, Or.inr rfl, Or.inl rfl, trivial⟩
        · have hp0 := cc
          refine s_iconst dX10_number_68 (by decide) ?_
          refine s_goto dX10_number_69 (tgt := 73) (by decide) ?_
          exact am_lesS (kj9 1 (h 1 (by rw [if_pos hp0]))) ⟨Or.inl rfl, Or.inr rfl, Or.inl rfl, trivial⟩
      · have h := h.2 (bI_ne cc)
        refine s_bipush dX10_number_30 (by decide) ?_
        refine s_iload_n dX10_number_32 rfl rfl ?_
        obtain ⟨c, h⟩ := h
        refine s_imul dX10_number_33 (am_w_id c) ?_
        refine s_aload_n dX10_number_34 rfl rfl ?_
        obtain ⟨p0, p1, h⟩ := h
        refine s_callV (As := []) (rest := [vI (10 * x1)]) (k := 0) dX10_number_35 lkX10_252 rn0 ⟨by rw [rk0]; rfl, by rw [rk0]; decide⟩ lmX10_here rfl rfl (Nat.le_of_ble_eq_true rfl) (by decide) (Nat.le_refl 0) (Nat.le_refl 0) (hC := sp_X10_here (Q := fun z m => hr_ (μ 17) (μ 0 23) (μ 0 24) = z ∧ μ = m) p0 p1 ⟨rfl, rfl⟩) (fun r n2 S2 m2 hP => ?_)
        obtain ⟨⟨rfl, rfl⟩, z, rfl, rfl, rfl⟩ := hP
        obtain ⟨c, h⟩ := h
        refine s_iadd dX10_number_38 (am_w_id c) ?_
        refine s_bipush dX10_number_39 (by decide) ?_
        obtain ⟨c, h⟩ := h
        refine s_isub dX10_number_41 (am_w_id c) ?_
        refine s_istore_n dX10_number_42 rfl (by decide) (L' := [vR 0, vI (((10 * x1) + (hr_ (μ 17) (μ 0 23) (μ 0 24))) - 48), vI x2]) rfl ?_
        obtain ⟨c, h⟩ := h
        refine s_iinc dX10_number_43 rfl (am_w_id c) (by decide) (L' := [vR 0, vI (((10 * x1) + (hr_ (μ 17) (μ 0 23) (μ 0 24))) - 48), vI (x2 + 1)]) rfl ?_
        refine s_aload_n dX10_number_46 rfl rfl ?_
        refine s_dup dX10_number_47 ?_
        refine s_getI (x := (μ 0 24)) dX10_number_48 flX10_246 rn0 rk0 rfl rfl ?_
        refine s_iconst dX10_number_51 (by decide) ?_
        obtain ⟨c, h⟩ := h
        refine s_iadd dX10_number_52 (am_w_id c) ?_
        obtain ⟨m10, hm10⟩ : ∃ x : am_M, x = am_st μ 0 (am_up (μ 0) 24 (μ 0 24 + 1)) := ⟨_, rfl⟩
        have h := h m10 hm10
        refine s_putI dX10_number_53 flX10_246 rn0 rk0 rfl rfl (Or.inl rfl) hm10.symm ?_
        refine s_goto dX10_number_56 (tgt := 4) (by decide) ?_
        exact h
theorem ve_X10_number {μ : am_M} {Q : Int → am_M → Prop} (h : at_I kR 2 mX10_number 0 [vR 0, vU, vU] [] μ Q) : cl_I kR 2 mX10_number [vR 0] μ Q := am_intro pmX10_number (Nat.le_of_ble_eq_true rfl) rfl h
/-- only the place and the fault have changed -/
def plR (μ m : am_M) (p f : Int) : Prop := fr_ [0] μ m ∧ (∀ j, j ≠ 24 → j ≠ 25 → m 0 j = μ 0 j) ∧ m 0 24 = p ∧ m 0 25 = f
theorem plR_p {μ m m2 : am_M} {p f q : Int} (h : plR μ m p f) (e : m2 = am_st m 0 (am_up (m 0) 24 q)) : plR μ m2 q f := ⟨by rw [e]; exact fr_tr h.1 (fr_st (by simp)), fun j a b => by rw [e, st_s, up_n a]; exact h.2.1 j a b, by rw [e, st_s, up_s], by rw [e, st_s, up_n (by decide)]; exact h.2.2.2⟩
theorem plR_f {μ m m2 : am_M} {p f q : Int} (h : plR μ m p f) (e : m2 = am_st m 0 (am_up (m 0) 25 q)) : plR μ m2 p q := ⟨by rw [e]; exact fr_tr h.1 (fr_st (by simp)), fun j a b => by rw [e, st_s, up_n b]; exact h.2.1 j a b, by rw [e, st_s, up_n (by decide)]; exact h.2.2.1, by rw [e, st_s, up_s]⟩
theorem sp_X10_number {μ : am_M} {p : Int} (h0 : in_ 0 61 (μ 0 23)) (hp : 0 ≤ p) (h1 : plR μ μ p 0) : cl_I kR 2 mX10_number [vR 0] μ (fun z m => ((rdn_ (μ 17) (μ 0 23) p).1 < 0 ∧ plR μ m (rdn_ (μ 17) (μ 0 23) p).2 1) ∨ (0 ≤ (rdn_ (μ 17) (μ 0 23) p).1 ∧ z = (rdn_ (μ 17) (μ 0 23) p).1 ∧ plR μ m (rdn_ (μ 17) (μ 0 23) p).2 0)) := by
  unfold in_ at h0
  refine ve_X10_number (vc_X10_number_0 ?_)
  have fin : ∀ (v d : Int) (m : am_M), 0 ≤ d → 0 ≤ v → num_ (μ 17) (μ 0 23) 3 0 p = (v, p + d) → plR μ m (p + d) 0 → ∀ w : Int, w = (if d = 0 then 1 else 0) → (am_or (m 0 25) w = 0 ∨ am_or (m 0 25) w = 1) ∧ (∀ m2 : am_M, m2 = am_st m 0 (am_up (m 0) 25 (am_or (m 0 25) w)) → ((rdn_ (μ 17) (μ 0 23) p).1 < 0 ∧ plR μ m2 (rdn_ (μ 17) (μ 0 23) p).2 1) ∨ (0 ≤ (rdn_ (μ 17) (μ 0 23) p).1 ∧ v = (rdn_ (μ 17) (μ 0 23) p).1 ∧ plR μ m2 (rdn_ (μ 17) (μ 0 23) p).2 0)) := fun v d m hd hv hn hl w hw => by
    have e25 : m 0 25 = 0 := hl.2.2.2
    have eo : am_or (m 0 25) w = w := by
      rw [e25, hw]
      split
      · exact or01.2.1
      · exact or01.1
    rw [eo]
    refine ⟨by rw [hw]; split <;> omega, fun m2 e2 => ?_⟩
    have l2 := plR_f hl e2
    unfold rdn_
    rw [hn]
    by_cases h : d = 0
    · rw [if_pos h] at hw
      rw [hw] at l2
      left
      rw [if_pos (by show p + d = p; omega)]
      exact ⟨by show (-1 : Int) < 0; omega, l2⟩
    · rw [if_neg h] at hw
      rw [hw] at l2
      right
      rw [if_neg (by show ¬ p + d = p; omega)]
      exact ⟨hv, rfl, l2⟩
  have : ∀ (k : Nat) (v d : Int) (m : am_M), d + k = 3 → 0 ≤ d → num_ (μ 17) (μ 0 23) 3 0 p = num_ (μ 17) (μ 0 23) k v (p + d) → 0 ≤ v → ((d = 0 ∧ v = 0) ∨ (d = 1 ∧ v ≤ 9) ∨ (d = 2 ∧ v ≤ 99) ∨ (d = 3 ∧ v ≤ 999)) → plR μ m (p + d) 0 → at_I kR 2 mX10_number 4 [vR 0, vI v, vI d] [] m (fun z m => ((rdn_ (μ 17) (μ 0 23) p).1 < 0 ∧ plR μ m (rdn_ (μ 17) (μ 0 23) p).2 1) ∨ (0 ≤ (rdn_ (μ 17) (μ 0 23) p).1 ∧ z = (rdn_ (μ 17) (μ 0 23) p).1 ∧ plR μ m (rdn_ (μ 17) (μ 0 23) p).2 0)) := by
    intro k
    induction k with
    | zero =>
      intro v d m hd hd0 hn hv0 hv1 hl
      refine vc_X10_number_4 ⟨fun q => absurd hl.2.2.2 q, fun _ => ⟨fun _ => fin v d m hd0 hv0 hn hl, fun q => by omega⟩⟩
    | succ k ih =>
      intro v d m hd hd0 hn hv0 hv1 hl
      have l4 : m 0 23 = μ 0 23 := hl.2.1 23 (by decide) (by decide)
      have c17 : m 17 = μ 17 := hl.1 17 (by decide)
      have eh : hr_ (m 17) (m 0 23) (m 0 24) = hr_ (μ 17) (μ 0 23) (p + d) := by rw [c17, l4, hl.2.2.1]
      have h24 : m 0 24 = p + d := hl.2.2.1
      have hb : 48 ≤ hr_ (μ 17) (μ 0 23) (p + d) → p + d < μ 0 23 := fun h => by
        unfold hr_ at h
        split at h <;> omega
      refine vc_X10_number_4 ⟨fun q => absurd hl.2.2.2 q, fun _ => ⟨fun q => by omega, fun q => ⟨by omega, by omega, ?_⟩⟩⟩
      rw [eh]
      refine ⟨fun c => fin v d m hd0 hv0 ?_ hl, fun c => ⟨(by (try unfold am_in); (try unfold in_ at *); omega), by omega, by omega, (by (try unfold am_in); (try unfold in_ at *); omega), (by (try unfold am_in); (try unfold in_ at *); omega), (by (try unfold am_in); (try unfold in_ at *); omega), by have := hb c.1; ((try unfold am_in); (try unfold in_ at *); omega), fun m2 e2 => ih _ (d + 1) m2 (by omega) (by omega) ?_ (by omega) (by omega) ?_⟩⟩
      · rw [hn]
        show (if _ then _ else _) = _
        rw [if_neg c]
      · rw [hn]
        show (if _ then _ else _) = _
        rw [if_pos c, show v * 10 + hr_ (μ 17) (μ 0 23) (p + d) - 48 = 10 * v + hr_ (μ 17) (μ 0 23) (p + d) - 48 by omega, show p + d + 1 = p + (d + 1) by omega]
      · have := plR_p hl e2
        rw [h24, show p + d + 1 = p + (d + 1) by omega] at this
        exact this
  exact this 3 0 0 μ (by omega) (by omega) (by rw [show p + 0 = p by omega]) (by omega) (by omega) (by rw [show p + 0 = p by omega]; exact h1)
theorem sgR_z (c : Int) : (sgR c = -1 ↔ sgn_ c = -1) ∧ (sgR c = 0 ↔ sgn_ c = -6) ∧ (sgn_ c ≠ -6 → sgR c = sgn_ c) ∧ (sgn_ c = -6 → c = 100) := by
  have : sgn_ c = 61 ∨ sgn_ c = -6 ∧ c = 100 ∨ sgn_ c = 43 ∨ sgn_ c = 64 ∨ sgn_ c = 45 ∨ sgn_ c = -1 := by
    unfold sgn_
    (repeat' split) <;> omega
  unfold sgR
  split <;> omega
theorem vc_X10_command_0 {x1 : Int} {μ : am_M} {Q : am_M → Prop} (h : (μ 0 23 ≤ 60) ∧ (0 ≤ μ 0 24) ∧ ((0 ≤ x1) ∧ (x1 < 60) ∧ (∀ m1 : am_M, m1 = am_st μ 18 (am_up (μ 18) (x1).toNat (hr_ (μ 17) (μ 0 23) (μ 0 24))) → (0 ≤ x1) ∧ (x1 < 60) ∧ (∀ v2 : Int, v2 = sgR (hr_ (μ 17) (μ 0 23) (μ 0 24)) → ∀ v3 : Int, v3 = (if v2 = (-1) then 1 else 0) → (am_or (μ 0 25) v3 = 0 ∨ am_or (μ 0 25) v3 = 1) ∧ (∀ m4 : am_M, m4 = am_st m1 0 (am_up (m1 0) 25 (am_or (μ 0 25) v3)) → (am_or (μ 0 25) v3 = 0 → (am_in (μ 0 24 + 1)) ∧ (∀ m5 : am_M, m5 = am_st m4 0 (am_up (m4 0) 24 (μ 0 24 + 1)) → ∃ P : Int → am_M → Prop, cl_I kR 2 mX10_number [vR 0] m5 P ∧ (∀ (z6 : Int) (m7 : am_M), P z6 m7 → (0 ≤ x1) ∧ (x1 < 60) ∧ (∀ m8 : am_M, m8 = am_st m7 19 (am_up (m7 19) (x1).toNat z6) → (m7 0 25 ≠ 0 → Q m8) ∧ (m7 0 25 = 0 → (v2 ≠ 0 → (m8 0 23 ≤ 60) ∧ (0 ≤ m8 0 24) ∧ (∀ v9 : Int, v9 = hr_ (m8 17) (m8 0 23) (m8 0 24) → ∀ v10 : Int, v10 = (if v9 = v2 then 0 else 1) → (am_or (m7 0 25) v10 = 0 ∨ am_or (m7 0 25) v10 = 1) ∧ (∀ m11 : am_M, m11 = am_st m8 0 (am_up (m8 0) 25 (am_or (m7 0 25) v10)) → (am_or (m7 0 25) v10 = 0 → (am_in (m7 0 24 + 1)) ∧ (∀ m12 : am_M, m12 = am_st m11 0 (am_up (m11 0) 24 (m7 0 24 + 1)) → ∃ P : Int → am_M → Prop, cl_I kR 2 mX10_number [vR 0] m12 P ∧ (∀ (z13 : Int) (m14 : am_M), P z13 m14 → (0 ≤ x1) ∧ (x1 < 60) ∧ (∀ m15 : am_M, m15 = am_st m14 20 (am_up (m14 20) (x1).toNat z13) → Q m15)))) ∧ (am_or (m7 0 25) v10 ≠ 0 → Q m11)))) ∧ (v2 = 0 → Q m8)))))) ∧ (am_or (μ 0 25) v3 ≠ 0 → Q m4)))))) : at_V kR 3 mX10_command 0 [vR 0, vI x1, vU] [] μ Q := by
  refine s_aload_n dX10_command_0 rfl rfl ?_
  refine s_getR dX10_command_1 flX10_66 rn0 rk0 rfl rr0_28 ?_
  refine s_iload_n dX10_command_4 rfl rfl ?_
  refine s_aload_n dX10_command_5 rfl rfl ?_
  obtain ⟨p0, p1, h⟩ := h
  refine s_callV (As := []) (rest := [vI x1, vR 18]) (k := 0) dX10_command_6 lkX10_252 rn0 ⟨by rw [rk0]; rfl, by rw [rk0]; decide⟩ lmX10_here rfl rfl (Nat.le_of_ble_eq_true rfl) (by decide) (Nat.le_refl 0) (Nat.le_refl 0) (hC := sp_X10_here (Q := fun z m => hr_ (μ 17) (μ 0 23) (μ 0 24) = z ∧ μ = m) p0 p1 ⟨rfl, rfl⟩) (fun r n2 S2 m2 hP => ?_)
  obtain ⟨⟨rfl, rfl⟩, z, rfl, rfl, rfl⟩ := hP
  obtain ⟨c, c2, h⟩ := h
  obtain ⟨m1, hm1⟩ : ∃ x : am_M, x = am_st μ 18 (am_up (μ 18) (x1).toNat (hr_ (μ 17) (μ 0 23) (μ 0 24))) := ⟨_, rfl⟩
  have h := h m1 hm1
  refine s_iast dX10_command_9 rn18 rk18 rl18 c c2 hm1.symm ?_
  refine s_aload_n dX10_command_10 rfl rfl ?_
  refine s_getR dX10_command_11 flX10_66 rn0 rk0 rfl rr0_28 ?_
  refine s_iload_n dX10_command_14 rfl rfl ?_
  obtain ⟨c, c2, h⟩ := h
  refine s_iald (x := (hr_ (μ 17) (μ 0 23) (μ 0 24))) dX10_command_15 rn18 rk18 rl18 c c2 (by subst hm1; simp [am_st, am_up]) ?_
  refine s_callS (As := [vI (hr_ (μ 17) (μ 0 23) (μ 0 24))]) (rest := []) dX10_command_16 lkX10_255 lmX10_signOf rfl rfl (Nat.le_of_ble_eq_true rfl) (by decide) (Nat.le_refl 0) (Nat.le_refl 0) (hC := sp_X10_signOf (Q := fun z m => z = sgR (hr_ (μ 17) (μ 0 23) (μ 0 24)) ∧ m1 = m)  ⟨rfl, rfl⟩) (fun r n2 S2 m2 hP => ?_)
  obtain ⟨⟨rfl, rfl⟩, v2, rfl, hz, rfl⟩ := hP
  have h := h v2 hz
  refine s_istore_n dX10_command_19 rfl (by decide) (L' := [vR 0, vI x1, vI v2]) rfl ?_
  refine s_aload_n dX10_command_20 rfl rfl ?_
  refine s_dup dX10_command_21 ?_
  refine s_getI (x := (μ 0 25)) dX10_command_22 flX10_249 rn0 rk0 rfl (by subst hm1; rfl) ?_
  refine s_iload_n dX10_command_25 rfl rfl ?_
  refine s_iconst dX10_command_26 (by decide) ?_
  have kj17 : ∀ (v3 : Int), ((am_or (μ 0 25) v3 = 0 ∨ am_or (μ 0 25) v3 = 1) ∧ (∀ m4 : am_M, m4 = am_st m1 0 (am_up (m1 0) 25 (am_or (μ 0 25) v3)) → (am_or (μ 0 25) v3 = 0 → (am_in (μ 0 24 + 1)) ∧ (∀ m5 : am_M, m5 = am_st m4 0 (am_up (m4 0) 24 (μ 0 24 + 1)) → ∃ P : Int → am_M → Prop, cl_I kR 2 mX10_number [vR 0] m5 P ∧ (∀ (z6 : Int) (m7 : am_M), P z6 m7 → (0 ≤ x1) ∧ (x1 < 60) ∧ (∀ m8 : am_M, m8 = am_st m7 19 (am_up (m7 19) (x1).toNat z6) → (m7 0 25 ≠ 0 → Q m8) ∧ (m7 0 25 = 0 → (v2 ≠ 0 → (m8 0 23 ≤ 60) ∧ (0 ≤ m8 0 24) ∧ (∀ v9 : Int, v9 = hr_ (m8 17) (m8 0 23) (m8 0 24) → ∀ v10 : Int, v10 = (if v9 = v2 then 0 else 1) → (am_or (m7 0 25) v10 = 0 ∨ am_or (m7 0 25) v10 = 1) ∧ (∀ m11 : am_M, m11 = am_st m8 0 (am_up (m8 0) 25 (am_or (m7 0 25) v10)) → (am_or (m7 0 25) v10 = 0 → (am_in (m7 0 24 + 1)) ∧ (∀ m12 : am_M, m12 = am_st m11 0 (am_up (m11 0) 24 (m7 0 24 + 1)) → ∃ P : Int → am_M → Prop, cl_I kR 2 mX10_number [vR 0] m12 P ∧ (∀ (z13 : Int) (m14 : am_M), P z13 m14 → (0 ≤ x1) ∧ (x1 < 60) ∧ (∀ m15 : am_M, m15 = am_st m14 20 (am_up (m14 20) (x1).toNat z13) → Q m15)))) ∧ (am_or (m7 0 25) v10 ≠ 0 → Q m11)))) ∧ (v2 = 0 → Q m8)))))) ∧ (am_or (μ 0 25) v3 ≠ 0 → Q m4))) → at_V kR 3 mX10_command 35 [vR 0, vI x1, vI v2] [vI v3, vI (μ 0 25), vR 0] m1 Q := by
    intro v3 h
    refine s_ior dX10_command_35 rfl ?_
    obtain ⟨c, h⟩ := h
    obtain ⟨m4, hm4⟩ : ∃ x : am_M, x = am_st m1 0 (am_up (m1 0) 25 (am_or (μ 0 25) v3)) := ⟨_, rfl⟩
    have h := h m4 hm4
    refine s_putI dX10_command_36 flX10_249 rn0 rk0 rfl rfl (Or.inr c) hm4.symm ?_
    refine s_aload_n dX10_command_39 rfl rfl ?_
    refine s_getI (x := (am_or (μ 0 25) v3)) dX10_command_40 flX10_249 rn0 rk0 rfl (by subst hm4; rfl) ?_
    refine s_if_eq dX10_command_43 (tgt := 47) (by decide) (fun cc => ?_) (fun cc => ?_)
    · have h := h.1 cc
      refine s_aload_n dX10_command_47 rfl rfl ?_
      refine s_dup dX10_command_48 ?_
      refine s_getI (x := (μ 0 24)) dX10_command_49 flX10_246 rn0 rk0 rfl (by subst hm4; subst hm1; rfl) ?_
      refine s_iconst dX10_command_52 (by decide) ?_
      obtain ⟨c, h⟩ := h
      refine s_iadd dX10_command_53 (am_w_id c) ?_
      obtain ⟨m5, hm5⟩ : ∃ x : am_M, x = am_st m4 0 (am_up (m4 0) 24 (μ 0 24 + 1)) := ⟨_, rfl⟩
      have h := h m5 hm5
      refine s_putI dX10_command_54 flX10_246 rn0 rk0 rfl rfl (Or.inl rfl) hm5.symm ?_
      refine s_aload_n dX10_command_57 rfl rfl ?_
      refine s_getR dX10_command_58 flX10_69 rn0 rk0 rfl rr0_29 ?_
      refine s_iload_n dX10_command_61 rfl rfl ?_
      refine s_aload_n dX10_command_62 rfl rfl ?_
      obtain ⟨P, hcl, h⟩ := h
      refine s_callV (As := []) (rest := [vI x1, vR 19]) (k := 0) dX10_command_63 lkX10_258 rn0 ⟨by rw [rk0]; rfl, by rw [rk0]; decide⟩ lmX10_number rfl rfl (Nat.le_of_ble_eq_true rfl) (by decide) (Nat.le_refl 0) (Nat.le_refl 0) (hC := hcl) (fun r n2 S2 m7 hP => ?_)
      obtain ⟨⟨rfl, rfl⟩, z6, rfl, hq⟩ := hP
      have h := h z6 m7 hq
      obtain ⟨c, c2, h⟩ := h
      obtain ⟨m8, hm8⟩ : ∃ x : am_M, x = am_st m7 19 (am_up (m7 19) (x1).toNat z6) := ⟨_, rfl⟩
      have h := h m8 hm8
      refine s_iast dX10_command_66 rn19 rk19 rl19 c c2 hm8.symm ?_
      refine s_aload_n dX10_command_67 rfl rfl ?_
      refine s_getI (x := (m7 0 25)) dX10_command_68 flX10_249 rn0 rk0 rfl (by subst hm8; rfl) ?_
      refine s_if_ne dX10_command_71 (tgt := 78) (by decide) (fun cc => ?_) (fun cc => ?_)
      · have h := h.1 cc
        exact s_return dX10_command_78 rfl ⟨⟨rfl, rfl⟩, rfl, h⟩
      · have h := h.2 cc
        refine s_iload_n dX10_command_74 rfl rfl ?_
        refine s_if_ne dX10_command_75 (tgt := 79) (by decide) (fun cc => ?_) (fun cc => ?_)
        · have h := h.1 cc
          refine s_aload_n dX10_command_79 rfl rfl ?_
          refine s_dup dX10_command_80 ?_
          refine s_getI (x := (m7 0 25)) dX10_command_81 flX10_249 rn0 rk0 rfl (by subst hm8; rfl) ?_
          refine s_aload_n dX10_command_84 rfl rfl ?_
          obtain ⟨p0, p1, h⟩ := h
          refine s_callV (As := []) (rest := [vI (m7 0 25), vR 0]) (k := 0) dX10_command_85 lkX10_252 rn0 ⟨by rw [rk0]; rfl, by rw [rk0]; decide⟩ lmX10_here rfl rfl (Nat.le_of_ble_eq_true rfl) (by decide) (Nat.le_refl 0) (Nat.le_refl 0) (hC := sp_X10_here (Q := fun z m => z = hr_ (m8 17) (m8 0 23) (m8 0 24) ∧ m8 = m) p0 p1 ⟨rfl, rfl⟩) (fun r n2 S2 m2 hP => ?_)
          obtain ⟨⟨rfl, rfl⟩, v9, rfl, hz, rfl⟩ := hP
          have h := h v9 hz
          refine s_iload_n dX10_command_88 rfl rfl ?_
          have kj16 : ∀ (v10 : Int), ((am_or (m7 0 25) v10 = 0 ∨ am_or (m7 0 25) v10 = 1) ∧ (∀ m11 : am_M, m11 = am_st m8 0 (am_up (m8 0) 25 (am_or (m7 0 25) v10)) → (am_or (m7 0 25) v10 = 0 → (am_in (m7 0 24 + 1)) ∧ (∀ m12 : am_M, m12 = am_st m11 0 (am_up (m11 0) 24 (m7 0 24 + 1)) → ∃ P : Int → am_M → Prop, cl_I kR 2 mX10_number [vR 0] m12 P ∧ (∀ (z13 : Int) (m14 : am_M), P z13 m14 → (0 ≤ x1) ∧ (x1 < 60) ∧ (∀ m15 : am_M, m15 = am_st m14 20 (am_up (m14 20) (x1).toNat z13) → Q m15)))) ∧ (am_or (m7 0 25) v10 ≠ 0 → Q m11))) → at_V kR 3 mX10_command 97 [vR 0, vI x1, vU] [vI v10, vI (m7 0 25), vR 0] m8 Q := by
            intro v10 h
            refine s_ior dX10_command_97 rfl ?_
            obtain ⟨c, h⟩ := h
            obtain ⟨m11, hm11⟩ : ∃ x : am_M, x = am_st m8 0 (am_up (m8 0) 25 (am_or (m7 0 25) v10)) := ⟨_, rfl⟩
            have h := h m11 hm11
            refine s_putI dX10_command_98 flX10_249 rn0 rk0 rfl rfl (Or.inr c) hm11.symm ?_
            refine s_aload_n dX10_command_101 rfl rfl ?_
            refine s_getI (x := (am_or (m7 0 25) v10)) dX10_command_102 flX10_249 rn0 rk0 rfl (by subst hm11; rfl) ?_
            refine s_if_eq dX10_command_105 (tgt := 109) (by decide) (fun cc => ?_) (fun cc => ?_)
            · have h := h.1 cc
              refine s_aload_n dX10_command_109 rfl rfl ?_
              refine s_dup dX10_command_110 ?_
              refine s_getI (x := (m7 0 24)) dX10_command_111 flX10_246 rn0 rk0 rfl (by subst hm11; subst hm8; rfl) ?_
              refine s_iconst dX10_command_114 (by decide) ?_
              obtain ⟨c, h⟩ := h
              refine s_iadd dX10_command_115 (am_w_id c) ?_
              obtain ⟨m12, hm12⟩ : ∃ x : am_M, x = am_st m11 0 (am_up (m11 0) 24 (m7 0 24 + 1)) := ⟨_, rfl⟩
              have h := h m12 hm12
              refine s_putI dX10_command_116 flX10_246 rn0 rk0 rfl rfl (Or.inl rfl) hm12.symm ?_
              refine s_aload_n dX10_command_119 rfl rfl ?_
              refine s_getR dX10_command_120 flX10_72 rn0 rk0 rfl rr0_30 ?_
              refine s_iload_n dX10_command_123 rfl rfl ?_
              refine s_aload_n dX10_command_124 rfl rfl ?_
              obtain ⟨P, hcl, h⟩ := h
              refine s_callV (As := []) (rest := [vI x1, vR 20]) (k := 0) dX10_command_125 lkX10_258 rn0 ⟨by rw [rk0]; rfl, by rw [rk0]; decide⟩ lmX10_number rfl rfl (Nat.le_of_ble_eq_true rfl) (by decide) (Nat.le_refl 0) (Nat.le_refl 0) (hC := hcl) (fun r n2 S2 m14 hP => ?_)
              obtain ⟨⟨rfl, rfl⟩, z13, rfl, hq⟩ := hP
              have h := h z13 m14 hq
              obtain ⟨c, c2, h⟩ := h
              obtain ⟨m15, hm15⟩ : ∃ x : am_M, x = am_st m14 20 (am_up (m14 20) (x1).toNat z13) := ⟨_, rfl⟩
              have h := h m15 hm15
              refine s_iast dX10_command_128 rn20 rk20 rl20 c c2 hm15.symm ?_
              exact s_return dX10_command_129 rfl ⟨⟨rfl, rfl⟩, rfl, h⟩
            · have h := h.2 cc
              exact s_return dX10_command_108 rfl ⟨⟨rfl, rfl⟩, rfl, h⟩
          refine s_icmp_eq dX10_command_89 (tgt := 96) (by decide) (fun cc => ?_) (fun cc => ?_)
          · have hp0 := cc
            refine s_iconst dX10_command_96 (by decide) ?_
            exact am_lesS (kj16 0 (h 0 (by rw [if_pos hp0]))) ⟨Or.inr rfl, Or.inr rfl, Or.inl rfl, trivial⟩
          · have hp0 := cc
            refine s_iconst dX10_command_92 (by decide) ?_
            refine s_goto dX10_command_93 (tgt := 97) (by decide) ?_
            exact am_lesS (kj16 1 (h 1 (by rw [if_neg hp0]))) ⟨Or.inr rfl, Or.inr rfl, Or.inl rfl, trivial⟩
        · have h := h.2 cc
          exact s_return dX10_command_78 rfl ⟨⟨rfl, rfl⟩, rfl, h⟩
    · have h := h.2 cc
      exact s_return dX10_command_46 rfl ⟨⟨rfl, rfl⟩, rfl, h⟩
  refine s_icmp_ne dX10_command_27 (tgt := 34) (by decide) (fun cc => ?_) (fun cc => ?_)
  · have hp0 := cc
    refine s_iconst dX10_command_34 (by decide) ?_
    exact kj17 0 (h 0 (by rw [if_neg hp0]))
  · have hp0 := cc
    refine s_iconst dX10_command_30 (by decide) ?_
    refine s_goto dX10_command_31 (tgt := 35) (by decide) ?_
    exact kj17 1 (h 1 (by rw [if_pos hp0]))
theorem ve_X10_command {x1 : Int} {μ : am_M} {Q : am_M → Prop} (h : at_V kR 3 mX10_command 0 [vR 0, vI x1, vU] [] μ Q) : cl_V kR 3 mX10_command [vR 0, vI x1] μ Q := am_intro pmX10_command (Nat.le_of_ble_eq_true rfl) rfl h
/-- a command was read into place k, or a fault was met -/
def cdR_ (μ m : am_M) (k : Nat) (C : Bool × Int × Int × Int × Int) : Prop := fr_ [0, 18, 19, 20] μ m ∧ (∀ j, j ≠ 24 → j ≠ 25 → m 0 j = μ 0 j) ∧ m 0 24 = C.2.2.2.2 ∧ (∀ i, i ≠ k → m 18 i = μ 18 i ∧ m 19 i = μ 19 i ∧ m 20 i = μ 20 i) ∧ ((C.1 = true ∧ m 0 25 = 0 ∧ m 18 k = C.2.1 ∧ m 19 k = C.2.2.1 ∧ (C.2.1 = 100 ∨ m 20 k = C.2.2.2.1)) ∨ (C.1 = false ∧ m 0 25 = 1))
theorem sp_X10_command {μ : am_M} {k p : Int} (h0 : in_ 0 61 (μ 0 23)) (hp : 0 ≤ p) (hp1 : p ≤ μ 0 23) (h24 : μ 0 24 = p) (h25 : μ 0 25 = 0) (hk : in_ 0 60 k) : cl_V kR 3 mX10_command [vR 0, vI k] μ (fun m => cdR_ μ m k.toNat (cmd_ (μ 17) (μ 0 23) p)) := by
  unfold in_ at h0 hk
  obtain ⟨s1, s2, s3, s4⟩ := sgR_z (hr_ (μ 17) (μ 0 23) p)
  have hpn : sgn_ (hr_ (μ 17) (μ 0 23) p) ≠ -1 → p < μ 0 23 := fun h => by
    rcases Int.lt_or_le p (μ 0 23) with h2 | h2
    · exact h2
    · exfalso
      apply h
      unfold hr_
      rw [if_neg (by omega)]
      rfl
  refine ve_X10_command (vc_X10_command_0 ⟨by omega, by omega, hk.1, hk.2, fun m1 e1 => ⟨hk.1, hk.2, fun v2 e2 v3 e3 => ?_⟩⟩)
  rw [h24] at e1 e2
  rw [h24, h25]
  have o3 : am_or 0 v3 = v3 := by
    rw [e3]
    split
    · exact or01.2.1
    · exact or01.1
  rw [o3]
  refine ⟨by rw [e3]; split <;> omega, fun m4 e4 => ?_⟩
  have f4 : fr_ [0, 18] μ m4 := by rw [e4, e1]; exact fr_tr (fr_st (by simp)) (fr_st (by simp))
  have a0 : ∀ j, j ≠ 25 → m4 0 j = μ 0 j := fun j hj => by rw [e4, st_s, up_n hj, e1, st_n (by decide)]
  have a25 : m4 0 25 = v3 := by rw [e4, st_s, up_s]
  have a18 : m4 18 = am_up (μ 18) k.toNat (hr_ (μ 17) (μ 0 23) p) := by rw [e4, st_n (by decide), e1, st_s]
  refine ⟨fun c3 => ?_, fun c3 => ?_⟩
  · have v2n : sgn_ (hr_ (μ 17) (μ 0 23) p) ≠ -1 := fun z => by
      rw [if_pos (by rw [e2]; exact s1.mpr z)] at e3
      omega
    have u1 : cmd_ (μ 17) (μ 0 23) p = _ := if_neg v2n
    have pn := hpn v2n
    refine ⟨(by (try unfold am_in); (try unfold in_ at *); omega), fun m5 e5 => ?_⟩
    have f5 : fr_ [0, 18] μ m5 := fr_tr f4 (by rw [e5]; exact fr_st (by simp))
    have b0 : ∀ j, j ≠ 24 → j ≠ 25 → m5 0 j = μ 0 j := fun j h1 h2 => by rw [e5, st_s, up_n h1, a0 j h2]
    have l5 : plR m5 m5 (p + 1) 0 := ⟨fr_rf, fun _ _ _ => rfl, by rw [e5, st_s, up_s], by rw [e5, st_s, up_n (by decide), a25, c3]⟩
    have t17 : m5 17 = μ 17 := f5 17 (by decide)
    have t23 : m5 0 23 = μ 0 23 := b0 23 (by decide) (by decide)
    refine ⟨_, sp_X10_number (p := p + 1) (by rw [t23]; exact ⟨h0.1, h0.2⟩) (by omega) l5, fun z6 m7 h7 => ?_⟩
    rw [t17, t23] at h7
    refine ⟨hk.1, hk.2, fun m8 e8 => ?_⟩
    have n1 := rdn_b (T := μ 17) (n := μ 0 23) (p := p + 1)
    -- what a first number leaves
    have st : ∀ q f, plR m5 m7 q f → fr_ [0, 18, 19, 20] μ m8 ∧ (∀ j, j ≠ 24 → j ≠ 25 → m8 0 j = μ 0 j) ∧ m8 0 24 = q ∧ m8 0 25 = f ∧ m7 0 25 = f ∧ m7 0 24 = q ∧ m8 18 = am_up (μ 18) k.toNat (hr_ (μ 17) (μ 0 23) p) ∧ m8 19 = am_up (μ 19) k.toNat z6 ∧ m8 20 = μ 20 := fun q f h => by
      refine ⟨fr_tr (fr_tr (fr_up f5 (by simp)) (fr_up h.1 (by simp))) (by rw [e8]; exact fr_st (by simp)), fun j h1 h2 => by rw [e8, st_n (by decide), h.2.1 j h1 h2, b0 j h1 h2], by rw [e8, st_n (by decide), h.2.2.1], by rw [e8, st_n (by decide), h.2.2.2], h.2.2.2, h.2.2.1, ?_, ?_, ?_⟩
      · rw [e8, st_n (by decide), h.1 18 (by decide), e5, st_n (by decide), a18]
      · rw [e8, st_s, h.1 19 (by decide), f5 19 (by decide)]
      · rw [e8, st_n (by decide), h.1 20 (by decide), f5 20 (by decide)]
    rcases h7 with ⟨h7, l7⟩ | ⟨h7, hz, l7⟩
    · obtain ⟨x1, x2, x3, x4, x5, x6, x7, x8, x9⟩ := st _ _ l7
      refine ⟨fun _ => ?_, fun q => by rw [x5] at q; omega⟩
      rw [u1, if_pos h7]
      refine ⟨x1, x2, x3, fun i hi => by rw [x7, x8, x9, up_n hi, up_n hi]; exact ⟨rfl, rfl, rfl⟩, Or.inr ⟨rfl, x4⟩⟩
    · obtain ⟨x1, x2, x3, x4, x5, x6, x7, x8, x9⟩ := st _ _ l7
      have u2 := u1.trans (if_neg (by omega))
      refine ⟨fun q => absurd x5 q, fun _ => ⟨fun v2z => ?_, fun v2z => ?_⟩⟩
      · have v26 : sgn_ (hr_ (μ 17) (μ 0 23) p) ≠ -6 := fun z => v2z (by rw [e2]; exact s2.mpr z)
        have u3 := u2.trans (if_neg v26)
        have v2s : v2 = sgn_ (hr_ (μ 17) (μ 0 23) p) := by rw [e2]; exact s3 v26
        have t17 : m8 17 = μ 17 := x1 17 (by decide)
        have t23 : m8 0 23 = μ 0 23 := x2 23 (by decide) (by decide)
        have m1 := n1.2.2.2.1 (by omega)
        refine ⟨by omega, by omega, fun v9 e9 v10 e10 => ?_⟩
        rw [t17, t23, x3] at e9
        rw [x5, x6]
        have o10 : am_or 0 v10 = v10 := by
          rw [e10]
          split
          · exact or01.1
          · exact or01.2.1
        rw [o10]
        refine ⟨by rw [e10]; split <;> omega, fun m11 e11 => ⟨fun c10 => ⟨(by (try unfold am_in); (try unfold in_ at *); omega), fun m12 e12 => ?_⟩, fun c10 => ?_⟩⟩
        · have q9 : hr_ (μ 17) (μ 0 23) (rdn_ (μ 17) (μ 0 23) (p + 1)).2 = sgn_ (hr_ (μ 17) (μ 0 23) p) := by
            rw [← e9, ← v2s]
            by_cases z : v9 = v2
            · exact z
            · rw [if_neg z] at e10; omega
          have u4 := u3.trans (if_pos q9)
          have f12 : fr_ [0] m8 m12 := by rw [e12, e11]; exact fr_tr (fr_st (by simp)) (fr_st (by simp))
          have y0 : ∀ j, j ≠ 24 → j ≠ 25 → m12 0 j = μ 0 j := fun j h1 h2 => by rw [e12, st_s, up_n h1, e11, st_s, up_n h2, x2 j h1 h2]
          have l12 : plR m12 m12 ((rdn_ (μ 17) (μ 0 23) (p + 1)).2 + 1) 0 := ⟨fr_rf, fun _ _ _ => rfl, by rw [e12, st_s, up_s], by rw [e12, st_s, up_n (by decide), e11, st_s, up_s, c10]⟩
          have t17' : m12 17 = μ 17 := (f12 17 (by decide)).trans t17
          have t23' : m12 0 23 = μ 0 23 := y0 23 (by decide) (by decide)
          refine ⟨_, sp_X10_number (p := (rdn_ (μ 17) (μ 0 23) (p + 1)).2 + 1) (by rw [t23']; exact ⟨h0.1, h0.2⟩) (by omega) l12, fun z13 m14 h14 => ⟨hk.1, hk.2, fun m15 e15 => ?_⟩⟩
          rw [t17', t23'] at h14
          have st2 : ∀ q f, plR m12 m14 q f → fr_ [0, 18, 19, 20] μ m15 ∧ (∀ j, j ≠ 24 → j ≠ 25 → m15 0 j = μ 0 j) ∧ m15 0 24 = q ∧ m15 0 25 = f ∧ m15 18 = am_up (μ 18) k.toNat (hr_ (μ 17) (μ 0 23) p) ∧ m15 19 = am_up (μ 19) k.toNat z6 ∧ m15 20 = am_up (μ 20) k.toNat z13 := fun q f h => by
            refine ⟨fr_tr (fr_tr x1 (fr_tr (fr_up f12 (by simp)) (fr_up h.1 (by simp)))) (by rw [e15]; exact fr_st (by simp)), fun j h1 h2 => by rw [e15, st_n (by decide), h.2.1 j h1 h2, y0 j h1 h2], by rw [e15, st_n (by decide), h.2.2.1], by rw [e15, st_n (by decide), h.2.2.2], ?_, ?_, ?_⟩
            · rw [e15, st_n (by decide), h.1 18 (by decide), f12 18 (by decide), x7]
            · rw [e15, st_n (by decide), h.1 19 (by decide), f12 19 (by decide), x8]
            · rw [e15, st_s, h.1 20 (by decide), f12 20 (by decide), x9]
          have rows : ∀ i, i ≠ k.toNat → am_up (μ 18) k.toNat (hr_ (μ 17) (μ 0 23) p) i = μ 18 i ∧ am_up (μ 19) k.toNat z6 i = μ 19 i ∧ am_up (μ 20) k.toNat z13 i = μ 20 i := fun i hi => by rw [up_n hi, up_n hi, up_n hi]; exact ⟨rfl, rfl, rfl⟩
          rcases h14 with ⟨h14, l14⟩ | ⟨h14, hz14, l14⟩
          · obtain ⟨w1, w2, w3, w4, w5, w6, w7⟩ := st2 _ _ l14
            rw [u4, if_pos h14]
            exact ⟨w1, w2, w3, by rw [w5, w6, w7]; exact rows, Or.inr ⟨rfl, w4⟩⟩
          · obtain ⟨w1, w2, w3, w4, w5, w6, w7⟩ := st2 _ _ l14
            rw [u4, if_neg (by omega)]
            exact ⟨w1, w2, w3, by rw [w5, w6, w7]; exact rows, Or.inl ⟨rfl, w4, by rw [w5, up_s], by rw [w6, up_s, hz], Or.inr (by rw [w7, up_s, hz14])⟩⟩
        · have q9 : ¬ hr_ (μ 17) (μ 0 23) (rdn_ (μ 17) (μ 0 23) (p + 1)).2 = sgn_ (hr_ (μ 17) (μ 0 23) p) := fun z => by
            rw [← e9, ← v2s] at z
            rw [if_pos z] at e10
            exact c10 e10
          have v10e : v10 = 1 := by
            rw [e10, if_neg]
            intro z
            exact q9 (by rw [← e9, ← v2s]; exact z)
          rw [u3, if_neg q9]
          refine ⟨fr_tr x1 (by rw [e11]; exact fr_st (by simp)), fun j h1 h2 => by rw [e11, st_s, up_n h2, x2 j h1 h2], by rw [e11, st_s, up_n (by decide), x3], fun i hi => ?_, Or.inr ⟨rfl, by rw [e11, st_s, up_s, v10e]⟩⟩
          rw [e11, st_n (by decide), st_n (by decide), st_n (by decide), x7, x8, x9, up_n hi, up_n hi]
          exact ⟨rfl, rfl, rfl⟩
      · have v26 : sgn_ (hr_ (μ 17) (μ 0 23) p) = -6 := s2.mp (by rw [← e2]; exact v2z)
        rw [u2, if_pos v26]
        refine ⟨x1, x2, x3, fun i hi => by rw [x7, x8, x9, up_n hi, up_n hi]; exact ⟨rfl, rfl, rfl⟩, Or.inl ⟨rfl, x4, by rw [x7, up_s], by rw [x8, up_s, hz], Or.inl (s4 v26)⟩⟩
  · have v2n : sgn_ (hr_ (μ 17) (μ 0 23) p) = -1 := by
      by_cases z : v2 = -1
      · rw [e2] at z; exact s1.mp z
      · rw [if_neg z] at e3; exact absurd e3 c3
    have v31 : v3 = 1 := by rw [e3, if_pos (by rw [e2]; exact s1.mpr v2n)]
    have u1 : cmd_ (μ 17) (μ 0 23) p = _ := if_pos v2n
    rw [u1]
    refine ⟨fr_up f4 (by simp), fun j h1 h2 => a0 j h2, by rw [a0 24 (by decide), h24], fun i hi => ?_, Or.inr ⟨rfl, by rw [a25, v31]⟩⟩
    rw [a18, up_n hi, f4 19 (by decide), f4 20 (by decide)]
    exact ⟨rfl, rfl, rfl⟩

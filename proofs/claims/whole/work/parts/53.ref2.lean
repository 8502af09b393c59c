/-! the reference: small questions -/
theorem vR_n {ν : am_M} (h : vR_ ν) : in_ 0 25 (ν 1 25) := h.1.hn
theorem vR_ok {ν : am_M} (h : vR_ ν) : ok_T (rg ν) (ν 1 25) := h.1.okT
theorem rrow {k : Nat} (h : k = 1 ∨ k = 2 ∨ k = 3 ∨ k = 6 ∨ k = 7) : k < kR.1 ∧ (kR.2 k).1 = 11 ∧ (kR.2 k).2.1 = 470 := by
  rcases h with rfl | rfl | rfl | rfl | rfl <;> decide
theorem rbig {k : Nat} (h : k = 4 ∨ k = 5) : k < kR.1 ∧ (kR.2 k).1 = 11 ∧ (kR.2 k).2.1 = 4700 := by
  rcases h with rfl | rfl <;> decide
theorem vc_X10_isSetting_0 {x0 x1 : Int} {μ : am_M} {Q : Int → am_M → Prop} (h : ∀ v1 : Int, v1 = (if x0 = 0 then bI (0 ≤ x1 ∧ x1 ≤ 400) else (if x0 = 1 then bI (4 ≤ x1 ∧ x1 ≤ 50) else (if x0 = 2 then bI (0 ≤ x1 ∧ x1 ≤ 999) else (if x0 = 3 then bI (0 ≤ x1 ∧ x1 ≤ 100) else bI (0 ≤ x1 ∧ x1 ≤ 2))))) → (v1 = 0 ∨ v1 = 1) ∧ Q v1 μ) : at_I kR 2 mX10_isSetting 0 [vI x0, vI x1] [] μ Q := by
  refine s_iload_n dX10_isSetting_0 rfl rfl ?_
  have kj2 : ∀ (v1 : Int), ((v1 = 0 ∨ v1 = 1) ∧ Q v1 μ) → at_I kR 2 mX10_isSetting 67 [vU, vU] [vI v1] μ Q := by
    intro v1 h
    exact s_ireturn dX10_isSetting_67 (Or.inr ⟨rfl, h.1⟩) ⟨⟨rfl, rfl⟩, _, rfl, h.2⟩
  refine s_if_ne dX10_isSetting_1 (tgt := 15) (by decide) (fun cc => ?_) (fun cc => ?_)
  · have hp0 := cc
    refine s_iload_n dX10_isSetting_15 rfl rfl ?_
    refine s_iconst dX10_isSetting_16 (by decide) ?_
    refine s_icmp_ne dX10_isSetting_17 (tgt := 30) (by decide) (fun cc => ?_) (fun cc => ?_)
    · have hp1 := cc
      refine s_iload_n dX10_isSetting_30 rfl rfl ?_
      refine s_iconst dX10_isSetting_31 (by decide) ?_
      refine s_icmp_ne dX10_isSetting_32 (tgt := 46) (by decide) (fun cc => ?_) (fun cc => ?_)
      · have hp2 := cc
        refine s_iload_n dX10_isSetting_46 rfl rfl ?_
        refine s_iconst dX10_isSetting_47 (by decide) ?_
        refine s_icmp_ne dX10_isSetting_48 (tgt := 61) (by decide) (fun cc => ?_) (fun cc => ?_)
        · have hp3 := cc
          refine s_iload_n dX10_isSetting_61 rfl rfl ?_
          refine s_iconst dX10_isSetting_62 (by decide) ?_
          refine s_iconst dX10_isSetting_63 (by decide) ?_
          refine s_callS (As := [vI x1, vI 0, vI 2]) (rest := []) dX10_isSetting_64 lkX10_103 lmX10_isIn rfl rfl (Nat.le_of_ble_eq_true rfl) (by decide) (Nat.le_refl 0) (Nat.le_refl 0) (hC := sp_X10_isIn (Q := fun z m => bI (0 ≤ x1 ∧ x1 ≤ 2) = z ∧ μ = m)  ⟨rfl, rfl⟩) (fun r n2 S2 m2 hP => ?_)
          obtain ⟨⟨rfl, rfl⟩, z, rfl, rfl, rfl⟩ := hP
          exact am_lesS (kj2 (bI (0 ≤ x1 ∧ x1 ≤ 2)) (h (bI (0 ≤ x1 ∧ x1 ≤ 2)) (by rw [if_neg hp0, if_neg hp1, if_neg hp2, if_neg hp3]))) ⟨Or.inl rfl, Or.inl rfl, trivial⟩
        · have hp3 := cc
          refine s_iload_n dX10_isSetting_51 rfl rfl ?_
          refine s_iconst dX10_isSetting_52 (by decide) ?_
          refine s_bipush dX10_isSetting_53 (by decide) ?_
          refine s_callS (As := [vI x1, vI 0, vI 100]) (rest := []) dX10_isSetting_55 lkX10_103 lmX10_isIn rfl rfl (Nat.le_of_ble_eq_true rfl) (by decide) (Nat.le_refl 0) (Nat.le_refl 0) (hC := sp_X10_isIn (Q := fun z m => bI (0 ≤ x1 ∧ x1 ≤ 100) = z ∧ μ = m)  ⟨rfl, rfl⟩) (fun r n2 S2 m2 hP => ?_)
          obtain ⟨⟨rfl, rfl⟩, z, rfl, rfl, rfl⟩ := hP
          refine s_goto dX10_isSetting_58 (tgt := 67) (by decide) ?_
          exact am_lesS (kj2 (bI (0 ≤ x1 ∧ x1 ≤ 100)) (h (bI (0 ≤ x1 ∧ x1 ≤ 100)) (by rw [if_neg hp0, if_neg hp1, if_neg hp2, if_pos hp3]))) ⟨Or.inl rfl, Or.inl rfl, trivial⟩
      · have hp2 := cc
        refine s_iload_n dX10_isSetting_35 rfl rfl ?_
        refine s_iconst dX10_isSetting_36 (by decide) ?_
        refine s_sipush dX10_isSetting_37 (by decide) ?_
        refine s_callS (As := [vI x1, vI 0, vI 999]) (rest := []) dX10_isSetting_40 lkX10_103 lmX10_isIn rfl rfl (Nat.le_of_ble_eq_true rfl) (by decide) (Nat.le_refl 0) (Nat.le_refl 0) (hC := sp_X10_isIn (Q := fun z m => bI (0 ≤ x1 ∧ x1 ≤ 999) = z ∧ μ = m)  ⟨rfl, rfl⟩) (fun r n2 S2 m2 hP => ?_)
        obtain ⟨⟨rfl, rfl⟩, z, rfl, rfl, rfl⟩ := hP
        refine s_goto dX10_isSetting_43 (tgt := 67) (by decide) ?_
        exact am_lesS (kj2 (bI (0 ≤ x1 ∧ x1 ≤ 999)) (h (bI (0 ≤ x1 ∧ x1 ≤ 999)) (by rw [if_neg hp0, if_neg hp1, if_pos hp2]))) ⟨Or.inl rfl, Or.inl rfl, trivial⟩
    · have hp1 := cc
      refine s_iload_n dX10_isSetting_20 rfl rfl ?_
      refine s_iconst dX10_isSetting_21 (by decide) ?_
      refine s_bipush dX10_isSetting_22 (by decide) ?_
      refine s_callS (As := [vI x1, vI 4, vI 50]) (rest := []) dX10_isSetting_24 lkX10_103 lmX10_isIn rfl rfl (Nat.le_of_ble_eq_true rfl) (by decide) (Nat.le_refl 0) (Nat.le_refl 0) (hC := sp_X10_isIn (Q := fun z m => bI (4 ≤ x1 ∧ x1 ≤ 50) = z ∧ μ = m)  ⟨rfl, rfl⟩) (fun r n2 S2 m2 hP => ?_)
      obtain ⟨⟨rfl, rfl⟩, z, rfl, rfl, rfl⟩ := hP
      refine s_goto dX10_isSetting_27 (tgt := 67) (by decide) ?_
      exact am_lesS (kj2 (bI (4 ≤ x1 ∧ x1 ≤ 50)) (h (bI (4 ≤ x1 ∧ x1 ≤ 50)) (by rw [if_neg hp0, if_pos hp1]))) ⟨Or.inl rfl, Or.inl rfl, trivial⟩
  · have hp0 := cc
    refine s_iload_n dX10_isSetting_4 rfl rfl ?_
    refine s_iconst dX10_isSetting_5 (by decide) ?_
    refine s_sipush dX10_isSetting_6 (by decide) ?_
    refine s_callS (As := [vI x1, vI 0, vI 400]) (rest := []) dX10_isSetting_9 lkX10_103 lmX10_isIn rfl rfl (Nat.le_of_ble_eq_true rfl) (by decide) (Nat.le_refl 0) (Nat.le_refl 0) (hC := sp_X10_isIn (Q := fun z m => bI (0 ≤ x1 ∧ x1 ≤ 400) = z ∧ μ = m)  ⟨rfl, rfl⟩) (fun r n2 S2 m2 hP => ?_)
    obtain ⟨⟨rfl, rfl⟩, z, rfl, rfl, rfl⟩ := hP
    refine s_goto dX10_isSetting_12 (tgt := 67) (by decide) ?_
    exact am_lesS (kj2 (bI (0 ≤ x1 ∧ x1 ≤ 400)) (h (bI (0 ≤ x1 ∧ x1 ≤ 400)) (by rw [if_pos hp0]))) ⟨Or.inl rfl, Or.inl rfl, trivial⟩
theorem ve_X10_isSetting {x0 x1 : Int} {μ : am_M} {Q : Int → am_M → Prop} (h : at_I kR 2 mX10_isSetting 0 [vI x0, vI x1] [] μ Q) : cl_I kR 2 mX10_isSetting [vI x0, vI x1] μ Q := am_intro pmX10_isSetting (Nat.le_of_ble_eq_true rfl) rfl h
theorem sp_X10_isSetting {μ : am_M} {w v : Int} {Q : Int → am_M → Prop} (hw : in_ 0 5 w) (hQ : Q (bI (¬ badE w v)) μ) : cl_I kR 2 mX10_isSetting [vI w, vI v] μ Q := by
  refine ve_X10_isSetting (vc_X10_isSetting_0 (fun z e => ?_))
  have hw2 : w = 0 ∨ w = 1 ∨ w = 2 ∨ w = 3 ∨ w = 4 := by ((try unfold am_in); (try unfold in_ at *); omega)
  have : z = bI (¬ badE w v) := by
    rw [e]
    unfold badE
    rcases hw2 with rfl | rfl | rfl | rfl | rfl
    · exact bI_c (by simp [am_sv])
    · rw [if_neg (by omega), if_pos rfl]; exact bI_c (by simp [am_sv])
    · rw [if_neg (by omega), if_neg (by omega), if_pos rfl]; exact bI_c (by simp [am_sv])
    · rw [if_neg (by omega), if_neg (by omega), if_neg (by omega), if_pos rfl]; exact bI_c (by simp [am_sv])
    · rw [if_neg (by omega), if_neg (by omega), if_neg (by omega), if_neg (by omega)]; exact bI_c (by simp [am_sv])
  rw [this]
  exact ⟨bI_01, hQ⟩
theorem vc_X10_isTrackNumber_0 {x0 x1 x2 : Int} {μ : am_M} {Q : Int → am_M → Prop} (h : (x1 = 0 → Q (bI (0 ≤ x2 ∧ x2 ≤ 200)) μ) ∧ (x1 = 1 → Q (bI (0 ≤ x2 ∧ x2 ≤ 1)) μ) ∧ (x1 = 2 → Q (bI (0 ≤ x2 ∧ x2 ≤ 1)) μ) ∧ (x1 = 3 → ∀ v1 : Int, v1 = (cif ((-1) ≤ x2 ∧ x2 ≤ 3) (if x2 = x0 then 0 else 1) 0) → (v1 = 0 ∨ v1 = 1) ∧ Q v1 μ) ∧ (x1 = 4 → Q (bI (0 ≤ x2 ∧ x2 ≤ 999)) μ) ∧ (x1 = 5 → Q (bI (0 ≤ x2 ∧ x2 ≤ 100)) μ) ∧ (x1 ≠ 0 → x1 ≠ 1 → x1 ≠ 2 → x1 ≠ 3 → x1 ≠ 4 → x1 ≠ 5 → Q (bI (0 ≤ x2 ∧ x2 ≤ 20)) μ)) : at_I kR 2 mX10_isTrackNumber 0 [vI x0, vI x1, vI x2] [] μ Q := by
  refine s_iload_n dX10_isTrackNumber_0 rfl rfl ?_
  by_cases cc : x1 = 0
  · have h := h.1 cc
    refine s_table_in dX10_isTrackNumber_1 (by omega) (by omega) (by rw [cc] <;> rfl) (tgt := 40) (by decide) ?_
    refine s_iload_n dX10_isTrackNumber_40 rfl rfl ?_
    refine s_iconst dX10_isTrackNumber_41 (by decide) ?_
    refine s_sipush dX10_isTrackNumber_42 (by decide) ?_
    refine s_callS (As := [vI x2, vI 0, vI 200]) (rest := []) dX10_isTrackNumber_45 lkX10_103 lmX10_isIn rfl rfl (Nat.le_of_ble_eq_true rfl) (by decide) (Nat.le_refl 0) (Nat.le_refl 0) (hC := sp_X10_isIn (Q := fun z m => bI (0 ≤ x2 ∧ x2 ≤ 200) = z ∧ μ = m)  ⟨rfl, rfl⟩) (fun r n2 S2 m2 hP => ?_)
    obtain ⟨⟨rfl, rfl⟩, z, rfl, rfl, rfl⟩ := hP
    exact s_ireturn dX10_isTrackNumber_48 (Or.inr ⟨rfl, bI_01⟩) ⟨⟨rfl, rfl⟩, _, rfl, h⟩
  have n0 := cc
  have h := h.2
  by_cases cc : x1 = 1
  · have h := h.1 cc
    refine s_table_in dX10_isTrackNumber_1 (by omega) (by omega) (by rw [cc] <;> rfl) (tgt := 49) (by decide) ?_
    refine s_iload_n dX10_isTrackNumber_49 rfl rfl ?_
    refine s_iconst dX10_isTrackNumber_50 (by decide) ?_
    refine s_iconst dX10_isTrackNumber_51 (by decide) ?_
    refine s_callS (As := [vI x2, vI 0, vI 1]) (rest := []) dX10_isTrackNumber_52 lkX10_103 lmX10_isIn rfl rfl (Nat.le_of_ble_eq_true rfl) (by decide) (Nat.le_refl 0) (Nat.le_refl 0) (hC := sp_X10_isIn (Q := fun z m => bI (0 ≤ x2 ∧ x2 ≤ 1) = z ∧ μ = m)  ⟨rfl, rfl⟩) (fun r n2 S2 m2 hP => ?_)
    obtain ⟨⟨rfl, rfl⟩, z, rfl, rfl, rfl⟩ := hP
    exact s_ireturn dX10_isTrackNumber_55 (Or.inr ⟨rfl, bI_01⟩) ⟨⟨rfl, rfl⟩, _, rfl, h⟩
  have n1 := cc
  have h := h.2
  by_cases cc : x1 = 2
  · have h := h.1 cc
    refine s_table_in dX10_isTrackNumber_1 (by omega) (by omega) (by rw [cc] <;> rfl) (tgt := 49) (by decide) ?_
    refine s_iload_n dX10_isTrackNumber_49 rfl rfl ?_
    refine s_iconst dX10_isTrackNumber_50 (by decide) ?_
    refine s_iconst dX10_isTrackNumber_51 (by decide) ?_
    refine s_callS (As := [vI x2, vI 0, vI 1]) (rest := []) dX10_isTrackNumber_52 lkX10_103 lmX10_isIn rfl rfl (Nat.le_of_ble_eq_true rfl) (by decide) (Nat.le_refl 0) (Nat.le_refl 0) (hC := sp_X10_isIn (Q := fun z m => bI (0 ≤ x2 ∧ x2 ≤ 1) = z ∧ μ = m)  ⟨rfl, rfl⟩) (fun r n2 S2 m2 hP => ?_)
    obtain ⟨⟨rfl, rfl⟩, z, rfl, rfl, rfl⟩ := hP
    exact s_ireturn dX10_isTrackNumber_55 (Or.inr ⟨rfl, bI_01⟩) ⟨⟨rfl, rfl⟩, _, rfl, h⟩
  have n2 := cc
  have h := h.2
  by_cases cc : x1 = 3
  · have h := h.1 cc
    refine s_table_in dX10_isTrackNumber_1 (by omega) (by omega) (by rw [cc] <;> rfl) (tgt := 56) (by decide) ?_
    refine s_iload_n dX10_isTrackNumber_56 rfl rfl ?_
    refine s_iconst dX10_isTrackNumber_57 (by decide) ?_
    refine s_iconst dX10_isTrackNumber_58 (by decide) ?_
    refine s_callS (As := [vI x2, vI (-1), vI 3]) (rest := []) dX10_isTrackNumber_59 lkX10_103 lmX10_isIn rfl rfl (Nat.le_of_ble_eq_true rfl) (by decide) (Nat.le_refl 0) (Nat.le_refl 0) (hC := sp_X10_isIn (Q := fun z m => bI ((-1) ≤ x2 ∧ x2 ≤ 3) = z ∧ μ = m)  ⟨rfl, rfl⟩) (fun r n2 S2 m2 hP => ?_)
    obtain ⟨⟨rfl, rfl⟩, z, rfl, rfl, rfl⟩ := hP
    have kj2 : ∀ (v1 : Int), ((v1 = 0 ∨ v1 = 1) ∧ Q v1 μ) → at_I kR 2 mX10_isTrackNumber 75 [vU, vU, vU] [vI v1] μ Q := by
      intro v1 h
      exact s_ireturn dX10_isTrackNumber_75 (Or.inr ⟨rfl, h.1⟩) ⟨⟨rfl, rfl⟩, _, rfl, h.2⟩
    refine s_if_eq dX10_isTrackNumber_62 (tgt := 74) (by decide) (fun cc => ?_) (fun cc => ?_)
    · have hp0 := (bI_eq cc)
      refine s_iconst dX10_isTrackNumber_74 (by decide) ?_
      exact am_lesS (kj2 0 (h 0 (by rw [cif_f hp0]))) ⟨Or.inl rfl, Or.inl rfl, Or.inl rfl, trivial⟩
    · have hp0 := (bI_ne cc)
      refine s_iload_n dX10_isTrackNumber_65 rfl rfl ?_
      refine s_iload_n dX10_isTrackNumber_66 rfl rfl ?_
      refine s_icmp_eq dX10_isTrackNumber_67 (tgt := 74) (by decide) (fun cc => ?_) (fun cc => ?_)
      · have hp1 := cc
        refine s_iconst dX10_isTrackNumber_74 (by decide) ?_
        exact am_lesS (kj2 0 (h 0 (by rw [cif_t hp0, if_pos hp1]))) ⟨Or.inl rfl, Or.inl rfl, Or.inl rfl, trivial⟩
      · have hp1 := cc
        refine s_iconst dX10_isTrackNumber_70 (by decide) ?_
        refine s_goto dX10_isTrackNumber_71 (tgt := 75) (by decide) ?_
        exact am_lesS (kj2 1 (h 1 (by rw [cif_t hp0, if_neg hp1]))) ⟨Or.inl rfl, Or.inl rfl, Or.inl rfl, trivial⟩
  have n3 := cc
  have h := h.2
  by_cases cc : x1 = 4
  · have h := h.1 cc
    refine s_table_in dX10_isTrackNumber_1 (by omega) (by omega) (by rw [cc] <;> rfl) (tgt := 76) (by decide) ?_
    refine s_iload_n dX10_isTrackNumber_76 rfl rfl ?_
    refine s_iconst dX10_isTrackNumber_77 (by decide) ?_
    refine s_sipush dX10_isTrackNumber_78 (by decide) ?_
    refine s_callS (As := [vI x2, vI 0, vI 999]) (rest := []) dX10_isTrackNumber_81 lkX10_103 lmX10_isIn rfl rfl (Nat.le_of_ble_eq_true rfl) (by decide) (Nat.le_refl 0) (Nat.le_refl 0) (hC := sp_X10_isIn (Q := fun z m => bI (0 ≤ x2 ∧ x2 ≤ 999) = z ∧ μ = m)  ⟨rfl, rfl⟩) (fun r n2 S2 m2 hP => ?_)
    obtain ⟨⟨rfl, rfl⟩, z, rfl, rfl, rfl⟩ := hP
    exact s_ireturn dX10_isTrackNumber_84 (Or.inr ⟨rfl, bI_01⟩) ⟨⟨rfl, rfl⟩, _, rfl, h⟩
  have n4 := cc
  have h := h.2
  by_cases cc : x1 = 5
  · have h := h.1 cc
    refine s_table_in dX10_isTrackNumber_1 (by omega) (by omega) (by rw [cc] <;> rfl) (tgt := 85) (by decide) ?_
    refine s_iload_n dX10_isTrackNumber_85 rfl rfl ?_
    refine s_iconst dX10_isTrackNumber_86 (by decide) ?_
    refine s_bipush dX10_isTrackNumber_87 (by decide) ?_
    refine s_callS (As := [vI x2, vI 0, vI 100]) (rest := []) dX10_isTrackNumber_89 lkX10_103 lmX10_isIn rfl rfl (Nat.le_of_ble_eq_true rfl) (by decide) (Nat.le_refl 0) (Nat.le_refl 0) (hC := sp_X10_isIn (Q := fun z m => bI (0 ≤ x2 ∧ x2 ≤ 100) = z ∧ μ = m)  ⟨rfl, rfl⟩) (fun r n2 S2 m2 hP => ?_)
    obtain ⟨⟨rfl, rfl⟩, z, rfl, rfl, rfl⟩ := hP
    exact s_ireturn dX10_isTrackNumber_92 (Or.inr ⟨rfl, bI_01⟩) ⟨⟨rfl, rfl⟩, _, rfl, h⟩
  have n5 := cc
  have h := h.2
  have h := h n0 n1 n2 n3 n4 n5
  refine s_table_out dX10_isTrackNumber_1 ((Int.lt_or_le (x1) 0).elim Or.inl (fun q => Or.inr (by have q := q; have q := Int.lt_iff_le_and_ne.mpr ⟨(show 0 ≤ x1 from q), (fun e => n0 e.symm)⟩; have q := Int.lt_iff_le_and_ne.mpr ⟨(show 1 ≤ x1 from q), (fun e => n1 e.symm)⟩; have q := Int.lt_iff_le_and_ne.mpr ⟨(show 2 ≤ x1 from q), (fun e => n2 e.symm)⟩; have q := Int.lt_iff_le_and_ne.mpr ⟨(show 3 ≤ x1 from q), (fun e => n3 e.symm)⟩; have q := Int.lt_iff_le_and_ne.mpr ⟨(show 4 ≤ x1 from q), (fun e => n4 e.symm)⟩; have q := Int.lt_iff_le_and_ne.mpr ⟨(show 5 ≤ x1 from q), (fun e => n5 e.symm)⟩; exact q))) (tgt := 93) (by decide) ?_
  refine s_iload_n dX10_isTrackNumber_93 rfl rfl ?_
  refine s_iconst dX10_isTrackNumber_94 (by decide) ?_
  refine s_bipush dX10_isTrackNumber_95 (by decide) ?_
  refine s_callS (As := [vI x2, vI 0, vI 20]) (rest := []) dX10_isTrackNumber_97 lkX10_103 lmX10_isIn rfl rfl (Nat.le_of_ble_eq_true rfl) (by decide) (Nat.le_refl 0) (Nat.le_refl 0) (hC := sp_X10_isIn (Q := fun z m => bI (0 ≤ x2 ∧ x2 ≤ 20) = z ∧ μ = m)  ⟨rfl, rfl⟩) (fun r n2 S2 m2 hP => ?_)
  obtain ⟨⟨rfl, rfl⟩, z, rfl, rfl, rfl⟩ := hP
  exact s_ireturn dX10_isTrackNumber_100 (Or.inr ⟨rfl, bI_01⟩) ⟨⟨rfl, rfl⟩, _, rfl, h⟩
theorem ve_X10_isTrackNumber {x0 x1 x2 : Int} {μ : am_M} {Q : Int → am_M → Prop} (h : at_I kR 2 mX10_isTrackNumber 0 [vI x0, vI x1, vI x2] [] μ Q) : cl_I kR 2 mX10_isTrackNumber [vI x0, vI x1, vI x2] μ Q := am_intro pmX10_isTrackNumber (Nat.le_of_ble_eq_true rfl) rfl h
theorem sp_X10_isTrackNumber {μ : am_M} {t w v : Int} {Q : Int → am_M → Prop} (hw : in_ 0 7 w) (hQ : Q (bI (okTr t w v)) μ) : cl_I kR 2 mX10_isTrackNumber [vI t, vI w, vI v] μ Q := by
  have hw2 : w = 0 ∨ w = 1 ∨ w = 2 ∨ w = 3 ∨ w = 4 ∨ w = 5 ∨ w = 6 := by ((try unfold am_in); (try unfold in_ at *); omega)
  have key : ∀ p : Prop, (p ↔ okTr t w v) → Q (bI p) μ := fun p h => by rw [bI_c h]; exact hQ
  unfold okTr at key
  refine ve_X10_isTrackNumber (vc_X10_isTrackNumber_0 ⟨fun n => key _ ?_, fun n => key _ ?_, fun n => key _ ?_, fun n z e => ?_, fun n => key _ ?_, fun n => key _ ?_, fun n0 n1 n2 n3 n4 n5 => key _ ?_⟩)
  · subst n; simp [am_sv]
  · subst n; simp [am_sv]
  · subst n; simp [am_sv]
  · have : z = bI (((-1) ≤ v ∧ v ≤ 3) ∧ v ≠ t) := by
      rw [e]
      by_cases c : (-1) ≤ v ∧ v ≤ 3
      · rw [cif_t c]
        by_cases c2 : v = t
        · rw [if_pos c2, bI_f (fun h => h.2 c2)]
        · rw [if_neg c2, bI_t ⟨c, c2⟩]
      · rw [cif_f c, bI_f (fun h => c h.1)]
    rw [this]
    refine ⟨bI_01, key _ ?_⟩
    subst n
    simp [am_sv]
    omega
  · subst n; simp [am_sv]
  · subst n; simp [am_sv]
  · have : w = 6 := by
      clear key hQ
      rcases hw2 with h | h | h | h | h | h | h
      · exact absurd h n0
      · exact absurd h n1
      · exact absurd h n2
      · exact absurd h n3
      · exact absurd h n4
      · exact absurd h n5
      · exact h
    subst this
    simp [am_sv]
theorem vc_X10_isHush_0 {x0 x1 : Int} {μ : am_M} {Q : Int → am_M → Prop} (h : ∀ v1 : Int, v1 = (cif (1 ≤ x0 ∧ x0 ≤ 999) (cif (1 ≤ x1 ∧ x1 ≤ 600) 1 0) 0) → (v1 = 0 ∨ v1 = 1) ∧ Q v1 μ) : at_I kR 2 mX10_isHush 0 [vI x0, vI x1] [] μ Q := by
  refine s_iload_n dX10_isHush_0 rfl rfl ?_
  refine s_iconst dX10_isHush_1 (by decide) ?_
  refine s_sipush dX10_isHush_2 (by decide) ?_
  refine s_callS (As := [vI x0, vI 1, vI 999]) (rest := []) dX10_isHush_5 lkX10_103 lmX10_isIn rfl rfl (Nat.le_of_ble_eq_true rfl) (by decide) (Nat.le_refl 0) (Nat.le_refl 0) (hC := sp_X10_isIn (Q := fun z m => bI (1 ≤ x0 ∧ x0 ≤ 999) = z ∧ μ = m)  ⟨rfl, rfl⟩) (fun r n2 S2 m2 hP => ?_)
  obtain ⟨⟨rfl, rfl⟩, z, rfl, rfl, rfl⟩ := hP
  have kj2 : ∀ (v1 : Int), ((v1 = 0 ∨ v1 = 1) ∧ Q v1 μ) → at_I kR 2 mX10_isHush 27 [vU, vU] [vI v1] μ Q := by
    intro v1 h
    exact s_ireturn dX10_isHush_27 (Or.inr ⟨rfl, h.1⟩) ⟨⟨rfl, rfl⟩, _, rfl, h.2⟩
  refine s_if_eq dX10_isHush_8 (tgt := 26) (by decide) (fun cc => ?_) (fun cc => ?_)
  · have hp0 := (bI_eq cc)
    refine s_iconst dX10_isHush_26 (by decide) ?_
    exact am_lesS (kj2 0 (h 0 (by rw [cif_f hp0]))) ⟨Or.inl rfl, Or.inl rfl, trivial⟩
  · have hp0 := (bI_ne cc)
    refine s_iload_n dX10_isHush_11 rfl rfl ?_
    refine s_iconst dX10_isHush_12 (by decide) ?_
    refine s_sipush dX10_isHush_13 (by decide) ?_
    refine s_callS (As := [vI x1, vI 1, vI 600]) (rest := []) dX10_isHush_16 lkX10_103 lmX10_isIn rfl rfl (Nat.le_of_ble_eq_true rfl) (by decide) (Nat.le_refl 0) (Nat.le_refl 0) (hC := sp_X10_isIn (Q := fun z m => bI (1 ≤ x1 ∧ x1 ≤ 600) = z ∧ μ = m)  ⟨rfl, rfl⟩) (fun r n2 S2 m2 hP => ?_)
    obtain ⟨⟨rfl, rfl⟩, z, rfl, rfl, rfl⟩ := hP
    refine s_if_eq dX10_isHush_19 (tgt := 26) (by decide) (fun cc => ?_) (fun cc => ?_)
    · have hp1 := (bI_eq cc)
      refine s_iconst dX10_isHush_26 (by decide) ?_
      exact am_lesS (kj2 0 (h 0 (by rw [cif_t hp0, cif_f hp1]))) ⟨Or.inl rfl, Or.inl rfl, trivial⟩
    · have hp1 := (bI_ne cc)
      refine s_iconst dX10_isHush_22 (by decide) ?_
      refine s_goto dX10_isHush_23 (tgt := 27) (by decide) ?_
      exact am_lesS (kj2 1 (h 1 (by rw [cif_t hp0, cif_t hp1]))) ⟨Or.inl rfl, Or.inl rfl, trivial⟩
theorem ve_X10_isHush {x0 x1 : Int} {μ : am_M} {Q : Int → am_M → Prop} (h : at_I kR 2 mX10_isHush 0 [vI x0, vI x1] [] μ Q) : cl_I kR 2 mX10_isHush [vI x0, vI x1] μ Q := am_intro pmX10_isHush (Nat.le_of_ble_eq_true rfl) rfl h
theorem sp_X10_isHush {μ : am_M} {v n : Int} {Q : Int → am_M → Prop} (hQ : Q (bI ((1 ≤ v ∧ v ≤ 999) ∧ 1 ≤ n ∧ n ≤ 600)) μ) : cl_I kR 2 mX10_isHush [vI v, vI n] μ Q := by
  refine ve_X10_isHush (vc_X10_isHush_0 (fun z e => ?_))
  have : z = bI ((1 ≤ v ∧ v ≤ 999) ∧ 1 ≤ n ∧ n ≤ 600) := by
    rw [e]
    by_cases c : 1 ≤ v ∧ v ≤ 999
    · rw [cif_t c]
      by_cases c2 : 1 ≤ n ∧ n ≤ 600
      · rw [cif_t c2, bI_t ⟨c, c2⟩]
      · rw [cif_f c2, bI_f (fun h => c2 h.2)]
    · rw [cif_f c, bI_f (fun h => c h.1)]
  rw [this]
  exact ⟨bI_01, hQ⟩
theorem vc_X10_events_0 {μ : am_M} {Q : Int → am_M → Prop} (h : (am_in (2 * (μ 1 25))) ∧ ((am_in ((2 * (μ 1 25)) + (μ 1 438))) ∧ (Q ((2 * (μ 1 25)) + (μ 1 438)) μ))) : at_I kR 1 mX10_events 0 [vR 0] [] μ Q := by
  refine s_iconst dX10_events_0 (by decide) ?_
  refine s_aload_n dX10_events_1 rfl rfl ?_
  refine s_getR dX10_events_2 flX10_9 rn0 rk0 rfl rr0_0 ?_
  refine s_bipush dX10_events_5 (by decide) ?_
  refine s_iald (x := (μ 1 25)) dX10_events_7 rn1 rk1 rl1 (by decide) (by decide) rfl ?_
  obtain ⟨c, h⟩ := h
  refine s_imul dX10_events_8 (am_w_id c) ?_
  refine s_aload_n dX10_events_9 rfl rfl ?_
  refine s_getR dX10_events_10 flX10_9 rn0 rk0 rfl rr0_0 ?_
  refine s_sipush dX10_events_13 (by decide) ?_
  refine s_iald (x := (μ 1 438)) dX10_events_16 rn1 rk1 rl1 (by decide) (by decide) rfl ?_
  obtain ⟨c, h⟩ := h
  refine s_iadd dX10_events_17 (am_w_id c) ?_
  exact s_ireturn dX10_events_18 (Or.inl rfl) ⟨⟨rfl, rfl⟩, _, rfl, h⟩
theorem ve_X10_events {μ : am_M} {Q : Int → am_M → Prop} (h : at_I kR 1 mX10_events 0 [vR 0] [] μ Q) : cl_I kR 1 mX10_events [vR 0] μ Q := am_intro pmX10_events (Nat.le_of_ble_eq_true rfl) rfl h
theorem sp_X10_events {μ : am_M} {Q : Int → am_M → Prop} (h0 : in_ 0 33 (μ 1 25)) (h1 : in_ 0 13 (μ 1 438)) (hQ : Q (2 * μ 1 25 + μ 1 438) μ) : cl_I kR 1 mX10_events [vR 0] μ Q :=
  ve_X10_events (vc_X10_events_0 ⟨(by (try unfold am_in); (try unfold in_ at *); omega), (by (try unfold am_in); (try unfold in_ at *); omega), hQ⟩)
theorem vc_X10_isAudible_0 {x1 : Int} {μ : am_M} {Q : Int → am_M → Prop} (h : at_I kR 2 mX10_isAudible 4 [vR 0, vI x1, vI 0, vI 0] [] μ Q) : at_I kR 2 mX10_isAudible 0 [vR 0, vI x1, vU, vU] [] μ Q := by
  refine s_iconst dX10_isAudible_0 (by decide) ?_
  refine s_istore_n dX10_isAudible_1 rfl (by decide) (L' := [vR 0, vI x1, vI 0, vU]) rfl ?_
  refine s_iconst dX10_isAudible_2 (by decide) ?_
  refine s_istore_n dX10_isAudible_3 rfl (by decide) (L' := [vR 0, vI x1, vI 0, vI 0]) rfl ?_
  exact h
theorem vc_X10_isAudible_4 {x1 x2 x3 : Int} {μ : am_M} {Q : Int → am_M → Prop} (h : (4 ≤ x3 → (in_ 0 4 x1) ∧ (in_ 0 7 1) ∧ (((rT μ x1 1 = 0 → (in_ 0 4 x1) ∧ (in_ 0 7 2))) ∧ (∀ v1 : Int, v1 = (if rT μ x1 1 = 0 then (if rT μ x1 2 = 1 then 1 else (if x2 = 0 then 1 else 0)) else 0) → (v1 = 0 ∨ v1 = 1) ∧ Q v1 μ))) ∧ (x3 < 4 → (in_ 0 4 x3) ∧ (in_ 0 7 2) ∧ (∀ v3 : Int, v3 = (if rT μ x3 2 = 1 then 1 else 0) → (am_in (x3 + 1)) ∧ (at_I kR 2 mX10_isAudible 4 [vR 0, vI x1, vI (am_or x2 v3), vI (x3 + 1)] [] μ Q)))) : at_I kR 2 mX10_isAudible 4 [vR 0, vI x1, vI x2, vI x3] [] μ Q := by
  refine s_iload_n dX10_isAudible_4 rfl rfl ?_
  refine s_iconst dX10_isAudible_5 (by decide) ?_
  refine s_icmp_ge dX10_isAudible_6 (tgt := 33) (by decide) (fun cc => ?_) (fun cc => ?_)
  · have h := h.1 cc
    refine s_aload_n dX10_isAudible_33 rfl rfl ?_
    refine s_iload_n dX10_isAudible_34 rfl rfl ?_
    refine s_iconst dX10_isAudible_35 (by decide) ?_
    obtain ⟨p0, p1, h⟩ := h
    refine s_callV (As := [vI x1, vI 1]) (rest := []) (k := 0) dX10_isAudible_36 lkX10_139 rn0 ⟨by rw [rk0]; rfl, by rw [rk0]; decide⟩ lmX10_trackOf rfl rfl (Nat.le_of_ble_eq_true rfl) (by decide) (Nat.le_refl 0) (Nat.le_refl 0) (hC := sp_X10_trackOf (Q := fun z m => rT μ x1 1 = z ∧ μ = m) p0 p1 ⟨rfl, rfl⟩) (fun r n2 S2 m2 hP => ?_)
    obtain ⟨⟨rfl, rfl⟩, z, rfl, rfl, rfl⟩ := hP
    obtain ⟨hsd, h⟩ := h
    have kj2 : ∀ (v1 : Int), ((v1 = 0 ∨ v1 = 1) ∧ Q v1 μ) → at_I kR 2 mX10_isAudible 61 [vU, vU, vU, vU] [vI v1] μ Q := by
      intro v1 h
      exact s_ireturn dX10_isAudible_61 (Or.inr ⟨rfl, h.1⟩) ⟨⟨rfl, rfl⟩, _, rfl, h.2⟩
    refine s_if_ne dX10_isAudible_39 (tgt := 60) (by decide) (fun cc => ?_) (fun cc => ?_)
    · have hp0 := cc
      refine s_iconst dX10_isAudible_60 (by decide) ?_
      exact am_lesS (kj2 0 (h 0 (by rw [if_neg hp0]))) ⟨Or.inl rfl, Or.inl rfl, Or.inl rfl, Or.inl rfl, trivial⟩
    · have hp0 := cc
      have hsd := hsd hp0
      refine s_aload_n dX10_isAudible_42 rfl rfl ?_
      refine s_iload_n dX10_isAudible_43 rfl rfl ?_
      refine s_iconst dX10_isAudible_44 (by decide) ?_
      obtain ⟨p0, p1⟩ := hsd
      refine s_callV (As := [vI x1, vI 2]) (rest := []) (k := 0) dX10_isAudible_45 lkX10_139 rn0 ⟨by rw [rk0]; rfl, by rw [rk0]; decide⟩ lmX10_trackOf rfl rfl (Nat.le_of_ble_eq_true rfl) (by decide) (Nat.le_refl 0) (Nat.le_refl 0) (hC := sp_X10_trackOf (Q := fun z m => rT μ x1 2 = z ∧ μ = m) p0 p1 ⟨rfl, rfl⟩) (fun r n2 S2 m2 hP => ?_)
      obtain ⟨⟨rfl, rfl⟩, z, rfl, rfl, rfl⟩ := hP
      refine s_iconst dX10_isAudible_48 (by decide) ?_
      refine s_icmp_eq dX10_isAudible_49 (tgt := 56) (by decide) (fun cc => ?_) (fun cc => ?_)
      · have hp1 := cc
        refine s_iconst dX10_isAudible_56 (by decide) ?_
        refine s_goto dX10_isAudible_57 (tgt := 61) (by decide) ?_
        exact am_lesS (kj2 1 (h 1 (by rw [if_pos hp0, if_pos hp1]))) ⟨Or.inl rfl, Or.inl rfl, Or.inl rfl, Or.inl rfl, trivial⟩
      · have hp1 := cc
        refine s_iload_n dX10_isAudible_52 rfl rfl ?_
        refine s_if_ne dX10_isAudible_53 (tgt := 60) (by decide) (fun cc => ?_) (fun cc => ?_)
        · have hp2 := cc
          refine s_iconst dX10_isAudible_60 (by decide) ?_
          exact am_lesS (kj2 0 (h 0 (by rw [if_pos hp0, if_neg hp1, if_neg hp2]))) ⟨Or.inl rfl, Or.inl rfl, Or.inl rfl, Or.inl rfl, trivial⟩
        · have hp2 := cc
          refine s_iconst dX10_isAudible_56 (by decide) ?_
          refine s_goto dX10_isAudible_57 (tgt := 61) (by decide) ?_
          exact am_lesS (kj2 1 (h 1 (by rw [if_pos hp0, if_neg hp1, if_pos hp2]))) ⟨Or.inl rfl, Or.inl rfl, Or.inl rfl, Or.inl rfl, trivial⟩
  · have h := h.2 cc
    refine s_iload_n dX10_isAudible_9 rfl rfl ?_
    refine s_aload_n dX10_isAudible_10 rfl rfl ?_
    refine s_iload_n dX10_isAudible_11 rfl rfl ?_
    refine s_iconst dX10_isAudible_12 (by decide) ?_
    obtain ⟨p0, p1, h⟩ := h
    refine s_callV (As := [vI x3, vI 2]) (rest := [vI x2]) (k := 0) dX10_isAudible_13 lkX10_139 rn0 ⟨by rw [rk0]; rfl, by rw [rk0]; decide⟩ lmX10_trackOf rfl rfl (Nat.le_of_ble_eq_true rfl) (by decide) (Nat.le_refl 0) (Nat.le_refl 0) (hC := sp_X10_trackOf (Q := fun z m => rT μ x3 2 = z ∧ μ = m) p0 p1 ⟨rfl, rfl⟩) (fun r n2 S2 m2 hP => ?_)
    obtain ⟨⟨rfl, rfl⟩, z, rfl, rfl, rfl⟩ := hP
    refine s_iconst dX10_isAudible_16 (by decide) ?_
    have kj4 : ∀ (v3 : Int), ((am_in (x3 + 1)) ∧ (at_I kR 2 mX10_isAudible 4 [vR 0, vI x1, vI (am_or x2 v3), vI (x3 + 1)] [] μ Q)) → at_I kR 2 mX10_isAudible 25 [vR 0, vI x1, vU, vI x3] [vI v3, vI x2] μ Q := by
      intro v3 h
      refine s_ior dX10_isAudible_25 rfl ?_
      refine s_istore_n dX10_isAudible_26 rfl (by decide) (L' := [vR 0, vI x1, vI (am_or x2 v3), vI x3]) rfl ?_
      obtain ⟨c, h⟩ := h
      refine s_iinc dX10_isAudible_27 rfl (am_w_id c) (by decide) (L' := [vR 0, vI x1, vI (am_or x2 v3), vI (x3 + 1)]) rfl ?_
      refine s_goto dX10_isAudible_30 (tgt := 4) (by decide) ?_
      exact h
    refine s_icmp_ne dX10_isAudible_17 (tgt := 24) (by decide) (fun cc => ?_) (fun cc => ?_)
    · have hp0 := cc
      refine s_iconst dX10_isAudible_24 (by decide) ?_
      exact am_lesS (kj4 0 (h 0 (by rw [if_neg hp0]))) ⟨Or.inr rfl, Or.inr rfl, Or.inl rfl, Or.inr rfl, trivial⟩
    · have hp0 := cc
      refine s_iconst dX10_isAudible_20 (by decide) ?_
      refine s_goto dX10_isAudible_21 (tgt := 25) (by decide) ?_
      exact am_lesS (kj4 1 (h 1 (by rw [if_pos hp0]))) ⟨Or.inr rfl, Or.inr rfl, Or.inl rfl, Or.inr rfl, trivial⟩
theorem ve_X10_isAudible {x1 : Int} {μ : am_M} {Q : Int → am_M → Prop} (h : at_I kR 2 mX10_isAudible 0 [vR 0, vI x1, vU, vU] [] μ Q) : cl_I kR 2 mX10_isAudible [vR 0, vI x1] μ Q := am_intro pmX10_isAudible (Nat.le_of_ble_eq_true rfl) rfl h
theorem or01 : am_or 0 0 = 0 ∧ am_or 0 1 = 1 ∧ am_or 1 0 = 1 ∧ am_or 1 1 = 1 := by decide +kernel
theorem sp_X10_isAudible {μ : am_M} {t : Int} {Q : Int → am_M → Prop} (ht : in_ 0 4 t) (hQ : Q (bI (aud_ (rT μ) t)) μ) : cl_I kR 2 mX10_isAudible [vR 0, vI t] μ Q := by
  refine ve_X10_isAudible (vc_X10_isAudible_0 ?_)
  have : ∀ (j : Nat) (s x : Int), x + j = 4 → 0 ≤ x → (s = 0 ∨ s = 1) → (s = 1 ↔ ∃ u, 0 ≤ u ∧ u < x ∧ rT μ u 2 = 1) → at_I kR 2 mX10_isAudible 4 [vR 0, vI t, vI s, vI x] [] μ Q := by
    intro j
    induction j with
    | zero =>
      intro s x hx h0 h01 hs
      have e4 : x = 4 := by omega
      subst e4
      have hs2 : s = 1 ↔ solo_ (rT μ) := hs
      refine vc_X10_isAudible_4 ⟨fun _ => ⟨ht, (by (try unfold am_in); (try unfold in_ at *); omega), fun _ => ⟨ht, (by (try unfold am_in); (try unfold in_ at *); omega)⟩, fun v e => ?_⟩, fun q => by omega⟩
      have : v = bI (aud_ (rT μ) t) := by
        rw [e]
        unfold aud_
        rw [← hs2]
        (repeat' split) <;> first | (exact (bI_t (by omega)).symm) | (exact (bI_f (by omega)).symm)
      rw [this]
      exact ⟨bI_01, hQ⟩
    | succ j ih =>
      intro s x hx h0 h01 hs
      refine vc_X10_isAudible_4 ⟨fun q => by omega, fun q => ⟨(by (try unfold am_in); (try unfold in_ at *); omega), (by (try unfold am_in); (try unfold in_ at *); omega), fun v e => ⟨(by (try unfold am_in); (try unfold in_ at *); omega), ih _ (x + 1) (by omega) (by omega) ?_ ?_⟩⟩⟩
      · rcases h01 with rfl | rfl <;> (rw [e]; split)
        · exact Or.inr or01.2.1
        · exact Or.inl or01.1
        · exact Or.inr or01.2.2.2
        · exact Or.inr or01.2.2.1
      · have key : (∃ u, 0 ≤ u ∧ u < x + 1 ∧ rT μ u 2 = 1) ↔ (s = 1 ∨ rT μ x 2 = 1) := by
          rw [hs]
          constructor
          · rintro ⟨u, a, b, c⟩
            by_cases q2 : u = x
            · exact Or.inr (by rw [← q2]; exact c)
            · exact Or.inl ⟨u, a, by omega, c⟩
          · rintro (⟨u, a, b, c⟩ | c)
            · exact ⟨u, a, by omega, c⟩
            · exact ⟨x, h0, by omega, c⟩
        rw [key, e]
        rcases h01 with rfl | rfl <;> by_cases q2 : rT μ x 2 = 1
        · rw [if_pos q2, or01.2.1]; simp [q2]
        · rw [if_neg q2, or01.1]; simp [q2]
        · rw [if_pos q2, or01.2.2.2]; simp
        · rw [if_neg q2, or01.2.2.1]; simp
  exact this 4 0 0 (by omega) (by omega) (Or.inl rfl) (by
    constructor
    · intro h; omega
    · rintro ⟨u, a, b, c⟩; omega)
theorem vc_X10_last_0 {μ : am_M} {Q : Int → am_M → Prop} (h : at_I kR 2 mX10_last 4 [vR 0, vI 0, vI 0] [] μ Q) : at_I kR 2 mX10_last 0 [vR 0, vU, vU] [] μ Q := by
  refine s_iconst dX10_last_0 (by decide) ?_
  refine s_istore_n dX10_last_1 rfl (by decide) (L' := [vR 0, vI 0, vU]) rfl ?_
  refine s_iconst dX10_last_2 (by decide) ?_
  refine s_istore_n dX10_last_3 rfl (by decide) (L' := [vR 0, vI 0, vI 0]) rfl ?_
  exact h
theorem vc_X10_last_4 {x1 x2 : Int} {μ : am_M} {Q : Int → am_M → Prop} (h : (μ 1 25 ≤ x2 → Q x1 μ) ∧ (x2 < μ 1 25 → (in_ 0 48 x2) ∧ (in_ 0 8 1) ∧ ((in_ 0 48 x2) ∧ (in_ 0 8 4) ∧ ((am_in (rg μ x2 1 + (rg μ x2 4))) ∧ (((x1 < rg μ x2 1 + (rg μ x2 4) → (in_ 0 48 x2) ∧ (in_ 0 8 1) ∧ ((in_ 0 48 x2) ∧ (in_ 0 8 4) ∧ ((am_in (rg μ x2 1 + (rg μ x2 4))))))) ∧ (∀ v1 : Int, v1 = (if x1 < rg μ x2 1 + (rg μ x2 4) then rg μ x2 1 + (rg μ x2 4) else x1) → (am_in (x2 + 1)) ∧ (at_I kR 2 mX10_last 4 [vR 0, vI v1, vI (x2 + 1)] [] μ Q))))))) : at_I kR 2 mX10_last 4 [vR 0, vI x1, vI x2] [] μ Q := by
  refine s_iload_n dX10_last_4 rfl rfl ?_
  refine s_aload_n dX10_last_5 rfl rfl ?_
  refine s_getR dX10_last_6 flX10_9 rn0 rk0 rfl rr0_0 ?_
  refine s_bipush dX10_last_9 (by decide) ?_
  refine s_iald (x := (μ 1 25)) dX10_last_11 rn1 rk1 rl1 (by decide) (by decide) rfl ?_
  refine s_icmp_ge dX10_last_12 (tgt := 56) (by decide) (fun cc => ?_) (fun cc => ?_)
  · have h := h.1 cc
    refine s_iload_n dX10_last_56 rfl rfl ?_
    exact s_ireturn dX10_last_57 (Or.inl rfl) ⟨⟨rfl, rfl⟩, _, rfl, h⟩
  · have h := h.2 cc
    refine s_aload_n dX10_last_15 rfl rfl ?_
    refine s_iload_n dX10_last_16 rfl rfl ?_
    refine s_iconst dX10_last_17 (by decide) ?_
    obtain ⟨p0, p1, h⟩ := h
    refine s_callV (As := [vI x2, vI 1]) (rest := []) (k := 0) dX10_last_18 lkX10_126 rn0 ⟨by rw [rk0]; rfl, by rw [rk0]; decide⟩ lmX10_of rfl rfl (Nat.le_of_ble_eq_true rfl) (by decide) (Nat.le_refl 0) (Nat.le_refl 0) (hC := sp_X10_of (Q := fun z m => rg μ x2 1 = z ∧ μ = m) p0 p1 ⟨rfl, rfl⟩) (fun r n2 S2 m2 hP => ?_)
    obtain ⟨⟨rfl, rfl⟩, z, rfl, rfl, rfl⟩ := hP
    refine s_aload_n dX10_last_21 rfl rfl ?_
    refine s_iload_n dX10_last_22 rfl rfl ?_
    refine s_iconst dX10_last_23 (by decide) ?_
    obtain ⟨p0, p1, h⟩ := h
    refine s_callV (As := [vI x2, vI 4]) (rest := [vI (rg μ x2 1)]) (k := 0) dX10_last_24 lkX10_126 rn0 ⟨by rw [rk0]; rfl, by rw [rk0]; decide⟩ lmX10_of rfl rfl (Nat.le_of_ble_eq_true rfl) (by decide) (Nat.le_refl 0) (Nat.le_refl 0) (hC := sp_X10_of (Q := fun z m => rg μ x2 4 = z ∧ μ = m) p0 p1 ⟨rfl, rfl⟩) (fun r n2 S2 m2 hP => ?_)
    obtain ⟨⟨rfl, rfl⟩, z, rfl, rfl, rfl⟩ := hP
    obtain ⟨c, h⟩ := h
    refine s_iadd dX10_last_27 (am_w_id c) ?_
    refine s_iload_n dX10_last_28 rfl rfl ?_
    obtain ⟨hsd, h⟩ := h
    have kj2 : ∀ (v1 : Int), ((am_in (x2 + 1)) ∧ (at_I kR 2 mX10_last 4 [vR 0, vI v1, vI (x2 + 1)] [] μ Q)) → at_I kR 2 mX10_last 49 [vR 0, vU, vI x2] [vI v1] μ Q := by
      intro v1 h
      refine s_istore_n dX10_last_49 rfl (by decide) (L' := [vR 0, vI v1, vI x2]) rfl ?_
      obtain ⟨c, h⟩ := h
      refine s_iinc dX10_last_50 rfl (am_w_id c) (by decide) (L' := [vR 0, vI v1, vI (x2 + 1)]) rfl ?_
      refine s_goto dX10_last_53 (tgt := 4) (by decide) ?_
      exact h
    refine s_icmp_le dX10_last_29 (tgt := 48) (by decide) (fun cc => ?_) (fun cc => ?_)
    · have hp0 := cc
      refine s_iload_n dX10_last_48 rfl rfl ?_
      exact am_lesS (kj2 x1 (h x1 (by rw [if_neg (Int.not_lt.mpr hp0)]))) ⟨Or.inr rfl, Or.inl rfl, Or.inr rfl, trivial⟩
    · have hp0 := cc
      have hsd := hsd hp0
      refine s_aload_n dX10_last_32 rfl rfl ?_
      refine s_iload_n dX10_last_33 rfl rfl ?_
      refine s_iconst dX10_last_34 (by decide) ?_
      obtain ⟨p0, p1, hsd⟩ := hsd
      refine s_callV (As := [vI x2, vI 1]) (rest := []) (k := 0) dX10_last_35 lkX10_126 rn0 ⟨by rw [rk0]; rfl, by rw [rk0]; decide⟩ lmX10_of rfl rfl (Nat.le_of_ble_eq_true rfl) (by decide) (Nat.le_refl 0) (Nat.le_refl 0) (hC := sp_X10_of (Q := fun z m => rg μ x2 1 = z ∧ μ = m) p0 p1 ⟨rfl, rfl⟩) (fun r n2 S2 m2 hP => ?_)
      obtain ⟨⟨rfl, rfl⟩, z, rfl, rfl, rfl⟩ := hP
      refine s_aload_n dX10_last_38 rfl rfl ?_
      refine s_iload_n dX10_last_39 rfl rfl ?_
      refine s_iconst dX10_last_40 (by decide) ?_
      obtain ⟨p0, p1, hsd⟩ := hsd
      refine s_callV (As := [vI x2, vI 4]) (rest := [vI (rg μ x2 1)]) (k := 0) dX10_last_41 lkX10_126 rn0 ⟨by rw [rk0]; rfl, by rw [rk0]; decide⟩ lmX10_of rfl rfl (Nat.le_of_ble_eq_true rfl) (by decide) (Nat.le_refl 0) (Nat.le_refl 0) (hC := sp_X10_of (Q := fun z m => rg μ x2 4 = z ∧ μ = m) p0 p1 ⟨rfl, rfl⟩) (fun r n2 S2 m2 hP => ?_)
      obtain ⟨⟨rfl, rfl⟩, z, rfl, rfl, rfl⟩ := hP
      have c := hsd
      refine s_iadd dX10_last_44 (am_w_id c) ?_
      refine s_goto dX10_last_45 (tgt := 49) (by decide) ?_
      exact am_lesS (kj2 (rg μ x2 1 + (rg μ x2 4)) (h (rg μ x2 1 + (rg μ x2 4)) (by rw [if_pos hp0]))) ⟨Or.inr rfl, Or.inl rfl, Or.inr rfl, trivial⟩
theorem ve_X10_last {μ : am_M} {Q : Int → am_M → Prop} (h : at_I kR 2 mX10_last 0 [vR 0, vU, vU] [] μ Q) : cl_I kR 2 mX10_last [vR 0] μ Q := am_intro pmX10_last (Nat.le_of_ble_eq_true rfl) rfl h
theorem sp_X10_last {μ : am_M} {Q : Int → am_M → Prop} (hn : ok_T (rg μ) (μ 1 25)) (hQ : Q (la_ (rg μ) (μ 1 25)) μ) : cl_I kR 2 mX10_last [vR 0] μ Q := by
  have q1 := hn.1
  refine ve_X10_last (vc_X10_last_0 ?_)
  have : ∀ (k : Nat) (x1 x2 : Int), x2 + k = μ 1 25 → 0 ≤ x2 → x1 = la_ (rg μ) x2 → at_I kR 2 mX10_last 4 [vR 0, vI x1, vI x2] [] μ Q := by
    intro k
    induction k with
    | zero =>
      intro x1 x2 h h0 e
      have h' : x2 = μ 1 25 := by omega
      exact vc_X10_last_4 ⟨fun _ => by rw [e, h']; exact hQ, fun q => by omega⟩
    | succ k ih =>
      intro x1 x2 h h0 e
      have he : am_in (rg μ x2 1 + rg μ x2 4) := hn.en h0 (by omega)
      refine vc_X10_last_4 ⟨fun q => by omega, fun q => ⟨(by (try unfold am_in); (try unfold in_ at *); omega), (by (try unfold am_in); (try unfold in_ at *); omega), (by (try unfold am_in); (try unfold in_ at *); omega), (by (try unfold am_in); (try unfold in_ at *); omega), he, fun _ => ⟨(by (try unfold am_in); (try unfold in_ at *); omega), (by (try unfold am_in); (try unfold in_ at *); omega), (by (try unfold am_in); (try unfold in_ at *); omega), (by (try unfold am_in); (try unfold in_ at *); omega), he⟩, fun v1 e1 => ⟨(by (try unfold am_in); (try unfold in_ at *); omega), ih _ _ (by omega) (by omega) ?_⟩⟩⟩
      unfold la_ at e ⊢
      rw [fI_s _ _ h0, ← e, e1]
      rfl
  exact this (μ 1 25).toNat 0 0 (by (try unfold am_in); (try unfold in_ at *); omega) (by omega) rfl
theorem vc_X10_isShared_0 {x1 : Int} {μ : am_M} {Q : Int → am_M → Prop} (h : at_I kR 2 mX10_isShared 2 [vR 0, vI x1, vI 0] [] μ Q) : at_I kR 2 mX10_isShared 0 [vR 0, vI x1, vU] [] μ Q := by
  refine s_iconst dX10_isShared_0 (by decide) ?_
  refine s_istore_n dX10_isShared_1 rfl (by decide) (L' := [vR 0, vI x1, vI 0]) rfl ?_
  exact h
theorem vc_X10_isShared_2 {x1 x2 : Int} {μ : am_M} {Q : Int → am_M → Prop} (h : (μ 1 25 ≤ x2 → Q 0 μ) ∧ (x2 < μ 1 25 → (x2 = x1 → (am_in (x2 + 1)) ∧ (at_I kR 2 mX10_isShared 2 [vR 0, vI x1, vI (x2 + 1)] [] μ Q)) ∧ (x2 ≠ x1 → (in_ 0 48 x2) ∧ (in_ 0 8 0) ∧ ((rg μ x2 0 ≠ μ 14 0 → (am_in (x2 + 1)) ∧ (at_I kR 2 mX10_isShared 2 [vR 0, vI x1, vI (x2 + 1)] [] μ Q)) ∧ (rg μ x2 0 = μ 14 0 → (in_ 0 48 x2) ∧ (in_ 0 8 1) ∧ ((am_in (μ 14 1 + (μ 14 4))) ∧ ((μ 14 1 + (μ 14 4) ≤ rg μ x2 1 → (am_in (x2 + 1)) ∧ (at_I kR 2 mX10_isShared 2 [vR 0, vI x1, vI (x2 + 1)] [] μ Q)) ∧ (rg μ x2 1 < μ 14 1 + (μ 14 4) → (in_ 0 48 x2) ∧ (in_ 0 8 1) ∧ ((in_ 0 48 x2) ∧ (in_ 0 8 4) ∧ ((am_in (rg μ x2 1 + (rg μ x2 4))) ∧ ((rg μ x2 1 + (rg μ x2 4) ≤ μ 14 1 → (am_in (x2 + 1)) ∧ (at_I kR 2 mX10_isShared 2 [vR 0, vI x1, vI (x2 + 1)] [] μ Q)) ∧ (μ 14 1 < rg μ x2 1 + (rg μ x2 4) → Q 1 μ)))))))))))) : at_I kR 2 mX10_isShared 2 [vR 0, vI x1, vI x2] [] μ Q := by
  refine s_iload_n dX10_isShared_2 rfl rfl ?_
  refine s_aload_n dX10_isShared_3 rfl rfl ?_
  refine s_getR dX10_isShared_4 flX10_9 rn0 rk0 rfl rr0_0 ?_
  refine s_bipush dX10_isShared_7 (by decide) ?_
  refine s_iald (x := (μ 1 25)) dX10_isShared_9 rn1 rk1 rl1 (by decide) (by decide) rfl ?_
  refine s_icmp_ge dX10_isShared_10 (tgt := 85) (by decide) (fun cc => ?_) (fun cc => ?_)
  · have h := h.1 cc
    refine s_iconst dX10_isShared_85 (by decide) ?_
    exact s_ireturn dX10_isShared_86 (Or.inr ⟨rfl, by decide⟩) ⟨⟨rfl, rfl⟩, _, rfl, h⟩
  · have h := h.2 cc
    refine s_iload_n dX10_isShared_13 rfl rfl ?_
    refine s_iload_n dX10_isShared_14 rfl rfl ?_
    refine s_icmp_eq dX10_isShared_15 (tgt := 79) (by decide) (fun cc => ?_) (fun cc => ?_)
    · have h := h.1 cc
      obtain ⟨c, h⟩ := h
      refine s_iinc dX10_isShared_79 rfl (am_w_id c) (by decide) (L' := [vR 0, vI x1, vI (x2 + 1)]) rfl ?_
      refine s_goto dX10_isShared_82 (tgt := 2) (by decide) ?_
      exact h
    · have h := h.2 cc
      refine s_aload_n dX10_isShared_18 rfl rfl ?_
      refine s_iload_n dX10_isShared_19 rfl rfl ?_
      refine s_iconst dX10_isShared_20 (by decide) ?_
      obtain ⟨p0, p1, h⟩ := h
      refine s_callV (As := [vI x2, vI 0]) (rest := []) (k := 0) dX10_isShared_21 lkX10_126 rn0 ⟨by rw [rk0]; rfl, by rw [rk0]; decide⟩ lmX10_of rfl rfl (Nat.le_of_ble_eq_true rfl) (by decide) (Nat.le_refl 0) (Nat.le_refl 0) (hC := sp_X10_of (Q := fun z m => rg μ x2 0 = z ∧ μ = m) p0 p1 ⟨rfl, rfl⟩) (fun r n2 S2 m2 hP => ?_)
      obtain ⟨⟨rfl, rfl⟩, z, rfl, rfl, rfl⟩ := hP
      refine s_aload_n dX10_isShared_24 rfl rfl ?_
      refine s_getR dX10_isShared_25 flX10_50 rn0 rk0 rfl rr0_18 ?_
      refine s_iconst dX10_isShared_28 (by decide) ?_
      refine s_iald (x := (μ 14 0)) dX10_isShared_29 rn14 rk14 rl14 (by decide) (by decide) rfl ?_
      refine s_icmp_ne dX10_isShared_30 (tgt := 79) (by decide) (fun cc => ?_) (fun cc => ?_)
      · have h := h.1 cc
        obtain ⟨c, h⟩ := h
        refine s_iinc dX10_isShared_79 rfl (am_w_id c) (by decide) (L' := [vR 0, vI x1, vI (x2 + 1)]) rfl ?_
        refine s_goto dX10_isShared_82 (tgt := 2) (by decide) ?_
        exact h
      · have h := h.2 cc
        refine s_aload_n dX10_isShared_33 rfl rfl ?_
        refine s_iload_n dX10_isShared_34 rfl rfl ?_
        refine s_iconst dX10_isShared_35 (by decide) ?_
        obtain ⟨p0, p1, h⟩ := h
        refine s_callV (As := [vI x2, vI 1]) (rest := []) (k := 0) dX10_isShared_36 lkX10_126 rn0 ⟨by rw [rk0]; rfl, by rw [rk0]; decide⟩ lmX10_of rfl rfl (Nat.le_of_ble_eq_true rfl) (by decide) (Nat.le_refl 0) (Nat.le_refl 0) (hC := sp_X10_of (Q := fun z m => rg μ x2 1 = z ∧ μ = m) p0 p1 ⟨rfl, rfl⟩) (fun r n2 S2 m2 hP => ?_)
        obtain ⟨⟨rfl, rfl⟩, z, rfl, rfl, rfl⟩ := hP
        refine s_aload_n dX10_isShared_39 rfl rfl ?_
        refine s_getR dX10_isShared_40 flX10_50 rn0 rk0 rfl rr0_18 ?_
        refine s_iconst dX10_isShared_43 (by decide) ?_
        refine s_iald (x := (μ 14 1)) dX10_isShared_44 rn14 rk14 rl14 (by decide) (by decide) rfl ?_
        refine s_aload_n dX10_isShared_45 rfl rfl ?_
        refine s_getR dX10_isShared_46 flX10_50 rn0 rk0 rfl rr0_18 ?_
        refine s_iconst dX10_isShared_49 (by decide) ?_
        refine s_iald (x := (μ 14 4)) dX10_isShared_50 rn14 rk14 rl14 (by decide) (by decide) rfl ?_
        obtain ⟨c, h⟩ := h
        refine s_iadd dX10_isShared_51 (am_w_id c) ?_
        refine s_icmp_ge dX10_isShared_52 (tgt := 79) (by decide) (fun cc => ?_) (fun cc => ?_)
        · have h := h.1 cc
          obtain ⟨c, h⟩ := h
          refine s_iinc dX10_isShared_79 rfl (am_w_id c) (by decide) (L' := [vR 0, vI x1, vI (x2 + 1)]) rfl ?_
          refine s_goto dX10_isShared_82 (tgt := 2) (by decide) ?_
          exact h
        · have h := h.2 cc
          refine s_aload_n dX10_isShared_55 rfl rfl ?_
          refine s_getR dX10_isShared_56 flX10_50 rn0 rk0 rfl rr0_18 ?_
          refine s_iconst dX10_isShared_59 (by decide) ?_
          refine s_iald (x := (μ 14 1)) dX10_isShared_60 rn14 rk14 rl14 (by decide) (by decide) rfl ?_
          refine s_aload_n dX10_isShared_61 rfl rfl ?_
          refine s_iload_n dX10_isShared_62 rfl rfl ?_
          refine s_iconst dX10_isShared_63 (by decide) ?_
          obtain ⟨p0, p1, h⟩ := h
          refine s_callV (As := [vI x2, vI 1]) (rest := [vI (μ 14 1)]) (k := 0) dX10_isShared_64 lkX10_126 rn0 ⟨by rw [rk0]; rfl, by rw [rk0]; decide⟩ lmX10_of rfl rfl (Nat.le_of_ble_eq_true rfl) (by decide) (Nat.le_refl 0) (Nat.le_refl 0) (hC := sp_X10_of (Q := fun z m => rg μ x2 1 = z ∧ μ = m) p0 p1 ⟨rfl, rfl⟩) (fun r n2 S2 m2 hP => ?_)
          obtain ⟨⟨rfl, rfl⟩, z, rfl, rfl, rfl⟩ := hP
          refine s_aload_n dX10_isShared_67 rfl rfl ?_
          refine s_iload_n dX10_isShared_68 rfl rfl ?_
          refine s_iconst dX10_isShared_69 (by decide) ?_
          obtain ⟨p0, p1, h⟩ := h
          refine s_callV (As := [vI x2, vI 4]) (rest := [vI (rg μ x2 1), vI (μ 14 1)]) (k := 0) dX10_isShared_70 lkX10_126 rn0 ⟨by rw [rk0]; rfl, by rw [rk0]; decide⟩ lmX10_of rfl rfl (Nat.le_of_ble_eq_true rfl) (by decide) (Nat.le_refl 0) (Nat.le_refl 0) (hC := sp_X10_of (Q := fun z m => rg μ x2 4 = z ∧ μ = m) p0 p1 ⟨rfl, rfl⟩) (fun r n2 S2 m2 hP => ?_)
          obtain ⟨⟨rfl, rfl⟩, z, rfl, rfl, rfl⟩ := hP
          obtain ⟨c, h⟩ := h
          refine s_iadd dX10_isShared_73 (am_w_id c) ?_
          refine s_icmp_ge dX10_isShared_74 (tgt := 79) (by decide) (fun cc => ?_) (fun cc => ?_)
          · have h := h.1 cc
            obtain ⟨c, h⟩ := h
            refine s_iinc dX10_isShared_79 rfl (am_w_id c) (by decide) (L' := [vR 0, vI x1, vI (x2 + 1)]) rfl ?_
            refine s_goto dX10_isShared_82 (tgt := 2) (by decide) ?_
            exact h
          · have h := h.2 cc
            refine s_iconst dX10_isShared_77 (by decide) ?_
            exact s_ireturn dX10_isShared_78 (Or.inr ⟨rfl, by decide⟩) ⟨⟨rfl, rfl⟩, _, rfl, h⟩
theorem ve_X10_isShared {x1 : Int} {μ : am_M} {Q : Int → am_M → Prop} (h : at_I kR 2 mX10_isShared 0 [vR 0, vI x1, vU] [] μ Q) : cl_I kR 2 mX10_isShared [vR 0, vI x1] μ Q := am_intro pmX10_isShared (Nat.le_of_ble_eq_true rfl) rfl h
theorem sp_X10_isShared {μ : am_M} {ex : Int} {Q : Int → am_M → Prop} (hn : ok_T (rg μ) (μ 1 25)) (hl : am_in (μ 14 1 + μ 14 4)) (hQ : Q (bI (¬ fre_ (rg μ) (μ 1 25) (μ 14 0) (μ 14 1) (μ 14 4) ex)) μ) : cl_I kR 2 mX10_isShared [vR 0, vI ex] μ Q := by
  have q1 := hn.1
  refine ve_X10_isShared (vc_X10_isShared_0 ?_)
  have : ∀ (k : Nat) (x : Int), x + k = μ 1 25 → 0 ≤ x → no_ (ov_p (rg μ) (μ 14 0) (μ 14 1) (μ 14 4) ex) x → at_I kR 2 mX10_isShared 2 [vR 0, vI ex, vI x] [] μ Q := by
    intro k
    induction k with
    | zero =>
      intro x h h0 e
      have h' : x = μ 1 25 := by omega
      refine vc_X10_isShared_2 ⟨fun _ => ?_, fun q => by omega⟩
      rw [h'] at e
      rw [bI_f (p := ¬ fre_ (rg μ) (μ 1 25) (μ 14 0) (μ 14 1) (μ 14 4) ex) (fun z => z e)] at hQ
      exact hQ
    | succ k ih =>
      intro x h h0 e
      have he : am_in (rg μ x 1 + rg μ x 4) := hn.en h0 (by omega)
      have go : ∀ hh : ¬ ov_p (rg μ) (μ 14 0) (μ 14 1) (μ 14 4) ex x, am_in (x + 1) ∧ at_I kR 2 mX10_isShared 2 [vR 0, vI ex, vI (x + 1)] [] μ Q := fun hh => ⟨(by (try unfold am_in); (try unfold in_ at *); omega), ih _ (by omega) (by omega) (no_s e hh)⟩
      refine vc_X10_isShared_2 ⟨fun q => by omega, fun q => ⟨fun c => go (fun z => z.1 c), fun c => ⟨(by (try unfold am_in); (try unfold in_ at *); omega), (by (try unfold am_in); (try unfold in_ at *); omega), fun c2 => go (fun z => c2 z.2.1), fun c2 => ⟨(by (try unfold am_in); (try unfold in_ at *); omega), (by (try unfold am_in); (try unfold in_ at *); omega), hl, fun c3 => go (fun z => by have := z.2.2.2; omega), fun c3 => ⟨(by (try unfold am_in); (try unfold in_ at *); omega), (by (try unfold am_in); (try unfold in_ at *); omega), (by (try unfold am_in); (try unfold in_ at *); omega), (by (try unfold am_in); (try unfold in_ at *); omega), he, fun c4 => go (fun z => by have := z.2.2.1; unfold en_ at this; omega), fun c4 => ?_⟩⟩⟩⟩⟩
      rw [bI_t (p := ¬ fre_ (rg μ) (μ 1 25) (μ 14 0) (μ 14 1) (μ 14 4) ex) (fun z => z x h0 q ⟨c, c2, c4, c3⟩)] at hQ
      exact hQ
  exact this (μ 1 25).toNat 0 (by (try unfold am_in); (try unfold in_ at *); omega) (by omega) no_0
theorem vc_X10_clipOn_0 {x1 x2 : Int} {μ : am_M} {Q : Int → am_M → Prop} (h : at_I kR 2 mX10_clipOn 2 [vR 0, vI x1, vI x2, vI 0] [] μ Q) : at_I kR 2 mX10_clipOn 0 [vR 0, vI x1, vI x2, vU] [] μ Q := by
  refine s_iconst dX10_clipOn_0 (by decide) ?_
  refine s_istore_n dX10_clipOn_1 rfl (by decide) (L' := [vR 0, vI x1, vI x2, vI 0]) rfl ?_
  exact h
theorem vc_X10_clipOn_2 {x1 x2 x3 : Int} {μ : am_M} {Q : Int → am_M → Prop} (h : (μ 1 25 ≤ x3 → Q (-6) μ) ∧ (x3 < μ 1 25 → (in_ 0 48 x3) ∧ (in_ 0 8 0) ∧ ((rg μ x3 0 ≠ x1 → (am_in (x3 + 1)) ∧ (at_I kR 2 mX10_clipOn 2 [vR 0, vI x1, vI x2, vI (x3 + 1)] [] μ Q)) ∧ (rg μ x3 0 = x1 → (in_ 0 48 x3) ∧ (in_ 0 8 1) ∧ ((in_ 0 48 x3) ∧ (in_ 0 8 1) ∧ ((in_ 0 48 x3) ∧ (in_ 0 8 4) ∧ ((am_in (rg μ x3 1 + (rg μ x3 4))) ∧ ((am_in ((rg μ x3 1 + (rg μ x3 4)) - 1)) ∧ ((¬ ((rg μ x3 1) ≤ x2 ∧ x2 ≤ ((rg μ x3 1 + (rg μ x3 4)) - 1)) → (am_in (x3 + 1)) ∧ (at_I kR 2 mX10_clipOn 2 [vR 0, vI x1, vI x2, vI (x3 + 1)] [] μ Q)) ∧ ((rg μ x3 1) ≤ x2 ∧ x2 ≤ ((rg μ x3 1 + (rg μ x3 4)) - 1) → Q x3 μ)))))))))) : at_I kR 2 mX10_clipOn 2 [vR 0, vI x1, vI x2, vI x3] [] μ Q := by
  refine s_iload_n dX10_clipOn_2 rfl rfl ?_
  refine s_aload_n dX10_clipOn_3 rfl rfl ?_
  refine s_getR dX10_clipOn_4 flX10_9 rn0 rk0 rfl rr0_0 ?_
  refine s_bipush dX10_clipOn_7 (by decide) ?_
  refine s_iald (x := (μ 1 25)) dX10_clipOn_9 rn1 rk1 rl1 (by decide) (by decide) rfl ?_
  refine s_icmp_ge dX10_clipOn_10 (tgt := 59) (by decide) (fun cc => ?_) (fun cc => ?_)
  · have h := h.1 cc
    refine s_bipush dX10_clipOn_59 (by decide) ?_
    exact s_ireturn dX10_clipOn_61 (Or.inl rfl) ⟨⟨rfl, rfl⟩, _, rfl, h⟩
  · have h := h.2 cc
    refine s_aload_n dX10_clipOn_13 rfl rfl ?_
    refine s_iload_n dX10_clipOn_14 rfl rfl ?_
    refine s_iconst dX10_clipOn_15 (by decide) ?_
    obtain ⟨p0, p1, h⟩ := h
    refine s_callV (As := [vI x3, vI 0]) (rest := []) (k := 0) dX10_clipOn_16 lkX10_126 rn0 ⟨by rw [rk0]; rfl, by rw [rk0]; decide⟩ lmX10_of rfl rfl (Nat.le_of_ble_eq_true rfl) (by decide) (Nat.le_refl 0) (Nat.le_refl 0) (hC := sp_X10_of (Q := fun z m => rg μ x3 0 = z ∧ μ = m) p0 p1 ⟨rfl, rfl⟩) (fun r n2 S2 m2 hP => ?_)
    obtain ⟨⟨rfl, rfl⟩, z, rfl, rfl, rfl⟩ := hP
    refine s_iload_n dX10_clipOn_19 rfl rfl ?_
    refine s_icmp_ne dX10_clipOn_20 (tgt := 53) (by decide) (fun cc => ?_) (fun cc => ?_)
    · have h := h.1 cc
      obtain ⟨c, h⟩ := h
      refine s_iinc dX10_clipOn_53 rfl (am_w_id c) (by decide) (L' := [vR 0, vI x1, vI x2, vI (x3 + 1)]) rfl ?_
      refine s_goto dX10_clipOn_56 (tgt := 2) (by decide) ?_
      exact h
    · have h := h.2 cc
      refine s_iload_n dX10_clipOn_23 rfl rfl ?_
      refine s_aload_n dX10_clipOn_24 rfl rfl ?_
      refine s_iload_n dX10_clipOn_25 rfl rfl ?_
      refine s_iconst dX10_clipOn_26 (by decide) ?_
      obtain ⟨p0, p1, h⟩ := h
      refine s_callV (As := [vI x3, vI 1]) (rest := [vI x2]) (k := 0) dX10_clipOn_27 lkX10_126 rn0 ⟨by rw [rk0]; rfl, by rw [rk0]; decide⟩ lmX10_of rfl rfl (Nat.le_of_ble_eq_true rfl) (by decide) (Nat.le_refl 0) (Nat.le_refl 0) (hC := sp_X10_of (Q := fun z m => rg μ x3 1 = z ∧ μ = m) p0 p1 ⟨rfl, rfl⟩) (fun r n2 S2 m2 hP => ?_)
      obtain ⟨⟨rfl, rfl⟩, z, rfl, rfl, rfl⟩ := hP
      refine s_aload_n dX10_clipOn_30 rfl rfl ?_
      refine s_iload_n dX10_clipOn_31 rfl rfl ?_
      refine s_iconst dX10_clipOn_32 (by decide) ?_
      obtain ⟨p0, p1, h⟩ := h
      refine s_callV (As := [vI x3, vI 1]) (rest := [vI (rg μ x3 1), vI x2]) (k := 0) dX10_clipOn_33 lkX10_126 rn0 ⟨by rw [rk0]; rfl, by rw [rk0]; decide⟩ lmX10_of rfl rfl (Nat.le_of_ble_eq_true rfl) (by decide) (Nat.le_refl 0) (Nat.le_refl 0) (hC := sp_X10_of (Q := fun z m => rg μ x3 1 = z ∧ μ = m) p0 p1 ⟨rfl, rfl⟩) (fun r n2 S2 m2 hP => ?_)
      obtain ⟨⟨rfl, rfl⟩, z, rfl, rfl, rfl⟩ := hP
      refine s_aload_n dX10_clipOn_36 rfl rfl ?_
      refine s_iload_n dX10_clipOn_37 rfl rfl ?_
      refine s_iconst dX10_clipOn_38 (by decide) ?_
      obtain ⟨p0, p1, h⟩ := h
      refine s_callV (As := [vI x3, vI 4]) (rest := [vI (rg μ x3 1), vI (rg μ x3 1), vI x2]) (k := 0) dX10_clipOn_39 lkX10_126 rn0 ⟨by rw [rk0]; rfl, by rw [rk0]; decide⟩ lmX10_of rfl rfl (Nat.le_of_ble_eq_true rfl) (by decide) (Nat.le_refl 0) (Nat.le_refl 0) (hC := sp_X10_of (Q := fun z m => rg μ x3 4 = z ∧ μ = m) p0 p1 ⟨rfl, rfl⟩) (fun r n2 S2 m2 hP => ?_)
      obtain ⟨⟨rfl, rfl⟩, z, rfl, rfl, rfl⟩ := hP
      obtain ⟨c, h⟩ := h
      refine s_iadd dX10_clipOn_42 (am_w_id c) ?_
      refine s_iconst dX10_clipOn_43 (by decide) ?_
      obtain ⟨c, h⟩ := h
      refine s_isub dX10_clipOn_44 (am_w_id c) ?_
      refine s_callS (As := [vI x2, vI (rg μ x3 1), vI ((rg μ x3 1 + (rg μ x3 4)) - 1)]) (rest := []) dX10_clipOn_45 lkX10_103 lmX10_isIn rfl rfl (Nat.le_of_ble_eq_true rfl) (by decide) (Nat.le_refl 0) (Nat.le_refl 0) (hC := sp_X10_isIn (Q := fun z m => bI ((rg μ x3 1) ≤ x2 ∧ x2 ≤ ((rg μ x3 1 + (rg μ x3 4)) - 1)) = z ∧ μ = m)  ⟨rfl, rfl⟩) (fun r n2 S2 m2 hP => ?_)
      obtain ⟨⟨rfl, rfl⟩, z, rfl, rfl, rfl⟩ := hP
      refine s_if_eq dX10_clipOn_48 (tgt := 53) (by decide) (fun cc => ?_) (fun cc => ?_)
      · have h := h.1 (bI_eq cc)
        obtain ⟨c, h⟩ := h
        refine s_iinc dX10_clipOn_53 rfl (am_w_id c) (by decide) (L' := [vR 0, vI x1, vI x2, vI (x3 + 1)]) rfl ?_
        refine s_goto dX10_clipOn_56 (tgt := 2) (by decide) ?_
        exact h
      · have h := h.2 (bI_ne cc)
        refine s_iload_n dX10_clipOn_51 rfl rfl ?_
        exact s_ireturn dX10_clipOn_52 (Or.inl rfl) ⟨⟨rfl, rfl⟩, _, rfl, h⟩
theorem ve_X10_clipOn {x1 x2 : Int} {μ : am_M} {Q : Int → am_M → Prop} (h : at_I kR 2 mX10_clipOn 0 [vR 0, vI x1, vI x2, vU] [] μ Q) : cl_I kR 2 mX10_clipOn [vR 0, vI x1, vI x2] μ Q := am_intro pmX10_clipOn (Nat.le_of_ble_eq_true rfl) rfl h
theorem sp_X10_clipOn {μ : am_M} {t f : Int} {Q : Int → am_M → Prop} (hn : ok_T (rg μ) (μ 1 25)) (hQ : Q (if ont_ (μ 1 25) (rg μ) t f < 0 then -6 else ont_ (μ 1 25) (rg μ) t f) μ) : cl_I kR 2 mX10_clipOn [vR 0, vI t, vI f] μ Q := by
  have q1 := hn.1
  refine ve_X10_clipOn (vc_X10_clipOn_0 ?_)
  have : ∀ (k : Nat) (x : Int), x + k = μ 1 25 → 0 ≤ x → no_ (on_p (rg μ) t f) x → at_I kR 2 mX10_clipOn 2 [vR 0, vI t, vI f, vI x] [] μ Q := by
    intro k
    induction k with
    | zero =>
      intro x h h0 e
      have h' : x = μ 1 25 := by omega
      refine vc_X10_clipOn_2 ⟨fun _ => ?_, fun q => by omega⟩
      rw [h'] at e
      have e2 : ont_ (μ 1 25) (rg μ) t f = -1 := no_f e
      rw [e2] at hQ
      exact hQ
    | succ k ih =>
      intro x h h0 e
      have he : am_in (rg μ x 1 + rg μ x 4) := hn.en h0 (by omega)
      obtain ⟨b0, b1, b2, b3, b4, b5, b6, b7⟩ := hn.2 x h0 (by omega)
      refine vc_X10_clipOn_2 ⟨fun q => by omega, fun q => ⟨(by (try unfold am_in); (try unfold in_ at *); omega), (by (try unfold am_in); (try unfold in_ at *); omega), fun c => ⟨(by (try unfold am_in); (try unfold in_ at *); omega), ih _ (by omega) (by omega) (no_s e (fun z => c z.1))⟩, fun c => ⟨(by (try unfold am_in); (try unfold in_ at *); omega), (by (try unfold am_in); (try unfold in_ at *); omega), (by (try unfold am_in); (try unfold in_ at *); omega), (by (try unfold am_in); (try unfold in_ at *); omega), (by (try unfold am_in); (try unfold in_ at *); omega), (by (try unfold am_in); (try unfold in_ at *); omega), he, (by (try unfold am_in); (try unfold in_ at *); omega), fun c2 => ⟨(by (try unfold am_in); (try unfold in_ at *); omega), ih _ (by omega) (by omega) (no_s e (fun z => c2 (by have := z.2; unfold en_ at this; omega)))⟩, fun c2 => ?_⟩⟩⟩
      have e2 : ont_ (μ 1 25) (rg μ) t f = x := no_t e h0 q ⟨c, by omega, by unfold en_; omega⟩
      rw [e2, if_neg (by omega)] at hQ
      exact hQ
  exact this (μ 1 25).toNat 0 (by (try unfold am_in); (try unfold in_ at *); omega) (by omega) no_0
theorem vc_X10_begins_0 {μ : am_M} {Q : am_M → Prop} (h : ∃ P : am_M → Prop, cl_V kR 1 mX10_copies [vR 1, vR 2] μ P ∧ (∀ m2 : am_M, P m2 → Q m2)) : at_V kR 2 mX10_begins 0 [vR 0] [] μ Q := by
  refine s_aload_n dX10_begins_0 rfl rfl ?_
  refine s_getR dX10_begins_1 flX10_9 rn0 rk0 rfl rr0_0 ?_
  refine s_aload_n dX10_begins_4 rfl rfl ?_
  refine s_getR dX10_begins_5 flX10_13 rn0 rk0 rfl rr0_1 ?_
  obtain ⟨P, hcl, h⟩ := h
  refine s_callS (As := [vR 1, vR 2]) (rest := []) dX10_begins_8 lkX10_78 lmX10_copies rfl rfl (Nat.le_of_ble_eq_true rfl) (by decide) (Nat.le_refl 0) (Nat.le_refl 0) (hC := hcl) (fun r n2 S2 m2 hP => ?_)
  obtain ⟨⟨rfl, rfl⟩, rfl, hq⟩ := hP
  have h := h m2 hq
  exact s_return dX10_begins_11 rfl ⟨⟨rfl, rfl⟩, rfl, h⟩
theorem ve_X10_begins {μ : am_M} {Q : am_M → Prop} (h : at_V kR 2 mX10_begins 0 [vR 0] [] μ Q) : cl_V kR 2 mX10_begins [vR 0] μ Q := am_intro pmX10_begins (Nat.le_of_ble_eq_true rfl) rfl h
theorem sp_X10_begins {μ : am_M} : cl_V kR 2 mX10_begins [vR 0] μ (fun m => fr_ [2] μ m ∧ ∀ i : Nat, i < 470 → m 2 i = μ 1 i) :=
  ve_X10_begins (vc_X10_begins_0 ⟨_, sp_X10_copies (rrow (by simp)) (rrow (by simp)) (by decide), fun m h => h⟩)
theorem vc_X10_steps_0 {b : Nat} (hb : b < kR.1 ∧ (kR.2 b).1 = 11 ∧ (kR.2 b).2.1 = 470) {μ : am_M} {Q : am_M → Prop} (h : ∃ P : am_M → Prop, cl_V kR 1 mX10_pushes [vR 0, vR 4, vI (μ 0 7), vR b] μ P ∧ (∀ m2 : am_M, P m2 → ((m2 0 7 ≠ 10 → (am_in (m2 0 7 + 1)))) ∧ (∀ v3 : Int, v3 = (if m2 0 7 = 10 then 10 else m2 0 7 + 1) → ∀ m4 : am_M, m4 = am_st m2 0 (am_up (m2 0) 7 v3) → Q m4))) : at_V kR 2 mX10_steps 0 [vR 0, vR b] [] μ Q := by
  refine s_aload_n dX10_steps_0 rfl rfl ?_
  refine s_aload_n dX10_steps_1 rfl rfl ?_
  refine s_getR dX10_steps_2 flX10_19 rn0 rk0 rfl rr0_3 ?_
  refine s_aload_n dX10_steps_5 rfl rfl ?_
  refine s_getI (x := (μ 0 7)) dX10_steps_6 flX10_82 rn0 rk0 rfl rfl ?_
  refine s_aload_n dX10_steps_9 rfl rfl ?_
  obtain ⟨P, hcl, h⟩ := h
  refine s_callV (As := [vR 4, vI (μ 0 7), vR b]) (rest := []) (k := 0) dX10_steps_10 lkX10_85 rn0 ⟨by rw [rk0]; rfl, by rw [rk0]; decide⟩ lmX10_pushes rfl rfl (Nat.le_of_ble_eq_true rfl) (by decide) (Nat.le_refl 0) (Nat.le_refl 0) (hC := hcl) (fun r n2 S2 m2 hP => ?_)
  obtain ⟨⟨rfl, rfl⟩, rfl, hq⟩ := hP
  have h := h m2 hq
  refine s_aload_n dX10_steps_13 rfl rfl ?_
  refine s_aload_n dX10_steps_14 rfl rfl ?_
  refine s_getI (x := (m2 0 7)) dX10_steps_15 flX10_82 rn0 rk0 rfl rfl ?_
  refine s_bipush dX10_steps_18 (by decide) ?_
  obtain ⟨hsd, h⟩ := h
  have kj5 : ∀ (v3 : Int), (∀ m4 : am_M, m4 = am_st m2 0 (am_up (m2 0) 7 v3) → Q m4) → at_V kR 2 mX10_steps 34 [vU, vU] [vI v3, vR 0] m2 Q := by
    intro v3 h
    obtain ⟨m4, hm4⟩ : ∃ x : am_M, x = am_st m2 0 (am_up (m2 0) 7 v3) := ⟨_, rfl⟩
    have h := h m4 hm4
    refine s_putI dX10_steps_34 flX10_82 rn0 rk0 rfl rfl (Or.inl rfl) hm4.symm ?_
    exact s_return dX10_steps_37 rfl ⟨⟨rfl, rfl⟩, rfl, h⟩
  refine s_icmp_ne dX10_steps_20 (tgt := 28) (by decide) (fun cc => ?_) (fun cc => ?_)
  · have hp0 := cc
    have hsd := hsd hp0
    refine s_aload_n dX10_steps_28 rfl rfl ?_
    refine s_getI (x := (m2 0 7)) dX10_steps_29 flX10_82 rn0 rk0 rfl rfl ?_
    refine s_iconst dX10_steps_32 (by decide) ?_
    have c := hsd
    refine s_iadd dX10_steps_33 (am_w_id c) ?_
    exact am_lesS (kj5 (m2 0 7 + 1) (h (m2 0 7 + 1) (by rw [if_neg hp0]))) ⟨Or.inl rfl, Or.inl rfl, trivial⟩
  · have hp0 := cc
    refine s_bipush dX10_steps_23 (by decide) ?_
    refine s_goto dX10_steps_25 (tgt := 34) (by decide) ?_
    exact am_lesS (kj5 10 (h 10 (by rw [if_pos hp0]))) ⟨Or.inl rfl, Or.inl rfl, trivial⟩
theorem ve_X10_steps {b : Nat} (hb : b < kR.1 ∧ (kR.2 b).1 = 11 ∧ (kR.2 b).2.1 = 470) {μ : am_M} {Q : am_M → Prop} (h : at_V kR 2 mX10_steps 0 [vR 0, vR b] [] μ Q) : cl_V kR 2 mX10_steps [vR 0, vR b] μ Q := am_intro pmX10_steps (Nat.le_of_ble_eq_true rfl) rfl h
/-- a state is laid behind the earlier ones -/
def psh_ (μ m : am_M) (b : Nat) : Prop := fr_ [0, 4] μ m ∧ (∀ j, j ≠ 7 → m 0 j = μ 0 j) ∧ ((μ 0 7 = 10 ∧ m 0 7 = 10 ∧ (∀ i : Nat, i < 4230 → m 4 i = μ 4 (i + 470)) ∧ ∀ i : Nat, i < 470 → m 4 (4230 + i) = μ b i) ∨ (μ 0 7 ≠ 10 ∧ m 0 7 = μ 0 7 + 1 ∧ (∀ i : Nat, i < 470 * (μ 0 7).toNat → m 4 i = μ 4 i) ∧ ∀ i : Nat, i < 470 → m 4 (470 * (μ 0 7).toNat + i) = μ b i))
theorem sp_X10_steps {b : Nat} (hb : b < kR.1 ∧ (kR.2 b).1 = 11 ∧ (kR.2 b).2.1 = 470) {μ : am_M} (hn : in_ 0 11 (μ 0 7)) : cl_V kR 2 mX10_steps [vR 0, vR b] μ (fun m => psh_ μ m b) := by
  refine ve_X10_steps hb (vc_X10_steps_0 hb ⟨_, sp_X10_pushes (rbig (by simp)) hb hn, fun m2 ⟨h1, h2, h3⟩ => ?_⟩)
  have e7 : m2 0 7 = μ 0 7 := by rw [h1 0 (by decide)]
  rw [e7]
  refine ⟨fun _ => by ((try unfold am_in); (try unfold in_ at *); omega), fun v ev m4 e4 => ⟨?_, fun j hj => ?_, ?_⟩⟩
  · exact fr_tr (fr_up h1 (by simp)) (by rw [e4]; exact fr_st (by simp))
  · rw [e4, st_s, up_n hj, h1 0 (by decide)]
  · by_cases c : μ 0 7 = 10
    · rw [if_pos c] at ev
      refine Or.inl ⟨c, by rw [e4, st_s, up_s, ev], ?_⟩
      rw [e4, st_n (by decide)]
      exact h2 c
    · rw [if_neg c] at ev
      refine Or.inr ⟨c, by rw [e4, st_s, up_s, ev], ?_⟩
      rw [e4, st_n (by decide)]
      exact h3 c
theorem vc_X10_ends_0 {x1 : Int} {μ : am_M} {Q : Int → am_M → Prop} (h : ∀ m1 : am_M, m1 = am_st μ 0 (am_up (μ 0) 8 0) → (μ 0 11 = 0 → ∃ P : am_M → Prop, cl_V kR 2 mX10_steps [vR 0, vR 2] m1 P ∧ (∀ m3 : am_M, P m3 → Q x1 m3)) ∧ (μ 0 11 ≠ 0 → (μ 0 9 ≠ 0 → (am_in (μ 0 9 + 1)) ∧ (∀ m4 : am_M, m4 = am_st m1 0 (am_up (m1 0) 9 (μ 0 9 + 1)) → Q x1 m4)) ∧ (μ 0 9 = 0 → ∃ P : am_M → Prop, cl_V kR 1 mX10_copies [vR 2, vR 6] m1 P ∧ (∀ m6 : am_M, P m6 → (am_in (m6 0 9 + 1)) ∧ (∀ m7 : am_M, m7 = am_st m6 0 (am_up (m6 0) 9 (m6 0 9 + 1)) → Q x1 m7))))) : at_I kR 3 mX10_ends 0 [vR 0, vI x1] [] μ Q := by
  refine s_aload_n dX10_ends_0 rfl rfl ?_
  refine s_iconst dX10_ends_1 (by decide) ?_
  obtain ⟨m1, hm1⟩ : ∃ x : am_M, x = am_st μ 0 (am_up (μ 0) 8 0) := ⟨_, rfl⟩
  have h := h m1 hm1
  refine s_putI dX10_ends_2 flX10_89 rn0 rk0 rfl rfl (Or.inl rfl) hm1.symm ?_
  refine s_aload_n dX10_ends_5 rfl rfl ?_
  refine s_getI (x := (μ 0 11)) dX10_ends_6 flX10_92 rn0 rk0 rfl (by subst hm1; rfl) ?_
  refine s_if_eq dX10_ends_9 (tgt := 43) (by decide) (fun cc => ?_) (fun cc => ?_)
  · have h := h.1 cc
    refine s_aload_n dX10_ends_43 rfl rfl ?_
    refine s_aload_n dX10_ends_44 rfl rfl ?_
    refine s_getR dX10_ends_45 flX10_13 rn0 rk0 rfl rr0_1 ?_
    obtain ⟨P, hcl, h⟩ := h
    refine s_callV (As := [vR 2]) (rest := []) (k := 0) dX10_ends_48 lkX10_99 rn0 ⟨by rw [rk0]; rfl, by rw [rk0]; decide⟩ lmX10_steps rfl rfl (Nat.le_of_ble_eq_true rfl) (by decide) (Nat.le_refl 0) (Nat.le_refl 0) (hC := hcl) (fun r n2 S2 m3 hP => ?_)
    obtain ⟨⟨rfl, rfl⟩, rfl, hq⟩ := hP
    have h := h m3 hq
    refine s_iload_n dX10_ends_51 rfl rfl ?_
    exact s_ireturn dX10_ends_52 (Or.inl rfl) ⟨⟨rfl, rfl⟩, _, rfl, h⟩
  · have h := h.2 cc
    refine s_aload_n dX10_ends_12 rfl rfl ?_
    refine s_getI (x := (μ 0 9)) dX10_ends_13 flX10_96 rn0 rk0 rfl (by subst hm1; rfl) ?_
    refine s_if_ne dX10_ends_16 (tgt := 30) (by decide) (fun cc => ?_) (fun cc => ?_)
    · have h := h.1 cc
      refine s_aload_n dX10_ends_30 rfl rfl ?_
      refine s_dup dX10_ends_31 ?_
      refine s_getI (x := (μ 0 9)) dX10_ends_32 flX10_96 rn0 rk0 rfl (by subst hm1; rfl) ?_
      refine s_iconst dX10_ends_35 (by decide) ?_
      obtain ⟨c, h⟩ := h
      refine s_iadd dX10_ends_36 (am_w_id c) ?_
      obtain ⟨m4, hm4⟩ : ∃ x : am_M, x = am_st m1 0 (am_up (m1 0) 9 (μ 0 9 + 1)) := ⟨_, rfl⟩
      have h := h m4 hm4
      refine s_putI dX10_ends_37 flX10_96 rn0 rk0 rfl rfl (Or.inl rfl) hm4.symm ?_
      refine s_goto dX10_ends_40 (tgt := 51) (by decide) ?_
      refine s_iload_n dX10_ends_51 rfl rfl ?_
      exact s_ireturn dX10_ends_52 (Or.inl rfl) ⟨⟨rfl, rfl⟩, _, rfl, h⟩
    · have h := h.2 cc
      refine s_aload_n dX10_ends_19 rfl rfl ?_
      refine s_getR dX10_ends_20 flX10_13 rn0 rk0 rfl rr0_1 ?_
      refine s_aload_n dX10_ends_23 rfl rfl ?_
      refine s_getR dX10_ends_24 flX10_25 rn0 rk0 rfl rr0_5 ?_
      obtain ⟨P, hcl, h⟩ := h
      refine s_callS (As := [vR 2, vR 6]) (rest := []) dX10_ends_27 lkX10_78 lmX10_copies rfl rfl (Nat.le_of_ble_eq_true rfl) (by decide) (Nat.le_refl 0) (Nat.le_refl 0) (hC := hcl) (fun r n2 S2 m6 hP => ?_)
      obtain ⟨⟨rfl, rfl⟩, rfl, hq⟩ := hP
      have h := h m6 hq
      refine s_aload_n dX10_ends_30 rfl rfl ?_
      refine s_dup dX10_ends_31 ?_
      refine s_getI (x := (m6 0 9)) dX10_ends_32 flX10_96 rn0 rk0 rfl rfl ?_
      refine s_iconst dX10_ends_35 (by decide) ?_
      obtain ⟨c, h⟩ := h
      refine s_iadd dX10_ends_36 (am_w_id c) ?_
      obtain ⟨m7, hm7⟩ : ∃ x : am_M, x = am_st m6 0 (am_up (m6 0) 9 (m6 0 9 + 1)) := ⟨_, rfl⟩
      have h := h m7 hm7
      refine s_putI dX10_ends_37 flX10_96 rn0 rk0 rfl rfl (Or.inl rfl) hm7.symm ?_
      refine s_goto dX10_ends_40 (tgt := 51) (by decide) ?_
      refine s_iload_n dX10_ends_51 rfl rfl ?_
      exact s_ireturn dX10_ends_52 (Or.inl rfl) ⟨⟨rfl, rfl⟩, _, rfl, h⟩
theorem ve_X10_ends {x1 : Int} {μ : am_M} {Q : Int → am_M → Prop} (h : at_I kR 3 mX10_ends 0 [vR 0, vI x1] [] μ Q) : cl_I kR 3 mX10_ends [vR 0, vI x1] μ Q := am_intro pmX10_ends (Nat.le_of_ble_eq_true rfl) rfl h
/-- a change is noted, as the reference does it, with the state in row 2 -/
def nt_ (μ m : am_M) : Prop := m 0 8 = 0 ∧ ((μ 0 11 ≠ 0 ∧ m 0 7 = μ 0 7 ∧ m 0 9 = μ 0 9 + 1 ∧ m 4 = μ 4 ∧ ((μ 0 9 = 0 ∧ ∀ i : Nat, i < 470 → m 6 i = μ 2 i) ∨ (μ 0 9 ≠ 0 ∧ m 6 = μ 6))) ∨ (μ 0 11 = 0 ∧ m 0 9 = μ 0 9 ∧ m 6 = μ 6 ∧ ((μ 0 7 = 10 ∧ m 0 7 = 10 ∧ (∀ i : Nat, i < 4230 → m 4 i = μ 4 (i + 470)) ∧ ∀ i : Nat, i < 470 → m 4 (4230 + i) = μ 2 i) ∨ (μ 0 7 ≠ 10 ∧ m 0 7 = μ 0 7 + 1 ∧ (∀ i : Nat, i < 470 * (μ 0 7).toNat → m 4 i = μ 4 i) ∧ ∀ i : Nat, i < 470 → m 4 (470 * (μ 0 7).toNat + i) = μ 2 i))))
theorem sp_X10_ends {μ : am_M} {z : Int} (hn : in_ 0 11 (μ 0 7)) (h9 : in_ 0 100000 (μ 0 9)) : cl_I kR 3 mX10_ends [vR 0, vI z] μ (fun w m => w = z ∧ fr_ [0, 4, 6] μ m ∧ (∀ j, j ≠ 7 → j ≠ 8 → j ≠ 9 → m 0 j = μ 0 j) ∧ nt_ μ m) := by
  refine ve_X10_ends (vc_X10_ends_0 (fun m1 e1 => ?_))
  have f1 : fr_ [0] μ m1 := by rw [e1]; exact fr_st (by simp)
  have a : ∀ j, j ≠ 8 → m1 0 j = μ 0 j := fun j hj => by rw [e1, st_s, up_n hj]
  have a8 : m1 0 8 = 0 := by rw [e1, st_s, up_s]
  refine ⟨fun c => ⟨_, sp_X10_steps (b := 2) (rrow (by simp)) (by rw [a 7 (by decide)]; exact hn), fun m3 ⟨h1, h2, h3⟩ => ⟨rfl, fr_tr (fr_up f1 (by simp)) (fr_up h1 (by simp)), fun j j7 j8 j9 => by rw [h2 j j7, a j j8], by rw [h2 8 (by decide), a8], Or.inr ⟨c, by rw [h2 9 (by decide), a 9 (by decide)], by rw [h1 6 (by decide), f1 6 (by decide)], ?_⟩⟩⟩, fun c => ⟨fun c2 => ⟨(by (try unfold am_in); (try unfold in_ at *); omega), fun m4 e4 => ⟨rfl, ?_, fun j j7 j8 j9 => ?_, ?_, Or.inl ⟨c, ?_, ?_, ?_, Or.inr ⟨c2, ?_⟩⟩⟩⟩, fun c2 => ⟨_, sp_X10_copies (rrow (by simp)) (rrow (by simp)) (by decide), fun m6 ⟨h1, h2⟩ => ⟨?_, fun m7 e7 => ⟨rfl, ?_, fun j j7 j8 j9 => ?_, ?_, Or.inl ⟨c, ?_, ?_, ?_, Or.inl ⟨c2, fun i hi => ?_⟩⟩⟩⟩⟩⟩⟩
  · rw [a 7 (by decide), f1 4 (by decide), f1 2 (by decide)] at h3
    exact h3
  · exact fr_tr (fr_up f1 (by simp)) (by rw [e4]; exact fr_st (by simp))
  · rw [e4, st_s, up_n j9, a j j8]
  · rw [e4, st_s, up_n (by decide), a8]
  · rw [e4, st_s, up_n (by decide), a 7 (by decide)]
  · rw [e4, st_s, up_s]
  · rw [e4, st_n (by decide), f1 4 (by decide)]
  · rw [e4, st_n (by decide), f1 6 (by decide)]
  · rw [h1 0 (by decide), a 9 (by decide)]; ((try unfold am_in); (try unfold in_ at *); omega)
  · exact fr_tr (fr_up f1 (by simp)) (fr_tr (fr_up h1 (by simp)) (by rw [e7]; exact fr_st (by simp)))
  · rw [e7, st_s, up_n j9, h1 0 (by decide), a j j8]
  · rw [e7, st_s, up_n (by decide), h1 0 (by decide), a8]
  · rw [e7, st_s, up_n (by decide), h1 0 (by decide), a 7 (by decide)]
  · rw [e7, st_s, up_s, h1 0 (by decide), a 9 (by decide)]
  · rw [e7, st_n (by decide), h1 4 (by decide), f1 4 (by decide)]
  · rw [e7, st_n (by decide), h2 i hi, f1 2 (by decide)]
/-! the reference's state -/
/-- cells that hold what is worked out for a question -/
def scR : List Nat := [2, 7, 8, 9, 10, 11, 12, 13, 14, 15, 16, 18, 19, 20]
/-- in the course of a command -/
def rm_ (fs : List Nat) (ν m : am_M) : Prop := fr_ (0 :: 1 :: scR) ν m ∧ ∀ j, j ∉ 20 :: 24 :: 25 :: fs → m 0 j = ν 0 j
theorem rm_rf {fs : List Nat} {ν : am_M} : rm_ fs ν ν := ⟨fr_rf, fun _ _ => rfl⟩
theorem rm_tr {fs : List Nat} {a b c : am_M} (h : rm_ fs a b) (g : rm_ fs b c) : rm_ fs a c := ⟨fr_tr h.1 g.1, fun j hj => (g.2 j hj).trans (h.2 j hj)⟩
theorem rm_fr {ks fs : List Nat} {ν m : am_M} (h : fr_ ks ν m) (hk : ∀ k ∈ ks, k ∈ 1 :: scR) : rm_ fs ν m := ⟨fr_up h (fun k q => List.mem_cons_of_mem _ (hk k q)), fun j _ => by rw [h 0 (fun q => by have := hk _ q; revert this; decide)]⟩
theorem rm_st {ks fs : List Nat} {ν m : am_M} {j : Nat} {x : Int} (h : m = am_st ν 0 (am_up (ν 0) j x)) (hj : j ∈ 20 :: 24 :: 25 :: fs) : rm_ fs ν m := by
  refine ⟨by rw [h]; exact fr_st (by simp), fun i hi => ?_⟩
  rw [h, st_s, up_n (fun e => hi (by rw [e]; exact hj))]
def ru_ (fs : List Nat) (ν m : am_M) : Prop := rm_ fs ν m ∧ pe_ (pR ν) (pR m) ∧ 0 ≤ m 1 438
/-- v has become P, and that was noted -/
def rch_ (fs : List Nat) (ν m : am_M) (P : Pj) : Prop := pe_ P (pR m) ∧ 0 ≤ m 1 438 ∧ fr_ (0 :: 1 :: 4 :: 6 :: scR) ν m ∧ (∀ j, j ∉ 7 :: 8 :: 9 :: 20 :: 24 :: 25 :: fs → m 0 j = ν 0 j) ∧ m 0 8 = 0 ∧ ((ν 0 11 ≠ 0 ∧ m 0 7 = ν 0 7 ∧ m 0 9 = ν 0 9 + 1 ∧ m 4 = ν 4 ∧ ((ν 0 9 = 0 ∧ ∀ i : Nat, i < 470 → m 6 i = ν 1 i) ∨ (ν 0 9 ≠ 0 ∧ m 6 = ν 6))) ∨ (ν 0 11 = 0 ∧ m 0 9 = ν 0 9 ∧ m 6 = ν 6 ∧ ((ν 0 7 = 10 ∧ m 0 7 = 10 ∧ (∀ i : Nat, i < 4230 → m 4 i = ν 4 (i + 470)) ∧ ∀ i : Nat, i < 470 → m 4 (4230 + i) = ν 1 i) ∨ (ν 0 7 ≠ 10 ∧ m 0 7 = ν 0 7 + 1 ∧ (∀ i : Nat, i < 470 * (ν 0 7).toNat → m 4 i = ν 4 i) ∧ ∀ i : Nat, i < 470 → m 4 (470 * (ν 0 7).toNat + i) = ν 1 i))))
def rn_ (fs : List Nat) (ν m : am_M) (z : Int) (R : Int × Pj) : Prop := z = R.1 ∧ (z < 0 → ru_ fs ν m) ∧ (0 ≤ z → rch_ fs ν m R.2)
/-- the reference between calls, after at most K of them -/
def RI (K : Int) (ν : am_M) : Prop := vR_ ν ∧ in_ 0 11 (ν 0 7) ∧ in_ 0 11 (ν 0 8) ∧ in_ 0 (K + 1) (ν 0 9) ∧ in_ 0 61 (ν 0 23) ∧ in_ 0 97 (ν 0 32)
theorem ends_n {K : Int} {fs : List Nat} {ν0 μ : am_M} (hI : RI K ν0) (hK : K < 99999) (hfs : ∀ j ∈ fs, 11 < j) (hm : rm_ fs ν0 μ) : in_ 0 11 (μ 0 7) ∧ in_ 0 100000 (μ 0 9) ∧ ∀ j, j ≤ 11 → μ 0 j = ν0 0 j := by
  obtain ⟨-, i1, i2, i3, -⟩ := hI
  have n : ∀ j, j ≤ 11 → μ 0 j = ν0 0 j := fun j hj => hm.2 j (fun q => by
    simp only [List.mem_cons] at q
    rcases q with q | q | q | q
    · omega
    · omega
    · omega
    · have := hfs j q; omega)
  unfold in_ at i1 i3
  exact ⟨by rw [n 7 (by omega)]; ((try unfold am_in); (try unfold in_ at *); omega), by rw [n 9 (by omega)]; ((try unfold am_in); (try unfold in_ at *); omega), n⟩
/-- what noting a change leaves -/
def ed_ (μ m : am_M) : Prop := fr_ [0, 4, 6] μ m ∧ (∀ j, j ≠ 7 → j ≠ 8 → j ≠ 9 → m 0 j = μ 0 j) ∧ nt_ μ m
theorem ends_C {K : Int} {fs : List Nat} {ν0 μ m : am_M} {P : Pj} (hI : RI K ν0) (hK : K < 99999) (hfs : ∀ j ∈ fs, 11 < j) (hm : rm_ fs ν0 μ) (h2 : ∀ i : Nat, i < 470 → μ 2 i = ν0 1 i) (hp : pe_ P (pR μ)) (h4 : 0 ≤ μ 1 438) (hed : ed_ μ m) : rch_ fs ν0 m P := by
  obtain ⟨f, hj, h8, hn⟩ := hed
  have n := (ends_n hI hK hfs hm).2.2
  have e4 : μ 4 = ν0 4 := hm.1 4 (by decide)
  have e6 : μ 6 = ν0 6 := hm.1 6 (by decide)
  have p1 : pR m = pR μ := by show pA (m 1) = pA (μ 1); rw [f 1 (by decide)]
  refine ⟨by rw [p1]; exact hp, by rw [f 1 (by decide)]; exact h4, fr_tr (fr_up hm.1 (fun k hk => ?_)) (fr_up f (by simp)), fun j q => ?_, h8, ?_⟩
  · simp only [List.mem_cons] at hk ⊢
    rcases hk with h | h | h
    · exact Or.inl h
    · exact Or.inr (Or.inl h)
    · exact Or.inr (Or.inr (Or.inr (Or.inr h)))
  · simp only [List.mem_cons, not_or] at q
    rw [hj j q.1 q.2.1 q.2.2.1, hm.2 j (by simp only [List.mem_cons, not_or]; exact q.2.2.2)]
  · rw [n 11 (by omega), n 7 (by omega), n 9 (by omega), e4, e6] at hn
    rcases hn with ⟨a1, a2, a3, a4, a5⟩ | ⟨a1, a2, a3, a4⟩
    · refine Or.inl ⟨a1, a2, a3, a4, ?_⟩
      rcases a5 with ⟨b1, b2⟩ | b
      · exact Or.inl ⟨b1, fun i hi => (b2 i hi).trans (h2 i hi)⟩
      · exact Or.inr b
    · refine Or.inr ⟨a1, a2, a3, ?_⟩
      rcases a4 with ⟨b1, b2, b3, b4⟩ | ⟨b1, b2, b3, b4⟩
      · exact Or.inl ⟨b1, b2, b3, fun i hi => (b4 i hi).trans (h2 i hi)⟩
      · exact Or.inr ⟨b1, b2, b3, fun i hi => (b4 i hi).trans (h2 i hi)⟩

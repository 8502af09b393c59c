/-! the class's script -/
def hr_ (T : Nat → Int) (n p : Int) : Int := if p < n then T p.toNat else -1
theorem vc_X5_here_0 {μ : am_M} {Q : Int → am_M → Prop} (h : ((μ 151 6 < μ 151 4 → (0 ≤ μ 151 6) ∧ (μ 151 6 < 60))) ∧ (∀ v1 : Int, v1 = (if μ 151 6 < μ 151 4 then μ 152 ((μ 151 6).toNat) else (-1)) → Q v1 μ)) : at_I kC 1 mX5_here 0 [vR 151] [] μ Q := by
  refine s_aload_n dX5_here_0 rfl rfl ?_
  refine s_getI (x := (μ 151 6)) dX5_here_1 flX5_31 kn151 kk151 rfl rfl ?_
  refine s_aload_n dX5_here_4 rfl rfl ?_
  refine s_getI (x := (μ 151 4)) dX5_here_5 flX5_24 kn151 kk151 rfl rfl ?_
  obtain ⟨hsd, h⟩ := h
  have kj2 : ∀ (v1 : Int), (Q v1 μ) → at_I kC 1 mX5_here 24 [vU] [vI v1] μ Q := by
    intro v1 h
    exact s_ireturn dX5_here_24 (Or.inl rfl) ⟨⟨rfl, rfl⟩, _, rfl, h⟩
  refine s_icmp_ge dX5_here_8 (tgt := 23) (by decide) (fun cc => ?_) (fun cc => ?_)
  · have hp0 := cc
    refine s_iconst dX5_here_23 (by decide) ?_
    exact am_lesS (kj2 (-1) (h (-1) (by rw [if_neg (Int.not_lt.mpr hp0)]))) ⟨Or.inl rfl, trivial⟩
  · have hp0 := cc
    have hsd := hsd hp0
    refine s_aload_n dX5_here_11 rfl rfl ?_
    refine s_getR dX5_here_12 flX5_9 kn151 kk151 rfl kr151_0 ?_
    refine s_aload_n dX5_here_15 rfl rfl ?_
    refine s_getI (x := (μ 151 6)) dX5_here_16 flX5_31 kn151 kk151 rfl rfl ?_
    obtain ⟨c, c2⟩ := hsd
    refine s_iald (x := (μ 152 ((μ 151 6).toNat))) dX5_here_19 kn152 kk152 kl152 c c2 rfl ?_
    refine s_goto dX5_here_20 (tgt := 24) (by decide) ?_
    exact am_lesS (kj2 (μ 152 ((μ 151 6).toNat)) (h (μ 152 ((μ 151 6).toNat)) (by rw [if_pos hp0]))) ⟨Or.inl rfl, trivial⟩
theorem ve_X5_here {μ : am_M} {Q : Int → am_M → Prop} (h : at_I kC 1 mX5_here 0 [vR 151] [] μ Q) : cl_I kC 1 mX5_here [vR 151] μ Q := am_intro pmX5_here (Nat.le_of_ble_eq_true rfl) rfl h
theorem sp_X5_here {μ : am_M} {Q : Int → am_M → Prop} (h0 : μ 151 4 ≤ 60) (h1 : 0 ≤ μ 151 6) (hQ : Q (hr_ (μ 152) (μ 151 4) (μ 151 6)) μ) : cl_I kC 1 mX5_here [vR 151] μ Q :=
  ve_X5_here (vc_X5_here_0 ⟨fun h => ⟨(by (try unfold am_in); (try unfold in_ at *); omega), (by (try unfold am_in); (try unfold in_ at *); omega)⟩, fun v e => by rw [e]; exact hQ⟩)
def sgn_ (c : Int) : Int := if c = 99 then 61 else if c = 100 then -6 else if c = 105 then 43 else if c = 109 then 64 else if c = 115 then 64 else if c = 120 then 45 else -1
theorem vc_X5_signOf_0 {x0 : Int} {μ : am_M} {Q : Int → am_M → Prop} (h : (x0 = 99 → Q 61 μ) ∧ (x0 = 100 → Q (-6) μ) ∧ (x0 = 105 → Q 43 μ) ∧ (x0 = 109 → Q 64 μ) ∧ (x0 = 115 → Q 64 μ) ∧ (x0 = 120 → Q 45 μ) ∧ (x0 ≠ 99 → x0 ≠ 100 → x0 ≠ 105 → x0 ≠ 109 → x0 ≠ 115 → x0 ≠ 120 → Q (-1) μ)) : at_I kC 1 mX5_signOf 0 [vI x0] [] μ Q := by
  refine s_iload_n dX5_signOf_0 rfl rfl ?_
  by_cases cc : x0 = 99
  · have h := h.1 cc
    refine s_lookup dX5_signOf_1 (by decide) (by rw [cc] <;> rfl) (tgt := 72) (by decide) ?_
    refine s_bipush dX5_signOf_72 (by decide) ?_
    exact s_ireturn dX5_signOf_74 (Or.inl rfl) ⟨⟨rfl, rfl⟩, _, rfl, h⟩
  have n0 := cc
  have h := h.2
  by_cases cc : x0 = 100
  · have h := h.1 cc
    refine s_lookup dX5_signOf_1 (by decide) (by rw [cc] <;> rfl) (tgt := 66) (by decide) ?_
    refine s_bipush dX5_signOf_66 (by decide) ?_
    exact s_ireturn dX5_signOf_68 (Or.inl rfl) ⟨⟨rfl, rfl⟩, _, rfl, h⟩
  have n1 := cc
  have h := h.2
  by_cases cc : x0 = 105
  · have h := h.1 cc
    refine s_lookup dX5_signOf_1 (by decide) (by rw [cc] <;> rfl) (tgt := 63) (by decide) ?_
    refine s_bipush dX5_signOf_63 (by decide) ?_
    exact s_ireturn dX5_signOf_65 (Or.inl rfl) ⟨⟨rfl, rfl⟩, _, rfl, h⟩
  have n2 := cc
  have h := h.2
  by_cases cc : x0 = 109
  · have h := h.1 cc
    refine s_lookup dX5_signOf_1 (by decide) (by rw [cc] <;> rfl) (tgt := 69) (by decide) ?_
    refine s_bipush dX5_signOf_69 (by decide) ?_
    exact s_ireturn dX5_signOf_71 (Or.inl rfl) ⟨⟨rfl, rfl⟩, _, rfl, h⟩
  have n3 := cc
  have h := h.2
  by_cases cc : x0 = 115
  · have h := h.1 cc
    refine s_lookup dX5_signOf_1 (by decide) (by rw [cc] <;> rfl) (tgt := 69) (by decide) ?_
    refine s_bipush dX5_signOf_69 (by decide) ?_
    exact s_ireturn dX5_signOf_71 (Or.inl rfl) ⟨⟨rfl, rfl⟩, _, rfl, h⟩
  have n4 := cc
  have h := h.2
  by_cases cc : x0 = 120
  · have h := h.1 cc
    refine s_lookup dX5_signOf_1 (by decide) (by rw [cc] <;> rfl) (tgt := 60) (by decide) ?_
    refine s_bipush dX5_signOf_60 (by decide) ?_
    exact s_ireturn dX5_signOf_62 (Or.inl rfl) ⟨⟨rfl, rfl⟩, _, rfl, h⟩
  have n5 := cc
  have h := h.2
  have h := h n0 n1 n2 n3 n4 n5
  refine s_lookup dX5_signOf_1 (by decide) (by simp [Op.lookupswitch.offset, n0, Ne.symm n0, n1, Ne.symm n1, n2, Ne.symm n2, n3, Ne.symm n3, n4, Ne.symm n4, n5, Ne.symm n5]; rfl) (tgt := 75) (by decide) ?_
  refine s_iconst dX5_signOf_75 (by decide) ?_
  exact s_ireturn dX5_signOf_76 (Or.inl rfl) ⟨⟨rfl, rfl⟩, _, rfl, h⟩
theorem ve_X5_signOf {x0 : Int} {μ : am_M} {Q : Int → am_M → Prop} (h : at_I kC 1 mX5_signOf 0 [vI x0] [] μ Q) : cl_I kC 1 mX5_signOf [vI x0] μ Q := am_intro pmX5_signOf (Nat.le_of_ble_eq_true rfl) rfl h
theorem sp_X5_signOf {μ : am_M} {c : Int} {Q : Int → am_M → Prop} (hQ : Q (sgn_ c) μ) : cl_I kC 1 mX5_signOf [vI c] μ Q := by
  unfold sgn_ at hQ
  refine ve_X5_signOf (vc_X5_signOf_0 ⟨fun h => ?_, fun h => ?_, fun h => ?_, fun h => ?_, fun h => ?_, fun h => ?_, fun h1 h2 h3 h4 h5 h6 => ?_⟩)
  · subst h; exact hQ
  · subst h; exact hQ
  · subst h; exact hQ
  · subst h; exact hQ
  · subst h; exact hQ
  · subst h; exact hQ
  · rw [if_neg h1, if_neg h2, if_neg h3, if_neg h4, if_neg h5, if_neg h6] at hQ
    exact hQ
/-- only the place has changed -/
def pl_ (μ m : am_M) (p : Int) : Prop := (∀ k, k ≠ 151 → m k = μ k) ∧ (∀ j, j ≠ 6 → m 151 j = μ 151 j) ∧ m 151 6 = p
theorem pl_rf {μ : am_M} : pl_ μ μ (μ 151 6) := ⟨fun _ _ => rfl, fun _ _ => rfl, rfl⟩
theorem pl_st {μ m : am_M} {p q : Int} (h : pl_ μ m p) : pl_ μ (am_st m 151 (am_up (m 151) 6 q)) q := ⟨fun k hk => by rw [st_n hk, h.1 k hk], fun j hj => by rw [st_s, up_n hj, h.2.1 j hj], by rw [st_s, up_s]⟩
/-- up to so many digits from a place on -/
def num_ (T : Nat → Int) (n : Int) : Nat → Int → Int → Int × Int
  | 0, v, p => (v, p)
  | k + 1, v, p => if 48 ≤ hr_ T n p ∧ hr_ T n p ≤ 57 then num_ T n k (v * 10 + hr_ T n p - 48) (p + 1) else (v, p)
def rdn_ (T : Nat → Int) (n p : Int) : Int × Int := (if (num_ T n 3 0 p).2 = p then -1 else (num_ T n 3 0 p).1, (num_ T n 3 0 p).2)
theorem vc_X5_readNumber_0 {μ : am_M} {Q : Int → am_M → Prop} (h : at_I kC 2 mX5_readNumber 4 [vR 151, vI 0, vI 0] [] μ Q) : at_I kC 2 mX5_readNumber 0 [vR 151, vU, vU] [] μ Q := by
  refine s_iconst dX5_readNumber_0 (by decide) ?_
  refine s_istore_n dX5_readNumber_1 rfl (by decide) (L' := [vR 151, vI 0, vU]) rfl ?_
  refine s_iconst dX5_readNumber_2 (by decide) ?_
  refine s_istore_n dX5_readNumber_3 rfl (by decide) (L' := [vR 151, vI 0, vI 0]) rfl ?_
  exact h
theorem vc_X5_readNumber_4 {x1 x2 : Int} {μ : am_M} {Q : Int → am_M → Prop} (h : (3 ≤ x2 → ∀ v1 : Int, v1 = (if x2 = 0 then (-1) else x1) → Q v1 μ) ∧ (x2 < 3 → (μ 151 4 ≤ 60) ∧ (0 ≤ μ 151 6) ∧ (∀ v3 : Int, v3 = hr_ (μ 152) (μ 151 4) (μ 151 6) → (v3 < 48 → ∀ v4 : Int, v4 = (if x2 = 0 then (-1) else x1) → Q v4 μ) ∧ (48 ≤ v3 → (μ 151 4 ≤ 60) ∧ (0 ≤ μ 151 6) ∧ (∀ v6 : Int, v6 = hr_ (μ 152) (μ 151 4) (μ 151 6) → (57 < v6 → ∀ v7 : Int, v7 = (if x2 = 0 then (-1) else x1) → Q v7 μ) ∧ (v6 ≤ 57 → (am_in (x1 * 10)) ∧ ((μ 151 4 ≤ 60) ∧ (0 ≤ μ 151 6) ∧ (∀ v9 : Int, v9 = hr_ (μ 152) (μ 151 4) (μ 151 6) → (am_in ((x1 * 10) + v9)) ∧ ((am_in (((x1 * 10) + v9) - 48)) ∧ ((am_in (x2 + 1)) ∧ ((am_in (μ 151 6 + 1)) ∧ (∀ m10 : am_M, m10 = am_st μ 151 (am_up (μ 151) 6 (μ 151 6 + 1)) → at_I kC 2 mX5_readNumber 4 [vR 151, vI (((x1 * 10) + v9) - 48), vI (x2 + 1)] [] m10 Q)))))))))))) : at_I kC 2 mX5_readNumber 4 [vR 151, vI x1, vI x2] [] μ Q := by
  refine s_iload_n dX5_readNumber_4 rfl rfl ?_
  refine s_iconst dX5_readNumber_5 (by decide) ?_
  refine s_icmp_ge dX5_readNumber_6 (tgt := 56) (by decide) (fun cc => ?_) (fun cc => ?_)
  · have h := h.1 cc
    refine s_iload_n dX5_readNumber_56 rfl rfl ?_
    have kj2 : ∀ (v1 : Int), (Q v1 μ) → at_I kC 2 mX5_readNumber 65 [vU, vU, vU] [vI v1] μ Q := by
      intro v1 h
      exact s_ireturn dX5_readNumber_65 (Or.inl rfl) ⟨⟨rfl, rfl⟩, _, rfl, h⟩
    refine s_if_ne dX5_readNumber_57 (tgt := 64) (by decide) (fun cc => ?_) (fun cc => ?_)
    · have hp0 := cc
      refine s_iload_n dX5_readNumber_64 rfl rfl ?_
      exact am_lesS (kj2 x1 (h x1 (by rw [if_neg hp0]))) ⟨Or.inl rfl, Or.inl rfl, Or.inl rfl, trivial⟩
    · have hp0 := cc
      refine s_iconst dX5_readNumber_60 (by decide) ?_
      refine s_goto dX5_readNumber_61 (tgt := 65) (by decide) ?_
      exact am_lesS (kj2 (-1) (h (-1) (by rw [if_pos hp0]))) ⟨Or.inl rfl, Or.inl rfl, Or.inl rfl, trivial⟩
  · have h := h.2 cc
    refine s_aload_n dX5_readNumber_9 rfl rfl ?_
    obtain ⟨p0, p1, h⟩ := h
    refine s_callV (As := []) (rest := []) (k := 151) dX5_readNumber_10 lkX5_38 kn151 ⟨by rw [kk151]; rfl, by rw [kk151]; decide⟩ lmX5_here rfl rfl (Nat.le_of_ble_eq_true rfl) (by decide) (Nat.le_refl 0) (Nat.le_refl 0) (hC := sp_X5_here (Q := fun z m => z = hr_ (μ 152) (μ 151 4) (μ 151 6) ∧ μ = m) p0 p1 ⟨rfl, rfl⟩) (fun r n2 S2 m2 hP => ?_)
    obtain ⟨⟨rfl, rfl⟩, v3, rfl, hz, rfl⟩ := hP
    have h := h v3 hz
    refine s_bipush dX5_readNumber_13 (by decide) ?_
    refine s_icmp_lt dX5_readNumber_15 (tgt := 56) (by decide) (fun cc => ?_) (fun cc => ?_)
    · have h := h.1 cc
      refine s_iload_n dX5_readNumber_56 rfl rfl ?_
      have kj5 : ∀ (v4 : Int), (Q v4 μ) → at_I kC 2 mX5_readNumber 65 [vU, vU, vU] [vI v4] μ Q := by
        intro v4 h
        exact s_ireturn dX5_readNumber_65 (Or.inl rfl) ⟨⟨rfl, rfl⟩, _, rfl, h⟩
      refine s_if_ne dX5_readNumber_57 (tgt := 64) (by decide) (fun cc => ?_) (fun cc => ?_)
      · have hp0 := cc
        refine s_iload_n dX5_readNumber_64 rfl rfl ?_
        exact am_lesS (kj5 x1 (h x1 (by rw [if_neg hp0]))) ⟨Or.inl rfl, Or.inl rfl, Or.inl rfl, trivial⟩
      · have hp0 := cc
        refine s_iconst dX5_readNumber_60 (by decide) ?_
        refine s_goto dX5_readNumber_61 (tgt := 65) (by decide) ?_
        exact am_lesS (kj5 (-1) (h (-1) (by rw [if_pos hp0]))) ⟨Or.inl rfl, Or.inl rfl, Or.inl rfl, trivial⟩
    · have h := h.2 cc
      refine s_aload_n dX5_readNumber_18 rfl rfl ?_
      obtain ⟨p0, p1, h⟩ := h
      refine s_callV (As := []) (rest := []) (k := 151) dX5_readNumber_19 lkX5_38 kn151 ⟨by rw [kk151]; rfl, by rw [kk151]; decide⟩ lmX5_here rfl rfl (Nat.le_of_ble_eq_true rfl) (by decide) (Nat.le_refl 0) (Nat.le_refl 0) (hC := sp_X5_here (Q := fun z m => z = hr_ (μ 152) (μ 151 4) (μ 151 6) ∧ μ = m) p0 p1 ⟨rfl, rfl⟩) (fun r n2 S2 m2 hP => ?_)
      obtain ⟨⟨rfl, rfl⟩, v6, rfl, hz, rfl⟩ := hP
      have h := h v6 hz
      refine s_bipush dX5_readNumber_22 (by decide) ?_
      refine s_icmp_gt dX5_readNumber_24 (tgt := 56) (by decide) (fun cc => ?_) (fun cc => ?_)
      · have h := h.1 cc
        refine s_iload_n dX5_readNumber_56 rfl rfl ?_
        have kj8 : ∀ (v7 : Int), (Q v7 μ) → at_I kC 2 mX5_readNumber 65 [vU, vU, vU] [vI v7] μ Q := by
          intro v7 h
          exact s_ireturn dX5_readNumber_65 (Or.inl rfl) ⟨⟨rfl, rfl⟩, _, rfl, h⟩
        refine s_if_ne dX5_readNumber_57 (tgt := 64) (by decide) (fun cc => ?_) (fun cc => ?_)
        · have hp0 := cc
          refine s_iload_n dX5_readNumber_64 rfl rfl ?_
          exact am_lesS (kj8 x1 (h x1 (by rw [if_neg hp0]))) ⟨Or.inl rfl, Or.inl rfl, Or.inl rfl, trivial⟩
        · have hp0 := cc
          refine s_iconst dX5_readNumber_60 (by decide) ?_
          refine s_goto dX5_readNumber_61 (tgt := 65) (by decide) ?_
          exact am_lesS (kj8 (-1) (h (-1) (by rw [if_pos hp0]))) ⟨Or.inl rfl, Or.inl rfl, Or.inl rfl, trivial⟩
      · have h := h.2 cc
        refine s_iload_n dX5_readNumber_27 rfl rfl ?_
        refine s_bipush dX5_readNumber_28 (by decide) ?_
        obtain ⟨c, h⟩ := h
        refine s_imul dX5_readNumber_30 (am_w_id c) ?_
        refine s_aload_n dX5_readNumber_31 rfl rfl ?_
        obtain ⟨p0, p1, h⟩ := h
        refine s_callV (As := []) (rest := [vI (x1 * 10)]) (k := 151) dX5_readNumber_32 lkX5_38 kn151 ⟨by rw [kk151]; rfl, by rw [kk151]; decide⟩ lmX5_here rfl rfl (Nat.le_of_ble_eq_true rfl) (by decide) (Nat.le_refl 0) (Nat.le_refl 0) (hC := sp_X5_here (Q := fun z m => z = hr_ (μ 152) (μ 151 4) (μ 151 6) ∧ μ = m) p0 p1 ⟨rfl, rfl⟩) (fun r n2 S2 m2 hP => ?_)
        obtain ⟨⟨rfl, rfl⟩, v9, rfl, hz, rfl⟩ := hP
        have h := h v9 hz
        obtain ⟨c, h⟩ := h
        refine s_iadd dX5_readNumber_35 (am_w_id c) ?_
        refine s_bipush dX5_readNumber_36 (by decide) ?_
        obtain ⟨c, h⟩ := h
        refine s_isub dX5_readNumber_38 (am_w_id c) ?_
        refine s_istore_n dX5_readNumber_39 rfl (by decide) (L' := [vR 151, vI (((x1 * 10) + v9) - 48), vI x2]) rfl ?_
        obtain ⟨c, h⟩ := h
        refine s_iinc dX5_readNumber_40 rfl (am_w_id c) (by decide) (L' := [vR 151, vI (((x1 * 10) + v9) - 48), vI (x2 + 1)]) rfl ?_
        refine s_aload_n dX5_readNumber_43 rfl rfl ?_
        refine s_dup dX5_readNumber_44 ?_
        refine s_getI (x := (μ 151 6)) dX5_readNumber_45 flX5_31 kn151 kk151 rfl rfl ?_
        refine s_iconst dX5_readNumber_48 (by decide) ?_
        obtain ⟨c, h⟩ := h
        refine s_iadd dX5_readNumber_49 (am_w_id c) ?_
        obtain ⟨m10, hm10⟩ : ∃ x : am_M, x = am_st μ 151 (am_up (μ 151) 6 (μ 151 6 + 1)) := ⟨_, rfl⟩
        have h := h m10 hm10
        refine s_putI dX5_readNumber_50 flX5_31 kn151 kk151 rfl rfl (Or.inl rfl) hm10.symm ?_
        refine s_goto dX5_readNumber_53 (tgt := 4) (by decide) ?_
        exact h
theorem ve_X5_readNumber {μ : am_M} {Q : Int → am_M → Prop} (h : at_I kC 2 mX5_readNumber 0 [vR 151, vU, vU] [] μ Q) : cl_I kC 2 mX5_readNumber [vR 151] μ Q := am_intro pmX5_readNumber (Nat.le_of_ble_eq_true rfl) rfl h
theorem lp_X5_readNumber {μ0 : am_M} {p0 : Int} (h0 : μ0 151 4 ≤ 60) (hp0 : 0 ≤ p0) {Q : Int → am_M → Prop} (hQ : ∀ m, pl_ μ0 m (rdn_ (μ0 152) (μ0 151 4) p0).2 → Q (rdn_ (μ0 152) (μ0 151 4) p0).1 m) : ∀ (k : Nat) (v d : Int) (μ : am_M), d + k = 3 → 0 ≤ d → num_ (μ0 152) (μ0 151 4) 3 0 p0 = num_ (μ0 152) (μ0 151 4) k v (p0 + d) → 0 ≤ v → (v ≤ 999 ∧ (d ≤ 2 → v ≤ 99) ∧ (d ≤ 1 → v ≤ 9) ∧ (d ≤ 0 → v ≤ 0)) → pl_ μ0 μ (p0 + d) → at_I kC 2 mX5_readNumber 4 [vR 151, vI v, vI d] [] μ Q := by
  have fin : ∀ (v d : Int) (μ : am_M), 0 ≤ d → num_ (μ0 152) (μ0 151 4) 3 0 p0 = (v, p0 + d) → pl_ μ0 μ (p0 + d) → ∀ w : Int, w = (if d = 0 then (-1) else v) → Q w μ := fun v d μ hd hn hl w hw => by
    have e : rdn_ (μ0 152) (μ0 151 4) p0 = (w, p0 + d) := by
      unfold rdn_
      rw [hn, hw]
      by_cases h : d = 0
      · rw [if_pos (by show p0 + d = p0; omega), if_pos h]
      · rw [if_neg (by show ¬ p0 + d = p0; omega), if_neg h]
    rw [e] at hQ
    exact hQ μ hl
  intro k
  induction k with
  | zero =>
    intro v d μ hd hd0 hn hv0 hv1 hl
    exact vc_X5_readNumber_4 ⟨fun _ => fin v d μ hd0 hn hl, fun q => by omega⟩
  | succ k ih =>
    intro v d μ hd hd0 hn hv0 hv1 hl
    have l4 : μ 151 4 = μ0 151 4 := hl.2.1 4 (by decide)
    have c2 : μ 152 = μ0 152 := hl.1 152 (by decide)
    have a1 : μ 151 4 ≤ 60 := by rw [l4]; exact h0
    have a2 : 0 ≤ μ 151 6 := by rw [hl.2.2]; omega
    have stop : ¬ (48 ≤ hr_ (μ0 152) (μ0 151 4) (p0 + d) ∧ hr_ (μ0 152) (μ0 151 4) (p0 + d) ≤ 57) → num_ (μ0 152) (μ0 151 4) 3 0 p0 = (v, p0 + d) := fun h => by
      rw [hn]
      show (if _ then _ else _) = _
      rw [if_neg h]
    refine vc_X5_readNumber_4 ⟨fun q => by omega, fun q => ⟨a1, a2, fun v3 e3 => ?_⟩⟩
    rw [l4, c2, hl.2.2] at e3
    refine ⟨fun c => fin v d μ hd0 (stop (by omega)) hl, fun c => ⟨a1, a2, fun v6 e6 => ?_⟩⟩
    rw [l4, c2, hl.2.2] at e6
    refine ⟨fun c3 => fin v d μ hd0 (stop (by omega)) hl, fun c3 => ⟨by unfold am_in; omega, a1, a2, fun v9 e9 => ?_⟩⟩
    rw [l4, c2, hl.2.2] at e9
    have e96 : v9 = v6 := by rw [e9, e6]
    have e36 : v3 = v6 := by rw [e3, e6]
    refine ⟨by unfold am_in; omega, by unfold am_in; omega, (by (try unfold am_in); (try unfold in_ at *); omega), ?_, fun m10 e10 => ?_⟩
    · rw [hl.2.2]
      have e93 : v9 = v3 := by rw [e9, e3]
      have : p0 + d < μ0 151 4 := by
        unfold hr_ at e9
        split at e9 <;> omega
      ((try unfold am_in); (try unfold in_ at *); omega)
    · rw [hl.2.2] at e10
      refine ih _ (d + 1) m10 (by omega) (by omega) ?_ (by omega) (by omega) ?_
      · rw [hn]
        show (if _ then _ else _) = _
        rw [if_pos (by omega), e9, show p0 + d + 1 = p0 + (d + 1) by omega]
      · rw [e10, show p0 + (d + 1) = p0 + d + 1 by omega]
        exact pl_st hl
theorem sp_X5_readNumber {μ : am_M} {Q : Int → am_M → Prop} (h0 : μ 151 4 ≤ 60) (h1 : 0 ≤ μ 151 6) (hQ : ∀ m, pl_ μ m (rdn_ (μ 152) (μ 151 4) (μ 151 6)).2 → Q (rdn_ (μ 152) (μ 151 4) (μ 151 6)).1 m) : cl_I kC 2 mX5_readNumber [vR 151] μ Q :=
  ve_X5_readNumber (vc_X5_readNumber_0 (lp_X5_readNumber h0 h1 hQ 3 0 0 μ rfl (by omega) (by simp) (by omega) (by omega) (by simpa using pl_rf)))
theorem num_b {T : Nat → Int} {n : Int} : ∀ (k : Nat) (v p : Int), 0 ≤ v → p ≤ (num_ T n k v p).2 ∧ (num_ T n k v p).2 ≤ p + k ∧ 0 ≤ (num_ T n k v p).1 ∧ (p ≤ n → (num_ T n k v p).2 ≤ n)
  | 0, v, p, h => by simp [num_]; omega
  | k + 1, v, p, h => by
    unfold num_
    split
    · rename_i q
      have := num_b (T := T) (n := n) k (v * 10 + hr_ T n p - 48) (p + 1) (by omega)
      obtain ⟨h1, h2, h3, h5⟩ := this
      refine ⟨by omega, by omega, h3, fun hp => h5 ?_⟩
      unfold hr_ at q
      split at q <;> omega
    · exact ⟨by omega, by omega, h, fun hp => hp⟩
theorem rdn_b {T : Nat → Int} {n p : Int} : p ≤ (rdn_ T n p).2 ∧ (rdn_ T n p).2 ≤ p + 3 ∧ -1 ≤ (rdn_ T n p).1 ∧ (p ≤ n → (rdn_ T n p).2 ≤ n) ∧ (0 ≤ (rdn_ T n p).1 → p + 1 ≤ (rdn_ T n p).2) := by
  obtain ⟨h1, h2, h3, h4⟩ := num_b (T := T) (n := n) 3 0 p (by omega)
  unfold rdn_
  refine ⟨h1, h2, ?_, h4, fun h => ?_⟩
  · simp only
    split <;> omega
  · simp only at h ⊢
    split at h <;> omega
/-- a command from a place on: may it be, its letter, its numbers, the place behind -/
def cmd_ (T : Nat → Int) (n p : Int) : Bool × Int × Int × Int × Int :=
  if sgn_ (hr_ T n p) = -1 then (false, hr_ T n p, 0, 0, p)
  else if (rdn_ T n (p + 1)).1 < 0 then (false, hr_ T n p, 0, 0, (rdn_ T n (p + 1)).2)
  else if sgn_ (hr_ T n p) = -6 then (true, hr_ T n p, (rdn_ T n (p + 1)).1, 0, (rdn_ T n (p + 1)).2)
  else if hr_ T n (rdn_ T n (p + 1)).2 = sgn_ (hr_ T n p) then (if (rdn_ T n ((rdn_ T n (p + 1)).2 + 1)).1 < 0 then (false, hr_ T n p, 0, 0, (rdn_ T n ((rdn_ T n (p + 1)).2 + 1)).2) else (true, hr_ T n p, (rdn_ T n (p + 1)).1, (rdn_ T n ((rdn_ T n (p + 1)).2 + 1)).1, (rdn_ T n ((rdn_ T n (p + 1)).2 + 1)).2))
  else (false, hr_ T n p, 0, 0, (rdn_ T n (p + 1)).2)
/-- what reading leaves: k commands, at place p -/
def cs_ (μ m : am_M) (k p : Int) : Prop := fr_ [151, 153, 154, 155] μ m ∧ m 151 4 = μ 151 4 ∧ m 151 5 = k ∧ m 151 6 = p
theorem vc_X5_readCommand_0 {μ : am_M} {Q : Int → am_M → Prop} (h : (μ 151 4 ≤ 60) ∧ (0 ≤ μ 151 6) ∧ (∀ v1 : Int, v1 = hr_ (μ 152) (μ 151 4) (μ 151 6) → (sgn_ v1 ≠ (-1) → (am_in (μ 151 6 + 1)) ∧ (∀ m2 : am_M, m2 = am_st μ 151 (am_up (μ 151) 6 (μ 151 6 + 1)) → (0 ≤ μ 151 5) ∧ (μ 151 5 < 20) ∧ (∀ m3 : am_M, m3 = am_st m2 153 (am_up (m2 153) (μ 151 5).toNat v1) → ∃ P : Int → am_M → Prop, cl_I kC 2 mX5_readNumber [vR 151] m3 P ∧ (∀ (z4 : Int) (m5 : am_M), P z4 m5 → (0 ≤ μ 151 5) ∧ (μ 151 5 < 20) ∧ (∀ m6 : am_M, m6 = am_st m5 154 (am_up (m5 154) (μ 151 5).toNat z4) → (0 ≤ m5 151 5) ∧ (m5 151 5 < 20) ∧ (∀ m7 : am_M, m7 = am_st m6 155 (am_up (m6 155) (m5 151 5).toNat 0) → (0 ≤ m5 151 5) ∧ (m5 151 5 < 20) ∧ ((0 ≤ m6 154 ((m5 151 5).toNat) → (sgn_ v1 = (-6) → (am_in (m5 151 5 + 1)) ∧ (∀ m8 : am_M, m8 = am_st m7 151 (am_up (m7 151) 5 (m5 151 5 + 1)) → (am_in ((m5 151 5 + 1) - 1)) ∧ ((0 ≤ (m5 151 5 + 1) - 1) ∧ ((m5 151 5 + 1) - 1 < 20) ∧ (∀ v9 : Int, v9 = (if m7 155 (((m5 151 5 + 1) - 1).toNat) < 0 then 0 else 1) → (v9 = 0 ∨ v9 = 1) ∧ Q v9 m8)))) ∧ (sgn_ v1 ≠ (-6) → (m7 151 4 ≤ 60) ∧ (0 ≤ m7 151 6) ∧ (∀ v11 : Int, v11 = hr_ (m7 152) (m7 151 4) (m7 151 6) → (v11 = sgn_ v1 → (am_in (m5 151 6 + 1)) ∧ (∀ m12 : am_M, m12 = am_st m7 151 (am_up (m7 151) 6 (m5 151 6 + 1)) → ∃ P : Int → am_M → Prop, cl_I kC 2 mX5_readNumber [vR 151] m12 P ∧ (∀ (z13 : Int) (m14 : am_M), P z13 m14 → (0 ≤ m5 151 5) ∧ (m5 151 5 < 20) ∧ (∀ m15 : am_M, m15 = am_st m14 155 (am_up (m14 155) (m5 151 5).toNat z13) → (am_in (m14 151 5 + 1)) ∧ (∀ m16 : am_M, m16 = am_st m15 151 (am_up (m15 151) 5 (m14 151 5 + 1)) → (am_in ((m14 151 5 + 1) - 1)) ∧ ((0 ≤ (m14 151 5 + 1) - 1) ∧ ((m14 151 5 + 1) - 1 < 20) ∧ (∀ v17 : Int, v17 = (if m15 155 (((m14 151 5 + 1) - 1).toNat) < 0 then 0 else 1) → (v17 = 0 ∨ v17 = 1) ∧ Q v17 m16))))))) ∧ (v11 ≠ sgn_ v1 → Q 0 m7)))) ∧ (m6 154 ((m5 151 5).toNat) < 0 → Q 0 m7)))))))) ∧ (sgn_ v1 = (-1) → Q 0 μ))) : at_I kC 3 mX5_readCommand 0 [vR 151, vU, vU] [] μ Q := by
  refine s_aload_n dX5_readCommand_0 rfl rfl ?_
  obtain ⟨p0, p1, h⟩ := h
  refine s_callV (As := []) (rest := []) (k := 151) dX5_readCommand_1 lkX5_38 kn151 ⟨by rw [kk151]; rfl, by rw [kk151]; decide⟩ lmX5_here rfl rfl (Nat.le_of_ble_eq_true rfl) (by decide) (Nat.le_refl 0) (Nat.le_refl 0) (hC := sp_X5_here (Q := fun z m => z = hr_ (μ 152) (μ 151 4) (μ 151 6) ∧ μ = m) p0 p1 ⟨rfl, rfl⟩) (fun r n2 S2 m2 hP => ?_)
  obtain ⟨⟨rfl, rfl⟩, v1, rfl, hz, rfl⟩ := hP
  have h := h v1 hz
  refine s_istore_n dX5_readCommand_4 rfl (by decide) (L' := [vR 151, vI v1, vU]) rfl ?_
  refine s_iload_n dX5_readCommand_5 rfl rfl ?_
  refine s_callS (As := [vI v1]) (rest := []) dX5_readCommand_6 lkX5_42 lmX5_signOf rfl rfl (Nat.le_of_ble_eq_true rfl) (by decide) (Nat.le_refl 0) (Nat.le_refl 0) (hC := sp_X5_signOf (Q := fun z m => sgn_ v1 = z ∧ μ = m)  ⟨rfl, rfl⟩) (fun r n2 S2 m2 hP => ?_)
  obtain ⟨⟨rfl, rfl⟩, z, rfl, rfl, rfl⟩ := hP
  refine s_istore_n dX5_readCommand_9 rfl (by decide) (L' := [vR 151, vI v1, vI (sgn_ v1)]) rfl ?_
  refine s_iload_n dX5_readCommand_10 rfl rfl ?_
  refine s_iconst dX5_readCommand_11 (by decide) ?_
  refine s_icmp_ne dX5_readCommand_12 (tgt := 17) (by decide) (fun cc => ?_) (fun cc => ?_)
  · have h := h.1 cc
    refine s_aload_n dX5_readCommand_17 rfl rfl ?_
    refine s_dup dX5_readCommand_18 ?_
    refine s_getI (x := (μ 151 6)) dX5_readCommand_19 flX5_31 kn151 kk151 rfl rfl ?_
    refine s_iconst dX5_readCommand_22 (by decide) ?_
    obtain ⟨c, h⟩ := h
    refine s_iadd dX5_readCommand_23 (am_w_id c) ?_
    obtain ⟨m2, hm2⟩ : ∃ x : am_M, x = am_st μ 151 (am_up (μ 151) 6 (μ 151 6 + 1)) := ⟨_, rfl⟩
    have h := h m2 hm2
    refine s_putI dX5_readCommand_24 flX5_31 kn151 kk151 rfl rfl (Or.inl rfl) hm2.symm ?_
    refine s_aload_n dX5_readCommand_27 rfl rfl ?_
    refine s_getR dX5_readCommand_28 flX5_15 kn151 kk151 rfl kr151_1 ?_
    refine s_aload_n dX5_readCommand_31 rfl rfl ?_
    refine s_getI (x := (μ 151 5)) dX5_readCommand_32 flX5_28 kn151 kk151 rfl (by subst hm2; rfl) ?_
    refine s_iload_n dX5_readCommand_35 rfl rfl ?_
    obtain ⟨c, c2, h⟩ := h
    obtain ⟨m3, hm3⟩ : ∃ x : am_M, x = am_st m2 153 (am_up (m2 153) (μ 151 5).toNat v1) := ⟨_, rfl⟩
    have h := h m3 hm3
    refine s_iast dX5_readCommand_36 kn153 kk153 kl153 c c2 hm3.symm ?_
    refine s_aload_n dX5_readCommand_37 rfl rfl ?_
    refine s_getR dX5_readCommand_38 flX5_18 kn151 kk151 rfl kr151_2 ?_
    refine s_aload_n dX5_readCommand_41 rfl rfl ?_
    refine s_getI (x := (μ 151 5)) dX5_readCommand_42 flX5_28 kn151 kk151 rfl (by subst hm3; subst hm2; rfl) ?_
    refine s_aload_n dX5_readCommand_45 rfl rfl ?_
    obtain ⟨P, hcl, h⟩ := h
    refine s_callV (As := []) (rest := [vI (μ 151 5), vR 154]) (k := 151) dX5_readCommand_46 lkX5_46 kn151 ⟨by rw [kk151]; rfl, by rw [kk151]; decide⟩ lmX5_readNumber rfl rfl (Nat.le_of_ble_eq_true rfl) (by decide) (Nat.le_refl 0) (Nat.le_refl 0) (hC := hcl) (fun r n2 S2 m5 hP => ?_)
    obtain ⟨⟨rfl, rfl⟩, z4, rfl, hq⟩ := hP
    have h := h z4 m5 hq
    obtain ⟨c, c2, h⟩ := h
    obtain ⟨m6, hm6⟩ : ∃ x : am_M, x = am_st m5 154 (am_up (m5 154) (μ 151 5).toNat z4) := ⟨_, rfl⟩
    have h := h m6 hm6
    refine s_iast dX5_readCommand_49 kn154 kk154 kl154 c c2 hm6.symm ?_
    refine s_aload_n dX5_readCommand_50 rfl rfl ?_
    refine s_getR dX5_readCommand_51 flX5_21 kn151 kk151 rfl kr151_3 ?_
    refine s_aload_n dX5_readCommand_54 rfl rfl ?_
    refine s_getI (x := (m5 151 5)) dX5_readCommand_55 flX5_28 kn151 kk151 rfl (by subst hm6; rfl) ?_
    refine s_iconst dX5_readCommand_58 (by decide) ?_
    obtain ⟨c, c2, h⟩ := h
    obtain ⟨m7, hm7⟩ : ∃ x : am_M, x = am_st m6 155 (am_up (m6 155) (m5 151 5).toNat 0) := ⟨_, rfl⟩
    have h := h m7 hm7
    refine s_iast dX5_readCommand_59 kn155 kk155 kl155 c c2 hm7.symm ?_
    refine s_aload_n dX5_readCommand_60 rfl rfl ?_
    refine s_getR dX5_readCommand_61 flX5_18 kn151 kk151 rfl kr151_2 ?_
    refine s_aload_n dX5_readCommand_64 rfl rfl ?_
    refine s_getI (x := (m5 151 5)) dX5_readCommand_65 flX5_28 kn151 kk151 rfl (by subst hm7; subst hm6; rfl) ?_
    obtain ⟨c, c2, h⟩ := h
    refine s_iald (x := (m6 154 ((m5 151 5).toNat))) dX5_readCommand_68 kn154 kk154 kl154 c c2 (by subst hm7; rfl) ?_
    refine s_if_ge dX5_readCommand_69 (tgt := 74) (by decide) (fun cc => ?_) (fun cc => ?_)
    · have h := h.1 cc
      refine s_iload_n dX5_readCommand_74 rfl rfl ?_
      refine s_bipush dX5_readCommand_75 (by decide) ?_
      refine s_icmp_eq dX5_readCommand_77 (tgt := 113) (by decide) (fun cc => ?_) (fun cc => ?_)
      · have h := h.1 cc
        refine s_aload_n dX5_readCommand_113 rfl rfl ?_
        refine s_dup dX5_readCommand_114 ?_
        refine s_getI (x := (m5 151 5)) dX5_readCommand_115 flX5_28 kn151 kk151 rfl (by subst hm7; subst hm6; rfl) ?_
        refine s_iconst dX5_readCommand_118 (by decide) ?_
        obtain ⟨c, h⟩ := h
        refine s_iadd dX5_readCommand_119 (am_w_id c) ?_
        obtain ⟨m8, hm8⟩ : ∃ x : am_M, x = am_st m7 151 (am_up (m7 151) 5 (m5 151 5 + 1)) := ⟨_, rfl⟩
        have h := h m8 hm8
        refine s_putI dX5_readCommand_120 flX5_28 kn151 kk151 rfl rfl (Or.inl rfl) hm8.symm ?_
        refine s_aload_n dX5_readCommand_123 rfl rfl ?_
        refine s_getR dX5_readCommand_124 flX5_21 kn151 kk151 rfl kr151_3 ?_
        refine s_aload_n dX5_readCommand_127 rfl rfl ?_
        refine s_getI (x := (m5 151 5 + 1)) dX5_readCommand_128 flX5_28 kn151 kk151 rfl (by subst hm8; rfl) ?_
        refine s_iconst dX5_readCommand_131 (by decide) ?_
        obtain ⟨c, h⟩ := h
        refine s_isub dX5_readCommand_132 (am_w_id c) ?_
        obtain ⟨c, c2, h⟩ := h
        refine s_iald (x := (m7 155 (((m5 151 5 + 1) - 1).toNat))) dX5_readCommand_133 kn155 kk155 kl155 c c2 (by subst hm8; rfl) ?_
        have kj10 : ∀ (v9 : Int), ((v9 = 0 ∨ v9 = 1) ∧ Q v9 m8) → at_I kC 3 mX5_readCommand 142 [vU, vU, vU] [vI v9] m8 Q := by
          intro v9 h
          exact s_ireturn dX5_readCommand_142 (Or.inr ⟨rfl, h.1⟩) ⟨⟨rfl, rfl⟩, _, rfl, h.2⟩
        refine s_if_lt dX5_readCommand_134 (tgt := 141) (by decide) (fun cc => ?_) (fun cc => ?_)
        · have hp0 := cc
          refine s_iconst dX5_readCommand_141 (by decide) ?_
          exact am_lesS (kj10 0 (h 0 (by rw [if_pos hp0]))) ⟨Or.inl rfl, Or.inl rfl, Or.inl rfl, trivial⟩
        · have hp0 := cc
          refine s_iconst dX5_readCommand_137 (by decide) ?_
          refine s_goto dX5_readCommand_138 (tgt := 142) (by decide) ?_
          exact am_lesS (kj10 1 (h 1 (by rw [if_neg (Int.not_lt.mpr hp0)]))) ⟨Or.inl rfl, Or.inl rfl, Or.inl rfl, trivial⟩
      · have h := h.2 cc
        refine s_aload_n dX5_readCommand_80 rfl rfl ?_
        obtain ⟨p0, p1, h⟩ := h
        refine s_callV (As := []) (rest := []) (k := 151) dX5_readCommand_81 lkX5_38 kn151 ⟨by rw [kk151]; rfl, by rw [kk151]; decide⟩ lmX5_here rfl rfl (Nat.le_of_ble_eq_true rfl) (by decide) (Nat.le_refl 0) (Nat.le_refl 0) (hC := sp_X5_here (Q := fun z m => z = hr_ (m7 152) (m7 151 4) (m7 151 6) ∧ m7 = m) p0 p1 ⟨rfl, rfl⟩) (fun r n2 S2 m2 hP => ?_)
        obtain ⟨⟨rfl, rfl⟩, v11, rfl, hz, rfl⟩ := hP
        have h := h v11 hz
        refine s_iload_n dX5_readCommand_84 rfl rfl ?_
        refine s_icmp_eq dX5_readCommand_85 (tgt := 90) (by decide) (fun cc => ?_) (fun cc => ?_)
        · have h := h.1 cc
          refine s_aload_n dX5_readCommand_90 rfl rfl ?_
          refine s_dup dX5_readCommand_91 ?_
          refine s_getI (x := (m5 151 6)) dX5_readCommand_92 flX5_31 kn151 kk151 rfl (by subst hm7; subst hm6; rfl) ?_
          refine s_iconst dX5_readCommand_95 (by decide) ?_
          obtain ⟨c, h⟩ := h
          refine s_iadd dX5_readCommand_96 (am_w_id c) ?_
          obtain ⟨m12, hm12⟩ : ∃ x : am_M, x = am_st m7 151 (am_up (m7 151) 6 (m5 151 6 + 1)) := ⟨_, rfl⟩
          have h := h m12 hm12
          refine s_putI dX5_readCommand_97 flX5_31 kn151 kk151 rfl rfl (Or.inl rfl) hm12.symm ?_
          refine s_aload_n dX5_readCommand_100 rfl rfl ?_
          refine s_getR dX5_readCommand_101 flX5_21 kn151 kk151 rfl kr151_3 ?_
          refine s_aload_n dX5_readCommand_104 rfl rfl ?_
          refine s_getI (x := (m5 151 5)) dX5_readCommand_105 flX5_28 kn151 kk151 rfl (by subst hm12; subst hm7; subst hm6; rfl) ?_
          refine s_aload_n dX5_readCommand_108 rfl rfl ?_
          obtain ⟨P, hcl, h⟩ := h
          refine s_callV (As := []) (rest := [vI (m5 151 5), vR 155]) (k := 151) dX5_readCommand_109 lkX5_46 kn151 ⟨by rw [kk151]; rfl, by rw [kk151]; decide⟩ lmX5_readNumber rfl rfl (Nat.le_of_ble_eq_true rfl) (by decide) (Nat.le_refl 0) (Nat.le_refl 0) (hC := hcl) (fun r n2 S2 m14 hP => ?_)
          obtain ⟨⟨rfl, rfl⟩, z13, rfl, hq⟩ := hP
          have h := h z13 m14 hq
          obtain ⟨c, c2, h⟩ := h
          obtain ⟨m15, hm15⟩ : ∃ x : am_M, x = am_st m14 155 (am_up (m14 155) (m5 151 5).toNat z13) := ⟨_, rfl⟩
          have h := h m15 hm15
          refine s_iast dX5_readCommand_112 kn155 kk155 kl155 c c2 hm15.symm ?_
          refine s_aload_n dX5_readCommand_113 rfl rfl ?_
          refine s_dup dX5_readCommand_114 ?_
          refine s_getI (x := (m14 151 5)) dX5_readCommand_115 flX5_28 kn151 kk151 rfl (by subst hm15; rfl) ?_
          refine s_iconst dX5_readCommand_118 (by decide) ?_
          obtain ⟨c, h⟩ := h
          refine s_iadd dX5_readCommand_119 (am_w_id c) ?_
          obtain ⟨m16, hm16⟩ : ∃ x : am_M, x = am_st m15 151 (am_up (m15 151) 5 (m14 151 5 + 1)) := ⟨_, rfl⟩
          have h := h m16 hm16
          refine s_putI dX5_readCommand_120 flX5_28 kn151 kk151 rfl rfl (Or.inl rfl) hm16.symm ?_
          refine s_aload_n dX5_readCommand_123 rfl rfl ?_
          refine s_getR dX5_readCommand_124 flX5_21 kn151 kk151 rfl kr151_3 ?_
          refine s_aload_n dX5_readCommand_127 rfl rfl ?_
          refine s_getI (x := (m14 151 5 + 1)) dX5_readCommand_128 flX5_28 kn151 kk151 rfl (by subst hm16; rfl) ?_
          refine s_iconst dX5_readCommand_131 (by decide) ?_
          obtain ⟨c, h⟩ := h
          refine s_isub dX5_readCommand_132 (am_w_id c) ?_
          obtain ⟨c, c2, h⟩ := h
          refine s_iald (x := (m15 155 (((m14 151 5 + 1) - 1).toNat))) dX5_readCommand_133 kn155 kk155 kl155 c c2 (by subst hm16; rfl) ?_
          have kj18 : ∀ (v17 : Int), ((v17 = 0 ∨ v17 = 1) ∧ Q v17 m16) → at_I kC 3 mX5_readCommand 142 [vU, vU, vU] [vI v17] m16 Q := by
            intro v17 h
            exact s_ireturn dX5_readCommand_142 (Or.inr ⟨rfl, h.1⟩) ⟨⟨rfl, rfl⟩, _, rfl, h.2⟩
          refine s_if_lt dX5_readCommand_134 (tgt := 141) (by decide) (fun cc => ?_) (fun cc => ?_)
          · have hp0 := cc
            refine s_iconst dX5_readCommand_141 (by decide) ?_
            exact am_lesS (kj18 0 (h 0 (by rw [if_pos hp0]))) ⟨Or.inl rfl, Or.inl rfl, Or.inl rfl, trivial⟩
          · have hp0 := cc
            refine s_iconst dX5_readCommand_137 (by decide) ?_
            refine s_goto dX5_readCommand_138 (tgt := 142) (by decide) ?_
            exact am_lesS (kj18 1 (h 1 (by rw [if_neg (Int.not_lt.mpr hp0)]))) ⟨Or.inl rfl, Or.inl rfl, Or.inl rfl, trivial⟩
        · have h := h.2 cc
          refine s_iconst dX5_readCommand_88 (by decide) ?_
          exact s_ireturn dX5_readCommand_89 (Or.inr ⟨rfl, by decide⟩) ⟨⟨rfl, rfl⟩, _, rfl, h⟩
    · have h := h.2 cc
      refine s_iconst dX5_readCommand_72 (by decide) ?_
      exact s_ireturn dX5_readCommand_73 (Or.inr ⟨rfl, by decide⟩) ⟨⟨rfl, rfl⟩, _, rfl, h⟩
  · have h := h.2 cc
    refine s_iconst dX5_readCommand_15 (by decide) ?_
    exact s_ireturn dX5_readCommand_16 (Or.inr ⟨rfl, by decide⟩) ⟨⟨rfl, rfl⟩, _, rfl, h⟩
theorem ve_X5_readCommand {μ : am_M} {Q : Int → am_M → Prop} (h : at_I kC 3 mX5_readCommand 0 [vR 151, vU, vU] [] μ Q) : cl_I kC 3 mX5_readCommand [vR 151] μ Q := am_intro pmX5_readCommand (Nat.le_of_ble_eq_true rfl) rfl h
theorem sp_X5_readCommand {μ : am_M} {k p : Int} (h0 : μ 151 4 ≤ 60) (h1 : μ 151 6 = p) (hp : 0 ≤ p) (h2 : μ 151 5 = k) (hk : in_ 0 20 k) : cl_I kC 3 mX5_readCommand [vR 151] μ (fun z m => m 151 6 = (cmd_ (μ 152) (μ 151 4) p).2.2.2.2 ∧ fr_ [151, 153, 154, 155] μ m ∧ m 151 4 = μ 151 4 ∧ (∀ j : Nat, j < k.toNat → m 153 j = μ 153 j ∧ m 154 j = μ 154 j ∧ m 155 j = μ 155 j) ∧ (((cmd_ (μ 152) (μ 151 4) p).1 = true ∧ z = 1 ∧ m 151 5 = k + 1 ∧ m 153 k.toNat = (cmd_ (μ 152) (μ 151 4) p).2.1 ∧ m 154 k.toNat = (cmd_ (μ 152) (μ 151 4) p).2.2.1 ∧ m 155 k.toNat = (cmd_ (μ 152) (μ 151 4) p).2.2.2.1) ∨ ((cmd_ (μ 152) (μ 151 4) p).1 = false ∧ z = 0))) := by
  refine ve_X5_readCommand (vc_X5_readCommand_0 ⟨h0, by omega, fun v1 e1 => ?_⟩)
  rw [h1] at e1
  unfold in_ at hk
  refine ⟨fun s1 => ?_, fun s1 => ?_⟩
  · have hpn : p < μ 151 4 := by
      rcases Int.lt_or_le p (μ 151 4) with h | h
      · exact h
      · exfalso
        apply s1
        rw [e1]
        unfold hr_
        rw [if_neg (by omega)]
        rfl
    refine ⟨(by (try unfold am_in); (try unfold in_ at *); omega), fun m2 e2 => ⟨(by (try unfold am_in); (try unfold in_ at *); omega), (by (try unfold am_in); (try unfold in_ at *); omega), fun m3 e3 => ?_⟩⟩
    have a4 : m3 151 4 = μ 151 4 := by rw [e3, st_n (by decide), e2, st_s, up_n (by decide)]
    have a5 : m3 151 5 = k := by rw [e3, st_n (by decide), e2, st_s, up_n (by decide), h2]
    have a6 : m3 151 6 = p + 1 := by rw [e3, st_n (by decide), e2, st_s, up_s, h1]
    have a152 : m3 152 = μ 152 := by rw [e3, st_n (by decide), e2, st_n (by decide)]
    have a153 : m3 153 = am_up (μ 153) k.toNat v1 := by rw [e3, st_s, e2, st_n (by decide), h2]
    have f3 : fr_ [151, 153, 154, 155] μ m3 := by rw [e3, e2]; exact fr_tr (fr_st (by simp)) (fr_st (by simp))
    have n1 := rdn_b (T := μ 152) (n := μ 151 4) (p := p + 1)
    refine ⟨_, sp_X5_readNumber (Q := fun z m => z = (rdn_ (m3 152) (m3 151 4) (m3 151 6)).1 ∧ pl_ m3 m (rdn_ (m3 152) (m3 151 4) (m3 151 6)).2) (by rw [a4]; exact h0) (by rw [a6]; omega) (fun m h => ⟨rfl, h⟩), fun z4 m5 ⟨g1, g2, g3, g4⟩ => ?_⟩
    rw [a152, a4, a6] at g1 g4
    have b5 : m5 151 5 = k := by rw [g3 5 (by decide), a5]
    have b4 : m5 151 4 = μ 151 4 := by rw [g3 4 (by decide), a4]
    refine ⟨(by (try unfold am_in); (try unfold in_ at *); omega), (by (try unfold am_in); (try unfold in_ at *); omega), fun m6 e6 => ⟨(by (try unfold am_in); (try unfold in_ at *); omega), (by (try unfold am_in); (try unfold in_ at *); omega), fun m7 e7 => ⟨(by (try unfold am_in); (try unfold in_ at *); omega), (by (try unfold am_in); (try unfold in_ at *); omega), ?_⟩⟩⟩
    have f7 : fr_ [151, 153, 154, 155] μ m7 := by
      rw [e7, e6]
      refine fr_tr (fr_tr f3 (fun k hk => g2 k (fun e => hk (by simp [e])))) (fr_tr (fr_st (by simp)) (fr_st (by simp)))
    have c153 : m7 153 = am_up (μ 153) k.toNat v1 := by rw [e7, st_n (by decide), e6, st_n (by decide), g2 153 (by decide), a153]
    have c154 : m7 154 = am_up (μ 154) k.toNat z4 := by rw [e7, st_n (by decide), e6, st_s, g2 154 (by decide), e3, st_n (by decide), e2, st_n (by decide), h2]
    have c155 : m7 155 = am_up (μ 155) k.toNat 0 := by rw [e7, st_s, e6, st_n (by decide), g2 155 (by decide), e3, st_n (by decide), e2, st_n (by decide), b5]
    have c4 : m7 151 4 = μ 151 4 := by rw [e7, st_n (by decide), e6, st_n (by decide), b4]
    have c5 : m7 151 5 = k := by rw [e7, st_n (by decide), e6, st_n (by decide), b5]
    have c6 : m7 151 6 = (rdn_ (μ 152) (μ 151 4) (p + 1)).2 := by rw [e7, st_n (by decide), e6, st_n (by decide), g4]
    have c152 : m7 152 = μ 152 := by rw [e7, st_n (by decide), e6, st_n (by decide), g2 152 (by decide), a152]
    have d6 : m6 154 (m5 151 5).toNat = z4 := by rw [e6, st_s, b5, h2, up_s]
    have old : ∀ m : am_M, m 153 = m7 153 → m 154 = m7 154 → (∀ j : Nat, j < k.toNat → m 155 j = m7 155 j) → ∀ j : Nat, j < k.toNat → m 153 j = μ 153 j ∧ m 154 j = μ 154 j ∧ m 155 j = μ 155 j := fun m x3 x4 x5 j hj => by
      rw [x3, x4, x5 j hj, c153, c154, c155, up_n (by omega), up_n (by omega), up_n (by omega)]
      exact ⟨rfl, rfl, rfl⟩
    have u1 : cmd_ (μ 152) (μ 151 4) p = _ := if_neg (by rw [← e1]; exact s1)
    rw [← e1, ← g1] at u1
    refine ⟨fun r0 => ?_, fun r0 => ?_⟩
    · rw [d6] at r0
      have u2 := u1.trans (if_neg (by omega))
      refine ⟨fun q1 => ?_, fun q1 => ⟨by rw [c4]; exact h0, by rw [c6]; omega, fun v11 e11 => ⟨fun q2 => ?_, fun q2 => ?_⟩⟩⟩
      · have u3 := u2.trans (if_pos q1)
        refine ⟨(by (try unfold am_in); (try unfold in_ at *); omega), fun m8 e8 => ⟨(by (try unfold am_in); (try unfold in_ at *); omega), by omega, by omega, fun v9 e9 => ?_⟩⟩
        have z9 : v9 = 1 := by
          rw [e9, c155, b5, show (k + 1 - 1).toNat = k.toNat by omega, up_s]
          rfl
        refine ⟨Or.inr z9, ?_⟩
        rw [u3]
        refine ⟨by rw [e8, st_s, up_n (by decide), c6], by rw [e8]; exact fr_tr f7 (fr_st (by simp)), by rw [e8, st_s, up_n (by decide), c4], old m8 (by rw [e8, st_n (by decide)]) (by rw [e8, st_n (by decide)]) (fun j _ => by rw [e8, st_n (by decide)]), Or.inl ⟨rfl, z9, by rw [e8, st_s, up_s, b5], ?_, ?_, ?_⟩⟩
        · rw [e8, st_n (by decide), c153, up_s]
        · rw [e8, st_n (by decide), c154, up_s]
        · rw [e8, st_n (by decide), c155, up_s]
      · have u3 := u2.trans (if_neg q1)
        rw [c152, c4, c6] at e11
        have u4 := u3.trans (if_pos (by rw [← e11]; exact q2))
        have n2 := rdn_b (T := μ 152) (n := μ 151 4) (p := (rdn_ (μ 152) (μ 151 4) (p + 1)).2 + 1)
        have hpn2 : (rdn_ (μ 152) (μ 151 4) (p + 1)).2 ≤ 60 := by have := n1.2.2.2.1 (by omega); omega
        refine ⟨by rw [g4]; ((try unfold am_in); (try unfold in_ at *); omega), fun m12 e12 => ?_⟩
        rw [g4] at e12
        have i4 : m12 151 4 = μ 151 4 := by rw [e12, st_s, up_n (by decide), c4]
        have i5 : m12 151 5 = k := by rw [e12, st_s, up_n (by decide), c5]
        have i6 : m12 151 6 = (rdn_ (μ 152) (μ 151 4) (p + 1)).2 + 1 := by rw [e12, st_s, up_s]
        have i152 : m12 152 = μ 152 := by rw [e12, st_n (by decide), c152]
        refine ⟨_, sp_X5_readNumber (Q := fun z m => z = (rdn_ (m12 152) (m12 151 4) (m12 151 6)).1 ∧ pl_ m12 m (rdn_ (m12 152) (m12 151 4) (m12 151 6)).2) (by rw [i4]; exact h0) (by rw [i6]; omega) (fun m h => ⟨rfl, h⟩), fun z13 m14 ⟨j1, j2, j3, j4⟩ => ?_⟩
        rw [i152, i4, i6] at j1 j4
        have k5 : m14 151 5 = k := by rw [j3 5 (by decide), i5]
        refine ⟨(by (try unfold am_in); (try unfold in_ at *); omega), (by (try unfold am_in); (try unfold in_ at *); omega), fun m15 e15 => ⟨(by (try unfold am_in); (try unfold in_ at *); omega), fun m16 e16 => ⟨(by (try unfold am_in); (try unfold in_ at *); omega), by omega, by omega, fun v17 e17 => ?_⟩⟩⟩
        have z17 : v17 = if z13 < 0 then 0 else 1 := by
          rw [e17, k5, show (k + 1 - 1).toNat = k.toNat by omega, e15, st_s, b5, up_s]
        have f16 : fr_ [151, 153, 154, 155] μ m16 := by
          rw [e16, e15]
          exact fr_tr (fr_tr (fr_tr f7 (by rw [e12]; exact fr_st (by simp))) (fun k hk => j2 k (fun e => hk (by simp [e])))) (fr_tr (fr_st (by simp)) (fr_st (by simp)))
        have w153 : m16 153 = m7 153 := by rw [e16, st_n (by decide), e15, st_n (by decide), j2 153 (by decide), e12, st_n (by decide)]
        have w154 : m16 154 = m7 154 := by rw [e16, st_n (by decide), e15, st_n (by decide), j2 154 (by decide), e12, st_n (by decide)]
        have w155 : m16 155 = am_up (m7 155) k.toNat z13 := by rw [e16, st_n (by decide), e15, st_s, j2 155 (by decide), e12, st_n (by decide), b5]
        have w4 : m16 151 4 = μ 151 4 := by rw [e16, st_s, up_n (by decide), e15, st_n (by decide), j3 4 (by decide), i4]
        have w5 : m16 151 5 = k + 1 := by rw [e16, st_s, up_s, k5]
        have w6 : m16 151 6 = (rdn_ (μ 152) (μ 151 4) ((rdn_ (μ 152) (μ 151 4) (p + 1)).2 + 1)).2 := by rw [e16, st_s, up_n (by decide), e15, st_n (by decide), j4]
        rw [← j1] at u4
        refine ⟨by rw [z17]; split <;> omega, ?_⟩
        by_cases zz : z13 < 0
        · rw [if_pos zz] at u4 z17
          rw [u4]
          exact ⟨w6, f16, w4, old m16 w153 w154 (fun j hj => by rw [w155, up_n (by omega)]), Or.inr ⟨rfl, z17⟩⟩
        · rw [if_neg zz] at u4 z17
          rw [u4]
          refine ⟨w6, f16, w4, old m16 w153 w154 (fun j hj => by rw [w155, up_n (by omega)]), Or.inl ⟨rfl, z17, w5, ?_, ?_, ?_⟩⟩
          · rw [w153, c153, up_s]
          · rw [w154, c154, up_s]
          · rw [w155, up_s]
      · have u3 := u2.trans (if_neg q1)
        rw [c152, c4, c6] at e11
        have u4 := u3.trans (if_neg (by rw [← e11]; exact q2))
        rw [u4]
        exact ⟨c6, f7, c4, old m7 rfl rfl (fun _ _ => rfl), Or.inr ⟨rfl, rfl⟩⟩
    · rw [d6] at r0
      rw [u1.trans (if_pos r0)]
      exact ⟨c6, f7, c4, old m7 rfl rfl (fun _ _ => rfl), Or.inr ⟨rfl, rfl⟩⟩
  · have u1 : cmd_ (μ 152) (μ 151 4) p = _ := if_pos (by rw [← e1]; exact s1)
    rw [u1]
    exact ⟨h1, fr_rf, rfl, fun _ _ => ⟨rfl, rfl, rfl⟩, Or.inr ⟨rfl, rfl⟩⟩
abbrev Cm : Type := Int × Int × Int
/-- the commands from a place on, at most so many: a fault's place or -1 -/
def prs_ (T : Nat → Int) (n : Int) : Nat → Int → Int × List Cm
  | 0, p => (p, [])
  | k + 1, p => if (cmd_ T n p).1 = false then ((cmd_ T n p).2.2.2.2, [])
    else if (cmd_ T n p).2.2.2.2 = n then (-1, [((cmd_ T n p).2.1, (cmd_ T n p).2.2.1, (cmd_ T n p).2.2.2.1)])
    else if hr_ T n (cmd_ T n p).2.2.2.2 = 59 then ((prs_ T n k ((cmd_ T n p).2.2.2.2 + 1)).1, ((cmd_ T n p).2.1, (cmd_ T n p).2.2.1, (cmd_ T n p).2.2.2.1) :: (prs_ T n k ((cmd_ T n p).2.2.2.2 + 1)).2)
    else ((cmd_ T n p).2.2.2.2, [])
theorem cmd_b {T : Nat → Int} {n p : Int} : p ≤ (cmd_ T n p).2.2.2.2 ∧ ((cmd_ T n p).1 = true → p + 2 ≤ (cmd_ T n p).2.2.2.2) ∧ (p ≤ n → (cmd_ T n p).2.2.2.2 ≤ n) := by
  have key : sgn_ (hr_ T n p) ≠ -1 → p < n := fun h => by
    rcases Int.lt_or_le p n with h2 | h2
    · exact h2
    · exfalso
      apply h
      unfold hr_
      rw [if_neg (by omega)]
      rfl
  have n1 := rdn_b (T := T) (n := n) (p := p + 1)
  have n2 := rdn_b (T := T) (n := n) (p := (rdn_ T n (p + 1)).2 + 1)
  unfold cmd_
  split
  · exact ⟨by simp, by simp, by simp⟩
  · rename_i q
    have := key q
    have m1 := n1.2.2.2.1 (by omega)
    split
    · exact ⟨by simp; omega, by simp, by simp; omega⟩
    · split
      · exact ⟨by simp; omega, by simp; omega, by simp; omega⟩
      · split
        · rename_i q4
          have h4 : (rdn_ T n (p + 1)).2 < n := by
            rcases Int.lt_or_le (rdn_ T n (p + 1)).2 n with h2 | h2
            · exact h2
            · exfalso
              have z : hr_ T n (rdn_ T n (p + 1)).2 = -1 := by
                unfold hr_
                rw [if_neg (by omega)]
              rw [z] at q4
              exact q q4.symm
          have m2 := n2.2.2.2.1 (by omega)
          split
          · exact ⟨by simp; omega, by simp, by simp; omega⟩
          · exact ⟨by simp; omega, by simp; omega, by simp; omega⟩
        · exact ⟨by simp; omega, by simp, by simp; omega⟩
/-- rows hold commands -/
def cmR_ (m : am_M) (A : List Cm) : Prop := ∀ (i : Nat) (c : Cm), A[i]? = some c → m 153 i = c.1 ∧ m 154 i = c.2.1 ∧ m 155 i = c.2.2
theorem vc_X5_read_0 {μ : am_M} {Q : Int → am_M → Prop} (h : ∀ m1 : am_M, m1 = am_st μ 151 (am_up (μ 151) 5 0) → ∀ m2 : am_M, m2 = am_st m1 151 (am_up (m1 151) 6 0) → at_I kC 4 mX5_read 12 [vR 151, vI 0] [] m2 Q) : at_I kC 4 mX5_read 0 [vR 151, vU] [] μ Q := by
  refine s_aload_n dX5_read_0 rfl rfl ?_
  refine s_iconst dX5_read_1 (by decide) ?_
  obtain ⟨m1, hm1⟩ : ∃ x : am_M, x = am_st μ 151 (am_up (μ 151) 5 0) := ⟨_, rfl⟩
  have h := h m1 hm1
  refine s_putI dX5_read_2 flX5_28 kn151 kk151 rfl rfl (Or.inl rfl) hm1.symm ?_
  refine s_aload_n dX5_read_5 rfl rfl ?_
  refine s_iconst dX5_read_6 (by decide) ?_
  obtain ⟨m2, hm2⟩ : ∃ x : am_M, x = am_st m1 151 (am_up (m1 151) 6 0) := ⟨_, rfl⟩
  have h := h m2 hm2
  refine s_putI dX5_read_7 flX5_31 kn151 kk151 rfl rfl (Or.inl rfl) hm2.symm ?_
  refine s_iconst dX5_read_10 (by decide) ?_
  refine s_istore_n dX5_read_11 rfl (by decide) (L' := [vR 151, vI 0]) rfl ?_
  exact h
theorem vc_X5_read_12 {x1 : Int} {μ : am_M} {Q : Int → am_M → Prop} (h : (20 ≤ x1 → Q (μ 151 6) μ) ∧ (x1 < 20 → ∃ P : Int → am_M → Prop, cl_I kC 3 mX5_readCommand [vR 151] μ P ∧ (∀ (z1 : Int) (m2 : am_M), P z1 m2 → (z1 ≠ 0 → (m2 151 6 ≠ m2 151 4 → (m2 151 4 ≤ 60) ∧ (0 ≤ m2 151 6) ∧ (∀ v3 : Int, v3 = hr_ (m2 152) (m2 151 4) (m2 151 6) → (v3 = 59 → (am_in (m2 151 6 + 1)) ∧ (∀ m4 : am_M, m4 = am_st m2 151 (am_up (m2 151) 6 (m2 151 6 + 1)) → (am_in (x1 + 1)) ∧ (at_I kC 4 mX5_read 12 [vR 151, vI (x1 + 1)] [] m4 Q))) ∧ (v3 ≠ 59 → Q (m2 151 6) m2))) ∧ (m2 151 6 = m2 151 4 → Q (-1) m2)) ∧ (z1 = 0 → Q (m2 151 6) m2)))) : at_I kC 4 mX5_read 12 [vR 151, vI x1] [] μ Q := by
  refine s_iload_n dX5_read_12 rfl rfl ?_
  refine s_bipush dX5_read_13 (by decide) ?_
  refine s_icmp_ge dX5_read_15 (tgt := 73) (by decide) (fun cc => ?_) (fun cc => ?_)
  · have h := h.1 cc
    refine s_aload_n dX5_read_73 rfl rfl ?_
    refine s_getI (x := (μ 151 6)) dX5_read_74 flX5_31 kn151 kk151 rfl rfl ?_
    exact s_ireturn dX5_read_77 (Or.inl rfl) ⟨⟨rfl, rfl⟩, _, rfl, h⟩
  · have h := h.2 cc
    refine s_aload_n dX5_read_18 rfl rfl ?_
    obtain ⟨P, hcl, h⟩ := h
    refine s_callV (As := []) (rest := []) (k := 151) dX5_read_19 lkX5_34 kn151 ⟨by rw [kk151]; rfl, by rw [kk151]; decide⟩ lmX5_readCommand rfl rfl (Nat.le_of_ble_eq_true rfl) (by decide) (Nat.le_refl 0) (Nat.le_refl 0) (hC := hcl) (fun r n2 S2 m2 hP => ?_)
    obtain ⟨⟨rfl, rfl⟩, z1, rfl, hq⟩ := hP
    have h := h z1 m2 hq
    refine s_if_ne dX5_read_22 (tgt := 30) (by decide) (fun cc => ?_) (fun cc => ?_)
    · have h := h.1 cc
      refine s_aload_n dX5_read_30 rfl rfl ?_
      refine s_getI (x := (m2 151 6)) dX5_read_31 flX5_31 kn151 kk151 rfl rfl ?_
      refine s_aload_n dX5_read_34 rfl rfl ?_
      refine s_getI (x := (m2 151 4)) dX5_read_35 flX5_24 kn151 kk151 rfl rfl ?_
      refine s_icmp_ne dX5_read_38 (tgt := 43) (by decide) (fun cc => ?_) (fun cc => ?_)
      · have h := h.1 cc
        refine s_aload_n dX5_read_43 rfl rfl ?_
        obtain ⟨p0, p1, h⟩ := h
        refine s_callV (As := []) (rest := []) (k := 151) dX5_read_44 lkX5_38 kn151 ⟨by rw [kk151]; rfl, by rw [kk151]; decide⟩ lmX5_here rfl rfl (Nat.le_of_ble_eq_true rfl) (by decide) (Nat.le_refl 0) (Nat.le_refl 0) (hC := sp_X5_here (Q := fun z m => z = hr_ (m2 152) (m2 151 4) (m2 151 6) ∧ m2 = m) p0 p1 ⟨rfl, rfl⟩) (fun r n2 S2 m2 hP => ?_)
        obtain ⟨⟨rfl, rfl⟩, v3, rfl, hz, rfl⟩ := hP
        have h := h v3 hz
        refine s_bipush dX5_read_47 (by decide) ?_
        refine s_icmp_eq dX5_read_49 (tgt := 57) (by decide) (fun cc => ?_) (fun cc => ?_)
        · have h := h.1 cc
          refine s_aload_n dX5_read_57 rfl rfl ?_
          refine s_dup dX5_read_58 ?_
          refine s_getI (x := (m2 151 6)) dX5_read_59 flX5_31 kn151 kk151 rfl rfl ?_
          refine s_iconst dX5_read_62 (by decide) ?_
          obtain ⟨c, h⟩ := h
          refine s_iadd dX5_read_63 (am_w_id c) ?_
          obtain ⟨m4, hm4⟩ : ∃ x : am_M, x = am_st m2 151 (am_up (m2 151) 6 (m2 151 6 + 1)) := ⟨_, rfl⟩
          have h := h m4 hm4
          refine s_putI dX5_read_64 flX5_31 kn151 kk151 rfl rfl (Or.inl rfl) hm4.symm ?_
          obtain ⟨c, h⟩ := h
          refine s_iinc dX5_read_67 rfl (am_w_id c) (by decide) (L' := [vR 151, vI (x1 + 1)]) rfl ?_
          refine s_goto dX5_read_70 (tgt := 12) (by decide) ?_
          exact h
        · have h := h.2 cc
          refine s_aload_n dX5_read_52 rfl rfl ?_
          refine s_getI (x := (m2 151 6)) dX5_read_53 flX5_31 kn151 kk151 rfl rfl ?_
          exact s_ireturn dX5_read_56 (Or.inl rfl) ⟨⟨rfl, rfl⟩, _, rfl, h⟩
      · have h := h.2 cc
        refine s_iconst dX5_read_41 (by decide) ?_
        exact s_ireturn dX5_read_42 (Or.inl rfl) ⟨⟨rfl, rfl⟩, _, rfl, h⟩
    · have h := h.2 cc
      refine s_aload_n dX5_read_25 rfl rfl ?_
      refine s_getI (x := (m2 151 6)) dX5_read_26 flX5_31 kn151 kk151 rfl rfl ?_
      exact s_ireturn dX5_read_29 (Or.inl rfl) ⟨⟨rfl, rfl⟩, _, rfl, h⟩
theorem ve_X5_read {μ : am_M} {Q : Int → am_M → Prop} (h : at_I kC 4 mX5_read 0 [vR 151, vU] [] μ Q) : cl_I kC 4 mX5_read [vR 151] μ Q := am_intro pmX5_read (Nat.le_of_ble_eq_true rfl) rfl h
theorem lp_X5_read {μ0 : am_M} (h0 : in_ 0 61 (μ0 151 4)) {R : Int × List Cm} {Q : Int → am_M → Prop} (hQ : ∀ z m, fr_ [151, 153, 154, 155] μ0 m → m 151 4 = μ0 151 4 → z = R.1 → ((z = -1 ∧ m 151 5 = R.2.length ∧ cmR_ m R.2) ∨ 0 ≤ z) → Q z m) : ∀ (k : Nat) (x p : Int) (A : List Cm) (μ : am_M), x + k = 20 → x = A.length → 0 ≤ p → p ≤ μ0 151 4 → R = ((prs_ (μ0 152) (μ0 151 4) k p).1, A ++ (prs_ (μ0 152) (μ0 151 4) k p).2) → fr_ [151, 153, 154, 155] μ0 μ → μ 151 4 = μ0 151 4 → μ 151 5 = x → μ 151 6 = p → cmR_ μ A → at_I kC 4 mX5_read 12 [vR 151, vI x] [] μ Q := by
  intro k
  induction k with
  | zero =>
    intro x p A μ hx hA hp0 hp1 hR hf h4 h5 h6 hc
    refine vc_X5_read_12 ⟨fun _ => hQ _ _ hf h4 (by rw [hR, h6]; rfl) (Or.inr (by omega)), fun q => by omega⟩
  | succ k ih =>
    intro x p A μ hx hA hp0 hp1 hR hf h4 h5 h6 hc
    have c152 : μ 152 = μ0 152 := hf 152 (by decide)
    have cb := cmd_b (T := μ0 152) (n := μ0 151 4) (p := p)
    have cb3 := cb.2.2 hp1
    have hh := h0
    unfold in_ at hh
    refine vc_X5_read_12 ⟨fun q => by omega, fun q => ⟨_, sp_X5_readCommand (k := x) (p := p) (by rw [h4]; omega) h6 hp0 h5 (by (try unfold am_in); (try unfold in_ at *); omega), fun z1 m2 ⟨g1, g2, g3, g4, g5⟩ => ?_⟩⟩
    rw [c152, h4] at g1 g5
    rw [h4] at g3
    have f2 := fr_tr hf g2
    have cA : cmR_ m2 A := fun i c hi => by
      have hl := (List.getElem?_eq_some_iff.mp hi).1
      obtain ⟨y1, y2, y3⟩ := g4 i (by omega)
      rw [y1, y2, y3]
      exact hc i c hi
    rcases g5 with ⟨t1, t2, t3, t4, t5, t6⟩ | ⟨t1, t2⟩
    · have cA2 : cmR_ m2 (A ++ [((cmd_ (μ0 152) (μ0 151 4) p).2.1, (cmd_ (μ0 152) (μ0 151 4) p).2.2.1, (cmd_ (μ0 152) (μ0 151 4) p).2.2.2.1)]) := fun i c hi => by
        by_cases hl : i < A.length
        · rw [List.getElem?_append_left hl] at hi
          exact cA i c hi
        · have hl2 := (List.getElem?_eq_some_iff.mp hi).1
          simp at hl2
          have : i = A.length := by omega
          subst this
          simp at hi
          subst hi
          rw [show x.toNat = A.length by omega] at t4 t5 t6
          exact ⟨t4, t5, t6⟩
      have r1 : prs_ (μ0 152) (μ0 151 4) (k + 1) p = _ := if_neg (by rw [t1]; decide)
      refine ⟨fun _ => ⟨fun c1 => ⟨by rw [g3]; omega, by omega, fun v3 e3 => ?_⟩, fun c1 => ?_⟩, fun c1 => by omega⟩
      · rw [g3, g1, f2 152 (by decide)] at e3
        rw [g1, g3] at c1
        have r2 := r1.trans (if_neg c1)
        refine ⟨fun c2 => ⟨by rw [g1]; ((try unfold am_in); (try unfold in_ at *); omega), fun m4 e4 => ⟨(by (try unfold am_in); (try unfold in_ at *); omega), ?_⟩⟩, fun c2 => ?_⟩
        · have r3 := r2.trans (if_pos (by rw [← e3]; exact c2))
          have p1 : (cmd_ (μ0 152) (μ0 151 4) p).2.2.2.2 < μ0 151 4 := by omega
          refine ih (x + 1) ((cmd_ (μ0 152) (μ0 151 4) p).2.2.2.2 + 1) (A ++ [((cmd_ (μ0 152) (μ0 151 4) p).2.1, (cmd_ (μ0 152) (μ0 151 4) p).2.2.1, (cmd_ (μ0 152) (μ0 151 4) p).2.2.2.1)]) m4 (by omega) (by simp; omega) (by omega) (by omega) ?_ (by rw [e4]; exact fr_tr f2 (fr_st (by simp))) (by rw [e4, st_s, up_n (by decide), g3]) (by rw [e4, st_s, up_n (by decide), t3]) (by rw [e4, st_s, up_s, g1]) ?_
          · rw [hR, r3]
            simp
          · intro i c hi
            rw [e4, st_n (by decide), st_n (by decide), st_n (by decide)]
            exact cA2 i c hi
        · have r3 := r2.trans (if_neg (by rw [← e3]; exact c2))
          exact hQ _ _ f2 g3 (by rw [hR, r3, g1]) (Or.inr (by omega))
      · rw [g1, g3] at c1
        have r2 := r1.trans (if_pos c1)
        rw [r2] at hR
        refine hQ _ _ f2 g3 (by rw [hR]) (Or.inl ⟨rfl, ?_, ?_⟩)
        · rw [hR, t3]
          simp
          omega
        · rw [hR]
          exact cA2
    · have r1 : prs_ (μ0 152) (μ0 151 4) (k + 1) p = _ := if_pos t1
      refine ⟨fun c => absurd t2 c, fun _ => hQ _ _ f2 g3 (by rw [hR, r1, g1]) (Or.inr (by omega))⟩
theorem sp_X5_read {μ : am_M} (h0 : in_ 0 61 (μ 151 4)) : cl_I kC 4 mX5_read [vR 151] μ (fun z m => fr_ [151, 153, 154, 155] μ m ∧ m 151 4 = μ 151 4 ∧ z = (prs_ (μ 152) (μ 151 4) 20 0).1 ∧ ((z = -1 ∧ m 151 5 = (prs_ (μ 152) (μ 151 4) 20 0).2.length ∧ cmR_ m (prs_ (μ 152) (μ 151 4) 20 0).2) ∨ 0 ≤ z)) := by
  refine ve_X5_read (vc_X5_read_0 (fun m1 e1 m2 e2 => ?_))
  refine lp_X5_read (μ0 := μ) h0 (fun z m a b c d => ⟨a, b, c, d⟩) 20 0 0 [] m2 (by omega) rfl (by omega) h0.1 (by simp) (by rw [e2, e1]; exact fr_tr (fr_st (by simp)) (fr_st (by simp))) ?_ ?_ ?_ (fun i c hi => by simp at hi)
  · rw [e2, st_s, up_n (by decide), e1, st_s, up_n (by decide)]
  · rw [e2, st_s, up_n (by decide), e1, st_s, up_s]
  · rw [e2, st_s, up_s]
theorem vc_X5_add_0 {x1 : Int} {μ : am_M} {Q : Int → am_M → Prop} (h : (μ 151 4 < 60 → (0 ≤ μ 151 4) ∧ (μ 151 4 < 60) ∧ (∀ m1 : am_M, m1 = am_st μ 152 (am_up (μ 152) (μ 151 4).toNat x1) → (am_in (μ 151 4 + 1)) ∧ (∀ m2 : am_M, m2 = am_st m1 151 (am_up (m1 151) 4 (μ 151 4 + 1)) → Q (μ 151 4 + 1) m2))) ∧ (60 ≤ μ 151 4 → Q (-3) μ)) : at_I kC 1 mX5_add 0 [vR 151, vI x1] [] μ Q := by
  refine s_aload_n dX5_add_0 rfl rfl ?_
  refine s_getI (x := (μ 151 4)) dX5_add_1 flX5_24 kn151 kk151 rfl rfl ?_
  refine s_bipush dX5_add_4 (by decide) ?_
  refine s_icmp_lt dX5_add_6 (tgt := 12) (by decide) (fun cc => ?_) (fun cc => ?_)
  · have h := h.1 cc
    refine s_aload_n dX5_add_12 rfl rfl ?_
    refine s_getR dX5_add_13 flX5_9 kn151 kk151 rfl kr151_0 ?_
    refine s_aload_n dX5_add_16 rfl rfl ?_
    refine s_getI (x := (μ 151 4)) dX5_add_17 flX5_24 kn151 kk151 rfl rfl ?_
    refine s_iload_n dX5_add_20 rfl rfl ?_
    obtain ⟨c, c2, h⟩ := h
    obtain ⟨m1, hm1⟩ : ∃ x : am_M, x = am_st μ 152 (am_up (μ 152) (μ 151 4).toNat x1) := ⟨_, rfl⟩
    have h := h m1 hm1
    refine s_iast dX5_add_21 kn152 kk152 kl152 c c2 hm1.symm ?_
    refine s_aload_n dX5_add_22 rfl rfl ?_
    refine s_dup dX5_add_23 ?_
    refine s_getI (x := (μ 151 4)) dX5_add_24 flX5_24 kn151 kk151 rfl (by subst hm1; rfl) ?_
    refine s_iconst dX5_add_27 (by decide) ?_
    obtain ⟨c, h⟩ := h
    refine s_iadd dX5_add_28 (am_w_id c) ?_
    obtain ⟨m2, hm2⟩ : ∃ x : am_M, x = am_st m1 151 (am_up (m1 151) 4 (μ 151 4 + 1)) := ⟨_, rfl⟩
    have h := h m2 hm2
    refine s_putI dX5_add_29 flX5_24 kn151 kk151 rfl rfl (Or.inl rfl) hm2.symm ?_
    refine s_aload_n dX5_add_32 rfl rfl ?_
    refine s_getI (x := (μ 151 4 + 1)) dX5_add_33 flX5_24 kn151 kk151 rfl (by subst hm2; rfl) ?_
    exact s_ireturn dX5_add_36 (Or.inl rfl) ⟨⟨rfl, rfl⟩, _, rfl, h⟩
  · have h := h.2 cc
    refine s_bipush dX5_add_9 (by decide) ?_
    exact s_ireturn dX5_add_11 (Or.inl rfl) ⟨⟨rfl, rfl⟩, _, rfl, h⟩
theorem ve_X5_add {x1 : Int} {μ : am_M} {Q : Int → am_M → Prop} (h : at_I kC 1 mX5_add 0 [vR 151, vI x1] [] μ Q) : cl_I kC 1 mX5_add [vR 151, vI x1] μ Q := am_intro pmX5_add (Nat.le_of_ble_eq_true rfl) rfl h
/-- a character more -/
theorem sp_X5_add {μ : am_M} {c : Int} (h0 : in_ 0 61 (μ 151 4)) : cl_I kC 1 mX5_add [vR 151, vI c] μ (fun z m => (60 ≤ μ 151 4 ∧ z = -3 ∧ m = μ) ∨ (μ 151 4 < 60 ∧ z = μ 151 4 + 1 ∧ fr_ [151, 152] μ m ∧ m 151 = am_up (μ 151) 4 (μ 151 4 + 1) ∧ m 152 = am_up (μ 152) (μ 151 4).toNat c)) := by
  unfold in_ at h0
  refine ve_X5_add (vc_X5_add_0 ⟨fun q => ⟨(by (try unfold am_in); (try unfold in_ at *); omega), (by (try unfold am_in); (try unfold in_ at *); omega), fun m1 e1 => ⟨(by (try unfold am_in); (try unfold in_ at *); omega), fun m2 e2 => Or.inr ⟨q, rfl, ?_, ?_, ?_⟩⟩⟩, fun q => Or.inl ⟨q, rfl, rfl⟩⟩)
  · rw [e2, e1]; exact fr_tr (fr_st (by simp)) (fr_st (by simp))
  · rw [e2, st_s, e1, st_n (by decide)]
  · rw [e2, st_n (by decide), e1, st_s]

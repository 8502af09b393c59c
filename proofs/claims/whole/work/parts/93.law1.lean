/-! THE CLAIM OUT OF ONE WALK OF THE LAW'S BODY. Your part is whole_start (and what it stands on); all else here is the same for every law, but numbers. -/
def R_law : String := "PodcastEditorLaw"
def lw_P (b : Addr) (xs : List Int32) (args : Array Value) (s : State) : Prop := args = #[.ref b] ∧ s.IntsAt b xs ∧ xs.length ≤ 3072 ∧ (Jvm.Cond.and given_1 narrow_1).before args s = true
def lw_Q (_ : Array Value) (s : State) (o : Outcome) (t : State) : Prop := o = .returned (some (.int 1)) ∧ Framed s o t [] 600000 7302250
def lw_Z (below : List Frame) (a : Array Value) (s : State) : State → Prop := fun t => ∃ o, t.status = .running ∧ Ended t below o ∧ lw_Q a s o t
/-- the law's own end, with 1 on the stack, nothing written that was there before, its room as the claim has it -/
theorem lw_ret {p : Program} {l : Launch} {e : Env} {s : State} {m : MethodId} {below : List Frame} {meth : Method} {c : Code} {b : Nat} (hx : p.tables.exec = Jvm.exec) (hb : c.code = code) (hr : meth.sig.returnType = ret) (hlocks : meth.locks = false) {pc : Nat} {H : Heap} {ls : Array Slot} (hdg : decode code pc = .ok (.ireturn, 1)) : W p l e room_1 s m #[Value.ref b] below meth c H [] 600000 7302250 (lw_Z below #[Value.ref b] s) (F0 m pc ls [.int 1]) := by
  intro T hT X
  obtain ⟨fs, hret, hrun, hended, hW, hframe⟩ := X.leave (v := some (.int 1)) (hlocks := hlocks) (fun h => by rw [hr] at h; cases h)
  have hmeth' : T.vm.method? m = some meth := X.method'
  refine ⟨T.setFrames fs, ?_, .returned (some (.int 1)), hrun, hended, rfl, ⟨_, rfl⟩, hW, hframe⟩
  jvm_step X.here [X.here.top, hx, hb, hdg, hmeth', hr, ret, narrow_b1]
  (try refine ⟨rfl, ?_⟩); (try refine ⟨rfl, ?_⟩)
  first | (intro acts; rw [hret _ acts rfl rfl rfl]) | rw [hret _ _ rfl rfl rfl]
  exact Steps.refl _
/-- what holds at the law's entry: the machine, the code, the tables' words (any of lw_tbl by 'hts w (by decide +kernel)'), the script of L ints xs at the cell b, what the Statement gives of the start (any of its parts by flat_of_before) -/
def lw_At (p : Program) (s : State) (m : MethodId) (meth : Method) (c : Code) (b L : Nat) (xs : Nat → Int32) : Prop :=
  p.tables.exec = Jvm.exec ∧ c.code = code ∧ meth.sig.returnType = ret ∧ c.maxLocals = 4 ∧ s.vm.findClass R_law = some m.cls ∧ (∀ w ∈ lw_tbl, w.before #[Value.ref b] s = true) ∧ va_X b L xs s s.heap ∧ b < s.heap.size ∧ meth.locks = false ∧ (Jvm.Cond.and given_1 narrow_1).before #[Value.ref b] s = true

abbrev lw_A (s : State) : Nat → Prop := fun q => s.heap.size ≤ q
theorem am_gd_tbl {w : Cond} (h : w ∈ am_gd) : w ∈ lw_tbl := (List.mem_filter.mp h).1
theorem lw_ins : ∀ k, k < 11 → Cond.instantiable (am_rn k) (am_nf k) ∈ lw_tbl := by
  intro k h
  match k, h with
  | 0, _ => exact List.mem_of_getElem? (i := 97) (by decide +kernel)
  | 1, _ => exact List.mem_of_getElem? (i := 79) (by decide +kernel)
  | 2, _ => exact List.mem_of_getElem? (i := 156) (by decide +kernel)
  | 3, _ => exact List.mem_of_getElem? (i := 217) (by decide +kernel)
  | 4, _ => exact List.mem_of_getElem? (i := 73) (by decide +kernel)
  | 5, _ => exact List.mem_of_getElem? (i := 285) (by decide +kernel)
  | 6, _ => exact List.mem_of_getElem? (i := 260) (by decide +kernel)
  | 7, _ => exact List.mem_of_getElem? (i := 188) (by decide +kernel)
  | 8, _ => exact List.mem_of_getElem? (i := 318) (by decide +kernel)
  | 9, _ => exact List.mem_of_getElem? (i := 65) (by decide +kernel)
  | 10, _ => exact List.mem_of_getElem? (i := 1070) (by decide +kernel)
theorem lw_kn {s : State} {b : Nat} (hts : ∀ w ∈ lw_tbl, w.before #[Value.ref b] s = true) : ∃ D : va_G, ∀ (c : Nat) (q : vw_C), vwCl[c]? = some q → u_Kn s q.1 q.2.1 q.2.2 (D.1 c) (D.2 c) := by
  have h1 : ∀ k, ∃ y : ClassId × (Nat → Nat), k < 11 → u_Kn s (am_rn k) (am_tt k) (am_nf k) y.1 y.2 := fun k => by
    by_cases h : k < 11
    · obtain ⟨cC, iS, hh⟩ := u_known (C := am_rn k) (T := am_tt k) (N := am_nf k) (n := am_nf k) hts (fun w hw => am_gd_tbl (am_inws k h w hw)) (hts _ (lw_ins k h))
      exact ⟨(cC, iS), fun _ => hh⟩
    · exact ⟨(0, fun _ => 0), fun q => absurd q h⟩
  obtain ⟨f, hf⟩ := Classical.skolem.mp h1
  refine ⟨(fun k => (f k).1, fun k => (f k).2), fun c q hq => ?_⟩
  have hc : c < 11 := (List.getElem?_eq_some_iff.mp hq).1
  have e := (am_cl_at c hc).symm.trans hq
  cases e
  exact hf c hc
theorem lw_ty {s : State} {b : Nat} (hts : ∀ w ∈ lw_tbl, w.before #[Value.ref b] s = true) : ∃ cy : Nat → ClassId, ∀ (k : Nat) (q : ClassId × FieldType), ([(cy 11, .int), (cy 12, .boolean), (cy 13, .object RX4), (cy 14, .array .int)] : List (ClassId × FieldType))[k]? = some q → ArrOfT s q.1 q.2 ∧ va_RA s q.1 q.2 := by
  obtain ⟨cI, kI, pI, i1, i2, i3⟩ := Cond.arrayClass_spec (hts (.arrayClass .int) (List.mem_of_getElem? (i := 95) (by decide +kernel)))
  obtain ⟨cZ, kZ, pZ, z1, z2, z3⟩ := Cond.arrayClass_spec (hts (.arrayClass .boolean) (List.mem_of_getElem? (i := 1175) (by decide +kernel)))
  obtain ⟨pO, cO, kO, o1, -, o3, o4, o5⟩ := Cond.arrayOver_spec (n := RX4) (hts (.arrayOver (.object RX4)) (List.mem_of_getElem? (i := 162) (by decide +kernel)))
  obtain ⟨pA, cA, kA, a1, -, a3, a4, a5⟩ := am_AOA.spec (s := s) (show (Cond.arrayOver (.array .int)).before #[] s = true from hts (.arrayOver (.array .int)) (List.mem_of_getElem? (i := 194) (by decide +kernel)))
  refine ⟨fun i => if i = 11 then cI else if i = 12 then cZ else if i = 13 then cO else cA, fun k q hq => ?_⟩
  match k, hq with
  | 0, hq => cases hq; exact ⟨fun n z => ⟨fun q h => (by cases h), kI, i2, pI, i3⟩, i1⟩
  | 1, hq => cases hq; exact ⟨fun n z => ⟨fun q h => (by cases h), kZ, z2, pZ, z3⟩, z1⟩
  | 2, hq => cases hq; exact ⟨fun n z => ⟨fun q h => (by cases h), kO, o3, pO, o4⟩, kO, pO, o3, o4, o1, o5⟩
  | 3, hq => cases hq; exact ⟨fun n z => ⟨fun q h => (by cases h), kA, a3, pA, a4⟩, a5⟩
  | k + 4, hq => simp at hq
theorem lw_st0 {s : State} {b : Nat} (hts : ∀ w ∈ lw_tbl, w.before #[Value.ref b] s = true) (hgv : (Jvm.Cond.and given_1 narrow_1).before #[Value.ref b] s = true) : ∃ a : Nat, va_Z RX9 (am_sn 0) "[I" (.ref a) (lw_A s) s s.heap ∧ va_T .int a (am_sv 0).length (fun j => .int (Int32.ofInt ((am_sv 0).getD j 0))) (lw_A s) s s.heap := by
  have hs := flat_of_before _ hgv
  have hA : ∀ a : Nat, a < s.heap.size → ¬ lw_A s a := fun a h q => Nat.lt_irrefl _ (Nat.lt_of_lt_of_le h q)
  obtain ⟨a, h1, h2⟩ := va_Tof (tm := .static RX9 (am_sn 0) "[I") (ty := .int) (N := 5) (f := fun j => .int (Int32.ofInt ((am_sv 0).getD j 0))) (A := lw_A s) (by decide) (hs (.arrayOf (.static "PodcastEditor" "SETTING_AT_FIRST" "[I") .int) (by decide +kernel)) (va_eqt (hs (.eq (.length (.static "PodcastEditor" "SETTING_AT_FIRST" "[I")) (.int 5)) (by decide +kernel))) (fun j hj => by
    match j, hj with
    | 0, _ => exact va_eqt (z := Int32.ofInt ((am_sv 0).getD 0 0)) (hs (.eq (.elem (.static "PodcastEditor" "SETTING_AT_FIRST" "[I") (.int 0)) (.int 100)) (by decide +kernel))
    | 1, _ => exact va_eqt (z := Int32.ofInt ((am_sv 0).getD 1 0)) (hs (.eq (.elem (.static "PodcastEditor" "SETTING_AT_FIRST" "[I") (.int 1)) (.int 10)) (by decide +kernel))
    | 2, _ => exact va_eqt (z := Int32.ofInt ((am_sv 0).getD 2 0)) (hs (.eq (.elem (.static "PodcastEditor" "SETTING_AT_FIRST" "[I") (.int 2)) (.int 10)) (by decide +kernel))
    | 3, _ => exact va_eqt (z := Int32.ofInt ((am_sv 0).getD 3 0)) (hs (.eq (.elem (.static "PodcastEditor" "SETTING_AT_FIRST" "[I") (.int 3)) (.int 25)) (by decide +kernel))
    | 4, _ => exact va_eqt (z := Int32.ofInt ((am_sv 0).getD 4 0)) (hs (.eq (.elem (.static "PodcastEditor" "SETTING_AT_FIRST" "[I") (.int 4)) (.int 0)) (by decide +kernel))
    | k + 5, h => exact absurd h (by omega)) hA
  exact ⟨a, va_Zref (hts (.laysStatic RX9 (am_sn 0) "[I") (List.mem_of_getElem? (i := 119) (by decide +kernel))) (hts (.initialized RX9) (List.mem_of_getElem? (i := 50) (by decide +kernel))) h1 hA, h2⟩
theorem lw_st1 {s : State} {b : Nat} (hts : ∀ w ∈ lw_tbl, w.before #[Value.ref b] s = true) (hgv : (Jvm.Cond.and given_1 narrow_1).before #[Value.ref b] s = true) : ∃ a : Nat, va_Z RX9 (am_sn 1) "[I" (.ref a) (lw_A s) s s.heap ∧ va_T .int a (am_sv 1).length (fun j => .int (Int32.ofInt ((am_sv 1).getD j 0))) (lw_A s) s s.heap := by
  have hs := flat_of_before _ hgv
  have hA : ∀ a : Nat, a < s.heap.size → ¬ lw_A s a := fun a h q => Nat.lt_irrefl _ (Nat.lt_of_lt_of_le h q)
  obtain ⟨a, h1, h2⟩ := va_Tof (tm := .static RX9 (am_sn 1) "[I") (ty := .int) (N := 5) (f := fun j => .int (Int32.ofInt ((am_sv 1).getD j 0))) (A := lw_A s) (by decide) (hs (.arrayOf (.static "PodcastEditor" "SETTING_LEAST" "[I") .int) (by decide +kernel)) (va_eqt (hs (.eq (.length (.static "PodcastEditor" "SETTING_LEAST" "[I")) (.int 5)) (by decide +kernel))) (fun j hj => by
    match j, hj with
    | 0, _ => exact va_eqt (z := Int32.ofInt ((am_sv 1).getD 0 0)) (hs (.eq (.elem (.static "PodcastEditor" "SETTING_LEAST" "[I") (.int 0)) (.int 0)) (by decide +kernel))
    | 1, _ => exact va_eqt (z := Int32.ofInt ((am_sv 1).getD 1 0)) (hs (.eq (.elem (.static "PodcastEditor" "SETTING_LEAST" "[I") (.int 1)) (.int 4)) (by decide +kernel))
    | 2, _ => exact va_eqt (z := Int32.ofInt ((am_sv 1).getD 2 0)) (hs (.eq (.elem (.static "PodcastEditor" "SETTING_LEAST" "[I") (.int 2)) (.int 0)) (by decide +kernel))
    | 3, _ => exact va_eqt (z := Int32.ofInt ((am_sv 1).getD 3 0)) (hs (.eq (.elem (.static "PodcastEditor" "SETTING_LEAST" "[I") (.int 3)) (.int 0)) (by decide +kernel))
    | 4, _ => exact va_eqt (z := Int32.ofInt ((am_sv 1).getD 4 0)) (hs (.eq (.elem (.static "PodcastEditor" "SETTING_LEAST" "[I") (.int 4)) (.int 0)) (by decide +kernel))
    | k + 5, h => exact absurd h (by omega)) hA
  exact ⟨a, va_Zref (hts (.laysStatic RX9 (am_sn 1) "[I") (List.mem_of_getElem? (i := 514) (by decide +kernel))) (hts (.initialized RX9) (List.mem_of_getElem? (i := 50) (by decide +kernel))) h1 hA, h2⟩
theorem lw_st2 {s : State} {b : Nat} (hts : ∀ w ∈ lw_tbl, w.before #[Value.ref b] s = true) (hgv : (Jvm.Cond.and given_1 narrow_1).before #[Value.ref b] s = true) : ∃ a : Nat, va_Z RX9 (am_sn 2) "[I" (.ref a) (lw_A s) s s.heap ∧ va_T .int a (am_sv 2).length (fun j => .int (Int32.ofInt ((am_sv 2).getD j 0))) (lw_A s) s s.heap := by
  have hs := flat_of_before _ hgv
  have hA : ∀ a : Nat, a < s.heap.size → ¬ lw_A s a := fun a h q => Nat.lt_irrefl _ (Nat.lt_of_lt_of_le h q)
  obtain ⟨a, h1, h2⟩ := va_Tof (tm := .static RX9 (am_sn 2) "[I") (ty := .int) (N := 5) (f := fun j => .int (Int32.ofInt ((am_sv 2).getD j 0))) (A := lw_A s) (by decide) (hs (.arrayOf (.static "PodcastEditor" "SETTING_MOST" "[I") .int) (by decide +kernel)) (va_eqt (hs (.eq (.length (.static "PodcastEditor" "SETTING_MOST" "[I")) (.int 5)) (by decide +kernel))) (fun j hj => by
    match j, hj with
    | 0, _ => exact va_eqt (z := Int32.ofInt ((am_sv 2).getD 0 0)) (hs (.eq (.elem (.static "PodcastEditor" "SETTING_MOST" "[I") (.int 0)) (.int 400)) (by decide +kernel))
    | 1, _ => exact va_eqt (z := Int32.ofInt ((am_sv 2).getD 1 0)) (hs (.eq (.elem (.static "PodcastEditor" "SETTING_MOST" "[I") (.int 1)) (.int 50)) (by decide +kernel))
    | 2, _ => exact va_eqt (z := Int32.ofInt ((am_sv 2).getD 2 0)) (hs (.eq (.elem (.static "PodcastEditor" "SETTING_MOST" "[I") (.int 2)) (.int 999)) (by decide +kernel))
    | 3, _ => exact va_eqt (z := Int32.ofInt ((am_sv 2).getD 3 0)) (hs (.eq (.elem (.static "PodcastEditor" "SETTING_MOST" "[I") (.int 3)) (.int 100)) (by decide +kernel))
    | 4, _ => exact va_eqt (z := Int32.ofInt ((am_sv 2).getD 4 0)) (hs (.eq (.elem (.static "PodcastEditor" "SETTING_MOST" "[I") (.int 4)) (.int 2)) (by decide +kernel))
    | k + 5, h => exact absurd h (by omega)) hA
  exact ⟨a, va_Zref (hts (.laysStatic RX9 (am_sn 2) "[I") (List.mem_of_getElem? (i := 516) (by decide +kernel))) (hts (.initialized RX9) (List.mem_of_getElem? (i := 50) (by decide +kernel))) h1 hA, h2⟩
theorem lw_st3 {s : State} {b : Nat} (hts : ∀ w ∈ lw_tbl, w.before #[Value.ref b] s = true) (hgv : (Jvm.Cond.and given_1 narrow_1).before #[Value.ref b] s = true) : ∃ a : Nat, va_Z RX9 (am_sn 3) "[I" (.ref a) (lw_A s) s s.heap ∧ va_T .int a (am_sv 3).length (fun j => .int (Int32.ofInt ((am_sv 3).getD j 0))) (lw_A s) s s.heap := by
  have hs := flat_of_before _ hgv
  have hA : ∀ a : Nat, a < s.heap.size → ¬ lw_A s a := fun a h q => Nat.lt_irrefl _ (Nat.lt_of_lt_of_le h q)
  obtain ⟨a, h1, h2⟩ := va_Tof (tm := .static RX9 (am_sn 3) "[I") (ty := .int) (N := 7) (f := fun j => .int (Int32.ofInt ((am_sv 3).getD j 0))) (A := lw_A s) (by decide) (hs (.arrayOf (.static "PodcastEditor" "TRACK_AT_FIRST" "[I") .int) (by decide +kernel)) (va_eqt (hs (.eq (.length (.static "PodcastEditor" "TRACK_AT_FIRST" "[I")) (.int 7)) (by decide +kernel))) (fun j hj => by
    match j, hj with
    | 0, _ => exact va_eqt (z := Int32.ofInt ((am_sv 3).getD 0 0)) (hs (.eq (.elem (.static "PodcastEditor" "TRACK_AT_FIRST" "[I") (.int 0)) (.int 100)) (by decide +kernel))
    | 1, _ => exact va_eqt (z := Int32.ofInt ((am_sv 3).getD 1 0)) (hs (.eq (.elem (.static "PodcastEditor" "TRACK_AT_FIRST" "[I") (.int 1)) (.int 0)) (by decide +kernel))
    | 2, _ => exact va_eqt (z := Int32.ofInt ((am_sv 3).getD 2 0)) (hs (.eq (.elem (.static "PodcastEditor" "TRACK_AT_FIRST" "[I") (.int 2)) (.int 0)) (by decide +kernel))
    | 3, _ => exact va_eqt (z := Int32.ofInt ((am_sv 3).getD 3 0)) (hs (.eq (.elem (.static "PodcastEditor" "TRACK_AT_FIRST" "[I") (.int 3)) (.int (-1))) (by decide +kernel))
    | 4, _ => exact va_eqt (z := Int32.ofInt ((am_sv 3).getD 4 0)) (hs (.eq (.elem (.static "PodcastEditor" "TRACK_AT_FIRST" "[I") (.int 4)) (.int 100)) (by decide +kernel))
    | 5, _ => exact va_eqt (z := Int32.ofInt ((am_sv 3).getD 5 0)) (hs (.eq (.elem (.static "PodcastEditor" "TRACK_AT_FIRST" "[I") (.int 5)) (.int 50)) (by decide +kernel))
    | 6, _ => exact va_eqt (z := Int32.ofInt ((am_sv 3).getD 6 0)) (hs (.eq (.elem (.static "PodcastEditor" "TRACK_AT_FIRST" "[I") (.int 6)) (.int 5)) (by decide +kernel))
    | k + 7, h => exact absurd h (by omega)) hA
  exact ⟨a, va_Zref (hts (.laysStatic RX9 (am_sn 3) "[I") (List.mem_of_getElem? (i := 124) (by decide +kernel))) (hts (.initialized RX9) (List.mem_of_getElem? (i := 50) (by decide +kernel))) h1 hA, h2⟩
theorem lw_st4 {s : State} {b : Nat} (hts : ∀ w ∈ lw_tbl, w.before #[Value.ref b] s = true) (hgv : (Jvm.Cond.and given_1 narrow_1).before #[Value.ref b] s = true) : ∃ a : Nat, va_Z RX9 (am_sn 4) "[I" (.ref a) (lw_A s) s s.heap ∧ va_T .int a (am_sv 4).length (fun j => .int (Int32.ofInt ((am_sv 4).getD j 0))) (lw_A s) s s.heap := by
  have hs := flat_of_before _ hgv
  have hA : ∀ a : Nat, a < s.heap.size → ¬ lw_A s a := fun a h q => Nat.lt_irrefl _ (Nat.lt_of_lt_of_le h q)
  obtain ⟨a, h1, h2⟩ := va_Tof (tm := .static RX9 (am_sn 4) "[I") (ty := .int) (N := 7) (f := fun j => .int (Int32.ofInt ((am_sv 4).getD j 0))) (A := lw_A s) (by decide) (hs (.arrayOf (.static "PodcastEditor" "TRACK_LEAST" "[I") .int) (by decide +kernel)) (va_eqt (hs (.eq (.length (.static "PodcastEditor" "TRACK_LEAST" "[I")) (.int 7)) (by decide +kernel))) (fun j hj => by
    match j, hj with
    | 0, _ => exact va_eqt (z := Int32.ofInt ((am_sv 4).getD 0 0)) (hs (.eq (.elem (.static "PodcastEditor" "TRACK_LEAST" "[I") (.int 0)) (.int 0)) (by decide +kernel))
    | 1, _ => exact va_eqt (z := Int32.ofInt ((am_sv 4).getD 1 0)) (hs (.eq (.elem (.static "PodcastEditor" "TRACK_LEAST" "[I") (.int 1)) (.int 0)) (by decide +kernel))
    | 2, _ => exact va_eqt (z := Int32.ofInt ((am_sv 4).getD 2 0)) (hs (.eq (.elem (.static "PodcastEditor" "TRACK_LEAST" "[I") (.int 2)) (.int 0)) (by decide +kernel))
    | 3, _ => exact va_eqt (z := Int32.ofInt ((am_sv 4).getD 3 0)) (hs (.eq (.elem (.static "PodcastEditor" "TRACK_LEAST" "[I") (.int 3)) (.int (-1))) (by decide +kernel))
    | 4, _ => exact va_eqt (z := Int32.ofInt ((am_sv 4).getD 4 0)) (hs (.eq (.elem (.static "PodcastEditor" "TRACK_LEAST" "[I") (.int 4)) (.int 0)) (by decide +kernel))
    | 5, _ => exact va_eqt (z := Int32.ofInt ((am_sv 4).getD 5 0)) (hs (.eq (.elem (.static "PodcastEditor" "TRACK_LEAST" "[I") (.int 5)) (.int 0)) (by decide +kernel))
    | 6, _ => exact va_eqt (z := Int32.ofInt ((am_sv 4).getD 6 0)) (hs (.eq (.elem (.static "PodcastEditor" "TRACK_LEAST" "[I") (.int 6)) (.int 0)) (by decide +kernel))
    | k + 7, h => exact absurd h (by omega)) hA
  exact ⟨a, va_Zref (hts (.laysStatic RX9 (am_sn 4) "[I") (List.mem_of_getElem? (i := 527) (by decide +kernel))) (hts (.initialized RX9) (List.mem_of_getElem? (i := 50) (by decide +kernel))) h1 hA, h2⟩
theorem lw_st5 {s : State} {b : Nat} (hts : ∀ w ∈ lw_tbl, w.before #[Value.ref b] s = true) (hgv : (Jvm.Cond.and given_1 narrow_1).before #[Value.ref b] s = true) : ∃ a : Nat, va_Z RX9 (am_sn 5) "[I" (.ref a) (lw_A s) s s.heap ∧ va_T .int a (am_sv 5).length (fun j => .int (Int32.ofInt ((am_sv 5).getD j 0))) (lw_A s) s s.heap := by
  have hs := flat_of_before _ hgv
  have hA : ∀ a : Nat, a < s.heap.size → ¬ lw_A s a := fun a h q => Nat.lt_irrefl _ (Nat.lt_of_lt_of_le h q)
  obtain ⟨a, h1, h2⟩ := va_Tof (tm := .static RX9 (am_sn 5) "[I") (ty := .int) (N := 7) (f := fun j => .int (Int32.ofInt ((am_sv 5).getD j 0))) (A := lw_A s) (by decide) (hs (.arrayOf (.static "PodcastEditor" "TRACK_MOST" "[I") .int) (by decide +kernel)) (va_eqt (hs (.eq (.length (.static "PodcastEditor" "TRACK_MOST" "[I")) (.int 7)) (by decide +kernel))) (fun j hj => by
    match j, hj with
    | 0, _ => exact va_eqt (z := Int32.ofInt ((am_sv 5).getD 0 0)) (hs (.eq (.elem (.static "PodcastEditor" "TRACK_MOST" "[I") (.int 0)) (.int 200)) (by decide +kernel))
    | 1, _ => exact va_eqt (z := Int32.ofInt ((am_sv 5).getD 1 0)) (hs (.eq (.elem (.static "PodcastEditor" "TRACK_MOST" "[I") (.int 1)) (.int 1)) (by decide +kernel))
    | 2, _ => exact va_eqt (z := Int32.ofInt ((am_sv 5).getD 2 0)) (hs (.eq (.elem (.static "PodcastEditor" "TRACK_MOST" "[I") (.int 2)) (.int 1)) (by decide +kernel))
    | 3, _ => exact va_eqt (z := Int32.ofInt ((am_sv 5).getD 3 0)) (hs (.eq (.elem (.static "PodcastEditor" "TRACK_MOST" "[I") (.int 3)) (.int 3)) (by decide +kernel))
    | 4, _ => exact va_eqt (z := Int32.ofInt ((am_sv 5).getD 4 0)) (hs (.eq (.elem (.static "PodcastEditor" "TRACK_MOST" "[I") (.int 4)) (.int 999)) (by decide +kernel))
    | 5, _ => exact va_eqt (z := Int32.ofInt ((am_sv 5).getD 5 0)) (hs (.eq (.elem (.static "PodcastEditor" "TRACK_MOST" "[I") (.int 5)) (.int 100)) (by decide +kernel))
    | 6, _ => exact va_eqt (z := Int32.ofInt ((am_sv 5).getD 6 0)) (hs (.eq (.elem (.static "PodcastEditor" "TRACK_MOST" "[I") (.int 6)) (.int 20)) (by decide +kernel))
    | k + 7, h => exact absurd h (by omega)) hA
  exact ⟨a, va_Zref (hts (.laysStatic RX9 (am_sn 5) "[I") (List.mem_of_getElem? (i := 529) (by decide +kernel))) (hts (.initialized RX9) (List.mem_of_getElem? (i := 50) (by decide +kernel))) h1 hA, h2⟩
theorem lw_st6 {s : State} {b : Nat} (hts : ∀ w ∈ lw_tbl, w.before #[Value.ref b] s = true) (hgv : (Jvm.Cond.and given_1 narrow_1).before #[Value.ref b] s = true) : ∃ a : Nat, va_Z RX9 (am_sn 6) "[I" (.ref a) (lw_A s) s s.heap ∧ va_T .int a (am_sv 6).length (fun j => .int (Int32.ofInt ((am_sv 6).getD j 0))) (lw_A s) s s.heap := by
  have hs := flat_of_before _ hgv
  have hA : ∀ a : Nat, a < s.heap.size → ¬ lw_A s a := fun a h q => Nat.lt_irrefl _ (Nat.lt_of_lt_of_le h q)
  obtain ⟨a, h1, h2⟩ := va_Tof (tm := .static RX9 (am_sn 6) "[I") (ty := .int) (N := 4) (f := fun j => .int (Int32.ofInt ((am_sv 6).getD j 0))) (A := lw_A s) (by decide) (hs (.arrayOf (.static "PodcastEditor" "B_LEAST" "[I") .int) (by decide +kernel)) (va_eqt (hs (.eq (.length (.static "PodcastEditor" "B_LEAST" "[I")) (.int 4)) (by decide +kernel))) (fun j hj => by
    match j, hj with
    | 0, _ => exact va_eqt (z := Int32.ofInt ((am_sv 6).getD 0 0)) (hs (.eq (.elem (.static "PodcastEditor" "B_LEAST" "[I") (.int 0)) (.int 0)) (by decide +kernel))
    | 1, _ => exact va_eqt (z := Int32.ofInt ((am_sv 6).getD 1 0)) (hs (.eq (.elem (.static "PodcastEditor" "B_LEAST" "[I") (.int 1)) (.int 0)) (by decide +kernel))
    | 2, _ => exact va_eqt (z := Int32.ofInt ((am_sv 6).getD 2 0)) (hs (.eq (.elem (.static "PodcastEditor" "B_LEAST" "[I") (.int 2)) (.int 1)) (by decide +kernel))
    | 3, _ => exact va_eqt (z := Int32.ofInt ((am_sv 6).getD 3 0)) (hs (.eq (.elem (.static "PodcastEditor" "B_LEAST" "[I") (.int 3)) (.int 0)) (by decide +kernel))
    | k + 4, h => exact absurd h (by omega)) hA
  exact ⟨a, va_Zref (hts (.laysStatic RX9 (am_sn 6) "[I") (List.mem_of_getElem? (i := 378) (by decide +kernel))) (hts (.initialized RX9) (List.mem_of_getElem? (i := 50) (by decide +kernel))) h1 hA, h2⟩
theorem lw_st7 {s : State} {b : Nat} (hts : ∀ w ∈ lw_tbl, w.before #[Value.ref b] s = true) (hgv : (Jvm.Cond.and given_1 narrow_1).before #[Value.ref b] s = true) : ∃ a : Nat, va_Z RX9 (am_sn 7) "[I" (.ref a) (lw_A s) s s.heap ∧ va_T .int a (am_sv 7).length (fun j => .int (Int32.ofInt ((am_sv 7).getD j 0))) (lw_A s) s s.heap := by
  have hs := flat_of_before _ hgv
  have hA : ∀ a : Nat, a < s.heap.size → ¬ lw_A s a := fun a h q => Nat.lt_irrefl _ (Nat.lt_of_lt_of_le h q)
  obtain ⟨a, h1, h2⟩ := va_Tof (tm := .static RX9 (am_sn 7) "[I") (ty := .int) (N := 4) (f := fun j => .int (Int32.ofInt ((am_sv 7).getD j 0))) (A := lw_A s) (by decide) (hs (.arrayOf (.static "PodcastEditor" "B_MOST" "[I") .int) (by decide +kernel)) (va_eqt (hs (.eq (.length (.static "PodcastEditor" "B_MOST" "[I")) (.int 4)) (by decide +kernel))) (fun j hj => by
    match j, hj with
    | 0, _ => exact va_eqt (z := Int32.ofInt ((am_sv 7).getD 0 0)) (hs (.eq (.elem (.static "PodcastEditor" "B_MOST" "[I") (.int 0)) (.int 0)) (by decide +kernel))
    | 1, _ => exact va_eqt (z := Int32.ofInt ((am_sv 7).getD 1 0)) (hs (.eq (.elem (.static "PodcastEditor" "B_MOST" "[I") (.int 1)) (.int 999)) (by decide +kernel))
    | 2, _ => exact va_eqt (z := Int32.ofInt ((am_sv 7).getD 2 0)) (hs (.eq (.elem (.static "PodcastEditor" "B_MOST" "[I") (.int 2)) (.int 99)) (by decide +kernel))
    | 3, _ => exact va_eqt (z := Int32.ofInt ((am_sv 7).getD 3 0)) (hs (.eq (.elem (.static "PodcastEditor" "B_MOST" "[I") (.int 3)) (.int 999)) (by decide +kernel))
    | k + 4, h => exact absurd h (by omega)) hA
  exact ⟨a, va_Zref (hts (.laysStatic RX9 (am_sn 7) "[I") (List.mem_of_getElem? (i := 380) (by decide +kernel))) (hts (.initialized RX9) (List.mem_of_getElem? (i := 50) (by decide +kernel))) h1 hA, h2⟩
theorem lw_F0 {s : State} {b : Nat} (hts : ∀ w ∈ lw_tbl, w.before #[Value.ref b] s = true) (hgv : (Jvm.Cond.and given_1 narrow_1).before #[Value.ref b] s = true) : ∃ (D : va_G) (cy : Nat → ClassId) (st : Nat → Nat), ∀ lo cap : Nat, s.heap.size ≤ lo → am_F ((lo, cap, st), D, cy) s := by
  obtain ⟨D, hD⟩ := lw_kn hts
  obtain ⟨cy, hcy⟩ := lw_ty hts
  have h1 : ∀ t, ∃ a : Nat, t < 8 → va_Z RX9 (am_sn t) "[I" (.ref a) (lw_A s) s s.heap ∧ va_T .int a (am_sv t).length (fun j => .int (Int32.ofInt ((am_sv t).getD j 0))) (lw_A s) s s.heap := fun t => by
    match t with
    | 0 => obtain ⟨a, h⟩ := lw_st0 hts hgv; exact ⟨a, fun _ => h⟩
    | 1 => obtain ⟨a, h⟩ := lw_st1 hts hgv; exact ⟨a, fun _ => h⟩
    | 2 => obtain ⟨a, h⟩ := lw_st2 hts hgv; exact ⟨a, fun _ => h⟩
    | 3 => obtain ⟨a, h⟩ := lw_st3 hts hgv; exact ⟨a, fun _ => h⟩
    | 4 => obtain ⟨a, h⟩ := lw_st4 hts hgv; exact ⟨a, fun _ => h⟩
    | 5 => obtain ⟨a, h⟩ := lw_st5 hts hgv; exact ⟨a, fun _ => h⟩
    | 6 => obtain ⟨a, h⟩ := lw_st6 hts hgv; exact ⟨a, fun _ => h⟩
    | 7 => obtain ⟨a, h⟩ := lw_st7 hts hgv; exact ⟨a, fun _ => h⟩
    | k + 8 => exact ⟨0, fun h => absurd h (by omega)⟩
  obtain ⟨st, hst⟩ := Classical.skolem.mp h1
  refine ⟨D, cy, st, fun lo cap hlo => ⟨⟨hD, hcy⟩, fun w hw hn => ?_, fun i hi => ⟨((hst i hi).1).narrow (fun q h => Nat.le_trans hlo h.1), ((hst i hi).2).narrow (fun q h => Nat.le_trans hlo h.1)⟩, hts (.arrayOver (.object RX4)) (List.mem_of_getElem? (i := 162) (by decide +kernel)), hts (.arrayOver (.array .int)) (List.mem_of_getElem? (i := 194) (by decide +kernel))⟩⟩
  have h := hts w hw
  cases w <;> first | (exact va_Nw.of rfl h) | (cases hn; done)

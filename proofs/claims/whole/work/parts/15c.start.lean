/-! the start: what the Statement gives -/
theorem xselP {C : String} {y : MethodName} {s : State} {args : Array Value} {n n2 : Nat} (hy : y.cls ≠ "java/lang/invoke/MethodHandle" ∧ y.cls ≠ "java/lang/invoke/VarHandle") (hins : (Cond.instantiable C n).before args s = true) (hins2 : (Cond.instantiable y.cls n2).before args s = true) (hpriv : (Cond.privateMethod y).before args s = true) (hinst : (Cond.instanceMethod y).before args s = true) : (Cond.selects C y y).before args s = true := by
  obtain ⟨c, k, hc, hk, -, hniab, -, -⟩ := Cond.instantiable_spec hins
  obtain ⟨c2, k2, hc2, hk2, -, hniab2, -, -⟩ := Cond.instantiable_spec hins2
  have hni2 : k2.isInterface = false := (Bool.or_eq_false_iff.mp hniab2).1
  obtain ⟨mk, methM, hnamed, hmethM, -, -⟩ := Cond.instanceMethod_spec hinst
  have hfound : s.methodFound? y.cls y.name y.desc = some mk := State.methodFound?_of_named hnamed hy
  have hcls : mk.cls = c2 := Option.some.inj ((findClass_of_methodNamed hnamed).symm.trans hc2)
  have hsel : selectMethod {} s.vm c mk = .method mk := selectMethod_private hmethM (Cond.privateMethod_at hpriv mk methM hnamed hmethM)
  simp only [Cond.before, Cond.holds, Cond.value, hc, hfound, hnamed, hsel, hcls, hk, hk2]
  simp; exact hni2
theorem xtb {w : Cond} (i : Nat) (h : (match lw_tbl[i]? with | some v => decide (v = w) | none => false) = true) : w ∈ lw_tbl := by
  cases hv : lw_tbl[i]? with
  | none => rw [hv] at h; cases h
  | some v =>
    rw [hv] at h
    simp only [decide_eq_true_eq] at h
    rw [← h]
    exact List.mem_of_getElem? hv
set_option maxRecDepth 100000 in
theorem xws_all {args : Array Value} {s : State} (hts : ∀ w ∈ lw_tbl, w.before args s = true) : ∀ w ∈ xws, w.before args s = true := by
  intro w hw
  rcases List.mem_append.mp (List.mem_filter.mp hw).1 with h | h
  · rcases List.mem_cons.mp h with rfl | h
    · exact xselP (by decide +kernel) (hts (.instantiable RX7 4) (xtb 621 (by decide +kernel))) (hts (.instantiable RX8 4) (xtb 504 (by decide +kernel))) (hts (.privateMethod yX8_holds) (xtb 722 (by decide +kernel))) (hts (.instanceMethod yX8_holds) (xtb 723 (by decide +kernel)))
    · rcases List.mem_cons.mp h with rfl | h
      · exact xselP (by decide +kernel) (hts (.instantiable RX7 4) (xtb 621 (by decide +kernel))) (hts (.instantiable RX8 4) (xtb 504 (by decide +kernel))) (hts (.privateMethod yX8_squareShare) (xtb 769 (by decide +kernel))) (hts (.instanceMethod yX8_squareShare) (xtb 770 (by decide +kernel)))
      · exact absurd h List.not_mem_nil
  · exact hts w h
set_option maxRecDepth 100000 in
theorem xst_0 {args : Array Value} {s : State} (hts : ∀ w ∈ lw_tbl, w.before args s = true) (hgv : ∀ c ∈ flatC (Jvm.Cond.and given_1 narrow_1), c.before args s = true) {A : Nat → Prop} (hA : ∀ a : Nat, a < s.heap.size → ¬ A a) : ∃ t : Nat, va_Z "NeverBelow" (xsn 0) "[I" (.ref t) A s s.heap ∧ va_T .int t (xsv 0).length (fun j => .int ((xsv 0).getD j 0)) A s s.heap := by
  obtain ⟨t, h1, h2⟩ := va_Tof (tm := (.static "NeverBelow" "OWN_CORNERS" "[I")) (ty := .int) (N := 4) (f := fun j => .int ((xsv 0).getD j 0)) (by decide) (hgv (.arrayOf (.static "NeverBelow" "OWN_CORNERS" "[I") .int) (by decide +kernel)) (va_eqt (hgv (.eq (.length (.static "NeverBelow" "OWN_CORNERS" "[I")) (.int 4)) (by decide +kernel))) (fun j hj => by
    rcases (show j = 0 ∨ j = 1 ∨ j = 2 ∨ j = 3 by omega) with rfl | rfl | rfl | rfl
    · exact va_eqt (hgv (.eq (.elem (.static "NeverBelow" "OWN_CORNERS" "[I") (.int 0)) (.int (0))) (by decide +kernel))
    · exact va_eqt (hgv (.eq (.elem (.static "NeverBelow" "OWN_CORNERS" "[I") (.int 1)) (.int (2))) (by decide +kernel))
    · exact va_eqt (hgv (.eq (.elem (.static "NeverBelow" "OWN_CORNERS" "[I") (.int 2)) (.int (6))) (by decide +kernel))
    · exact va_eqt (hgv (.eq (.elem (.static "NeverBelow" "OWN_CORNERS" "[I") (.int 3)) (.int (8))) (by decide +kernel))) hA
  exact ⟨t, va_Zref (hts (.laysStatic "NeverBelow" "OWN_CORNERS" "[I") (xtb 421 (by decide +kernel))) (hts (.initialized "NeverBelow") (xtb 52 (by decide +kernel))) h1 hA, h2⟩
set_option maxRecDepth 100000 in
theorem xst_1 {args : Array Value} {s : State} (hts : ∀ w ∈ lw_tbl, w.before args s = true) (hgv : ∀ c ∈ flatC (Jvm.Cond.and given_1 narrow_1), c.before args s = true) {A : Nat → Prop} (hA : ∀ a : Nat, a < s.heap.size → ¬ A a) : ∃ t : Nat, va_Z "NeverBelow" (xsn 1) "[I" (.ref t) A s s.heap ∧ va_T .int t (xsv 1).length (fun j => .int ((xsv 1).getD j 0)) A s s.heap := by
  obtain ⟨t, h1, h2⟩ := va_Tof (tm := (.static "NeverBelow" "TERM_OF_FORM" "[I")) (ty := .int) (N := 9) (f := fun j => .int ((xsv 1).getD j 0)) (by decide) (hgv (.arrayOf (.static "NeverBelow" "TERM_OF_FORM" "[I") .int) (by decide +kernel)) (va_eqt (hgv (.eq (.length (.static "NeverBelow" "TERM_OF_FORM" "[I")) (.int 9)) (by decide +kernel))) (fun j hj => by
    rcases (show j = 0 ∨ j = 1 ∨ j = 2 ∨ j = 3 ∨ j = 4 ∨ j = 5 ∨ j = 6 ∨ j = 7 ∨ j = 8 by omega) with rfl | rfl | rfl | rfl | rfl | rfl | rfl | rfl | rfl
    · exact va_eqt (hgv (.eq (.elem (.static "NeverBelow" "TERM_OF_FORM" "[I") (.int 0)) (.int (6))) (by decide +kernel))
    · exact va_eqt (hgv (.eq (.elem (.static "NeverBelow" "TERM_OF_FORM" "[I") (.int 1)) (.int (4))) (by decide +kernel))
    · exact va_eqt (hgv (.eq (.elem (.static "NeverBelow" "TERM_OF_FORM" "[I") (.int 2)) (.int (3))) (by decide +kernel))
    · exact va_eqt (hgv (.eq (.elem (.static "NeverBelow" "TERM_OF_FORM" "[I") (.int 3)) (.int (4))) (by decide +kernel))
    · exact va_eqt (hgv (.eq (.elem (.static "NeverBelow" "TERM_OF_FORM" "[I") (.int 4)) (.int (2))) (by decide +kernel))
    · exact va_eqt (hgv (.eq (.elem (.static "NeverBelow" "TERM_OF_FORM" "[I") (.int 5)) (.int (1))) (by decide +kernel))
    · exact va_eqt (hgv (.eq (.elem (.static "NeverBelow" "TERM_OF_FORM" "[I") (.int 6)) (.int (3))) (by decide +kernel))
    · exact va_eqt (hgv (.eq (.elem (.static "NeverBelow" "TERM_OF_FORM" "[I") (.int 7)) (.int (1))) (by decide +kernel))
    · exact va_eqt (hgv (.eq (.elem (.static "NeverBelow" "TERM_OF_FORM" "[I") (.int 8)) (.int (0))) (by decide +kernel))) hA
  exact ⟨t, va_Zref (hts (.laysStatic "NeverBelow" "TERM_OF_FORM" "[I") (xtb 472 (by decide +kernel))) (hts (.initialized "NeverBelow") (xtb 52 (by decide +kernel))) h1 hA, h2⟩
set_option maxRecDepth 100000 in
theorem xst_2 {args : Array Value} {s : State} (hts : ∀ w ∈ lw_tbl, w.before args s = true) (hgv : ∀ c ∈ flatC (Jvm.Cond.and given_1 narrow_1), c.before args s = true) {A : Nat → Prop} (hA : ∀ a : Nat, a < s.heap.size → ¬ A a) : ∃ t : Nat, va_Z "NeverBelow" (xsn 2) "[I" (.ref t) A s s.heap ∧ va_T .int t (xsv 2).length (fun j => .int ((xsv 2).getD j 0)) A s s.heap := by
  obtain ⟨t, h1, h2⟩ := va_Tof (tm := (.static "NeverBelow" "FIRST_OF_TERM" "[I")) (ty := .int) (N := 9) (f := fun j => .int ((xsv 2).getD j 0)) (by decide) (hgv (.arrayOf (.static "NeverBelow" "FIRST_OF_TERM" "[I") .int) (by decide +kernel)) (va_eqt (hgv (.eq (.length (.static "NeverBelow" "FIRST_OF_TERM" "[I")) (.int 9)) (by decide +kernel))) (fun j hj => by
    rcases (show j = 0 ∨ j = 1 ∨ j = 2 ∨ j = 3 ∨ j = 4 ∨ j = 5 ∨ j = 6 ∨ j = 7 ∨ j = 8 by omega) with rfl | rfl | rfl | rfl | rfl | rfl | rfl | rfl | rfl
    · exact va_eqt (hgv (.eq (.elem (.static "NeverBelow" "FIRST_OF_TERM" "[I") (.int 0)) (.int (2))) (by decide +kernel))
    · exact va_eqt (hgv (.eq (.elem (.static "NeverBelow" "FIRST_OF_TERM" "[I") (.int 1)) (.int (1))) (by decide +kernel))
    · exact va_eqt (hgv (.eq (.elem (.static "NeverBelow" "FIRST_OF_TERM" "[I") (.int 2)) (.int (1))) (by decide +kernel))
    · exact va_eqt (hgv (.eq (.elem (.static "NeverBelow" "FIRST_OF_TERM" "[I") (.int 3)) (.int (0))) (by decide +kernel))
    · exact va_eqt (hgv (.eq (.elem (.static "NeverBelow" "FIRST_OF_TERM" "[I") (.int 4)) (.int (0))) (by decide +kernel))
    · exact va_eqt (hgv (.eq (.elem (.static "NeverBelow" "FIRST_OF_TERM" "[I") (.int 5)) (.int (-1))) (by decide +kernel))
    · exact va_eqt (hgv (.eq (.elem (.static "NeverBelow" "FIRST_OF_TERM" "[I") (.int 6)) (.int (0))) (by decide +kernel))
    · exact va_eqt (hgv (.eq (.elem (.static "NeverBelow" "FIRST_OF_TERM" "[I") (.int 7)) (.int (-1))) (by decide +kernel))
    · exact va_eqt (hgv (.eq (.elem (.static "NeverBelow" "FIRST_OF_TERM" "[I") (.int 8)) (.int (-1))) (by decide +kernel))) hA
  exact ⟨t, va_Zref (hts (.laysStatic "NeverBelow" "FIRST_OF_TERM" "[I") (xtb 767 (by decide +kernel))) (hts (.initialized "NeverBelow") (xtb 52 (by decide +kernel))) h1 hA, h2⟩
set_option maxRecDepth 100000 in
theorem xst_3 {args : Array Value} {s : State} (hts : ∀ w ∈ lw_tbl, w.before args s = true) (hgv : ∀ c ∈ flatC (Jvm.Cond.and given_1 narrow_1), c.before args s = true) {A : Nat → Prop} (hA : ∀ a : Nat, a < s.heap.size → ¬ A a) : ∃ t : Nat, va_Z "NeverBelow" (xsn 3) "[I" (.ref t) A s s.heap ∧ va_T .int t (xsv 3).length (fun j => .int ((xsv 3).getD j 0)) A s s.heap := by
  obtain ⟨t, h1, h2⟩ := va_Tof (tm := (.static "NeverBelow" "SECOND_OF_TERM" "[I")) (ty := .int) (N := 9) (f := fun j => .int ((xsv 3).getD j 0)) (by decide) (hgv (.arrayOf (.static "NeverBelow" "SECOND_OF_TERM" "[I") .int) (by decide +kernel)) (va_eqt (hgv (.eq (.length (.static "NeverBelow" "SECOND_OF_TERM" "[I")) (.int 9)) (by decide +kernel))) (fun j hj => by
    rcases (show j = 0 ∨ j = 1 ∨ j = 2 ∨ j = 3 ∨ j = 4 ∨ j = 5 ∨ j = 6 ∨ j = 7 ∨ j = 8 by omega) with rfl | rfl | rfl | rfl | rfl | rfl | rfl | rfl | rfl
    · exact va_eqt (hgv (.eq (.elem (.static "NeverBelow" "SECOND_OF_TERM" "[I") (.int 0)) (.int (2))) (by decide +kernel))
    · exact va_eqt (hgv (.eq (.elem (.static "NeverBelow" "SECOND_OF_TERM" "[I") (.int 1)) (.int (2))) (by decide +kernel))
    · exact va_eqt (hgv (.eq (.elem (.static "NeverBelow" "SECOND_OF_TERM" "[I") (.int 2)) (.int (1))) (by decide +kernel))
    · exact va_eqt (hgv (.eq (.elem (.static "NeverBelow" "SECOND_OF_TERM" "[I") (.int 3)) (.int (2))) (by decide +kernel))
    · exact va_eqt (hgv (.eq (.elem (.static "NeverBelow" "SECOND_OF_TERM" "[I") (.int 4)) (.int (1))) (by decide +kernel))
    · exact va_eqt (hgv (.eq (.elem (.static "NeverBelow" "SECOND_OF_TERM" "[I") (.int 5)) (.int (-1))) (by decide +kernel))
    · exact va_eqt (hgv (.eq (.elem (.static "NeverBelow" "SECOND_OF_TERM" "[I") (.int 6)) (.int (0))) (by decide +kernel))
    · exact va_eqt (hgv (.eq (.elem (.static "NeverBelow" "SECOND_OF_TERM" "[I") (.int 7)) (.int (-1))) (by decide +kernel))
    · exact va_eqt (hgv (.eq (.elem (.static "NeverBelow" "SECOND_OF_TERM" "[I") (.int 8)) (.int (-1))) (by decide +kernel))) hA
  exact ⟨t, va_Zref (hts (.laysStatic "NeverBelow" "SECOND_OF_TERM" "[I") (xtb 773 (by decide +kernel))) (hts (.initialized "NeverBelow") (xtb 52 (by decide +kernel))) h1 hA, h2⟩
set_option maxRecDepth 100000 in
theorem xnc_all {args : Array Value} {s : State} (hgv : ∀ c ∈ flatC (Jvm.Cond.and given_1 narrow_1), c.before args s = true) : ∀ q ∈ xnc, va_Nc q.1 q.2 s := List.forall_mem_cons.mpr ⟨va_Nc.of (hgv (.not (.castable RX0 RX8)) (by decide +kernel)), List.forall_mem_cons.mpr ⟨va_Nc.of (hgv (.not (.castable RX3 RX8)) (by decide +kernel)), List.forall_mem_cons.mpr ⟨va_Nc.of (hgv (.not (.castable RX8 RX0)) (by decide +kernel)), List.forall_mem_cons.mpr ⟨va_Nc.of (hgv (.not (.castable RX7 RX0)) (by decide +kernel)), List.forall_mem_cons.mpr ⟨va_Nc.of (hgv (.not (.castable RX0 RX3)) (by decide +kernel)), List.forall_mem_cons.mpr ⟨va_Nc.of (hgv (.not (.castable RX8 RX3)) (by decide +kernel)), List.forall_mem_cons.mpr ⟨va_Nc.of (hgv (.not (.castable RX7 RX3)) (by decide +kernel)), List.forall_mem_cons.mpr ⟨va_Nc.of (hgv (.not (.castable RX8 RX7)) (by decide +kernel)), List.forall_mem_cons.mpr ⟨va_Nc.of (hgv (.not (.castable RX0 RX7)) (by decide +kernel)), List.forall_mem_cons.mpr ⟨va_Nc.of (hgv (.not (.castable RX3 RX7)) (by decide +kernel)), fun _ h => absurd h List.not_mem_nil⟩⟩⟩⟩⟩⟩⟩⟩⟩⟩
set_option maxRecDepth 100000 in
set_option maxHeartbeats 4000000 in
/-- the tables' numbers, and all that the rows stand on -/
theorem xG_start {args : Array Value} {s : State} (hts : ∀ w ∈ lw_tbl, w.before args s = true) (hgv : ∀ c ∈ flatC (Jvm.Cond.and given_1 narrow_1), c.before args s = true) : ∃ G : xG, xbs G = s.heap.size ∧ xK G s := by
  have hxw := xws_all hts
  obtain ⟨c0, i0, k0⟩ := u_known (C := RX0) (T := TX0) (N := 6) (n := 6) hxw xi_0 (hts (.instantiable RX0 6) (xtb 552 (by decide +kernel)))
  obtain ⟨c1, i1, k1⟩ := u_known (C := RX1) (T := TX1) (N := 5) (n := 5) hxw xi_1 (hts (.instantiable RX1 5) (xtb 133 (by decide +kernel)))
  obtain ⟨c2, i2, k2⟩ := u_known (C := RX2) (T := TX2) (N := 11) (n := 11) hxw xi_2 (hts (.instantiable RX2 11) (xtb 82 (by decide +kernel)))
  obtain ⟨c3, i3, k3⟩ := u_known (C := RX3) (T := TX3) (N := 6) (n := 6) hxw xi_3 (hts (.instantiable RX3 6) (xtb 593 (by decide +kernel)))
  obtain ⟨c4, i4, k4⟩ := u_known (C := RX4) (T := TX4) (N := 1) (n := 1) hxw xi_4 (hts (.instantiable RX4 1) (xtb 277 (by decide +kernel)))
  obtain ⟨c5, i5, k5⟩ := u_known (C := RX6) (T := TX6) (N := 2) (n := 2) hxw xi_5 (hts (.instantiable RX6 2) (xtb 217 (by decide +kernel)))
  obtain ⟨c6, i6, k6⟩ := u_known (C := RX7) (T := TX7) (N := 4) (n := 4) hxw xi_6 (hts (.instantiable RX7 4) (xtb 621 (by decide +kernel)))
  obtain ⟨c7, i7, k7⟩ := u_known (C := RX8) (T := TX8) (N := 4) (n := 4) hxw xi_7 (hts (.instantiable RX8 4) (xtb 504 (by decide +kernel)))
  obtain ⟨c8, i8, k8⟩ := u_known (C := RX9) (T := TX9) (N := 1) (n := 1) hxw xi_8 (hts (.instantiable RX9 1) (xtb 139 (by decide +kernel)))
  obtain ⟨c9, i9, k9⟩ := u_known (C := RX10) (T := TX10) (N := 10) (n := 10) hxw xi_9 (hts (.instantiable RX10 10) (xtb 68 (by decide +kernel)))
  obtain ⟨c10, i10, k10⟩ := u_known (C := RX11) (T := TX11) (N := 32) (n := 32) hxw xi_10 (hts (.instantiable RX11 32) (xtb 864 (by decide +kernel)))
  obtain ⟨a0, ka0, cm0, fa0, fb0, fc0⟩ := Cond.arrayClass_spec (hts (.arrayClass .int) (xtb 130 (by decide +kernel)))
  obtain ⟨a1, ka1, cm1, fa1, fb1, fc1⟩ := Cond.arrayClass_spec (hts (.arrayClass .long) (xtb 131 (by decide +kernel)))
  obtain ⟨cm2, a2, ka2, fd2, -, fb2, fc2, fa2⟩ := Cond.arrayOver_spec (hts (.arrayOver (.object RX6)) (xtb 76 (by decide +kernel)))
  obtain ⟨cm3, a3, ka3, fd3, -, fb3, fc3, fa3⟩ := Cond.arrayOver_spec (hts (.arrayOver (.object RX4)) (xtb 78 (by decide +kernel)))
  obtain ⟨cm4, a4, ka4, fd4, -, fb4, fc4, fa4⟩ := Cond.arrayOver_spec (hts (.arrayOver (.object RX5)) (xtb 80 (by decide +kernel)))
  have hA : ∀ a : Nat, a < s.heap.size → ¬ (fun q : Nat => s.heap.size ≤ q) a := fun a h q => absurd h (Nat.not_lt.mpr q)
  obtain ⟨s0, z0, t0⟩ := xst_0 hts hgv hA
  obtain ⟨s1, z1, t1⟩ := xst_1 hts hgv hA
  obtain ⟨s2, z2, t2⟩ := xst_2 hts hgv hA
  obtain ⟨s3, z3, t3⟩ := xst_3 hts hgv hA
  refine ⟨(fun k => if k = 0 then c0 else if k = 1 then c1 else if k = 2 then c2 else if k = 3 then c3 else if k = 4 then c4 else if k = 5 then c5 else if k = 6 then c6 else if k = 7 then c7 else if k = 8 then c8 else if k = 9 then c9 else c10, fun k => if k = 0 then i0 else if k = 1 then i1 else if k = 2 then i2 else if k = 3 then i3 else if k = 4 then i4 else if k = 5 then i5 else if k = 6 then i6 else if k = 7 then i7 else if k = 8 then i8 else if k = 9 then i9 else i10, fun k => if k = 0 then a0 else if k = 1 then a1 else if k = 2 then a2 else if k = 3 then a3 else a4, fun k => if k = 0 then s0 else if k = 1 then s1 else if k = 2 then s2 else s3, s.heap.size), rfl, ⟨?_, ?_⟩, ?_, xnc_all hgv⟩
  · intro k q hq
    match k, hq with
    | 0, hq => cases hq; exact k0
    | 1, hq => cases hq; exact k1
    | 2, hq => cases hq; exact k2
    | 3, hq => cases hq; exact k3
    | 4, hq => cases hq; exact k4
    | 5, hq => cases hq; exact k5
    | 6, hq => cases hq; exact k6
    | 7, hq => cases hq; exact k7
    | 8, hq => cases hq; exact k8
    | 9, hq => cases hq; exact k9
    | 10, hq => cases hq; exact k10
    | k + 11, hq => simp [vwCl] at hq
  · intro k q hq
    match k, hq with
    | 0, hq => cases hq; exact ⟨fun n z => ⟨(fun k h => by cases h), ka0, fb0, cm0, fc0⟩, fa0⟩
    | 1, hq => cases hq; exact ⟨fun n z => ⟨(fun k h => by cases h), ka1, fb1, cm1, fc1⟩, fa1⟩
    | 2, hq => cases hq; exact ⟨fun n z => ⟨(fun k h => by cases h), ka2, fb2, cm2, fc2⟩, ka2, cm2, fb2, fc2, fd2, fa2⟩
    | 3, hq => cases hq; exact ⟨fun n z => ⟨(fun k h => by cases h), ka3, fb3, cm3, fc3⟩, ka3, cm3, fb3, fc3, fd3, fa3⟩
    | 4, hq => cases hq; exact ⟨fun n z => ⟨(fun k h => by cases h), ka4, fb4, cm4, fc4⟩, ka4, cm4, fb4, fc4, fd4, fa4⟩
    | k + 5, hq => simp at hq
  · intro k hk
    rcases (show k = 0 ∨ k = 1 ∨ k = 2 ∨ k = 3 by omega) with rfl | rfl | rfl | rfl
    · exact ⟨z0, t0⟩
    · exact ⟨z1, t1⟩
    · exact ⟨z2, t2⟩
    · exact ⟨z3, t3⟩

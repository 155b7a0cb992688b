/-! NeverBelow$Whole.take(LNeverBelow$Whole;)V -/
abbrev rm_X9_take : Room := { frames := 0, cells := 0, slots := 0, locals := 0 }
def F_X9_take_5 (k5 : xHp → Nat → Nat → Int64 → Int32 → Option (xHp)) (f : xHp) (a0 : Nat) (a1 : Nat) (a2 : Int64) (a4 : Int32) : Option (xHp) := Option.bind (hN f a0 [(8, 0)]) fun v1 => Option.bind (hLen f v1) fun v2 => if v2 ≤ a4 then (some f) else (Option.bind (hN f a0 [(8, 0)]) fun v4 => Option.bind (hIld f v4 a4) fun v5 => Option.bind (hN f a1 [(8, 0)]) fun v6 => Option.bind (hIld f v6 a4) fun v7 => Option.bind (hN f a0 [(8, 0)]) fun v8 => Option.bind (hIst f v8 a4 (a2 + ((v5.toInt64 &&& (4294967295 : Int64)) + (v7.toInt64 &&& (4294967295 : Int64)))).toInt32) fun f9 => k5 f9 a0 a1 ((a2 + ((v5.toInt64 &&& (4294967295 : Int64)) + (v7.toInt64 &&& (4294967295 : Int64)))).toUInt64 >>> ((32 : Int32).toInt64.toUInt64 &&& Int64.toUInt64 63)).toInt64 (a4 + 1))
def L_X9_take_5  : Nat → xHp → Nat → Nat → Int64 → Int32 → Option (xHp)
  | 0, _, _, _, _, _ => none
  | n + 1, f, a0, a1, a2, a4 => F_X9_take_5 (L_X9_take_5  n) f a0 a1 a2 a4
def F_X9_take (f : xHp) (h0 : Nat) (p1 : Nat) : Option (xHp) := L_X9_take_5 xfuel f h0 p1 (0 : Int64) (0 : Int32)
set_option maxRecDepth 100000 in
set_option maxHeartbeats 4000000 in
theorem w_X9_take_5 {p : Program} {l : Launch} {e : Env} {s : State} {m : MethodId} {args : Array Value} {below : List Frame} {meth : Method} {c : Code} {G : xG} {z : Nat} (X : xC G p m c s args RX9 cX9_take 5) (hr : meth.sig.returnType = none) (hlocks : meth.locks = false) (hin : meth.name = yX9_take.name) (rs : xHp) (k5 : xHp → Nat → Nat → Int64 → Int32 → Option (xHp)) (hk5 : ∀ (f : xHp) (a0 : Nat) (a1 : Nat) (a2 : Int64) (a4 : Int32) (H : Heap) (locs : List Loc) (ls : Array Slot), k5 f a0 a1 a2 a4 = some rs → xY G z f s H locs → lv_has ls 5 [(0, .ref a0), (1, .ref a1), (2, .long a2), (4, .int a4)] → W p l e rm_X9_take s m args below meth c H locs 0 0 (MQ below (xQ G none z rs) args s rm_X9_take.cells rm_X9_take.slots (xA G)) (F0 m 5 ls [])) (f : xHp) (a0 : Nat) (a1 : Nat) (a2 : Int64) (a4 : Int32) (H : Heap) (locs : List Loc) (ls : Array Slot) (h : F_X9_take_5 k5 f a0 a1 a2 a4 = some rs) (Y : xY G z f s H locs) (hl : lv_has ls 5 [(0, .ref a0), (1, .ref a1), (2, .long a2), (4, .int a4)]) : W p l e rm_X9_take s m args below meth c H locs 0 0 (MQ below (xQ G none z rs) args s rm_X9_take.cells rm_X9_take.slots (xA G)) (F0 m 5 ls []) := by
  have hx := X.1.1
  have hb := X.1.2.1
  unfold F_X9_take_5 at h
  refine lv_iload hx hb dX9_take_5 (lv_at hl 3 rfl) ?_
  refine lv_aload_n hx hb dX9_take_7 rfl (lv_at hl 0 rfl) ?_
  replace h := xb h
  obtain ⟨v1, ev1, h⟩ := h
  refine q_getN X Y fl_X9_7 ev1 dX9_take_8 ?_
  replace h := xb h
  obtain ⟨v2, ev2, h⟩ := h
  refine q_alen X Y ev2 dX9_take_11 ?_
  refine lv_icmp_ge (tgt := 63) hx hb dX9_take_12 (by decide) (fun c3 => ?_) (fun c3 => ?_)
  · replace h := Eq.trans (if_pos c3).symm h
    replace h := Option.some.inj h
    subst h
    exact q_retv X Y hr hlocks (Nat.le_of_ble_eq_true rfl) (Nat.le_of_ble_eq_true rfl) dX9_take_63
  · replace h := Eq.trans (if_neg c3).symm h
    refine lv_lload_n hx hb dX9_take_15 rfl (lv_at hl 2 rfl) ?_
    refine lv_aload_n hx hb dX9_take_16 rfl (lv_at hl 0 rfl) ?_
    replace h := xb h
    obtain ⟨v4, ev4, h⟩ := h
    refine q_getN X Y fl_X9_7 ev4 dX9_take_17 ?_
    refine lv_iload hx hb dX9_take_20 (lv_at hl 3 rfl) ?_
    replace h := xb h
    obtain ⟨v5, ev5, h⟩ := h
    refine q_iald X Y ev5 dX9_take_22 ?_
    refine lv_i2l hx hb dX9_take_23 rfl ?_
    refine lv_ldc2 (v := 4294967295) hx hb X.1.2.2.2.1 (X.1.2.2.2.2 _ xw_697) dX9_take_24 ?_
    refine lv_land hx hb dX9_take_27 ?_
    refine lv_aload_n hx hb dX9_take_28 rfl (lv_at hl 1 rfl) ?_
    replace h := xb h
    obtain ⟨v6, ev6, h⟩ := h
    refine q_getN X Y fl_X9_7 ev6 dX9_take_29 ?_
    refine lv_iload hx hb dX9_take_32 (lv_at hl 3 rfl) ?_
    replace h := xb h
    obtain ⟨v7, ev7, h⟩ := h
    refine q_iald X Y ev7 dX9_take_34 ?_
    refine lv_i2l hx hb dX9_take_35 rfl ?_
    refine lv_ldc2 (v := 4294967295) hx hb X.1.2.2.2.1 (X.1.2.2.2.2 _ xw_697) dX9_take_36 ?_
    refine lv_land hx hb dX9_take_39 ?_
    refine lv_ladd hx hb dX9_take_40 ?_
    refine lv_ladd hx hb dX9_take_41 ?_
    refine lv_lstore_n (lv' := [(2, .long (a2 + ((v5.toInt64 &&& (4294967295 : Int64)) + (v7.toInt64 &&& (4294967295 : Int64))))), (0, .ref a0), (1, .ref a1), (4, .int a4)]) hx hb dX9_take_42 rfl hl (by decide) rfl (fun ls hl => ?_)
    refine lv_aload_n hx hb dX9_take_43 rfl (lv_at hl 1 rfl) ?_
    replace h := xb h
    obtain ⟨v8, ev8, h⟩ := h
    refine q_getN X Y fl_X9_7 ev8 dX9_take_44 ?_
    refine lv_iload hx hb dX9_take_47 (lv_at hl 3 rfl) ?_
    refine lv_lload_n hx hb dX9_take_49 rfl (lv_at hl 0 rfl) ?_
    refine lv_l2i hx hb dX9_take_50 rfl ?_
    replace h := xb h
    obtain ⟨f9, ef9, h⟩ := h
    refine q_iast X Y ef9 dX9_take_51 (fun H locs Y => ?_)
    refine lv_lload_n hx hb dX9_take_52 rfl (lv_at hl 0 rfl) ?_
    refine lv_bipush (v := 32) hx hb dX9_take_53 (by decide) ?_
    refine lv_lushr hx hb dX9_take_55 rfl ?_
    refine lv_lstore_n (lv' := [(2, .long ((a2 + ((v5.toInt64 &&& (4294967295 : Int64)) + (v7.toInt64 &&& (4294967295 : Int64)))).toUInt64 >>> ((32 : Int32).toInt64.toUInt64 &&& Int64.toUInt64 63)).toInt64), (0, .ref a0), (1, .ref a1), (4, .int a4)]) hx hb dX9_take_56 rfl hl (by decide) rfl (fun ls hl => ?_)
    refine lv_iinc (v := (a4 + 1)) (lv' := [(4, .int (a4 + 1)), (2, .long ((a2 + ((v5.toInt64 &&& (4294967295 : Int64)) + (v7.toInt64 &&& (4294967295 : Int64)))).toUInt64 >>> ((32 : Int32).toInt64.toUInt64 &&& Int64.toUInt64 63)).toInt64), (0, .ref a0), (1, .ref a1)]) hx hb dX9_take_57 hl (k := 3) rfl rfl (by decide) rfl (fun ls hl => ?_)
    refine lv_goto (tgt := 5) hx hb dX9_take_60 (by decide) ?_
    refine W.widen (k := 0) (n := 0) (Nat.le_of_ble_eq_true rfl) (Nat.le_of_ble_eq_true rfl) ?_
    exact hk5 f9 a0 a1 ((a2 + ((v5.toInt64 &&& (4294967295 : Int64)) + (v7.toInt64 &&& (4294967295 : Int64)))).toUInt64 >>> ((32 : Int32).toInt64.toUInt64 &&& Int64.toUInt64 63)).toInt64 (a4 + 1) _ _ _ h Y (lv_sub hl [2, 3, 1, 0] rfl)
set_option maxRecDepth 100000 in
set_option maxHeartbeats 4000000 in
theorem lw_X9_take_5 {p : Program} {l : Launch} {e : Env} {s : State} {m : MethodId} {args : Array Value} {below : List Frame} {meth : Method} {c : Code} {G : xG} {z : Nat} (X : xC G p m c s args RX9 cX9_take 5) (hr : meth.sig.returnType = none) (hlocks : meth.locks = false) (hin : meth.name = yX9_take.name) (rs : xHp)  : ∀ (n : Nat) (f : xHp) (a0 : Nat) (a1 : Nat) (a2 : Int64) (a4 : Int32) (H : Heap) (locs : List Loc) (ls : Array Slot), L_X9_take_5  n f a0 a1 a2 a4 = some rs → xY G z f s H locs → lv_has ls 5 [(0, .ref a0), (1, .ref a1), (2, .long a2), (4, .int a4)] → W p l e rm_X9_take s m args below meth c H locs 0 0 (MQ below (xQ G none z rs) args s rm_X9_take.cells rm_X9_take.slots (xA G)) (F0 m 5 ls []) := by
  intro n
  induction n with
  | zero => intro f a0 a1 a2 a4 H locs ls h Y hl; cases h
  | succ n ih => intro f a0 a1 a2 a4 H locs ls h Y hl; exact w_X9_take_5 X hr hlocks hin rs _ ih f a0 a1 a2 a4 _ _ _ h Y hl
set_option maxRecDepth 100000 in
set_option maxHeartbeats 4000000 in
theorem c_X9_take (l : Launch) (G : xG) (z : Nat) (f : xHp) (h0 : Nat) (p1 : Nat) (rs : xHp) (h : F_X9_take f h0 p1 = some rs) : xM G l yX9_take cX9_take 5 none rm_X9_take [.ref h0, .ref p1] z f none z rs := by
  refine xM_of (by decide) (Nat.le_of_ble_eq_true rfl) ?_
  intro p e s m below meth c ls X hr hlocks hin Y hl
  have hl : lv_has ls 5 [(0, .ref h0), (1, .ref p1)] := hl
  have hx := X.1.1
  have hb := X.1.2.1
  unfold F_X9_take at h
  refine lv_lconst (v := 0) hx hb dX9_take_0 (by decide) ?_
  refine lv_lstore_n (lv' := [(2, .long (0 : Int64)), (0, .ref h0), (1, .ref p1)]) hx hb dX9_take_1 rfl hl (by decide) rfl (fun ls hl => ?_)
  refine lv_iconst (v := 0) hx hb dX9_take_2 (by decide) ?_
  refine lv_istore (lv' := [(4, .int (0 : Int32)), (2, .long (0 : Int64)), (0, .ref h0), (1, .ref p1)]) hx hb dX9_take_3 hl (by decide) rfl (fun ls hl => ?_)
  refine W.widen (k := 0) (n := 0) (Nat.le_of_ble_eq_true rfl) (Nat.le_of_ble_eq_true rfl) ?_
  exact lw_X9_take_5 X hr hlocks hin rs  xfuel f h0 p1 (0 : Int64) (0 : Int32) _ _ _ h Y (lv_sub hl [2, 3, 1, 0] rfl)
/-! NeverBelow$SquaresProof.holds(ILNeverBelow$Whole;LNeverBelow$Whole;)Z -/
abbrev rm_X8_holds : Room := { frames := 4, cells := 0, slots := 0, locals := 113 }
def F_X8_holds_77  (f : xHp) (a0 : Nat) (a1 : Int32) (a2 : Nat) (a3 : Nat) : Option (Int32 × xHp) := if hKd f a0 = some 6 then (Option.bind (F_X7_spanShare f a0 a1 a3) fun q2 => if hKd q2 a2 = some 8 then (Option.bind (F_X9_take q2 a2 a3) fun q4 => if hKd q4 a2 = some 8 then (Option.bind (F_X9_isNought q4 a2) fun q6 => Option.bind (hZ q6) fun v7 => some (v7, q4)) else none) else none) else if hKd f a0 = some 7 then (Option.bind (F_X8_spanShare f a0 a1 a3) fun q9 => if hKd q9 a2 = some 8 then (Option.bind (F_X9_take q9 a2 a3) fun q11 => if hKd q11 a2 = some 8 then (Option.bind (F_X9_isNought q11 a2) fun q13 => Option.bind (hZ q13) fun v14 => some (v14, q11)) else none) else none) else none
def F_X8_holds_41 (k41 : xHp → Nat → Int32 → Nat → Nat → Int32 → Option (Int32 × xHp)) (f : xHp) (a0 : Nat) (a1 : Int32) (a2 : Nat) (a3 : Nat) (a4 : Int32) : Option (Int32 × xHp) := if hKd f a0 = some 6 then (Option.bind (F_X7_pieces f a0) fun q2 => if q2 ≤ a4 then (F_X8_holds_77 f a0 a1 a2 a3) else (Option.bind (hSt 2 a1) fun v4 => if v4 < 0 then (F_X8_holds_77 f a0 a1 a2 a3) else (if hKd f a0 = some 6 then (Option.bind (F_X8_squareShare f a0 a1 a4 a3) fun q7 => if hKd q7 a2 = some 8 then (Option.bind (F_X9_take q7 a2 a3) fun q9 => k41 q9 a0 a1 a2 a3 (a4 + 1)) else none) else if hKd f a0 = some 7 then (Option.bind (F_X8_squareShare f a0 a1 a4 a3) fun q11 => if hKd q11 a2 = some 8 then (Option.bind (F_X9_take q11 a2 a3) fun q13 => k41 q13 a0 a1 a2 a3 (a4 + 1)) else none) else none))) else if hKd f a0 = some 7 then (Option.bind (F_X8_pieces f a0) fun q15 => if q15 ≤ a4 then (F_X8_holds_77 f a0 a1 a2 a3) else (Option.bind (hSt 2 a1) fun v17 => if v17 < 0 then (F_X8_holds_77 f a0 a1 a2 a3) else (if hKd f a0 = some 6 then (Option.bind (F_X8_squareShare f a0 a1 a4 a3) fun q20 => if hKd q20 a2 = some 8 then (Option.bind (F_X9_take q20 a2 a3) fun q22 => k41 q22 a0 a1 a2 a3 (a4 + 1)) else none) else if hKd f a0 = some 7 then (Option.bind (F_X8_squareShare f a0 a1 a4 a3) fun q24 => if hKd q24 a2 = some 8 then (Option.bind (F_X9_take q24 a2 a3) fun q26 => k41 q26 a0 a1 a2 a3 (a4 + 1)) else none) else none))) else none
def L_X8_holds_41  : Nat → xHp → Nat → Int32 → Nat → Nat → Int32 → Option (Int32 × xHp)
  | 0, _, _, _, _, _, _ => none
  | n + 1, f, a0, a1, a2, a3, a4 => F_X8_holds_41 (L_X8_holds_41  n) f a0 a1 a2 a3 a4
def F_X8_holds (f : xHp) (h0 : Nat) (p1 : Int32) (p2 : Nat) (p3 : Nat) : Option (Int32 × xHp) := Option.bind (hN f h0 [(6, 1), (7, 1)]) fun v1 => Option.bind (hN f v1 [(4, 0)]) fun v2 => Option.bind (hJld f v2 p1) fun v3 => if hKd f p3 = some 8 then (Option.bind (F_X9_become f p3 (-v3)) fun q5 => if hKd q5 h0 = some 6 then (Option.bind (F_X8_multiplyByOthers q5 h0 p3 (-1 : Int32)) fun q7 => if hKd q7 h0 = some 6 then (Option.bind (F_X7_spanDivisor q7 h0) fun q9 => if hKd q7 p3 = some 8 then (Option.bind (F_X9_multiplyBy q7 p3 q9) fun q11 => if hKd q11 p2 = some 8 then (Option.bind (F_X9_become q11 p2 (0 : Int64)) fun q13 => if hKd q13 p2 = some 8 then (Option.bind (F_X9_take q13 p2 p3) fun q15 => L_X8_holds_41 xfuel q15 h0 p1 p2 p3 (0 : Int32)) else none) else none) else none) else if hKd q7 h0 = some 7 then (Option.bind (F_X8_spanDivisor q7 h0) fun q17 => if hKd q7 p3 = some 8 then (Option.bind (F_X9_multiplyBy q7 p3 q17) fun q19 => if hKd q19 p2 = some 8 then (Option.bind (F_X9_become q19 p2 (0 : Int64)) fun q21 => if hKd q21 p2 = some 8 then (Option.bind (F_X9_take q21 p2 p3) fun q23 => L_X8_holds_41 xfuel q23 h0 p1 p2 p3 (0 : Int32)) else none) else none) else none) else none) else if hKd q5 h0 = some 7 then (Option.bind (F_X8_multiplyByOthers q5 h0 p3 (-1 : Int32)) fun q25 => if hKd q25 h0 = some 6 then (Option.bind (F_X7_spanDivisor q25 h0) fun q27 => if hKd q25 p3 = some 8 then (Option.bind (F_X9_multiplyBy q25 p3 q27) fun q29 => if hKd q29 p2 = some 8 then (Option.bind (F_X9_become q29 p2 (0 : Int64)) fun q31 => if hKd q31 p2 = some 8 then (Option.bind (F_X9_take q31 p2 p3) fun q33 => L_X8_holds_41 xfuel q33 h0 p1 p2 p3 (0 : Int32)) else none) else none) else none) else if hKd q25 h0 = some 7 then (Option.bind (F_X8_spanDivisor q25 h0) fun q35 => if hKd q25 p3 = some 8 then (Option.bind (F_X9_multiplyBy q25 p3 q35) fun q37 => if hKd q37 p2 = some 8 then (Option.bind (F_X9_become q37 p2 (0 : Int64)) fun q39 => if hKd q39 p2 = some 8 then (Option.bind (F_X9_take q39 p2 p3) fun q41 => L_X8_holds_41 xfuel q41 h0 p1 p2 p3 (0 : Int32)) else none) else none) else none) else none) else none) else none
set_option maxRecDepth 100000 in
set_option maxHeartbeats 4000000 in
theorem w_X8_holds_77 {p : Program} {l : Launch} {e : Env} {s : State} {m : MethodId} {args : Array Value} {below : List Frame} {meth : Method} {c : Code} {G : xG} {z : Nat} (X : xC G p m c s args RX8 cX8_holds 5) (hr : meth.sig.returnType = (some .boolean)) (hlocks : meth.locks = false) (hin : meth.name = yX8_holds.name) (rs : Int32 × xHp)  (f : xHp) (a0 : Nat) (a1 : Int32) (a2 : Nat) (a3 : Nat) (H : Heap) (locs : List Loc) (ls : Array Slot) (h : F_X8_holds_77  f a0 a1 a2 a3 = some rs) (Y : xY G z f s H locs) (hl : lv_has ls 5 [(0, .ref a0), (1, .int a1), (2, .ref a2), (3, .ref a3)]) : W p l e rm_X8_holds s m args below meth c H locs 0 0 (MQ below (xQ G (some (.int rs.1)) z rs.2) args s rm_X8_holds.cells rm_X8_holds.slots (xA G)) (F0 m 77 ls []) := by
  have hx := X.1.1
  have hb := X.1.2.1
  unfold F_X8_holds_77 at h
  refine lv_aload_n hx hb dX8_holds_77 rfl (lv_at hl 0 rfl) ?_
  refine lv_iload_n hx hb dX8_holds_78 rfl (lv_at hl 1 rfl) ?_
  refine lv_aload_n hx hb dX8_holds_79 rfl (lv_at hl 3 rfl) ?_
  by_cases c1 : hKd f a0 = some 6
  · replace h := Eq.trans (if_pos c1).symm h
    replace h := xb h
    obtain ⟨q2, eq2, h⟩ := h
    refine q_callU X Y hl.1 (rest := []) (As := [.int a1, .ref a3]) (c_X7_spanShare l G z f a0 a1 a3 _ eq2) cd_X7_spanShare lu_X8_78_6 c1 ⟨(Nat.le_of_ble_eq_true rfl), (Nat.le_of_ble_eq_true rfl)⟩ ⟨(Nat.le_of_ble_eq_true rfl), (Nat.le_of_ble_eq_true rfl)⟩ rfl rfl (Nat.le_of_ble_eq_true rfl) dX8_holds_80 (fun H locs Y => ?_)
    refine W.eq (g2 := F0 m 83 ls []) rfl ?_
    refine lv_aload_n hx hb dX8_holds_83 rfl (lv_at hl 2 rfl) ?_
    refine lv_aload_n hx hb dX8_holds_84 rfl (lv_at hl 3 rfl) ?_
    by_cases c3 : hKd q2 a2 = some 8
    · replace h := Eq.trans (if_pos c3).symm h
      replace h := xb h
      obtain ⟨q4, eq4, h⟩ := h
      refine q_callV X Y hl.1 (rest := []) (As := [.ref a3]) (c_X9_take l G z q2 a2 a3 _ eq4) cd_X9_take lv_X8_66_8 c3 ⟨(Nat.le_of_ble_eq_true rfl), (Nat.le_of_ble_eq_true rfl)⟩ ⟨(Nat.le_of_ble_eq_true rfl), (Nat.le_of_ble_eq_true rfl)⟩ rfl rfl (Nat.le_of_ble_eq_true rfl) dX8_holds_85 (fun H locs Y => ?_)
      refine W.eq (g2 := F0 m 88 ls []) rfl ?_
      refine lv_aload_n hx hb dX8_holds_88 rfl (lv_at hl 2 rfl) ?_
      by_cases c5 : hKd q4 a2 = some 8
      · replace h := Eq.trans (if_pos c5).symm h
        replace h := xb h
        obtain ⟨q6, eq6, h⟩ := h
        refine q_callV X Y hl.1 (rest := []) (As := []) (c_X9_isNought l G z q4 a2 _ eq6) cd_X9_isNought lv_X8_82_8 c5 ⟨(Nat.le_of_ble_eq_true rfl), (Nat.le_of_ble_eq_true rfl)⟩ ⟨(Nat.le_of_ble_eq_true rfl), (Nat.le_of_ble_eq_true rfl)⟩ rfl rfl (Nat.le_of_ble_eq_true rfl) dX8_holds_89 (fun H locs Y => ?_)
        refine W.eq (g2 := F0 m 92 ls [.int q6]) rfl ?_
        replace h := xb h
        obtain ⟨v7, ev7, h⟩ := h
        obtain ⟨ev7, kv7⟩ := hZ_of ev7
        rw [ev7] at h
        replace h := Option.some.inj h
        subst h
        exact q_retz (v := q6) X Y hr hlocks kv7 (Nat.le_of_ble_eq_true rfl) (Nat.le_of_ble_eq_true rfl) dX8_holds_92
      replace h := Eq.trans (if_neg c5).symm h
      cases h
    replace h := Eq.trans (if_neg c3).symm h
    cases h
  replace h := Eq.trans (if_neg c1).symm h
  by_cases c8 : hKd f a0 = some 7
  · replace h := Eq.trans (if_pos c8).symm h
    replace h := xb h
    obtain ⟨q9, eq9, h⟩ := h
    refine q_callV X Y hl.1 (rest := []) (As := [.int a1, .ref a3]) (c_X8_spanShare l G z f a0 a1 a3 _ eq9) cd_X8_spanShare lv_X8_78_7 c8 ⟨(Nat.le_of_ble_eq_true rfl), (Nat.le_of_ble_eq_true rfl)⟩ ⟨(Nat.le_of_ble_eq_true rfl), (Nat.le_of_ble_eq_true rfl)⟩ rfl rfl (Nat.le_of_ble_eq_true rfl) dX8_holds_80 (fun H locs Y => ?_)
    refine W.eq (g2 := F0 m 83 ls []) rfl ?_
    refine lv_aload_n hx hb dX8_holds_83 rfl (lv_at hl 2 rfl) ?_
    refine lv_aload_n hx hb dX8_holds_84 rfl (lv_at hl 3 rfl) ?_
    by_cases c10 : hKd q9 a2 = some 8
    · replace h := Eq.trans (if_pos c10).symm h
      replace h := xb h
      obtain ⟨q11, eq11, h⟩ := h
      refine q_callV X Y hl.1 (rest := []) (As := [.ref a3]) (c_X9_take l G z q9 a2 a3 _ eq11) cd_X9_take lv_X8_66_8 c10 ⟨(Nat.le_of_ble_eq_true rfl), (Nat.le_of_ble_eq_true rfl)⟩ ⟨(Nat.le_of_ble_eq_true rfl), (Nat.le_of_ble_eq_true rfl)⟩ rfl rfl (Nat.le_of_ble_eq_true rfl) dX8_holds_85 (fun H locs Y => ?_)
      refine W.eq (g2 := F0 m 88 ls []) rfl ?_
      refine lv_aload_n hx hb dX8_holds_88 rfl (lv_at hl 2 rfl) ?_
      by_cases c12 : hKd q11 a2 = some 8
      · replace h := Eq.trans (if_pos c12).symm h
        replace h := xb h
        obtain ⟨q13, eq13, h⟩ := h
        refine q_callV X Y hl.1 (rest := []) (As := []) (c_X9_isNought l G z q11 a2 _ eq13) cd_X9_isNought lv_X8_82_8 c12 ⟨(Nat.le_of_ble_eq_true rfl), (Nat.le_of_ble_eq_true rfl)⟩ ⟨(Nat.le_of_ble_eq_true rfl), (Nat.le_of_ble_eq_true rfl)⟩ rfl rfl (Nat.le_of_ble_eq_true rfl) dX8_holds_89 (fun H locs Y => ?_)
        refine W.eq (g2 := F0 m 92 ls [.int q13]) rfl ?_
        replace h := xb h
        obtain ⟨v14, ev14, h⟩ := h
        obtain ⟨ev14, kv14⟩ := hZ_of ev14
        rw [ev14] at h
        replace h := Option.some.inj h
        subst h
        exact q_retz (v := q13) X Y hr hlocks kv14 (Nat.le_of_ble_eq_true rfl) (Nat.le_of_ble_eq_true rfl) dX8_holds_92
      replace h := Eq.trans (if_neg c12).symm h
      cases h
    replace h := Eq.trans (if_neg c10).symm h
    cases h
  replace h := Eq.trans (if_neg c8).symm h
  cases h
set_option maxRecDepth 100000 in
set_option maxHeartbeats 4000000 in
theorem w_X8_holds_41 {p : Program} {l : Launch} {e : Env} {s : State} {m : MethodId} {args : Array Value} {below : List Frame} {meth : Method} {c : Code} {G : xG} {z : Nat} (X : xC G p m c s args RX8 cX8_holds 5) (hr : meth.sig.returnType = (some .boolean)) (hlocks : meth.locks = false) (hin : meth.name = yX8_holds.name) (rs : Int32 × xHp) (k41 : xHp → Nat → Int32 → Nat → Nat → Int32 → Option (Int32 × xHp)) (hk41 : ∀ (f : xHp) (a0 : Nat) (a1 : Int32) (a2 : Nat) (a3 : Nat) (a4 : Int32) (H : Heap) (locs : List Loc) (ls : Array Slot), k41 f a0 a1 a2 a3 a4 = some rs → xY G z f s H locs → lv_has ls 5 [(0, .ref a0), (1, .int a1), (2, .ref a2), (3, .ref a3), (4, .int a4)] → W p l e rm_X8_holds s m args below meth c H locs 0 0 (MQ below (xQ G (some (.int rs.1)) z rs.2) args s rm_X8_holds.cells rm_X8_holds.slots (xA G)) (F0 m 41 ls [])) (f : xHp) (a0 : Nat) (a1 : Int32) (a2 : Nat) (a3 : Nat) (a4 : Int32) (H : Heap) (locs : List Loc) (ls : Array Slot) (h : F_X8_holds_41 k41 f a0 a1 a2 a3 a4 = some rs) (Y : xY G z f s H locs) (hl : lv_has ls 5 [(0, .ref a0), (1, .int a1), (2, .ref a2), (3, .ref a3), (4, .int a4)]) : W p l e rm_X8_holds s m args below meth c H locs 0 0 (MQ below (xQ G (some (.int rs.1)) z rs.2) args s rm_X8_holds.cells rm_X8_holds.slots (xA G)) (F0 m 41 ls []) := by
  have hx := X.1.1
  have hb := X.1.2.1
  unfold F_X8_holds_41 at h
  refine lv_iload hx hb dX8_holds_41 (lv_at hl 4 rfl) ?_
  refine lv_aload_n hx hb dX8_holds_43 rfl (lv_at hl 0 rfl) ?_
  by_cases c1 : hKd f a0 = some 6
  · replace h := Eq.trans (if_pos c1).symm h
    replace h := xb h
    obtain ⟨q2, eq2, h⟩ := h
    refine q_callU X Y hl.1 (rest := [.int a4]) (As := []) (c_X7_pieces l G z f a0 _ eq2) cd_X7_pieces lu_X8_32_6 c1 ⟨(Nat.le_of_ble_eq_true rfl), (Nat.le_of_ble_eq_true rfl)⟩ ⟨(Nat.le_of_ble_eq_true rfl), (Nat.le_of_ble_eq_true rfl)⟩ rfl rfl (Nat.le_of_ble_eq_true rfl) dX8_holds_44 (fun H locs Y => ?_)
    refine W.eq (g2 := F0 m 47 ls [.int q2, .int a4]) rfl ?_
    refine lv_icmp_ge (tgt := 77) hx hb dX8_holds_47 (by decide) (fun c3 => ?_) (fun c3 => ?_)
    · replace h := Eq.trans (if_pos c3).symm h
      refine W.widen (k := 0) (n := 0) (Nat.le_of_ble_eq_true rfl) (Nat.le_of_ble_eq_true rfl) ?_
      exact w_X8_holds_77 X hr hlocks hin rs   f a0 a1 a2 a3 _ _ _ h Y (lv_sub hl [0, 1, 2, 3] rfl)
    · replace h := Eq.trans (if_neg c3).symm h
      refine q_sget (k := 2) X Y (by decide) xw_715 dX8_holds_50 ?_
      refine lv_iload_n hx hb dX8_holds_53 rfl (lv_at hl 1 rfl) ?_
      replace h := xb h
      obtain ⟨v4, ev4, h⟩ := h
      refine q_sld (k := 2) X Y (by decide) ev4 dX8_holds_54 ?_
      refine lv_if_lt (tgt := 77) hx hb dX8_holds_55 (by decide) (fun c5 => ?_) (fun c5 => ?_)
      · replace h := Eq.trans (if_pos c5).symm h
        refine W.widen (k := 0) (n := 0) (Nat.le_of_ble_eq_true rfl) (Nat.le_of_ble_eq_true rfl) ?_
        exact w_X8_holds_77 X hr hlocks hin rs   f a0 a1 a2 a3 _ _ _ h Y (lv_sub hl [0, 1, 2, 3] rfl)
      · replace h := Eq.trans (if_neg c5).symm h
        refine lv_aload_n hx hb dX8_holds_58 rfl (lv_at hl 0 rfl) ?_
        refine lv_iload_n hx hb dX8_holds_59 rfl (lv_at hl 1 rfl) ?_
        refine lv_iload hx hb dX8_holds_60 (lv_at hl 4 rfl) ?_
        refine lv_aload_n hx hb dX8_holds_62 rfl (lv_at hl 3 rfl) ?_
        by_cases c6 : hKd f a0 = some 6
        · replace h := Eq.trans (if_pos c6).symm h
          replace h := xb h
          obtain ⟨q7, eq7, h⟩ := h
          refine q_callU X Y hl.1 (rest := []) (As := [.int a1, .int a4, .ref a3]) (c_X8_squareShare l G z f a0 a1 a4 a3 _ eq7) cd_X8_squareShare lu_X8_74_6 c6 ⟨(Nat.le_of_ble_eq_true rfl), (Nat.le_of_ble_eq_true rfl)⟩ ⟨(Nat.le_of_ble_eq_true rfl), (Nat.le_of_ble_eq_true rfl)⟩ rfl rfl (Nat.le_of_ble_eq_true rfl) dX8_holds_63 (fun H locs Y => ?_)
          refine W.eq (g2 := F0 m 66 ls []) rfl ?_
          refine lv_aload_n hx hb dX8_holds_66 rfl (lv_at hl 2 rfl) ?_
          refine lv_aload_n hx hb dX8_holds_67 rfl (lv_at hl 3 rfl) ?_
          by_cases c8 : hKd q7 a2 = some 8
          · replace h := Eq.trans (if_pos c8).symm h
            replace h := xb h
            obtain ⟨q9, eq9, h⟩ := h
            refine q_callV X Y hl.1 (rest := []) (As := [.ref a3]) (c_X9_take l G z q7 a2 a3 _ eq9) cd_X9_take lv_X8_66_8 c8 ⟨(Nat.le_of_ble_eq_true rfl), (Nat.le_of_ble_eq_true rfl)⟩ ⟨(Nat.le_of_ble_eq_true rfl), (Nat.le_of_ble_eq_true rfl)⟩ rfl rfl (Nat.le_of_ble_eq_true rfl) dX8_holds_68 (fun H locs Y => ?_)
            refine W.eq (g2 := F0 m 71 ls []) rfl ?_
            refine lv_iinc (v := (a4 + 1)) (lv' := [(4, .int (a4 + 1)), (0, .ref a0), (1, .int a1), (2, .ref a2), (3, .ref a3)]) hx hb dX8_holds_71 hl (k := 4) rfl rfl (by decide) rfl (fun ls hl => ?_)
            refine lv_goto (tgt := 41) hx hb dX8_holds_74 (by decide) ?_
            refine W.widen (k := 0) (n := 0) (Nat.le_of_ble_eq_true rfl) (Nat.le_of_ble_eq_true rfl) ?_
            exact hk41 q9 a0 a1 a2 a3 (a4 + 1) _ _ _ h Y (lv_sub hl [1, 2, 3, 4, 0] rfl)
          replace h := Eq.trans (if_neg c8).symm h
          cases h
        replace h := Eq.trans (if_neg c6).symm h
        by_cases c10 : hKd f a0 = some 7
        · replace h := Eq.trans (if_pos c10).symm h
          replace h := xb h
          obtain ⟨q11, eq11, h⟩ := h
          refine q_callV X Y hl.1 (rest := []) (As := [.int a1, .int a4, .ref a3]) (c_X8_squareShare l G z f a0 a1 a4 a3 _ eq11) cd_X8_squareShare lv_X8_74_7 c10 ⟨(Nat.le_of_ble_eq_true rfl), (Nat.le_of_ble_eq_true rfl)⟩ ⟨(Nat.le_of_ble_eq_true rfl), (Nat.le_of_ble_eq_true rfl)⟩ rfl rfl (Nat.le_of_ble_eq_true rfl) dX8_holds_63 (fun H locs Y => ?_)
          refine W.eq (g2 := F0 m 66 ls []) rfl ?_
          refine lv_aload_n hx hb dX8_holds_66 rfl (lv_at hl 2 rfl) ?_
          refine lv_aload_n hx hb dX8_holds_67 rfl (lv_at hl 3 rfl) ?_
          by_cases c12 : hKd q11 a2 = some 8
          · replace h := Eq.trans (if_pos c12).symm h
            replace h := xb h
            obtain ⟨q13, eq13, h⟩ := h
            refine q_callV X Y hl.1 (rest := []) (As := [.ref a3]) (c_X9_take l G z q11 a2 a3 _ eq13) cd_X9_take lv_X8_66_8 c12 ⟨(Nat.le_of_ble_eq_true rfl), (Nat.le_of_ble_eq_true rfl)⟩ ⟨(Nat.le_of_ble_eq_true rfl), (Nat.le_of_ble_eq_true rfl)⟩ rfl rfl (Nat.le_of_ble_eq_true rfl) dX8_holds_68 (fun H locs Y => ?_)
            refine W.eq (g2 := F0 m 71 ls []) rfl ?_
            refine lv_iinc (v := (a4 + 1)) (lv' := [(4, .int (a4 + 1)), (0, .ref a0), (1, .int a1), (2, .ref a2), (3, .ref a3)]) hx hb dX8_holds_71 hl (k := 4) rfl rfl (by decide) rfl (fun ls hl => ?_)
            refine lv_goto (tgt := 41) hx hb dX8_holds_74 (by decide) ?_
            refine W.widen (k := 0) (n := 0) (Nat.le_of_ble_eq_true rfl) (Nat.le_of_ble_eq_true rfl) ?_
            exact hk41 q13 a0 a1 a2 a3 (a4 + 1) _ _ _ h Y (lv_sub hl [1, 2, 3, 4, 0] rfl)
          replace h := Eq.trans (if_neg c12).symm h
          cases h
        replace h := Eq.trans (if_neg c10).symm h
        cases h
  replace h := Eq.trans (if_neg c1).symm h
  by_cases c14 : hKd f a0 = some 7
  · replace h := Eq.trans (if_pos c14).symm h
    replace h := xb h
    obtain ⟨q15, eq15, h⟩ := h
    refine q_callV X Y hl.1 (rest := [.int a4]) (As := []) (c_X8_pieces l G z f a0 _ eq15) cd_X8_pieces lv_X8_32_7 c14 ⟨(Nat.le_of_ble_eq_true rfl), (Nat.le_of_ble_eq_true rfl)⟩ ⟨(Nat.le_of_ble_eq_true rfl), (Nat.le_of_ble_eq_true rfl)⟩ rfl rfl (Nat.le_of_ble_eq_true rfl) dX8_holds_44 (fun H locs Y => ?_)
    refine W.eq (g2 := F0 m 47 ls [.int q15, .int a4]) rfl ?_
    refine lv_icmp_ge (tgt := 77) hx hb dX8_holds_47 (by decide) (fun c16 => ?_) (fun c16 => ?_)
    · replace h := Eq.trans (if_pos c16).symm h
      refine W.widen (k := 0) (n := 0) (Nat.le_of_ble_eq_true rfl) (Nat.le_of_ble_eq_true rfl) ?_
      exact w_X8_holds_77 X hr hlocks hin rs   f a0 a1 a2 a3 _ _ _ h Y (lv_sub hl [0, 1, 2, 3] rfl)
    · replace h := Eq.trans (if_neg c16).symm h
      refine q_sget (k := 2) X Y (by decide) xw_715 dX8_holds_50 ?_
      refine lv_iload_n hx hb dX8_holds_53 rfl (lv_at hl 1 rfl) ?_
      replace h := xb h
      obtain ⟨v17, ev17, h⟩ := h
      refine q_sld (k := 2) X Y (by decide) ev17 dX8_holds_54 ?_
      refine lv_if_lt (tgt := 77) hx hb dX8_holds_55 (by decide) (fun c18 => ?_) (fun c18 => ?_)
      · replace h := Eq.trans (if_pos c18).symm h
        refine W.widen (k := 0) (n := 0) (Nat.le_of_ble_eq_true rfl) (Nat.le_of_ble_eq_true rfl) ?_
        exact w_X8_holds_77 X hr hlocks hin rs   f a0 a1 a2 a3 _ _ _ h Y (lv_sub hl [0, 1, 2, 3] rfl)
      · replace h := Eq.trans (if_neg c18).symm h
        refine lv_aload_n hx hb dX8_holds_58 rfl (lv_at hl 0 rfl) ?_
        refine lv_iload_n hx hb dX8_holds_59 rfl (lv_at hl 1 rfl) ?_
        refine lv_iload hx hb dX8_holds_60 (lv_at hl 4 rfl) ?_
        refine lv_aload_n hx hb dX8_holds_62 rfl (lv_at hl 3 rfl) ?_
        by_cases c19 : hKd f a0 = some 6
        · replace h := Eq.trans (if_pos c19).symm h
          replace h := xb h
          obtain ⟨q20, eq20, h⟩ := h
          refine q_callU X Y hl.1 (rest := []) (As := [.int a1, .int a4, .ref a3]) (c_X8_squareShare l G z f a0 a1 a4 a3 _ eq20) cd_X8_squareShare lu_X8_74_6 c19 ⟨(Nat.le_of_ble_eq_true rfl), (Nat.le_of_ble_eq_true rfl)⟩ ⟨(Nat.le_of_ble_eq_true rfl), (Nat.le_of_ble_eq_true rfl)⟩ rfl rfl (Nat.le_of_ble_eq_true rfl) dX8_holds_63 (fun H locs Y => ?_)
          refine W.eq (g2 := F0 m 66 ls []) rfl ?_
          refine lv_aload_n hx hb dX8_holds_66 rfl (lv_at hl 2 rfl) ?_
          refine lv_aload_n hx hb dX8_holds_67 rfl (lv_at hl 3 rfl) ?_
          by_cases c21 : hKd q20 a2 = some 8
          · replace h := Eq.trans (if_pos c21).symm h
            replace h := xb h
            obtain ⟨q22, eq22, h⟩ := h
            refine q_callV X Y hl.1 (rest := []) (As := [.ref a3]) (c_X9_take l G z q20 a2 a3 _ eq22) cd_X9_take lv_X8_66_8 c21 ⟨(Nat.le_of_ble_eq_true rfl), (Nat.le_of_ble_eq_true rfl)⟩ ⟨(Nat.le_of_ble_eq_true rfl), (Nat.le_of_ble_eq_true rfl)⟩ rfl rfl (Nat.le_of_ble_eq_true rfl) dX8_holds_68 (fun H locs Y => ?_)
            refine W.eq (g2 := F0 m 71 ls []) rfl ?_
            refine lv_iinc (v := (a4 + 1)) (lv' := [(4, .int (a4 + 1)), (0, .ref a0), (1, .int a1), (2, .ref a2), (3, .ref a3)]) hx hb dX8_holds_71 hl (k := 4) rfl rfl (by decide) rfl (fun ls hl => ?_)
            refine lv_goto (tgt := 41) hx hb dX8_holds_74 (by decide) ?_
            refine W.widen (k := 0) (n := 0) (Nat.le_of_ble_eq_true rfl) (Nat.le_of_ble_eq_true rfl) ?_
            exact hk41 q22 a0 a1 a2 a3 (a4 + 1) _ _ _ h Y (lv_sub hl [1, 2, 3, 4, 0] rfl)
          replace h := Eq.trans (if_neg c21).symm h
          cases h
        replace h := Eq.trans (if_neg c19).symm h
        by_cases c23 : hKd f a0 = some 7
        · replace h := Eq.trans (if_pos c23).symm h
          replace h := xb h
          obtain ⟨q24, eq24, h⟩ := h
          refine q_callV X Y hl.1 (rest := []) (As := [.int a1, .int a4, .ref a3]) (c_X8_squareShare l G z f a0 a1 a4 a3 _ eq24) cd_X8_squareShare lv_X8_74_7 c23 ⟨(Nat.le_of_ble_eq_true rfl), (Nat.le_of_ble_eq_true rfl)⟩ ⟨(Nat.le_of_ble_eq_true rfl), (Nat.le_of_ble_eq_true rfl)⟩ rfl rfl (Nat.le_of_ble_eq_true rfl) dX8_holds_63 (fun H locs Y => ?_)
          refine W.eq (g2 := F0 m 66 ls []) rfl ?_
          refine lv_aload_n hx hb dX8_holds_66 rfl (lv_at hl 2 rfl) ?_
          refine lv_aload_n hx hb dX8_holds_67 rfl (lv_at hl 3 rfl) ?_
          by_cases c25 : hKd q24 a2 = some 8
          · replace h := Eq.trans (if_pos c25).symm h
            replace h := xb h
            obtain ⟨q26, eq26, h⟩ := h
            refine q_callV X Y hl.1 (rest := []) (As := [.ref a3]) (c_X9_take l G z q24 a2 a3 _ eq26) cd_X9_take lv_X8_66_8 c25 ⟨(Nat.le_of_ble_eq_true rfl), (Nat.le_of_ble_eq_true rfl)⟩ ⟨(Nat.le_of_ble_eq_true rfl), (Nat.le_of_ble_eq_true rfl)⟩ rfl rfl (Nat.le_of_ble_eq_true rfl) dX8_holds_68 (fun H locs Y => ?_)
            refine W.eq (g2 := F0 m 71 ls []) rfl ?_
            refine lv_iinc (v := (a4 + 1)) (lv' := [(4, .int (a4 + 1)), (0, .ref a0), (1, .int a1), (2, .ref a2), (3, .ref a3)]) hx hb dX8_holds_71 hl (k := 4) rfl rfl (by decide) rfl (fun ls hl => ?_)
            refine lv_goto (tgt := 41) hx hb dX8_holds_74 (by decide) ?_
            refine W.widen (k := 0) (n := 0) (Nat.le_of_ble_eq_true rfl) (Nat.le_of_ble_eq_true rfl) ?_
            exact hk41 q26 a0 a1 a2 a3 (a4 + 1) _ _ _ h Y (lv_sub hl [1, 2, 3, 4, 0] rfl)
          replace h := Eq.trans (if_neg c25).symm h
          cases h
        replace h := Eq.trans (if_neg c23).symm h
        cases h
  replace h := Eq.trans (if_neg c14).symm h
  cases h
set_option maxRecDepth 100000 in
set_option maxHeartbeats 4000000 in
theorem lw_X8_holds_41 {p : Program} {l : Launch} {e : Env} {s : State} {m : MethodId} {args : Array Value} {below : List Frame} {meth : Method} {c : Code} {G : xG} {z : Nat} (X : xC G p m c s args RX8 cX8_holds 5) (hr : meth.sig.returnType = (some .boolean)) (hlocks : meth.locks = false) (hin : meth.name = yX8_holds.name) (rs : Int32 × xHp)  : ∀ (n : Nat) (f : xHp) (a0 : Nat) (a1 : Int32) (a2 : Nat) (a3 : Nat) (a4 : Int32) (H : Heap) (locs : List Loc) (ls : Array Slot), L_X8_holds_41  n f a0 a1 a2 a3 a4 = some rs → xY G z f s H locs → lv_has ls 5 [(0, .ref a0), (1, .int a1), (2, .ref a2), (3, .ref a3), (4, .int a4)] → W p l e rm_X8_holds s m args below meth c H locs 0 0 (MQ below (xQ G (some (.int rs.1)) z rs.2) args s rm_X8_holds.cells rm_X8_holds.slots (xA G)) (F0 m 41 ls []) := by
  intro n
  induction n with
  | zero => intro f a0 a1 a2 a3 a4 H locs ls h Y hl; cases h
  | succ n ih => intro f a0 a1 a2 a3 a4 H locs ls h Y hl; exact w_X8_holds_41 X hr hlocks hin rs _ ih f a0 a1 a2 a3 a4 _ _ _ h Y hl
set_option maxRecDepth 100000 in
set_option maxHeartbeats 4000000 in
theorem c_X8_holds (l : Launch) (G : xG) (z : Nat) (f : xHp) (h0 : Nat) (p1 : Int32) (p2 : Nat) (p3 : Nat) (rs : Int32 × xHp) (h : F_X8_holds f h0 p1 p2 p3 = some rs) : xM G l yX8_holds cX8_holds 5 (some .boolean) rm_X8_holds [.ref h0, .int p1, .ref p2, .ref p3] z f (some (.int rs.1)) z rs.2 := by
  refine xM_of (by decide) (Nat.le_of_ble_eq_true rfl) ?_
  intro p e s m below meth c ls X hr hlocks hin Y hl
  have hl : lv_has ls 5 [(0, .ref h0), (1, .int p1), (2, .ref p2), (3, .ref p3)] := hl
  have hx := X.1.1
  have hb := X.1.2.1
  unfold F_X8_holds at h
  refine lv_aload_n hx hb dX8_holds_0 rfl (lv_at hl 3 rfl) ?_
  refine lv_aload_n hx hb dX8_holds_1 rfl (lv_at hl 0 rfl) ?_
  replace h := xb h
  obtain ⟨v1, ev1, h⟩ := h
  refine q_getN X Y fl_X8_40 ev1 dX8_holds_2 ?_
  replace h := xb h
  obtain ⟨v2, ev2, h⟩ := h
  refine q_getN X Y fl_X8_44 ev2 dX8_holds_5 ?_
  refine lv_iload_n hx hb dX8_holds_8 rfl (lv_at hl 1 rfl) ?_
  replace h := xb h
  obtain ⟨v3, ev3, h⟩ := h
  refine q_lald X Y ev3 dX8_holds_9 ?_
  refine lv_lneg hx hb dX8_holds_10 ?_
  by_cases c4 : hKd f p3 = some 8
  · replace h := Eq.trans (if_pos c4).symm h
    replace h := xb h
    obtain ⟨q5, eq5, h⟩ := h
    refine q_callV X Y hl.1 (rest := []) (As := [.long (-v3)]) (c_X9_become l G z f p3 (-v3) _ eq5) cd_X9_become lv_X8_49_8 c4 ⟨(Nat.le_of_ble_eq_true rfl), (Nat.le_of_ble_eq_true rfl)⟩ ⟨(Nat.le_of_ble_eq_true rfl), (Nat.le_of_ble_eq_true rfl)⟩ rfl rfl (Nat.le_of_ble_eq_true rfl) dX8_holds_11 (fun H locs Y => ?_)
    refine W.eq (g2 := F0 m 14 ls []) rfl ?_
    refine lv_aload_n hx hb dX8_holds_14 rfl (lv_at hl 0 rfl) ?_
    refine lv_aload_n hx hb dX8_holds_15 rfl (lv_at hl 3 rfl) ?_
    refine lv_iconst (v := -1) hx hb dX8_holds_16 (by decide) ?_
    by_cases c6 : hKd q5 h0 = some 6
    · replace h := Eq.trans (if_pos c6).symm h
      replace h := xb h
      obtain ⟨q7, eq7, h⟩ := h
      refine q_callU X Y hl.1 (rest := []) (As := [.ref p3, .int (-1 : Int32)]) (c_X8_multiplyByOthers l G z q5 h0 p3 (-1 : Int32) _ eq7) cd_X8_multiplyByOthers lu_X8_55_6 c6 ⟨(Nat.le_of_ble_eq_true rfl), (Nat.le_of_ble_eq_true rfl)⟩ ⟨(Nat.le_of_ble_eq_true rfl), (Nat.le_of_ble_eq_true rfl)⟩ rfl rfl (Nat.le_of_ble_eq_true rfl) dX8_holds_17 (fun H locs Y => ?_)
      refine W.eq (g2 := F0 m 20 ls []) rfl ?_
      refine lv_aload_n hx hb dX8_holds_20 rfl (lv_at hl 3 rfl) ?_
      refine lv_aload_n hx hb dX8_holds_21 rfl (lv_at hl 0 rfl) ?_
      by_cases c8 : hKd q7 h0 = some 6
      · replace h := Eq.trans (if_pos c8).symm h
        replace h := xb h
        obtain ⟨q9, eq9, h⟩ := h
        refine q_callU X Y hl.1 (rest := [.ref p3]) (As := []) (c_X7_spanDivisor l G z q7 h0 _ eq9) cd_X7_spanDivisor lu_X8_59_6 c8 ⟨(Nat.le_of_ble_eq_true rfl), (Nat.le_of_ble_eq_true rfl)⟩ ⟨(Nat.le_of_ble_eq_true rfl), (Nat.le_of_ble_eq_true rfl)⟩ rfl rfl (Nat.le_of_ble_eq_true rfl) dX8_holds_22 (fun H locs Y => ?_)
        refine W.eq (g2 := F0 m 25 ls [.long q9, .ref p3]) rfl ?_
        by_cases c10 : hKd q7 p3 = some 8
        · replace h := Eq.trans (if_pos c10).symm h
          replace h := xb h
          obtain ⟨q11, eq11, h⟩ := h
          refine q_callV X Y hl.1 (rest := []) (As := [.long q9]) (c_X9_multiplyBy l G z q7 p3 q9 _ eq11) cd_X9_multiplyBy lv_X8_63_8 c10 ⟨(Nat.le_of_ble_eq_true rfl), (Nat.le_of_ble_eq_true rfl)⟩ ⟨(Nat.le_of_ble_eq_true rfl), (Nat.le_of_ble_eq_true rfl)⟩ rfl rfl (Nat.le_of_ble_eq_true rfl) dX8_holds_25 (fun H locs Y => ?_)
          refine W.eq (g2 := F0 m 28 ls []) rfl ?_
          refine lv_aload_n hx hb dX8_holds_28 rfl (lv_at hl 2 rfl) ?_
          refine lv_lconst (v := 0) hx hb dX8_holds_29 (by decide) ?_
          by_cases c12 : hKd q11 p2 = some 8
          · replace h := Eq.trans (if_pos c12).symm h
            replace h := xb h
            obtain ⟨q13, eq13, h⟩ := h
            refine q_callV X Y hl.1 (rest := []) (As := [.long (0 : Int64)]) (c_X9_become l G z q11 p2 (0 : Int64) _ eq13) cd_X9_become lv_X8_49_8 c12 ⟨(Nat.le_of_ble_eq_true rfl), (Nat.le_of_ble_eq_true rfl)⟩ ⟨(Nat.le_of_ble_eq_true rfl), (Nat.le_of_ble_eq_true rfl)⟩ rfl rfl (Nat.le_of_ble_eq_true rfl) dX8_holds_30 (fun H locs Y => ?_)
            refine W.eq (g2 := F0 m 33 ls []) rfl ?_
            refine lv_aload_n hx hb dX8_holds_33 rfl (lv_at hl 2 rfl) ?_
            refine lv_aload_n hx hb dX8_holds_34 rfl (lv_at hl 3 rfl) ?_
            by_cases c14 : hKd q13 p2 = some 8
            · replace h := Eq.trans (if_pos c14).symm h
              replace h := xb h
              obtain ⟨q15, eq15, h⟩ := h
              refine q_callV X Y hl.1 (rest := []) (As := [.ref p3]) (c_X9_take l G z q13 p2 p3 _ eq15) cd_X9_take lv_X8_66_8 c14 ⟨(Nat.le_of_ble_eq_true rfl), (Nat.le_of_ble_eq_true rfl)⟩ ⟨(Nat.le_of_ble_eq_true rfl), (Nat.le_of_ble_eq_true rfl)⟩ rfl rfl (Nat.le_of_ble_eq_true rfl) dX8_holds_35 (fun H locs Y => ?_)
              refine W.eq (g2 := F0 m 38 ls []) rfl ?_
              refine lv_iconst (v := 0) hx hb dX8_holds_38 (by decide) ?_
              refine lv_istore (lv' := [(4, .int (0 : Int32)), (0, .ref h0), (1, .int p1), (2, .ref p2), (3, .ref p3)]) hx hb dX8_holds_39 hl (by decide) rfl (fun ls hl => ?_)
              refine W.widen (k := 0) (n := 0) (Nat.le_of_ble_eq_true rfl) (Nat.le_of_ble_eq_true rfl) ?_
              exact lw_X8_holds_41 X hr hlocks hin rs  xfuel q15 h0 p1 p2 p3 (0 : Int32) _ _ _ h Y (lv_sub hl [1, 2, 3, 4, 0] rfl)
            replace h := Eq.trans (if_neg c14).symm h
            cases h
          replace h := Eq.trans (if_neg c12).symm h
          cases h
        replace h := Eq.trans (if_neg c10).symm h
        cases h
      replace h := Eq.trans (if_neg c8).symm h
      by_cases c16 : hKd q7 h0 = some 7
      · replace h := Eq.trans (if_pos c16).symm h
        replace h := xb h
        obtain ⟨q17, eq17, h⟩ := h
        refine q_callV X Y hl.1 (rest := [.ref p3]) (As := []) (c_X8_spanDivisor l G z q7 h0 _ eq17) cd_X8_spanDivisor lv_X8_59_7 c16 ⟨(Nat.le_of_ble_eq_true rfl), (Nat.le_of_ble_eq_true rfl)⟩ ⟨(Nat.le_of_ble_eq_true rfl), (Nat.le_of_ble_eq_true rfl)⟩ rfl rfl (Nat.le_of_ble_eq_true rfl) dX8_holds_22 (fun H locs Y => ?_)
        refine W.eq (g2 := F0 m 25 ls [.long q17, .ref p3]) rfl ?_
        by_cases c18 : hKd q7 p3 = some 8
        · replace h := Eq.trans (if_pos c18).symm h
          replace h := xb h
          obtain ⟨q19, eq19, h⟩ := h
          refine q_callV X Y hl.1 (rest := []) (As := [.long q17]) (c_X9_multiplyBy l G z q7 p3 q17 _ eq19) cd_X9_multiplyBy lv_X8_63_8 c18 ⟨(Nat.le_of_ble_eq_true rfl), (Nat.le_of_ble_eq_true rfl)⟩ ⟨(Nat.le_of_ble_eq_true rfl), (Nat.le_of_ble_eq_true rfl)⟩ rfl rfl (Nat.le_of_ble_eq_true rfl) dX8_holds_25 (fun H locs Y => ?_)
          refine W.eq (g2 := F0 m 28 ls []) rfl ?_
          refine lv_aload_n hx hb dX8_holds_28 rfl (lv_at hl 2 rfl) ?_
          refine lv_lconst (v := 0) hx hb dX8_holds_29 (by decide) ?_
          by_cases c20 : hKd q19 p2 = some 8
          · replace h := Eq.trans (if_pos c20).symm h
            replace h := xb h
            obtain ⟨q21, eq21, h⟩ := h
            refine q_callV X Y hl.1 (rest := []) (As := [.long (0 : Int64)]) (c_X9_become l G z q19 p2 (0 : Int64) _ eq21) cd_X9_become lv_X8_49_8 c20 ⟨(Nat.le_of_ble_eq_true rfl), (Nat.le_of_ble_eq_true rfl)⟩ ⟨(Nat.le_of_ble_eq_true rfl), (Nat.le_of_ble_eq_true rfl)⟩ rfl rfl (Nat.le_of_ble_eq_true rfl) dX8_holds_30 (fun H locs Y => ?_)
            refine W.eq (g2 := F0 m 33 ls []) rfl ?_
            refine lv_aload_n hx hb dX8_holds_33 rfl (lv_at hl 2 rfl) ?_
            refine lv_aload_n hx hb dX8_holds_34 rfl (lv_at hl 3 rfl) ?_
            by_cases c22 : hKd q21 p2 = some 8
            · replace h := Eq.trans (if_pos c22).symm h
              replace h := xb h
              obtain ⟨q23, eq23, h⟩ := h
              refine q_callV X Y hl.1 (rest := []) (As := [.ref p3]) (c_X9_take l G z q21 p2 p3 _ eq23) cd_X9_take lv_X8_66_8 c22 ⟨(Nat.le_of_ble_eq_true rfl), (Nat.le_of_ble_eq_true rfl)⟩ ⟨(Nat.le_of_ble_eq_true rfl), (Nat.le_of_ble_eq_true rfl)⟩ rfl rfl (Nat.le_of_ble_eq_true rfl) dX8_holds_35 (fun H locs Y => ?_)
              refine W.eq (g2 := F0 m 38 ls []) rfl ?_
              refine lv_iconst (v := 0) hx hb dX8_holds_38 (by decide) ?_
              refine lv_istore (lv' := [(4, .int (0 : Int32)), (0, .ref h0), (1, .int p1), (2, .ref p2), (3, .ref p3)]) hx hb dX8_holds_39 hl (by decide) rfl (fun ls hl => ?_)
              refine W.widen (k := 0) (n := 0) (Nat.le_of_ble_eq_true rfl) (Nat.le_of_ble_eq_true rfl) ?_
              exact lw_X8_holds_41 X hr hlocks hin rs  xfuel q23 h0 p1 p2 p3 (0 : Int32) _ _ _ h Y (lv_sub hl [1, 2, 3, 4, 0] rfl)
            replace h := Eq.trans (if_neg c22).symm h
            cases h
          replace h := Eq.trans (if_neg c20).symm h
          cases h
        replace h := Eq.trans (if_neg c18).symm h
        cases h
      replace h := Eq.trans (if_neg c16).symm h
      cases h
    replace h := Eq.trans (if_neg c6).symm h
    by_cases c24 : hKd q5 h0 = some 7
    · replace h := Eq.trans (if_pos c24).symm h
      replace h := xb h
      obtain ⟨q25, eq25, h⟩ := h
      refine q_callV X Y hl.1 (rest := []) (As := [.ref p3, .int (-1 : Int32)]) (c_X8_multiplyByOthers l G z q5 h0 p3 (-1 : Int32) _ eq25) cd_X8_multiplyByOthers lv_X8_55_7 c24 ⟨(Nat.le_of_ble_eq_true rfl), (Nat.le_of_ble_eq_true rfl)⟩ ⟨(Nat.le_of_ble_eq_true rfl), (Nat.le_of_ble_eq_true rfl)⟩ rfl rfl (Nat.le_of_ble_eq_true rfl) dX8_holds_17 (fun H locs Y => ?_)
      refine W.eq (g2 := F0 m 20 ls []) rfl ?_
      refine lv_aload_n hx hb dX8_holds_20 rfl (lv_at hl 3 rfl) ?_
      refine lv_aload_n hx hb dX8_holds_21 rfl (lv_at hl 0 rfl) ?_
      by_cases c26 : hKd q25 h0 = some 6
      · replace h := Eq.trans (if_pos c26).symm h
        replace h := xb h
        obtain ⟨q27, eq27, h⟩ := h
        refine q_callU X Y hl.1 (rest := [.ref p3]) (As := []) (c_X7_spanDivisor l G z q25 h0 _ eq27) cd_X7_spanDivisor lu_X8_59_6 c26 ⟨(Nat.le_of_ble_eq_true rfl), (Nat.le_of_ble_eq_true rfl)⟩ ⟨(Nat.le_of_ble_eq_true rfl), (Nat.le_of_ble_eq_true rfl)⟩ rfl rfl (Nat.le_of_ble_eq_true rfl) dX8_holds_22 (fun H locs Y => ?_)
        refine W.eq (g2 := F0 m 25 ls [.long q27, .ref p3]) rfl ?_
        by_cases c28 : hKd q25 p3 = some 8
        · replace h := Eq.trans (if_pos c28).symm h
          replace h := xb h
          obtain ⟨q29, eq29, h⟩ := h
          refine q_callV X Y hl.1 (rest := []) (As := [.long q27]) (c_X9_multiplyBy l G z q25 p3 q27 _ eq29) cd_X9_multiplyBy lv_X8_63_8 c28 ⟨(Nat.le_of_ble_eq_true rfl), (Nat.le_of_ble_eq_true rfl)⟩ ⟨(Nat.le_of_ble_eq_true rfl), (Nat.le_of_ble_eq_true rfl)⟩ rfl rfl (Nat.le_of_ble_eq_true rfl) dX8_holds_25 (fun H locs Y => ?_)
          refine W.eq (g2 := F0 m 28 ls []) rfl ?_
          refine lv_aload_n hx hb dX8_holds_28 rfl (lv_at hl 2 rfl) ?_
          refine lv_lconst (v := 0) hx hb dX8_holds_29 (by decide) ?_
          by_cases c30 : hKd q29 p2 = some 8
          · replace h := Eq.trans (if_pos c30).symm h
            replace h := xb h
            obtain ⟨q31, eq31, h⟩ := h
            refine q_callV X Y hl.1 (rest := []) (As := [.long (0 : Int64)]) (c_X9_become l G z q29 p2 (0 : Int64) _ eq31) cd_X9_become lv_X8_49_8 c30 ⟨(Nat.le_of_ble_eq_true rfl), (Nat.le_of_ble_eq_true rfl)⟩ ⟨(Nat.le_of_ble_eq_true rfl), (Nat.le_of_ble_eq_true rfl)⟩ rfl rfl (Nat.le_of_ble_eq_true rfl) dX8_holds_30 (fun H locs Y => ?_)
            refine W.eq (g2 := F0 m 33 ls []) rfl ?_
            refine lv_aload_n hx hb dX8_holds_33 rfl (lv_at hl 2 rfl) ?_
            refine lv_aload_n hx hb dX8_holds_34 rfl (lv_at hl 3 rfl) ?_
            by_cases c32 : hKd q31 p2 = some 8
            · replace h := Eq.trans (if_pos c32).symm h
              replace h := xb h
              obtain ⟨q33, eq33, h⟩ := h
              refine q_callV X Y hl.1 (rest := []) (As := [.ref p3]) (c_X9_take l G z q31 p2 p3 _ eq33) cd_X9_take lv_X8_66_8 c32 ⟨(Nat.le_of_ble_eq_true rfl), (Nat.le_of_ble_eq_true rfl)⟩ ⟨(Nat.le_of_ble_eq_true rfl), (Nat.le_of_ble_eq_true rfl)⟩ rfl rfl (Nat.le_of_ble_eq_true rfl) dX8_holds_35 (fun H locs Y => ?_)
              refine W.eq (g2 := F0 m 38 ls []) rfl ?_
              refine lv_iconst (v := 0) hx hb dX8_holds_38 (by decide) ?_
              refine lv_istore (lv' := [(4, .int (0 : Int32)), (0, .ref h0), (1, .int p1), (2, .ref p2), (3, .ref p3)]) hx hb dX8_holds_39 hl (by decide) rfl (fun ls hl => ?_)
              refine W.widen (k := 0) (n := 0) (Nat.le_of_ble_eq_true rfl) (Nat.le_of_ble_eq_true rfl) ?_
              exact lw_X8_holds_41 X hr hlocks hin rs  xfuel q33 h0 p1 p2 p3 (0 : Int32) _ _ _ h Y (lv_sub hl [1, 2, 3, 4, 0] rfl)
            replace h := Eq.trans (if_neg c32).symm h
            cases h
          replace h := Eq.trans (if_neg c30).symm h
          cases h
        replace h := Eq.trans (if_neg c28).symm h
        cases h
      replace h := Eq.trans (if_neg c26).symm h
      by_cases c34 : hKd q25 h0 = some 7
      · replace h := Eq.trans (if_pos c34).symm h
        replace h := xb h
        obtain ⟨q35, eq35, h⟩ := h
        refine q_callV X Y hl.1 (rest := [.ref p3]) (As := []) (c_X8_spanDivisor l G z q25 h0 _ eq35) cd_X8_spanDivisor lv_X8_59_7 c34 ⟨(Nat.le_of_ble_eq_true rfl), (Nat.le_of_ble_eq_true rfl)⟩ ⟨(Nat.le_of_ble_eq_true rfl), (Nat.le_of_ble_eq_true rfl)⟩ rfl rfl (Nat.le_of_ble_eq_true rfl) dX8_holds_22 (fun H locs Y => ?_)
        refine W.eq (g2 := F0 m 25 ls [.long q35, .ref p3]) rfl ?_
        by_cases c36 : hKd q25 p3 = some 8
        · replace h := Eq.trans (if_pos c36).symm h
          replace h := xb h
          obtain ⟨q37, eq37, h⟩ := h
          refine q_callV X Y hl.1 (rest := []) (As := [.long q35]) (c_X9_multiplyBy l G z q25 p3 q35 _ eq37) cd_X9_multiplyBy lv_X8_63_8 c36 ⟨(Nat.le_of_ble_eq_true rfl), (Nat.le_of_ble_eq_true rfl)⟩ ⟨(Nat.le_of_ble_eq_true rfl), (Nat.le_of_ble_eq_true rfl)⟩ rfl rfl (Nat.le_of_ble_eq_true rfl) dX8_holds_25 (fun H locs Y => ?_)
          refine W.eq (g2 := F0 m 28 ls []) rfl ?_
          refine lv_aload_n hx hb dX8_holds_28 rfl (lv_at hl 2 rfl) ?_
          refine lv_lconst (v := 0) hx hb dX8_holds_29 (by decide) ?_
          by_cases c38 : hKd q37 p2 = some 8
          · replace h := Eq.trans (if_pos c38).symm h
            replace h := xb h
            obtain ⟨q39, eq39, h⟩ := h
            refine q_callV X Y hl.1 (rest := []) (As := [.long (0 : Int64)]) (c_X9_become l G z q37 p2 (0 : Int64) _ eq39) cd_X9_become lv_X8_49_8 c38 ⟨(Nat.le_of_ble_eq_true rfl), (Nat.le_of_ble_eq_true rfl)⟩ ⟨(Nat.le_of_ble_eq_true rfl), (Nat.le_of_ble_eq_true rfl)⟩ rfl rfl (Nat.le_of_ble_eq_true rfl) dX8_holds_30 (fun H locs Y => ?_)
            refine W.eq (g2 := F0 m 33 ls []) rfl ?_
            refine lv_aload_n hx hb dX8_holds_33 rfl (lv_at hl 2 rfl) ?_
            refine lv_aload_n hx hb dX8_holds_34 rfl (lv_at hl 3 rfl) ?_
            by_cases c40 : hKd q39 p2 = some 8
            · replace h := Eq.trans (if_pos c40).symm h
              replace h := xb h
              obtain ⟨q41, eq41, h⟩ := h
              refine q_callV X Y hl.1 (rest := []) (As := [.ref p3]) (c_X9_take l G z q39 p2 p3 _ eq41) cd_X9_take lv_X8_66_8 c40 ⟨(Nat.le_of_ble_eq_true rfl), (Nat.le_of_ble_eq_true rfl)⟩ ⟨(Nat.le_of_ble_eq_true rfl), (Nat.le_of_ble_eq_true rfl)⟩ rfl rfl (Nat.le_of_ble_eq_true rfl) dX8_holds_35 (fun H locs Y => ?_)
              refine W.eq (g2 := F0 m 38 ls []) rfl ?_
              refine lv_iconst (v := 0) hx hb dX8_holds_38 (by decide) ?_
              refine lv_istore (lv' := [(4, .int (0 : Int32)), (0, .ref h0), (1, .int p1), (2, .ref p2), (3, .ref p3)]) hx hb dX8_holds_39 hl (by decide) rfl (fun ls hl => ?_)
              refine W.widen (k := 0) (n := 0) (Nat.le_of_ble_eq_true rfl) (Nat.le_of_ble_eq_true rfl) ?_
              exact lw_X8_holds_41 X hr hlocks hin rs  xfuel q41 h0 p1 p2 p3 (0 : Int32) _ _ _ h Y (lv_sub hl [1, 2, 3, 4, 0] rfl)
            replace h := Eq.trans (if_neg c40).symm h
            cases h
          replace h := Eq.trans (if_neg c38).symm h
          cases h
        replace h := Eq.trans (if_neg c36).symm h
        cases h
      replace h := Eq.trans (if_neg c34).symm h
      cases h
    replace h := Eq.trans (if_neg c24).symm h
    cases h
  replace h := Eq.trans (if_neg c4).symm h
  cases h
/-! NeverBelow$SquaresProof.firstWrong(LNeverBelow$Desk;)I -/
abbrev rm_X8_firstWrong : Room := { frames := 5, cells := 0, slots := 0, locals := 137 }
def F_X8_firstWrong_12 (k12 : xHp → Nat → Nat → Int32 → Option (Int32 × xHp)) (f : xHp) (a0 : Nat) (a1 : Nat) (a2 : Int32) : Option (Int32 × xHp) := if (9 : Int32) ≤ a2 then (some ((-1 : Int32), f)) else (Option.bind (hN f a1 [(1, 1)]) fun v2 => Option.bind (hN f a1 [(1, 2)]) fun v3 => if hKd f a0 = some 6 then (Option.bind (F_X8_holds f a0 a2 v2 v3) fun q5 => if q5.1 = 0 then (some (a2, q5.2)) else (k12 q5.2 a0 a1 (a2 + 1))) else if hKd f a0 = some 7 then (Option.bind (F_X8_holds f a0 a2 v2 v3) fun q8 => if q8.1 = 0 then (some (a2, q8.2)) else (k12 q8.2 a0 a1 (a2 + 1))) else none)
def L_X8_firstWrong_12  : Nat → xHp → Nat → Nat → Int32 → Option (Int32 × xHp)
  | 0, _, _, _, _ => none
  | n + 1, f, a0, a1, a2 => F_X8_firstWrong_12 (L_X8_firstWrong_12  n) f a0 a1 a2
def F_X8_firstWrong (f : xHp) (h0 : Nat) (p1 : Nat) : Option (Int32 × xHp) := if hKd f h0 = some 6 then (Option.bind (F_X7_hasWeightsAbove f h0) fun q2 => if q2 = 0 then (some ((9 : Int32), f)) else (L_X8_firstWrong_12 xfuel f h0 p1 (0 : Int32))) else if hKd f h0 = some 7 then (Option.bind (F_X8_hasWeightsAbove f h0) fun q5 => if q5 = 0 then (some ((9 : Int32), f)) else (L_X8_firstWrong_12 xfuel f h0 p1 (0 : Int32))) else none
set_option maxRecDepth 100000 in
set_option maxHeartbeats 4000000 in
theorem w_X8_firstWrong_12 {p : Program} {l : Launch} {e : Env} {s : State} {m : MethodId} {args : Array Value} {below : List Frame} {meth : Method} {c : Code} {G : xG} {z : Nat} (X : xC G p m c s args RX8 cX8_firstWrong 3) (hr : meth.sig.returnType = (some .int)) (hlocks : meth.locks = false) (hin : meth.name = yX8_firstWrong.name) (rs : Int32 × xHp) (k12 : xHp → Nat → Nat → Int32 → Option (Int32 × xHp)) (hk12 : ∀ (f : xHp) (a0 : Nat) (a1 : Nat) (a2 : Int32) (H : Heap) (locs : List Loc) (ls : Array Slot), k12 f a0 a1 a2 = some rs → xY G z f s H locs → lv_has ls 3 [(0, .ref a0), (1, .ref a1), (2, .int a2)] → W p l e rm_X8_firstWrong s m args below meth c H locs 0 0 (MQ below (xQ G (some (.int rs.1)) z rs.2) args s rm_X8_firstWrong.cells rm_X8_firstWrong.slots (xA G)) (F0 m 12 ls [])) (f : xHp) (a0 : Nat) (a1 : Nat) (a2 : Int32) (H : Heap) (locs : List Loc) (ls : Array Slot) (h : F_X8_firstWrong_12 k12 f a0 a1 a2 = some rs) (Y : xY G z f s H locs) (hl : lv_has ls 3 [(0, .ref a0), (1, .ref a1), (2, .int a2)]) : W p l e rm_X8_firstWrong s m args below meth c H locs 0 0 (MQ below (xQ G (some (.int rs.1)) z rs.2) args s rm_X8_firstWrong.cells rm_X8_firstWrong.slots (xA G)) (F0 m 12 ls []) := by
  have hx := X.1.1
  have hb := X.1.2.1
  unfold F_X8_firstWrong_12 at h
  refine lv_iload_n hx hb dX8_firstWrong_12 rfl (lv_at hl 2 rfl) ?_
  refine lv_bipush (v := 9) hx hb dX8_firstWrong_13 (by decide) ?_
  refine lv_icmp_ge (tgt := 42) hx hb dX8_firstWrong_15 (by decide) (fun c1 => ?_) (fun c1 => ?_)
  · replace h := Eq.trans (if_pos c1).symm h
    refine lv_iconst (v := -1) hx hb dX8_firstWrong_42 (by decide) ?_
    replace h := Option.some.inj h
    subst h
    exact q_reti X Y hr hlocks (Nat.le_of_ble_eq_true rfl) (Nat.le_of_ble_eq_true rfl) dX8_firstWrong_43
  · replace h := Eq.trans (if_neg c1).symm h
    refine lv_aload_n hx hb dX8_firstWrong_18 rfl (lv_at hl 0 rfl) ?_
    refine lv_iload_n hx hb dX8_firstWrong_19 rfl (lv_at hl 2 rfl) ?_
    refine lv_aload_n hx hb dX8_firstWrong_20 rfl (lv_at hl 1 rfl) ?_
    replace h := xb h
    obtain ⟨v2, ev2, h⟩ := h
    refine q_getN X Y fl_X8_19 ev2 dX8_firstWrong_21 ?_
    refine lv_aload_n hx hb dX8_firstWrong_24 rfl (lv_at hl 1 rfl) ?_
    replace h := xb h
    obtain ⟨v3, ev3, h⟩ := h
    refine q_getN X Y fl_X8_25 ev3 dX8_firstWrong_25 ?_
    by_cases c4 : hKd f a0 = some 6
    · replace h := Eq.trans (if_pos c4).symm h
      replace h := xb h
      obtain ⟨q5, eq5, h⟩ := h
      refine q_callU X Y hl.1 (rest := []) (As := [.int a2, .ref v2, .ref v3]) (c_X8_holds l G z f a0 a2 v2 v3 _ eq5) cd_X8_holds lu_X8_28_6 c4 ⟨(Nat.le_of_ble_eq_true rfl), (Nat.le_of_ble_eq_true rfl)⟩ ⟨(Nat.le_of_ble_eq_true rfl), (Nat.le_of_ble_eq_true rfl)⟩ rfl rfl (Nat.le_of_ble_eq_true rfl) dX8_firstWrong_28 (fun H locs Y => ?_)
      refine W.eq (g2 := F0 m 31 ls [.int q5.1]) rfl ?_
      refine lv_if_ne (tgt := 36) hx hb dX8_firstWrong_31 (by decide) (fun c6 => ?_) (fun c6 => ?_)
      · replace h := Eq.trans (if_neg c6).symm h
        refine lv_iinc (v := (a2 + 1)) (lv' := [(2, .int (a2 + 1)), (0, .ref a0), (1, .ref a1)]) hx hb dX8_firstWrong_36 hl (k := 2) rfl rfl (by decide) rfl (fun ls hl => ?_)
        refine lv_goto (tgt := 12) hx hb dX8_firstWrong_39 (by decide) ?_
        refine W.widen (k := 0) (n := 0) (Nat.le_of_ble_eq_true rfl) (Nat.le_of_ble_eq_true rfl) ?_
        exact hk12 q5.2 a0 a1 (a2 + 1) _ _ _ h Y (lv_sub hl [1, 2, 0] rfl)
      · replace h := Eq.trans (if_pos c6).symm h
        refine lv_iload_n hx hb dX8_firstWrong_34 rfl (lv_at hl 2 rfl) ?_
        replace h := Option.some.inj h
        subst h
        exact q_reti X Y hr hlocks (Nat.le_of_ble_eq_true rfl) (Nat.le_of_ble_eq_true rfl) dX8_firstWrong_35
    replace h := Eq.trans (if_neg c4).symm h
    by_cases c7 : hKd f a0 = some 7
    · replace h := Eq.trans (if_pos c7).symm h
      replace h := xb h
      obtain ⟨q8, eq8, h⟩ := h
      refine q_callV X Y hl.1 (rest := []) (As := [.int a2, .ref v2, .ref v3]) (c_X8_holds l G z f a0 a2 v2 v3 _ eq8) cd_X8_holds lv_X8_28_7 c7 ⟨(Nat.le_of_ble_eq_true rfl), (Nat.le_of_ble_eq_true rfl)⟩ ⟨(Nat.le_of_ble_eq_true rfl), (Nat.le_of_ble_eq_true rfl)⟩ rfl rfl (Nat.le_of_ble_eq_true rfl) dX8_firstWrong_28 (fun H locs Y => ?_)
      refine W.eq (g2 := F0 m 31 ls [.int q8.1]) rfl ?_
      refine lv_if_ne (tgt := 36) hx hb dX8_firstWrong_31 (by decide) (fun c9 => ?_) (fun c9 => ?_)
      · replace h := Eq.trans (if_neg c9).symm h
        refine lv_iinc (v := (a2 + 1)) (lv' := [(2, .int (a2 + 1)), (0, .ref a0), (1, .ref a1)]) hx hb dX8_firstWrong_36 hl (k := 2) rfl rfl (by decide) rfl (fun ls hl => ?_)
        refine lv_goto (tgt := 12) hx hb dX8_firstWrong_39 (by decide) ?_
        refine W.widen (k := 0) (n := 0) (Nat.le_of_ble_eq_true rfl) (Nat.le_of_ble_eq_true rfl) ?_
        exact hk12 q8.2 a0 a1 (a2 + 1) _ _ _ h Y (lv_sub hl [1, 2, 0] rfl)
      · replace h := Eq.trans (if_pos c9).symm h
        refine lv_iload_n hx hb dX8_firstWrong_34 rfl (lv_at hl 2 rfl) ?_
        replace h := Option.some.inj h
        subst h
        exact q_reti X Y hr hlocks (Nat.le_of_ble_eq_true rfl) (Nat.le_of_ble_eq_true rfl) dX8_firstWrong_35
    replace h := Eq.trans (if_neg c7).symm h
    cases h
set_option maxRecDepth 100000 in
set_option maxHeartbeats 4000000 in
theorem lw_X8_firstWrong_12 {p : Program} {l : Launch} {e : Env} {s : State} {m : MethodId} {args : Array Value} {below : List Frame} {meth : Method} {c : Code} {G : xG} {z : Nat} (X : xC G p m c s args RX8 cX8_firstWrong 3) (hr : meth.sig.returnType = (some .int)) (hlocks : meth.locks = false) (hin : meth.name = yX8_firstWrong.name) (rs : Int32 × xHp)  : ∀ (n : Nat) (f : xHp) (a0 : Nat) (a1 : Nat) (a2 : Int32) (H : Heap) (locs : List Loc) (ls : Array Slot), L_X8_firstWrong_12  n f a0 a1 a2 = some rs → xY G z f s H locs → lv_has ls 3 [(0, .ref a0), (1, .ref a1), (2, .int a2)] → W p l e rm_X8_firstWrong s m args below meth c H locs 0 0 (MQ below (xQ G (some (.int rs.1)) z rs.2) args s rm_X8_firstWrong.cells rm_X8_firstWrong.slots (xA G)) (F0 m 12 ls []) := by
  intro n
  induction n with
  | zero => intro f a0 a1 a2 H locs ls h Y hl; cases h
  | succ n ih => intro f a0 a1 a2 H locs ls h Y hl; exact w_X8_firstWrong_12 X hr hlocks hin rs _ ih f a0 a1 a2 _ _ _ h Y hl
set_option maxRecDepth 100000 in
set_option maxHeartbeats 4000000 in
theorem c_X8_firstWrong (l : Launch) (G : xG) (z : Nat) (f : xHp) (h0 : Nat) (p1 : Nat) (rs : Int32 × xHp) (h : F_X8_firstWrong f h0 p1 = some rs) : xM G l yX8_firstWrong cX8_firstWrong 3 (some .int) rm_X8_firstWrong [.ref h0, .ref p1] z f (some (.int rs.1)) z rs.2 := by
  refine xM_of (by decide) (Nat.le_of_ble_eq_true rfl) ?_
  intro p e s m below meth c ls X hr hlocks hin Y hl
  have hl : lv_has ls 3 [(0, .ref h0), (1, .ref p1)] := hl
  have hx := X.1.1
  have hb := X.1.2.1
  unfold F_X8_firstWrong at h
  refine lv_aload_n hx hb dX8_firstWrong_0 rfl (lv_at hl 0 rfl) ?_
  by_cases c1 : hKd f h0 = some 6
  · replace h := Eq.trans (if_pos c1).symm h
    replace h := xb h
    obtain ⟨q2, eq2, h⟩ := h
    refine q_callU X Y hl.1 (rest := []) (As := []) (c_X7_hasWeightsAbove l G z f h0 _ eq2) cd_X7_hasWeightsAbove lu_X8_15_6 c1 ⟨(Nat.le_of_ble_eq_true rfl), (Nat.le_of_ble_eq_true rfl)⟩ ⟨(Nat.le_of_ble_eq_true rfl), (Nat.le_of_ble_eq_true rfl)⟩ rfl rfl (Nat.le_of_ble_eq_true rfl) dX8_firstWrong_1 (fun H locs Y => ?_)
    refine W.eq (g2 := F0 m 4 ls [.int q2]) rfl ?_
    refine lv_if_ne (tgt := 10) hx hb dX8_firstWrong_4 (by decide) (fun c3 => ?_) (fun c3 => ?_)
    · replace h := Eq.trans (if_neg c3).symm h
      refine lv_iconst (v := 0) hx hb dX8_firstWrong_10 (by decide) ?_
      refine lv_istore_n (lv' := [(2, .int (0 : Int32)), (0, .ref h0), (1, .ref p1)]) hx hb dX8_firstWrong_11 rfl hl (by decide) rfl (fun ls hl => ?_)
      refine W.widen (k := 0) (n := 0) (Nat.le_of_ble_eq_true rfl) (Nat.le_of_ble_eq_true rfl) ?_
      exact lw_X8_firstWrong_12 X hr hlocks hin rs  xfuel f h0 p1 (0 : Int32) _ _ _ h Y (lv_sub hl [1, 2, 0] rfl)
    · replace h := Eq.trans (if_pos c3).symm h
      refine lv_bipush (v := 9) hx hb dX8_firstWrong_7 (by decide) ?_
      replace h := Option.some.inj h
      subst h
      exact q_reti X Y hr hlocks (Nat.le_of_ble_eq_true rfl) (Nat.le_of_ble_eq_true rfl) dX8_firstWrong_9
  replace h := Eq.trans (if_neg c1).symm h
  by_cases c4 : hKd f h0 = some 7
  · replace h := Eq.trans (if_pos c4).symm h
    replace h := xb h
    obtain ⟨q5, eq5, h⟩ := h
    refine q_callV X Y hl.1 (rest := []) (As := []) (c_X8_hasWeightsAbove l G z f h0 _ eq5) cd_X8_hasWeightsAbove lv_X8_15_7 c4 ⟨(Nat.le_of_ble_eq_true rfl), (Nat.le_of_ble_eq_true rfl)⟩ ⟨(Nat.le_of_ble_eq_true rfl), (Nat.le_of_ble_eq_true rfl)⟩ rfl rfl (Nat.le_of_ble_eq_true rfl) dX8_firstWrong_1 (fun H locs Y => ?_)
    refine W.eq (g2 := F0 m 4 ls [.int q5]) rfl ?_
    refine lv_if_ne (tgt := 10) hx hb dX8_firstWrong_4 (by decide) (fun c6 => ?_) (fun c6 => ?_)
    · replace h := Eq.trans (if_neg c6).symm h
      refine lv_iconst (v := 0) hx hb dX8_firstWrong_10 (by decide) ?_
      refine lv_istore_n (lv' := [(2, .int (0 : Int32)), (0, .ref h0), (1, .ref p1)]) hx hb dX8_firstWrong_11 rfl hl (by decide) rfl (fun ls hl => ?_)
      refine W.widen (k := 0) (n := 0) (Nat.le_of_ble_eq_true rfl) (Nat.le_of_ble_eq_true rfl) ?_
      exact lw_X8_firstWrong_12 X hr hlocks hin rs  xfuel f h0 p1 (0 : Int32) _ _ _ h Y (lv_sub hl [1, 2, 0] rfl)
    · replace h := Eq.trans (if_pos c6).symm h
      refine lv_bipush (v := 9) hx hb dX8_firstWrong_7 (by decide) ?_
      replace h := Option.some.inj h
      subst h
      exact q_reti X Y hr hlocks (Nat.le_of_ble_eq_true rfl) (Nat.le_of_ble_eq_true rfl) dX8_firstWrong_9
  replace h := Eq.trans (if_neg c4).symm h
  cases h
/-! NeverBelow.check(I)I -/
abbrev rm_X10_check : Room := { frames := 6, cells := 0, slots := 0, locals := 159 }
def F_X10_check (f : xHp) (h0 : Nat) (p1 : Int32) : Option (Int32 × xHp) := if hKd f h0 = some 9 then (Option.bind (F_X10_proofOf f h0 p1) fun q2 => xnul q2 (some ((-1 : Int32), f)) (fun q4 => Option.bind (hN f h0 [(9, 5)]) fun v5 => if hKd f q4 = some 0 then (Option.bind (F_X0_firstWrong f q4 v5) fun q7 => if 0 ≤ q7.1 then (some (((-20 : Int32) - q7.1), q7.2)) else (some ((1 : Int32), q7.2))) else if hKd f q4 = some 3 then (Option.bind (F_X3_firstWrong f q4 v5) fun q10 => if 0 ≤ q10.1 then (some (((-20 : Int32) - q10.1), q10.2)) else (some ((1 : Int32), q10.2))) else if hKd f q4 = some 6 then (Option.bind (F_X8_firstWrong f q4 v5) fun q13 => if 0 ≤ q13.1 then (some (((-20 : Int32) - q13.1), q13.2)) else (some ((1 : Int32), q13.2))) else if hKd f q4 = some 7 then (Option.bind (F_X8_firstWrong f q4 v5) fun q16 => if 0 ≤ q16.1 then (some (((-20 : Int32) - q16.1), q16.2)) else (some ((1 : Int32), q16.2))) else none)) else none
set_option maxRecDepth 100000 in
set_option maxHeartbeats 4000000 in
theorem c_X10_check (l : Launch) (G : xG) (z : Nat) (f : xHp) (h0 : Nat) (p1 : Int32) (rs : Int32 × xHp) (h : F_X10_check f h0 p1 = some rs) : xM G l yX10_check cX10_check 4 (some .int) rm_X10_check [.ref h0, .int p1] z f (some (.int rs.1)) z rs.2 := by
  refine xM_of (by decide) (Nat.le_of_ble_eq_true rfl) ?_
  intro p e s m below meth c ls X hr hlocks hin Y hl
  have hl : lv_has ls 4 [(0, .ref h0), (1, .int p1)] := hl
  have hx := X.1.1
  have hb := X.1.2.1
  unfold F_X10_check at h
  refine lv_aload_n hx hb dX10_check_0 rfl (lv_at hl 0 rfl) ?_
  refine lv_iload_n hx hb dX10_check_1 rfl (lv_at hl 1 rfl) ?_
  by_cases c1 : hKd f h0 = some 9
  · replace h := Eq.trans (if_pos c1).symm h
    replace h := xb h
    obtain ⟨q2, eq2, h⟩ := h
    refine q_callV X Y hl.1 (rest := []) (As := [.int p1]) (c_X10_proofOf l G z f h0 p1 _ eq2) cd_X10_proofOf lv_X10_268_9 c1 ⟨(Nat.le_of_ble_eq_true rfl), (Nat.le_of_ble_eq_true rfl)⟩ ⟨(Nat.le_of_ble_eq_true rfl), (Nat.le_of_ble_eq_true rfl)⟩ rfl rfl (Nat.le_of_ble_eq_true rfl) dX10_check_2 (fun H locs Y => ?_)
    refine W.eq (g2 := F0 m 5 ls [va_rf q2]) rfl ?_
    refine q_astore_n (lv' := [(2, va_rf q2), (0, .ref h0), (1, .int p1)]) hx hb dX10_check_5 rfl hl (by decide) rfl (fun ls hl => ?_)
    refine q_aload_n hx hb dX10_check_6 rfl (lv_at hl 0 rfl) ?_
    refine q_ifnonnull (tgt := 12) hx hb dX10_check_7 (by decide) (fun c3 => ?_) (fun q4 eq4 => ?_)
    · replace h := xn0 h c3
      subst c3
      have hl : lv_has ls 4 [(2, .null), (0, .ref h0), (1, .int p1)] := hl
      refine lv_iconst (v := -1) hx hb dX10_check_10 (by decide) ?_
      replace h := Option.some.inj h
      subst h
      exact q_reti X Y hr hlocks (Nat.le_of_ble_eq_true rfl) (Nat.le_of_ble_eq_true rfl) dX10_check_11
    · replace h := xn1 h eq4
      subst eq4
      have hl : lv_has ls 4 [(2, .ref q4), (0, .ref h0), (1, .int p1)] := hl
      refine lv_aload_n hx hb dX10_check_12 rfl (lv_at hl 0 rfl) ?_
      refine lv_aload_n hx hb dX10_check_13 rfl (lv_at hl 1 rfl) ?_
      replace h := xb h
      obtain ⟨v5, ev5, h⟩ := h
      refine q_getN X Y fl_X10_43 ev5 dX10_check_14 ?_
      by_cases c6 : hKd f q4 = some 0
      · replace h := Eq.trans (if_pos c6).symm h
        replace h := xb h
        obtain ⟨q7, eq7, h⟩ := h
        refine q_callU X Y hl.1 (rest := []) (As := [.ref v5]) (c_X0_firstWrong l G z f q4 v5 _ eq7) cd_X0_firstWrong lu_X10_288_0 c6 ⟨(Nat.le_of_ble_eq_true rfl), (Nat.le_of_ble_eq_true rfl)⟩ ⟨(Nat.le_of_ble_eq_true rfl), (Nat.le_of_ble_eq_true rfl)⟩ rfl rfl (Nat.le_of_ble_eq_true rfl) dX10_check_17 (fun H locs Y => ?_)
        refine W.eq (g2 := F0 m 20 ls [.int q7.1]) rfl ?_
        refine lv_istore_n (lv' := [(3, .int q7.1), (2, .ref q4), (0, .ref h0), (1, .int p1)]) hx hb dX10_check_20 rfl hl (by decide) rfl (fun ls hl => ?_)
        refine lv_iload_n hx hb dX10_check_21 rfl (lv_at hl 0 rfl) ?_
        refine lv_if_ge (tgt := 29) hx hb dX10_check_22 (by decide) (fun c8 => ?_) (fun c8 => ?_)
        · replace h := Eq.trans (if_pos c8).symm h
          refine lv_bipush (v := -20) hx hb dX10_check_29 (by decide) ?_
          refine lv_iload_n hx hb dX10_check_31 rfl (lv_at hl 0 rfl) ?_
          refine lv_isub hx hb dX10_check_32 ?_
          replace h := Option.some.inj h
          subst h
          exact q_reti X Y hr hlocks (Nat.le_of_ble_eq_true rfl) (Nat.le_of_ble_eq_true rfl) dX10_check_33
        · replace h := Eq.trans (if_neg c8).symm h
          refine lv_iconst (v := 1) hx hb dX10_check_25 (by decide) ?_
          refine lv_goto (tgt := 33) hx hb dX10_check_26 (by decide) ?_
          replace h := Option.some.inj h
          subst h
          exact q_reti X Y hr hlocks (Nat.le_of_ble_eq_true rfl) (Nat.le_of_ble_eq_true rfl) dX10_check_33
      replace h := Eq.trans (if_neg c6).symm h
      by_cases c9 : hKd f q4 = some 3
      · replace h := Eq.trans (if_pos c9).symm h
        replace h := xb h
        obtain ⟨q10, eq10, h⟩ := h
        refine q_callU X Y hl.1 (rest := []) (As := [.ref v5]) (c_X3_firstWrong l G z f q4 v5 _ eq10) cd_X3_firstWrong lu_X10_288_3 c9 ⟨(Nat.le_of_ble_eq_true rfl), (Nat.le_of_ble_eq_true rfl)⟩ ⟨(Nat.le_of_ble_eq_true rfl), (Nat.le_of_ble_eq_true rfl)⟩ rfl rfl (Nat.le_of_ble_eq_true rfl) dX10_check_17 (fun H locs Y => ?_)
        refine W.eq (g2 := F0 m 20 ls [.int q10.1]) rfl ?_
        refine lv_istore_n (lv' := [(3, .int q10.1), (2, .ref q4), (0, .ref h0), (1, .int p1)]) hx hb dX10_check_20 rfl hl (by decide) rfl (fun ls hl => ?_)
        refine lv_iload_n hx hb dX10_check_21 rfl (lv_at hl 0 rfl) ?_
        refine lv_if_ge (tgt := 29) hx hb dX10_check_22 (by decide) (fun c11 => ?_) (fun c11 => ?_)
        · replace h := Eq.trans (if_pos c11).symm h
          refine lv_bipush (v := -20) hx hb dX10_check_29 (by decide) ?_
          refine lv_iload_n hx hb dX10_check_31 rfl (lv_at hl 0 rfl) ?_
          refine lv_isub hx hb dX10_check_32 ?_
          replace h := Option.some.inj h
          subst h
          exact q_reti X Y hr hlocks (Nat.le_of_ble_eq_true rfl) (Nat.le_of_ble_eq_true rfl) dX10_check_33
        · replace h := Eq.trans (if_neg c11).symm h
          refine lv_iconst (v := 1) hx hb dX10_check_25 (by decide) ?_
          refine lv_goto (tgt := 33) hx hb dX10_check_26 (by decide) ?_
          replace h := Option.some.inj h
          subst h
          exact q_reti X Y hr hlocks (Nat.le_of_ble_eq_true rfl) (Nat.le_of_ble_eq_true rfl) dX10_check_33
      replace h := Eq.trans (if_neg c9).symm h
      by_cases c12 : hKd f q4 = some 6
      · replace h := Eq.trans (if_pos c12).symm h
        replace h := xb h
        obtain ⟨q13, eq13, h⟩ := h
        refine q_callU X Y hl.1 (rest := []) (As := [.ref v5]) (c_X8_firstWrong l G z f q4 v5 _ eq13) cd_X8_firstWrong lu_X10_288_6 c12 ⟨(Nat.le_of_ble_eq_true rfl), (Nat.le_of_ble_eq_true rfl)⟩ ⟨(Nat.le_of_ble_eq_true rfl), (Nat.le_of_ble_eq_true rfl)⟩ rfl rfl (Nat.le_of_ble_eq_true rfl) dX10_check_17 (fun H locs Y => ?_)
        refine W.eq (g2 := F0 m 20 ls [.int q13.1]) rfl ?_
        refine lv_istore_n (lv' := [(3, .int q13.1), (2, .ref q4), (0, .ref h0), (1, .int p1)]) hx hb dX10_check_20 rfl hl (by decide) rfl (fun ls hl => ?_)
        refine lv_iload_n hx hb dX10_check_21 rfl (lv_at hl 0 rfl) ?_
        refine lv_if_ge (tgt := 29) hx hb dX10_check_22 (by decide) (fun c14 => ?_) (fun c14 => ?_)
        · replace h := Eq.trans (if_pos c14).symm h
          refine lv_bipush (v := -20) hx hb dX10_check_29 (by decide) ?_
          refine lv_iload_n hx hb dX10_check_31 rfl (lv_at hl 0 rfl) ?_
          refine lv_isub hx hb dX10_check_32 ?_
          replace h := Option.some.inj h
          subst h
          exact q_reti X Y hr hlocks (Nat.le_of_ble_eq_true rfl) (Nat.le_of_ble_eq_true rfl) dX10_check_33
        · replace h := Eq.trans (if_neg c14).symm h
          refine lv_iconst (v := 1) hx hb dX10_check_25 (by decide) ?_
          refine lv_goto (tgt := 33) hx hb dX10_check_26 (by decide) ?_
          replace h := Option.some.inj h
          subst h
          exact q_reti X Y hr hlocks (Nat.le_of_ble_eq_true rfl) (Nat.le_of_ble_eq_true rfl) dX10_check_33
      replace h := Eq.trans (if_neg c12).symm h
      by_cases c15 : hKd f q4 = some 7
      · replace h := Eq.trans (if_pos c15).symm h
        replace h := xb h
        obtain ⟨q16, eq16, h⟩ := h
        refine q_callU X Y hl.1 (rest := []) (As := [.ref v5]) (c_X8_firstWrong l G z f q4 v5 _ eq16) cd_X8_firstWrong lu_X10_288_7 c15 ⟨(Nat.le_of_ble_eq_true rfl), (Nat.le_of_ble_eq_true rfl)⟩ ⟨(Nat.le_of_ble_eq_true rfl), (Nat.le_of_ble_eq_true rfl)⟩ rfl rfl (Nat.le_of_ble_eq_true rfl) dX10_check_17 (fun H locs Y => ?_)
        refine W.eq (g2 := F0 m 20 ls [.int q16.1]) rfl ?_
        refine lv_istore_n (lv' := [(3, .int q16.1), (2, .ref q4), (0, .ref h0), (1, .int p1)]) hx hb dX10_check_20 rfl hl (by decide) rfl (fun ls hl => ?_)
        refine lv_iload_n hx hb dX10_check_21 rfl (lv_at hl 0 rfl) ?_
        refine lv_if_ge (tgt := 29) hx hb dX10_check_22 (by decide) (fun c17 => ?_) (fun c17 => ?_)
        · replace h := Eq.trans (if_pos c17).symm h
          refine lv_bipush (v := -20) hx hb dX10_check_29 (by decide) ?_
          refine lv_iload_n hx hb dX10_check_31 rfl (lv_at hl 0 rfl) ?_
          refine lv_isub hx hb dX10_check_32 ?_
          replace h := Option.some.inj h
          subst h
          exact q_reti X Y hr hlocks (Nat.le_of_ble_eq_true rfl) (Nat.le_of_ble_eq_true rfl) dX10_check_33
        · replace h := Eq.trans (if_neg c17).symm h
          refine lv_iconst (v := 1) hx hb dX10_check_25 (by decide) ?_
          refine lv_goto (tgt := 33) hx hb dX10_check_26 (by decide) ?_
          replace h := Option.some.inj h
          subst h
          exact q_reti X Y hr hlocks (Nat.le_of_ble_eq_true rfl) (Nat.le_of_ble_eq_true rfl) dX10_check_33
      replace h := Eq.trans (if_neg c15).symm h
      cases h
  replace h := Eq.trans (if_neg c1).symm h
  cases h
/-! NeverBelow.isOfKind(LNeverBelow$Proof;I)Z -/
abbrev rm_X10_isOfKind : Room := { frames := 0, cells := 0, slots := 0, locals := 0 }
def F_X10_isOfKind (f : xHp) (p0 : Nat) (p1 : Int32) : Option (Int32) := if p1 = 0 then Option.bind (hKd f p0) fun n2 => Option.bind (xis 7 n2) fun v3 => Option.bind (hZ v3) fun v4 => some v4 else if p1 = 1 then Option.bind (hKd f p0) fun n6 => Option.bind (xis 0 n6) fun v7 => Option.bind (hZ v7) fun v8 => some v8 else if p1 = 2 then Option.bind (hKd f p0) fun n10 => Option.bind (xis 3 n10) fun v11 => Option.bind (hZ v11) fun v12 => some v12 else if p1 = 3 then Option.bind (hKd f p0) fun n14 => Option.bind (xis 6 n14) fun v15 => Option.bind (hZ v15) fun v16 => some v16 else some (1 : Int32)
set_option maxRecDepth 100000 in
set_option maxHeartbeats 4000000 in
theorem c_X10_isOfKind (l : Launch) (G : xG) (z : Nat) (f : xHp) (p0 : Nat) (p1 : Int32) (rs : Int32) (h : F_X10_isOfKind f p0 p1 = some rs) : xM G l yX10_isOfKind cX10_isOfKind 2 (some .boolean) rm_X10_isOfKind [.ref p0, .int p1] z f (some (.int rs)) z f := by
  refine xM_of (by decide) (Nat.le_of_ble_eq_true rfl) ?_
  intro p e s m below meth c ls X hr hlocks hin Y hl
  have hl : lv_has ls 2 [(0, .ref p0), (1, .int p1)] := hl
  have hx := X.1.1
  have hb := X.1.2.1
  unfold F_X10_isOfKind at h
  refine lv_iload_n hx hb dX10_isOfKind_0 rfl (lv_at hl 1 rfl) ?_
  by_cases c1 : p1 = 0
  · replace h := Eq.trans (if_pos c1).symm h
    refine lv_tableIn (tgt := 32) hx hb dX10_isOfKind_1 (by rw [c1]; decide) (by rw [c1]; decide) (by rw [c1]; rfl) (by decide) ?_
    refine lv_aload_n hx hb dX10_isOfKind_32 rfl (lv_at hl 0 rfl) ?_
    replace h := xb h
    obtain ⟨n2, en2, h⟩ := h
    replace h := xb h
    obtain ⟨v3, ev3, h⟩ := h
    refine q_inst X Y (by decide) xw_452 xw_1251 xw_1252 en2 ev3 dX10_isOfKind_33 ?_
    replace h := xb h
    obtain ⟨v4, ev4, h⟩ := h
    obtain ⟨ev4, kv4⟩ := hZ_of ev4
    rw [ev4] at h
    replace h := Option.some.inj h
    subst h
    exact q_retz (v := v3) X Y hr hlocks kv4 (Nat.le_of_ble_eq_true rfl) (Nat.le_of_ble_eq_true rfl) dX10_isOfKind_36
  replace h := Eq.trans (if_neg c1).symm h
  by_cases c5 : p1 = 1
  · replace h := Eq.trans (if_pos c5).symm h
    refine lv_tableIn (tgt := 37) hx hb dX10_isOfKind_1 (by rw [c5]; decide) (by rw [c5]; decide) (by rw [c5]; rfl) (by decide) ?_
    refine lv_aload_n hx hb dX10_isOfKind_37 rfl (lv_at hl 0 rfl) ?_
    replace h := xb h
    obtain ⟨n6, en6, h⟩ := h
    replace h := xb h
    obtain ⟨v7, ev7, h⟩ := h
    refine q_inst X Y (by decide) xw_500 xw_1251 xw_1252 en6 ev7 dX10_isOfKind_38 ?_
    replace h := xb h
    obtain ⟨v8, ev8, h⟩ := h
    obtain ⟨ev8, kv8⟩ := hZ_of ev8
    rw [ev8] at h
    replace h := Option.some.inj h
    subst h
    exact q_retz (v := v7) X Y hr hlocks kv8 (Nat.le_of_ble_eq_true rfl) (Nat.le_of_ble_eq_true rfl) dX10_isOfKind_41
  replace h := Eq.trans (if_neg c5).symm h
  by_cases c9 : p1 = 2
  · replace h := Eq.trans (if_pos c9).symm h
    refine lv_tableIn (tgt := 42) hx hb dX10_isOfKind_1 (by rw [c9]; decide) (by rw [c9]; decide) (by rw [c9]; rfl) (by decide) ?_
    refine lv_aload_n hx hb dX10_isOfKind_42 rfl (lv_at hl 0 rfl) ?_
    replace h := xb h
    obtain ⟨n10, en10, h⟩ := h
    replace h := xb h
    obtain ⟨v11, ev11, h⟩ := h
    refine q_inst X Y (by decide) xw_541 xw_1251 xw_1252 en10 ev11 dX10_isOfKind_43 ?_
    replace h := xb h
    obtain ⟨v12, ev12, h⟩ := h
    obtain ⟨ev12, kv12⟩ := hZ_of ev12
    rw [ev12] at h
    replace h := Option.some.inj h
    subst h
    exact q_retz (v := v11) X Y hr hlocks kv12 (Nat.le_of_ble_eq_true rfl) (Nat.le_of_ble_eq_true rfl) dX10_isOfKind_46
  replace h := Eq.trans (if_neg c9).symm h
  by_cases c13 : p1 = 3
  · replace h := Eq.trans (if_pos c13).symm h
    refine lv_tableIn (tgt := 47) hx hb dX10_isOfKind_1 (by rw [c13]; decide) (by rw [c13]; decide) (by rw [c13]; rfl) (by decide) ?_
    refine lv_aload_n hx hb dX10_isOfKind_47 rfl (lv_at hl 0 rfl) ?_
    replace h := xb h
    obtain ⟨n14, en14, h⟩ := h
    replace h := xb h
    obtain ⟨v15, ev15, h⟩ := h
    refine q_inst X Y (by decide) xw_569 xw_1251 xw_1252 en14 ev15 dX10_isOfKind_48 ?_
    replace h := xb h
    obtain ⟨v16, ev16, h⟩ := h
    obtain ⟨ev16, kv16⟩ := hZ_of ev16
    rw [ev16] at h
    replace h := Option.some.inj h
    subst h
    exact q_retz (v := v15) X Y hr hlocks kv16 (Nat.le_of_ble_eq_true rfl) (Nat.le_of_ble_eq_true rfl) dX10_isOfKind_51
  replace h := Eq.trans (if_neg c13).symm h
  have nc1 := xneI (k := 0) (by decide) c1
  have nc5 := xneI (k := 1) (by decide) c5
  have nc9 := xneI (k := 2) (by decide) c9
  have nc13 := xneI (k := 3) (by decide) c13
  refine lv_tableOut (tgt := 52) hx hb dX10_isOfKind_1 (by omega) (by decide) ?_
  refine lv_iconst (v := 1) hx hb dX10_isOfKind_52 (by decide) ?_
  replace h := Option.some.inj h
  subst h
  exact q_retz (v := (1 : Int32)) X Y hr hlocks rfl (Nat.le_of_ble_eq_true rfl) (Nat.le_of_ble_eq_true rfl) dX10_isOfKind_53
/-! NeverBelow.as(II)I -/
abbrev rm_X10_as : Room := { frames := 1, cells := 0, slots := 0, locals := 21 }
def F_X10_as (f : xHp) (h0 : Nat) (p1 : Int32) (p2 : Int32) : Option (Int32 × xHp) := Option.bind (hPut f h0 [(9, 9)] (.int (0 : Int32))) fun f1 => if hKd f1 h0 = some 9 then (Option.bind (F_X10_proofOf f1 h0 p1) fun q3 => xnul q3 (some ((-1 : Int32), f1)) (fun q5 => if p2 < 0 then (some ((-2 : Int32), f1)) else (if p2 ≤ (4 : Int32) then (Option.bind (F_X10_isOfKind f1 q5 p2) fun q8 => if q8 = 0 then (if hKd f1 h0 = some 9 then (Option.bind (F_X10_faulted f1 h0 (2 : Int32)) fun q11 => some (q11.1, q11.2)) else none) else (some ((1 : Int32), f1))) else (some ((-2 : Int32), f1))))) else none
set_option maxRecDepth 100000 in
set_option maxHeartbeats 4000000 in
theorem c_X10_as (l : Launch) (G : xG) (z : Nat) (f : xHp) (h0 : Nat) (p1 : Int32) (p2 : Int32) (rs : Int32 × xHp) (h : F_X10_as f h0 p1 p2 = some rs) : xM G l yX10_as cX10_as 4 (some .int) rm_X10_as [.ref h0, .int p1, .int p2] z f (some (.int rs.1)) z rs.2 := by
  refine xM_of (by decide) (Nat.le_of_ble_eq_true rfl) ?_
  intro p e s m below meth c ls X hr hlocks hin Y hl
  have hl : lv_has ls 4 [(0, .ref h0), (1, .int p1), (2, .int p2)] := hl
  have hx := X.1.1
  have hb := X.1.2.1
  unfold F_X10_as at h
  refine lv_aload_n hx hb dX10_as_0 rfl (lv_at hl 0 rfl) ?_
  refine lv_iconst (v := 0) hx hb dX10_as_1 (by decide) ?_
  replace h := xb h
  obtain ⟨f1, ef1, h⟩ := h
  refine q_put X Y fp_X10_47 rfl rfl ef1 dX10_as_2 (fun H locs Y => ?_)
  refine lv_aload_n hx hb dX10_as_5 rfl (lv_at hl 0 rfl) ?_
  refine lv_iload_n hx hb dX10_as_6 rfl (lv_at hl 1 rfl) ?_
  by_cases c2 : hKd f1 h0 = some 9
  · replace h := Eq.trans (if_pos c2).symm h
    replace h := xb h
    obtain ⟨q3, eq3, h⟩ := h
    refine q_callV X Y hl.1 (rest := []) (As := [.int p1]) (c_X10_proofOf l G z f1 h0 p1 _ eq3) cd_X10_proofOf lv_X10_268_9 c2 ⟨(Nat.le_of_ble_eq_true rfl), (Nat.le_of_ble_eq_true rfl)⟩ ⟨(Nat.le_of_ble_eq_true rfl), (Nat.le_of_ble_eq_true rfl)⟩ rfl rfl (Nat.le_of_ble_eq_true rfl) dX10_as_7 (fun H locs Y => ?_)
    refine W.eq (g2 := F0 m 10 ls [va_rf q3]) rfl ?_
    refine q_astore_n (lv' := [(3, va_rf q3), (0, .ref h0), (1, .int p1), (2, .int p2)]) hx hb dX10_as_10 rfl hl (by decide) rfl (fun ls hl => ?_)
    refine q_aload_n hx hb dX10_as_11 rfl (lv_at hl 0 rfl) ?_
    refine q_ifnonnull (tgt := 17) hx hb dX10_as_12 (by decide) (fun c4 => ?_) (fun q5 eq5 => ?_)
    · replace h := xn0 h c4
      subst c4
      have hl : lv_has ls 4 [(3, .null), (0, .ref h0), (1, .int p1), (2, .int p2)] := hl
      refine lv_iconst (v := -1) hx hb dX10_as_15 (by decide) ?_
      replace h := Option.some.inj h
      subst h
      exact q_reti X Y hr hlocks (Nat.le_of_ble_eq_true rfl) (Nat.le_of_ble_eq_true rfl) dX10_as_16
    · replace h := xn1 h eq5
      subst eq5
      have hl : lv_has ls 4 [(3, .ref q5), (0, .ref h0), (1, .int p1), (2, .int p2)] := hl
      refine lv_iload_n hx hb dX10_as_17 rfl (lv_at hl 3 rfl) ?_
      refine lv_if_lt (tgt := 26) hx hb dX10_as_18 (by decide) (fun c6 => ?_) (fun c6 => ?_)
      · replace h := Eq.trans (if_pos c6).symm h
        refine lv_bipush (v := -2) hx hb dX10_as_26 (by decide) ?_
        replace h := Option.some.inj h
        subst h
        exact q_reti X Y hr hlocks (Nat.le_of_ble_eq_true rfl) (Nat.le_of_ble_eq_true rfl) dX10_as_28
      · replace h := Eq.trans (if_neg c6).symm h
        refine lv_iload_n hx hb dX10_as_21 rfl (lv_at hl 3 rfl) ?_
        refine lv_iconst (v := 4) hx hb dX10_as_22 (by decide) ?_
        refine lv_icmp_le (tgt := 29) hx hb dX10_as_23 (by decide) (fun c7 => ?_) (fun c7 => ?_)
        · replace h := Eq.trans (if_pos c7).symm h
          refine lv_aload_n hx hb dX10_as_29 rfl (lv_at hl 0 rfl) ?_
          refine lv_iload_n hx hb dX10_as_30 rfl (lv_at hl 3 rfl) ?_
          replace h := xb h
          obtain ⟨q8, eq8, h⟩ := h
          refine q_callS X Y hl.1 (rest := []) (As := [.ref q5, .int p2]) (c_X10_isOfKind l G z f1 q5 p2 _ eq8) cd_X10_isOfKind ls_X10_292 ⟨(Nat.le_of_ble_eq_true rfl), (Nat.le_of_ble_eq_true rfl)⟩ ⟨(Nat.le_of_ble_eq_true rfl), (Nat.le_of_ble_eq_true rfl)⟩ rfl rfl (Nat.le_of_ble_eq_true rfl) dX10_as_31 (fun H locs Y => ?_)
          refine W.eq (g2 := F0 m 34 ls [.int q8]) rfl ?_
          refine lv_if_eq (tgt := 41) hx hb dX10_as_34 (by decide) (fun c9 => ?_) (fun c9 => ?_)
          · replace h := Eq.trans (if_pos c9).symm h
            refine lv_aload_n hx hb dX10_as_41 rfl (lv_at hl 1 rfl) ?_
            refine lv_iconst (v := 2) hx hb dX10_as_42 (by decide) ?_
            by_cases c10 : hKd f1 h0 = some 9
            · replace h := Eq.trans (if_pos c10).symm h
              replace h := xb h
              obtain ⟨q11, eq11, h⟩ := h
              refine q_callV X Y hl.1 (rest := []) (As := [.int (2 : Int32)]) (c_X10_faulted l G z f1 h0 (2 : Int32) _ eq11) cd_X10_faulted lv_X10_58_9 c10 ⟨(Nat.le_of_ble_eq_true rfl), (Nat.le_of_ble_eq_true rfl)⟩ ⟨(Nat.le_of_ble_eq_true rfl), (Nat.le_of_ble_eq_true rfl)⟩ rfl rfl (Nat.le_of_ble_eq_true rfl) dX10_as_43 (fun H locs Y => ?_)
              refine W.eq (g2 := F0 m 46 ls [.int q11.1]) rfl ?_
              replace h := Option.some.inj h
              subst h
              exact q_reti X Y hr hlocks (Nat.le_of_ble_eq_true rfl) (Nat.le_of_ble_eq_true rfl) dX10_as_46
            replace h := Eq.trans (if_neg c10).symm h
            cases h
          · replace h := Eq.trans (if_neg c9).symm h
            refine lv_iconst (v := 1) hx hb dX10_as_37 (by decide) ?_
            refine lv_goto (tgt := 46) hx hb dX10_as_38 (by decide) ?_
            replace h := Option.some.inj h
            subst h
            exact q_reti X Y hr hlocks (Nat.le_of_ble_eq_true rfl) (Nat.le_of_ble_eq_true rfl) dX10_as_46
        · replace h := Eq.trans (if_neg c7).symm h
          refine lv_bipush (v := -2) hx hb dX10_as_26 (by decide) ?_
          replace h := Option.some.inj h
          subst h
          exact q_reti X Y hr hlocks (Nat.le_of_ble_eq_true rfl) (Nat.le_of_ble_eq_true rfl) dX10_as_28
  replace h := Eq.trans (if_neg c2).symm h
  cases h
/-! NeverBelow$Desk.begin(I)V -/
abbrev rm_X1_begin : Room := { frames := 0, cells := 0, slots := 0, locals := 0 }
def F_X1_begin (f : xHp) (h0 : Nat) (p1 : Int32) : Option (xHp) := Option.bind (hI f h0 [(1, 4)]) fun v1 => Option.bind (hPut f h0 [(1, 4)] (.int (((31 : Int32) * v1) + p1))) fun f2 => some f2
set_option maxRecDepth 100000 in
set_option maxHeartbeats 4000000 in
theorem c_X1_begin (l : Launch) (G : xG) (z : Nat) (f : xHp) (h0 : Nat) (p1 : Int32) (rs : xHp) (h : F_X1_begin f h0 p1 = some rs) : xM G l yX1_begin cX1_begin 2 none rm_X1_begin [.ref h0, .int p1] z f none z rs := by
  refine xM_of (by decide) (Nat.le_of_ble_eq_true rfl) ?_
  intro p e s m below meth c ls X hr hlocks hin Y hl
  have hl : lv_has ls 2 [(0, .ref h0), (1, .int p1)] := hl
  have hx := X.1.1
  have hb := X.1.2.1
  unfold F_X1_begin at h
  refine lv_aload_n hx hb dX1_begin_0 rfl (lv_at hl 0 rfl) ?_
  refine lv_bipush (v := 31) hx hb dX1_begin_1 (by decide) ?_
  refine lv_aload_n hx hb dX1_begin_3 rfl (lv_at hl 0 rfl) ?_
  replace h := xb h
  obtain ⟨v1, ev1, h⟩ := h
  refine q_getI X Y fl_X1_32 ev1 dX1_begin_4 ?_
  refine lv_imul hx hb dX1_begin_7 ?_
  refine lv_iload_n hx hb dX1_begin_8 rfl (lv_at hl 1 rfl) ?_
  refine lv_iadd hx hb dX1_begin_9 ?_
  replace h := xb h
  obtain ⟨f2, ef2, h⟩ := h
  refine q_put X Y fp_X1_32 rfl rfl ef2 dX1_begin_10 (fun H locs Y => ?_)
  replace h := Option.some.inj h
  subst h
  exact q_retv X Y hr hlocks (Nat.le_of_ble_eq_true rfl) (Nat.le_of_ble_eq_true rfl) dX1_begin_13
/-! NeverBelow$Proof.telling(LNeverBelow$Desk;)I -/
abbrev rm_X5_telling : Room := { frames := 1, cells := 0, slots := 0, locals := 21 }
def F_X5_telling (f : xHp) (h0 : Nat) (p1 : Nat) : Option (Int32 × xHp) := if hKd f p1 = some 1 then (Option.bind (F_X1_begin f p1 (1 : Int32)) fun q2 => Option.bind (hN q2 h0 [(0, 3), (3, 5), (6, 3), (7, 3)]) fun v3 => Option.bind (hLen q2 v3) fun v4 => some (v4, q2)) else none
set_option maxRecDepth 100000 in
set_option maxHeartbeats 4000000 in
theorem c_X5_telling (l : Launch) (G : xG) (z : Nat) (f : xHp) (h0 : Nat) (p1 : Nat) (rs : Int32 × xHp) (h : F_X5_telling f h0 p1 = some rs) : xM G l yX5_telling cX5_telling 2 (some .int) rm_X5_telling [.ref h0, .ref p1] z f (some (.int rs.1)) z rs.2 := by
  refine xM_of (by decide) (Nat.le_of_ble_eq_true rfl) ?_
  intro p e s m below meth c ls X hr hlocks hin Y hl
  have hl : lv_has ls 2 [(0, .ref h0), (1, .ref p1)] := hl
  have hx := X.1.1
  have hb := X.1.2.1
  unfold F_X5_telling at h
  refine lv_aload_n hx hb dX5_telling_0 rfl (lv_at hl 1 rfl) ?_
  refine lv_iconst (v := 1) hx hb dX5_telling_1 (by decide) ?_
  by_cases c1 : hKd f p1 = some 1
  · replace h := Eq.trans (if_pos c1).symm h
    replace h := xb h
    obtain ⟨q2, eq2, h⟩ := h
    refine q_callV X Y hl.1 (rest := []) (As := [.int (1 : Int32)]) (c_X1_begin l G z f p1 (1 : Int32) _ eq2) cd_X1_begin lv_X5_26_1 c1 ⟨(Nat.le_of_ble_eq_true rfl), (Nat.le_of_ble_eq_true rfl)⟩ ⟨(Nat.le_of_ble_eq_true rfl), (Nat.le_of_ble_eq_true rfl)⟩ rfl rfl (Nat.le_of_ble_eq_true rfl) dX5_telling_2 (fun H locs Y => ?_)
    refine W.eq (g2 := F0 m 5 ls []) rfl ?_
    refine lv_aload_n hx hb dX5_telling_5 rfl (lv_at hl 0 rfl) ?_
    replace h := xb h
    obtain ⟨v3, ev3, h⟩ := h
    refine q_getN X Y fl_X5_22 ev3 dX5_telling_6 ?_
    replace h := xb h
    obtain ⟨v4, ev4, h⟩ := h
    refine q_alen X Y ev4 dX5_telling_9 ?_
    replace h := Option.some.inj h
    subst h
    exact q_reti X Y hr hlocks (Nat.le_of_ble_eq_true rfl) (Nat.le_of_ble_eq_true rfl) dX5_telling_10
  replace h := Eq.trans (if_neg c1).symm h
  cases h
/-! NeverBelow$CornersProof.telling(LNeverBelow$Desk;)I -/
abbrev rm_X0_telling : Room := { frames := 2, cells := 0, slots := 0, locals := 42 }
def F_X0_telling (f : xHp) (h0 : Nat) (p1 : Nat) : Option (Int32 × xHp) := if hKd f p1 = some 1 then (Option.bind (F_X1_begin f p1 (3 : Int32)) fun q2 => if hKd q2 h0 = some 0 then (Option.bind (F_X5_telling q2 h0 p1) fun q4 => some (((9 : Int32) + q4.1), q4.2)) else if hKd q2 h0 = some 3 then (Option.bind (F_X5_telling q2 h0 p1) fun q6 => some (((9 : Int32) + q6.1), q6.2)) else none) else none
set_option maxRecDepth 100000 in
set_option maxHeartbeats 4000000 in
theorem c_X0_telling (l : Launch) (G : xG) (z : Nat) (f : xHp) (h0 : Nat) (p1 : Nat) (rs : Int32 × xHp) (h : F_X0_telling f h0 p1 = some rs) : xM G l yX0_telling cX0_telling 2 (some .int) rm_X0_telling [.ref h0, .ref p1] z f (some (.int rs.1)) z rs.2 := by
  refine xM_of (by decide) (Nat.le_of_ble_eq_true rfl) ?_
  intro p e s m below meth c ls X hr hlocks hin Y hl
  have hl : lv_has ls 2 [(0, .ref h0), (1, .ref p1)] := hl
  have hx := X.1.1
  have hb := X.1.2.1
  unfold F_X0_telling at h
  refine lv_aload_n hx hb dX0_telling_0 rfl (lv_at hl 1 rfl) ?_
  refine lv_iconst (v := 3) hx hb dX0_telling_1 (by decide) ?_
  by_cases c1 : hKd f p1 = some 1
  · replace h := Eq.trans (if_pos c1).symm h
    replace h := xb h
    obtain ⟨q2, eq2, h⟩ := h
    refine q_callV X Y hl.1 (rest := []) (As := [.int (3 : Int32)]) (c_X1_begin l G z f p1 (3 : Int32) _ eq2) cd_X1_begin lv_X0_19_1 c1 ⟨(Nat.le_of_ble_eq_true rfl), (Nat.le_of_ble_eq_true rfl)⟩ ⟨(Nat.le_of_ble_eq_true rfl), (Nat.le_of_ble_eq_true rfl)⟩ rfl rfl (Nat.le_of_ble_eq_true rfl) dX0_telling_2 (fun H locs Y => ?_)
    refine W.eq (g2 := F0 m 5 ls []) rfl ?_
    refine lv_bipush (v := 9) hx hb dX0_telling_5 (by decide) ?_
    refine lv_aload_n hx hb dX0_telling_7 rfl (lv_at hl 0 rfl) ?_
    refine lv_aload_n hx hb dX0_telling_8 rfl (lv_at hl 1 rfl) ?_
    by_cases c3 : hKd q2 h0 = some 0
    · replace h := Eq.trans (if_pos c3).symm h
      replace h := xb h
      obtain ⟨q4, eq4, h⟩ := h
      refine q_callSU X Y hl.1 (rest := [.int (9 : Int32)]) (As := [.ref p1]) (c_X5_telling l G z q2 h0 p1 _ eq4) cd_X5_telling lsu_X0_25_0 c3 ⟨(Nat.le_of_ble_eq_true rfl), (Nat.le_of_ble_eq_true rfl)⟩ ⟨(Nat.le_of_ble_eq_true rfl), (Nat.le_of_ble_eq_true rfl)⟩ rfl rfl (Nat.le_of_ble_eq_true rfl) dX0_telling_9 (fun H locs Y => ?_)
      refine W.eq (g2 := F0 m 12 ls [.int q4.1, .int (9 : Int32)]) rfl ?_
      refine lv_iadd hx hb dX0_telling_12 ?_
      replace h := Option.some.inj h
      subst h
      exact q_reti X Y hr hlocks (Nat.le_of_ble_eq_true rfl) (Nat.le_of_ble_eq_true rfl) dX0_telling_13
    replace h := Eq.trans (if_neg c3).symm h
    by_cases c5 : hKd q2 h0 = some 3
    · replace h := Eq.trans (if_pos c5).symm h
      replace h := xb h
      obtain ⟨q6, eq6, h⟩ := h
      refine q_callSU X Y hl.1 (rest := [.int (9 : Int32)]) (As := [.ref p1]) (c_X5_telling l G z q2 h0 p1 _ eq6) cd_X5_telling lsu_X0_25_3 c5 ⟨(Nat.le_of_ble_eq_true rfl), (Nat.le_of_ble_eq_true rfl)⟩ ⟨(Nat.le_of_ble_eq_true rfl), (Nat.le_of_ble_eq_true rfl)⟩ rfl rfl (Nat.le_of_ble_eq_true rfl) dX0_telling_9 (fun H locs Y => ?_)
      refine W.eq (g2 := F0 m 12 ls [.int q6.1, .int (9 : Int32)]) rfl ?_
      refine lv_iadd hx hb dX0_telling_12 ?_
      replace h := Option.some.inj h
      subst h
      exact q_reti X Y hr hlocks (Nat.le_of_ble_eq_true rfl) (Nat.le_of_ble_eq_true rfl) dX0_telling_13
    replace h := Eq.trans (if_neg c5).symm h
    cases h
  replace h := Eq.trans (if_neg c1).symm h
  cases h
/-! NeverBelow$PartsProof.telling(LNeverBelow$Desk;)I -/
abbrev rm_X3_telling : Room := { frames := 3, cells := 0, slots := 0, locals := 63 }
def F_X3_telling (f : xHp) (h0 : Nat) (p1 : Nat) : Option (Int32 × xHp) := if hKd f p1 = some 1 then (Option.bind (F_X1_begin f p1 (4 : Int32)) fun q2 => if hKd q2 h0 = some 3 then (Option.bind (F_X0_telling q2 h0 p1) fun q4 => some ((q4.1 - (9 : Int32)), q4.2)) else none) else none
set_option maxRecDepth 100000 in
set_option maxHeartbeats 4000000 in
theorem c_X3_telling (l : Launch) (G : xG) (z : Nat) (f : xHp) (h0 : Nat) (p1 : Nat) (rs : Int32 × xHp) (h : F_X3_telling f h0 p1 = some rs) : xM G l yX3_telling cX3_telling 2 (some .int) rm_X3_telling [.ref h0, .ref p1] z f (some (.int rs.1)) z rs.2 := by
  refine xM_of (by decide) (Nat.le_of_ble_eq_true rfl) ?_
  intro p e s m below meth c ls X hr hlocks hin Y hl
  have hl : lv_has ls 2 [(0, .ref h0), (1, .ref p1)] := hl
  have hx := X.1.1
  have hb := X.1.2.1
  unfold F_X3_telling at h
  refine lv_aload_n hx hb dX3_telling_0 rfl (lv_at hl 1 rfl) ?_
  refine lv_iconst (v := 4) hx hb dX3_telling_1 (by decide) ?_
  by_cases c1 : hKd f p1 = some 1
  · replace h := Eq.trans (if_pos c1).symm h
    replace h := xb h
    obtain ⟨q2, eq2, h⟩ := h
    refine q_callV X Y hl.1 (rest := []) (As := [.int (4 : Int32)]) (c_X1_begin l G z f p1 (4 : Int32) _ eq2) cd_X1_begin lv_X3_15_1 c1 ⟨(Nat.le_of_ble_eq_true rfl), (Nat.le_of_ble_eq_true rfl)⟩ ⟨(Nat.le_of_ble_eq_true rfl), (Nat.le_of_ble_eq_true rfl)⟩ rfl rfl (Nat.le_of_ble_eq_true rfl) dX3_telling_2 (fun H locs Y => ?_)
    refine W.eq (g2 := F0 m 5 ls []) rfl ?_
    refine lv_aload_n hx hb dX3_telling_5 rfl (lv_at hl 0 rfl) ?_
    refine lv_aload_n hx hb dX3_telling_6 rfl (lv_at hl 1 rfl) ?_
    by_cases c3 : hKd q2 h0 = some 3
    · replace h := Eq.trans (if_pos c3).symm h
      replace h := xb h
      obtain ⟨q4, eq4, h⟩ := h
      refine q_callSU X Y hl.1 (rest := []) (As := [.ref p1]) (c_X0_telling l G z q2 h0 p1 _ eq4) cd_X0_telling lsu_X3_21_3 c3 ⟨(Nat.le_of_ble_eq_true rfl), (Nat.le_of_ble_eq_true rfl)⟩ ⟨(Nat.le_of_ble_eq_true rfl), (Nat.le_of_ble_eq_true rfl)⟩ rfl rfl (Nat.le_of_ble_eq_true rfl) dX3_telling_7 (fun H locs Y => ?_)
      refine W.eq (g2 := F0 m 10 ls [.int q4.1]) rfl ?_
      refine lv_bipush (v := 9) hx hb dX3_telling_10 (by decide) ?_
      refine lv_isub hx hb dX3_telling_12 ?_
      replace h := Option.some.inj h
      subst h
      exact q_reti X Y hr hlocks (Nat.le_of_ble_eq_true rfl) (Nat.le_of_ble_eq_true rfl) dX3_telling_13
    replace h := Eq.trans (if_neg c3).symm h
    cases h
  replace h := Eq.trans (if_neg c1).symm h
  cases h
/-! NeverBelow$SpanProof.telling(LNeverBelow$Desk;)I -/
abbrev rm_X7_telling : Room := { frames := 2, cells := 0, slots := 0, locals := 42 }
def F_X7_telling (f : xHp) (h0 : Nat) (p1 : Nat) : Option (Int32 × xHp) := if hKd f p1 = some 1 then (Option.bind (F_X1_begin f p1 (2 : Int32)) fun q2 => if hKd q2 h0 = some 6 then (Option.bind (F_X5_telling q2 h0 p1) fun q4 => some (((2 : Int32) * q4.1), q4.2)) else none) else none
set_option maxRecDepth 100000 in
set_option maxHeartbeats 4000000 in
theorem c_X7_telling (l : Launch) (G : xG) (z : Nat) (f : xHp) (h0 : Nat) (p1 : Nat) (rs : Int32 × xHp) (h : F_X7_telling f h0 p1 = some rs) : xM G l yX7_telling cX7_telling 2 (some .int) rm_X7_telling [.ref h0, .ref p1] z f (some (.int rs.1)) z rs.2 := by
  refine xM_of (by decide) (Nat.le_of_ble_eq_true rfl) ?_
  intro p e s m below meth c ls X hr hlocks hin Y hl
  have hl : lv_has ls 2 [(0, .ref h0), (1, .ref p1)] := hl
  have hx := X.1.1
  have hb := X.1.2.1
  unfold F_X7_telling at h
  refine lv_aload_n hx hb dX7_telling_0 rfl (lv_at hl 1 rfl) ?_
  refine lv_iconst (v := 2) hx hb dX7_telling_1 (by decide) ?_
  by_cases c1 : hKd f p1 = some 1
  · replace h := Eq.trans (if_pos c1).symm h
    replace h := xb h
    obtain ⟨q2, eq2, h⟩ := h
    refine q_callV X Y hl.1 (rest := []) (As := [.int (2 : Int32)]) (c_X1_begin l G z f p1 (2 : Int32) _ eq2) cd_X1_begin lv_X7_19_1 c1 ⟨(Nat.le_of_ble_eq_true rfl), (Nat.le_of_ble_eq_true rfl)⟩ ⟨(Nat.le_of_ble_eq_true rfl), (Nat.le_of_ble_eq_true rfl)⟩ rfl rfl (Nat.le_of_ble_eq_true rfl) dX7_telling_2 (fun H locs Y => ?_)
    refine W.eq (g2 := F0 m 5 ls []) rfl ?_
    refine lv_iconst (v := 2) hx hb dX7_telling_5 (by decide) ?_
    refine lv_aload_n hx hb dX7_telling_6 rfl (lv_at hl 0 rfl) ?_
    refine lv_aload_n hx hb dX7_telling_7 rfl (lv_at hl 1 rfl) ?_
    by_cases c3 : hKd q2 h0 = some 6
    · replace h := Eq.trans (if_pos c3).symm h
      replace h := xb h
      obtain ⟨q4, eq4, h⟩ := h
      refine q_callSX X Y hl.1 (rest := [.int (2 : Int32)]) (As := [.ref p1]) (c_X5_telling l G z q2 h0 p1 _ eq4) cd_X5_telling lsx_X7_25_6 c3 ⟨(Nat.le_of_ble_eq_true rfl), (Nat.le_of_ble_eq_true rfl)⟩ ⟨(Nat.le_of_ble_eq_true rfl), (Nat.le_of_ble_eq_true rfl)⟩ rfl rfl (Nat.le_of_ble_eq_true rfl) dX7_telling_8 (fun H locs Y => ?_)
      refine W.eq (g2 := F0 m 11 ls [.int q4.1, .int (2 : Int32)]) rfl ?_
      refine lv_imul hx hb dX7_telling_11 ?_
      replace h := Option.some.inj h
      subst h
      exact q_reti X Y hr hlocks (Nat.le_of_ble_eq_true rfl) (Nat.le_of_ble_eq_true rfl) dX7_telling_12
    replace h := Eq.trans (if_neg c3).symm h
    cases h
  replace h := Eq.trans (if_neg c1).symm h
  cases h
/-! NeverBelow.tell(I)I -/
abbrev rm_X10_tell : Room := { frames := 4, cells := 0, slots := 0, locals := 84 }
def F_X10_tell (f : xHp) (h0 : Nat) (p1 : Int32) : Option (Int32 × xHp) := if hKd f h0 = some 9 then (Option.bind (F_X10_proofOf f h0 p1) fun q2 => xnul q2 (some ((-1 : Int32), f)) (fun q4 => Option.bind (hN f h0 [(9, 5)]) fun v5 => if hKd f q4 = some 0 then (Option.bind (F_X0_telling f q4 v5) fun q7 => some (q7.1, q7.2)) else if hKd f q4 = some 3 then (Option.bind (F_X3_telling f q4 v5) fun q9 => some (q9.1, q9.2)) else if hKd f q4 = some 6 then (Option.bind (F_X7_telling f q4 v5) fun q11 => some (q11.1, q11.2)) else if hKd f q4 = some 7 then (Option.bind (F_X5_telling f q4 v5) fun q13 => some (q13.1, q13.2)) else none)) else none
set_option maxRecDepth 100000 in
set_option maxHeartbeats 4000000 in
theorem c_X10_tell (l : Launch) (G : xG) (z : Nat) (f : xHp) (h0 : Nat) (p1 : Int32) (rs : Int32 × xHp) (h : F_X10_tell f h0 p1 = some rs) : xM G l yX10_tell cX10_tell 3 (some .int) rm_X10_tell [.ref h0, .int p1] z f (some (.int rs.1)) z rs.2 := by
  refine xM_of (by decide) (Nat.le_of_ble_eq_true rfl) ?_
  intro p e s m below meth c ls X hr hlocks hin Y hl
  have hl : lv_has ls 3 [(0, .ref h0), (1, .int p1)] := hl
  have hx := X.1.1
  have hb := X.1.2.1
  unfold F_X10_tell at h
  refine lv_aload_n hx hb dX10_tell_0 rfl (lv_at hl 0 rfl) ?_
  refine lv_iload_n hx hb dX10_tell_1 rfl (lv_at hl 1 rfl) ?_
  by_cases c1 : hKd f h0 = some 9
  · replace h := Eq.trans (if_pos c1).symm h
    replace h := xb h
    obtain ⟨q2, eq2, h⟩ := h
    refine q_callV X Y hl.1 (rest := []) (As := [.int p1]) (c_X10_proofOf l G z f h0 p1 _ eq2) cd_X10_proofOf lv_X10_268_9 c1 ⟨(Nat.le_of_ble_eq_true rfl), (Nat.le_of_ble_eq_true rfl)⟩ ⟨(Nat.le_of_ble_eq_true rfl), (Nat.le_of_ble_eq_true rfl)⟩ rfl rfl (Nat.le_of_ble_eq_true rfl) dX10_tell_2 (fun H locs Y => ?_)
    refine W.eq (g2 := F0 m 5 ls [va_rf q2]) rfl ?_
    refine q_astore_n (lv' := [(2, va_rf q2), (0, .ref h0), (1, .int p1)]) hx hb dX10_tell_5 rfl hl (by decide) rfl (fun ls hl => ?_)
    refine q_aload_n hx hb dX10_tell_6 rfl (lv_at hl 0 rfl) ?_
    refine q_ifnonnull (tgt := 14) hx hb dX10_tell_7 (by decide) (fun c3 => ?_) (fun q4 eq4 => ?_)
    · replace h := xn0 h c3
      subst c3
      have hl : lv_has ls 3 [(2, .null), (0, .ref h0), (1, .int p1)] := hl
      refine lv_iconst (v := -1) hx hb dX10_tell_10 (by decide) ?_
      refine lv_goto (tgt := 22) hx hb dX10_tell_11 (by decide) ?_
      replace h := Option.some.inj h
      subst h
      exact q_reti X Y hr hlocks (Nat.le_of_ble_eq_true rfl) (Nat.le_of_ble_eq_true rfl) dX10_tell_22
    · replace h := xn1 h eq4
      subst eq4
      have hl : lv_has ls 3 [(2, .ref q4), (0, .ref h0), (1, .int p1)] := hl
      refine lv_aload_n hx hb dX10_tell_14 rfl (lv_at hl 0 rfl) ?_
      refine lv_aload_n hx hb dX10_tell_15 rfl (lv_at hl 1 rfl) ?_
      replace h := xb h
      obtain ⟨v5, ev5, h⟩ := h
      refine q_getN X Y fl_X10_43 ev5 dX10_tell_16 ?_
      by_cases c6 : hKd f q4 = some 0
      · replace h := Eq.trans (if_pos c6).symm h
        replace h := xb h
        obtain ⟨q7, eq7, h⟩ := h
        refine q_callU X Y hl.1 (rest := []) (As := [.ref v5]) (c_X0_telling l G z f q4 v5 _ eq7) cd_X0_telling lu_X10_296_0 c6 ⟨(Nat.le_of_ble_eq_true rfl), (Nat.le_of_ble_eq_true rfl)⟩ ⟨(Nat.le_of_ble_eq_true rfl), (Nat.le_of_ble_eq_true rfl)⟩ rfl rfl (Nat.le_of_ble_eq_true rfl) dX10_tell_19 (fun H locs Y => ?_)
        refine W.eq (g2 := F0 m 22 ls [.int q7.1]) rfl ?_
        replace h := Option.some.inj h
        subst h
        exact q_reti X Y hr hlocks (Nat.le_of_ble_eq_true rfl) (Nat.le_of_ble_eq_true rfl) dX10_tell_22
      replace h := Eq.trans (if_neg c6).symm h
      by_cases c8 : hKd f q4 = some 3
      · replace h := Eq.trans (if_pos c8).symm h
        replace h := xb h
        obtain ⟨q9, eq9, h⟩ := h
        refine q_callU X Y hl.1 (rest := []) (As := [.ref v5]) (c_X3_telling l G z f q4 v5 _ eq9) cd_X3_telling lu_X10_296_3 c8 ⟨(Nat.le_of_ble_eq_true rfl), (Nat.le_of_ble_eq_true rfl)⟩ ⟨(Nat.le_of_ble_eq_true rfl), (Nat.le_of_ble_eq_true rfl)⟩ rfl rfl (Nat.le_of_ble_eq_true rfl) dX10_tell_19 (fun H locs Y => ?_)
        refine W.eq (g2 := F0 m 22 ls [.int q9.1]) rfl ?_
        replace h := Option.some.inj h
        subst h
        exact q_reti X Y hr hlocks (Nat.le_of_ble_eq_true rfl) (Nat.le_of_ble_eq_true rfl) dX10_tell_22
      replace h := Eq.trans (if_neg c8).symm h
      by_cases c10 : hKd f q4 = some 6
      · replace h := Eq.trans (if_pos c10).symm h
        replace h := xb h
        obtain ⟨q11, eq11, h⟩ := h
        refine q_callU X Y hl.1 (rest := []) (As := [.ref v5]) (c_X7_telling l G z f q4 v5 _ eq11) cd_X7_telling lu_X10_296_6 c10 ⟨(Nat.le_of_ble_eq_true rfl), (Nat.le_of_ble_eq_true rfl)⟩ ⟨(Nat.le_of_ble_eq_true rfl), (Nat.le_of_ble_eq_true rfl)⟩ rfl rfl (Nat.le_of_ble_eq_true rfl) dX10_tell_19 (fun H locs Y => ?_)
        refine W.eq (g2 := F0 m 22 ls [.int q11.1]) rfl ?_
        replace h := Option.some.inj h
        subst h
        exact q_reti X Y hr hlocks (Nat.le_of_ble_eq_true rfl) (Nat.le_of_ble_eq_true rfl) dX10_tell_22
      replace h := Eq.trans (if_neg c10).symm h
      by_cases c12 : hKd f q4 = some 7
      · replace h := Eq.trans (if_pos c12).symm h
        replace h := xb h
        obtain ⟨q13, eq13, h⟩ := h
        refine q_callU X Y hl.1 (rest := []) (As := [.ref v5]) (c_X5_telling l G z f q4 v5 _ eq13) cd_X5_telling lu_X10_296_7 c12 ⟨(Nat.le_of_ble_eq_true rfl), (Nat.le_of_ble_eq_true rfl)⟩ ⟨(Nat.le_of_ble_eq_true rfl), (Nat.le_of_ble_eq_true rfl)⟩ rfl rfl (Nat.le_of_ble_eq_true rfl) dX10_tell_19 (fun H locs Y => ?_)
        refine W.eq (g2 := F0 m 22 ls [.int q13.1]) rfl ?_
        replace h := Option.some.inj h
        subst h
        exact q_reti X Y hr hlocks (Nat.le_of_ble_eq_true rfl) (Nat.le_of_ble_eq_true rfl) dX10_tell_22
      replace h := Eq.trans (if_neg c12).symm h
      cases h
  replace h := Eq.trans (if_neg c1).symm h
  cases h
/-! NeverBelow$CornersProof.costing(LNeverBelow$Desk;)I -/
abbrev rm_X0_costing : Room := { frames := 1, cells := 0, slots := 0, locals := 21 }
def F_X0_costing (f : xHp) (h0 : Nat) (p1 : Nat) : Option (Int32 × xHp) := if hKd f p1 = some 1 then (Option.bind (F_X1_begin f p1 (6 : Int32)) fun q2 => some ((7 : Int32), q2)) else none
set_option maxRecDepth 100000 in
set_option maxHeartbeats 4000000 in
theorem c_X0_costing (l : Launch) (G : xG) (z : Nat) (f : xHp) (h0 : Nat) (p1 : Nat) (rs : Int32 × xHp) (h : F_X0_costing f h0 p1 = some rs) : xM G l yX0_costing cX0_costing 2 (some .int) rm_X0_costing [.ref h0, .ref p1] z f (some (.int rs.1)) z rs.2 := by
  refine xM_of (by decide) (Nat.le_of_ble_eq_true rfl) ?_
  intro p e s m below meth c ls X hr hlocks hin Y hl
  have hl : lv_has ls 2 [(0, .ref h0), (1, .ref p1)] := hl
  have hx := X.1.1
  have hb := X.1.2.1
  unfold F_X0_costing at h
  refine lv_aload_n hx hb dX0_costing_0 rfl (lv_at hl 1 rfl) ?_
  refine lv_bipush (v := 6) hx hb dX0_costing_1 (by decide) ?_
  by_cases c1 : hKd f p1 = some 1
  · replace h := Eq.trans (if_pos c1).symm h
    replace h := xb h
    obtain ⟨q2, eq2, h⟩ := h
    refine q_callV X Y hl.1 (rest := []) (As := [.int (6 : Int32)]) (c_X1_begin l G z f p1 (6 : Int32) _ eq2) cd_X1_begin lv_X0_19_1 c1 ⟨(Nat.le_of_ble_eq_true rfl), (Nat.le_of_ble_eq_true rfl)⟩ ⟨(Nat.le_of_ble_eq_true rfl), (Nat.le_of_ble_eq_true rfl)⟩ rfl rfl (Nat.le_of_ble_eq_true rfl) dX0_costing_3 (fun H locs Y => ?_)
    refine W.eq (g2 := F0 m 6 ls []) rfl ?_
    refine lv_bipush (v := 7) hx hb dX0_costing_6 (by decide) ?_
    replace h := Option.some.inj h
    subst h
    exact q_reti X Y hr hlocks (Nat.le_of_ble_eq_true rfl) (Nat.le_of_ble_eq_true rfl) dX0_costing_8
  replace h := Eq.trans (if_neg c1).symm h
  cases h
/-! NeverBelow$Proof.costing(LNeverBelow$Desk;)I -/
abbrev rm_X5_costing : Room := { frames := 1, cells := 0, slots := 0, locals := 21 }
def F_X5_costing (f : xHp) (h0 : Nat) (p1 : Nat) : Option (Int32 × xHp) := if hKd f p1 = some 1 then (Option.bind (F_X1_begin f p1 (5 : Int32)) fun q2 => Option.bind (hN q2 h0 [(0, 3), (3, 5), (6, 3), (7, 3)]) fun v3 => Option.bind (hLen q2 v3) fun v4 => some (((100 : Int32) + v4), q2)) else none
set_option maxRecDepth 100000 in
set_option maxHeartbeats 4000000 in
theorem c_X5_costing (l : Launch) (G : xG) (z : Nat) (f : xHp) (h0 : Nat) (p1 : Nat) (rs : Int32 × xHp) (h : F_X5_costing f h0 p1 = some rs) : xM G l yX5_costing cX5_costing 2 (some .int) rm_X5_costing [.ref h0, .ref p1] z f (some (.int rs.1)) z rs.2 := by
  refine xM_of (by decide) (Nat.le_of_ble_eq_true rfl) ?_
  intro p e s m below meth c ls X hr hlocks hin Y hl
  have hl : lv_has ls 2 [(0, .ref h0), (1, .ref p1)] := hl
  have hx := X.1.1
  have hb := X.1.2.1
  unfold F_X5_costing at h
  refine lv_aload_n hx hb dX5_costing_0 rfl (lv_at hl 1 rfl) ?_
  refine lv_iconst (v := 5) hx hb dX5_costing_1 (by decide) ?_
  by_cases c1 : hKd f p1 = some 1
  · replace h := Eq.trans (if_pos c1).symm h
    replace h := xb h
    obtain ⟨q2, eq2, h⟩ := h
    refine q_callV X Y hl.1 (rest := []) (As := [.int (5 : Int32)]) (c_X1_begin l G z f p1 (5 : Int32) _ eq2) cd_X1_begin lv_X5_26_1 c1 ⟨(Nat.le_of_ble_eq_true rfl), (Nat.le_of_ble_eq_true rfl)⟩ ⟨(Nat.le_of_ble_eq_true rfl), (Nat.le_of_ble_eq_true rfl)⟩ rfl rfl (Nat.le_of_ble_eq_true rfl) dX5_costing_2 (fun H locs Y => ?_)
    refine W.eq (g2 := F0 m 5 ls []) rfl ?_
    refine lv_bipush (v := 100) hx hb dX5_costing_5 (by decide) ?_
    refine lv_aload_n hx hb dX5_costing_7 rfl (lv_at hl 0 rfl) ?_
    replace h := xb h
    obtain ⟨v3, ev3, h⟩ := h
    refine q_getN X Y fl_X5_22 ev3 dX5_costing_8 ?_
    replace h := xb h
    obtain ⟨v4, ev4, h⟩ := h
    refine q_alen X Y ev4 dX5_costing_11 ?_
    refine lv_iadd hx hb dX5_costing_12 ?_
    replace h := Option.some.inj h
    subst h
    exact q_reti X Y hr hlocks (Nat.le_of_ble_eq_true rfl) (Nat.le_of_ble_eq_true rfl) dX5_costing_13
  replace h := Eq.trans (if_neg c1).symm h
  cases h
/-! NeverBelow.cost(I)I -/
abbrev rm_X10_cost : Room := { frames := 2, cells := 0, slots := 0, locals := 42 }
def F_X10_cost (f : xHp) (h0 : Nat) (p1 : Int32) : Option (Int32 × xHp) := if hKd f h0 = some 9 then (Option.bind (F_X10_proofOf f h0 p1) fun q2 => xnul q2 (some ((-1 : Int32), f)) (fun q4 => Option.bind (hN f h0 [(9, 5)]) fun v5 => if hKd f q4 = some 0 then (Option.bind (F_X0_costing f q4 v5) fun q7 => some (q7.1, q7.2)) else if hKd f q4 = some 3 then (Option.bind (F_X0_costing f q4 v5) fun q9 => some (q9.1, q9.2)) else if hKd f q4 = some 6 then (Option.bind (F_X5_costing f q4 v5) fun q11 => some (q11.1, q11.2)) else if hKd f q4 = some 7 then (Option.bind (F_X5_costing f q4 v5) fun q13 => some (q13.1, q13.2)) else none)) else none
set_option maxRecDepth 100000 in
set_option maxHeartbeats 4000000 in
theorem c_X10_cost (l : Launch) (G : xG) (z : Nat) (f : xHp) (h0 : Nat) (p1 : Int32) (rs : Int32 × xHp) (h : F_X10_cost f h0 p1 = some rs) : xM G l yX10_cost cX10_cost 3 (some .int) rm_X10_cost [.ref h0, .int p1] z f (some (.int rs.1)) z rs.2 := by
  refine xM_of (by decide) (Nat.le_of_ble_eq_true rfl) ?_
  intro p e s m below meth c ls X hr hlocks hin Y hl
  have hl : lv_has ls 3 [(0, .ref h0), (1, .int p1)] := hl
  have hx := X.1.1
  have hb := X.1.2.1
  unfold F_X10_cost at h
  refine lv_aload_n hx hb dX10_cost_0 rfl (lv_at hl 0 rfl) ?_
  refine lv_iload_n hx hb dX10_cost_1 rfl (lv_at hl 1 rfl) ?_
  by_cases c1 : hKd f h0 = some 9
  · replace h := Eq.trans (if_pos c1).symm h
    replace h := xb h
    obtain ⟨q2, eq2, h⟩ := h
    refine q_callV X Y hl.1 (rest := []) (As := [.int p1]) (c_X10_proofOf l G z f h0 p1 _ eq2) cd_X10_proofOf lv_X10_268_9 c1 ⟨(Nat.le_of_ble_eq_true rfl), (Nat.le_of_ble_eq_true rfl)⟩ ⟨(Nat.le_of_ble_eq_true rfl), (Nat.le_of_ble_eq_true rfl)⟩ rfl rfl (Nat.le_of_ble_eq_true rfl) dX10_cost_2 (fun H locs Y => ?_)
    refine W.eq (g2 := F0 m 5 ls [va_rf q2]) rfl ?_
    refine q_astore_n (lv' := [(2, va_rf q2), (0, .ref h0), (1, .int p1)]) hx hb dX10_cost_5 rfl hl (by decide) rfl (fun ls hl => ?_)
    refine q_aload_n hx hb dX10_cost_6 rfl (lv_at hl 0 rfl) ?_
    refine q_ifnonnull (tgt := 14) hx hb dX10_cost_7 (by decide) (fun c3 => ?_) (fun q4 eq4 => ?_)
    · replace h := xn0 h c3
      subst c3
      have hl : lv_has ls 3 [(2, .null), (0, .ref h0), (1, .int p1)] := hl
      refine lv_iconst (v := -1) hx hb dX10_cost_10 (by decide) ?_
      refine lv_goto (tgt := 22) hx hb dX10_cost_11 (by decide) ?_
      replace h := Option.some.inj h
      subst h
      exact q_reti X Y hr hlocks (Nat.le_of_ble_eq_true rfl) (Nat.le_of_ble_eq_true rfl) dX10_cost_22
    · replace h := xn1 h eq4
      subst eq4
      have hl : lv_has ls 3 [(2, .ref q4), (0, .ref h0), (1, .int p1)] := hl
      refine lv_aload_n hx hb dX10_cost_14 rfl (lv_at hl 0 rfl) ?_
      refine lv_aload_n hx hb dX10_cost_15 rfl (lv_at hl 1 rfl) ?_
      replace h := xb h
      obtain ⟨v5, ev5, h⟩ := h
      refine q_getN X Y fl_X10_43 ev5 dX10_cost_16 ?_
      by_cases c6 : hKd f q4 = some 0
      · replace h := Eq.trans (if_pos c6).symm h
        replace h := xb h
        obtain ⟨q7, eq7, h⟩ := h
        refine q_callU X Y hl.1 (rest := []) (As := [.ref v5]) (c_X0_costing l G z f q4 v5 _ eq7) cd_X0_costing lu_X10_299_0 c6 ⟨(Nat.le_of_ble_eq_true rfl), (Nat.le_of_ble_eq_true rfl)⟩ ⟨(Nat.le_of_ble_eq_true rfl), (Nat.le_of_ble_eq_true rfl)⟩ rfl rfl (Nat.le_of_ble_eq_true rfl) dX10_cost_19 (fun H locs Y => ?_)
        refine W.eq (g2 := F0 m 22 ls [.int q7.1]) rfl ?_
        replace h := Option.some.inj h
        subst h
        exact q_reti X Y hr hlocks (Nat.le_of_ble_eq_true rfl) (Nat.le_of_ble_eq_true rfl) dX10_cost_22
      replace h := Eq.trans (if_neg c6).symm h
      by_cases c8 : hKd f q4 = some 3
      · replace h := Eq.trans (if_pos c8).symm h
        replace h := xb h
        obtain ⟨q9, eq9, h⟩ := h
        refine q_callU X Y hl.1 (rest := []) (As := [.ref v5]) (c_X0_costing l G z f q4 v5 _ eq9) cd_X0_costing lu_X10_299_3 c8 ⟨(Nat.le_of_ble_eq_true rfl), (Nat.le_of_ble_eq_true rfl)⟩ ⟨(Nat.le_of_ble_eq_true rfl), (Nat.le_of_ble_eq_true rfl)⟩ rfl rfl (Nat.le_of_ble_eq_true rfl) dX10_cost_19 (fun H locs Y => ?_)
        refine W.eq (g2 := F0 m 22 ls [.int q9.1]) rfl ?_
        replace h := Option.some.inj h
        subst h
        exact q_reti X Y hr hlocks (Nat.le_of_ble_eq_true rfl) (Nat.le_of_ble_eq_true rfl) dX10_cost_22
      replace h := Eq.trans (if_neg c8).symm h
      by_cases c10 : hKd f q4 = some 6
      · replace h := Eq.trans (if_pos c10).symm h
        replace h := xb h
        obtain ⟨q11, eq11, h⟩ := h
        refine q_callU X Y hl.1 (rest := []) (As := [.ref v5]) (c_X5_costing l G z f q4 v5 _ eq11) cd_X5_costing lu_X10_299_6 c10 ⟨(Nat.le_of_ble_eq_true rfl), (Nat.le_of_ble_eq_true rfl)⟩ ⟨(Nat.le_of_ble_eq_true rfl), (Nat.le_of_ble_eq_true rfl)⟩ rfl rfl (Nat.le_of_ble_eq_true rfl) dX10_cost_19 (fun H locs Y => ?_)
        refine W.eq (g2 := F0 m 22 ls [.int q11.1]) rfl ?_
        replace h := Option.some.inj h
        subst h
        exact q_reti X Y hr hlocks (Nat.le_of_ble_eq_true rfl) (Nat.le_of_ble_eq_true rfl) dX10_cost_22
      replace h := Eq.trans (if_neg c10).symm h
      by_cases c12 : hKd f q4 = some 7
      · replace h := Eq.trans (if_pos c12).symm h
        replace h := xb h
        obtain ⟨q13, eq13, h⟩ := h
        refine q_callU X Y hl.1 (rest := []) (As := [.ref v5]) (c_X5_costing l G z f q4 v5 _ eq13) cd_X5_costing lu_X10_299_7 c12 ⟨(Nat.le_of_ble_eq_true rfl), (Nat.le_of_ble_eq_true rfl)⟩ ⟨(Nat.le_of_ble_eq_true rfl), (Nat.le_of_ble_eq_true rfl)⟩ rfl rfl (Nat.le_of_ble_eq_true rfl) dX10_cost_19 (fun H locs Y => ?_)
        refine W.eq (g2 := F0 m 22 ls [.int q13.1]) rfl ?_
        replace h := Option.some.inj h
        subst h
        exact q_reti X Y hr hlocks (Nat.le_of_ble_eq_true rfl) (Nat.le_of_ble_eq_true rfl) dX10_cost_22
      replace h := Eq.trans (if_neg c12).symm h
      cases h
  replace h := Eq.trans (if_neg c1).symm h
  cases h
/-! NeverBelow.trace()I -/
abbrev rm_X10_trace : Room := { frames := 0, cells := 0, slots := 0, locals := 0 }
def F_X10_trace (f : xHp) (h0 : Nat) : Option (Int32) := Option.bind (hN f h0 [(9, 5)]) fun v1 => Option.bind (hI f v1 [(1, 4)]) fun v2 => some v2
set_option maxRecDepth 100000 in
set_option maxHeartbeats 4000000 in
theorem c_X10_trace (l : Launch) (G : xG) (z : Nat) (f : xHp) (h0 : Nat) (rs : Int32) (h : F_X10_trace f h0 = some rs) : xM G l yX10_trace cX10_trace 1 (some .int) rm_X10_trace [.ref h0] z f (some (.int rs)) z f := by
  refine xM_of (by decide) (Nat.le_of_ble_eq_true rfl) ?_
  intro p e s m below meth c ls X hr hlocks hin Y hl
  have hl : lv_has ls 1 [(0, .ref h0)] := hl
  have hx := X.1.1
  have hb := X.1.2.1
  unfold F_X10_trace at h
  refine lv_aload_n hx hb dX10_trace_0 rfl (lv_at hl 0 rfl) ?_
  replace h := xb h
  obtain ⟨v1, ev1, h⟩ := h
  refine q_getN X Y fl_X10_43 ev1 dX10_trace_1 ?_
  replace h := xb h
  obtain ⟨v2, ev2, h⟩ := h
  refine q_getI X Y fl_X10_302 ev2 dX10_trace_4 ?_
  replace h := Option.some.inj h
  subst h
  exact q_reti X Y hr hlocks (Nat.le_of_ble_eq_true rfl) (Nat.le_of_ble_eq_true rfl) dX10_trace_7
/-! NeverBelow.fault()I -/
abbrev rm_X10_fault : Room := { frames := 0, cells := 0, slots := 0, locals := 0 }
def F_X10_fault (f : xHp) (h0 : Nat) : Option (Int32) := Option.bind (hI f h0 [(9, 9)]) fun v1 => some v1
set_option maxRecDepth 100000 in
set_option maxHeartbeats 4000000 in
theorem c_X10_fault (l : Launch) (G : xG) (z : Nat) (f : xHp) (h0 : Nat) (rs : Int32) (h : F_X10_fault f h0 = some rs) : xM G l yX10_fault cX10_fault 1 (some .int) rm_X10_fault [.ref h0] z f (some (.int rs)) z f := by
  refine xM_of (by decide) (Nat.le_of_ble_eq_true rfl) ?_
  intro p e s m below meth c ls X hr hlocks hin Y hl
  have hl : lv_has ls 1 [(0, .ref h0)] := hl
  have hx := X.1.1
  have hb := X.1.2.1
  unfold F_X10_fault at h
  refine lv_aload_n hx hb dX10_fault_0 rfl (lv_at hl 0 rfl) ?_
  replace h := xb h
  obtain ⟨v1, ev1, h⟩ := h
  refine q_getI X Y fl_X10_47 ev1 dX10_fault_1 ?_
  replace h := Option.some.inj h
  subst h
  exact q_reti X Y hr hlocks (Nat.le_of_ble_eq_true rfl) (Nat.le_of_ble_eq_true rfl) dX10_fault_4
/-! NeverBelow.told(I)I -/
abbrev rm_X10_told : Room := { frames := 0, cells := 0, slots := 0, locals := 0 }
def F_X10_told (f : xHp) (h0 : Nat) (p1 : Int32) : Option (Int32) := if p1 = 0 then Option.bind (hI f h0 [(9, 6)]) fun v2 => some v2 else if p1 = 1 then Option.bind (hI f h0 [(9, 7)]) fun v4 => some v4 else if p1 = 2 then Option.bind (hI f h0 [(9, 8)]) fun v6 => some v6 else some (-2 : Int32)
set_option maxRecDepth 100000 in
set_option maxHeartbeats 4000000 in
theorem c_X10_told (l : Launch) (G : xG) (z : Nat) (f : xHp) (h0 : Nat) (p1 : Int32) (rs : Int32) (h : F_X10_told f h0 p1 = some rs) : xM G l yX10_told cX10_told 2 (some .int) rm_X10_told [.ref h0, .int p1] z f (some (.int rs)) z f := by
  refine xM_of (by decide) (Nat.le_of_ble_eq_true rfl) ?_
  intro p e s m below meth c ls X hr hlocks hin Y hl
  have hl : lv_has ls 2 [(0, .ref h0), (1, .int p1)] := hl
  have hx := X.1.1
  have hb := X.1.2.1
  unfold F_X10_told at h
  refine lv_iload_n hx hb dX10_told_0 rfl (lv_at hl 1 rfl) ?_
  by_cases c1 : p1 = 0
  · replace h := Eq.trans (if_pos c1).symm h
    refine lv_tableIn (tgt := 28) hx hb dX10_told_1 (by rw [c1]; decide) (by rw [c1]; decide) (by rw [c1]; rfl) (by decide) ?_
    refine lv_aload_n hx hb dX10_told_28 rfl (lv_at hl 0 rfl) ?_
    replace h := xb h
    obtain ⟨v2, ev2, h⟩ := h
    refine q_getI X Y fl_X10_305 ev2 dX10_told_29 ?_
    replace h := Option.some.inj h
    subst h
    exact q_reti X Y hr hlocks (Nat.le_of_ble_eq_true rfl) (Nat.le_of_ble_eq_true rfl) dX10_told_32
  replace h := Eq.trans (if_neg c1).symm h
  by_cases c3 : p1 = 1
  · replace h := Eq.trans (if_pos c3).symm h
    refine lv_tableIn (tgt := 33) hx hb dX10_told_1 (by rw [c3]; decide) (by rw [c3]; decide) (by rw [c3]; rfl) (by decide) ?_
    refine lv_aload_n hx hb dX10_told_33 rfl (lv_at hl 0 rfl) ?_
    replace h := xb h
    obtain ⟨v4, ev4, h⟩ := h
    refine q_getI X Y fl_X10_134 ev4 dX10_told_34 ?_
    replace h := Option.some.inj h
    subst h
    exact q_reti X Y hr hlocks (Nat.le_of_ble_eq_true rfl) (Nat.le_of_ble_eq_true rfl) dX10_told_37
  replace h := Eq.trans (if_neg c3).symm h
  by_cases c5 : p1 = 2
  · replace h := Eq.trans (if_pos c5).symm h
    refine lv_tableIn (tgt := 38) hx hb dX10_told_1 (by rw [c5]; decide) (by rw [c5]; decide) (by rw [c5]; rfl) (by decide) ?_
    refine lv_aload_n hx hb dX10_told_38 rfl (lv_at hl 0 rfl) ?_
    replace h := xb h
    obtain ⟨v6, ev6, h⟩ := h
    refine q_getI X Y fl_X10_308 ev6 dX10_told_39 ?_
    replace h := Option.some.inj h
    subst h
    exact q_reti X Y hr hlocks (Nat.le_of_ble_eq_true rfl) (Nat.le_of_ble_eq_true rfl) dX10_told_42
  replace h := Eq.trans (if_neg c5).symm h
  have nc1 := xneI (k := 0) (by decide) c1
  have nc3 := xneI (k := 1) (by decide) c3
  have nc5 := xneI (k := 2) (by decide) c5
  refine lv_tableOut (tgt := 43) hx hb dX10_told_1 (by omega) (by decide) ?_
  refine lv_bipush (v := -2) hx hb dX10_told_43 (by decide) ?_
  replace h := Option.some.inj h
  subst h
  exact q_reti X Y hr hlocks (Nat.le_of_ble_eq_true rfl) (Nat.le_of_ble_eq_true rfl) dX10_told_45

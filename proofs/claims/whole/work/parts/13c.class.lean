/-! NeverBelow.corner(III)J -/
abbrev rm_X10_corner : Room := { frames := 2, cells := 0, slots := 0, locals := 67 }
def F_X10_corner_27 (f : xHp)    : Option (Int64) := some (-9223372036854775808 : Int64)
def F_X10_corner (f : xHp) (h0 : Nat) (p1 : Int32) (p2 : Int32) (p3 : Int32) : Option (Int64) := if hKd f h0 = some 9 then (Option.bind (F_X10_polynomialOf f h0 p1) fun q2 => xnul q2 (F_X10_corner_27 f) (fun q4 => if hKd f h0 = some 9 then (Option.bind (F_X10_isBox f h0 p2) fun q6 => if q6 = 0 then (F_X10_corner_27 f) else (Option.bind (F_X10_isTerm f p3) fun q8 => if q8 = 0 then (F_X10_corner_27 f) else (Option.bind (hN f h0 [(9, 2)]) fun v10 => if hKd f q4 = some 4 then (Option.bind (F_X4_cornerOn f q4 v10 ((4 : Int32) * p2) p3) fun q12 => some q12) else none))) else none)) else none
set_option maxRecDepth 100000 in
set_option maxHeartbeats 4000000 in
theorem w_X10_corner_27 {p : Program} {l : Launch} {e : Env} {s : State} {m : MethodId} {args : Array Value} {below : List Frame} {meth : Method} {c : Code} {G : xG} {z : Nat} {f : xHp} (X : xC G p m c s args RX10 cX10_corner 5) (hr : meth.sig.returnType = (some .long)) (hlocks : meth.locks = false) (hin : meth.name = yX10_corner.name) (rs : Int64)   (H : Heap) (locs : List Loc) (ls : Array Slot) (h : F_X10_corner_27 f   = some rs) (Y : xY G z f s H locs) (hl : lv_has ls 5 []) : W p l e rm_X10_corner s m args below meth c H locs 0 0 (MQ below (xQ G (some (.long rs)) z f) args s rm_X10_corner.cells rm_X10_corner.slots (xA G)) (F0 m 27 ls []) := by
  have hx := X.1.1
  have hb := X.1.2.1
  unfold F_X10_corner_27 at h
  refine lv_ldc2 (v := -9223372036854775808) hx hb X.1.2.2.2.1 (X.1.2.2.2.2 _ xw_203) dX10_corner_27 ?_
  refine lv_goto (tgt := 46) hx hb dX10_corner_30 (by decide) ?_
  replace h := Option.some.inj h
  subst h
  exact q_retl X Y hr hlocks (Nat.le_of_ble_eq_true rfl) (Nat.le_of_ble_eq_true rfl) dX10_corner_46
set_option maxRecDepth 100000 in
set_option maxHeartbeats 4000000 in
theorem c_X10_corner (l : Launch) (G : xG) (z : Nat) (f : xHp) (h0 : Nat) (p1 : Int32) (p2 : Int32) (p3 : Int32) (rs : Int64) (h : F_X10_corner f h0 p1 p2 p3 = some rs) : xM G l yX10_corner cX10_corner 5 (some .long) rm_X10_corner [.ref h0, .int p1, .int p2, .int p3] z f (some (.long rs)) z f := by
  refine xM_of (by decide) (Nat.le_of_ble_eq_true rfl) ?_
  intro p e s m below meth c ls X hr hlocks hin Y hl
  have hl : lv_has ls 5 [(0, .ref h0), (1, .int p1), (2, .int p2), (3, .int p3)] := hl
  have hx := X.1.1
  have hb := X.1.2.1
  unfold F_X10_corner at h
  refine lv_aload_n hx hb dX10_corner_0 rfl (lv_at hl 0 rfl) ?_
  refine lv_iload_n hx hb dX10_corner_1 rfl (lv_at hl 1 rfl) ?_
  by_cases c1 : hKd f h0 = some 9
  · replace h := Eq.trans (if_pos c1).symm h
    replace h := xb h
    obtain ⟨q2, eq2, h⟩ := h
    refine q_callV X Y hl.1 (rest := []) (As := [.int p1]) (c_X10_polynomialOf l G z f h0 p1 _ eq2) cd_X10_polynomialOf lv_X10_95_9 c1 ⟨(Nat.le_of_ble_eq_true rfl), (Nat.le_of_ble_eq_true rfl)⟩ ⟨(Nat.le_of_ble_eq_true rfl), (Nat.le_of_ble_eq_true rfl)⟩ rfl rfl (Nat.le_of_ble_eq_true rfl) dX10_corner_2 (fun H locs Y => ?_)
    refine W.eq (g2 := F0 m 5 ls [va_rf q2]) rfl ?_
    refine q_astore (lv' := [(4, va_rf q2), (0, .ref h0), (1, .int p1), (2, .int p2), (3, .int p3)]) hx hb dX10_corner_5 hl (by decide) rfl (fun ls hl => ?_)
    refine q_aload hx hb dX10_corner_7 (lv_at hl 0 rfl) ?_
    refine q_ifnull (tgt := 27) hx hb dX10_corner_9 (by decide) (fun c3 => ?_) (fun q4 eq4 => ?_)
    · replace h := xn0 h c3
      subst c3
      have hl : lv_has ls 5 [(4, .null), (0, .ref h0), (1, .int p1), (2, .int p2), (3, .int p3)] := hl
      refine W.widen (k := 0) (n := 0) (Nat.le_of_ble_eq_true rfl) (Nat.le_of_ble_eq_true rfl) ?_
      exact w_X10_corner_27 X hr hlocks hin rs    _ _ _ h Y (lv_sub hl [] rfl)
    · replace h := xn1 h eq4
      subst eq4
      have hl : lv_has ls 5 [(4, .ref q4), (0, .ref h0), (1, .int p1), (2, .int p2), (3, .int p3)] := hl
      refine lv_aload_n hx hb dX10_corner_12 rfl (lv_at hl 1 rfl) ?_
      refine lv_iload_n hx hb dX10_corner_13 rfl (lv_at hl 3 rfl) ?_
      by_cases c5 : hKd f h0 = some 9
      · replace h := Eq.trans (if_pos c5).symm h
        replace h := xb h
        obtain ⟨q6, eq6, h⟩ := h
        refine q_callV X Y hl.1 (rest := []) (As := [.int p2]) (c_X10_isBox l G z f h0 p2 _ eq6) cd_X10_isBox lv_X10_137_9 c5 ⟨(Nat.le_of_ble_eq_true rfl), (Nat.le_of_ble_eq_true rfl)⟩ ⟨(Nat.le_of_ble_eq_true rfl), (Nat.le_of_ble_eq_true rfl)⟩ rfl rfl (Nat.le_of_ble_eq_true rfl) dX10_corner_14 (fun H locs Y => ?_)
        refine W.eq (g2 := F0 m 17 ls [.int q6]) rfl ?_
        refine lv_if_eq (tgt := 27) hx hb dX10_corner_17 (by decide) (fun c7 => ?_) (fun c7 => ?_)
        · replace h := Eq.trans (if_pos c7).symm h
          refine W.widen (k := 0) (n := 0) (Nat.le_of_ble_eq_true rfl) (Nat.le_of_ble_eq_true rfl) ?_
          exact w_X10_corner_27 X hr hlocks hin rs    _ _ _ h Y (lv_sub hl [] rfl)
        · replace h := Eq.trans (if_neg c7).symm h
          refine lv_iload_n hx hb dX10_corner_20 rfl (lv_at hl 4 rfl) ?_
          replace h := xb h
          obtain ⟨q8, eq8, h⟩ := h
          refine q_callS X Y hl.1 (rest := []) (As := [.int p3]) (c_X10_isTerm l G z f p3 _ eq8) cd_X10_isTerm ls_X10_119 ⟨(Nat.le_of_ble_eq_true rfl), (Nat.le_of_ble_eq_true rfl)⟩ ⟨(Nat.le_of_ble_eq_true rfl), (Nat.le_of_ble_eq_true rfl)⟩ rfl rfl (Nat.le_of_ble_eq_true rfl) dX10_corner_21 (fun H locs Y => ?_)
          refine W.eq (g2 := F0 m 24 ls [.int q8]) rfl ?_
          refine lv_if_ne (tgt := 33) hx hb dX10_corner_24 (by decide) (fun c9 => ?_) (fun c9 => ?_)
          · replace h := Eq.trans (if_neg c9).symm h
            refine lv_aload hx hb dX10_corner_33 (lv_at hl 0 rfl) ?_
            refine lv_aload_n hx hb dX10_corner_35 rfl (lv_at hl 1 rfl) ?_
            replace h := xb h
            obtain ⟨v10, ev10, h⟩ := h
            refine q_getN X Y fl_X10_23 ev10 dX10_corner_36 ?_
            refine lv_iconst (v := 4) hx hb dX10_corner_39 (by decide) ?_
            refine lv_iload_n hx hb dX10_corner_40 rfl (lv_at hl 3 rfl) ?_
            refine lv_imul hx hb dX10_corner_41 ?_
            refine lv_iload_n hx hb dX10_corner_42 rfl (lv_at hl 4 rfl) ?_
            by_cases c11 : hKd f q4 = some 4
            · replace h := Eq.trans (if_pos c11).symm h
              replace h := xb h
              obtain ⟨q12, eq12, h⟩ := h
              refine q_callV X Y hl.1 (rest := []) (As := [.ref v10, .int ((4 : Int32) * p2), .int p3]) (c_X4_cornerOn l G z f q4 v10 ((4 : Int32) * p2) p3 _ eq12) cd_X4_cornerOn lv_X10_140_4 c11 ⟨(Nat.le_of_ble_eq_true rfl), (Nat.le_of_ble_eq_true rfl)⟩ ⟨(Nat.le_of_ble_eq_true rfl), (Nat.le_of_ble_eq_true rfl)⟩ rfl rfl (Nat.le_of_ble_eq_true rfl) dX10_corner_43 (fun H locs Y => ?_)
              refine W.eq (g2 := F0 m 46 ls [.long q12]) rfl ?_
              replace h := Option.some.inj h
              subst h
              exact q_retl X Y hr hlocks (Nat.le_of_ble_eq_true rfl) (Nat.le_of_ble_eq_true rfl) dX10_corner_46
            replace h := Eq.trans (if_neg c11).symm h
            cases h
          · replace h := Eq.trans (if_pos c9).symm h
            refine W.widen (k := 0) (n := 0) (Nat.le_of_ble_eq_true rfl) (Nat.le_of_ble_eq_true rfl) ?_
            exact w_X10_corner_27 X hr hlocks hin rs    _ _ _ h Y (lv_sub hl [] rfl)
      replace h := Eq.trans (if_neg c5).symm h
      cases h
  replace h := Eq.trans (if_neg c1).symm h
  cases h
/-! NeverBelow.greatestOf([J)J -/
abbrev rm_X10_greatestOf : Room := { frames := 1, cells := 0, slots := 0, locals := 23 }
def F_X10_greatestOf_6 (f : xHp) (k6 : Nat → Int64 → Int32 → Option (Int64))  (a0 : Nat) (a1 : Int64) (a3 : Int32) : Option (Int64) := Option.bind (hLen f a0) fun v1 => if v1 ≤ a3 then (some a1) else (Option.bind (hJld f a0 a3) fun v3 => Option.bind (F_J9_max_f86c9 f a1 v3) fun q4 => k6 a0 q4 (a3 + 1))
def L_X10_greatestOf_6 (f : xHp)  : Nat → Nat → Int64 → Int32 → Option (Int64)
  | 0, _, _, _ => none
  | n + 1, a0, a1, a3 => F_X10_greatestOf_6 f (L_X10_greatestOf_6 f  n) a0 a1 a3
def F_X10_greatestOf (f : xHp) (p0 : Nat) : Option (Int64) := Option.bind (hJld f p0 (0 : Int32)) fun v1 => L_X10_greatestOf_6 f xfuel p0 v1 (1 : Int32)
set_option maxRecDepth 100000 in
set_option maxHeartbeats 4000000 in
theorem w_X10_greatestOf_6 {p : Program} {l : Launch} {e : Env} {s : State} {m : MethodId} {args : Array Value} {below : List Frame} {meth : Method} {c : Code} {G : xG} {z : Nat} {f : xHp} (X : xC G p m c s args RX10 cX10_greatestOf 4) (hr : meth.sig.returnType = (some .long)) (hlocks : meth.locks = false) (hin : meth.name = yX10_greatestOf.name) (rs : Int64) (k6 : Nat → Int64 → Int32 → Option (Int64)) (hk6 : ∀ (a0 : Nat) (a1 : Int64) (a3 : Int32) (H : Heap) (locs : List Loc) (ls : Array Slot), k6 a0 a1 a3 = some rs → xY G z f s H locs → lv_has ls 4 [(0, .ref a0), (1, .long a1), (3, .int a3)] → W p l e rm_X10_greatestOf s m args below meth c H locs 0 0 (MQ below (xQ G (some (.long rs)) z f) args s rm_X10_greatestOf.cells rm_X10_greatestOf.slots (xA G)) (F0 m 6 ls [])) (a0 : Nat) (a1 : Int64) (a3 : Int32) (H : Heap) (locs : List Loc) (ls : Array Slot) (h : F_X10_greatestOf_6 f k6 a0 a1 a3 = some rs) (Y : xY G z f s H locs) (hl : lv_has ls 4 [(0, .ref a0), (1, .long a1), (3, .int a3)]) : W p l e rm_X10_greatestOf s m args below meth c H locs 0 0 (MQ below (xQ G (some (.long rs)) z f) args s rm_X10_greatestOf.cells rm_X10_greatestOf.slots (xA G)) (F0 m 6 ls []) := by
  have hx := X.1.1
  have hb := X.1.2.1
  unfold F_X10_greatestOf_6 at h
  refine lv_iload_n hx hb dX10_greatestOf_6 rfl (lv_at hl 2 rfl) ?_
  refine lv_aload_n hx hb dX10_greatestOf_7 rfl (lv_at hl 0 rfl) ?_
  replace h := xb h
  obtain ⟨v1, ev1, h⟩ := h
  refine q_alen X Y ev1 dX10_greatestOf_8 ?_
  refine lv_icmp_ge (tgt := 26) hx hb dX10_greatestOf_9 (by decide) (fun c2 => ?_) (fun c2 => ?_)
  · replace h := Eq.trans (if_pos c2).symm h
    refine lv_lload_n hx hb dX10_greatestOf_26 rfl (lv_at hl 1 rfl) ?_
    replace h := Option.some.inj h
    subst h
    exact q_retl X Y hr hlocks (Nat.le_of_ble_eq_true rfl) (Nat.le_of_ble_eq_true rfl) dX10_greatestOf_27
  · replace h := Eq.trans (if_neg c2).symm h
    refine lv_lload_n hx hb dX10_greatestOf_12 rfl (lv_at hl 1 rfl) ?_
    refine lv_aload_n hx hb dX10_greatestOf_13 rfl (lv_at hl 0 rfl) ?_
    refine lv_iload_n hx hb dX10_greatestOf_14 rfl (lv_at hl 2 rfl) ?_
    replace h := xb h
    obtain ⟨v3, ev3, h⟩ := h
    refine q_lald X Y ev3 dX10_greatestOf_15 ?_
    replace h := xb h
    obtain ⟨q4, eq4, h⟩ := h
    refine q_callS X Y hl.1 (rest := []) (As := [.long a1, .long v3]) (c_J9_max_f86c9 l G z f a1 v3 _ eq4) cd_J9_max_f86c9 ls_X10_324 ⟨(Nat.le_of_ble_eq_true rfl), (Nat.le_of_ble_eq_true rfl)⟩ ⟨(Nat.le_of_ble_eq_true rfl), (Nat.le_of_ble_eq_true rfl)⟩ rfl rfl (Nat.le_of_ble_eq_true rfl) dX10_greatestOf_16 (fun H locs Y => ?_)
    refine W.eq (g2 := F0 m 19 ls [.long q4]) rfl ?_
    refine lv_lstore_n (lv' := [(1, .long q4), (0, .ref a0), (3, .int a3)]) hx hb dX10_greatestOf_19 rfl hl (by decide) rfl (fun ls hl => ?_)
    refine lv_iinc (v := (a3 + 1)) (lv' := [(3, .int (a3 + 1)), (1, .long q4), (0, .ref a0)]) hx hb dX10_greatestOf_20 hl (k := 2) rfl rfl (by decide) rfl (fun ls hl => ?_)
    refine lv_goto (tgt := 6) hx hb dX10_greatestOf_23 (by decide) ?_
    refine W.widen (k := 0) (n := 0) (Nat.le_of_ble_eq_true rfl) (Nat.le_of_ble_eq_true rfl) ?_
    exact hk6 a0 q4 (a3 + 1) _ _ _ h Y (lv_sub hl [2, 1, 0] rfl)
set_option maxRecDepth 100000 in
set_option maxHeartbeats 4000000 in
theorem lw_X10_greatestOf_6 {p : Program} {l : Launch} {e : Env} {s : State} {m : MethodId} {args : Array Value} {below : List Frame} {meth : Method} {c : Code} {G : xG} {z : Nat} {f : xHp} (X : xC G p m c s args RX10 cX10_greatestOf 4) (hr : meth.sig.returnType = (some .long)) (hlocks : meth.locks = false) (hin : meth.name = yX10_greatestOf.name) (rs : Int64)  : ∀ (n : Nat) (a0 : Nat) (a1 : Int64) (a3 : Int32) (H : Heap) (locs : List Loc) (ls : Array Slot), L_X10_greatestOf_6 f  n a0 a1 a3 = some rs → xY G z f s H locs → lv_has ls 4 [(0, .ref a0), (1, .long a1), (3, .int a3)] → W p l e rm_X10_greatestOf s m args below meth c H locs 0 0 (MQ below (xQ G (some (.long rs)) z f) args s rm_X10_greatestOf.cells rm_X10_greatestOf.slots (xA G)) (F0 m 6 ls []) := by
  intro n
  induction n with
  | zero => intro a0 a1 a3 H locs ls h Y hl; cases h
  | succ n ih => intro a0 a1 a3 H locs ls h Y hl; exact w_X10_greatestOf_6 X hr hlocks hin rs _ ih a0 a1 a3 _ _ _ h Y hl
set_option maxRecDepth 100000 in
set_option maxHeartbeats 4000000 in
theorem c_X10_greatestOf (l : Launch) (G : xG) (z : Nat) (f : xHp) (p0 : Nat) (rs : Int64) (h : F_X10_greatestOf f p0 = some rs) : xM G l yX10_greatestOf cX10_greatestOf 4 (some .long) rm_X10_greatestOf [.ref p0] z f (some (.long rs)) z f := by
  refine xM_of (by decide) (Nat.le_of_ble_eq_true rfl) ?_
  intro p e s m below meth c ls X hr hlocks hin Y hl
  have hl : lv_has ls 4 [(0, .ref p0)] := hl
  have hx := X.1.1
  have hb := X.1.2.1
  unfold F_X10_greatestOf at h
  refine lv_aload_n hx hb dX10_greatestOf_0 rfl (lv_at hl 0 rfl) ?_
  refine lv_iconst (v := 0) hx hb dX10_greatestOf_1 (by decide) ?_
  replace h := xb h
  obtain ⟨v1, ev1, h⟩ := h
  refine q_lald X Y ev1 dX10_greatestOf_2 ?_
  refine lv_lstore_n (lv' := [(1, .long v1), (0, .ref p0)]) hx hb dX10_greatestOf_3 rfl hl (by decide) rfl (fun ls hl => ?_)
  refine lv_iconst (v := 1) hx hb dX10_greatestOf_4 (by decide) ?_
  refine lv_istore_n (lv' := [(3, .int (1 : Int32)), (1, .long v1), (0, .ref p0)]) hx hb dX10_greatestOf_5 rfl hl (by decide) rfl (fun ls hl => ?_)
  refine W.widen (k := 0) (n := 0) (Nat.le_of_ble_eq_true rfl) (Nat.le_of_ble_eq_true rfl) ?_
  exact lw_X10_greatestOf_6 X hr hlocks hin rs  xfuel p0 v1 (1 : Int32) _ _ _ h Y (lv_sub hl [2, 1, 0] rfl)
/-! NeverBelow.leastOf([J)J -/
abbrev rm_X10_leastOf : Room := { frames := 1, cells := 0, slots := 0, locals := 23 }
def F_X10_leastOf_6 (f : xHp) (k6 : Nat → Int64 → Int32 → Option (Int64))  (a0 : Nat) (a1 : Int64) (a3 : Int32) : Option (Int64) := Option.bind (hLen f a0) fun v1 => if v1 ≤ a3 then (some a1) else (Option.bind (hJld f a0 a3) fun v3 => Option.bind (F_J9_min_f86c9 f a1 v3) fun q4 => k6 a0 q4 (a3 + 1))
def L_X10_leastOf_6 (f : xHp)  : Nat → Nat → Int64 → Int32 → Option (Int64)
  | 0, _, _, _ => none
  | n + 1, a0, a1, a3 => F_X10_leastOf_6 f (L_X10_leastOf_6 f  n) a0 a1 a3
def F_X10_leastOf (f : xHp) (p0 : Nat) : Option (Int64) := Option.bind (hJld f p0 (0 : Int32)) fun v1 => L_X10_leastOf_6 f xfuel p0 v1 (1 : Int32)
set_option maxRecDepth 100000 in
set_option maxHeartbeats 4000000 in
theorem w_X10_leastOf_6 {p : Program} {l : Launch} {e : Env} {s : State} {m : MethodId} {args : Array Value} {below : List Frame} {meth : Method} {c : Code} {G : xG} {z : Nat} {f : xHp} (X : xC G p m c s args RX10 cX10_leastOf 4) (hr : meth.sig.returnType = (some .long)) (hlocks : meth.locks = false) (hin : meth.name = yX10_leastOf.name) (rs : Int64) (k6 : Nat → Int64 → Int32 → Option (Int64)) (hk6 : ∀ (a0 : Nat) (a1 : Int64) (a3 : Int32) (H : Heap) (locs : List Loc) (ls : Array Slot), k6 a0 a1 a3 = some rs → xY G z f s H locs → lv_has ls 4 [(0, .ref a0), (1, .long a1), (3, .int a3)] → W p l e rm_X10_leastOf s m args below meth c H locs 0 0 (MQ below (xQ G (some (.long rs)) z f) args s rm_X10_leastOf.cells rm_X10_leastOf.slots (xA G)) (F0 m 6 ls [])) (a0 : Nat) (a1 : Int64) (a3 : Int32) (H : Heap) (locs : List Loc) (ls : Array Slot) (h : F_X10_leastOf_6 f k6 a0 a1 a3 = some rs) (Y : xY G z f s H locs) (hl : lv_has ls 4 [(0, .ref a0), (1, .long a1), (3, .int a3)]) : W p l e rm_X10_leastOf s m args below meth c H locs 0 0 (MQ below (xQ G (some (.long rs)) z f) args s rm_X10_leastOf.cells rm_X10_leastOf.slots (xA G)) (F0 m 6 ls []) := by
  have hx := X.1.1
  have hb := X.1.2.1
  unfold F_X10_leastOf_6 at h
  refine lv_iload_n hx hb dX10_leastOf_6 rfl (lv_at hl 2 rfl) ?_
  refine lv_aload_n hx hb dX10_leastOf_7 rfl (lv_at hl 0 rfl) ?_
  replace h := xb h
  obtain ⟨v1, ev1, h⟩ := h
  refine q_alen X Y ev1 dX10_leastOf_8 ?_
  refine lv_icmp_ge (tgt := 26) hx hb dX10_leastOf_9 (by decide) (fun c2 => ?_) (fun c2 => ?_)
  · replace h := Eq.trans (if_pos c2).symm h
    refine lv_lload_n hx hb dX10_leastOf_26 rfl (lv_at hl 1 rfl) ?_
    replace h := Option.some.inj h
    subst h
    exact q_retl X Y hr hlocks (Nat.le_of_ble_eq_true rfl) (Nat.le_of_ble_eq_true rfl) dX10_leastOf_27
  · replace h := Eq.trans (if_neg c2).symm h
    refine lv_lload_n hx hb dX10_leastOf_12 rfl (lv_at hl 1 rfl) ?_
    refine lv_aload_n hx hb dX10_leastOf_13 rfl (lv_at hl 0 rfl) ?_
    refine lv_iload_n hx hb dX10_leastOf_14 rfl (lv_at hl 2 rfl) ?_
    replace h := xb h
    obtain ⟨v3, ev3, h⟩ := h
    refine q_lald X Y ev3 dX10_leastOf_15 ?_
    replace h := xb h
    obtain ⟨q4, eq4, h⟩ := h
    refine q_callS X Y hl.1 (rest := []) (As := [.long a1, .long v3]) (c_J9_min_f86c9 l G z f a1 v3 _ eq4) cd_J9_min_f86c9 ls_X10_318 ⟨(Nat.le_of_ble_eq_true rfl), (Nat.le_of_ble_eq_true rfl)⟩ ⟨(Nat.le_of_ble_eq_true rfl), (Nat.le_of_ble_eq_true rfl)⟩ rfl rfl (Nat.le_of_ble_eq_true rfl) dX10_leastOf_16 (fun H locs Y => ?_)
    refine W.eq (g2 := F0 m 19 ls [.long q4]) rfl ?_
    refine lv_lstore_n (lv' := [(1, .long q4), (0, .ref a0), (3, .int a3)]) hx hb dX10_leastOf_19 rfl hl (by decide) rfl (fun ls hl => ?_)
    refine lv_iinc (v := (a3 + 1)) (lv' := [(3, .int (a3 + 1)), (1, .long q4), (0, .ref a0)]) hx hb dX10_leastOf_20 hl (k := 2) rfl rfl (by decide) rfl (fun ls hl => ?_)
    refine lv_goto (tgt := 6) hx hb dX10_leastOf_23 (by decide) ?_
    refine W.widen (k := 0) (n := 0) (Nat.le_of_ble_eq_true rfl) (Nat.le_of_ble_eq_true rfl) ?_
    exact hk6 a0 q4 (a3 + 1) _ _ _ h Y (lv_sub hl [2, 1, 0] rfl)
set_option maxRecDepth 100000 in
set_option maxHeartbeats 4000000 in
theorem lw_X10_leastOf_6 {p : Program} {l : Launch} {e : Env} {s : State} {m : MethodId} {args : Array Value} {below : List Frame} {meth : Method} {c : Code} {G : xG} {z : Nat} {f : xHp} (X : xC G p m c s args RX10 cX10_leastOf 4) (hr : meth.sig.returnType = (some .long)) (hlocks : meth.locks = false) (hin : meth.name = yX10_leastOf.name) (rs : Int64)  : ∀ (n : Nat) (a0 : Nat) (a1 : Int64) (a3 : Int32) (H : Heap) (locs : List Loc) (ls : Array Slot), L_X10_leastOf_6 f  n a0 a1 a3 = some rs → xY G z f s H locs → lv_has ls 4 [(0, .ref a0), (1, .long a1), (3, .int a3)] → W p l e rm_X10_leastOf s m args below meth c H locs 0 0 (MQ below (xQ G (some (.long rs)) z f) args s rm_X10_leastOf.cells rm_X10_leastOf.slots (xA G)) (F0 m 6 ls []) := by
  intro n
  induction n with
  | zero => intro a0 a1 a3 H locs ls h Y hl; cases h
  | succ n ih => intro a0 a1 a3 H locs ls h Y hl; exact w_X10_leastOf_6 X hr hlocks hin rs _ ih a0 a1 a3 _ _ _ h Y hl
set_option maxRecDepth 100000 in
set_option maxHeartbeats 4000000 in
theorem c_X10_leastOf (l : Launch) (G : xG) (z : Nat) (f : xHp) (p0 : Nat) (rs : Int64) (h : F_X10_leastOf f p0 = some rs) : xM G l yX10_leastOf cX10_leastOf 4 (some .long) rm_X10_leastOf [.ref p0] z f (some (.long rs)) z f := by
  refine xM_of (by decide) (Nat.le_of_ble_eq_true rfl) ?_
  intro p e s m below meth c ls X hr hlocks hin Y hl
  have hl : lv_has ls 4 [(0, .ref p0)] := hl
  have hx := X.1.1
  have hb := X.1.2.1
  unfold F_X10_leastOf at h
  refine lv_aload_n hx hb dX10_leastOf_0 rfl (lv_at hl 0 rfl) ?_
  refine lv_iconst (v := 0) hx hb dX10_leastOf_1 (by decide) ?_
  replace h := xb h
  obtain ⟨v1, ev1, h⟩ := h
  refine q_lald X Y ev1 dX10_leastOf_2 ?_
  refine lv_lstore_n (lv' := [(1, .long v1), (0, .ref p0)]) hx hb dX10_leastOf_3 rfl hl (by decide) rfl (fun ls hl => ?_)
  refine lv_iconst (v := 1) hx hb dX10_leastOf_4 (by decide) ?_
  refine lv_istore_n (lv' := [(3, .int (1 : Int32)), (1, .long v1), (0, .ref p0)]) hx hb dX10_leastOf_5 rfl hl (by decide) rfl (fun ls hl => ?_)
  refine W.widen (k := 0) (n := 0) (Nat.le_of_ble_eq_true rfl) (Nat.le_of_ble_eq_true rfl) ?_
  exact lw_X10_leastOf_6 X hr hlocks hin rs  xfuel p0 v1 (1 : Int32) _ _ _ h Y (lv_sub hl [2, 1, 0] rfl)
/-! NeverBelow$Polynomial.cornersOn([II[J)V -/
abbrev rm_X4_cornersOn : Room := { frames := 2, cells := 0, slots := 0, locals := 67 }
def F_X4_cornersOn_3 (k3 : xHp → Nat → Nat → Int32 → Nat → Int32 → Option (xHp)) (f : xHp) (a0 : Nat) (a1 : Nat) (a2 : Int32) (a3 : Nat) (a4 : Int32) : Option (xHp) := if (9 : Int32) ≤ a4 then (some f) else (if hKd f a0 = some 4 then (Option.bind (F_X4_cornerOn f a0 a1 a2 a4) fun q3 => Option.bind (hJst f a3 a4 q3) fun f4 => k3 f4 a0 a1 a2 a3 (a4 + 1)) else none)
def L_X4_cornersOn_3  : Nat → xHp → Nat → Nat → Int32 → Nat → Int32 → Option (xHp)
  | 0, _, _, _, _, _, _ => none
  | n + 1, f, a0, a1, a2, a3, a4 => F_X4_cornersOn_3 (L_X4_cornersOn_3  n) f a0 a1 a2 a3 a4
def F_X4_cornersOn (f : xHp) (h0 : Nat) (p1 : Nat) (p2 : Int32) (p3 : Nat) : Option (xHp) := L_X4_cornersOn_3 xfuel f h0 p1 p2 p3 (0 : Int32)
set_option maxRecDepth 100000 in
set_option maxHeartbeats 4000000 in
theorem w_X4_cornersOn_3 {p : Program} {l : Launch} {e : Env} {s : State} {m : MethodId} {args : Array Value} {below : List Frame} {meth : Method} {c : Code} {G : xG} {z : Nat} (X : xC G p m c s args RX4 cX4_cornersOn 5) (hr : meth.sig.returnType = none) (hlocks : meth.locks = false) (hin : meth.name = yX4_cornersOn.name) (rs : xHp) (k3 : xHp → Nat → Nat → Int32 → Nat → Int32 → Option (xHp)) (hk3 : ∀ (f : xHp) (a0 : Nat) (a1 : Nat) (a2 : Int32) (a3 : Nat) (a4 : Int32) (H : Heap) (locs : List Loc) (ls : Array Slot), k3 f a0 a1 a2 a3 a4 = some rs → xY G z f s H locs → lv_has ls 5 [(0, .ref a0), (1, .ref a1), (2, .int a2), (3, .ref a3), (4, .int a4)] → W p l e rm_X4_cornersOn s m args below meth c H locs 0 0 (MQ below (xQ G none z rs) args s rm_X4_cornersOn.cells rm_X4_cornersOn.slots (xA G)) (F0 m 3 ls [])) (f : xHp) (a0 : Nat) (a1 : Nat) (a2 : Int32) (a3 : Nat) (a4 : Int32) (H : Heap) (locs : List Loc) (ls : Array Slot) (h : F_X4_cornersOn_3 k3 f a0 a1 a2 a3 a4 = some rs) (Y : xY G z f s H locs) (hl : lv_has ls 5 [(0, .ref a0), (1, .ref a1), (2, .int a2), (3, .ref a3), (4, .int a4)]) : W p l e rm_X4_cornersOn s m args below meth c H locs 0 0 (MQ below (xQ G none z rs) args s rm_X4_cornersOn.cells rm_X4_cornersOn.slots (xA G)) (F0 m 3 ls []) := by
  have hx := X.1.1
  have hb := X.1.2.1
  unfold F_X4_cornersOn_3 at h
  refine lv_iload hx hb dX4_cornersOn_3 (lv_at hl 4 rfl) ?_
  refine lv_bipush (v := 9) hx hb dX4_cornersOn_5 (by decide) ?_
  refine lv_icmp_ge (tgt := 28) hx hb dX4_cornersOn_7 (by decide) (fun c1 => ?_) (fun c1 => ?_)
  · replace h := Eq.trans (if_pos c1).symm h
    replace h := Option.some.inj h
    subst h
    exact q_retv X Y hr hlocks (Nat.le_of_ble_eq_true rfl) (Nat.le_of_ble_eq_true rfl) dX4_cornersOn_28
  · replace h := Eq.trans (if_neg c1).symm h
    refine lv_aload_n hx hb dX4_cornersOn_10 rfl (lv_at hl 3 rfl) ?_
    refine lv_iload hx hb dX4_cornersOn_11 (lv_at hl 4 rfl) ?_
    refine lv_aload_n hx hb dX4_cornersOn_13 rfl (lv_at hl 0 rfl) ?_
    refine lv_aload_n hx hb dX4_cornersOn_14 rfl (lv_at hl 1 rfl) ?_
    refine lv_iload_n hx hb dX4_cornersOn_15 rfl (lv_at hl 2 rfl) ?_
    refine lv_iload hx hb dX4_cornersOn_16 (lv_at hl 4 rfl) ?_
    by_cases c2 : hKd f a0 = some 4
    · replace h := Eq.trans (if_pos c2).symm h
      replace h := xb h
      obtain ⟨q3, eq3, h⟩ := h
      refine q_callV X Y hl.1 (rest := [.int a4, .ref a3]) (As := [.ref a1, .int a2, .int a4]) (c_X4_cornerOn l G z f a0 a1 a2 a4 _ eq3) cd_X4_cornerOn lv_X4_25_4 c2 ⟨(Nat.le_of_ble_eq_true rfl), (Nat.le_of_ble_eq_true rfl)⟩ ⟨(Nat.le_of_ble_eq_true rfl), (Nat.le_of_ble_eq_true rfl)⟩ rfl rfl (Nat.le_of_ble_eq_true rfl) dX4_cornersOn_18 (fun H locs Y => ?_)
      refine W.eq (g2 := F0 m 21 ls [.long q3, .int a4, .ref a3]) rfl ?_
      replace h := xb h
      obtain ⟨f4, ef4, h⟩ := h
      refine q_last X Y ef4 dX4_cornersOn_21 (fun H locs Y => ?_)
      refine lv_iinc (v := (a4 + 1)) (lv' := [(4, .int (a4 + 1)), (0, .ref a0), (1, .ref a1), (2, .int a2), (3, .ref a3)]) hx hb dX4_cornersOn_22 hl (k := 4) rfl rfl (by decide) rfl (fun ls hl => ?_)
      refine lv_goto (tgt := 3) hx hb dX4_cornersOn_25 (by decide) ?_
      refine W.widen (k := 0) (n := 0) (Nat.le_of_ble_eq_true rfl) (Nat.le_of_ble_eq_true rfl) ?_
      exact hk3 f4 a0 a1 a2 a3 (a4 + 1) _ _ _ h Y (lv_sub hl [1, 2, 3, 4, 0] rfl)
    replace h := Eq.trans (if_neg c2).symm h
    cases h
set_option maxRecDepth 100000 in
set_option maxHeartbeats 4000000 in
theorem lw_X4_cornersOn_3 {p : Program} {l : Launch} {e : Env} {s : State} {m : MethodId} {args : Array Value} {below : List Frame} {meth : Method} {c : Code} {G : xG} {z : Nat} (X : xC G p m c s args RX4 cX4_cornersOn 5) (hr : meth.sig.returnType = none) (hlocks : meth.locks = false) (hin : meth.name = yX4_cornersOn.name) (rs : xHp)  : ∀ (n : Nat) (f : xHp) (a0 : Nat) (a1 : Nat) (a2 : Int32) (a3 : Nat) (a4 : Int32) (H : Heap) (locs : List Loc) (ls : Array Slot), L_X4_cornersOn_3  n f a0 a1 a2 a3 a4 = some rs → xY G z f s H locs → lv_has ls 5 [(0, .ref a0), (1, .ref a1), (2, .int a2), (3, .ref a3), (4, .int a4)] → W p l e rm_X4_cornersOn s m args below meth c H locs 0 0 (MQ below (xQ G none z rs) args s rm_X4_cornersOn.cells rm_X4_cornersOn.slots (xA G)) (F0 m 3 ls []) := by
  intro n
  induction n with
  | zero => intro f a0 a1 a2 a3 a4 H locs ls h Y hl; cases h
  | succ n ih => intro f a0 a1 a2 a3 a4 H locs ls h Y hl; exact w_X4_cornersOn_3 X hr hlocks hin rs _ ih f a0 a1 a2 a3 a4 _ _ _ h Y hl
set_option maxRecDepth 100000 in
set_option maxHeartbeats 4000000 in
theorem c_X4_cornersOn (l : Launch) (G : xG) (z : Nat) (f : xHp) (h0 : Nat) (p1 : Nat) (p2 : Int32) (p3 : Nat) (rs : xHp) (h : F_X4_cornersOn f h0 p1 p2 p3 = some rs) : xM G l yX4_cornersOn cX4_cornersOn 5 none rm_X4_cornersOn [.ref h0, .ref p1, .int p2, .ref p3] z f none z rs := by
  refine xM_of (by decide) (Nat.le_of_ble_eq_true rfl) ?_
  intro p e s m below meth c ls X hr hlocks hin Y hl
  have hl : lv_has ls 5 [(0, .ref h0), (1, .ref p1), (2, .int p2), (3, .ref p3)] := hl
  have hx := X.1.1
  have hb := X.1.2.1
  unfold F_X4_cornersOn at h
  refine lv_iconst (v := 0) hx hb dX4_cornersOn_0 (by decide) ?_
  refine lv_istore (lv' := [(4, .int (0 : Int32)), (0, .ref h0), (1, .ref p1), (2, .int p2), (3, .ref p3)]) hx hb dX4_cornersOn_1 hl (by decide) rfl (fun ls hl => ?_)
  refine W.widen (k := 0) (n := 0) (Nat.le_of_ble_eq_true rfl) (Nat.le_of_ble_eq_true rfl) ?_
  exact lw_X4_cornersOn_3 X hr hlocks hin rs  xfuel f h0 p1 p2 p3 (0 : Int32) _ _ _ h Y (lv_sub hl [1, 2, 3, 4, 0] rfl)
/-! NeverBelow.bound(III)J -/
abbrev rm_X10_bound : Room := { frames := 3, cells := 0, slots := 0, locals := 91 }
def F_X10_bound_27  (f : xHp)  : Option (Int64 × xHp) := some ((-9223372036854775808 : Int64), f)
def F_X10_bound (f : xHp) (h0 : Nat) (p1 : Int32) (p2 : Int32) (p3 : Int32) : Option (Int64 × xHp) := if hKd f h0 = some 9 then (Option.bind (F_X10_polynomialOf f h0 p1) fun q2 => xnul q2 (F_X10_bound_27 f) (fun q4 => if hKd f h0 = some 9 then (Option.bind (F_X10_isBox f h0 p2) fun q6 => if q6 = 0 then (F_X10_bound_27 f) else (Option.bind (F_X10_isWhich f p3) fun q8 => if q8 = 0 then (F_X10_bound_27 f) else (Option.bind (hN f h0 [(9, 2)]) fun v10 => Option.bind (hN f h0 [(9, 5)]) fun v11 => Option.bind (hN f v11 [(1, 0)]) fun v12 => if hKd f q4 = some 4 then (Option.bind (F_X4_cornersOn f q4 v10 ((4 : Int32) * p2) v12) fun q14 => if p3 = 0 then (Option.bind (hN q14 h0 [(9, 5)]) fun v19 => Option.bind (hN q14 v19 [(1, 0)]) fun v20 => Option.bind (F_X10_leastOf q14 v20) fun q21 => some (q21, q14)) else (Option.bind (hN q14 h0 [(9, 5)]) fun v16 => Option.bind (hN q14 v16 [(1, 0)]) fun v17 => Option.bind (F_X10_greatestOf q14 v17) fun q18 => some (q18, q14))) else none))) else none)) else none
set_option maxRecDepth 100000 in
set_option maxHeartbeats 4000000 in
theorem w_X10_bound_27 {p : Program} {l : Launch} {e : Env} {s : State} {m : MethodId} {args : Array Value} {below : List Frame} {meth : Method} {c : Code} {G : xG} {z : Nat} (X : xC G p m c s args RX10 cX10_bound 5) (hr : meth.sig.returnType = (some .long)) (hlocks : meth.locks = false) (hin : meth.name = yX10_bound.name) (rs : Int64 × xHp)  (f : xHp) (H : Heap) (locs : List Loc) (ls : Array Slot) (h : F_X10_bound_27  f = some rs) (Y : xY G z f s H locs) (hl : lv_has ls 5 []) : W p l e rm_X10_bound s m args below meth c H locs 0 0 (MQ below (xQ G (some (.long rs.1)) z rs.2) args s rm_X10_bound.cells rm_X10_bound.slots (xA G)) (F0 m 27 ls []) := by
  have hx := X.1.1
  have hb := X.1.2.1
  unfold F_X10_bound_27 at h
  refine lv_ldc2 (v := -9223372036854775808) hx hb X.1.2.2.2.1 (X.1.2.2.2.2 _ xw_203) dX10_bound_27 ?_
  replace h := Option.some.inj h
  subst h
  exact q_retl X Y hr hlocks (Nat.le_of_ble_eq_true rfl) (Nat.le_of_ble_eq_true rfl) dX10_bound_30
set_option maxRecDepth 100000 in
set_option maxHeartbeats 4000000 in
theorem c_X10_bound (l : Launch) (G : xG) (z : Nat) (f : xHp) (h0 : Nat) (p1 : Int32) (p2 : Int32) (p3 : Int32) (rs : Int64 × xHp) (h : F_X10_bound f h0 p1 p2 p3 = some rs) : xM G l yX10_bound cX10_bound 5 (some .long) rm_X10_bound [.ref h0, .int p1, .int p2, .int p3] z f (some (.long rs.1)) z rs.2 := by
  refine xM_of (by decide) (Nat.le_of_ble_eq_true rfl) ?_
  intro p e s m below meth c ls X hr hlocks hin Y hl
  have hl : lv_has ls 5 [(0, .ref h0), (1, .int p1), (2, .int p2), (3, .int p3)] := hl
  have hx := X.1.1
  have hb := X.1.2.1
  unfold F_X10_bound at h
  refine lv_aload_n hx hb dX10_bound_0 rfl (lv_at hl 0 rfl) ?_
  refine lv_iload_n hx hb dX10_bound_1 rfl (lv_at hl 1 rfl) ?_
  by_cases c1 : hKd f h0 = some 9
  · replace h := Eq.trans (if_pos c1).symm h
    replace h := xb h
    obtain ⟨q2, eq2, h⟩ := h
    refine q_callV X Y hl.1 (rest := []) (As := [.int p1]) (c_X10_polynomialOf l G z f h0 p1 _ eq2) cd_X10_polynomialOf lv_X10_95_9 c1 ⟨(Nat.le_of_ble_eq_true rfl), (Nat.le_of_ble_eq_true rfl)⟩ ⟨(Nat.le_of_ble_eq_true rfl), (Nat.le_of_ble_eq_true rfl)⟩ rfl rfl (Nat.le_of_ble_eq_true rfl) dX10_bound_2 (fun H locs Y => ?_)
    refine W.eq (g2 := F0 m 5 ls [va_rf q2]) rfl ?_
    refine q_astore (lv' := [(4, va_rf q2), (0, .ref h0), (1, .int p1), (2, .int p2), (3, .int p3)]) hx hb dX10_bound_5 hl (by decide) rfl (fun ls hl => ?_)
    refine q_aload hx hb dX10_bound_7 (lv_at hl 0 rfl) ?_
    refine q_ifnull (tgt := 27) hx hb dX10_bound_9 (by decide) (fun c3 => ?_) (fun q4 eq4 => ?_)
    · replace h := xn0 h c3
      subst c3
      have hl : lv_has ls 5 [(4, .null), (0, .ref h0), (1, .int p1), (2, .int p2), (3, .int p3)] := hl
      refine W.widen (k := 0) (n := 0) (Nat.le_of_ble_eq_true rfl) (Nat.le_of_ble_eq_true rfl) ?_
      exact w_X10_bound_27 X hr hlocks hin rs   f _ _ _ h Y (lv_sub hl [] rfl)
    · replace h := xn1 h eq4
      subst eq4
      have hl : lv_has ls 5 [(4, .ref q4), (0, .ref h0), (1, .int p1), (2, .int p2), (3, .int p3)] := hl
      refine lv_aload_n hx hb dX10_bound_12 rfl (lv_at hl 1 rfl) ?_
      refine lv_iload_n hx hb dX10_bound_13 rfl (lv_at hl 3 rfl) ?_
      by_cases c5 : hKd f h0 = some 9
      · replace h := Eq.trans (if_pos c5).symm h
        replace h := xb h
        obtain ⟨q6, eq6, h⟩ := h
        refine q_callV X Y hl.1 (rest := []) (As := [.int p2]) (c_X10_isBox l G z f h0 p2 _ eq6) cd_X10_isBox lv_X10_137_9 c5 ⟨(Nat.le_of_ble_eq_true rfl), (Nat.le_of_ble_eq_true rfl)⟩ ⟨(Nat.le_of_ble_eq_true rfl), (Nat.le_of_ble_eq_true rfl)⟩ rfl rfl (Nat.le_of_ble_eq_true rfl) dX10_bound_14 (fun H locs Y => ?_)
        refine W.eq (g2 := F0 m 17 ls [.int q6]) rfl ?_
        refine lv_if_eq (tgt := 27) hx hb dX10_bound_17 (by decide) (fun c7 => ?_) (fun c7 => ?_)
        · replace h := Eq.trans (if_pos c7).symm h
          refine W.widen (k := 0) (n := 0) (Nat.le_of_ble_eq_true rfl) (Nat.le_of_ble_eq_true rfl) ?_
          exact w_X10_bound_27 X hr hlocks hin rs   f _ _ _ h Y (lv_sub hl [] rfl)
        · replace h := Eq.trans (if_neg c7).symm h
          refine lv_iload_n hx hb dX10_bound_20 rfl (lv_at hl 4 rfl) ?_
          replace h := xb h
          obtain ⟨q8, eq8, h⟩ := h
          refine q_callS X Y hl.1 (rest := []) (As := [.int p3]) (c_X10_isWhich l G z f p3 _ eq8) cd_X10_isWhich ls_X10_116 ⟨(Nat.le_of_ble_eq_true rfl), (Nat.le_of_ble_eq_true rfl)⟩ ⟨(Nat.le_of_ble_eq_true rfl), (Nat.le_of_ble_eq_true rfl)⟩ rfl rfl (Nat.le_of_ble_eq_true rfl) dX10_bound_21 (fun H locs Y => ?_)
          refine W.eq (g2 := F0 m 24 ls [.int q8]) rfl ?_
          refine lv_if_ne (tgt := 31) hx hb dX10_bound_24 (by decide) (fun c9 => ?_) (fun c9 => ?_)
          · replace h := Eq.trans (if_neg c9).symm h
            refine lv_aload hx hb dX10_bound_31 (lv_at hl 0 rfl) ?_
            refine lv_aload_n hx hb dX10_bound_33 rfl (lv_at hl 1 rfl) ?_
            replace h := xb h
            obtain ⟨v10, ev10, h⟩ := h
            refine q_getN X Y fl_X10_23 ev10 dX10_bound_34 ?_
            refine lv_iconst (v := 4) hx hb dX10_bound_37 (by decide) ?_
            refine lv_iload_n hx hb dX10_bound_38 rfl (lv_at hl 3 rfl) ?_
            refine lv_imul hx hb dX10_bound_39 ?_
            refine lv_aload_n hx hb dX10_bound_40 rfl (lv_at hl 1 rfl) ?_
            replace h := xb h
            obtain ⟨v11, ev11, h⟩ := h
            refine q_getN X Y fl_X10_43 ev11 dX10_bound_41 ?_
            replace h := xb h
            obtain ⟨v12, ev12, h⟩ := h
            refine q_getN X Y fl_X10_144 ev12 dX10_bound_44 ?_
            by_cases c13 : hKd f q4 = some 4
            · replace h := Eq.trans (if_pos c13).symm h
              replace h := xb h
              obtain ⟨q14, eq14, h⟩ := h
              refine q_callV X Y hl.1 (rest := []) (As := [.ref v10, .int ((4 : Int32) * p2), .ref v12]) (c_X4_cornersOn l G z f q4 v10 ((4 : Int32) * p2) v12 _ eq14) cd_X4_cornersOn lv_X10_147_4 c13 ⟨(Nat.le_of_ble_eq_true rfl), (Nat.le_of_ble_eq_true rfl)⟩ ⟨(Nat.le_of_ble_eq_true rfl), (Nat.le_of_ble_eq_true rfl)⟩ rfl rfl (Nat.le_of_ble_eq_true rfl) dX10_bound_47 (fun H locs Y => ?_)
              refine W.eq (g2 := F0 m 50 ls []) rfl ?_
              refine lv_iload_n hx hb dX10_bound_50 rfl (lv_at hl 4 rfl) ?_
              refine lv_if_ne (tgt := 67) hx hb dX10_bound_51 (by decide) (fun c15 => ?_) (fun c15 => ?_)
              · replace h := Eq.trans (if_neg c15).symm h
                refine lv_aload_n hx hb dX10_bound_67 rfl (lv_at hl 1 rfl) ?_
                replace h := xb h
                obtain ⟨v16, ev16, h⟩ := h
                refine q_getN X Y fl_X10_43 ev16 dX10_bound_68 ?_
                replace h := xb h
                obtain ⟨v17, ev17, h⟩ := h
                refine q_getN X Y fl_X10_144 ev17 dX10_bound_71 ?_
                replace h := xb h
                obtain ⟨q18, eq18, h⟩ := h
                refine q_callS X Y hl.1 (rest := []) (As := [.ref v17]) (c_X10_greatestOf l G z q14 v17 _ eq18) cd_X10_greatestOf ls_X10_155 ⟨(Nat.le_of_ble_eq_true rfl), (Nat.le_of_ble_eq_true rfl)⟩ ⟨(Nat.le_of_ble_eq_true rfl), (Nat.le_of_ble_eq_true rfl)⟩ rfl rfl (Nat.le_of_ble_eq_true rfl) dX10_bound_74 (fun H locs Y => ?_)
                refine W.eq (g2 := F0 m 77 ls [.long q18]) rfl ?_
                replace h := Option.some.inj h
                subst h
                exact q_retl X Y hr hlocks (Nat.le_of_ble_eq_true rfl) (Nat.le_of_ble_eq_true rfl) dX10_bound_77
              · replace h := Eq.trans (if_pos c15).symm h
                refine lv_aload_n hx hb dX10_bound_54 rfl (lv_at hl 1 rfl) ?_
                replace h := xb h
                obtain ⟨v19, ev19, h⟩ := h
                refine q_getN X Y fl_X10_43 ev19 dX10_bound_55 ?_
                replace h := xb h
                obtain ⟨v20, ev20, h⟩ := h
                refine q_getN X Y fl_X10_144 ev20 dX10_bound_58 ?_
                replace h := xb h
                obtain ⟨q21, eq21, h⟩ := h
                refine q_callS X Y hl.1 (rest := []) (As := [.ref v20]) (c_X10_leastOf l G z q14 v20 _ eq21) cd_X10_leastOf ls_X10_151 ⟨(Nat.le_of_ble_eq_true rfl), (Nat.le_of_ble_eq_true rfl)⟩ ⟨(Nat.le_of_ble_eq_true rfl), (Nat.le_of_ble_eq_true rfl)⟩ rfl rfl (Nat.le_of_ble_eq_true rfl) dX10_bound_61 (fun H locs Y => ?_)
                refine W.eq (g2 := F0 m 64 ls [.long q21]) rfl ?_
                refine lv_goto (tgt := 77) hx hb dX10_bound_64 (by decide) ?_
                replace h := Option.some.inj h
                subst h
                exact q_retl X Y hr hlocks (Nat.le_of_ble_eq_true rfl) (Nat.le_of_ble_eq_true rfl) dX10_bound_77
            replace h := Eq.trans (if_neg c13).symm h
            cases h
          · replace h := Eq.trans (if_pos c9).symm h
            refine W.widen (k := 0) (n := 0) (Nat.le_of_ble_eq_true rfl) (Nat.le_of_ble_eq_true rfl) ?_
            exact w_X10_bound_27 X hr hlocks hin rs   f _ _ _ h Y (lv_sub hl [] rfl)
      replace h := Eq.trans (if_neg c5).symm h
      cases h
  replace h := Eq.trans (if_neg c1).symm h
  cases h
/-! NeverBelow.lengthOf([III)I -/
abbrev rm_X10_lengthOf : Room := { frames := 0, cells := 0, slots := 0, locals := 0 }
def F_X10_lengthOf (f : xHp) (p0 : Nat) (p1 : Int32) (p2 : Int32) : Option (Int32) := Option.bind (hIld f p0 ((p1 + ((2 : Int32) * p2)) + (1 : Int32))) fun v1 => Option.bind (hIld f p0 (p1 + ((2 : Int32) * p2))) fun v2 => some (v1 - v2)
set_option maxRecDepth 100000 in
set_option maxHeartbeats 4000000 in
theorem c_X10_lengthOf (l : Launch) (G : xG) (z : Nat) (f : xHp) (p0 : Nat) (p1 : Int32) (p2 : Int32) (rs : Int32) (h : F_X10_lengthOf f p0 p1 p2 = some rs) : xM G l yX10_lengthOf cX10_lengthOf 3 (some .int) rm_X10_lengthOf [.ref p0, .int p1, .int p2] z f (some (.int rs)) z f := by
  refine xM_of (by decide) (Nat.le_of_ble_eq_true rfl) ?_
  intro p e s m below meth c ls X hr hlocks hin Y hl
  have hl : lv_has ls 3 [(0, .ref p0), (1, .int p1), (2, .int p2)] := hl
  have hx := X.1.1
  have hb := X.1.2.1
  unfold F_X10_lengthOf at h
  refine lv_aload_n hx hb dX10_lengthOf_0 rfl (lv_at hl 0 rfl) ?_
  refine lv_iload_n hx hb dX10_lengthOf_1 rfl (lv_at hl 1 rfl) ?_
  refine lv_iconst (v := 2) hx hb dX10_lengthOf_2 (by decide) ?_
  refine lv_iload_n hx hb dX10_lengthOf_3 rfl (lv_at hl 2 rfl) ?_
  refine lv_imul hx hb dX10_lengthOf_4 ?_
  refine lv_iadd hx hb dX10_lengthOf_5 ?_
  refine lv_iconst (v := 1) hx hb dX10_lengthOf_6 (by decide) ?_
  refine lv_iadd hx hb dX10_lengthOf_7 ?_
  replace h := xb h
  obtain ⟨v1, ev1, h⟩ := h
  refine q_iald X Y ev1 dX10_lengthOf_8 ?_
  refine lv_aload_n hx hb dX10_lengthOf_9 rfl (lv_at hl 0 rfl) ?_
  refine lv_iload_n hx hb dX10_lengthOf_10 rfl (lv_at hl 1 rfl) ?_
  refine lv_iconst (v := 2) hx hb dX10_lengthOf_11 (by decide) ?_
  refine lv_iload_n hx hb dX10_lengthOf_12 rfl (lv_at hl 2 rfl) ?_
  refine lv_imul hx hb dX10_lengthOf_13 ?_
  refine lv_iadd hx hb dX10_lengthOf_14 ?_
  replace h := xb h
  obtain ⟨v2, ev2, h⟩ := h
  refine q_iald X Y ev2 dX10_lengthOf_15 ?_
  refine lv_isub hx hb dX10_lengthOf_16 ?_
  replace h := Option.some.inj h
  subst h
  exact q_reti X Y hr hlocks (Nat.le_of_ble_eq_true rfl) (Nat.le_of_ble_eq_true rfl) dX10_lengthOf_17
/-! NeverBelow.halve([IIIII)V -/
abbrev rm_X10_halve : Room := { frames := 1, cells := 0, slots := 0, locals := 40 }
def F_X10_halve (f : xHp) (p0 : Nat) (p1 : Int32) (p2 : Int32) (p3 : Int32) (p4 : Int32) : Option (xHp) := Option.bind (hIld f p0 (p1 + ((2 : Int32) * p2))) fun v1 => Option.bind (F_X10_lengthOf f p0 p1 p2) fun q2 => Option.bind (hIcp f p0 p1 p0 p4 (4 : Int32)) fun f3 => Option.bind (hIst f3 p0 (p4 + ((2 : Int32) * p2)) (v1 + (q2 / (2 : Int32)))) fun f4 => Option.bind (hIcp f4 p0 p1 p0 p3 (4 : Int32)) fun f5 => Option.bind (hIst f5 p0 ((p3 + ((2 : Int32) * p2)) + (1 : Int32)) (v1 + (q2 / (2 : Int32)))) fun f6 => some f6
set_option maxRecDepth 100000 in
set_option maxHeartbeats 4000000 in
theorem c_X10_halve (l : Launch) (G : xG) (z : Nat) (f : xHp) (p0 : Nat) (p1 : Int32) (p2 : Int32) (p3 : Int32) (p4 : Int32) (rs : xHp) (h : F_X10_halve f p0 p1 p2 p3 p4 = some rs) : xM G l yX10_halve cX10_halve 6 none rm_X10_halve [.ref p0, .int p1, .int p2, .int p3, .int p4] z f none z rs := by
  refine xM_of (by decide) (Nat.le_of_ble_eq_true rfl) ?_
  intro p e s m below meth c ls X hr hlocks hin Y hl
  have hl : lv_has ls 6 [(0, .ref p0), (1, .int p1), (2, .int p2), (3, .int p3), (4, .int p4)] := hl
  have hx := X.1.1
  have hb := X.1.2.1
  unfold F_X10_halve at h
  refine lv_aload_n hx hb dX10_halve_0 rfl (lv_at hl 0 rfl) ?_
  refine lv_iload_n hx hb dX10_halve_1 rfl (lv_at hl 1 rfl) ?_
  refine lv_iconst (v := 2) hx hb dX10_halve_2 (by decide) ?_
  refine lv_iload_n hx hb dX10_halve_3 rfl (lv_at hl 2 rfl) ?_
  refine lv_imul hx hb dX10_halve_4 ?_
  refine lv_iadd hx hb dX10_halve_5 ?_
  replace h := xb h
  obtain ⟨v1, ev1, h⟩ := h
  refine q_iald X Y ev1 dX10_halve_6 ?_
  refine lv_aload_n hx hb dX10_halve_7 rfl (lv_at hl 0 rfl) ?_
  refine lv_iload_n hx hb dX10_halve_8 rfl (lv_at hl 1 rfl) ?_
  refine lv_iload_n hx hb dX10_halve_9 rfl (lv_at hl 2 rfl) ?_
  replace h := xb h
  obtain ⟨q2, eq2, h⟩ := h
  refine q_callS X Y hl.1 (rest := [.int v1]) (As := [.ref p0, .int p1, .int p2]) (c_X10_lengthOf l G z f p0 p1 p2 _ eq2) cd_X10_lengthOf ls_X10_158 ⟨(Nat.le_of_ble_eq_true rfl), (Nat.le_of_ble_eq_true rfl)⟩ ⟨(Nat.le_of_ble_eq_true rfl), (Nat.le_of_ble_eq_true rfl)⟩ rfl rfl (Nat.le_of_ble_eq_true rfl) dX10_halve_10 (fun H locs Y => ?_)
  refine W.eq (g2 := F0 m 13 ls [.int q2, .int v1]) rfl ?_
  refine lv_iconst (v := 2) hx hb dX10_halve_13 (by decide) ?_
  refine lv_idiv hx hb dX10_halve_14 (by decide) ?_
  refine lv_iadd hx hb dX10_halve_15 ?_
  refine lv_istore (lv' := [(5, .int (v1 + (q2 / (2 : Int32)))), (0, .ref p0), (1, .int p1), (2, .int p2), (3, .int p3), (4, .int p4)]) hx hb dX10_halve_16 hl (by decide) rfl (fun ls hl => ?_)
  refine lv_aload_n hx hb dX10_halve_18 rfl (lv_at hl 1 rfl) ?_
  refine lv_iload_n hx hb dX10_halve_19 rfl (lv_at hl 2 rfl) ?_
  refine lv_aload_n hx hb dX10_halve_20 rfl (lv_at hl 1 rfl) ?_
  refine lv_iload hx hb dX10_halve_21 (lv_at hl 5 rfl) ?_
  refine lv_iconst (v := 4) hx hb dX10_halve_23 (by decide) ?_
  replace h := xb h
  obtain ⟨f3, ef3, h⟩ := h
  refine q_icp X Y hl.1 cp_X10_85 ef3 (Nat.le_of_ble_eq_true rfl) (Nat.le_of_ble_eq_true rfl) dX10_halve_24 (fun H locs Y => ?_)
  refine lv_aload_n hx hb dX10_halve_27 rfl (lv_at hl 1 rfl) ?_
  refine lv_iload hx hb dX10_halve_28 (lv_at hl 5 rfl) ?_
  refine lv_iconst (v := 2) hx hb dX10_halve_30 (by decide) ?_
  refine lv_iload_n hx hb dX10_halve_31 rfl (lv_at hl 3 rfl) ?_
  refine lv_imul hx hb dX10_halve_32 ?_
  refine lv_iadd hx hb dX10_halve_33 ?_
  refine lv_iload hx hb dX10_halve_34 (lv_at hl 0 rfl) ?_
  replace h := xb h
  obtain ⟨f4, ef4, h⟩ := h
  refine q_iast X Y ef4 dX10_halve_36 (fun H locs Y => ?_)
  refine lv_aload_n hx hb dX10_halve_37 rfl (lv_at hl 1 rfl) ?_
  refine lv_iload_n hx hb dX10_halve_38 rfl (lv_at hl 2 rfl) ?_
  refine lv_aload_n hx hb dX10_halve_39 rfl (lv_at hl 1 rfl) ?_
  refine lv_iload_n hx hb dX10_halve_40 rfl (lv_at hl 4 rfl) ?_
  refine lv_iconst (v := 4) hx hb dX10_halve_41 (by decide) ?_
  replace h := xb h
  obtain ⟨f5, ef5, h⟩ := h
  refine q_icp X Y hl.1 cp_X10_85 ef5 (Nat.le_of_ble_eq_true rfl) (Nat.le_of_ble_eq_true rfl) dX10_halve_42 (fun H locs Y => ?_)
  refine lv_aload_n hx hb dX10_halve_45 rfl (lv_at hl 1 rfl) ?_
  refine lv_iload_n hx hb dX10_halve_46 rfl (lv_at hl 4 rfl) ?_
  refine lv_iconst (v := 2) hx hb dX10_halve_47 (by decide) ?_
  refine lv_iload_n hx hb dX10_halve_48 rfl (lv_at hl 3 rfl) ?_
  refine lv_imul hx hb dX10_halve_49 ?_
  refine lv_iadd hx hb dX10_halve_50 ?_
  refine lv_iconst (v := 1) hx hb dX10_halve_51 (by decide) ?_
  refine lv_iadd hx hb dX10_halve_52 ?_
  refine lv_iload hx hb dX10_halve_53 (lv_at hl 0 rfl) ?_
  replace h := xb h
  obtain ⟨f6, ef6, h⟩ := h
  refine q_iast X Y ef6 dX10_halve_55 (fun H locs Y => ?_)
  replace h := Option.some.inj h
  subst h
  exact q_retv X Y hr hlocks (Nat.le_of_ble_eq_true rfl) (Nat.le_of_ble_eq_true rfl) dX10_halve_56
/-! NeverBelow.isOdd(I)Z -/
abbrev rm_X10_isOdd : Room := { frames := 0, cells := 0, slots := 0, locals := 0 }
def F_X10_isOdd (f : xHp) (p0 : Int32) : Option (Int32) := if (p0 &&& (1 : Int32)) = 0 then (some (0 : Int32)) else (some (1 : Int32))
set_option maxRecDepth 100000 in
set_option maxHeartbeats 4000000 in
theorem c_X10_isOdd (l : Launch) (G : xG) (z : Nat) (f : xHp) (p0 : Int32) (rs : Int32) (h : F_X10_isOdd f p0 = some rs) : xM G l yX10_isOdd cX10_isOdd 1 (some .boolean) rm_X10_isOdd [.int p0] z f (some (.int rs)) z f := by
  refine xM_of (by decide) (Nat.le_of_ble_eq_true rfl) ?_
  intro p e s m below meth c ls X hr hlocks hin Y hl
  have hl : lv_has ls 1 [(0, .int p0)] := hl
  have hx := X.1.1
  have hb := X.1.2.1
  unfold F_X10_isOdd at h
  refine lv_iload_n hx hb dX10_isOdd_0 rfl (lv_at hl 0 rfl) ?_
  refine lv_iconst (v := 1) hx hb dX10_isOdd_1 (by decide) ?_
  refine lv_iand hx hb dX10_isOdd_2 ?_
  refine lv_if_eq (tgt := 10) hx hb dX10_isOdd_3 (by decide) (fun c1 => ?_) (fun c1 => ?_)
  · replace h := Eq.trans (if_pos c1).symm h
    refine lv_iconst (v := 0) hx hb dX10_isOdd_10 (by decide) ?_
    replace h := Option.some.inj h
    subst h
    exact q_retz (v := (0 : Int32)) X Y hr hlocks rfl (Nat.le_of_ble_eq_true rfl) (Nat.le_of_ble_eq_true rfl) dX10_isOdd_11
  · replace h := Eq.trans (if_neg c1).symm h
    refine lv_iconst (v := 1) hx hb dX10_isOdd_6 (by decide) ?_
    refine lv_goto (tgt := 11) hx hb dX10_isOdd_7 (by decide) ?_
    replace h := Option.some.inj h
    subst h
    exact q_retz (v := (1 : Int32)) X Y hr hlocks rfl (Nat.le_of_ble_eq_true rfl) (Nat.le_of_ble_eq_true rfl) dX10_isOdd_11
/-! NeverBelow.cut(II)I -/
abbrev rm_X10_cut : Room := { frames := 2, cells := 0, slots := 0, locals := 65 }
def F_X10_cut (f : xHp) (h0 : Nat) (p1 : Int32) (p2 : Int32) : Option (Int32 × xHp) := if hKd f h0 = some 9 then (Option.bind (F_X10_isBox f h0 p1) fun q2 => if q2 = 0 then (some ((-1 : Int32), f)) else (Option.bind (F_X10_isWhich f p2) fun q4 => if q4 = 0 then (some ((-2 : Int32), f)) else (Option.bind (hN f h0 [(9, 2)]) fun v6 => Option.bind (F_X10_lengthOf f v6 ((4 : Int32) * p1) p2) fun q7 => Option.bind (F_X10_isOdd f q7) fun q8 => if q8 = 0 then (Option.bind (hI f h0 [(9, 7)]) fun v10 => if (v10 + (2 : Int32)) ≤ (30 : Int32) then (Option.bind (hI f h0 [(9, 7)]) fun v12 => Option.bind (hN f h0 [(9, 2)]) fun v13 => Option.bind (F_X10_halve f v13 ((4 : Int32) * p1) p2 ((4 : Int32) * v12) (((4 : Int32) * v12) + (4 : Int32))) fun q14 => Option.bind (hI q14 h0 [(9, 7)]) fun v15 => Option.bind (hPut q14 h0 [(9, 7)] (.int (v15 + (2 : Int32)))) fun f16 => some (v12, f16)) else (some ((-4 : Int32), f))) else (some ((-3 : Int32), f))))) else none
set_option maxRecDepth 100000 in
set_option maxHeartbeats 4000000 in
theorem c_X10_cut (l : Launch) (G : xG) (z : Nat) (f : xHp) (h0 : Nat) (p1 : Int32) (p2 : Int32) (rs : Int32 × xHp) (h : F_X10_cut f h0 p1 p2 = some rs) : xM G l yX10_cut cX10_cut 5 (some .int) rm_X10_cut [.ref h0, .int p1, .int p2] z f (some (.int rs.1)) z rs.2 := by
  refine xM_of (by decide) (Nat.le_of_ble_eq_true rfl) ?_
  intro p e s m below meth c ls X hr hlocks hin Y hl
  have hl : lv_has ls 5 [(0, .ref h0), (1, .int p1), (2, .int p2)] := hl
  have hx := X.1.1
  have hb := X.1.2.1
  unfold F_X10_cut at h
  refine lv_aload_n hx hb dX10_cut_0 rfl (lv_at hl 0 rfl) ?_
  refine lv_iload_n hx hb dX10_cut_1 rfl (lv_at hl 1 rfl) ?_
  by_cases c1 : hKd f h0 = some 9
  · replace h := Eq.trans (if_pos c1).symm h
    replace h := xb h
    obtain ⟨q2, eq2, h⟩ := h
    refine q_callV X Y hl.1 (rest := []) (As := [.int p1]) (c_X10_isBox l G z f h0 p1 _ eq2) cd_X10_isBox lv_X10_137_9 c1 ⟨(Nat.le_of_ble_eq_true rfl), (Nat.le_of_ble_eq_true rfl)⟩ ⟨(Nat.le_of_ble_eq_true rfl), (Nat.le_of_ble_eq_true rfl)⟩ rfl rfl (Nat.le_of_ble_eq_true rfl) dX10_cut_2 (fun H locs Y => ?_)
    refine W.eq (g2 := F0 m 5 ls [.int q2]) rfl ?_
    refine lv_if_ne (tgt := 10) hx hb dX10_cut_5 (by decide) (fun c3 => ?_) (fun c3 => ?_)
    · replace h := Eq.trans (if_neg c3).symm h
      refine lv_iload_n hx hb dX10_cut_10 rfl (lv_at hl 2 rfl) ?_
      replace h := xb h
      obtain ⟨q4, eq4, h⟩ := h
      refine q_callS X Y hl.1 (rest := []) (As := [.int p2]) (c_X10_isWhich l G z f p2 _ eq4) cd_X10_isWhich ls_X10_116 ⟨(Nat.le_of_ble_eq_true rfl), (Nat.le_of_ble_eq_true rfl)⟩ ⟨(Nat.le_of_ble_eq_true rfl), (Nat.le_of_ble_eq_true rfl)⟩ rfl rfl (Nat.le_of_ble_eq_true rfl) dX10_cut_11 (fun H locs Y => ?_)
      refine W.eq (g2 := F0 m 14 ls [.int q4]) rfl ?_
      refine lv_if_ne (tgt := 20) hx hb dX10_cut_14 (by decide) (fun c5 => ?_) (fun c5 => ?_)
      · replace h := Eq.trans (if_neg c5).symm h
        refine lv_iconst (v := 4) hx hb dX10_cut_20 (by decide) ?_
        refine lv_iload_n hx hb dX10_cut_21 rfl (lv_at hl 1 rfl) ?_
        refine lv_imul hx hb dX10_cut_22 ?_
        refine lv_istore_n (lv' := [(3, .int ((4 : Int32) * p1)), (0, .ref h0), (1, .int p1), (2, .int p2)]) hx hb dX10_cut_23 rfl hl (by decide) rfl (fun ls hl => ?_)
        refine lv_aload_n hx hb dX10_cut_24 rfl (lv_at hl 1 rfl) ?_
        replace h := xb h
        obtain ⟨v6, ev6, h⟩ := h
        refine q_getN X Y fl_X10_23 ev6 dX10_cut_25 ?_
        refine lv_iload_n hx hb dX10_cut_28 rfl (lv_at hl 0 rfl) ?_
        refine lv_iload_n hx hb dX10_cut_29 rfl (lv_at hl 3 rfl) ?_
        replace h := xb h
        obtain ⟨q7, eq7, h⟩ := h
        refine q_callS X Y hl.1 (rest := []) (As := [.ref v6, .int ((4 : Int32) * p1), .int p2]) (c_X10_lengthOf l G z f v6 ((4 : Int32) * p1) p2 _ eq7) cd_X10_lengthOf ls_X10_158 ⟨(Nat.le_of_ble_eq_true rfl), (Nat.le_of_ble_eq_true rfl)⟩ ⟨(Nat.le_of_ble_eq_true rfl), (Nat.le_of_ble_eq_true rfl)⟩ rfl rfl (Nat.le_of_ble_eq_true rfl) dX10_cut_30 (fun H locs Y => ?_)
        refine W.eq (g2 := F0 m 33 ls [.int q7]) rfl ?_
        replace h := xb h
        obtain ⟨q8, eq8, h⟩ := h
        refine q_callS X Y hl.1 (rest := []) (As := [.int q7]) (c_X10_isOdd l G z f q7 _ eq8) cd_X10_isOdd ls_X10_162 ⟨(Nat.le_of_ble_eq_true rfl), (Nat.le_of_ble_eq_true rfl)⟩ ⟨(Nat.le_of_ble_eq_true rfl), (Nat.le_of_ble_eq_true rfl)⟩ rfl rfl (Nat.le_of_ble_eq_true rfl) dX10_cut_33 (fun H locs Y => ?_)
        refine W.eq (g2 := F0 m 36 ls [.int q8]) rfl ?_
        refine lv_if_eq (tgt := 42) hx hb dX10_cut_36 (by decide) (fun c9 => ?_) (fun c9 => ?_)
        · replace h := Eq.trans (if_pos c9).symm h
          refine lv_aload_n hx hb dX10_cut_42 rfl (lv_at hl 1 rfl) ?_
          replace h := xb h
          obtain ⟨v10, ev10, h⟩ := h
          refine q_getI X Y fl_X10_134 ev10 dX10_cut_43 ?_
          refine lv_iconst (v := 2) hx hb dX10_cut_46 (by decide) ?_
          refine lv_iadd hx hb dX10_cut_47 ?_
          refine lv_bipush (v := 30) hx hb dX10_cut_48 (by decide) ?_
          refine lv_icmp_le (tgt := 56) hx hb dX10_cut_50 (by decide) (fun c11 => ?_) (fun c11 => ?_)
          · replace h := Eq.trans (if_pos c11).symm h
            refine lv_aload_n hx hb dX10_cut_56 rfl (lv_at hl 1 rfl) ?_
            replace h := xb h
            obtain ⟨v12, ev12, h⟩ := h
            refine q_getI X Y fl_X10_134 ev12 dX10_cut_57 ?_
            refine lv_istore (lv' := [(4, .int v12), (3, .int ((4 : Int32) * p1)), (0, .ref h0), (1, .int p1), (2, .int p2)]) hx hb dX10_cut_60 hl (by decide) rfl (fun ls hl => ?_)
            refine lv_aload_n hx hb dX10_cut_62 rfl (lv_at hl 2 rfl) ?_
            replace h := xb h
            obtain ⟨v13, ev13, h⟩ := h
            refine q_getN X Y fl_X10_23 ev13 dX10_cut_63 ?_
            refine lv_iload_n hx hb dX10_cut_66 rfl (lv_at hl 1 rfl) ?_
            refine lv_iload_n hx hb dX10_cut_67 rfl (lv_at hl 4 rfl) ?_
            refine lv_iconst (v := 4) hx hb dX10_cut_68 (by decide) ?_
            refine lv_iload hx hb dX10_cut_69 (lv_at hl 0 rfl) ?_
            refine lv_imul hx hb dX10_cut_71 ?_
            refine lv_iconst (v := 4) hx hb dX10_cut_72 (by decide) ?_
            refine lv_iload hx hb dX10_cut_73 (lv_at hl 0 rfl) ?_
            refine lv_imul hx hb dX10_cut_75 ?_
            refine lv_iconst (v := 4) hx hb dX10_cut_76 (by decide) ?_
            refine lv_iadd hx hb dX10_cut_77 ?_
            replace h := xb h
            obtain ⟨q14, eq14, h⟩ := h
            refine q_callS X Y hl.1 (rest := []) (As := [.ref v13, .int ((4 : Int32) * p1), .int p2, .int ((4 : Int32) * v12), .int (((4 : Int32) * v12) + (4 : Int32))]) (c_X10_halve l G z f v13 ((4 : Int32) * p1) p2 ((4 : Int32) * v12) (((4 : Int32) * v12) + (4 : Int32)) _ eq14) cd_X10_halve ls_X10_165 ⟨(Nat.le_of_ble_eq_true rfl), (Nat.le_of_ble_eq_true rfl)⟩ ⟨(Nat.le_of_ble_eq_true rfl), (Nat.le_of_ble_eq_true rfl)⟩ rfl rfl (Nat.le_of_ble_eq_true rfl) dX10_cut_78 (fun H locs Y => ?_)
            refine W.eq (g2 := F0 m 81 ls []) rfl ?_
            refine lv_aload_n hx hb dX10_cut_81 rfl (lv_at hl 2 rfl) ?_
            refine lv_dup hx hb dX10_cut_82 rfl ?_
            replace h := xb h
            obtain ⟨v15, ev15, h⟩ := h
            refine q_getI X Y fl_X10_134 ev15 dX10_cut_83 ?_
            refine lv_iconst (v := 2) hx hb dX10_cut_86 (by decide) ?_
            refine lv_iadd hx hb dX10_cut_87 ?_
            replace h := xb h
            obtain ⟨f16, ef16, h⟩ := h
            refine q_put X Y fp_X10_134 rfl rfl ef16 dX10_cut_88 (fun H locs Y => ?_)
            refine lv_iload hx hb dX10_cut_91 (lv_at hl 0 rfl) ?_
            replace h := Option.some.inj h
            subst h
            exact q_reti X Y hr hlocks (Nat.le_of_ble_eq_true rfl) (Nat.le_of_ble_eq_true rfl) dX10_cut_93
          · replace h := Eq.trans (if_neg c11).symm h
            refine lv_bipush (v := -4) hx hb dX10_cut_53 (by decide) ?_
            replace h := Option.some.inj h
            subst h
            exact q_reti X Y hr hlocks (Nat.le_of_ble_eq_true rfl) (Nat.le_of_ble_eq_true rfl) dX10_cut_55
        · replace h := Eq.trans (if_neg c9).symm h
          refine lv_bipush (v := -3) hx hb dX10_cut_39 (by decide) ?_
          replace h := Option.some.inj h
          subst h
          exact q_reti X Y hr hlocks (Nat.le_of_ble_eq_true rfl) (Nat.le_of_ble_eq_true rfl) dX10_cut_41
      · replace h := Eq.trans (if_pos c5).symm h
        refine lv_bipush (v := -2) hx hb dX10_cut_17 (by decide) ?_
        replace h := Option.some.inj h
        subst h
        exact q_reti X Y hr hlocks (Nat.le_of_ble_eq_true rfl) (Nat.le_of_ble_eq_true rfl) dX10_cut_19
    · replace h := Eq.trans (if_pos c3).symm h
      refine lv_iconst (v := -1) hx hb dX10_cut_8 (by decide) ?_
      replace h := Option.some.inj h
      subst h
      exact q_reti X Y hr hlocks (Nat.le_of_ble_eq_true rfl) (Nat.le_of_ble_eq_true rfl) dX10_cut_9
  replace h := Eq.trans (if_neg c1).symm h
  cases h
/-! NeverBelow$Parts.begin(LNeverBelow$Polynomial;[II)V -/
abbrev rm_X2_begin : Room := { frames := 1, cells := 0, slots := 0, locals := 40 }
def F_X2_begin (f : xHp) (h0 : Nat) (p1 : Nat) (p2 : Nat) (p3 : Int32) : Option (xHp) := Option.bind (hPut f h0 [(2, 3)] (.ref p1)) fun f1 => Option.bind (hN f1 h0 [(2, 0)]) fun v2 => Option.bind (hIcp f1 p2 p3 v2 (0 : Int32) (4 : Int32)) fun f3 => Option.bind (hN f3 h0 [(2, 1)]) fun v4 => Option.bind (hIst f3 v4 (0 : Int32) (0 : Int32)) fun f5 => Option.bind (hPut f5 h0 [(2, 6)] (.int (1 : Int32))) fun f6 => Option.bind (hPut f6 h0 [(2, 7)] (.int (0 : Int32))) fun f7 => some f7
set_option maxRecDepth 100000 in
set_option maxHeartbeats 4000000 in
theorem c_X2_begin (l : Launch) (G : xG) (z : Nat) (f : xHp) (h0 : Nat) (p1 : Nat) (p2 : Nat) (p3 : Int32) (rs : xHp) (h : F_X2_begin f h0 p1 p2 p3 = some rs) : xM G l yX2_begin cX2_begin 4 none rm_X2_begin [.ref h0, .ref p1, .ref p2, .int p3] z f none z rs := by
  refine xM_of (by decide) (Nat.le_of_ble_eq_true rfl) ?_
  intro p e s m below meth c ls X hr hlocks hin Y hl
  have hl : lv_has ls 4 [(0, .ref h0), (1, .ref p1), (2, .ref p2), (3, .int p3)] := hl
  have hx := X.1.1
  have hb := X.1.2.1
  unfold F_X2_begin at h
  refine lv_aload_n hx hb dX2_begin_0 rfl (lv_at hl 0 rfl) ?_
  refine lv_aload_n hx hb dX2_begin_1 rfl (lv_at hl 1 rfl) ?_
  replace h := xb h
  obtain ⟨f1, ef1, h⟩ := h
  refine q_put X Y fp_X2_22 rfl rfl ef1 dX2_begin_2 (fun H locs Y => ?_)
  refine lv_aload_n hx hb dX2_begin_5 rfl (lv_at hl 2 rfl) ?_
  refine lv_iload_n hx hb dX2_begin_6 rfl (lv_at hl 3 rfl) ?_
  refine lv_aload_n hx hb dX2_begin_7 rfl (lv_at hl 0 rfl) ?_
  replace h := xb h
  obtain ⟨v2, ev2, h⟩ := h
  refine q_getN X Y fl_X2_9 ev2 dX2_begin_8 ?_
  refine lv_iconst (v := 0) hx hb dX2_begin_11 (by decide) ?_
  refine lv_iconst (v := 4) hx hb dX2_begin_12 (by decide) ?_
  replace h := xb h
  obtain ⟨f3, ef3, h⟩ := h
  refine q_icp X Y hl.1 cp_X2_26 ef3 (Nat.le_of_ble_eq_true rfl) (Nat.le_of_ble_eq_true rfl) dX2_begin_13 (fun H locs Y => ?_)
  refine lv_aload_n hx hb dX2_begin_16 rfl (lv_at hl 0 rfl) ?_
  replace h := xb h
  obtain ⟨v4, ev4, h⟩ := h
  refine q_getN X Y fl_X2_15 ev4 dX2_begin_17 ?_
  refine lv_iconst (v := 0) hx hb dX2_begin_20 (by decide) ?_
  refine lv_iconst (v := 0) hx hb dX2_begin_21 (by decide) ?_
  replace h := xb h
  obtain ⟨f5, ef5, h⟩ := h
  refine q_iast X Y ef5 dX2_begin_22 (fun H locs Y => ?_)
  refine lv_aload_n hx hb dX2_begin_23 rfl (lv_at hl 0 rfl) ?_
  refine lv_iconst (v := 1) hx hb dX2_begin_24 (by decide) ?_
  replace h := xb h
  obtain ⟨f6, ef6, h⟩ := h
  refine q_put X Y fp_X2_32 rfl rfl ef6 dX2_begin_25 (fun H locs Y => ?_)
  refine lv_aload_n hx hb dX2_begin_28 rfl (lv_at hl 0 rfl) ?_
  refine lv_iconst (v := 0) hx hb dX2_begin_29 (by decide) ?_
  replace h := xb h
  obtain ⟨f7, ef7, h⟩ := h
  refine q_put X Y fp_X2_36 rfl rfl ef7 dX2_begin_30 (fun H locs Y => ?_)
  replace h := Option.some.inj h
  subst h
  exact q_retv X Y hr hlocks (Nat.le_of_ble_eq_true rfl) (Nat.le_of_ble_eq_true rfl) dX2_begin_33
/-! NeverBelow.parts(II)I -/
abbrev rm_X10_parts : Room := { frames := 2, cells := 0, slots := 0, locals := 63 }
def F_X10_parts (f : xHp) (h0 : Nat) (p1 : Int32) (p2 : Int32) : Option (Int32 × xHp) := if hKd f h0 = some 9 then (Option.bind (F_X10_polynomialOf f h0 p1) fun q2 => xnul q2 (some ((-1 : Int32), f)) (fun q4 => if hKd f h0 = some 9 then (Option.bind (F_X10_isBox f h0 p2) fun q6 => if q6 = 0 then (some ((-1 : Int32), f)) else (Option.bind (hN f h0 [(9, 4)]) fun v8 => Option.bind (hN f h0 [(9, 2)]) fun v9 => if hKd f v8 = some 2 then (Option.bind (F_X2_begin f v8 q4 v9 ((4 : Int32) * p2)) fun q11 => Option.bind (hN q11 h0 [(9, 4)]) fun v12 => Option.bind (hPut q11 v12 [(2, 4)] (.int p1)) fun f13 => Option.bind (hN f13 h0 [(9, 4)]) fun v14 => Option.bind (hPut f13 v14 [(2, 5)] (.int p2)) fun f15 => some ((1 : Int32), f15)) else none)) else none)) else none
set_option maxRecDepth 100000 in
set_option maxHeartbeats 4000000 in
theorem c_X10_parts (l : Launch) (G : xG) (z : Nat) (f : xHp) (h0 : Nat) (p1 : Int32) (p2 : Int32) (rs : Int32 × xHp) (h : F_X10_parts f h0 p1 p2 = some rs) : xM G l yX10_parts cX10_parts 4 (some .int) rm_X10_parts [.ref h0, .int p1, .int p2] z f (some (.int rs.1)) z rs.2 := by
  refine xM_of (by decide) (Nat.le_of_ble_eq_true rfl) ?_
  intro p e s m below meth c ls X hr hlocks hin Y hl
  have hl : lv_has ls 4 [(0, .ref h0), (1, .int p1), (2, .int p2)] := hl
  have hx := X.1.1
  have hb := X.1.2.1
  unfold F_X10_parts at h
  refine lv_aload_n hx hb dX10_parts_0 rfl (lv_at hl 0 rfl) ?_
  refine lv_iload_n hx hb dX10_parts_1 rfl (lv_at hl 1 rfl) ?_
  by_cases c1 : hKd f h0 = some 9
  · replace h := Eq.trans (if_pos c1).symm h
    replace h := xb h
    obtain ⟨q2, eq2, h⟩ := h
    refine q_callV X Y hl.1 (rest := []) (As := [.int p1]) (c_X10_polynomialOf l G z f h0 p1 _ eq2) cd_X10_polynomialOf lv_X10_95_9 c1 ⟨(Nat.le_of_ble_eq_true rfl), (Nat.le_of_ble_eq_true rfl)⟩ ⟨(Nat.le_of_ble_eq_true rfl), (Nat.le_of_ble_eq_true rfl)⟩ rfl rfl (Nat.le_of_ble_eq_true rfl) dX10_parts_2 (fun H locs Y => ?_)
    refine W.eq (g2 := F0 m 5 ls [va_rf q2]) rfl ?_
    refine q_astore_n (lv' := [(3, va_rf q2), (0, .ref h0), (1, .int p1), (2, .int p2)]) hx hb dX10_parts_5 rfl hl (by decide) rfl (fun ls hl => ?_)
    refine q_aload_n hx hb dX10_parts_6 rfl (lv_at hl 0 rfl) ?_
    refine q_ifnull (tgt := 18) hx hb dX10_parts_7 (by decide) (fun c3 => ?_) (fun q4 eq4 => ?_)
    · replace h := xn0 h c3
      subst c3
      have hl : lv_has ls 4 [(3, .null), (0, .ref h0), (1, .int p1), (2, .int p2)] := hl
      refine lv_iconst (v := -1) hx hb dX10_parts_18 (by decide) ?_
      replace h := Option.some.inj h
      subst h
      exact q_reti X Y hr hlocks (Nat.le_of_ble_eq_true rfl) (Nat.le_of_ble_eq_true rfl) dX10_parts_19
    · replace h := xn1 h eq4
      subst eq4
      have hl : lv_has ls 4 [(3, .ref q4), (0, .ref h0), (1, .int p1), (2, .int p2)] := hl
      refine lv_aload_n hx hb dX10_parts_10 rfl (lv_at hl 1 rfl) ?_
      refine lv_iload_n hx hb dX10_parts_11 rfl (lv_at hl 3 rfl) ?_
      by_cases c5 : hKd f h0 = some 9
      · replace h := Eq.trans (if_pos c5).symm h
        replace h := xb h
        obtain ⟨q6, eq6, h⟩ := h
        refine q_callV X Y hl.1 (rest := []) (As := [.int p2]) (c_X10_isBox l G z f h0 p2 _ eq6) cd_X10_isBox lv_X10_137_9 c5 ⟨(Nat.le_of_ble_eq_true rfl), (Nat.le_of_ble_eq_true rfl)⟩ ⟨(Nat.le_of_ble_eq_true rfl), (Nat.le_of_ble_eq_true rfl)⟩ rfl rfl (Nat.le_of_ble_eq_true rfl) dX10_parts_12 (fun H locs Y => ?_)
        refine W.eq (g2 := F0 m 15 ls [.int q6]) rfl ?_
        refine lv_if_ne (tgt := 20) hx hb dX10_parts_15 (by decide) (fun c7 => ?_) (fun c7 => ?_)
        · replace h := Eq.trans (if_neg c7).symm h
          refine lv_aload_n hx hb dX10_parts_20 rfl (lv_at hl 1 rfl) ?_
          replace h := xb h
          obtain ⟨v8, ev8, h⟩ := h
          refine q_getN X Y fl_X10_36 ev8 dX10_parts_21 ?_
          refine lv_aload_n hx hb dX10_parts_24 rfl (lv_at hl 0 rfl) ?_
          refine lv_aload_n hx hb dX10_parts_25 rfl (lv_at hl 1 rfl) ?_
          replace h := xb h
          obtain ⟨v9, ev9, h⟩ := h
          refine q_getN X Y fl_X10_23 ev9 dX10_parts_26 ?_
          refine lv_iconst (v := 4) hx hb dX10_parts_29 (by decide) ?_
          refine lv_iload_n hx hb dX10_parts_30 rfl (lv_at hl 3 rfl) ?_
          refine lv_imul hx hb dX10_parts_31 ?_
          by_cases c10 : hKd f v8 = some 2
          · replace h := Eq.trans (if_pos c10).symm h
            replace h := xb h
            obtain ⟨q11, eq11, h⟩ := h
            refine q_callV X Y hl.1 (rest := []) (As := [.ref q4, .ref v9, .int ((4 : Int32) * p2)]) (c_X2_begin l G z f v8 q4 v9 ((4 : Int32) * p2) _ eq11) cd_X2_begin lv_X10_169_2 c10 ⟨(Nat.le_of_ble_eq_true rfl), (Nat.le_of_ble_eq_true rfl)⟩ ⟨(Nat.le_of_ble_eq_true rfl), (Nat.le_of_ble_eq_true rfl)⟩ rfl rfl (Nat.le_of_ble_eq_true rfl) dX10_parts_32 (fun H locs Y => ?_)
            refine W.eq (g2 := F0 m 35 ls []) rfl ?_
            refine lv_aload_n hx hb dX10_parts_35 rfl (lv_at hl 1 rfl) ?_
            replace h := xb h
            obtain ⟨v12, ev12, h⟩ := h
            refine q_getN X Y fl_X10_36 ev12 dX10_parts_36 ?_
            refine lv_iload_n hx hb dX10_parts_39 rfl (lv_at hl 2 rfl) ?_
            replace h := xb h
            obtain ⟨f13, ef13, h⟩ := h
            refine q_put X Y fp_X10_173 rfl rfl ef13 dX10_parts_40 (fun H locs Y => ?_)
            refine lv_aload_n hx hb dX10_parts_43 rfl (lv_at hl 1 rfl) ?_
            replace h := xb h
            obtain ⟨v14, ev14, h⟩ := h
            refine q_getN X Y fl_X10_36 ev14 dX10_parts_44 ?_
            refine lv_iload_n hx hb dX10_parts_47 rfl (lv_at hl 3 rfl) ?_
            replace h := xb h
            obtain ⟨f15, ef15, h⟩ := h
            refine q_put X Y fp_X10_176 rfl rfl ef15 dX10_parts_48 (fun H locs Y => ?_)
            refine lv_iconst (v := 1) hx hb dX10_parts_51 (by decide) ?_
            replace h := Option.some.inj h
            subst h
            exact q_reti X Y hr hlocks (Nat.le_of_ble_eq_true rfl) (Nat.le_of_ble_eq_true rfl) dX10_parts_52
          replace h := Eq.trans (if_neg c10).symm h
          cases h
        · replace h := Eq.trans (if_pos c7).symm h
          refine lv_iconst (v := -1) hx hb dX10_parts_18 (by decide) ?_
          replace h := Option.some.inj h
          subst h
          exact q_reti X Y hr hlocks (Nat.le_of_ble_eq_true rfl) (Nat.le_of_ble_eq_true rfl) dX10_parts_19
      replace h := Eq.trans (if_neg c5).symm h
      cases h
  replace h := Eq.trans (if_neg c1).symm h
  cases h
/-! NeverBelow$Parts.cutPart(I)Z -/
abbrev rm_X2_cutPart : Room := { frames := 2, cells := 0, slots := 0, locals := 65 }
def F_X2_cutPart_160  (f : xHp) (a0 : Nat) (a1 : Int32) (s0 : Int32) (s1 : Int32) (s2 : Nat) : Option (Int32 × xHp) := Option.bind (F_X10_halve f s2 s1 s0 ((4 : Int32) * a1) ((4 : Int32) * (a1 + (1 : Int32)))) fun q1 => Option.bind (hN q1 a0 [(2, 1)]) fun v2 => Option.bind (hIst q1 v2 (a1 + (1 : Int32)) (0 : Int32)) fun f3 => Option.bind (hI f3 a0 [(2, 6)]) fun v4 => Option.bind (hPut f3 a0 [(2, 6)] (.int (v4 + (1 : Int32)))) fun f5 => some ((1 : Int32), f5)
def F_X2_cutPart_87  (f : xHp) (a0 : Nat) (a1 : Int32) (s0 : Int32) : Option (Int32 × xHp) := Option.bind (hI f a0 [(2, 6)]) fun v1 => Option.bind (hN f a0 [(2, 0)]) fun v2 => Option.bind (hN f a0 [(2, 0)]) fun v3 => Option.bind (hIcp f v2 ((4 : Int32) * (a1 + (1 : Int32))) v3 ((4 : Int32) * (a1 + (2 : Int32))) ((4 : Int32) * ((v1 - a1) - (1 : Int32)))) fun f4 => Option.bind (hN f4 a0 [(2, 1)]) fun v5 => Option.bind (hN f4 a0 [(2, 1)]) fun v6 => Option.bind (hIcp f4 v5 (a1 + (1 : Int32)) v6 (a1 + (2 : Int32)) ((v1 - a1) - (1 : Int32))) fun f7 => Option.bind (hN f7 a0 [(2, 0)]) fun v8 => if s0 = 0 then (F_X2_cutPart_160 f7 a0 a1 (1 : Int32) ((4 : Int32) * a1) v8) else (F_X2_cutPart_160 f7 a0 a1 (0 : Int32) ((4 : Int32) * a1) v8)
def F_X2_cutPart_86  (f : xHp) (a0 : Nat) (a1 : Int32) : Option (Int32 × xHp) := F_X2_cutPart_87 f a0 a1 (0 : Int32)
def F_X2_cutPart_82  (f : xHp) (a0 : Nat) (a1 : Int32) : Option (Int32 × xHp) := F_X2_cutPart_87 f a0 a1 (1 : Int32)
def F_X2_cutPart_47  (f : xHp) (a0 : Nat) (a1 : Int32) (a2 : Int32) (a3 : Int32) : Option (Int32 × xHp) := Option.bind (hI f a0 [(2, 6)]) fun v1 => if v1 < (40 : Int32) then (Option.bind (F_X10_isOdd f a2) fun q3 => if q3 = 0 then (Option.bind (F_X10_isOdd f a3) fun q5 => if q5 = 0 then (if a2 < a3 then (F_X2_cutPart_86 f a0 a1) else (F_X2_cutPart_82 f a0 a1)) else (F_X2_cutPart_82 f a0 a1)) else (F_X2_cutPart_86 f a0 a1)) else (Option.bind (hPut f a0 [(2, 10)] (.int (1 : Int32))) fun f8 => some ((0 : Int32), f8))
def F_X2_cutPart (f : xHp) (h0 : Nat) (p1 : Int32) : Option (Int32 × xHp) := Option.bind (hN f h0 [(2, 0)]) fun v1 => Option.bind (F_X10_lengthOf f v1 ((4 : Int32) * p1) (0 : Int32)) fun q2 => Option.bind (hN f h0 [(2, 0)]) fun v3 => Option.bind (F_X10_lengthOf f v3 ((4 : Int32) * p1) (1 : Int32)) fun q4 => Option.bind (F_X10_isOdd f q2) fun q5 => if q5 = 0 then (F_X2_cutPart_47 f h0 p1 q2 q4) else (Option.bind (F_X10_isOdd f q4) fun q7 => if q7 = 0 then (F_X2_cutPart_47 f h0 p1 q2 q4) else (Option.bind (hN f h0 [(2, 1)]) fun v9 => Option.bind (hIst f v9 p1 (2 : Int32)) fun f10 => some ((1 : Int32), f10)))
set_option maxRecDepth 100000 in
set_option maxHeartbeats 4000000 in
theorem w_X2_cutPart_160 {p : Program} {l : Launch} {e : Env} {s : State} {m : MethodId} {args : Array Value} {below : List Frame} {meth : Method} {c : Code} {G : xG} {z : Nat} (X : xC G p m c s args RX2 cX2_cutPart 6) (hr : meth.sig.returnType = (some .boolean)) (hlocks : meth.locks = false) (hin : meth.name = yX2_cutPart.name) (rs : Int32 × xHp)  (f : xHp) (a0 : Nat) (a1 : Int32) (s0 : Int32) (s1 : Int32) (s2 : Nat) (H : Heap) (locs : List Loc) (ls : Array Slot) (h : F_X2_cutPart_160  f a0 a1 s0 s1 s2 = some rs) (Y : xY G z f s H locs) (hl : lv_has ls 6 [(0, .ref a0), (1, .int a1)]) : W p l e rm_X2_cutPart s m args below meth c H locs 0 0 (MQ below (xQ G (some (.int rs.1)) z rs.2) args s rm_X2_cutPart.cells rm_X2_cutPart.slots (xA G)) (F0 m 160 ls [.int s0, .int s1, .ref s2]) := by
  have hx := X.1.1
  have hb := X.1.2.1
  unfold F_X2_cutPart_160 at h
  refine lv_iconst (v := 4) hx hb dX2_cutPart_160 (by decide) ?_
  refine lv_iload_n hx hb dX2_cutPart_161 rfl (lv_at hl 1 rfl) ?_
  refine lv_imul hx hb dX2_cutPart_162 ?_
  refine lv_iconst (v := 4) hx hb dX2_cutPart_163 (by decide) ?_
  refine lv_iload_n hx hb dX2_cutPart_164 rfl (lv_at hl 1 rfl) ?_
  refine lv_iconst (v := 1) hx hb dX2_cutPart_165 (by decide) ?_
  refine lv_iadd hx hb dX2_cutPart_166 ?_
  refine lv_imul hx hb dX2_cutPart_167 ?_
  replace h := xb h
  obtain ⟨q1, eq1, h⟩ := h
  refine q_callSN X Y hl.1 (rest := []) (As := [.ref s2, .int s1, .int s0, .int ((4 : Int32) * a1), .int ((4 : Int32) * (a1 + (1 : Int32)))]) (c_X10_halve l G z f s2 s1 s0 ((4 : Int32) * a1) ((4 : Int32) * (a1 + (1 : Int32))) _ eq1) cd_X10_halve ls_X2_85 ⟨(Nat.le_of_ble_eq_true rfl), (Nat.le_of_ble_eq_true rfl)⟩ ⟨(Nat.le_of_ble_eq_true rfl), (Nat.le_of_ble_eq_true rfl)⟩ rfl rfl (Nat.le_of_ble_eq_true rfl) dX2_cutPart_168 (fun H locs Y => ?_)
  refine W.eq (g2 := F0 m 171 ls []) rfl ?_
  refine lv_aload_n hx hb dX2_cutPart_171 rfl (lv_at hl 0 rfl) ?_
  replace h := xb h
  obtain ⟨v2, ev2, h⟩ := h
  refine q_getN X Y fl_X2_15 ev2 dX2_cutPart_172 ?_
  refine lv_iload_n hx hb dX2_cutPart_175 rfl (lv_at hl 1 rfl) ?_
  refine lv_iconst (v := 1) hx hb dX2_cutPart_176 (by decide) ?_
  refine lv_iadd hx hb dX2_cutPart_177 ?_
  refine lv_iconst (v := 0) hx hb dX2_cutPart_178 (by decide) ?_
  replace h := xb h
  obtain ⟨f3, ef3, h⟩ := h
  refine q_iast X Y ef3 dX2_cutPart_179 (fun H locs Y => ?_)
  refine lv_aload_n hx hb dX2_cutPart_180 rfl (lv_at hl 0 rfl) ?_
  refine lv_dup hx hb dX2_cutPart_181 rfl ?_
  replace h := xb h
  obtain ⟨v4, ev4, h⟩ := h
  refine q_getI X Y fl_X2_32 ev4 dX2_cutPart_182 ?_
  refine lv_iconst (v := 1) hx hb dX2_cutPart_185 (by decide) ?_
  refine lv_iadd hx hb dX2_cutPart_186 ?_
  replace h := xb h
  obtain ⟨f5, ef5, h⟩ := h
  refine q_put X Y fp_X2_32 rfl rfl ef5 dX2_cutPart_187 (fun H locs Y => ?_)
  refine lv_iconst (v := 1) hx hb dX2_cutPart_190 (by decide) ?_
  replace h := Option.some.inj h
  subst h
  exact q_retz (v := (1 : Int32)) X Y hr hlocks rfl (Nat.le_of_ble_eq_true rfl) (Nat.le_of_ble_eq_true rfl) dX2_cutPart_191
set_option maxRecDepth 100000 in
set_option maxHeartbeats 4000000 in
theorem w_X2_cutPart_87 {p : Program} {l : Launch} {e : Env} {s : State} {m : MethodId} {args : Array Value} {below : List Frame} {meth : Method} {c : Code} {G : xG} {z : Nat} (X : xC G p m c s args RX2 cX2_cutPart 6) (hr : meth.sig.returnType = (some .boolean)) (hlocks : meth.locks = false) (hin : meth.name = yX2_cutPart.name) (rs : Int32 × xHp)  (f : xHp) (a0 : Nat) (a1 : Int32) (s0 : Int32) (H : Heap) (locs : List Loc) (ls : Array Slot) (h : F_X2_cutPart_87  f a0 a1 s0 = some rs) (Y : xY G z f s H locs) (hl : lv_has ls 6 [(0, .ref a0), (1, .int a1)]) : W p l e rm_X2_cutPart s m args below meth c H locs 0 0 (MQ below (xQ G (some (.int rs.1)) z rs.2) args s rm_X2_cutPart.cells rm_X2_cutPart.slots (xA G)) (F0 m 87 ls [.int s0]) := by
  have hx := X.1.1
  have hb := X.1.2.1
  unfold F_X2_cutPart_87 at h
  refine lv_istore (lv' := [(4, .int s0), (0, .ref a0), (1, .int a1)]) hx hb dX2_cutPart_87 hl (by decide) rfl (fun ls hl => ?_)
  refine lv_aload_n hx hb dX2_cutPart_89 rfl (lv_at hl 1 rfl) ?_
  replace h := xb h
  obtain ⟨v1, ev1, h⟩ := h
  refine q_getI X Y fl_X2_32 ev1 dX2_cutPart_90 ?_
  refine lv_iload_n hx hb dX2_cutPart_93 rfl (lv_at hl 2 rfl) ?_
  refine lv_isub hx hb dX2_cutPart_94 ?_
  refine lv_iconst (v := 1) hx hb dX2_cutPart_95 (by decide) ?_
  refine lv_isub hx hb dX2_cutPart_96 ?_
  refine lv_istore (lv' := [(5, .int ((v1 - a1) - (1 : Int32))), (4, .int s0), (0, .ref a0), (1, .int a1)]) hx hb dX2_cutPart_97 hl (by decide) rfl (fun ls hl => ?_)
  refine lv_aload_n hx hb dX2_cutPart_99 rfl (lv_at hl 2 rfl) ?_
  replace h := xb h
  obtain ⟨v2, ev2, h⟩ := h
  refine q_getN X Y fl_X2_9 ev2 dX2_cutPart_100 ?_
  refine lv_iconst (v := 4) hx hb dX2_cutPart_103 (by decide) ?_
  refine lv_iload_n hx hb dX2_cutPart_104 rfl (lv_at hl 3 rfl) ?_
  refine lv_iconst (v := 1) hx hb dX2_cutPart_105 (by decide) ?_
  refine lv_iadd hx hb dX2_cutPart_106 ?_
  refine lv_imul hx hb dX2_cutPart_107 ?_
  refine lv_aload_n hx hb dX2_cutPart_108 rfl (lv_at hl 2 rfl) ?_
  replace h := xb h
  obtain ⟨v3, ev3, h⟩ := h
  refine q_getN X Y fl_X2_9 ev3 dX2_cutPart_109 ?_
  refine lv_iconst (v := 4) hx hb dX2_cutPart_112 (by decide) ?_
  refine lv_iload_n hx hb dX2_cutPart_113 rfl (lv_at hl 3 rfl) ?_
  refine lv_iconst (v := 2) hx hb dX2_cutPart_114 (by decide) ?_
  refine lv_iadd hx hb dX2_cutPart_115 ?_
  refine lv_imul hx hb dX2_cutPart_116 ?_
  refine lv_iconst (v := 4) hx hb dX2_cutPart_117 (by decide) ?_
  refine lv_iload hx hb dX2_cutPart_118 (lv_at hl 0 rfl) ?_
  refine lv_imul hx hb dX2_cutPart_120 ?_
  replace h := xb h
  obtain ⟨f4, ef4, h⟩ := h
  refine q_icp X Y hl.1 cp_X2_26 ef4 (Nat.le_of_ble_eq_true rfl) (Nat.le_of_ble_eq_true rfl) dX2_cutPart_121 (fun H locs Y => ?_)
  refine lv_aload_n hx hb dX2_cutPart_124 rfl (lv_at hl 2 rfl) ?_
  replace h := xb h
  obtain ⟨v5, ev5, h⟩ := h
  refine q_getN X Y fl_X2_15 ev5 dX2_cutPart_125 ?_
  refine lv_iload_n hx hb dX2_cutPart_128 rfl (lv_at hl 3 rfl) ?_
  refine lv_iconst (v := 1) hx hb dX2_cutPart_129 (by decide) ?_
  refine lv_iadd hx hb dX2_cutPart_130 ?_
  refine lv_aload_n hx hb dX2_cutPart_131 rfl (lv_at hl 2 rfl) ?_
  replace h := xb h
  obtain ⟨v6, ev6, h⟩ := h
  refine q_getN X Y fl_X2_15 ev6 dX2_cutPart_132 ?_
  refine lv_iload_n hx hb dX2_cutPart_135 rfl (lv_at hl 3 rfl) ?_
  refine lv_iconst (v := 2) hx hb dX2_cutPart_136 (by decide) ?_
  refine lv_iadd hx hb dX2_cutPart_137 ?_
  refine lv_iload hx hb dX2_cutPart_138 (lv_at hl 0 rfl) ?_
  replace h := xb h
  obtain ⟨f7, ef7, h⟩ := h
  refine q_icp X Y hl.1 cp_X2_26 ef7 (Nat.le_of_ble_eq_true rfl) (Nat.le_of_ble_eq_true rfl) dX2_cutPart_140 (fun H locs Y => ?_)
  refine lv_aload_n hx hb dX2_cutPart_143 rfl (lv_at hl 2 rfl) ?_
  replace h := xb h
  obtain ⟨v8, ev8, h⟩ := h
  refine q_getN X Y fl_X2_9 ev8 dX2_cutPart_144 ?_
  refine lv_iconst (v := 4) hx hb dX2_cutPart_147 (by decide) ?_
  refine lv_iload_n hx hb dX2_cutPart_148 rfl (lv_at hl 3 rfl) ?_
  refine lv_imul hx hb dX2_cutPart_149 ?_
  refine lv_iload hx hb dX2_cutPart_150 (lv_at hl 1 rfl) ?_
  refine lv_if_eq (tgt := 159) hx hb dX2_cutPart_152 (by decide) (fun c9 => ?_) (fun c9 => ?_)
  · replace h := Eq.trans (if_pos c9).symm h
    refine lv_iconst (v := 1) hx hb dX2_cutPart_159 (by decide) ?_
    refine W.widen (k := 0) (n := 0) (Nat.le_of_ble_eq_true rfl) (Nat.le_of_ble_eq_true rfl) ?_
    exact w_X2_cutPart_160 X hr hlocks hin rs   f7 a0 a1 (1 : Int32) ((4 : Int32) * a1) v8 _ _ _ h Y (lv_sub hl [2, 3] rfl)
  · replace h := Eq.trans (if_neg c9).symm h
    refine lv_iconst (v := 0) hx hb dX2_cutPart_155 (by decide) ?_
    refine lv_goto (tgt := 160) hx hb dX2_cutPart_156 (by decide) ?_
    refine W.widen (k := 0) (n := 0) (Nat.le_of_ble_eq_true rfl) (Nat.le_of_ble_eq_true rfl) ?_
    exact w_X2_cutPart_160 X hr hlocks hin rs   f7 a0 a1 (0 : Int32) ((4 : Int32) * a1) v8 _ _ _ h Y (lv_sub hl [2, 3] rfl)
set_option maxRecDepth 100000 in
set_option maxHeartbeats 4000000 in
theorem w_X2_cutPart_86 {p : Program} {l : Launch} {e : Env} {s : State} {m : MethodId} {args : Array Value} {below : List Frame} {meth : Method} {c : Code} {G : xG} {z : Nat} (X : xC G p m c s args RX2 cX2_cutPart 6) (hr : meth.sig.returnType = (some .boolean)) (hlocks : meth.locks = false) (hin : meth.name = yX2_cutPart.name) (rs : Int32 × xHp)  (f : xHp) (a0 : Nat) (a1 : Int32) (H : Heap) (locs : List Loc) (ls : Array Slot) (h : F_X2_cutPart_86  f a0 a1 = some rs) (Y : xY G z f s H locs) (hl : lv_has ls 6 [(0, .ref a0), (1, .int a1)]) : W p l e rm_X2_cutPart s m args below meth c H locs 0 0 (MQ below (xQ G (some (.int rs.1)) z rs.2) args s rm_X2_cutPart.cells rm_X2_cutPart.slots (xA G)) (F0 m 86 ls []) := by
  have hx := X.1.1
  have hb := X.1.2.1
  unfold F_X2_cutPart_86 at h
  refine lv_iconst (v := 0) hx hb dX2_cutPart_86 (by decide) ?_
  refine W.widen (k := 0) (n := 0) (Nat.le_of_ble_eq_true rfl) (Nat.le_of_ble_eq_true rfl) ?_
  exact w_X2_cutPart_87 X hr hlocks hin rs   f a0 a1 (0 : Int32) _ _ _ h Y (lv_sub hl [0, 1] rfl)
set_option maxRecDepth 100000 in
set_option maxHeartbeats 4000000 in
theorem w_X2_cutPart_82 {p : Program} {l : Launch} {e : Env} {s : State} {m : MethodId} {args : Array Value} {below : List Frame} {meth : Method} {c : Code} {G : xG} {z : Nat} (X : xC G p m c s args RX2 cX2_cutPart 6) (hr : meth.sig.returnType = (some .boolean)) (hlocks : meth.locks = false) (hin : meth.name = yX2_cutPart.name) (rs : Int32 × xHp)  (f : xHp) (a0 : Nat) (a1 : Int32) (H : Heap) (locs : List Loc) (ls : Array Slot) (h : F_X2_cutPart_82  f a0 a1 = some rs) (Y : xY G z f s H locs) (hl : lv_has ls 6 [(0, .ref a0), (1, .int a1)]) : W p l e rm_X2_cutPart s m args below meth c H locs 0 0 (MQ below (xQ G (some (.int rs.1)) z rs.2) args s rm_X2_cutPart.cells rm_X2_cutPart.slots (xA G)) (F0 m 82 ls []) := by
  have hx := X.1.1
  have hb := X.1.2.1
  unfold F_X2_cutPart_82 at h
  refine lv_iconst (v := 1) hx hb dX2_cutPart_82 (by decide) ?_
  refine lv_goto (tgt := 87) hx hb dX2_cutPart_83 (by decide) ?_
  refine W.widen (k := 0) (n := 0) (Nat.le_of_ble_eq_true rfl) (Nat.le_of_ble_eq_true rfl) ?_
  exact w_X2_cutPart_87 X hr hlocks hin rs   f a0 a1 (1 : Int32) _ _ _ h Y (lv_sub hl [0, 1] rfl)
set_option maxRecDepth 100000 in
set_option maxHeartbeats 4000000 in
theorem w_X2_cutPart_47 {p : Program} {l : Launch} {e : Env} {s : State} {m : MethodId} {args : Array Value} {below : List Frame} {meth : Method} {c : Code} {G : xG} {z : Nat} (X : xC G p m c s args RX2 cX2_cutPart 6) (hr : meth.sig.returnType = (some .boolean)) (hlocks : meth.locks = false) (hin : meth.name = yX2_cutPart.name) (rs : Int32 × xHp)  (f : xHp) (a0 : Nat) (a1 : Int32) (a2 : Int32) (a3 : Int32) (H : Heap) (locs : List Loc) (ls : Array Slot) (h : F_X2_cutPart_47  f a0 a1 a2 a3 = some rs) (Y : xY G z f s H locs) (hl : lv_has ls 6 [(0, .ref a0), (1, .int a1), (2, .int a2), (3, .int a3)]) : W p l e rm_X2_cutPart s m args below meth c H locs 0 0 (MQ below (xQ G (some (.int rs.1)) z rs.2) args s rm_X2_cutPart.cells rm_X2_cutPart.slots (xA G)) (F0 m 47 ls []) := by
  have hx := X.1.1
  have hb := X.1.2.1
  unfold F_X2_cutPart_47 at h
  refine lv_aload_n hx hb dX2_cutPart_47 rfl (lv_at hl 0 rfl) ?_
  replace h := xb h
  obtain ⟨v1, ev1, h⟩ := h
  refine q_getI X Y fl_X2_32 ev1 dX2_cutPart_48 ?_
  refine lv_bipush (v := 40) hx hb dX2_cutPart_51 (by decide) ?_
  refine lv_icmp_lt (tgt := 63) hx hb dX2_cutPart_53 (by decide) (fun c2 => ?_) (fun c2 => ?_)
  · replace h := Eq.trans (if_pos c2).symm h
    refine lv_iload_n hx hb dX2_cutPart_63 rfl (lv_at hl 2 rfl) ?_
    replace h := xb h
    obtain ⟨q3, eq3, h⟩ := h
    refine q_callSN X Y hl.1 (rest := []) (As := [.int a2]) (c_X10_isOdd l G z f a2 _ eq3) cd_X10_isOdd ls_X2_82 ⟨(Nat.le_of_ble_eq_true rfl), (Nat.le_of_ble_eq_true rfl)⟩ ⟨(Nat.le_of_ble_eq_true rfl), (Nat.le_of_ble_eq_true rfl)⟩ rfl rfl (Nat.le_of_ble_eq_true rfl) dX2_cutPart_64 (fun H locs Y => ?_)
    refine W.eq (g2 := F0 m 67 ls [.int q3]) rfl ?_
    refine lv_if_ne (tgt := 86) hx hb dX2_cutPart_67 (by decide) (fun c4 => ?_) (fun c4 => ?_)
    · replace h := Eq.trans (if_neg c4).symm h
      refine W.widen (k := 0) (n := 0) (Nat.le_of_ble_eq_true rfl) (Nat.le_of_ble_eq_true rfl) ?_
      exact w_X2_cutPart_86 X hr hlocks hin rs   f a0 a1 _ _ _ h Y (lv_sub hl [0, 1] rfl)
    · replace h := Eq.trans (if_pos c4).symm h
      refine lv_iload_n hx hb dX2_cutPart_70 rfl (lv_at hl 3 rfl) ?_
      replace h := xb h
      obtain ⟨q5, eq5, h⟩ := h
      refine q_callSN X Y hl.1 (rest := []) (As := [.int a3]) (c_X10_isOdd l G z f a3 _ eq5) cd_X10_isOdd ls_X2_82 ⟨(Nat.le_of_ble_eq_true rfl), (Nat.le_of_ble_eq_true rfl)⟩ ⟨(Nat.le_of_ble_eq_true rfl), (Nat.le_of_ble_eq_true rfl)⟩ rfl rfl (Nat.le_of_ble_eq_true rfl) dX2_cutPart_71 (fun H locs Y => ?_)
      refine W.eq (g2 := F0 m 74 ls [.int q5]) rfl ?_
      refine lv_if_ne (tgt := 82) hx hb dX2_cutPart_74 (by decide) (fun c6 => ?_) (fun c6 => ?_)
      · replace h := Eq.trans (if_neg c6).symm h
        refine W.widen (k := 0) (n := 0) (Nat.le_of_ble_eq_true rfl) (Nat.le_of_ble_eq_true rfl) ?_
        exact w_X2_cutPart_82 X hr hlocks hin rs   f a0 a1 _ _ _ h Y (lv_sub hl [0, 1] rfl)
      · replace h := Eq.trans (if_pos c6).symm h
        refine lv_iload_n hx hb dX2_cutPart_77 rfl (lv_at hl 3 rfl) ?_
        refine lv_iload_n hx hb dX2_cutPart_78 rfl (lv_at hl 2 rfl) ?_
        refine lv_icmp_gt (tgt := 86) hx hb dX2_cutPart_79 (by decide) (fun c7 => ?_) (fun c7 => ?_)
        · replace h := Eq.trans (if_pos c7).symm h
          refine W.widen (k := 0) (n := 0) (Nat.le_of_ble_eq_true rfl) (Nat.le_of_ble_eq_true rfl) ?_
          exact w_X2_cutPart_86 X hr hlocks hin rs   f a0 a1 _ _ _ h Y (lv_sub hl [0, 1] rfl)
        · replace h := Eq.trans (if_neg c7).symm h
          refine W.widen (k := 0) (n := 0) (Nat.le_of_ble_eq_true rfl) (Nat.le_of_ble_eq_true rfl) ?_
          exact w_X2_cutPart_82 X hr hlocks hin rs   f a0 a1 _ _ _ h Y (lv_sub hl [0, 1] rfl)
  · replace h := Eq.trans (if_neg c2).symm h
    refine lv_aload_n hx hb dX2_cutPart_56 rfl (lv_at hl 0 rfl) ?_
    refine lv_iconst (v := 1) hx hb dX2_cutPart_57 (by decide) ?_
    replace h := xb h
    obtain ⟨f8, ef8, h⟩ := h
    refine q_put X Y fp_X2_40 rfl rfl ef8 dX2_cutPart_58 (fun H locs Y => ?_)
    refine lv_iconst (v := 0) hx hb dX2_cutPart_61 (by decide) ?_
    replace h := Option.some.inj h
    subst h
    exact q_retz (v := (0 : Int32)) X Y hr hlocks rfl (Nat.le_of_ble_eq_true rfl) (Nat.le_of_ble_eq_true rfl) dX2_cutPart_62
set_option maxRecDepth 100000 in
set_option maxHeartbeats 4000000 in
theorem c_X2_cutPart (l : Launch) (G : xG) (z : Nat) (f : xHp) (h0 : Nat) (p1 : Int32) (rs : Int32 × xHp) (h : F_X2_cutPart f h0 p1 = some rs) : xM G l yX2_cutPart cX2_cutPart 6 (some .boolean) rm_X2_cutPart [.ref h0, .int p1] z f (some (.int rs.1)) z rs.2 := by
  refine xM_of (by decide) (Nat.le_of_ble_eq_true rfl) ?_
  intro p e s m below meth c ls X hr hlocks hin Y hl
  have hl : lv_has ls 6 [(0, .ref h0), (1, .int p1)] := hl
  have hx := X.1.1
  have hb := X.1.2.1
  unfold F_X2_cutPart at h
  refine lv_aload_n hx hb dX2_cutPart_0 rfl (lv_at hl 0 rfl) ?_
  replace h := xb h
  obtain ⟨v1, ev1, h⟩ := h
  refine q_getN X Y fl_X2_9 ev1 dX2_cutPart_1 ?_
  refine lv_iconst (v := 4) hx hb dX2_cutPart_4 (by decide) ?_
  refine lv_iload_n hx hb dX2_cutPart_5 rfl (lv_at hl 1 rfl) ?_
  refine lv_imul hx hb dX2_cutPart_6 ?_
  refine lv_iconst (v := 0) hx hb dX2_cutPart_7 (by decide) ?_
  replace h := xb h
  obtain ⟨q2, eq2, h⟩ := h
  refine q_callSN X Y hl.1 (rest := []) (As := [.ref v1, .int ((4 : Int32) * p1), .int (0 : Int32)]) (c_X10_lengthOf l G z f v1 ((4 : Int32) * p1) (0 : Int32) _ eq2) cd_X10_lengthOf ls_X2_78 ⟨(Nat.le_of_ble_eq_true rfl), (Nat.le_of_ble_eq_true rfl)⟩ ⟨(Nat.le_of_ble_eq_true rfl), (Nat.le_of_ble_eq_true rfl)⟩ rfl rfl (Nat.le_of_ble_eq_true rfl) dX2_cutPart_8 (fun H locs Y => ?_)
  refine W.eq (g2 := F0 m 11 ls [.int q2]) rfl ?_
  refine lv_istore_n (lv' := [(2, .int q2), (0, .ref h0), (1, .int p1)]) hx hb dX2_cutPart_11 rfl hl (by decide) rfl (fun ls hl => ?_)
  refine lv_aload_n hx hb dX2_cutPart_12 rfl (lv_at hl 1 rfl) ?_
  replace h := xb h
  obtain ⟨v3, ev3, h⟩ := h
  refine q_getN X Y fl_X2_9 ev3 dX2_cutPart_13 ?_
  refine lv_iconst (v := 4) hx hb dX2_cutPart_16 (by decide) ?_
  refine lv_iload_n hx hb dX2_cutPart_17 rfl (lv_at hl 2 rfl) ?_
  refine lv_imul hx hb dX2_cutPart_18 ?_
  refine lv_iconst (v := 1) hx hb dX2_cutPart_19 (by decide) ?_
  replace h := xb h
  obtain ⟨q4, eq4, h⟩ := h
  refine q_callSN X Y hl.1 (rest := []) (As := [.ref v3, .int ((4 : Int32) * p1), .int (1 : Int32)]) (c_X10_lengthOf l G z f v3 ((4 : Int32) * p1) (1 : Int32) _ eq4) cd_X10_lengthOf ls_X2_78 ⟨(Nat.le_of_ble_eq_true rfl), (Nat.le_of_ble_eq_true rfl)⟩ ⟨(Nat.le_of_ble_eq_true rfl), (Nat.le_of_ble_eq_true rfl)⟩ rfl rfl (Nat.le_of_ble_eq_true rfl) dX2_cutPart_20 (fun H locs Y => ?_)
  refine W.eq (g2 := F0 m 23 ls [.int q4]) rfl ?_
  refine lv_istore_n (lv' := [(3, .int q4), (2, .int q2), (0, .ref h0), (1, .int p1)]) hx hb dX2_cutPart_23 rfl hl (by decide) rfl (fun ls hl => ?_)
  refine lv_iload_n hx hb dX2_cutPart_24 rfl (lv_at hl 1 rfl) ?_
  replace h := xb h
  obtain ⟨q5, eq5, h⟩ := h
  refine q_callSN X Y hl.1 (rest := []) (As := [.int q2]) (c_X10_isOdd l G z f q2 _ eq5) cd_X10_isOdd ls_X2_82 ⟨(Nat.le_of_ble_eq_true rfl), (Nat.le_of_ble_eq_true rfl)⟩ ⟨(Nat.le_of_ble_eq_true rfl), (Nat.le_of_ble_eq_true rfl)⟩ rfl rfl (Nat.le_of_ble_eq_true rfl) dX2_cutPart_25 (fun H locs Y => ?_)
  refine W.eq (g2 := F0 m 28 ls [.int q5]) rfl ?_
  refine lv_if_eq (tgt := 47) hx hb dX2_cutPart_28 (by decide) (fun c6 => ?_) (fun c6 => ?_)
  · replace h := Eq.trans (if_pos c6).symm h
    refine W.widen (k := 0) (n := 0) (Nat.le_of_ble_eq_true rfl) (Nat.le_of_ble_eq_true rfl) ?_
    exact w_X2_cutPart_47 X hr hlocks hin rs   f h0 p1 q2 q4 _ _ _ h Y (lv_sub hl [2, 3, 1, 0] rfl)
  · replace h := Eq.trans (if_neg c6).symm h
    refine lv_iload_n hx hb dX2_cutPart_31 rfl (lv_at hl 0 rfl) ?_
    replace h := xb h
    obtain ⟨q7, eq7, h⟩ := h
    refine q_callSN X Y hl.1 (rest := []) (As := [.int q4]) (c_X10_isOdd l G z f q4 _ eq7) cd_X10_isOdd ls_X2_82 ⟨(Nat.le_of_ble_eq_true rfl), (Nat.le_of_ble_eq_true rfl)⟩ ⟨(Nat.le_of_ble_eq_true rfl), (Nat.le_of_ble_eq_true rfl)⟩ rfl rfl (Nat.le_of_ble_eq_true rfl) dX2_cutPart_32 (fun H locs Y => ?_)
    refine W.eq (g2 := F0 m 35 ls [.int q7]) rfl ?_
    refine lv_if_eq (tgt := 47) hx hb dX2_cutPart_35 (by decide) (fun c8 => ?_) (fun c8 => ?_)
    · replace h := Eq.trans (if_pos c8).symm h
      refine W.widen (k := 0) (n := 0) (Nat.le_of_ble_eq_true rfl) (Nat.le_of_ble_eq_true rfl) ?_
      exact w_X2_cutPart_47 X hr hlocks hin rs   f h0 p1 q2 q4 _ _ _ h Y (lv_sub hl [2, 3, 1, 0] rfl)
    · replace h := Eq.trans (if_neg c8).symm h
      refine lv_aload_n hx hb dX2_cutPart_38 rfl (lv_at hl 2 rfl) ?_
      replace h := xb h
      obtain ⟨v9, ev9, h⟩ := h
      refine q_getN X Y fl_X2_15 ev9 dX2_cutPart_39 ?_
      refine lv_iload_n hx hb dX2_cutPart_42 rfl (lv_at hl 3 rfl) ?_
      refine lv_iconst (v := 2) hx hb dX2_cutPart_43 (by decide) ?_
      replace h := xb h
      obtain ⟨f10, ef10, h⟩ := h
      refine q_iast X Y ef10 dX2_cutPart_44 (fun H locs Y => ?_)
      refine lv_iconst (v := 1) hx hb dX2_cutPart_45 (by decide) ?_
      replace h := Option.some.inj h
      subst h
      exact q_retz (v := (1 : Int32)) X Y hr hlocks rfl (Nat.le_of_ble_eq_true rfl) (Nat.le_of_ble_eq_true rfl) dX2_cutPart_46
/-! NeverBelow$Parts.firstOpen()I -/
abbrev rm_X2_firstOpen : Room := { frames := 0, cells := 0, slots := 0, locals := 0 }
def F_X2_firstOpen_2 (f : xHp) (k2 : Nat → Int32 → Option (Int32))  (a0 : Nat) (a1 : Int32) : Option (Int32) := Option.bind (hI f a0 [(2, 6)]) fun v1 => if v1 ≤ a1 then (some (-1 : Int32)) else (Option.bind (hN f a0 [(2, 1)]) fun v3 => Option.bind (hIld f v3 a1) fun v4 => if v4 = 0 then (some a1) else (k2 a0 (a1 + 1)))
def L_X2_firstOpen_2 (f : xHp)  : Nat → Nat → Int32 → Option (Int32)
  | 0, _, _ => none
  | n + 1, a0, a1 => F_X2_firstOpen_2 f (L_X2_firstOpen_2 f  n) a0 a1
def F_X2_firstOpen (f : xHp) (h0 : Nat) : Option (Int32) := L_X2_firstOpen_2 f xfuel h0 (0 : Int32)
set_option maxRecDepth 100000 in
set_option maxHeartbeats 4000000 in
theorem w_X2_firstOpen_2 {p : Program} {l : Launch} {e : Env} {s : State} {m : MethodId} {args : Array Value} {below : List Frame} {meth : Method} {c : Code} {G : xG} {z : Nat} {f : xHp} (X : xC G p m c s args RX2 cX2_firstOpen 2) (hr : meth.sig.returnType = (some .int)) (hlocks : meth.locks = false) (hin : meth.name = yX2_firstOpen.name) (rs : Int32) (k2 : Nat → Int32 → Option (Int32)) (hk2 : ∀ (a0 : Nat) (a1 : Int32) (H : Heap) (locs : List Loc) (ls : Array Slot), k2 a0 a1 = some rs → xY G z f s H locs → lv_has ls 2 [(0, .ref a0), (1, .int a1)] → W p l e rm_X2_firstOpen s m args below meth c H locs 0 0 (MQ below (xQ G (some (.int rs)) z f) args s rm_X2_firstOpen.cells rm_X2_firstOpen.slots (xA G)) (F0 m 2 ls [])) (a0 : Nat) (a1 : Int32) (H : Heap) (locs : List Loc) (ls : Array Slot) (h : F_X2_firstOpen_2 f k2 a0 a1 = some rs) (Y : xY G z f s H locs) (hl : lv_has ls 2 [(0, .ref a0), (1, .int a1)]) : W p l e rm_X2_firstOpen s m args below meth c H locs 0 0 (MQ below (xQ G (some (.int rs)) z f) args s rm_X2_firstOpen.cells rm_X2_firstOpen.slots (xA G)) (F0 m 2 ls []) := by
  have hx := X.1.1
  have hb := X.1.2.1
  unfold F_X2_firstOpen_2 at h
  refine lv_iload_n hx hb dX2_firstOpen_2 rfl (lv_at hl 1 rfl) ?_
  refine lv_aload_n hx hb dX2_firstOpen_3 rfl (lv_at hl 0 rfl) ?_
  replace h := xb h
  obtain ⟨v1, ev1, h⟩ := h
  refine q_getI X Y fl_X2_32 ev1 dX2_firstOpen_4 ?_
  refine lv_icmp_ge (tgt := 27) hx hb dX2_firstOpen_7 (by decide) (fun c2 => ?_) (fun c2 => ?_)
  · replace h := Eq.trans (if_pos c2).symm h
    refine lv_iconst (v := -1) hx hb dX2_firstOpen_27 (by decide) ?_
    replace h := Option.some.inj h
    subst h
    exact q_reti X Y hr hlocks (Nat.le_of_ble_eq_true rfl) (Nat.le_of_ble_eq_true rfl) dX2_firstOpen_28
  · replace h := Eq.trans (if_neg c2).symm h
    refine lv_aload_n hx hb dX2_firstOpen_10 rfl (lv_at hl 0 rfl) ?_
    replace h := xb h
    obtain ⟨v3, ev3, h⟩ := h
    refine q_getN X Y fl_X2_15 ev3 dX2_firstOpen_11 ?_
    refine lv_iload_n hx hb dX2_firstOpen_14 rfl (lv_at hl 1 rfl) ?_
    replace h := xb h
    obtain ⟨v4, ev4, h⟩ := h
    refine q_iald X Y ev4 dX2_firstOpen_15 ?_
    refine lv_if_ne (tgt := 21) hx hb dX2_firstOpen_16 (by decide) (fun c5 => ?_) (fun c5 => ?_)
    · replace h := Eq.trans (if_neg c5).symm h
      refine lv_iinc (v := (a1 + 1)) (lv' := [(1, .int (a1 + 1)), (0, .ref a0)]) hx hb dX2_firstOpen_21 hl (k := 1) rfl rfl (by decide) rfl (fun ls hl => ?_)
      refine lv_goto (tgt := 2) hx hb dX2_firstOpen_24 (by decide) ?_
      refine W.widen (k := 0) (n := 0) (Nat.le_of_ble_eq_true rfl) (Nat.le_of_ble_eq_true rfl) ?_
      exact hk2 a0 (a1 + 1) _ _ _ h Y (lv_sub hl [1, 0] rfl)
    · replace h := Eq.trans (if_pos c5).symm h
      refine lv_iload_n hx hb dX2_firstOpen_19 rfl (lv_at hl 1 rfl) ?_
      replace h := Option.some.inj h
      subst h
      exact q_reti X Y hr hlocks (Nat.le_of_ble_eq_true rfl) (Nat.le_of_ble_eq_true rfl) dX2_firstOpen_20
set_option maxRecDepth 100000 in
set_option maxHeartbeats 4000000 in
theorem lw_X2_firstOpen_2 {p : Program} {l : Launch} {e : Env} {s : State} {m : MethodId} {args : Array Value} {below : List Frame} {meth : Method} {c : Code} {G : xG} {z : Nat} {f : xHp} (X : xC G p m c s args RX2 cX2_firstOpen 2) (hr : meth.sig.returnType = (some .int)) (hlocks : meth.locks = false) (hin : meth.name = yX2_firstOpen.name) (rs : Int32)  : ∀ (n : Nat) (a0 : Nat) (a1 : Int32) (H : Heap) (locs : List Loc) (ls : Array Slot), L_X2_firstOpen_2 f  n a0 a1 = some rs → xY G z f s H locs → lv_has ls 2 [(0, .ref a0), (1, .int a1)] → W p l e rm_X2_firstOpen s m args below meth c H locs 0 0 (MQ below (xQ G (some (.int rs)) z f) args s rm_X2_firstOpen.cells rm_X2_firstOpen.slots (xA G)) (F0 m 2 ls []) := by
  intro n
  induction n with
  | zero => intro a0 a1 H locs ls h Y hl; cases h
  | succ n ih => intro a0 a1 H locs ls h Y hl; exact w_X2_firstOpen_2 X hr hlocks hin rs _ ih a0 a1 _ _ _ h Y hl
set_option maxRecDepth 100000 in
set_option maxHeartbeats 4000000 in
theorem c_X2_firstOpen (l : Launch) (G : xG) (z : Nat) (f : xHp) (h0 : Nat) (rs : Int32) (h : F_X2_firstOpen f h0 = some rs) : xM G l yX2_firstOpen cX2_firstOpen 2 (some .int) rm_X2_firstOpen [.ref h0] z f (some (.int rs)) z f := by
  refine xM_of (by decide) (Nat.le_of_ble_eq_true rfl) ?_
  intro p e s m below meth c ls X hr hlocks hin Y hl
  have hl : lv_has ls 2 [(0, .ref h0)] := hl
  have hx := X.1.1
  have hb := X.1.2.1
  unfold F_X2_firstOpen at h
  refine lv_iconst (v := 0) hx hb dX2_firstOpen_0 (by decide) ?_
  refine lv_istore_n (lv' := [(1, .int (0 : Int32)), (0, .ref h0)]) hx hb dX2_firstOpen_1 rfl hl (by decide) rfl (fun ls hl => ?_)
  refine W.widen (k := 0) (n := 0) (Nat.le_of_ble_eq_true rfl) (Nat.le_of_ble_eq_true rfl) ?_
  exact lw_X2_firstOpen_2 X hr hlocks hin rs  xfuel h0 (0 : Int32) _ _ _ h Y (lv_sub hl [1, 0] rfl)
/-! NeverBelow$Parts.markBelow(II)V -/
abbrev rm_X2_markBelow : Room := { frames := 0, cells := 0, slots := 0, locals := 0 }
def F_X2_markBelow (f : xHp) (h0 : Nat) (p1 : Int32) (p2 : Int32) : Option (xHp) := Option.bind (hN f h0 [(2, 1)]) fun v1 => Option.bind (hIst f v1 p1 (3 : Int32)) fun f2 => Option.bind (hPut f2 h0 [(2, 7)] (.int (1 : Int32))) fun f3 => Option.bind (hN f3 h0 [(2, 0)]) fun v4 => Option.bind (hIld f3 v4 (((4 : Int32) * p1) + (p2 / (2 : Int32)))) fun v5 => Option.bind (hPut f3 h0 [(2, 8)] (.int v5)) fun f6 => Option.bind (hN f6 h0 [(2, 0)]) fun v7 => Option.bind (hIld f6 v7 ((((4 : Int32) * p1) + (2 : Int32)) + (p2 - p2 / (2 : Int32) * (2 : Int32)))) fun v8 => Option.bind (hPut f6 h0 [(2, 9)] (.int v8)) fun f9 => some f9
set_option maxRecDepth 100000 in
set_option maxHeartbeats 4000000 in
theorem c_X2_markBelow (l : Launch) (G : xG) (z : Nat) (f : xHp) (h0 : Nat) (p1 : Int32) (p2 : Int32) (rs : xHp) (h : F_X2_markBelow f h0 p1 p2 = some rs) : xM G l yX2_markBelow cX2_markBelow 3 none rm_X2_markBelow [.ref h0, .int p1, .int p2] z f none z rs := by
  refine xM_of (by decide) (Nat.le_of_ble_eq_true rfl) ?_
  intro p e s m below meth c ls X hr hlocks hin Y hl
  have hl : lv_has ls 3 [(0, .ref h0), (1, .int p1), (2, .int p2)] := hl
  have hx := X.1.1
  have hb := X.1.2.1
  unfold F_X2_markBelow at h
  refine lv_aload_n hx hb dX2_markBelow_0 rfl (lv_at hl 0 rfl) ?_
  replace h := xb h
  obtain ⟨v1, ev1, h⟩ := h
  refine q_getN X Y fl_X2_15 ev1 dX2_markBelow_1 ?_
  refine lv_iload_n hx hb dX2_markBelow_4 rfl (lv_at hl 1 rfl) ?_
  refine lv_iconst (v := 3) hx hb dX2_markBelow_5 (by decide) ?_
  replace h := xb h
  obtain ⟨f2, ef2, h⟩ := h
  refine q_iast X Y ef2 dX2_markBelow_6 (fun H locs Y => ?_)
  refine lv_aload_n hx hb dX2_markBelow_7 rfl (lv_at hl 0 rfl) ?_
  refine lv_iconst (v := 1) hx hb dX2_markBelow_8 (by decide) ?_
  replace h := xb h
  obtain ⟨f3, ef3, h⟩ := h
  refine q_put X Y fp_X2_36 rfl rfl ef3 dX2_markBelow_9 (fun H locs Y => ?_)
  refine lv_aload_n hx hb dX2_markBelow_12 rfl (lv_at hl 0 rfl) ?_
  refine lv_aload_n hx hb dX2_markBelow_13 rfl (lv_at hl 0 rfl) ?_
  replace h := xb h
  obtain ⟨v4, ev4, h⟩ := h
  refine q_getN X Y fl_X2_9 ev4 dX2_markBelow_14 ?_
  refine lv_iconst (v := 4) hx hb dX2_markBelow_17 (by decide) ?_
  refine lv_iload_n hx hb dX2_markBelow_18 rfl (lv_at hl 1 rfl) ?_
  refine lv_imul hx hb dX2_markBelow_19 ?_
  refine lv_iload_n hx hb dX2_markBelow_20 rfl (lv_at hl 2 rfl) ?_
  refine lv_iconst (v := 2) hx hb dX2_markBelow_21 (by decide) ?_
  refine lv_idiv hx hb dX2_markBelow_22 (by decide) ?_
  refine lv_iadd hx hb dX2_markBelow_23 ?_
  replace h := xb h
  obtain ⟨v5, ev5, h⟩ := h
  refine q_iald X Y ev5 dX2_markBelow_24 ?_
  replace h := xb h
  obtain ⟨f6, ef6, h⟩ := h
  refine q_put X Y fp_X2_72 rfl rfl ef6 dX2_markBelow_25 (fun H locs Y => ?_)
  refine lv_aload_n hx hb dX2_markBelow_28 rfl (lv_at hl 0 rfl) ?_
  refine lv_aload_n hx hb dX2_markBelow_29 rfl (lv_at hl 0 rfl) ?_
  replace h := xb h
  obtain ⟨v7, ev7, h⟩ := h
  refine q_getN X Y fl_X2_9 ev7 dX2_markBelow_30 ?_
  refine lv_iconst (v := 4) hx hb dX2_markBelow_33 (by decide) ?_
  refine lv_iload_n hx hb dX2_markBelow_34 rfl (lv_at hl 1 rfl) ?_
  refine lv_imul hx hb dX2_markBelow_35 ?_
  refine lv_iconst (v := 2) hx hb dX2_markBelow_36 (by decide) ?_
  refine lv_iadd hx hb dX2_markBelow_37 ?_
  refine lv_iload_n hx hb dX2_markBelow_38 rfl (lv_at hl 2 rfl) ?_
  refine lv_iconst (v := 2) hx hb dX2_markBelow_39 (by decide) ?_
  refine lv_irem hx hb dX2_markBelow_40 (by decide) ?_
  refine lv_iadd hx hb dX2_markBelow_41 ?_
  replace h := xb h
  obtain ⟨v8, ev8, h⟩ := h
  refine q_iald X Y ev8 dX2_markBelow_42 ?_
  replace h := xb h
  obtain ⟨f9, ef9, h⟩ := h
  refine q_put X Y fp_X2_75 rfl rfl ef9 dX2_markBelow_43 (fun H locs Y => ?_)
  replace h := Option.some.inj h
  subst h
  exact q_retv X Y hr hlocks (Nat.le_of_ble_eq_true rfl) (Nat.le_of_ble_eq_true rfl) dX2_markBelow_46
/-! NeverBelow$Parts.step()Z -/
abbrev rm_X2_step : Room := { frames := 3, cells := 0, slots := 0, locals := 91 }
def F_X2_step_70 (k70 : xHp → Nat → Int32 → Int32 → Option (Int32 × xHp)) (f : xHp) (a0 : Nat) (a1 : Int32) (a2 : Int32) : Option (Int32 × xHp) := if (4 : Int32) ≤ a2 then (if hKd f a0 = some 2 then (Option.bind (F_X2_cutPart f a0 a1) fun q3 => Option.bind (hZ q3.1) fun v4 => some (v4, q3.2)) else none) else (Option.bind (hN f a0 [(2, 2)]) fun v5 => Option.bind (hSt 0 a2) fun v6 => Option.bind (hJld f v5 v6) fun v7 => if (0 : Int64) ≤ v7 then (k70 f a0 a1 (a2 + 1)) else (if hKd f a0 = some 2 then (Option.bind (F_X2_markBelow f a0 a1 a2) fun q10 => some ((1 : Int32), q10)) else none))
def L_X2_step_70  : Nat → xHp → Nat → Int32 → Int32 → Option (Int32 × xHp)
  | 0, _, _, _, _ => none
  | n + 1, f, a0, a1, a2 => F_X2_step_70 (L_X2_step_70  n) f a0 a1 a2
def F_X2_step_15  (f : xHp) (a0 : Nat) (s0 : Int32) : Option (Int32 × xHp) := Option.bind (hR f a0 [(2, 3)]) fun v1 => xnul v1 (some ((0 : Int32), f)) (fun q3 => if 0 ≤ s0 then (Option.bind (hR f a0 [(2, 3)]) fun v5 => Option.bind (hN f a0 [(2, 0)]) fun v6 => Option.bind (hN f a0 [(2, 2)]) fun v7 => Option.bind (v5) fun q8 => if hKd f q8 = some 4 then (Option.bind (F_X4_cornersOn f q8 v6 ((4 : Int32) * s0) v7) fun q10 => Option.bind (hN q10 a0 [(2, 2)]) fun v11 => Option.bind (F_X10_leastOf q10 v11) fun q12 => if q12 < (0 : Int64) then (L_X2_step_70 xfuel q10 a0 s0 (0 : Int32)) else (Option.bind (hN q10 a0 [(2, 1)]) fun v14 => Option.bind (hIst q10 v14 s0 (1 : Int32)) fun f15 => some ((1 : Int32), f15))) else none) else (some ((0 : Int32), f)))
def F_X2_step (f : xHp) (h0 : Nat) : Option (Int32 × xHp) := Option.bind (hI f h0 [(2, 7)]) fun v1 => if v1 = 0 then (if hKd f h0 = some 2 then (Option.bind (F_X2_firstOpen f h0) fun q4 => F_X2_step_15 f h0 q4) else none) else (F_X2_step_15 f h0 (-1 : Int32))
set_option maxRecDepth 100000 in
set_option maxHeartbeats 4000000 in
theorem w_X2_step_70 {p : Program} {l : Launch} {e : Env} {s : State} {m : MethodId} {args : Array Value} {below : List Frame} {meth : Method} {c : Code} {G : xG} {z : Nat} (X : xC G p m c s args RX2 cX2_step 3) (hr : meth.sig.returnType = (some .boolean)) (hlocks : meth.locks = false) (hin : meth.name = yX2_step.name) (rs : Int32 × xHp) (k70 : xHp → Nat → Int32 → Int32 → Option (Int32 × xHp)) (hk70 : ∀ (f : xHp) (a0 : Nat) (a1 : Int32) (a2 : Int32) (H : Heap) (locs : List Loc) (ls : Array Slot), k70 f a0 a1 a2 = some rs → xY G z f s H locs → lv_has ls 3 [(0, .ref a0), (1, .int a1), (2, .int a2)] → W p l e rm_X2_step s m args below meth c H locs 0 0 (MQ below (xQ G (some (.int rs.1)) z rs.2) args s rm_X2_step.cells rm_X2_step.slots (xA G)) (F0 m 70 ls [])) (f : xHp) (a0 : Nat) (a1 : Int32) (a2 : Int32) (H : Heap) (locs : List Loc) (ls : Array Slot) (h : F_X2_step_70 k70 f a0 a1 a2 = some rs) (Y : xY G z f s H locs) (hl : lv_has ls 3 [(0, .ref a0), (1, .int a1), (2, .int a2)]) : W p l e rm_X2_step s m args below meth c H locs 0 0 (MQ below (xQ G (some (.int rs.1)) z rs.2) args s rm_X2_step.cells rm_X2_step.slots (xA G)) (F0 m 70 ls []) := by
  have hx := X.1.1
  have hb := X.1.2.1
  unfold F_X2_step_70 at h
  refine lv_iload_n hx hb dX2_step_70 rfl (lv_at hl 2 rfl) ?_
  refine q_sget (k := 0) X Y (by decide) xw_369 dX2_step_71 ?_
  refine q_slen (k := 0) (v := 4) X Y (by decide) (by decide) dX2_step_74 ?_
  refine lv_icmp_ge (tgt := 107) hx hb dX2_step_75 (by decide) (fun c1 => ?_) (fun c1 => ?_)
  · replace h := Eq.trans (if_pos c1).symm h
    refine lv_aload_n hx hb dX2_step_107 rfl (lv_at hl 0 rfl) ?_
    refine lv_iload_n hx hb dX2_step_108 rfl (lv_at hl 1 rfl) ?_
    by_cases c2 : hKd f a0 = some 2
    · replace h := Eq.trans (if_pos c2).symm h
      replace h := xb h
      obtain ⟨q3, eq3, h⟩ := h
      refine q_callV X Y hl.1 (rest := []) (As := [.int a1]) (c_X2_cutPart l G z f a0 a1 _ eq3) cd_X2_cutPart lv_X2_68_2 c2 ⟨(Nat.le_of_ble_eq_true rfl), (Nat.le_of_ble_eq_true rfl)⟩ ⟨(Nat.le_of_ble_eq_true rfl), (Nat.le_of_ble_eq_true rfl)⟩ rfl rfl (Nat.le_of_ble_eq_true rfl) dX2_step_109 (fun H locs Y => ?_)
      refine W.eq (g2 := F0 m 112 ls [.int q3.1]) rfl ?_
      replace h := xb h
      obtain ⟨v4, ev4, h⟩ := h
      obtain ⟨ev4, kv4⟩ := hZ_of ev4
      rw [ev4] at h
      replace h := Option.some.inj h
      subst h
      exact q_retz (v := q3.1) X Y hr hlocks kv4 (Nat.le_of_ble_eq_true rfl) (Nat.le_of_ble_eq_true rfl) dX2_step_112
    replace h := Eq.trans (if_neg c2).symm h
    cases h
  · replace h := Eq.trans (if_neg c1).symm h
    refine lv_aload_n hx hb dX2_step_78 rfl (lv_at hl 0 rfl) ?_
    replace h := xb h
    obtain ⟨v5, ev5, h⟩ := h
    refine q_getN X Y fl_X2_18 ev5 dX2_step_79 ?_
    refine q_sget (k := 0) X Y (by decide) xw_369 dX2_step_82 ?_
    refine lv_iload_n hx hb dX2_step_85 rfl (lv_at hl 2 rfl) ?_
    replace h := xb h
    obtain ⟨v6, ev6, h⟩ := h
    refine q_sld (k := 0) X Y (by decide) ev6 dX2_step_86 ?_
    replace h := xb h
    obtain ⟨v7, ev7, h⟩ := h
    refine q_lald X Y ev7 dX2_step_87 ?_
    refine lv_lconst (v := 0) hx hb dX2_step_88 (by decide) ?_
    refine q_lcmp_ge (tgt := 101) hx hb dX2_step_89 dX2_step_90 (by decide) (fun c8 => ?_) (fun c8 => ?_)
    · replace h := Eq.trans (if_pos c8).symm h
      refine lv_iinc (v := (a2 + 1)) (lv' := [(2, .int (a2 + 1)), (0, .ref a0), (1, .int a1)]) hx hb dX2_step_101 hl (k := 2) rfl rfl (by decide) rfl (fun ls hl => ?_)
      refine lv_goto (tgt := 70) hx hb dX2_step_104 (by decide) ?_
      refine W.widen (k := 0) (n := 0) (Nat.le_of_ble_eq_true rfl) (Nat.le_of_ble_eq_true rfl) ?_
      exact hk70 f a0 a1 (a2 + 1) _ _ _ h Y (lv_sub hl [1, 2, 0] rfl)
    · replace h := Eq.trans (if_neg c8).symm h
      refine lv_aload_n hx hb dX2_step_93 rfl (lv_at hl 0 rfl) ?_
      refine lv_iload_n hx hb dX2_step_94 rfl (lv_at hl 1 rfl) ?_
      refine lv_iload_n hx hb dX2_step_95 rfl (lv_at hl 2 rfl) ?_
      by_cases c9 : hKd f a0 = some 2
      · replace h := Eq.trans (if_pos c9).symm h
        replace h := xb h
        obtain ⟨q10, eq10, h⟩ := h
        refine q_callV X Y hl.1 (rest := []) (As := [.int a1, .int a2]) (c_X2_markBelow l G z f a0 a1 a2 _ eq10) cd_X2_markBelow lv_X2_64_2 c9 ⟨(Nat.le_of_ble_eq_true rfl), (Nat.le_of_ble_eq_true rfl)⟩ ⟨(Nat.le_of_ble_eq_true rfl), (Nat.le_of_ble_eq_true rfl)⟩ rfl rfl (Nat.le_of_ble_eq_true rfl) dX2_step_96 (fun H locs Y => ?_)
        refine W.eq (g2 := F0 m 99 ls []) rfl ?_
        refine lv_iconst (v := 1) hx hb dX2_step_99 (by decide) ?_
        replace h := Option.some.inj h
        subst h
        exact q_retz (v := (1 : Int32)) X Y hr hlocks rfl (Nat.le_of_ble_eq_true rfl) (Nat.le_of_ble_eq_true rfl) dX2_step_100
      replace h := Eq.trans (if_neg c9).symm h
      cases h
set_option maxRecDepth 100000 in
set_option maxHeartbeats 4000000 in
theorem lw_X2_step_70 {p : Program} {l : Launch} {e : Env} {s : State} {m : MethodId} {args : Array Value} {below : List Frame} {meth : Method} {c : Code} {G : xG} {z : Nat} (X : xC G p m c s args RX2 cX2_step 3) (hr : meth.sig.returnType = (some .boolean)) (hlocks : meth.locks = false) (hin : meth.name = yX2_step.name) (rs : Int32 × xHp)  : ∀ (n : Nat) (f : xHp) (a0 : Nat) (a1 : Int32) (a2 : Int32) (H : Heap) (locs : List Loc) (ls : Array Slot), L_X2_step_70  n f a0 a1 a2 = some rs → xY G z f s H locs → lv_has ls 3 [(0, .ref a0), (1, .int a1), (2, .int a2)] → W p l e rm_X2_step s m args below meth c H locs 0 0 (MQ below (xQ G (some (.int rs.1)) z rs.2) args s rm_X2_step.cells rm_X2_step.slots (xA G)) (F0 m 70 ls []) := by
  intro n
  induction n with
  | zero => intro f a0 a1 a2 H locs ls h Y hl; cases h
  | succ n ih => intro f a0 a1 a2 H locs ls h Y hl; exact w_X2_step_70 X hr hlocks hin rs _ ih f a0 a1 a2 _ _ _ h Y hl
set_option maxRecDepth 100000 in
set_option maxHeartbeats 4000000 in
theorem w_X2_step_15 {p : Program} {l : Launch} {e : Env} {s : State} {m : MethodId} {args : Array Value} {below : List Frame} {meth : Method} {c : Code} {G : xG} {z : Nat} (X : xC G p m c s args RX2 cX2_step 3) (hr : meth.sig.returnType = (some .boolean)) (hlocks : meth.locks = false) (hin : meth.name = yX2_step.name) (rs : Int32 × xHp)  (f : xHp) (a0 : Nat) (s0 : Int32) (H : Heap) (locs : List Loc) (ls : Array Slot) (h : F_X2_step_15  f a0 s0 = some rs) (Y : xY G z f s H locs) (hl : lv_has ls 3 [(0, .ref a0)]) : W p l e rm_X2_step s m args below meth c H locs 0 0 (MQ below (xQ G (some (.int rs.1)) z rs.2) args s rm_X2_step.cells rm_X2_step.slots (xA G)) (F0 m 15 ls [.int s0]) := by
  have hx := X.1.1
  have hb := X.1.2.1
  unfold F_X2_step_15 at h
  refine lv_istore_n (lv' := [(1, .int s0), (0, .ref a0)]) hx hb dX2_step_15 rfl hl (by decide) rfl (fun ls hl => ?_)
  refine lv_aload_n hx hb dX2_step_16 rfl (lv_at hl 1 rfl) ?_
  replace h := xb h
  obtain ⟨v1, ev1, h⟩ := h
  refine q_getR X Y fl_X2_22 ev1 dX2_step_17 ?_
  refine q_ifnull (tgt := 27) hx hb dX2_step_20 (by decide) (fun c2 => ?_) (fun q3 eq3 => ?_)
  · replace h := xn0 h c2
    subst c2
    refine lv_iconst (v := 0) hx hb dX2_step_27 (by decide) ?_
    replace h := Option.some.inj h
    subst h
    exact q_retz (v := (0 : Int32)) X Y hr hlocks rfl (Nat.le_of_ble_eq_true rfl) (Nat.le_of_ble_eq_true rfl) dX2_step_28
  · replace h := xn1 h eq3
    subst eq3
    refine lv_iload_n hx hb dX2_step_23 rfl (lv_at hl 0 rfl) ?_
    refine lv_if_ge (tgt := 29) hx hb dX2_step_24 (by decide) (fun c4 => ?_) (fun c4 => ?_)
    · replace h := Eq.trans (if_pos c4).symm h
      refine lv_aload_n hx hb dX2_step_29 rfl (lv_at hl 1 rfl) ?_
      replace h := xb h
      obtain ⟨v5, ev5, h⟩ := h
      refine q_getR X Y fl_X2_22 ev5 dX2_step_30 ?_
      refine lv_aload_n hx hb dX2_step_33 rfl (lv_at hl 1 rfl) ?_
      replace h := xb h
      obtain ⟨v6, ev6, h⟩ := h
      refine q_getN X Y fl_X2_9 ev6 dX2_step_34 ?_
      refine lv_iconst (v := 4) hx hb dX2_step_37 (by decide) ?_
      refine lv_iload_n hx hb dX2_step_38 rfl (lv_at hl 0 rfl) ?_
      refine lv_imul hx hb dX2_step_39 ?_
      refine lv_aload_n hx hb dX2_step_40 rfl (lv_at hl 1 rfl) ?_
      replace h := xb h
      obtain ⟨v7, ev7, h⟩ := h
      refine q_getN X Y fl_X2_18 ev7 dX2_step_41 ?_
      replace h := xb h
      obtain ⟨q8, eq8, h⟩ := h
      subst eq8
      refine W.eq (g2 := F0 m 44 ls [.ref v7, .int ((4 : Int32) * s0), .ref v6, .ref q8]) rfl ?_
      by_cases c9 : hKd f q8 = some 4
      · replace h := Eq.trans (if_pos c9).symm h
        replace h := xb h
        obtain ⟨q10, eq10, h⟩ := h
        refine q_callV X Y hl.1 (rest := []) (As := [.ref v6, .int ((4 : Int32) * s0), .ref v7]) (c_X4_cornersOn l G z f q8 v6 ((4 : Int32) * s0) v7 _ eq10) cd_X4_cornersOn lv_X2_51_4 c9 ⟨(Nat.le_of_ble_eq_true rfl), (Nat.le_of_ble_eq_true rfl)⟩ ⟨(Nat.le_of_ble_eq_true rfl), (Nat.le_of_ble_eq_true rfl)⟩ rfl rfl (Nat.le_of_ble_eq_true rfl) dX2_step_44 (fun H locs Y => ?_)
        refine W.eq (g2 := F0 m 47 ls []) rfl ?_
        refine lv_aload_n hx hb dX2_step_47 rfl (lv_at hl 1 rfl) ?_
        replace h := xb h
        obtain ⟨v11, ev11, h⟩ := h
        refine q_getN X Y fl_X2_18 ev11 dX2_step_48 ?_
        replace h := xb h
        obtain ⟨q12, eq12, h⟩ := h
        refine q_callSN X Y hl.1 (rest := []) (As := [.ref v11]) (c_X10_leastOf l G z q10 v11 _ eq12) cd_X10_leastOf ls_X2_57 ⟨(Nat.le_of_ble_eq_true rfl), (Nat.le_of_ble_eq_true rfl)⟩ ⟨(Nat.le_of_ble_eq_true rfl), (Nat.le_of_ble_eq_true rfl)⟩ rfl rfl (Nat.le_of_ble_eq_true rfl) dX2_step_51 (fun H locs Y => ?_)
        refine W.eq (g2 := F0 m 54 ls [.long q12]) rfl ?_
        refine lv_lconst (v := 0) hx hb dX2_step_54 (by decide) ?_
        refine q_lcmp_lt (tgt := 68) hx hb dX2_step_55 dX2_step_56 (by decide) (fun c13 => ?_) (fun c13 => ?_)
        · replace h := Eq.trans (if_pos c13).symm h
          refine lv_iconst (v := 0) hx hb dX2_step_68 (by decide) ?_
          refine lv_istore_n (lv' := [(2, .int (0 : Int32)), (1, .int s0), (0, .ref a0)]) hx hb dX2_step_69 rfl hl (by decide) rfl (fun ls hl => ?_)
          refine W.widen (k := 0) (n := 0) (Nat.le_of_ble_eq_true rfl) (Nat.le_of_ble_eq_true rfl) ?_
          exact lw_X2_step_70 X hr hlocks hin rs  xfuel q10 a0 s0 (0 : Int32) _ _ _ h Y (lv_sub hl [2, 1, 0] rfl)
        · replace h := Eq.trans (if_neg c13).symm h
          refine lv_aload_n hx hb dX2_step_59 rfl (lv_at hl 1 rfl) ?_
          replace h := xb h
          obtain ⟨v14, ev14, h⟩ := h
          refine q_getN X Y fl_X2_15 ev14 dX2_step_60 ?_
          refine lv_iload_n hx hb dX2_step_63 rfl (lv_at hl 0 rfl) ?_
          refine lv_iconst (v := 1) hx hb dX2_step_64 (by decide) ?_
          replace h := xb h
          obtain ⟨f15, ef15, h⟩ := h
          refine q_iast X Y ef15 dX2_step_65 (fun H locs Y => ?_)
          refine lv_iconst (v := 1) hx hb dX2_step_66 (by decide) ?_
          replace h := Option.some.inj h
          subst h
          exact q_retz (v := (1 : Int32)) X Y hr hlocks rfl (Nat.le_of_ble_eq_true rfl) (Nat.le_of_ble_eq_true rfl) dX2_step_67
      replace h := Eq.trans (if_neg c9).symm h
      cases h
    · replace h := Eq.trans (if_neg c4).symm h
      refine lv_iconst (v := 0) hx hb dX2_step_27 (by decide) ?_
      replace h := Option.some.inj h
      subst h
      exact q_retz (v := (0 : Int32)) X Y hr hlocks rfl (Nat.le_of_ble_eq_true rfl) (Nat.le_of_ble_eq_true rfl) dX2_step_28
set_option maxRecDepth 100000 in
set_option maxHeartbeats 4000000 in
theorem c_X2_step (l : Launch) (G : xG) (z : Nat) (f : xHp) (h0 : Nat) (rs : Int32 × xHp) (h : F_X2_step f h0 = some rs) : xM G l yX2_step cX2_step 3 (some .boolean) rm_X2_step [.ref h0] z f (some (.int rs.1)) z rs.2 := by
  refine xM_of (by decide) (Nat.le_of_ble_eq_true rfl) ?_
  intro p e s m below meth c ls X hr hlocks hin Y hl
  have hl : lv_has ls 3 [(0, .ref h0)] := hl
  have hx := X.1.1
  have hb := X.1.2.1
  unfold F_X2_step at h
  refine lv_aload_n hx hb dX2_step_0 rfl (lv_at hl 0 rfl) ?_
  replace h := xb h
  obtain ⟨v1, ev1, h⟩ := h
  refine q_getI X Y fl_X2_36 ev1 dX2_step_1 ?_
  refine lv_if_eq (tgt := 11) hx hb dX2_step_4 (by decide) (fun c2 => ?_) (fun c2 => ?_)
  · replace h := Eq.trans (if_pos c2).symm h
    refine lv_aload_n hx hb dX2_step_11 rfl (lv_at hl 0 rfl) ?_
    by_cases c3 : hKd f h0 = some 2
    · replace h := Eq.trans (if_pos c3).symm h
      replace h := xb h
      obtain ⟨q4, eq4, h⟩ := h
      refine q_callV X Y hl.1 (rest := []) (As := []) (c_X2_firstOpen l G z f h0 _ eq4) cd_X2_firstOpen lv_X2_47_2 c3 ⟨(Nat.le_of_ble_eq_true rfl), (Nat.le_of_ble_eq_true rfl)⟩ ⟨(Nat.le_of_ble_eq_true rfl), (Nat.le_of_ble_eq_true rfl)⟩ rfl rfl (Nat.le_of_ble_eq_true rfl) dX2_step_12 (fun H locs Y => ?_)
      refine W.eq (g2 := F0 m 15 ls [.int q4]) rfl ?_
      refine W.widen (k := 0) (n := 0) (Nat.le_of_ble_eq_true rfl) (Nat.le_of_ble_eq_true rfl) ?_
      exact w_X2_step_15 X hr hlocks hin rs   f h0 q4 _ _ _ h Y (lv_sub hl [0] rfl)
    replace h := Eq.trans (if_neg c3).symm h
    cases h
  · replace h := Eq.trans (if_neg c2).symm h
    refine lv_iconst (v := -1) hx hb dX2_step_7 (by decide) ?_
    refine lv_goto (tgt := 15) hx hb dX2_step_8 (by decide) ?_
    refine W.widen (k := 0) (n := 0) (Nat.le_of_ble_eq_true rfl) (Nat.le_of_ble_eq_true rfl) ?_
    exact w_X2_step_15 X hr hlocks hin rs   f h0 (-1 : Int32) _ _ _ h Y (lv_sub hl [0] rfl)
/-! NeverBelow$Parts.steps(I)I -/
abbrev rm_X2_steps : Room := { frames := 4, cells := 0, slots := 0, locals := 113 }
def F_X2_steps_7 (k7 : xHp → Nat → Int32 → Int32 → Option (Int32 × xHp)) (f : xHp) (a0 : Nat) (a1 : Int32) (a2 : Int32) : Option (Int32 × xHp) := if a1 ≤ a2 then (some (a1, f)) else (if hKd f a0 = some 2 then (Option.bind (F_X2_step f a0) fun q3 => if q3.1 = 0 then (some (a2, q3.2)) else (k7 q3.2 a0 a1 (a2 + 1))) else none)
def L_X2_steps_7  : Nat → xHp → Nat → Int32 → Int32 → Option (Int32 × xHp)
  | 0, _, _, _, _ => none
  | n + 1, f, a0, a1, a2 => F_X2_steps_7 (L_X2_steps_7  n) f a0 a1 a2
def F_X2_steps (f : xHp) (h0 : Nat) (p1 : Int32) : Option (Int32 × xHp) := Option.bind (hPut f h0 [(2, 10)] (.int (0 : Int32))) fun f1 => L_X2_steps_7 xfuel f1 h0 p1 (0 : Int32)
set_option maxRecDepth 100000 in
set_option maxHeartbeats 4000000 in
theorem w_X2_steps_7 {p : Program} {l : Launch} {e : Env} {s : State} {m : MethodId} {args : Array Value} {below : List Frame} {meth : Method} {c : Code} {G : xG} {z : Nat} (X : xC G p m c s args RX2 cX2_steps 3) (hr : meth.sig.returnType = (some .int)) (hlocks : meth.locks = false) (hin : meth.name = yX2_steps.name) (rs : Int32 × xHp) (k7 : xHp → Nat → Int32 → Int32 → Option (Int32 × xHp)) (hk7 : ∀ (f : xHp) (a0 : Nat) (a1 : Int32) (a2 : Int32) (H : Heap) (locs : List Loc) (ls : Array Slot), k7 f a0 a1 a2 = some rs → xY G z f s H locs → lv_has ls 3 [(0, .ref a0), (1, .int a1), (2, .int a2)] → W p l e rm_X2_steps s m args below meth c H locs 0 0 (MQ below (xQ G (some (.int rs.1)) z rs.2) args s rm_X2_steps.cells rm_X2_steps.slots (xA G)) (F0 m 7 ls [])) (f : xHp) (a0 : Nat) (a1 : Int32) (a2 : Int32) (H : Heap) (locs : List Loc) (ls : Array Slot) (h : F_X2_steps_7 k7 f a0 a1 a2 = some rs) (Y : xY G z f s H locs) (hl : lv_has ls 3 [(0, .ref a0), (1, .int a1), (2, .int a2)]) : W p l e rm_X2_steps s m args below meth c H locs 0 0 (MQ below (xQ G (some (.int rs.1)) z rs.2) args s rm_X2_steps.cells rm_X2_steps.slots (xA G)) (F0 m 7 ls []) := by
  have hx := X.1.1
  have hb := X.1.2.1
  unfold F_X2_steps_7 at h
  refine lv_iload_n hx hb dX2_steps_7 rfl (lv_at hl 2 rfl) ?_
  refine lv_iload_n hx hb dX2_steps_8 rfl (lv_at hl 1 rfl) ?_
  refine lv_icmp_ge (tgt := 27) hx hb dX2_steps_9 (by decide) (fun c1 => ?_) (fun c1 => ?_)
  · replace h := Eq.trans (if_pos c1).symm h
    refine lv_iload_n hx hb dX2_steps_27 rfl (lv_at hl 1 rfl) ?_
    replace h := Option.some.inj h
    subst h
    exact q_reti X Y hr hlocks (Nat.le_of_ble_eq_true rfl) (Nat.le_of_ble_eq_true rfl) dX2_steps_28
  · replace h := Eq.trans (if_neg c1).symm h
    refine lv_aload_n hx hb dX2_steps_12 rfl (lv_at hl 0 rfl) ?_
    by_cases c2 : hKd f a0 = some 2
    · replace h := Eq.trans (if_pos c2).symm h
      replace h := xb h
      obtain ⟨q3, eq3, h⟩ := h
      refine q_callV X Y hl.1 (rest := []) (As := []) (c_X2_step l G z f a0 _ eq3) cd_X2_step lv_X2_43_2 c2 ⟨(Nat.le_of_ble_eq_true rfl), (Nat.le_of_ble_eq_true rfl)⟩ ⟨(Nat.le_of_ble_eq_true rfl), (Nat.le_of_ble_eq_true rfl)⟩ rfl rfl (Nat.le_of_ble_eq_true rfl) dX2_steps_13 (fun H locs Y => ?_)
      refine W.eq (g2 := F0 m 16 ls [.int q3.1]) rfl ?_
      refine lv_if_ne (tgt := 21) hx hb dX2_steps_16 (by decide) (fun c4 => ?_) (fun c4 => ?_)
      · replace h := Eq.trans (if_neg c4).symm h
        refine lv_iinc (v := (a2 + 1)) (lv' := [(2, .int (a2 + 1)), (0, .ref a0), (1, .int a1)]) hx hb dX2_steps_21 hl (k := 2) rfl rfl (by decide) rfl (fun ls hl => ?_)
        refine lv_goto (tgt := 7) hx hb dX2_steps_24 (by decide) ?_
        refine W.widen (k := 0) (n := 0) (Nat.le_of_ble_eq_true rfl) (Nat.le_of_ble_eq_true rfl) ?_
        exact hk7 q3.2 a0 a1 (a2 + 1) _ _ _ h Y (lv_sub hl [1, 2, 0] rfl)
      · replace h := Eq.trans (if_pos c4).symm h
        refine lv_iload_n hx hb dX2_steps_19 rfl (lv_at hl 2 rfl) ?_
        replace h := Option.some.inj h
        subst h
        exact q_reti X Y hr hlocks (Nat.le_of_ble_eq_true rfl) (Nat.le_of_ble_eq_true rfl) dX2_steps_20
    replace h := Eq.trans (if_neg c2).symm h
    cases h
set_option maxRecDepth 100000 in
set_option maxHeartbeats 4000000 in
theorem lw_X2_steps_7 {p : Program} {l : Launch} {e : Env} {s : State} {m : MethodId} {args : Array Value} {below : List Frame} {meth : Method} {c : Code} {G : xG} {z : Nat} (X : xC G p m c s args RX2 cX2_steps 3) (hr : meth.sig.returnType = (some .int)) (hlocks : meth.locks = false) (hin : meth.name = yX2_steps.name) (rs : Int32 × xHp)  : ∀ (n : Nat) (f : xHp) (a0 : Nat) (a1 : Int32) (a2 : Int32) (H : Heap) (locs : List Loc) (ls : Array Slot), L_X2_steps_7  n f a0 a1 a2 = some rs → xY G z f s H locs → lv_has ls 3 [(0, .ref a0), (1, .int a1), (2, .int a2)] → W p l e rm_X2_steps s m args below meth c H locs 0 0 (MQ below (xQ G (some (.int rs.1)) z rs.2) args s rm_X2_steps.cells rm_X2_steps.slots (xA G)) (F0 m 7 ls []) := by
  intro n
  induction n with
  | zero => intro f a0 a1 a2 H locs ls h Y hl; cases h
  | succ n ih => intro f a0 a1 a2 H locs ls h Y hl; exact w_X2_steps_7 X hr hlocks hin rs _ ih f a0 a1 a2 _ _ _ h Y hl
set_option maxRecDepth 100000 in
set_option maxHeartbeats 4000000 in
theorem c_X2_steps (l : Launch) (G : xG) (z : Nat) (f : xHp) (h0 : Nat) (p1 : Int32) (rs : Int32 × xHp) (h : F_X2_steps f h0 p1 = some rs) : xM G l yX2_steps cX2_steps 3 (some .int) rm_X2_steps [.ref h0, .int p1] z f (some (.int rs.1)) z rs.2 := by
  refine xM_of (by decide) (Nat.le_of_ble_eq_true rfl) ?_
  intro p e s m below meth c ls X hr hlocks hin Y hl
  have hl : lv_has ls 3 [(0, .ref h0), (1, .int p1)] := hl
  have hx := X.1.1
  have hb := X.1.2.1
  unfold F_X2_steps at h
  refine lv_aload_n hx hb dX2_steps_0 rfl (lv_at hl 0 rfl) ?_
  refine lv_iconst (v := 0) hx hb dX2_steps_1 (by decide) ?_
  replace h := xb h
  obtain ⟨f1, ef1, h⟩ := h
  refine q_put X Y fp_X2_40 rfl rfl ef1 dX2_steps_2 (fun H locs Y => ?_)
  refine lv_iconst (v := 0) hx hb dX2_steps_5 (by decide) ?_
  refine lv_istore_n (lv' := [(2, .int (0 : Int32)), (0, .ref h0), (1, .int p1)]) hx hb dX2_steps_6 rfl hl (by decide) rfl (fun ls hl => ?_)
  refine W.widen (k := 0) (n := 0) (Nat.le_of_ble_eq_true rfl) (Nat.le_of_ble_eq_true rfl) ?_
  exact lw_X2_steps_7 X hr hlocks hin rs  xfuel f1 h0 p1 (0 : Int32) _ _ _ h Y (lv_sub hl [1, 2, 0] rfl)
/-! NeverBelow.cover(I)I -/
abbrev rm_X10_cover : Room := { frames := 5, cells := 0, slots := 0, locals := 135 }
def F_X10_cover (f : xHp) (h0 : Nat) (p1 : Int32) : Option (Int32 × xHp) := if p1 < 0 then (some ((-2 : Int32), f)) else (if p1 ≤ (500 : Int32) then (Option.bind (hN f h0 [(9, 4)]) fun v3 => Option.bind (hR f v3 [(2, 3)]) fun v4 => xnul v4 (some ((-3 : Int32), f)) (fun q6 => Option.bind (hN f h0 [(9, 4)]) fun v7 => if hKd f v7 = some 2 then (Option.bind (F_X2_steps f v7 p1) fun q9 => if q9.1 = 0 then (Option.bind (hN q9.2 h0 [(9, 4)]) fun v11 => Option.bind (hI q9.2 v11 [(2, 10)]) fun v12 => if v12 = 0 then (some (q9.1, q9.2)) else (some ((-4 : Int32), q9.2))) else (some (q9.1, q9.2))) else none)) else (some ((-2 : Int32), f)))
set_option maxRecDepth 100000 in
set_option maxHeartbeats 4000000 in
theorem c_X10_cover (l : Launch) (G : xG) (z : Nat) (f : xHp) (h0 : Nat) (p1 : Int32) (rs : Int32 × xHp) (h : F_X10_cover f h0 p1 = some rs) : xM G l yX10_cover cX10_cover 3 (some .int) rm_X10_cover [.ref h0, .int p1] z f (some (.int rs.1)) z rs.2 := by
  refine xM_of (by decide) (Nat.le_of_ble_eq_true rfl) ?_
  intro p e s m below meth c ls X hr hlocks hin Y hl
  have hl : lv_has ls 3 [(0, .ref h0), (1, .int p1)] := hl
  have hx := X.1.1
  have hb := X.1.2.1
  unfold F_X10_cover at h
  refine lv_iload_n hx hb dX10_cover_0 rfl (lv_at hl 1 rfl) ?_
  refine lv_if_lt (tgt := 11) hx hb dX10_cover_1 (by decide) (fun c1 => ?_) (fun c1 => ?_)
  · replace h := Eq.trans (if_pos c1).symm h
    refine lv_bipush (v := -2) hx hb dX10_cover_11 (by decide) ?_
    replace h := Option.some.inj h
    subst h
    exact q_reti X Y hr hlocks (Nat.le_of_ble_eq_true rfl) (Nat.le_of_ble_eq_true rfl) dX10_cover_13
  · replace h := Eq.trans (if_neg c1).symm h
    refine lv_iload_n hx hb dX10_cover_4 rfl (lv_at hl 1 rfl) ?_
    refine lv_sipush (v := 500) hx hb dX10_cover_5 (by decide) ?_
    refine lv_icmp_le (tgt := 14) hx hb dX10_cover_8 (by decide) (fun c2 => ?_) (fun c2 => ?_)
    · replace h := Eq.trans (if_pos c2).symm h
      refine lv_aload_n hx hb dX10_cover_14 rfl (lv_at hl 0 rfl) ?_
      replace h := xb h
      obtain ⟨v3, ev3, h⟩ := h
      refine q_getN X Y fl_X10_36 ev3 dX10_cover_15 ?_
      replace h := xb h
      obtain ⟨v4, ev4, h⟩ := h
      refine q_getR X Y fl_X10_179 ev4 dX10_cover_18 ?_
      refine q_ifnonnull (tgt := 27) hx hb dX10_cover_21 (by decide) (fun c5 => ?_) (fun q6 eq6 => ?_)
      · replace h := xn0 h c5
        subst c5
        refine lv_bipush (v := -3) hx hb dX10_cover_24 (by decide) ?_
        replace h := Option.some.inj h
        subst h
        exact q_reti X Y hr hlocks (Nat.le_of_ble_eq_true rfl) (Nat.le_of_ble_eq_true rfl) dX10_cover_26
      · replace h := xn1 h eq6
        subst eq6
        refine lv_aload_n hx hb dX10_cover_27 rfl (lv_at hl 0 rfl) ?_
        replace h := xb h
        obtain ⟨v7, ev7, h⟩ := h
        refine q_getN X Y fl_X10_36 ev7 dX10_cover_28 ?_
        refine lv_iload_n hx hb dX10_cover_31 rfl (lv_at hl 1 rfl) ?_
        by_cases c8 : hKd f v7 = some 2
        · replace h := Eq.trans (if_pos c8).symm h
          replace h := xb h
          obtain ⟨q9, eq9, h⟩ := h
          refine q_callV X Y hl.1 (rest := []) (As := [.int p1]) (c_X2_steps l G z f v7 p1 _ eq9) cd_X2_steps lv_X10_183_2 c8 ⟨(Nat.le_of_ble_eq_true rfl), (Nat.le_of_ble_eq_true rfl)⟩ ⟨(Nat.le_of_ble_eq_true rfl), (Nat.le_of_ble_eq_true rfl)⟩ rfl rfl (Nat.le_of_ble_eq_true rfl) dX10_cover_32 (fun H locs Y => ?_)
          refine W.eq (g2 := F0 m 35 ls [.int q9.1]) rfl ?_
          refine lv_istore_n (lv' := [(2, .int q9.1), (0, .ref h0), (1, .int p1)]) hx hb dX10_cover_35 rfl hl (by decide) rfl (fun ls hl => ?_)
          refine lv_iload_n hx hb dX10_cover_36 rfl (lv_at hl 0 rfl) ?_
          refine lv_if_ne (tgt := 55) hx hb dX10_cover_37 (by decide) (fun c10 => ?_) (fun c10 => ?_)
          · replace h := Eq.trans (if_neg c10).symm h
            refine lv_iload_n hx hb dX10_cover_55 rfl (lv_at hl 0 rfl) ?_
            replace h := Option.some.inj h
            subst h
            exact q_reti X Y hr hlocks (Nat.le_of_ble_eq_true rfl) (Nat.le_of_ble_eq_true rfl) dX10_cover_56
          · replace h := Eq.trans (if_pos c10).symm h
            refine lv_aload_n hx hb dX10_cover_40 rfl (lv_at hl 1 rfl) ?_
            replace h := xb h
            obtain ⟨v11, ev11, h⟩ := h
            refine q_getN X Y fl_X10_36 ev11 dX10_cover_41 ?_
            replace h := xb h
            obtain ⟨v12, ev12, h⟩ := h
            refine q_getI X Y fl_X10_186 ev12 dX10_cover_44 ?_
            refine lv_if_eq (tgt := 55) hx hb dX10_cover_47 (by decide) (fun c13 => ?_) (fun c13 => ?_)
            · replace h := Eq.trans (if_pos c13).symm h
              refine lv_iload_n hx hb dX10_cover_55 rfl (lv_at hl 0 rfl) ?_
              replace h := Option.some.inj h
              subst h
              exact q_reti X Y hr hlocks (Nat.le_of_ble_eq_true rfl) (Nat.le_of_ble_eq_true rfl) dX10_cover_56
            · replace h := Eq.trans (if_neg c13).symm h
              refine lv_bipush (v := -4) hx hb dX10_cover_50 (by decide) ?_
              refine lv_goto (tgt := 56) hx hb dX10_cover_52 (by decide) ?_
              replace h := Option.some.inj h
              subst h
              exact q_reti X Y hr hlocks (Nat.le_of_ble_eq_true rfl) (Nat.le_of_ble_eq_true rfl) dX10_cover_56
        replace h := Eq.trans (if_neg c8).symm h
        cases h
    · replace h := Eq.trans (if_neg c2).symm h
      refine lv_bipush (v := -2) hx hb dX10_cover_11 (by decide) ?_
      replace h := Option.some.inj h
      subst h
      exact q_reti X Y hr hlocks (Nat.le_of_ble_eq_true rfl) (Nat.le_of_ble_eq_true rfl) dX10_cover_13

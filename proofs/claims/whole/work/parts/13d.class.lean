/-! NeverBelow$Parts.countOf(I)I -/
abbrev rm_X2_countOf : Room := { frames := 0, cells := 0, slots := 0, locals := 0 }
def F_X2_countOf_25 (f : xHp) (k4 : Nat → Int32 → Int32 → Int32 → Option (Int32))  (a0 : Nat) (a1 : Int32) (a2 : Int32) (a3 : Int32) : Option (Int32) := k4 a0 a1 a2 (a3 + 1)
def F_X2_countOf_4 (f : xHp) (k4 : Nat → Int32 → Int32 → Int32 → Option (Int32))  (a0 : Nat) (a1 : Int32) (a2 : Int32) (a3 : Int32) : Option (Int32) := Option.bind (hI f a0 [(2, 6)]) fun v1 => if v1 ≤ a3 then (some a2) else (Option.bind (hN f a0 [(2, 1)]) fun v3 => Option.bind (hIld f v3 a3) fun v4 => if v4 = a1 then (F_X2_countOf_25 f k4 a0 a1 (a2 + 1) a3) else (F_X2_countOf_25 f k4 a0 a1 a2 a3))
def L_X2_countOf_4 (f : xHp)  : Nat → Nat → Int32 → Int32 → Int32 → Option (Int32)
  | 0, _, _, _, _ => none
  | n + 1, a0, a1, a2, a3 => F_X2_countOf_4 f (L_X2_countOf_4 f  n) a0 a1 a2 a3
def F_X2_countOf (f : xHp) (h0 : Nat) (p1 : Int32) : Option (Int32) := L_X2_countOf_4 f xfuel h0 p1 (0 : Int32) (0 : Int32)
set_option maxRecDepth 100000 in
set_option maxHeartbeats 4000000 in
theorem w_X2_countOf_25 {p : Program} {l : Launch} {e : Env} {s : State} {m : MethodId} {args : Array Value} {below : List Frame} {meth : Method} {c : Code} {G : xG} {z : Nat} {f : xHp} (X : xC G p m c s args RX2 cX2_countOf 4) (hr : meth.sig.returnType = (some .int)) (hlocks : meth.locks = false) (hin : meth.name = yX2_countOf.name) (rs : Int32) (k4 : Nat → Int32 → Int32 → Int32 → Option (Int32)) (hk4 : ∀ (a0 : Nat) (a1 : Int32) (a2 : Int32) (a3 : Int32) (H : Heap) (locs : List Loc) (ls : Array Slot), k4 a0 a1 a2 a3 = some rs → xY G z f s H locs → lv_has ls 4 [(0, .ref a0), (1, .int a1), (2, .int a2), (3, .int a3)] → W p l e rm_X2_countOf s m args below meth c H locs 0 0 (MQ below (xQ G (some (.int rs)) z f) args s rm_X2_countOf.cells rm_X2_countOf.slots (xA G)) (F0 m 4 ls [])) (a0 : Nat) (a1 : Int32) (a2 : Int32) (a3 : Int32) (H : Heap) (locs : List Loc) (ls : Array Slot) (h : F_X2_countOf_25 f k4 a0 a1 a2 a3 = some rs) (Y : xY G z f s H locs) (hl : lv_has ls 4 [(0, .ref a0), (1, .int a1), (2, .int a2), (3, .int a3)]) : W p l e rm_X2_countOf s m args below meth c H locs 0 0 (MQ below (xQ G (some (.int rs)) z f) args s rm_X2_countOf.cells rm_X2_countOf.slots (xA G)) (F0 m 25 ls []) := by
  have hx := X.1.1
  have hb := X.1.2.1
  unfold F_X2_countOf_25 at h
  refine lv_iinc (v := (a3 + 1)) (lv' := [(3, .int (a3 + 1)), (0, .ref a0), (1, .int a1), (2, .int a2)]) hx hb dX2_countOf_25 hl (k := 3) rfl rfl (by decide) rfl (fun ls hl => ?_)
  refine lv_goto (tgt := 4) hx hb dX2_countOf_28 (by decide) ?_
  refine W.widen (k := 0) (n := 0) (Nat.le_of_ble_eq_true rfl) (Nat.le_of_ble_eq_true rfl) ?_
  exact hk4 a0 a1 a2 (a3 + 1) _ _ _ h Y (lv_sub hl [1, 2, 3, 0] rfl)
set_option maxRecDepth 100000 in
set_option maxHeartbeats 4000000 in
theorem w_X2_countOf_4 {p : Program} {l : Launch} {e : Env} {s : State} {m : MethodId} {args : Array Value} {below : List Frame} {meth : Method} {c : Code} {G : xG} {z : Nat} {f : xHp} (X : xC G p m c s args RX2 cX2_countOf 4) (hr : meth.sig.returnType = (some .int)) (hlocks : meth.locks = false) (hin : meth.name = yX2_countOf.name) (rs : Int32) (k4 : Nat → Int32 → Int32 → Int32 → Option (Int32)) (hk4 : ∀ (a0 : Nat) (a1 : Int32) (a2 : Int32) (a3 : Int32) (H : Heap) (locs : List Loc) (ls : Array Slot), k4 a0 a1 a2 a3 = some rs → xY G z f s H locs → lv_has ls 4 [(0, .ref a0), (1, .int a1), (2, .int a2), (3, .int a3)] → W p l e rm_X2_countOf s m args below meth c H locs 0 0 (MQ below (xQ G (some (.int rs)) z f) args s rm_X2_countOf.cells rm_X2_countOf.slots (xA G)) (F0 m 4 ls [])) (a0 : Nat) (a1 : Int32) (a2 : Int32) (a3 : Int32) (H : Heap) (locs : List Loc) (ls : Array Slot) (h : F_X2_countOf_4 f k4 a0 a1 a2 a3 = some rs) (Y : xY G z f s H locs) (hl : lv_has ls 4 [(0, .ref a0), (1, .int a1), (2, .int a2), (3, .int a3)]) : W p l e rm_X2_countOf s m args below meth c H locs 0 0 (MQ below (xQ G (some (.int rs)) z f) args s rm_X2_countOf.cells rm_X2_countOf.slots (xA G)) (F0 m 4 ls []) := by
  have hx := X.1.1
  have hb := X.1.2.1
  unfold F_X2_countOf_4 at h
  refine lv_iload_n hx hb dX2_countOf_4 rfl (lv_at hl 3 rfl) ?_
  refine lv_aload_n hx hb dX2_countOf_5 rfl (lv_at hl 0 rfl) ?_
  replace h := xb h
  obtain ⟨v1, ev1, h⟩ := h
  refine q_getI X Y fl_X2_32 ev1 dX2_countOf_6 ?_
  refine lv_icmp_ge (tgt := 31) hx hb dX2_countOf_9 (by decide) (fun c2 => ?_) (fun c2 => ?_)
  · replace h := Eq.trans (if_pos c2).symm h
    refine lv_iload_n hx hb dX2_countOf_31 rfl (lv_at hl 2 rfl) ?_
    replace h := Option.some.inj h
    subst h
    exact q_reti X Y hr hlocks (Nat.le_of_ble_eq_true rfl) (Nat.le_of_ble_eq_true rfl) dX2_countOf_32
  · replace h := Eq.trans (if_neg c2).symm h
    refine lv_aload_n hx hb dX2_countOf_12 rfl (lv_at hl 0 rfl) ?_
    replace h := xb h
    obtain ⟨v3, ev3, h⟩ := h
    refine q_getN X Y fl_X2_15 ev3 dX2_countOf_13 ?_
    refine lv_iload_n hx hb dX2_countOf_16 rfl (lv_at hl 3 rfl) ?_
    replace h := xb h
    obtain ⟨v4, ev4, h⟩ := h
    refine q_iald X Y ev4 dX2_countOf_17 ?_
    refine lv_iload_n hx hb dX2_countOf_18 rfl (lv_at hl 1 rfl) ?_
    refine lv_icmp_ne (tgt := 25) hx hb dX2_countOf_19 (by decide) (fun c5 => ?_) (fun c5 => ?_)
    · replace h := Eq.trans (if_neg c5).symm h
      refine W.widen (k := 0) (n := 0) (Nat.le_of_ble_eq_true rfl) (Nat.le_of_ble_eq_true rfl) ?_
      exact w_X2_countOf_25 X hr hlocks hin rs k4 hk4  a0 a1 a2 a3 _ _ _ h Y (lv_sub hl [0, 1, 2, 3] rfl)
    · replace h := Eq.trans (if_pos c5).symm h
      refine lv_iinc (v := (a2 + 1)) (lv' := [(2, .int (a2 + 1)), (0, .ref a0), (1, .int a1), (3, .int a3)]) hx hb dX2_countOf_22 hl (k := 2) rfl rfl (by decide) rfl (fun ls hl => ?_)
      refine W.widen (k := 0) (n := 0) (Nat.le_of_ble_eq_true rfl) (Nat.le_of_ble_eq_true rfl) ?_
      exact w_X2_countOf_25 X hr hlocks hin rs k4 hk4  a0 a1 (a2 + 1) a3 _ _ _ h Y (lv_sub hl [1, 2, 0, 3] rfl)
set_option maxRecDepth 100000 in
set_option maxHeartbeats 4000000 in
theorem lw_X2_countOf_4 {p : Program} {l : Launch} {e : Env} {s : State} {m : MethodId} {args : Array Value} {below : List Frame} {meth : Method} {c : Code} {G : xG} {z : Nat} {f : xHp} (X : xC G p m c s args RX2 cX2_countOf 4) (hr : meth.sig.returnType = (some .int)) (hlocks : meth.locks = false) (hin : meth.name = yX2_countOf.name) (rs : Int32)  : ∀ (n : Nat) (a0 : Nat) (a1 : Int32) (a2 : Int32) (a3 : Int32) (H : Heap) (locs : List Loc) (ls : Array Slot), L_X2_countOf_4 f  n a0 a1 a2 a3 = some rs → xY G z f s H locs → lv_has ls 4 [(0, .ref a0), (1, .int a1), (2, .int a2), (3, .int a3)] → W p l e rm_X2_countOf s m args below meth c H locs 0 0 (MQ below (xQ G (some (.int rs)) z f) args s rm_X2_countOf.cells rm_X2_countOf.slots (xA G)) (F0 m 4 ls []) := by
  intro n
  induction n with
  | zero => intro a0 a1 a2 a3 H locs ls h Y hl; cases h
  | succ n ih => intro a0 a1 a2 a3 H locs ls h Y hl; exact w_X2_countOf_4 X hr hlocks hin rs _ ih a0 a1 a2 a3 _ _ _ h Y hl
set_option maxRecDepth 100000 in
set_option maxHeartbeats 4000000 in
theorem c_X2_countOf (l : Launch) (G : xG) (z : Nat) (f : xHp) (h0 : Nat) (p1 : Int32) (rs : Int32) (h : F_X2_countOf f h0 p1 = some rs) : xM G l yX2_countOf cX2_countOf 4 (some .int) rm_X2_countOf [.ref h0, .int p1] z f (some (.int rs)) z f := by
  refine xM_of (by decide) (Nat.le_of_ble_eq_true rfl) ?_
  intro p e s m below meth c ls X hr hlocks hin Y hl
  have hl : lv_has ls 4 [(0, .ref h0), (1, .int p1)] := hl
  have hx := X.1.1
  have hb := X.1.2.1
  unfold F_X2_countOf at h
  refine lv_iconst (v := 0) hx hb dX2_countOf_0 (by decide) ?_
  refine lv_istore_n (lv' := [(2, .int (0 : Int32)), (0, .ref h0), (1, .int p1)]) hx hb dX2_countOf_1 rfl hl (by decide) rfl (fun ls hl => ?_)
  refine lv_iconst (v := 0) hx hb dX2_countOf_2 (by decide) ?_
  refine lv_istore_n (lv' := [(3, .int (0 : Int32)), (2, .int (0 : Int32)), (0, .ref h0), (1, .int p1)]) hx hb dX2_countOf_3 rfl hl (by decide) rfl (fun ls hl => ?_)
  refine W.widen (k := 0) (n := 0) (Nat.le_of_ble_eq_true rfl) (Nat.le_of_ble_eq_true rfl) ?_
  exact lw_X2_countOf_4 X hr hlocks hin rs  xfuel h0 p1 (0 : Int32) (0 : Int32) _ _ _ h Y (lv_sub hl [2, 3, 1, 0] rfl)
/-! NeverBelow.open(I)I -/
abbrev rm_X10_open : Room := { frames := 1, cells := 0, slots := 0, locals := 23 }
def F_X10_open (f : xHp) (h0 : Nat) (p1 : Int32) : Option (Int32) := if p1 < 0 then (some (-2 : Int32)) else (if p1 ≤ (4 : Int32) then (if p1 = 0 then (Option.bind (hN f h0 [(9, 4)]) fun v7 => Option.bind (hI f v7 [(2, 6)]) fun v8 => some v8) else (Option.bind (hN f h0 [(9, 4)]) fun v4 => if hKd f v4 = some 2 then (Option.bind (F_X2_countOf f v4 (p1 - (1 : Int32))) fun q6 => some q6) else none)) else (some (-2 : Int32)))
set_option maxRecDepth 100000 in
set_option maxHeartbeats 4000000 in
theorem c_X10_open (l : Launch) (G : xG) (z : Nat) (f : xHp) (h0 : Nat) (p1 : Int32) (rs : Int32) (h : F_X10_open f h0 p1 = some rs) : xM G l yX10_open cX10_open 2 (some .int) rm_X10_open [.ref h0, .int p1] z f (some (.int rs)) z f := by
  refine xM_of (by decide) (Nat.le_of_ble_eq_true rfl) ?_
  intro p e s m below meth c ls X hr hlocks hin Y hl
  have hl : lv_has ls 2 [(0, .ref h0), (1, .int p1)] := hl
  have hx := X.1.1
  have hb := X.1.2.1
  unfold F_X10_open at h
  refine lv_iload_n hx hb dX10_open_0 rfl (lv_at hl 1 rfl) ?_
  refine lv_if_lt (tgt := 9) hx hb dX10_open_1 (by decide) (fun c1 => ?_) (fun c1 => ?_)
  · replace h := Eq.trans (if_pos c1).symm h
    refine lv_bipush (v := -2) hx hb dX10_open_9 (by decide) ?_
    replace h := Option.some.inj h
    subst h
    exact q_reti X Y hr hlocks (Nat.le_of_ble_eq_true rfl) (Nat.le_of_ble_eq_true rfl) dX10_open_11
  · replace h := Eq.trans (if_neg c1).symm h
    refine lv_iload_n hx hb dX10_open_4 rfl (lv_at hl 1 rfl) ?_
    refine lv_iconst (v := 4) hx hb dX10_open_5 (by decide) ?_
    refine lv_icmp_le (tgt := 12) hx hb dX10_open_6 (by decide) (fun c2 => ?_) (fun c2 => ?_)
    · replace h := Eq.trans (if_pos c2).symm h
      refine lv_iload_n hx hb dX10_open_12 rfl (lv_at hl 1 rfl) ?_
      refine lv_if_ne (tgt := 26) hx hb dX10_open_13 (by decide) (fun c3 => ?_) (fun c3 => ?_)
      · replace h := Eq.trans (if_neg c3).symm h
        refine lv_aload_n hx hb dX10_open_26 rfl (lv_at hl 0 rfl) ?_
        replace h := xb h
        obtain ⟨v4, ev4, h⟩ := h
        refine q_getN X Y fl_X10_36 ev4 dX10_open_27 ?_
        refine lv_iload_n hx hb dX10_open_30 rfl (lv_at hl 1 rfl) ?_
        refine lv_iconst (v := 1) hx hb dX10_open_31 (by decide) ?_
        refine lv_isub hx hb dX10_open_32 ?_
        by_cases c5 : hKd f v4 = some 2
        · replace h := Eq.trans (if_pos c5).symm h
          replace h := xb h
          obtain ⟨q6, eq6, h⟩ := h
          refine q_callV X Y hl.1 (rest := []) (As := [.int (p1 - (1 : Int32))]) (c_X2_countOf l G z f v4 (p1 - (1 : Int32)) _ eq6) cd_X2_countOf lv_X10_193_2 c5 ⟨(Nat.le_of_ble_eq_true rfl), (Nat.le_of_ble_eq_true rfl)⟩ ⟨(Nat.le_of_ble_eq_true rfl), (Nat.le_of_ble_eq_true rfl)⟩ rfl rfl (Nat.le_of_ble_eq_true rfl) dX10_open_33 (fun H locs Y => ?_)
          refine W.eq (g2 := F0 m 36 ls [.int q6]) rfl ?_
          replace h := Option.some.inj h
          subst h
          exact q_reti X Y hr hlocks (Nat.le_of_ble_eq_true rfl) (Nat.le_of_ble_eq_true rfl) dX10_open_36
        replace h := Eq.trans (if_neg c5).symm h
        cases h
      · replace h := Eq.trans (if_pos c3).symm h
        refine lv_aload_n hx hb dX10_open_16 rfl (lv_at hl 0 rfl) ?_
        replace h := xb h
        obtain ⟨v7, ev7, h⟩ := h
        refine q_getN X Y fl_X10_36 ev7 dX10_open_17 ?_
        replace h := xb h
        obtain ⟨v8, ev8, h⟩ := h
        refine q_getI X Y fl_X10_190 ev8 dX10_open_20 ?_
        refine lv_goto (tgt := 36) hx hb dX10_open_23 (by decide) ?_
        replace h := Option.some.inj h
        subst h
        exact q_reti X Y hr hlocks (Nat.le_of_ble_eq_true rfl) (Nat.le_of_ble_eq_true rfl) dX10_open_36
    · replace h := Eq.trans (if_neg c2).symm h
      refine lv_bipush (v := -2) hx hb dX10_open_9 (by decide) ?_
      replace h := Option.some.inj h
      subst h
      exact q_reti X Y hr hlocks (Nat.le_of_ble_eq_true rfl) (Nat.le_of_ble_eq_true rfl) dX10_open_11
/-! NeverBelow.partly(II)I -/
abbrev rm_X10_partly : Room := { frames := 0, cells := 0, slots := 0, locals := 0 }
def F_X10_partly (f : xHp) (h0 : Nat) (p1 : Int32) (p2 : Int32) : Option (Int32) := if p1 < 0 then (some (-1 : Int32)) else (Option.bind (hN f h0 [(9, 4)]) fun v2 => Option.bind (hI f v2 [(2, 6)]) fun v3 => if p1 < v3 then (if p2 < 0 then (some (-2 : Int32)) else (if p2 ≤ (4 : Int32) then (if p2 = (4 : Int32) then (Option.bind (hN f h0 [(9, 4)]) fun v11 => Option.bind (hN f v11 [(2, 1)]) fun v12 => Option.bind (hIld f v12 p1) fun v13 => some v13) else (Option.bind (hN f h0 [(9, 4)]) fun v8 => Option.bind (hN f v8 [(2, 0)]) fun v9 => Option.bind (hIld f v9 (((4 : Int32) * p1) + p2)) fun v10 => some v10)) else (some (-2 : Int32)))) else (some (-1 : Int32)))
set_option maxRecDepth 100000 in
set_option maxHeartbeats 4000000 in
theorem c_X10_partly (l : Launch) (G : xG) (z : Nat) (f : xHp) (h0 : Nat) (p1 : Int32) (p2 : Int32) (rs : Int32) (h : F_X10_partly f h0 p1 p2 = some rs) : xM G l yX10_partly cX10_partly 3 (some .int) rm_X10_partly [.ref h0, .int p1, .int p2] z f (some (.int rs)) z f := by
  refine xM_of (by decide) (Nat.le_of_ble_eq_true rfl) ?_
  intro p e s m below meth c ls X hr hlocks hin Y hl
  have hl : lv_has ls 3 [(0, .ref h0), (1, .int p1), (2, .int p2)] := hl
  have hx := X.1.1
  have hb := X.1.2.1
  unfold F_X10_partly at h
  refine lv_iload_n hx hb dX10_partly_0 rfl (lv_at hl 1 rfl) ?_
  refine lv_if_lt (tgt := 15) hx hb dX10_partly_1 (by decide) (fun c1 => ?_) (fun c1 => ?_)
  · replace h := Eq.trans (if_pos c1).symm h
    refine lv_iconst (v := -1) hx hb dX10_partly_15 (by decide) ?_
    replace h := Option.some.inj h
    subst h
    exact q_reti X Y hr hlocks (Nat.le_of_ble_eq_true rfl) (Nat.le_of_ble_eq_true rfl) dX10_partly_16
  · replace h := Eq.trans (if_neg c1).symm h
    refine lv_iload_n hx hb dX10_partly_4 rfl (lv_at hl 1 rfl) ?_
    refine lv_aload_n hx hb dX10_partly_5 rfl (lv_at hl 0 rfl) ?_
    replace h := xb h
    obtain ⟨v2, ev2, h⟩ := h
    refine q_getN X Y fl_X10_36 ev2 dX10_partly_6 ?_
    replace h := xb h
    obtain ⟨v3, ev3, h⟩ := h
    refine q_getI X Y fl_X10_190 ev3 dX10_partly_9 ?_
    refine lv_icmp_lt (tgt := 17) hx hb dX10_partly_12 (by decide) (fun c4 => ?_) (fun c4 => ?_)
    · replace h := Eq.trans (if_pos c4).symm h
      refine lv_iload_n hx hb dX10_partly_17 rfl (lv_at hl 2 rfl) ?_
      refine lv_if_lt (tgt := 26) hx hb dX10_partly_18 (by decide) (fun c5 => ?_) (fun c5 => ?_)
      · replace h := Eq.trans (if_pos c5).symm h
        refine lv_bipush (v := -2) hx hb dX10_partly_26 (by decide) ?_
        replace h := Option.some.inj h
        subst h
        exact q_reti X Y hr hlocks (Nat.le_of_ble_eq_true rfl) (Nat.le_of_ble_eq_true rfl) dX10_partly_28
      · replace h := Eq.trans (if_neg c5).symm h
        refine lv_iload_n hx hb dX10_partly_21 rfl (lv_at hl 2 rfl) ?_
        refine lv_iconst (v := 4) hx hb dX10_partly_22 (by decide) ?_
        refine lv_icmp_le (tgt := 29) hx hb dX10_partly_23 (by decide) (fun c6 => ?_) (fun c6 => ?_)
        · replace h := Eq.trans (if_pos c6).symm h
          refine lv_iload_n hx hb dX10_partly_29 rfl (lv_at hl 2 rfl) ?_
          refine lv_iconst (v := 4) hx hb dX10_partly_30 (by decide) ?_
          refine lv_icmp_ne (tgt := 46) hx hb dX10_partly_31 (by decide) (fun c7 => ?_) (fun c7 => ?_)
          · replace h := Eq.trans (if_neg c7).symm h
            refine lv_aload_n hx hb dX10_partly_46 rfl (lv_at hl 0 rfl) ?_
            replace h := xb h
            obtain ⟨v8, ev8, h⟩ := h
            refine q_getN X Y fl_X10_36 ev8 dX10_partly_47 ?_
            replace h := xb h
            obtain ⟨v9, ev9, h⟩ := h
            refine q_getN X Y fl_X10_199 ev9 dX10_partly_50 ?_
            refine lv_iconst (v := 4) hx hb dX10_partly_53 (by decide) ?_
            refine lv_iload_n hx hb dX10_partly_54 rfl (lv_at hl 1 rfl) ?_
            refine lv_imul hx hb dX10_partly_55 ?_
            refine lv_iload_n hx hb dX10_partly_56 rfl (lv_at hl 2 rfl) ?_
            refine lv_iadd hx hb dX10_partly_57 ?_
            replace h := xb h
            obtain ⟨v10, ev10, h⟩ := h
            refine q_iald X Y ev10 dX10_partly_58 ?_
            replace h := Option.some.inj h
            subst h
            exact q_reti X Y hr hlocks (Nat.le_of_ble_eq_true rfl) (Nat.le_of_ble_eq_true rfl) dX10_partly_59
          · replace h := Eq.trans (if_pos c7).symm h
            refine lv_aload_n hx hb dX10_partly_34 rfl (lv_at hl 0 rfl) ?_
            replace h := xb h
            obtain ⟨v11, ev11, h⟩ := h
            refine q_getN X Y fl_X10_36 ev11 dX10_partly_35 ?_
            replace h := xb h
            obtain ⟨v12, ev12, h⟩ := h
            refine q_getN X Y fl_X10_196 ev12 dX10_partly_38 ?_
            refine lv_iload_n hx hb dX10_partly_41 rfl (lv_at hl 1 rfl) ?_
            replace h := xb h
            obtain ⟨v13, ev13, h⟩ := h
            refine q_iald X Y ev13 dX10_partly_42 ?_
            refine lv_goto (tgt := 59) hx hb dX10_partly_43 (by decide) ?_
            replace h := Option.some.inj h
            subst h
            exact q_reti X Y hr hlocks (Nat.le_of_ble_eq_true rfl) (Nat.le_of_ble_eq_true rfl) dX10_partly_59
        · replace h := Eq.trans (if_neg c6).symm h
          refine lv_bipush (v := -2) hx hb dX10_partly_26 (by decide) ?_
          replace h := Option.some.inj h
          subst h
          exact q_reti X Y hr hlocks (Nat.le_of_ble_eq_true rfl) (Nat.le_of_ble_eq_true rfl) dX10_partly_28
    · replace h := Eq.trans (if_neg c4).symm h
      refine lv_iconst (v := -1) hx hb dX10_partly_15 (by decide) ?_
      replace h := Option.some.inj h
      subst h
      exact q_reti X Y hr hlocks (Nat.le_of_ble_eq_true rfl) (Nat.le_of_ble_eq_true rfl) dX10_partly_16
/-! NeverBelow.where(I)I -/
abbrev rm_X10_where : Room := { frames := 1, cells := 0, slots := 0, locals := 20 }
def F_X10_where (f : xHp) (h0 : Nat) (p1 : Int32) : Option (Int32) := Option.bind (F_X10_isWhich f p1) fun q1 => if q1 = 0 then (some (-2 : Int32)) else (Option.bind (hN f h0 [(9, 4)]) fun v3 => Option.bind (hI f v3 [(2, 7)]) fun v4 => if v4 = 0 then (some (-9 : Int32)) else (if p1 = 0 then (Option.bind (hN f h0 [(9, 4)]) fun v9 => Option.bind (hI f v9 [(2, 8)]) fun v10 => some v10) else (Option.bind (hN f h0 [(9, 4)]) fun v7 => Option.bind (hI f v7 [(2, 9)]) fun v8 => some v8)))
set_option maxRecDepth 100000 in
set_option maxHeartbeats 4000000 in
theorem c_X10_where (l : Launch) (G : xG) (z : Nat) (f : xHp) (h0 : Nat) (p1 : Int32) (rs : Int32) (h : F_X10_where f h0 p1 = some rs) : xM G l yX10_where cX10_where 2 (some .int) rm_X10_where [.ref h0, .int p1] z f (some (.int rs)) z f := by
  refine xM_of (by decide) (Nat.le_of_ble_eq_true rfl) ?_
  intro p e s m below meth c ls X hr hlocks hin Y hl
  have hl : lv_has ls 2 [(0, .ref h0), (1, .int p1)] := hl
  have hx := X.1.1
  have hb := X.1.2.1
  unfold F_X10_where at h
  refine lv_iload_n hx hb dX10_where_0 rfl (lv_at hl 1 rfl) ?_
  replace h := xb h
  obtain ⟨q1, eq1, h⟩ := h
  refine q_callS X Y hl.1 (rest := []) (As := [.int p1]) (c_X10_isWhich l G z f p1 _ eq1) cd_X10_isWhich ls_X10_116 ⟨(Nat.le_of_ble_eq_true rfl), (Nat.le_of_ble_eq_true rfl)⟩ ⟨(Nat.le_of_ble_eq_true rfl), (Nat.le_of_ble_eq_true rfl)⟩ rfl rfl (Nat.le_of_ble_eq_true rfl) dX10_where_1 (fun H locs Y => ?_)
  refine W.eq (g2 := F0 m 4 ls [.int q1]) rfl ?_
  refine lv_if_ne (tgt := 10) hx hb dX10_where_4 (by decide) (fun c2 => ?_) (fun c2 => ?_)
  · replace h := Eq.trans (if_neg c2).symm h
    refine lv_aload_n hx hb dX10_where_10 rfl (lv_at hl 0 rfl) ?_
    replace h := xb h
    obtain ⟨v3, ev3, h⟩ := h
    refine q_getN X Y fl_X10_36 ev3 dX10_where_11 ?_
    replace h := xb h
    obtain ⟨v4, ev4, h⟩ := h
    refine q_getI X Y fl_X10_202 ev4 dX10_where_14 ?_
    refine lv_if_ne (tgt := 23) hx hb dX10_where_17 (by decide) (fun c5 => ?_) (fun c5 => ?_)
    · replace h := Eq.trans (if_neg c5).symm h
      refine lv_iload_n hx hb dX10_where_23 rfl (lv_at hl 1 rfl) ?_
      refine lv_if_ne (tgt := 37) hx hb dX10_where_24 (by decide) (fun c6 => ?_) (fun c6 => ?_)
      · replace h := Eq.trans (if_neg c6).symm h
        refine lv_aload_n hx hb dX10_where_37 rfl (lv_at hl 0 rfl) ?_
        replace h := xb h
        obtain ⟨v7, ev7, h⟩ := h
        refine q_getN X Y fl_X10_36 ev7 dX10_where_38 ?_
        replace h := xb h
        obtain ⟨v8, ev8, h⟩ := h
        refine q_getI X Y fl_X10_208 ev8 dX10_where_41 ?_
        replace h := Option.some.inj h
        subst h
        exact q_reti X Y hr hlocks (Nat.le_of_ble_eq_true rfl) (Nat.le_of_ble_eq_true rfl) dX10_where_44
      · replace h := Eq.trans (if_pos c6).symm h
        refine lv_aload_n hx hb dX10_where_27 rfl (lv_at hl 0 rfl) ?_
        replace h := xb h
        obtain ⟨v9, ev9, h⟩ := h
        refine q_getN X Y fl_X10_36 ev9 dX10_where_28 ?_
        replace h := xb h
        obtain ⟨v10, ev10, h⟩ := h
        refine q_getI X Y fl_X10_205 ev10 dX10_where_31 ?_
        refine lv_goto (tgt := 44) hx hb dX10_where_34 (by decide) ?_
        replace h := Option.some.inj h
        subst h
        exact q_reti X Y hr hlocks (Nat.le_of_ble_eq_true rfl) (Nat.le_of_ble_eq_true rfl) dX10_where_44
    · replace h := Eq.trans (if_pos c5).symm h
      refine lv_bipush (v := -9) hx hb dX10_where_20 (by decide) ?_
      replace h := Option.some.inj h
      subst h
      exact q_reti X Y hr hlocks (Nat.le_of_ble_eq_true rfl) (Nat.le_of_ble_eq_true rfl) dX10_where_22
  · replace h := Eq.trans (if_pos c2).symm h
    refine lv_bipush (v := -2) hx hb dX10_where_7 (by decide) ?_
    replace h := Option.some.inj h
    subst h
    exact q_reti X Y hr hlocks (Nat.le_of_ble_eq_true rfl) (Nat.le_of_ble_eq_true rfl) dX10_where_9
/-! NeverBelow$Parts.leastCorner()J -/
abbrev rm_X2_leastCorner : Room := { frames := 3, cells := 0, slots := 0, locals := 91 }
def F_X2_leastCorner_6 (k6 : xHp → Nat → Int64 → Int32 → Option (Int64 × xHp)) (f : xHp) (a0 : Nat) (a1 : Int64) (a3 : Int32) : Option (Int64 × xHp) := Option.bind (hI f a0 [(2, 6)]) fun v1 => if v1 ≤ a3 then (some (a1, f)) else (Option.bind (hR f a0 [(2, 3)]) fun v3 => xnul v3 (some (a1, f)) (fun q5 => Option.bind (hR f a0 [(2, 3)]) fun v6 => Option.bind (hN f a0 [(2, 0)]) fun v7 => Option.bind (hN f a0 [(2, 2)]) fun v8 => Option.bind (v6) fun q9 => if hKd f q9 = some 4 then (Option.bind (F_X4_cornersOn f q9 v7 ((4 : Int32) * a3) v8) fun q11 => Option.bind (hN q11 a0 [(2, 2)]) fun v12 => Option.bind (F_X10_leastOf q11 v12) fun q13 => Option.bind (F_J9_min_f86c9 q11 a1 q13) fun q14 => k6 q11 a0 q14 (a3 + 1)) else none))
def L_X2_leastCorner_6  : Nat → xHp → Nat → Int64 → Int32 → Option (Int64 × xHp)
  | 0, _, _, _, _ => none
  | n + 1, f, a0, a1, a3 => F_X2_leastCorner_6 (L_X2_leastCorner_6  n) f a0 a1 a3
def F_X2_leastCorner (f : xHp) (h0 : Nat) : Option (Int64 × xHp) := L_X2_leastCorner_6 xfuel f h0 (9223372036854775807 : Int64) (0 : Int32)
set_option maxRecDepth 100000 in
set_option maxHeartbeats 4000000 in
theorem w_X2_leastCorner_6 {p : Program} {l : Launch} {e : Env} {s : State} {m : MethodId} {args : Array Value} {below : List Frame} {meth : Method} {c : Code} {G : xG} {z : Nat} (X : xC G p m c s args RX2 cX2_leastCorner 4) (hr : meth.sig.returnType = (some .long)) (hlocks : meth.locks = false) (hin : meth.name = yX2_leastCorner.name) (rs : Int64 × xHp) (k6 : xHp → Nat → Int64 → Int32 → Option (Int64 × xHp)) (hk6 : ∀ (f : xHp) (a0 : Nat) (a1 : Int64) (a3 : Int32) (H : Heap) (locs : List Loc) (ls : Array Slot), k6 f a0 a1 a3 = some rs → xY G z f s H locs → lv_has ls 4 [(0, .ref a0), (1, .long a1), (3, .int a3)] → W p l e rm_X2_leastCorner s m args below meth c H locs 0 0 (MQ below (xQ G (some (.long rs.1)) z rs.2) args s rm_X2_leastCorner.cells rm_X2_leastCorner.slots (xA G)) (F0 m 6 ls [])) (f : xHp) (a0 : Nat) (a1 : Int64) (a3 : Int32) (H : Heap) (locs : List Loc) (ls : Array Slot) (h : F_X2_leastCorner_6 k6 f a0 a1 a3 = some rs) (Y : xY G z f s H locs) (hl : lv_has ls 4 [(0, .ref a0), (1, .long a1), (3, .int a3)]) : W p l e rm_X2_leastCorner s m args below meth c H locs 0 0 (MQ below (xQ G (some (.long rs.1)) z rs.2) args s rm_X2_leastCorner.cells rm_X2_leastCorner.slots (xA G)) (F0 m 6 ls []) := by
  have hx := X.1.1
  have hb := X.1.2.1
  unfold F_X2_leastCorner_6 at h
  refine lv_iload_n hx hb dX2_leastCorner_6 rfl (lv_at hl 2 rfl) ?_
  refine lv_aload_n hx hb dX2_leastCorner_7 rfl (lv_at hl 0 rfl) ?_
  replace h := xb h
  obtain ⟨v1, ev1, h⟩ := h
  refine q_getI X Y fl_X2_32 ev1 dX2_leastCorner_8 ?_
  refine lv_icmp_ge (tgt := 57) hx hb dX2_leastCorner_11 (by decide) (fun c2 => ?_) (fun c2 => ?_)
  · replace h := Eq.trans (if_pos c2).symm h
    refine lv_lload_n hx hb dX2_leastCorner_57 rfl (lv_at hl 1 rfl) ?_
    replace h := Option.some.inj h
    subst h
    exact q_retl X Y hr hlocks (Nat.le_of_ble_eq_true rfl) (Nat.le_of_ble_eq_true rfl) dX2_leastCorner_58
  · replace h := Eq.trans (if_neg c2).symm h
    refine lv_aload_n hx hb dX2_leastCorner_14 rfl (lv_at hl 0 rfl) ?_
    replace h := xb h
    obtain ⟨v3, ev3, h⟩ := h
    refine q_getR X Y fl_X2_22 ev3 dX2_leastCorner_15 ?_
    refine q_ifnull (tgt := 57) hx hb dX2_leastCorner_18 (by decide) (fun c4 => ?_) (fun q5 eq5 => ?_)
    · replace h := xn0 h c4
      subst c4
      refine lv_lload_n hx hb dX2_leastCorner_57 rfl (lv_at hl 1 rfl) ?_
      replace h := Option.some.inj h
      subst h
      exact q_retl X Y hr hlocks (Nat.le_of_ble_eq_true rfl) (Nat.le_of_ble_eq_true rfl) dX2_leastCorner_58
    · replace h := xn1 h eq5
      subst eq5
      refine lv_aload_n hx hb dX2_leastCorner_21 rfl (lv_at hl 0 rfl) ?_
      replace h := xb h
      obtain ⟨v6, ev6, h⟩ := h
      refine q_getR X Y fl_X2_22 ev6 dX2_leastCorner_22 ?_
      refine lv_aload_n hx hb dX2_leastCorner_25 rfl (lv_at hl 0 rfl) ?_
      replace h := xb h
      obtain ⟨v7, ev7, h⟩ := h
      refine q_getN X Y fl_X2_9 ev7 dX2_leastCorner_26 ?_
      refine lv_iconst (v := 4) hx hb dX2_leastCorner_29 (by decide) ?_
      refine lv_iload_n hx hb dX2_leastCorner_30 rfl (lv_at hl 2 rfl) ?_
      refine lv_imul hx hb dX2_leastCorner_31 ?_
      refine lv_aload_n hx hb dX2_leastCorner_32 rfl (lv_at hl 0 rfl) ?_
      replace h := xb h
      obtain ⟨v8, ev8, h⟩ := h
      refine q_getN X Y fl_X2_18 ev8 dX2_leastCorner_33 ?_
      replace h := xb h
      obtain ⟨q9, eq9, h⟩ := h
      subst eq9
      refine W.eq (g2 := F0 m 36 ls [.ref v8, .int ((4 : Int32) * a3), .ref v7, .ref q9]) rfl ?_
      by_cases c10 : hKd f q9 = some 4
      · replace h := Eq.trans (if_pos c10).symm h
        replace h := xb h
        obtain ⟨q11, eq11, h⟩ := h
        refine q_callV X Y hl.1 (rest := []) (As := [.ref v7, .int ((4 : Int32) * a3), .ref v8]) (c_X4_cornersOn l G z f q9 v7 ((4 : Int32) * a3) v8 _ eq11) cd_X4_cornersOn lv_X2_51_4 c10 ⟨(Nat.le_of_ble_eq_true rfl), (Nat.le_of_ble_eq_true rfl)⟩ ⟨(Nat.le_of_ble_eq_true rfl), (Nat.le_of_ble_eq_true rfl)⟩ rfl rfl (Nat.le_of_ble_eq_true rfl) dX2_leastCorner_36 (fun H locs Y => ?_)
        refine W.eq (g2 := F0 m 39 ls []) rfl ?_
        refine lv_lload_n hx hb dX2_leastCorner_39 rfl (lv_at hl 1 rfl) ?_
        refine lv_aload_n hx hb dX2_leastCorner_40 rfl (lv_at hl 0 rfl) ?_
        replace h := xb h
        obtain ⟨v12, ev12, h⟩ := h
        refine q_getN X Y fl_X2_18 ev12 dX2_leastCorner_41 ?_
        replace h := xb h
        obtain ⟨q13, eq13, h⟩ := h
        refine q_callSN X Y hl.1 (rest := [.long a1]) (As := [.ref v12]) (c_X10_leastOf l G z q11 v12 _ eq13) cd_X10_leastOf ls_X2_57 ⟨(Nat.le_of_ble_eq_true rfl), (Nat.le_of_ble_eq_true rfl)⟩ ⟨(Nat.le_of_ble_eq_true rfl), (Nat.le_of_ble_eq_true rfl)⟩ rfl rfl (Nat.le_of_ble_eq_true rfl) dX2_leastCorner_44 (fun H locs Y => ?_)
        refine W.eq (g2 := F0 m 47 ls [.long q13, .long a1]) rfl ?_
        replace h := xb h
        obtain ⟨q14, eq14, h⟩ := h
        refine q_callS X Y hl.1 (rest := []) (As := [.long a1, .long q13]) (c_J9_min_f86c9 l G z q11 a1 q13 _ eq14) cd_J9_min_f86c9 ls_X2_93 ⟨(Nat.le_of_ble_eq_true rfl), (Nat.le_of_ble_eq_true rfl)⟩ ⟨(Nat.le_of_ble_eq_true rfl), (Nat.le_of_ble_eq_true rfl)⟩ rfl rfl (Nat.le_of_ble_eq_true rfl) dX2_leastCorner_47 (fun H locs Y => ?_)
        refine W.eq (g2 := F0 m 50 ls [.long q14]) rfl ?_
        refine lv_lstore_n (lv' := [(1, .long q14), (0, .ref a0), (3, .int a3)]) hx hb dX2_leastCorner_50 rfl hl (by decide) rfl (fun ls hl => ?_)
        refine lv_iinc (v := (a3 + 1)) (lv' := [(3, .int (a3 + 1)), (1, .long q14), (0, .ref a0)]) hx hb dX2_leastCorner_51 hl (k := 2) rfl rfl (by decide) rfl (fun ls hl => ?_)
        refine lv_goto (tgt := 6) hx hb dX2_leastCorner_54 (by decide) ?_
        refine W.widen (k := 0) (n := 0) (Nat.le_of_ble_eq_true rfl) (Nat.le_of_ble_eq_true rfl) ?_
        exact hk6 q11 a0 q14 (a3 + 1) _ _ _ h Y (lv_sub hl [2, 1, 0] rfl)
      replace h := Eq.trans (if_neg c10).symm h
      cases h
set_option maxRecDepth 100000 in
set_option maxHeartbeats 4000000 in
theorem lw_X2_leastCorner_6 {p : Program} {l : Launch} {e : Env} {s : State} {m : MethodId} {args : Array Value} {below : List Frame} {meth : Method} {c : Code} {G : xG} {z : Nat} (X : xC G p m c s args RX2 cX2_leastCorner 4) (hr : meth.sig.returnType = (some .long)) (hlocks : meth.locks = false) (hin : meth.name = yX2_leastCorner.name) (rs : Int64 × xHp)  : ∀ (n : Nat) (f : xHp) (a0 : Nat) (a1 : Int64) (a3 : Int32) (H : Heap) (locs : List Loc) (ls : Array Slot), L_X2_leastCorner_6  n f a0 a1 a3 = some rs → xY G z f s H locs → lv_has ls 4 [(0, .ref a0), (1, .long a1), (3, .int a3)] → W p l e rm_X2_leastCorner s m args below meth c H locs 0 0 (MQ below (xQ G (some (.long rs.1)) z rs.2) args s rm_X2_leastCorner.cells rm_X2_leastCorner.slots (xA G)) (F0 m 6 ls []) := by
  intro n
  induction n with
  | zero => intro f a0 a1 a3 H locs ls h Y hl; cases h
  | succ n ih => intro f a0 a1 a3 H locs ls h Y hl; exact w_X2_leastCorner_6 X hr hlocks hin rs _ ih f a0 a1 a3 _ _ _ h Y hl
set_option maxRecDepth 100000 in
set_option maxHeartbeats 4000000 in
theorem c_X2_leastCorner (l : Launch) (G : xG) (z : Nat) (f : xHp) (h0 : Nat) (rs : Int64 × xHp) (h : F_X2_leastCorner f h0 = some rs) : xM G l yX2_leastCorner cX2_leastCorner 4 (some .long) rm_X2_leastCorner [.ref h0] z f (some (.long rs.1)) z rs.2 := by
  refine xM_of (by decide) (Nat.le_of_ble_eq_true rfl) ?_
  intro p e s m below meth c ls X hr hlocks hin Y hl
  have hl : lv_has ls 4 [(0, .ref h0)] := hl
  have hx := X.1.1
  have hb := X.1.2.1
  unfold F_X2_leastCorner at h
  refine lv_ldc2 (v := 9223372036854775807) hx hb X.1.2.2.2.1 (X.1.2.2.2.2 _ xw_406) dX2_leastCorner_0 ?_
  refine lv_lstore_n (lv' := [(1, .long (9223372036854775807 : Int64)), (0, .ref h0)]) hx hb dX2_leastCorner_3 rfl hl (by decide) rfl (fun ls hl => ?_)
  refine lv_iconst (v := 0) hx hb dX2_leastCorner_4 (by decide) ?_
  refine lv_istore_n (lv' := [(3, .int (0 : Int32)), (1, .long (9223372036854775807 : Int64)), (0, .ref h0)]) hx hb dX2_leastCorner_5 rfl hl (by decide) rfl (fun ls hl => ?_)
  refine W.widen (k := 0) (n := 0) (Nat.le_of_ble_eq_true rfl) (Nat.le_of_ble_eq_true rfl) ?_
  exact lw_X2_leastCorner_6 X hr hlocks hin rs  xfuel f h0 (9223372036854775807 : Int64) (0 : Int32) _ _ _ h Y (lv_sub hl [2, 1, 0] rfl)
/-! NeverBelow.least()J -/
abbrev rm_X10_least : Room := { frames := 4, cells := 0, slots := 0, locals := 114 }
def F_X10_least (f : xHp) (h0 : Nat) : Option (Int64 × xHp) := Option.bind (hN f h0 [(9, 4)]) fun v1 => Option.bind (hR f v1 [(2, 3)]) fun v2 => xnul v2 (some ((-9223372036854775808 : Int64), f)) (fun q4 => Option.bind (hN f h0 [(9, 4)]) fun v5 => if hKd f v5 = some 2 then (Option.bind (F_X2_leastCorner f v5) fun q7 => some (q7.1, q7.2)) else none)
set_option maxRecDepth 100000 in
set_option maxHeartbeats 4000000 in
theorem c_X10_least (l : Launch) (G : xG) (z : Nat) (f : xHp) (h0 : Nat) (rs : Int64 × xHp) (h : F_X10_least f h0 = some rs) : xM G l yX10_least cX10_least 1 (some .long) rm_X10_least [.ref h0] z f (some (.long rs.1)) z rs.2 := by
  refine xM_of (by decide) (Nat.le_of_ble_eq_true rfl) ?_
  intro p e s m below meth c ls X hr hlocks hin Y hl
  have hl : lv_has ls 1 [(0, .ref h0)] := hl
  have hx := X.1.1
  have hb := X.1.2.1
  unfold F_X10_least at h
  refine lv_aload_n hx hb dX10_least_0 rfl (lv_at hl 0 rfl) ?_
  replace h := xb h
  obtain ⟨v1, ev1, h⟩ := h
  refine q_getN X Y fl_X10_36 ev1 dX10_least_1 ?_
  replace h := xb h
  obtain ⟨v2, ev2, h⟩ := h
  refine q_getR X Y fl_X10_179 ev2 dX10_least_4 ?_
  refine q_ifnonnull (tgt := 16) hx hb dX10_least_7 (by decide) (fun c3 => ?_) (fun q4 eq4 => ?_)
  · replace h := xn0 h c3
    subst c3
    refine lv_ldc2 (v := -9223372036854775808) hx hb X.1.2.2.2.1 (X.1.2.2.2.2 _ xw_203) dX10_least_10 ?_
    refine lv_goto (tgt := 23) hx hb dX10_least_13 (by decide) ?_
    replace h := Option.some.inj h
    subst h
    exact q_retl X Y hr hlocks (Nat.le_of_ble_eq_true rfl) (Nat.le_of_ble_eq_true rfl) dX10_least_23
  · replace h := xn1 h eq4
    subst eq4
    refine lv_aload_n hx hb dX10_least_16 rfl (lv_at hl 0 rfl) ?_
    replace h := xb h
    obtain ⟨v5, ev5, h⟩ := h
    refine q_getN X Y fl_X10_36 ev5 dX10_least_17 ?_
    by_cases c6 : hKd f v5 = some 2
    · replace h := Eq.trans (if_pos c6).symm h
      replace h := xb h
      obtain ⟨q7, eq7, h⟩ := h
      refine q_callV X Y hl.1 (rest := []) (As := []) (c_X2_leastCorner l G z f v5 _ eq7) cd_X2_leastCorner lv_X10_211_2 c6 ⟨(Nat.le_of_ble_eq_true rfl), (Nat.le_of_ble_eq_true rfl)⟩ ⟨(Nat.le_of_ble_eq_true rfl), (Nat.le_of_ble_eq_true rfl)⟩ rfl rfl (Nat.le_of_ble_eq_true rfl) dX10_least_20 (fun H locs Y => ?_)
      refine W.eq (g2 := F0 m 23 ls [.long q7.1]) rfl ?_
      replace h := Option.some.inj h
      subst h
      exact q_retl X Y hr hlocks (Nat.le_of_ble_eq_true rfl) (Nat.le_of_ble_eq_true rfl) dX10_least_23
    replace h := Eq.trans (if_neg c6).symm h
    cases h
/-! NeverBelow$Polynomial.formNumber(II)J -/
abbrev rm_X4_formNumber : Room := { frames := 0, cells := 0, slots := 0, locals := 0 }
def F_X4_formNumber (f : xHp) (h0 : Nat) (p1 : Int32) (p2 : Int32) : Option (Int64) := Option.bind (hN f h0 [(4, 0)]) fun v1 => Option.bind (hSt 1 (((3 : Int32) * p1) + p2)) fun v2 => Option.bind (hJld f v1 v2) fun v3 => if p1 = p2 then (some ((2 : Int64) * v3)) else (some v3)
set_option maxRecDepth 100000 in
set_option maxHeartbeats 4000000 in
theorem c_X4_formNumber (l : Launch) (G : xG) (z : Nat) (f : xHp) (h0 : Nat) (p1 : Int32) (p2 : Int32) (rs : Int64) (h : F_X4_formNumber f h0 p1 p2 = some rs) : xM G l yX4_formNumber cX4_formNumber 5 (some .long) rm_X4_formNumber [.ref h0, .int p1, .int p2] z f (some (.long rs)) z f := by
  refine xM_of (by decide) (Nat.le_of_ble_eq_true rfl) ?_
  intro p e s m below meth c ls X hr hlocks hin Y hl
  have hl : lv_has ls 5 [(0, .ref h0), (1, .int p1), (2, .int p2)] := hl
  have hx := X.1.1
  have hb := X.1.2.1
  unfold F_X4_formNumber at h
  refine lv_aload_n hx hb dX4_formNumber_0 rfl (lv_at hl 0 rfl) ?_
  replace h := xb h
  obtain ⟨v1, ev1, h⟩ := h
  refine q_getN X Y fl_X4_9 ev1 dX4_formNumber_1 ?_
  refine q_sget (k := 1) X Y (by decide) xw_420 dX4_formNumber_4 ?_
  refine lv_iconst (v := 3) hx hb dX4_formNumber_7 (by decide) ?_
  refine lv_iload_n hx hb dX4_formNumber_8 rfl (lv_at hl 1 rfl) ?_
  refine lv_imul hx hb dX4_formNumber_9 ?_
  refine lv_iload_n hx hb dX4_formNumber_10 rfl (lv_at hl 2 rfl) ?_
  refine lv_iadd hx hb dX4_formNumber_11 ?_
  replace h := xb h
  obtain ⟨v2, ev2, h⟩ := h
  refine q_sld (k := 1) X Y (by decide) ev2 dX4_formNumber_12 ?_
  replace h := xb h
  obtain ⟨v3, ev3, h⟩ := h
  refine q_lald X Y ev3 dX4_formNumber_13 ?_
  refine lv_lstore_n (lv' := [(3, .long v3), (0, .ref h0), (1, .int p1), (2, .int p2)]) hx hb dX4_formNumber_14 rfl hl (by decide) rfl (fun ls hl => ?_)
  refine lv_iload_n hx hb dX4_formNumber_15 rfl (lv_at hl 2 rfl) ?_
  refine lv_iload_n hx hb dX4_formNumber_16 rfl (lv_at hl 3 rfl) ?_
  refine lv_icmp_ne (tgt := 28) hx hb dX4_formNumber_17 (by decide) (fun c4 => ?_) (fun c4 => ?_)
  · replace h := Eq.trans (if_neg c4).symm h
    refine lv_lload_n hx hb dX4_formNumber_28 rfl (lv_at hl 0 rfl) ?_
    replace h := Option.some.inj h
    subst h
    exact q_retl X Y hr hlocks (Nat.le_of_ble_eq_true rfl) (Nat.le_of_ble_eq_true rfl) dX4_formNumber_29
  · replace h := Eq.trans (if_pos c4).symm h
    refine lv_ldc2 (v := 2) hx hb X.1.2.2.2.1 (X.1.2.2.2.2 _ xw_277) dX4_formNumber_20 ?_
    refine lv_lload_n hx hb dX4_formNumber_23 rfl (lv_at hl 0 rfl) ?_
    refine lv_lmul hx hb dX4_formNumber_24 ?_
    refine lv_goto (tgt := 29) hx hb dX4_formNumber_25 (by decide) ?_
    replace h := Option.some.inj h
    subst h
    exact q_retl X Y hr hlocks (Nat.le_of_ble_eq_true rfl) (Nat.le_of_ble_eq_true rfl) dX4_formNumber_29
/-! NeverBelow$Polynomial.isForm()Z -/
abbrev rm_X4_isForm : Room := { frames := 0, cells := 0, slots := 0, locals := 0 }
def F_X4_isForm (f : xHp) (h0 : Nat) : Option (Int32) := Option.bind (hN f h0 [(4, 0)]) fun v1 => Option.bind (hJld f v1 (5 : Int32)) fun v2 => if v2 = (0 : Int64) then (Option.bind (hN f h0 [(4, 0)]) fun v4 => Option.bind (hJld f v4 (7 : Int32)) fun v5 => if v5 = (0 : Int64) then (Option.bind (hN f h0 [(4, 0)]) fun v7 => Option.bind (hJld f v7 (8 : Int32)) fun v8 => if v8 = (0 : Int64) then (some (1 : Int32)) else (some (0 : Int32))) else (some (0 : Int32))) else (some (0 : Int32))
set_option maxRecDepth 100000 in
set_option maxHeartbeats 4000000 in
theorem c_X4_isForm (l : Launch) (G : xG) (z : Nat) (f : xHp) (h0 : Nat) (rs : Int32) (h : F_X4_isForm f h0 = some rs) : xM G l yX4_isForm cX4_isForm 1 (some .boolean) rm_X4_isForm [.ref h0] z f (some (.int rs)) z f := by
  refine xM_of (by decide) (Nat.le_of_ble_eq_true rfl) ?_
  intro p e s m below meth c ls X hr hlocks hin Y hl
  have hl : lv_has ls 1 [(0, .ref h0)] := hl
  have hx := X.1.1
  have hb := X.1.2.1
  unfold F_X4_isForm at h
  refine lv_aload_n hx hb dX4_isForm_0 rfl (lv_at hl 0 rfl) ?_
  replace h := xb h
  obtain ⟨v1, ev1, h⟩ := h
  refine q_getN X Y fl_X4_9 ev1 dX4_isForm_1 ?_
  refine lv_iconst (v := 5) hx hb dX4_isForm_4 (by decide) ?_
  replace h := xb h
  obtain ⟨v2, ev2, h⟩ := h
  refine q_lald X Y ev2 dX4_isForm_5 ?_
  refine lv_lconst (v := 0) hx hb dX4_isForm_6 (by decide) ?_
  refine q_lcmp_ne (tgt := 39) hx hb dX4_isForm_7 dX4_isForm_8 (by decide) (fun c3 => ?_) (fun c3 => ?_)
  · replace h := Eq.trans (if_neg c3).symm h
    refine lv_iconst (v := 0) hx hb dX4_isForm_39 (by decide) ?_
    replace h := Option.some.inj h
    subst h
    exact q_retz (v := (0 : Int32)) X Y hr hlocks rfl (Nat.le_of_ble_eq_true rfl) (Nat.le_of_ble_eq_true rfl) dX4_isForm_40
  · replace h := Eq.trans (if_pos c3).symm h
    refine lv_aload_n hx hb dX4_isForm_11 rfl (lv_at hl 0 rfl) ?_
    replace h := xb h
    obtain ⟨v4, ev4, h⟩ := h
    refine q_getN X Y fl_X4_9 ev4 dX4_isForm_12 ?_
    refine lv_bipush (v := 7) hx hb dX4_isForm_15 (by decide) ?_
    replace h := xb h
    obtain ⟨v5, ev5, h⟩ := h
    refine q_lald X Y ev5 dX4_isForm_17 ?_
    refine lv_lconst (v := 0) hx hb dX4_isForm_18 (by decide) ?_
    refine q_lcmp_ne (tgt := 39) hx hb dX4_isForm_19 dX4_isForm_20 (by decide) (fun c6 => ?_) (fun c6 => ?_)
    · replace h := Eq.trans (if_neg c6).symm h
      refine lv_iconst (v := 0) hx hb dX4_isForm_39 (by decide) ?_
      replace h := Option.some.inj h
      subst h
      exact q_retz (v := (0 : Int32)) X Y hr hlocks rfl (Nat.le_of_ble_eq_true rfl) (Nat.le_of_ble_eq_true rfl) dX4_isForm_40
    · replace h := Eq.trans (if_pos c6).symm h
      refine lv_aload_n hx hb dX4_isForm_23 rfl (lv_at hl 0 rfl) ?_
      replace h := xb h
      obtain ⟨v7, ev7, h⟩ := h
      refine q_getN X Y fl_X4_9 ev7 dX4_isForm_24 ?_
      refine lv_bipush (v := 8) hx hb dX4_isForm_27 (by decide) ?_
      replace h := xb h
      obtain ⟨v8, ev8, h⟩ := h
      refine q_lald X Y ev8 dX4_isForm_29 ?_
      refine lv_lconst (v := 0) hx hb dX4_isForm_30 (by decide) ?_
      refine q_lcmp_ne (tgt := 39) hx hb dX4_isForm_31 dX4_isForm_32 (by decide) (fun c9 => ?_) (fun c9 => ?_)
      · replace h := Eq.trans (if_neg c9).symm h
        refine lv_iconst (v := 0) hx hb dX4_isForm_39 (by decide) ?_
        replace h := Option.some.inj h
        subst h
        exact q_retz (v := (0 : Int32)) X Y hr hlocks rfl (Nat.le_of_ble_eq_true rfl) (Nat.le_of_ble_eq_true rfl) dX4_isForm_40
      · replace h := Eq.trans (if_pos c9).symm h
        refine lv_iconst (v := 1) hx hb dX4_isForm_35 (by decide) ?_
        refine lv_goto (tgt := 40) hx hb dX4_isForm_36 (by decide) ?_
        replace h := Option.some.inj h
        subst h
        exact q_retz (v := (1 : Int32)) X Y hr hlocks rfl (Nat.le_of_ble_eq_true rfl) (Nat.le_of_ble_eq_true rfl) dX4_isForm_40
/-! NeverBelow.form(III)J -/
abbrev rm_X10_form : Room := { frames := 1, cells := 0, slots := 0, locals := 24 }
def F_X10_form_38 (f : xHp)    : Option (Int64) := some (-9223372036854775808 : Int64)
def F_X10_form (f : xHp) (h0 : Nat) (p1 : Int32) (p2 : Int32) (p3 : Int32) : Option (Int64) := if hKd f h0 = some 9 then (Option.bind (F_X10_polynomialOf f h0 p1) fun q2 => xnul q2 (F_X10_form_38 f) (fun q4 => if p2 < 0 then (F_X10_form_38 f) else (if (2 : Int32) < p2 then (F_X10_form_38 f) else (if p3 < 0 then (F_X10_form_38 f) else (if (2 : Int32) < p3 then (F_X10_form_38 f) else (if hKd f q4 = some 4 then (Option.bind (F_X4_isForm f q4) fun q10 => if q10 = 0 then (F_X10_form_38 f) else (if hKd f q4 = some 4 then (Option.bind (F_X4_formNumber f q4 p2 p3) fun q13 => some q13) else none)) else none)))))) else none
set_option maxRecDepth 100000 in
set_option maxHeartbeats 4000000 in
theorem w_X10_form_38 {p : Program} {l : Launch} {e : Env} {s : State} {m : MethodId} {args : Array Value} {below : List Frame} {meth : Method} {c : Code} {G : xG} {z : Nat} {f : xHp} (X : xC G p m c s args RX10 cX10_form 5) (hr : meth.sig.returnType = (some .long)) (hlocks : meth.locks = false) (hin : meth.name = yX10_form.name) (rs : Int64)   (H : Heap) (locs : List Loc) (ls : Array Slot) (h : F_X10_form_38 f   = some rs) (Y : xY G z f s H locs) (hl : lv_has ls 5 []) : W p l e rm_X10_form s m args below meth c H locs 0 0 (MQ below (xQ G (some (.long rs)) z f) args s rm_X10_form.cells rm_X10_form.slots (xA G)) (F0 m 38 ls []) := by
  have hx := X.1.1
  have hb := X.1.2.1
  unfold F_X10_form_38 at h
  refine lv_ldc2 (v := -9223372036854775808) hx hb X.1.2.2.2.1 (X.1.2.2.2.2 _ xw_203) dX10_form_38 ?_
  replace h := Option.some.inj h
  subst h
  exact q_retl X Y hr hlocks (Nat.le_of_ble_eq_true rfl) (Nat.le_of_ble_eq_true rfl) dX10_form_41
set_option maxRecDepth 100000 in
set_option maxHeartbeats 4000000 in
theorem c_X10_form (l : Launch) (G : xG) (z : Nat) (f : xHp) (h0 : Nat) (p1 : Int32) (p2 : Int32) (p3 : Int32) (rs : Int64) (h : F_X10_form f h0 p1 p2 p3 = some rs) : xM G l yX10_form cX10_form 5 (some .long) rm_X10_form [.ref h0, .int p1, .int p2, .int p3] z f (some (.long rs)) z f := by
  refine xM_of (by decide) (Nat.le_of_ble_eq_true rfl) ?_
  intro p e s m below meth c ls X hr hlocks hin Y hl
  have hl : lv_has ls 5 [(0, .ref h0), (1, .int p1), (2, .int p2), (3, .int p3)] := hl
  have hx := X.1.1
  have hb := X.1.2.1
  unfold F_X10_form at h
  refine lv_aload_n hx hb dX10_form_0 rfl (lv_at hl 0 rfl) ?_
  refine lv_iload_n hx hb dX10_form_1 rfl (lv_at hl 1 rfl) ?_
  by_cases c1 : hKd f h0 = some 9
  · replace h := Eq.trans (if_pos c1).symm h
    replace h := xb h
    obtain ⟨q2, eq2, h⟩ := h
    refine q_callV X Y hl.1 (rest := []) (As := [.int p1]) (c_X10_polynomialOf l G z f h0 p1 _ eq2) cd_X10_polynomialOf lv_X10_95_9 c1 ⟨(Nat.le_of_ble_eq_true rfl), (Nat.le_of_ble_eq_true rfl)⟩ ⟨(Nat.le_of_ble_eq_true rfl), (Nat.le_of_ble_eq_true rfl)⟩ rfl rfl (Nat.le_of_ble_eq_true rfl) dX10_form_2 (fun H locs Y => ?_)
    refine W.eq (g2 := F0 m 5 ls [va_rf q2]) rfl ?_
    refine q_astore (lv' := [(4, va_rf q2), (0, .ref h0), (1, .int p1), (2, .int p2), (3, .int p3)]) hx hb dX10_form_5 hl (by decide) rfl (fun ls hl => ?_)
    refine q_aload hx hb dX10_form_7 (lv_at hl 0 rfl) ?_
    refine q_ifnull (tgt := 38) hx hb dX10_form_9 (by decide) (fun c3 => ?_) (fun q4 eq4 => ?_)
    · replace h := xn0 h c3
      subst c3
      have hl : lv_has ls 5 [(4, .null), (0, .ref h0), (1, .int p1), (2, .int p2), (3, .int p3)] := hl
      refine W.widen (k := 0) (n := 0) (Nat.le_of_ble_eq_true rfl) (Nat.le_of_ble_eq_true rfl) ?_
      exact w_X10_form_38 X hr hlocks hin rs    _ _ _ h Y (lv_sub hl [] rfl)
    · replace h := xn1 h eq4
      subst eq4
      have hl : lv_has ls 5 [(4, .ref q4), (0, .ref h0), (1, .int p1), (2, .int p2), (3, .int p3)] := hl
      refine lv_iload_n hx hb dX10_form_12 rfl (lv_at hl 3 rfl) ?_
      refine lv_if_lt (tgt := 38) hx hb dX10_form_13 (by decide) (fun c5 => ?_) (fun c5 => ?_)
      · replace h := Eq.trans (if_pos c5).symm h
        refine W.widen (k := 0) (n := 0) (Nat.le_of_ble_eq_true rfl) (Nat.le_of_ble_eq_true rfl) ?_
        exact w_X10_form_38 X hr hlocks hin rs    _ _ _ h Y (lv_sub hl [] rfl)
      · replace h := Eq.trans (if_neg c5).symm h
        refine lv_iload_n hx hb dX10_form_16 rfl (lv_at hl 3 rfl) ?_
        refine lv_iconst (v := 2) hx hb dX10_form_17 (by decide) ?_
        refine lv_icmp_gt (tgt := 38) hx hb dX10_form_18 (by decide) (fun c6 => ?_) (fun c6 => ?_)
        · replace h := Eq.trans (if_pos c6).symm h
          refine W.widen (k := 0) (n := 0) (Nat.le_of_ble_eq_true rfl) (Nat.le_of_ble_eq_true rfl) ?_
          exact w_X10_form_38 X hr hlocks hin rs    _ _ _ h Y (lv_sub hl [] rfl)
        · replace h := Eq.trans (if_neg c6).symm h
          refine lv_iload_n hx hb dX10_form_21 rfl (lv_at hl 4 rfl) ?_
          refine lv_if_lt (tgt := 38) hx hb dX10_form_22 (by decide) (fun c7 => ?_) (fun c7 => ?_)
          · replace h := Eq.trans (if_pos c7).symm h
            refine W.widen (k := 0) (n := 0) (Nat.le_of_ble_eq_true rfl) (Nat.le_of_ble_eq_true rfl) ?_
            exact w_X10_form_38 X hr hlocks hin rs    _ _ _ h Y (lv_sub hl [] rfl)
          · replace h := Eq.trans (if_neg c7).symm h
            refine lv_iload_n hx hb dX10_form_25 rfl (lv_at hl 4 rfl) ?_
            refine lv_iconst (v := 2) hx hb dX10_form_26 (by decide) ?_
            refine lv_icmp_gt (tgt := 38) hx hb dX10_form_27 (by decide) (fun c8 => ?_) (fun c8 => ?_)
            · replace h := Eq.trans (if_pos c8).symm h
              refine W.widen (k := 0) (n := 0) (Nat.le_of_ble_eq_true rfl) (Nat.le_of_ble_eq_true rfl) ?_
              exact w_X10_form_38 X hr hlocks hin rs    _ _ _ h Y (lv_sub hl [] rfl)
            · replace h := Eq.trans (if_neg c8).symm h
              refine lv_aload hx hb dX10_form_30 (lv_at hl 0 rfl) ?_
              by_cases c9 : hKd f q4 = some 4
              · replace h := Eq.trans (if_pos c9).symm h
                replace h := xb h
                obtain ⟨q10, eq10, h⟩ := h
                refine q_callV X Y hl.1 (rest := []) (As := []) (c_X4_isForm l G z f q4 _ eq10) cd_X4_isForm lv_X10_215_4 c9 ⟨(Nat.le_of_ble_eq_true rfl), (Nat.le_of_ble_eq_true rfl)⟩ ⟨(Nat.le_of_ble_eq_true rfl), (Nat.le_of_ble_eq_true rfl)⟩ rfl rfl (Nat.le_of_ble_eq_true rfl) dX10_form_32 (fun H locs Y => ?_)
                refine W.eq (g2 := F0 m 35 ls [.int q10]) rfl ?_
                refine lv_if_ne (tgt := 42) hx hb dX10_form_35 (by decide) (fun c11 => ?_) (fun c11 => ?_)
                · replace h := Eq.trans (if_neg c11).symm h
                  refine lv_aload hx hb dX10_form_42 (lv_at hl 0 rfl) ?_
                  refine lv_iload_n hx hb dX10_form_44 rfl (lv_at hl 3 rfl) ?_
                  refine lv_iload_n hx hb dX10_form_45 rfl (lv_at hl 4 rfl) ?_
                  by_cases c12 : hKd f q4 = some 4
                  · replace h := Eq.trans (if_pos c12).symm h
                    replace h := xb h
                    obtain ⟨q13, eq13, h⟩ := h
                    refine q_callV X Y hl.1 (rest := []) (As := [.int p2, .int p3]) (c_X4_formNumber l G z f q4 p2 p3 _ eq13) cd_X4_formNumber lv_X10_219_4 c12 ⟨(Nat.le_of_ble_eq_true rfl), (Nat.le_of_ble_eq_true rfl)⟩ ⟨(Nat.le_of_ble_eq_true rfl), (Nat.le_of_ble_eq_true rfl)⟩ rfl rfl (Nat.le_of_ble_eq_true rfl) dX10_form_46 (fun H locs Y => ?_)
                    refine W.eq (g2 := F0 m 49 ls [.long q13]) rfl ?_
                    replace h := Option.some.inj h
                    subst h
                    exact q_retl X Y hr hlocks (Nat.le_of_ble_eq_true rfl) (Nat.le_of_ble_eq_true rfl) dX10_form_49
                  replace h := Eq.trans (if_neg c12).symm h
                  cases h
                · replace h := Eq.trans (if_pos c11).symm h
                  refine W.widen (k := 0) (n := 0) (Nat.le_of_ble_eq_true rfl) (Nat.le_of_ble_eq_true rfl) ?_
                  exact w_X10_form_38 X hr hlocks hin rs    _ _ _ h Y (lv_sub hl [] rfl)
              replace h := Eq.trans (if_neg c9).symm h
              cases h
  replace h := Eq.trans (if_neg c1).symm h
  cases h
/-! NeverBelow.keepProof(LNeverBelow$Proof;)I -/
abbrev rm_X10_keepProof : Room := { frames := 0, cells := 0, slots := 0, locals := 0 }
def F_X10_keepProof (f : xHp) (h0 : Nat) (p1 : Nat) : Option (Int32 × xHp) := Option.bind (hI f h0 [(9, 8)]) fun v1 => if v1 < (40 : Int32) then (Option.bind (hN f h0 [(9, 3)]) fun v3 => Option.bind (hI f h0 [(9, 8)]) fun v4 => Option.bind (hRst f v3 v4 p1) fun f5 => Option.bind (hI f5 h0 [(9, 8)]) fun v6 => Option.bind (hPut f5 h0 [(9, 8)] (.int (v6 + (1 : Int32)))) fun f7 => some (v6, f7)) else (some ((-4 : Int32), f))
set_option maxRecDepth 100000 in
set_option maxHeartbeats 4000000 in
theorem c_X10_keepProof (l : Launch) (G : xG) (z : Nat) (f : xHp) (h0 : Nat) (p1 : Nat) (rs : Int32 × xHp) (h : F_X10_keepProof f h0 p1 = some rs) : xM G l yX10_keepProof cX10_keepProof 2 (some .int) rm_X10_keepProof [.ref h0, .ref p1] z f (some (.int rs.1)) z rs.2 := by
  refine xM_of (by decide) (Nat.le_of_ble_eq_true rfl) ?_
  intro p e s m below meth c ls X hr hlocks hin Y hl
  have hl : lv_has ls 2 [(0, .ref h0), (1, .ref p1)] := hl
  have hx := X.1.1
  have hb := X.1.2.1
  unfold F_X10_keepProof at h
  refine lv_aload_n hx hb dX10_keepProof_0 rfl (lv_at hl 0 rfl) ?_
  replace h := xb h
  obtain ⟨v1, ev1, h⟩ := h
  refine q_getI X Y fl_X10_308 ev1 dX10_keepProof_1 ?_
  refine lv_bipush (v := 40) hx hb dX10_keepProof_4 (by decide) ?_
  refine lv_icmp_lt (tgt := 12) hx hb dX10_keepProof_6 (by decide) (fun c2 => ?_) (fun c2 => ?_)
  · replace h := Eq.trans (if_pos c2).symm h
    refine lv_aload_n hx hb dX10_keepProof_12 rfl (lv_at hl 0 rfl) ?_
    replace h := xb h
    obtain ⟨v3, ev3, h⟩ := h
    refine q_getN X Y fl_X10_29 ev3 dX10_keepProof_13 ?_
    refine lv_aload_n hx hb dX10_keepProof_16 rfl (lv_at hl 0 rfl) ?_
    replace h := xb h
    obtain ⟨v4, ev4, h⟩ := h
    refine q_getI X Y fl_X10_308 ev4 dX10_keepProof_17 ?_
    refine lv_aload_n hx hb dX10_keepProof_20 rfl (lv_at hl 1 rfl) ?_
    replace h := xb h
    obtain ⟨f5, ef5, h⟩ := h
    refine q_aast X Y xw_1254 xw_1255 xw_1256 xw_1253 ef5 dX10_keepProof_21 (fun H locs Y => ?_)
    refine lv_aload_n hx hb dX10_keepProof_22 rfl (lv_at hl 0 rfl) ?_
    refine lv_dup hx hb dX10_keepProof_23 rfl ?_
    replace h := xb h
    obtain ⟨v6, ev6, h⟩ := h
    refine q_getI X Y fl_X10_308 ev6 dX10_keepProof_24 ?_
    refine lv_dup_x1 hx hb dX10_keepProof_27 rfl rfl ?_
    refine lv_iconst (v := 1) hx hb dX10_keepProof_28 (by decide) ?_
    refine lv_iadd hx hb dX10_keepProof_29 ?_
    replace h := xb h
    obtain ⟨f7, ef7, h⟩ := h
    refine q_put X Y fp_X10_308 rfl rfl ef7 dX10_keepProof_30 (fun H locs Y => ?_)
    replace h := Option.some.inj h
    subst h
    exact q_reti X Y hr hlocks (Nat.le_of_ble_eq_true rfl) (Nat.le_of_ble_eq_true rfl) dX10_keepProof_33
  · replace h := Eq.trans (if_neg c2).symm h
    refine lv_bipush (v := -4) hx hb dX10_keepProof_9 (by decide) ?_
    replace h := Option.some.inj h
    subst h
    exact q_reti X Y hr hlocks (Nat.le_of_ble_eq_true rfl) (Nat.le_of_ble_eq_true rfl) dX10_keepProof_11
/-! NeverBelow$Polynomial.clearBehind([JIJ)V -/
abbrev rm_X4_clearBehind : Room := { frames := 0, cells := 0, slots := 0, locals := 0 }
def F_X4_clearBehind_23 (k12 : xHp → Nat → Int32 → Int64 → Int64 → Int32 → Option (xHp)) (k23 : xHp → Nat → Int32 → Int64 → Int64 → Int32 → Int32 → Option (xHp)) (f : xHp) (a0 : Nat) (a1 : Int32) (a2 : Int64) (a4 : Int64) (a6 : Int32) (a7 : Int32) : Option (xHp) := if (3 : Int32) ≤ a7 then (k12 f a0 a1 a2 a4 (a6 + 1)) else (Option.bind (hJld f a0 (((3 : Int32) * a6) + a7)) fun v2 => Option.bind (hJld f a0 (((3 : Int32) * a6) + a1)) fun v3 => Option.bind (hJld f a0 (((3 : Int32) * a1) + a7)) fun v4 => if a2 = 0 then none else Option.bind (hJst f a0 (((3 : Int32) * a6) + a7) (((v2 * a4) - (v3 * v4)) / a2)) fun f6 => k23 f6 a0 a1 a2 a4 a6 (a7 + 1))
def L_X4_clearBehind_23 (k12 : xHp → Nat → Int32 → Int64 → Int64 → Int32 → Option (xHp)) : Nat → xHp → Nat → Int32 → Int64 → Int64 → Int32 → Int32 → Option (xHp)
  | 0, _, _, _, _, _, _, _ => none
  | n + 1, f, a0, a1, a2, a4, a6, a7 => F_X4_clearBehind_23 k12 (L_X4_clearBehind_23 k12 n) f a0 a1 a2 a4 a6 a7
def F_X4_clearBehind_12 (k12 : xHp → Nat → Int32 → Int64 → Int64 → Int32 → Option (xHp)) (f : xHp) (a0 : Nat) (a1 : Int32) (a2 : Int64) (a4 : Int64) (a6 : Int32) : Option (xHp) := if (3 : Int32) ≤ a6 then (some f) else (L_X4_clearBehind_23 k12 xfuel f a0 a1 a2 a4 a6 (a1 + (1 : Int32)))
def L_X4_clearBehind_12  : Nat → xHp → Nat → Int32 → Int64 → Int64 → Int32 → Option (xHp)
  | 0, _, _, _, _, _, _ => none
  | n + 1, f, a0, a1, a2, a4, a6 => F_X4_clearBehind_12 (L_X4_clearBehind_12  n) f a0 a1 a2 a4 a6
def F_X4_clearBehind (f : xHp) (p0 : Nat) (p1 : Int32) (p2 : Int64) : Option (xHp) := Option.bind (hJld f p0 ((4 : Int32) * p1)) fun v1 => L_X4_clearBehind_12 xfuel f p0 p1 p2 v1 (p1 + (1 : Int32))
set_option maxRecDepth 100000 in
set_option maxHeartbeats 4000000 in
theorem w_X4_clearBehind_23 {p : Program} {l : Launch} {e : Env} {s : State} {m : MethodId} {args : Array Value} {below : List Frame} {meth : Method} {c : Code} {G : xG} {z : Nat} (X : xC G p m c s args RX4 cX4_clearBehind 8) (hr : meth.sig.returnType = none) (hlocks : meth.locks = false) (hin : meth.name = yX4_clearBehind.name) (rs : xHp) (k12 : xHp → Nat → Int32 → Int64 → Int64 → Int32 → Option (xHp)) (hk12 : ∀ (f : xHp) (a0 : Nat) (a1 : Int32) (a2 : Int64) (a4 : Int64) (a6 : Int32) (H : Heap) (locs : List Loc) (ls : Array Slot), k12 f a0 a1 a2 a4 a6 = some rs → xY G z f s H locs → lv_has ls 8 [(0, .ref a0), (1, .int a1), (2, .long a2), (4, .long a4), (6, .int a6)] → W p l e rm_X4_clearBehind s m args below meth c H locs 0 0 (MQ below (xQ G none z rs) args s rm_X4_clearBehind.cells rm_X4_clearBehind.slots (xA G)) (F0 m 12 ls [])) (k23 : xHp → Nat → Int32 → Int64 → Int64 → Int32 → Int32 → Option (xHp)) (hk23 : ∀ (f : xHp) (a0 : Nat) (a1 : Int32) (a2 : Int64) (a4 : Int64) (a6 : Int32) (a7 : Int32) (H : Heap) (locs : List Loc) (ls : Array Slot), k23 f a0 a1 a2 a4 a6 a7 = some rs → xY G z f s H locs → lv_has ls 8 [(0, .ref a0), (1, .int a1), (2, .long a2), (4, .long a4), (6, .int a6), (7, .int a7)] → W p l e rm_X4_clearBehind s m args below meth c H locs 0 0 (MQ below (xQ G none z rs) args s rm_X4_clearBehind.cells rm_X4_clearBehind.slots (xA G)) (F0 m 23 ls [])) (f : xHp) (a0 : Nat) (a1 : Int32) (a2 : Int64) (a4 : Int64) (a6 : Int32) (a7 : Int32) (H : Heap) (locs : List Loc) (ls : Array Slot) (h : F_X4_clearBehind_23 k12 k23 f a0 a1 a2 a4 a6 a7 = some rs) (Y : xY G z f s H locs) (hl : lv_has ls 8 [(0, .ref a0), (1, .int a1), (2, .long a2), (4, .long a4), (6, .int a6), (7, .int a7)]) : W p l e rm_X4_clearBehind s m args below meth c H locs 0 0 (MQ below (xQ G none z rs) args s rm_X4_clearBehind.cells rm_X4_clearBehind.slots (xA G)) (F0 m 23 ls []) := by
  have hx := X.1.1
  have hb := X.1.2.1
  unfold F_X4_clearBehind_23 at h
  refine lv_iload hx hb dX4_clearBehind_23 (lv_at hl 5 rfl) ?_
  refine lv_iconst (v := 3) hx hb dX4_clearBehind_25 (by decide) ?_
  refine lv_icmp_ge (tgt := 76) hx hb dX4_clearBehind_26 (by decide) (fun c1 => ?_) (fun c1 => ?_)
  · replace h := Eq.trans (if_pos c1).symm h
    refine lv_iinc (v := (a6 + 1)) (lv' := [(6, .int (a6 + 1)), (0, .ref a0), (1, .int a1), (2, .long a2), (4, .long a4), (7, .int a7)]) hx hb dX4_clearBehind_76 hl (k := 4) rfl rfl (by decide) rfl (fun ls hl => ?_)
    refine lv_goto (tgt := 12) hx hb dX4_clearBehind_79 (by decide) ?_
    refine W.widen (k := 0) (n := 0) (Nat.le_of_ble_eq_true rfl) (Nat.le_of_ble_eq_true rfl) ?_
    exact hk12 f a0 a1 a2 a4 (a6 + 1) _ _ _ h Y (lv_sub hl [1, 2, 3, 4, 0] rfl)
  · replace h := Eq.trans (if_neg c1).symm h
    refine lv_aload_n hx hb dX4_clearBehind_29 rfl (lv_at hl 0 rfl) ?_
    refine lv_iconst (v := 3) hx hb dX4_clearBehind_30 (by decide) ?_
    refine lv_iload hx hb dX4_clearBehind_31 (lv_at hl 4 rfl) ?_
    refine lv_imul hx hb dX4_clearBehind_33 ?_
    refine lv_iload hx hb dX4_clearBehind_34 (lv_at hl 5 rfl) ?_
    refine lv_iadd hx hb dX4_clearBehind_36 ?_
    refine lv_aload_n hx hb dX4_clearBehind_37 rfl (lv_at hl 0 rfl) ?_
    refine lv_iconst (v := 3) hx hb dX4_clearBehind_38 (by decide) ?_
    refine lv_iload hx hb dX4_clearBehind_39 (lv_at hl 4 rfl) ?_
    refine lv_imul hx hb dX4_clearBehind_41 ?_
    refine lv_iload hx hb dX4_clearBehind_42 (lv_at hl 5 rfl) ?_
    refine lv_iadd hx hb dX4_clearBehind_44 ?_
    replace h := xb h
    obtain ⟨v2, ev2, h⟩ := h
    refine q_lald X Y ev2 dX4_clearBehind_45 ?_
    refine lv_lload hx hb dX4_clearBehind_46 (lv_at hl 3 rfl) ?_
    refine lv_lmul hx hb dX4_clearBehind_48 ?_
    refine lv_aload_n hx hb dX4_clearBehind_49 rfl (lv_at hl 0 rfl) ?_
    refine lv_iconst (v := 3) hx hb dX4_clearBehind_50 (by decide) ?_
    refine lv_iload hx hb dX4_clearBehind_51 (lv_at hl 4 rfl) ?_
    refine lv_imul hx hb dX4_clearBehind_53 ?_
    refine lv_iload_n hx hb dX4_clearBehind_54 rfl (lv_at hl 1 rfl) ?_
    refine lv_iadd hx hb dX4_clearBehind_55 ?_
    replace h := xb h
    obtain ⟨v3, ev3, h⟩ := h
    refine q_lald X Y ev3 dX4_clearBehind_56 ?_
    refine lv_aload_n hx hb dX4_clearBehind_57 rfl (lv_at hl 0 rfl) ?_
    refine lv_iconst (v := 3) hx hb dX4_clearBehind_58 (by decide) ?_
    refine lv_iload_n hx hb dX4_clearBehind_59 rfl (lv_at hl 1 rfl) ?_
    refine lv_imul hx hb dX4_clearBehind_60 ?_
    refine lv_iload hx hb dX4_clearBehind_61 (lv_at hl 5 rfl) ?_
    refine lv_iadd hx hb dX4_clearBehind_63 ?_
    replace h := xb h
    obtain ⟨v4, ev4, h⟩ := h
    refine q_lald X Y ev4 dX4_clearBehind_64 ?_
    refine lv_lmul hx hb dX4_clearBehind_65 ?_
    refine lv_lsub hx hb dX4_clearBehind_66 ?_
    refine lv_lload_n hx hb dX4_clearBehind_67 rfl (lv_at hl 2 rfl) ?_
    by_cases c5 : a2 = 0
    · exact absurd (Eq.trans (if_pos c5).symm h) (by intro q; cases q)
    replace h := Eq.trans (if_neg c5).symm h
    refine lv_ldiv hx hb dX4_clearBehind_68 c5 ?_
    replace h := xb h
    obtain ⟨f6, ef6, h⟩ := h
    refine q_last X Y ef6 dX4_clearBehind_69 (fun H locs Y => ?_)
    refine lv_iinc (v := (a7 + 1)) (lv' := [(7, .int (a7 + 1)), (0, .ref a0), (1, .int a1), (2, .long a2), (4, .long a4), (6, .int a6)]) hx hb dX4_clearBehind_70 hl (k := 5) rfl rfl (by decide) rfl (fun ls hl => ?_)
    refine lv_goto (tgt := 23) hx hb dX4_clearBehind_73 (by decide) ?_
    refine W.widen (k := 0) (n := 0) (Nat.le_of_ble_eq_true rfl) (Nat.le_of_ble_eq_true rfl) ?_
    exact hk23 f6 a0 a1 a2 a4 a6 (a7 + 1) _ _ _ h Y (lv_sub hl [1, 2, 3, 4, 5, 0] rfl)
set_option maxRecDepth 100000 in
set_option maxHeartbeats 4000000 in
theorem lw_X4_clearBehind_23 {p : Program} {l : Launch} {e : Env} {s : State} {m : MethodId} {args : Array Value} {below : List Frame} {meth : Method} {c : Code} {G : xG} {z : Nat} (X : xC G p m c s args RX4 cX4_clearBehind 8) (hr : meth.sig.returnType = none) (hlocks : meth.locks = false) (hin : meth.name = yX4_clearBehind.name) (rs : xHp) (k12 : xHp → Nat → Int32 → Int64 → Int64 → Int32 → Option (xHp)) (hk12 : ∀ (f : xHp) (a0 : Nat) (a1 : Int32) (a2 : Int64) (a4 : Int64) (a6 : Int32) (H : Heap) (locs : List Loc) (ls : Array Slot), k12 f a0 a1 a2 a4 a6 = some rs → xY G z f s H locs → lv_has ls 8 [(0, .ref a0), (1, .int a1), (2, .long a2), (4, .long a4), (6, .int a6)] → W p l e rm_X4_clearBehind s m args below meth c H locs 0 0 (MQ below (xQ G none z rs) args s rm_X4_clearBehind.cells rm_X4_clearBehind.slots (xA G)) (F0 m 12 ls [])) : ∀ (n : Nat) (f : xHp) (a0 : Nat) (a1 : Int32) (a2 : Int64) (a4 : Int64) (a6 : Int32) (a7 : Int32) (H : Heap) (locs : List Loc) (ls : Array Slot), L_X4_clearBehind_23 k12 n f a0 a1 a2 a4 a6 a7 = some rs → xY G z f s H locs → lv_has ls 8 [(0, .ref a0), (1, .int a1), (2, .long a2), (4, .long a4), (6, .int a6), (7, .int a7)] → W p l e rm_X4_clearBehind s m args below meth c H locs 0 0 (MQ below (xQ G none z rs) args s rm_X4_clearBehind.cells rm_X4_clearBehind.slots (xA G)) (F0 m 23 ls []) := by
  intro n
  induction n with
  | zero => intro f a0 a1 a2 a4 a6 a7 H locs ls h Y hl; cases h
  | succ n ih => intro f a0 a1 a2 a4 a6 a7 H locs ls h Y hl; exact w_X4_clearBehind_23 X hr hlocks hin rs k12 hk12 _ ih f a0 a1 a2 a4 a6 a7 _ _ _ h Y hl
set_option maxRecDepth 100000 in
set_option maxHeartbeats 4000000 in
theorem w_X4_clearBehind_12 {p : Program} {l : Launch} {e : Env} {s : State} {m : MethodId} {args : Array Value} {below : List Frame} {meth : Method} {c : Code} {G : xG} {z : Nat} (X : xC G p m c s args RX4 cX4_clearBehind 8) (hr : meth.sig.returnType = none) (hlocks : meth.locks = false) (hin : meth.name = yX4_clearBehind.name) (rs : xHp) (k12 : xHp → Nat → Int32 → Int64 → Int64 → Int32 → Option (xHp)) (hk12 : ∀ (f : xHp) (a0 : Nat) (a1 : Int32) (a2 : Int64) (a4 : Int64) (a6 : Int32) (H : Heap) (locs : List Loc) (ls : Array Slot), k12 f a0 a1 a2 a4 a6 = some rs → xY G z f s H locs → lv_has ls 8 [(0, .ref a0), (1, .int a1), (2, .long a2), (4, .long a4), (6, .int a6)] → W p l e rm_X4_clearBehind s m args below meth c H locs 0 0 (MQ below (xQ G none z rs) args s rm_X4_clearBehind.cells rm_X4_clearBehind.slots (xA G)) (F0 m 12 ls [])) (f : xHp) (a0 : Nat) (a1 : Int32) (a2 : Int64) (a4 : Int64) (a6 : Int32) (H : Heap) (locs : List Loc) (ls : Array Slot) (h : F_X4_clearBehind_12 k12 f a0 a1 a2 a4 a6 = some rs) (Y : xY G z f s H locs) (hl : lv_has ls 8 [(0, .ref a0), (1, .int a1), (2, .long a2), (4, .long a4), (6, .int a6)]) : W p l e rm_X4_clearBehind s m args below meth c H locs 0 0 (MQ below (xQ G none z rs) args s rm_X4_clearBehind.cells rm_X4_clearBehind.slots (xA G)) (F0 m 12 ls []) := by
  have hx := X.1.1
  have hb := X.1.2.1
  unfold F_X4_clearBehind_12 at h
  refine lv_iload hx hb dX4_clearBehind_12 (lv_at hl 4 rfl) ?_
  refine lv_iconst (v := 3) hx hb dX4_clearBehind_14 (by decide) ?_
  refine lv_icmp_ge (tgt := 82) hx hb dX4_clearBehind_15 (by decide) (fun c1 => ?_) (fun c1 => ?_)
  · replace h := Eq.trans (if_pos c1).symm h
    replace h := Option.some.inj h
    subst h
    exact q_retv X Y hr hlocks (Nat.le_of_ble_eq_true rfl) (Nat.le_of_ble_eq_true rfl) dX4_clearBehind_82
  · replace h := Eq.trans (if_neg c1).symm h
    refine lv_iload_n hx hb dX4_clearBehind_18 rfl (lv_at hl 1 rfl) ?_
    refine lv_iconst (v := 1) hx hb dX4_clearBehind_19 (by decide) ?_
    refine lv_iadd hx hb dX4_clearBehind_20 ?_
    refine lv_istore (lv' := [(7, .int (a1 + (1 : Int32))), (0, .ref a0), (1, .int a1), (2, .long a2), (4, .long a4), (6, .int a6)]) hx hb dX4_clearBehind_21 hl (by decide) rfl (fun ls hl => ?_)
    refine W.widen (k := 0) (n := 0) (Nat.le_of_ble_eq_true rfl) (Nat.le_of_ble_eq_true rfl) ?_
    exact lw_X4_clearBehind_23 X hr hlocks hin rs k12 hk12 xfuel f a0 a1 a2 a4 a6 (a1 + (1 : Int32)) _ _ _ h Y (lv_sub hl [1, 2, 3, 4, 5, 0] rfl)
set_option maxRecDepth 100000 in
set_option maxHeartbeats 4000000 in
theorem lw_X4_clearBehind_12 {p : Program} {l : Launch} {e : Env} {s : State} {m : MethodId} {args : Array Value} {below : List Frame} {meth : Method} {c : Code} {G : xG} {z : Nat} (X : xC G p m c s args RX4 cX4_clearBehind 8) (hr : meth.sig.returnType = none) (hlocks : meth.locks = false) (hin : meth.name = yX4_clearBehind.name) (rs : xHp)  : ∀ (n : Nat) (f : xHp) (a0 : Nat) (a1 : Int32) (a2 : Int64) (a4 : Int64) (a6 : Int32) (H : Heap) (locs : List Loc) (ls : Array Slot), L_X4_clearBehind_12  n f a0 a1 a2 a4 a6 = some rs → xY G z f s H locs → lv_has ls 8 [(0, .ref a0), (1, .int a1), (2, .long a2), (4, .long a4), (6, .int a6)] → W p l e rm_X4_clearBehind s m args below meth c H locs 0 0 (MQ below (xQ G none z rs) args s rm_X4_clearBehind.cells rm_X4_clearBehind.slots (xA G)) (F0 m 12 ls []) := by
  intro n
  induction n with
  | zero => intro f a0 a1 a2 a4 a6 H locs ls h Y hl; cases h
  | succ n ih => intro f a0 a1 a2 a4 a6 H locs ls h Y hl; exact w_X4_clearBehind_12 X hr hlocks hin rs _ ih f a0 a1 a2 a4 a6 _ _ _ h Y hl
set_option maxRecDepth 100000 in
set_option maxHeartbeats 4000000 in
theorem c_X4_clearBehind (l : Launch) (G : xG) (z : Nat) (f : xHp) (p0 : Nat) (p1 : Int32) (p2 : Int64) (rs : xHp) (h : F_X4_clearBehind f p0 p1 p2 = some rs) : xM G l yX4_clearBehind cX4_clearBehind 8 none rm_X4_clearBehind [.ref p0, .int p1, .long p2] z f none z rs := by
  refine xM_of (by decide) (Nat.le_of_ble_eq_true rfl) ?_
  intro p e s m below meth c ls X hr hlocks hin Y hl
  have hl : lv_has ls 8 [(0, .ref p0), (1, .int p1), (2, .long p2)] := hl
  have hx := X.1.1
  have hb := X.1.2.1
  unfold F_X4_clearBehind at h
  refine lv_aload_n hx hb dX4_clearBehind_0 rfl (lv_at hl 0 rfl) ?_
  refine lv_iconst (v := 4) hx hb dX4_clearBehind_1 (by decide) ?_
  refine lv_iload_n hx hb dX4_clearBehind_2 rfl (lv_at hl 1 rfl) ?_
  refine lv_imul hx hb dX4_clearBehind_3 ?_
  replace h := xb h
  obtain ⟨v1, ev1, h⟩ := h
  refine q_lald X Y ev1 dX4_clearBehind_4 ?_
  refine lv_lstore (lv' := [(4, .long v1), (0, .ref p0), (1, .int p1), (2, .long p2)]) hx hb dX4_clearBehind_5 hl (by decide) rfl (fun ls hl => ?_)
  refine lv_iload_n hx hb dX4_clearBehind_7 rfl (lv_at hl 2 rfl) ?_
  refine lv_iconst (v := 1) hx hb dX4_clearBehind_8 (by decide) ?_
  refine lv_iadd hx hb dX4_clearBehind_9 ?_
  refine lv_istore (lv' := [(6, .int (p1 + (1 : Int32))), (4, .long v1), (0, .ref p0), (1, .int p1), (2, .long p2)]) hx hb dX4_clearBehind_10 hl (by decide) rfl (fun ls hl => ?_)
  refine W.widen (k := 0) (n := 0) (Nat.le_of_ble_eq_true rfl) (Nat.le_of_ble_eq_true rfl) ?_
  exact lw_X4_clearBehind_12 X hr hlocks hin rs  xfuel f p0 p1 p2 v1 (p1 + (1 : Int32)) _ _ _ h Y (lv_sub hl [2, 3, 4, 1, 0] rfl)
/-! NeverBelow$Polynomial.hasBehind([JI)Z -/
abbrev rm_X4_hasBehind : Room := { frames := 0, cells := 0, slots := 0, locals := 0 }
def F_X4_hasBehind_4 (f : xHp) (k4 : Nat → Int32 → Int32 → Option (Int32))  (a0 : Nat) (a1 : Int32) (a2 : Int32) : Option (Int32) := if (3 : Int32) ≤ a2 then (some (0 : Int32)) else (Option.bind (hJld f a0 (((3 : Int32) * a1) + a2)) fun v2 => if v2 = (0 : Int64) then (k4 a0 a1 (a2 + 1)) else (some (1 : Int32)))
def L_X4_hasBehind_4 (f : xHp)  : Nat → Nat → Int32 → Int32 → Option (Int32)
  | 0, _, _, _ => none
  | n + 1, a0, a1, a2 => F_X4_hasBehind_4 f (L_X4_hasBehind_4 f  n) a0 a1 a2
def F_X4_hasBehind (f : xHp) (p0 : Nat) (p1 : Int32) : Option (Int32) := L_X4_hasBehind_4 f xfuel p0 p1 (p1 + (1 : Int32))
set_option maxRecDepth 100000 in
set_option maxHeartbeats 4000000 in
theorem w_X4_hasBehind_4 {p : Program} {l : Launch} {e : Env} {s : State} {m : MethodId} {args : Array Value} {below : List Frame} {meth : Method} {c : Code} {G : xG} {z : Nat} {f : xHp} (X : xC G p m c s args RX4 cX4_hasBehind 3) (hr : meth.sig.returnType = (some .boolean)) (hlocks : meth.locks = false) (hin : meth.name = yX4_hasBehind.name) (rs : Int32) (k4 : Nat → Int32 → Int32 → Option (Int32)) (hk4 : ∀ (a0 : Nat) (a1 : Int32) (a2 : Int32) (H : Heap) (locs : List Loc) (ls : Array Slot), k4 a0 a1 a2 = some rs → xY G z f s H locs → lv_has ls 3 [(0, .ref a0), (1, .int a1), (2, .int a2)] → W p l e rm_X4_hasBehind s m args below meth c H locs 0 0 (MQ below (xQ G (some (.int rs)) z f) args s rm_X4_hasBehind.cells rm_X4_hasBehind.slots (xA G)) (F0 m 4 ls [])) (a0 : Nat) (a1 : Int32) (a2 : Int32) (H : Heap) (locs : List Loc) (ls : Array Slot) (h : F_X4_hasBehind_4 f k4 a0 a1 a2 = some rs) (Y : xY G z f s H locs) (hl : lv_has ls 3 [(0, .ref a0), (1, .int a1), (2, .int a2)]) : W p l e rm_X4_hasBehind s m args below meth c H locs 0 0 (MQ below (xQ G (some (.int rs)) z f) args s rm_X4_hasBehind.cells rm_X4_hasBehind.slots (xA G)) (F0 m 4 ls []) := by
  have hx := X.1.1
  have hb := X.1.2.1
  unfold F_X4_hasBehind_4 at h
  refine lv_iload_n hx hb dX4_hasBehind_4 rfl (lv_at hl 2 rfl) ?_
  refine lv_iconst (v := 3) hx hb dX4_hasBehind_5 (by decide) ?_
  refine lv_icmp_ge (tgt := 29) hx hb dX4_hasBehind_6 (by decide) (fun c1 => ?_) (fun c1 => ?_)
  · replace h := Eq.trans (if_pos c1).symm h
    refine lv_iconst (v := 0) hx hb dX4_hasBehind_29 (by decide) ?_
    replace h := Option.some.inj h
    subst h
    exact q_retz (v := (0 : Int32)) X Y hr hlocks rfl (Nat.le_of_ble_eq_true rfl) (Nat.le_of_ble_eq_true rfl) dX4_hasBehind_30
  · replace h := Eq.trans (if_neg c1).symm h
    refine lv_aload_n hx hb dX4_hasBehind_9 rfl (lv_at hl 0 rfl) ?_
    refine lv_iconst (v := 3) hx hb dX4_hasBehind_10 (by decide) ?_
    refine lv_iload_n hx hb dX4_hasBehind_11 rfl (lv_at hl 1 rfl) ?_
    refine lv_imul hx hb dX4_hasBehind_12 ?_
    refine lv_iload_n hx hb dX4_hasBehind_13 rfl (lv_at hl 2 rfl) ?_
    refine lv_iadd hx hb dX4_hasBehind_14 ?_
    replace h := xb h
    obtain ⟨v2, ev2, h⟩ := h
    refine q_lald X Y ev2 dX4_hasBehind_15 ?_
    refine lv_lconst (v := 0) hx hb dX4_hasBehind_16 (by decide) ?_
    refine q_lcmp_eq (tgt := 23) hx hb dX4_hasBehind_17 dX4_hasBehind_18 (by decide) (fun c3 => ?_) (fun c3 => ?_)
    · replace h := Eq.trans (if_pos c3).symm h
      refine lv_iinc (v := (a2 + 1)) (lv' := [(2, .int (a2 + 1)), (0, .ref a0), (1, .int a1)]) hx hb dX4_hasBehind_23 hl (k := 2) rfl rfl (by decide) rfl (fun ls hl => ?_)
      refine lv_goto (tgt := 4) hx hb dX4_hasBehind_26 (by decide) ?_
      refine W.widen (k := 0) (n := 0) (Nat.le_of_ble_eq_true rfl) (Nat.le_of_ble_eq_true rfl) ?_
      exact hk4 a0 a1 (a2 + 1) _ _ _ h Y (lv_sub hl [1, 2, 0] rfl)
    · replace h := Eq.trans (if_neg c3).symm h
      refine lv_iconst (v := 1) hx hb dX4_hasBehind_21 (by decide) ?_
      replace h := Option.some.inj h
      subst h
      exact q_retz (v := (1 : Int32)) X Y hr hlocks rfl (Nat.le_of_ble_eq_true rfl) (Nat.le_of_ble_eq_true rfl) dX4_hasBehind_22
set_option maxRecDepth 100000 in
set_option maxHeartbeats 4000000 in
theorem lw_X4_hasBehind_4 {p : Program} {l : Launch} {e : Env} {s : State} {m : MethodId} {args : Array Value} {below : List Frame} {meth : Method} {c : Code} {G : xG} {z : Nat} {f : xHp} (X : xC G p m c s args RX4 cX4_hasBehind 3) (hr : meth.sig.returnType = (some .boolean)) (hlocks : meth.locks = false) (hin : meth.name = yX4_hasBehind.name) (rs : Int32)  : ∀ (n : Nat) (a0 : Nat) (a1 : Int32) (a2 : Int32) (H : Heap) (locs : List Loc) (ls : Array Slot), L_X4_hasBehind_4 f  n a0 a1 a2 = some rs → xY G z f s H locs → lv_has ls 3 [(0, .ref a0), (1, .int a1), (2, .int a2)] → W p l e rm_X4_hasBehind s m args below meth c H locs 0 0 (MQ below (xQ G (some (.int rs)) z f) args s rm_X4_hasBehind.cells rm_X4_hasBehind.slots (xA G)) (F0 m 4 ls []) := by
  intro n
  induction n with
  | zero => intro a0 a1 a2 H locs ls h Y hl; cases h
  | succ n ih => intro a0 a1 a2 H locs ls h Y hl; exact w_X4_hasBehind_4 X hr hlocks hin rs _ ih a0 a1 a2 _ _ _ h Y hl
set_option maxRecDepth 100000 in
set_option maxHeartbeats 4000000 in
theorem c_X4_hasBehind (l : Launch) (G : xG) (z : Nat) (f : xHp) (p0 : Nat) (p1 : Int32) (rs : Int32) (h : F_X4_hasBehind f p0 p1 = some rs) : xM G l yX4_hasBehind cX4_hasBehind 3 (some .boolean) rm_X4_hasBehind [.ref p0, .int p1] z f (some (.int rs)) z f := by
  refine xM_of (by decide) (Nat.le_of_ble_eq_true rfl) ?_
  intro p e s m below meth c ls X hr hlocks hin Y hl
  have hl : lv_has ls 3 [(0, .ref p0), (1, .int p1)] := hl
  have hx := X.1.1
  have hb := X.1.2.1
  unfold F_X4_hasBehind at h
  refine lv_iload_n hx hb dX4_hasBehind_0 rfl (lv_at hl 1 rfl) ?_
  refine lv_iconst (v := 1) hx hb dX4_hasBehind_1 (by decide) ?_
  refine lv_iadd hx hb dX4_hasBehind_2 ?_
  refine lv_istore_n (lv' := [(2, .int (p1 + (1 : Int32))), (0, .ref p0), (1, .int p1)]) hx hb dX4_hasBehind_3 rfl hl (by decide) rfl (fun ls hl => ?_)
  refine W.widen (k := 0) (n := 0) (Nat.le_of_ble_eq_true rfl) (Nat.le_of_ble_eq_true rfl) ?_
  exact lw_X4_hasBehind_4 X hr hlocks hin rs  xfuel p0 p1 (p1 + (1 : Int32)) _ _ _ h Y (lv_sub hl [1, 2, 0] rfl)
/-! NeverBelow$Polynomial.squareNumbers(I)[J -/
abbrev rm_X4_squareNumbers : Room := { frames := 2, cells := 3, slots := 48, locals := 62 }
def F_X4_squareNumbers_154 (k46 : Nat → xHp → Int32 → Nat → Nat → Int32 → Int64 → Int32 → Option (Option Nat × Nat × xHp)) (z : Nat) (f : xHp) (a1 : Int32) (a2 : Nat) (a3 : Nat) (a4 : Int32) (a5 : Int64) (a7 : Int32) : Option (Option Nat × Nat × xHp) := k46 z f a1 a2 a3 a4 a5 (a7 + 1)
def F_X4_squareNumbers_85 (k46 : Nat → xHp → Int32 → Nat → Nat → Int32 → Int64 → Int32 → Option (Option Nat × Nat × xHp)) (z : Nat) (f : xHp) (a1 : Int32) (a2 : Nat) (a3 : Nat) (a4 : Int32) (a5 : Int64) (a7 : Int32) (a8 : Int64) : Option (Option Nat × Nat × xHp) := if a8 ≤ (0 : Int64) then (F_X4_squareNumbers_154 k46 z f a1 a2 a3 a4 a5 a7) else (if a5 ≤ (0 : Int64) then (F_X4_squareNumbers_154 k46 z f a1 a2 a3 a4 a5 a7) else (Option.bind (hJst f a3 a4 (1 : Int64)) fun f3 => Option.bind (hJst f3 a3 (a4 + (1 : Int32)) (((2 : Int64) * a5) * a8)) fun f4 => Option.bind (hJcp f4 a2 ((4 : Int32) * a7) a3 ((a4 + (2 : Int32)) + a7) ((3 : Int32) - a7)) fun f5 => Option.bind (F_X4_clearBehind f5 a2 a7 a5) fun q6 => F_X4_squareNumbers_154 k46 z q6 a1 a2 a3 (a4 + 5) a8 a7))
def F_X4_squareNumbers_83  (z : Nat) (f : xHp)  : Option (Option Nat × Nat × xHp) := some (none, z, f)
def F_X4_squareNumbers_46 (k46 : Nat → xHp → Int32 → Nat → Nat → Int32 → Int64 → Int32 → Option (Option Nat × Nat × xHp)) (z : Nat) (f : xHp) (a1 : Int32) (a2 : Nat) (a3 : Nat) (a4 : Int32) (a5 : Int64) (a7 : Int32) : Option (Option Nat × Nat × xHp) := if (3 : Int32) ≤ a7 then (Option.bind (F_J7_copyOf_c38d5 z f a3 (a4 + a1)) fun q2 => Option.bind (some q2.1) fun o3 => some (o3, q2.2.1, q2.2.2)) else (Option.bind (hJld f a2 ((4 : Int32) * a7)) fun v4 => if v4 < (0 : Int64) then (F_X4_squareNumbers_83 z f) else (if v4 = (0 : Int64) then (Option.bind (F_X4_hasBehind f a2 a7) fun q7 => if q7 = 0 then (F_X4_squareNumbers_85 k46 z f a1 a2 a3 a4 a5 a7 v4) else (F_X4_squareNumbers_83 z f)) else (F_X4_squareNumbers_85 k46 z f a1 a2 a3 a4 a5 a7 v4)))
def L_X4_squareNumbers_46  : Nat → Nat → xHp → Int32 → Nat → Nat → Int32 → Int64 → Int32 → Option (Option Nat × Nat × xHp)
  | 0, _, _, _, _, _, _, _, _ => none
  | n + 1, z, f, a1, a2, a3, a4, a5, a7 => F_X4_squareNumbers_46 (L_X4_squareNumbers_46  n) z f a1 a2 a3 a4 a5 a7
def F_X4_squareNumbers_7 (k7 : Nat → xHp → Nat → Int32 → Nat → Int32 → Option (Option Nat × Nat × xHp)) (z : Nat) (f : xHp) (a0 : Nat) (a1 : Int32) (a2 : Nat) (a3 : Int32) : Option (Option Nat × Nat × xHp) := Option.bind (hLen f a2) fun v1 => if v1 ≤ a3 then (Option.bind (hNw (15 : Int32) 15) fun n3 => Option.bind (some (va_up f z (some (.inr (.inl (n3, fun _ => 0)))))) fun f4 => L_X4_squareNumbers_46 xfuel (z + 1) f4 a1 a2 z (0 : Int32) (1 : Int64) (0 : Int32)) else (if hKd f a0 = some 4 then (Option.bind (F_X4_formNumber f a0 (a3 / (3 : Int32)) (a3 - a3 / (3 : Int32) * (3 : Int32))) fun q6 => Option.bind (hJst f a2 a3 q6) fun f7 => k7 z f7 a0 a1 a2 (a3 + 1)) else none)
def L_X4_squareNumbers_7  : Nat → Nat → xHp → Nat → Int32 → Nat → Int32 → Option (Option Nat × Nat × xHp)
  | 0, _, _, _, _, _, _ => none
  | n + 1, z, f, a0, a1, a2, a3 => F_X4_squareNumbers_7 (L_X4_squareNumbers_7  n) z f a0 a1 a2 a3
def F_X4_squareNumbers (z : Nat) (f : xHp) (h0 : Nat) (p1 : Int32) : Option (Option Nat × Nat × xHp) := Option.bind (hNw (9 : Int32) 9) fun n1 => Option.bind (some (va_up f z (some (.inr (.inl (n1, fun _ => 0)))))) fun f2 => L_X4_squareNumbers_7 xfuel (z + 1) f2 h0 p1 z (0 : Int32)
set_option maxRecDepth 100000 in
set_option maxHeartbeats 4000000 in
theorem w_X4_squareNumbers_154 {p : Program} {l : Launch} {e : Env} {s : State} {m : MethodId} {args : Array Value} {below : List Frame} {meth : Method} {c : Code} {G : xG} (X : xC G p m c s args RX4 cX4_squareNumbers 10) (hr : meth.sig.returnType = (some (.array .long))) (hlocks : meth.locks = false) (hin : meth.name = yX4_squareNumbers.name) (rs : Option Nat × Nat × xHp) (k46 : Nat → xHp → Int32 → Nat → Nat → Int32 → Int64 → Int32 → Option (Option Nat × Nat × xHp)) (hk46 : ∀ (z : Nat) (f : xHp) (a1 : Int32) (a2 : Nat) (a3 : Nat) (a4 : Int32) (a5 : Int64) (a7 : Int32) (H : Heap) (locs : List Loc) (ls : Array Slot), k46 z f a1 a2 a3 a4 a5 a7 = some rs → xY G z f s H locs → lv_has ls 10 [(1, .int a1), (2, .ref a2), (3, .ref a3), (4, .int a4), (5, .long a5), (7, .int a7)] → W p l e rm_X4_squareNumbers s m args below meth c H locs 2 24 (MQ below (xQ G (some (va_rf rs.1)) rs.2.1 rs.2.2) args s rm_X4_squareNumbers.cells rm_X4_squareNumbers.slots (xA G)) (F0 m 46 ls [])) (z : Nat) (f : xHp) (a1 : Int32) (a2 : Nat) (a3 : Nat) (a4 : Int32) (a5 : Int64) (a7 : Int32) (H : Heap) (locs : List Loc) (ls : Array Slot) (h : F_X4_squareNumbers_154 k46 z f a1 a2 a3 a4 a5 a7 = some rs) (Y : xY G z f s H locs) (hl : lv_has ls 10 [(1, .int a1), (2, .ref a2), (3, .ref a3), (4, .int a4), (5, .long a5), (7, .int a7)]) : W p l e rm_X4_squareNumbers s m args below meth c H locs 2 24 (MQ below (xQ G (some (va_rf rs.1)) rs.2.1 rs.2.2) args s rm_X4_squareNumbers.cells rm_X4_squareNumbers.slots (xA G)) (F0 m 154 ls []) := by
  have hx := X.1.1
  have hb := X.1.2.1
  unfold F_X4_squareNumbers_154 at h
  refine lv_iinc (v := (a7 + 1)) (lv' := [(7, .int (a7 + 1)), (1, .int a1), (2, .ref a2), (3, .ref a3), (4, .int a4), (5, .long a5)]) hx hb dX4_squareNumbers_154 hl (k := 5) rfl rfl (by decide) rfl (fun ls hl => ?_)
  refine lv_goto (tgt := 46) hx hb dX4_squareNumbers_157 (by decide) ?_
  refine W.widen (k := 2) (n := 24) (Nat.le_of_ble_eq_true rfl) (Nat.le_of_ble_eq_true rfl) ?_
  exact hk46 z f a1 a2 a3 a4 a5 (a7 + 1) _ _ _ h Y (lv_sub hl [1, 2, 3, 4, 5, 0] rfl)
set_option maxRecDepth 100000 in
set_option maxHeartbeats 4000000 in
theorem w_X4_squareNumbers_85 {p : Program} {l : Launch} {e : Env} {s : State} {m : MethodId} {args : Array Value} {below : List Frame} {meth : Method} {c : Code} {G : xG} (X : xC G p m c s args RX4 cX4_squareNumbers 10) (hr : meth.sig.returnType = (some (.array .long))) (hlocks : meth.locks = false) (hin : meth.name = yX4_squareNumbers.name) (rs : Option Nat × Nat × xHp) (k46 : Nat → xHp → Int32 → Nat → Nat → Int32 → Int64 → Int32 → Option (Option Nat × Nat × xHp)) (hk46 : ∀ (z : Nat) (f : xHp) (a1 : Int32) (a2 : Nat) (a3 : Nat) (a4 : Int32) (a5 : Int64) (a7 : Int32) (H : Heap) (locs : List Loc) (ls : Array Slot), k46 z f a1 a2 a3 a4 a5 a7 = some rs → xY G z f s H locs → lv_has ls 10 [(1, .int a1), (2, .ref a2), (3, .ref a3), (4, .int a4), (5, .long a5), (7, .int a7)] → W p l e rm_X4_squareNumbers s m args below meth c H locs 2 24 (MQ below (xQ G (some (va_rf rs.1)) rs.2.1 rs.2.2) args s rm_X4_squareNumbers.cells rm_X4_squareNumbers.slots (xA G)) (F0 m 46 ls [])) (z : Nat) (f : xHp) (a1 : Int32) (a2 : Nat) (a3 : Nat) (a4 : Int32) (a5 : Int64) (a7 : Int32) (a8 : Int64) (H : Heap) (locs : List Loc) (ls : Array Slot) (h : F_X4_squareNumbers_85 k46 z f a1 a2 a3 a4 a5 a7 a8 = some rs) (Y : xY G z f s H locs) (hl : lv_has ls 10 [(1, .int a1), (2, .ref a2), (3, .ref a3), (4, .int a4), (5, .long a5), (7, .int a7), (8, .long a8)]) : W p l e rm_X4_squareNumbers s m args below meth c H locs 2 24 (MQ below (xQ G (some (va_rf rs.1)) rs.2.1 rs.2.2) args s rm_X4_squareNumbers.cells rm_X4_squareNumbers.slots (xA G)) (F0 m 85 ls []) := by
  have hx := X.1.1
  have hb := X.1.2.1
  unfold F_X4_squareNumbers_85 at h
  refine lv_lload hx hb dX4_squareNumbers_85 (lv_at hl 6 rfl) ?_
  refine lv_lconst (v := 0) hx hb dX4_squareNumbers_87 (by decide) ?_
  refine q_lcmp_le (tgt := 154) hx hb dX4_squareNumbers_88 dX4_squareNumbers_89 (by decide) (fun c1 => ?_) (fun c1 => ?_)
  · replace h := Eq.trans (if_pos c1).symm h
    refine W.widen (k := 2) (n := 24) (Nat.le_of_ble_eq_true rfl) (Nat.le_of_ble_eq_true rfl) ?_
    exact w_X4_squareNumbers_154 X hr hlocks hin rs k46 hk46  z f a1 a2 a3 a4 a5 a7 _ _ _ h Y (lv_sub hl [0, 1, 2, 3, 4, 5] rfl)
  · replace h := Eq.trans (if_neg c1).symm h
    refine lv_lload hx hb dX4_squareNumbers_92 (lv_at hl 4 rfl) ?_
    refine lv_lconst (v := 0) hx hb dX4_squareNumbers_94 (by decide) ?_
    refine q_lcmp_le (tgt := 154) hx hb dX4_squareNumbers_95 dX4_squareNumbers_96 (by decide) (fun c2 => ?_) (fun c2 => ?_)
    · replace h := Eq.trans (if_pos c2).symm h
      refine W.widen (k := 2) (n := 24) (Nat.le_of_ble_eq_true rfl) (Nat.le_of_ble_eq_true rfl) ?_
      exact w_X4_squareNumbers_154 X hr hlocks hin rs k46 hk46  z f a1 a2 a3 a4 a5 a7 _ _ _ h Y (lv_sub hl [0, 1, 2, 3, 4, 5] rfl)
    · replace h := Eq.trans (if_neg c2).symm h
      refine lv_aload_n hx hb dX4_squareNumbers_99 rfl (lv_at hl 2 rfl) ?_
      refine lv_iload hx hb dX4_squareNumbers_100 (lv_at hl 3 rfl) ?_
      refine lv_lconst (v := 1) hx hb dX4_squareNumbers_102 (by decide) ?_
      replace h := xb h
      obtain ⟨f3, ef3, h⟩ := h
      refine q_last X Y ef3 dX4_squareNumbers_103 (fun H locs Y => ?_)
      refine lv_aload_n hx hb dX4_squareNumbers_104 rfl (lv_at hl 2 rfl) ?_
      refine lv_iload hx hb dX4_squareNumbers_105 (lv_at hl 3 rfl) ?_
      refine lv_iconst (v := 1) hx hb dX4_squareNumbers_107 (by decide) ?_
      refine lv_iadd hx hb dX4_squareNumbers_108 ?_
      refine lv_ldc2 (v := 2) hx hb X.1.2.2.2.1 (X.1.2.2.2.2 _ xw_277) dX4_squareNumbers_109 ?_
      refine lv_lload hx hb dX4_squareNumbers_112 (lv_at hl 4 rfl) ?_
      refine lv_lmul hx hb dX4_squareNumbers_114 ?_
      refine lv_lload hx hb dX4_squareNumbers_115 (lv_at hl 6 rfl) ?_
      refine lv_lmul hx hb dX4_squareNumbers_117 ?_
      replace h := xb h
      obtain ⟨f4, ef4, h⟩ := h
      refine q_last X Y ef4 dX4_squareNumbers_118 (fun H locs Y => ?_)
      refine lv_aload_n hx hb dX4_squareNumbers_119 rfl (lv_at hl 1 rfl) ?_
      refine lv_iconst (v := 4) hx hb dX4_squareNumbers_120 (by decide) ?_
      refine lv_iload hx hb dX4_squareNumbers_121 (lv_at hl 5 rfl) ?_
      refine lv_imul hx hb dX4_squareNumbers_123 ?_
      refine lv_aload_n hx hb dX4_squareNumbers_124 rfl (lv_at hl 2 rfl) ?_
      refine lv_iload hx hb dX4_squareNumbers_125 (lv_at hl 3 rfl) ?_
      refine lv_iconst (v := 2) hx hb dX4_squareNumbers_127 (by decide) ?_
      refine lv_iadd hx hb dX4_squareNumbers_128 ?_
      refine lv_iload hx hb dX4_squareNumbers_129 (lv_at hl 5 rfl) ?_
      refine lv_iadd hx hb dX4_squareNumbers_131 ?_
      refine lv_iconst (v := 3) hx hb dX4_squareNumbers_132 (by decide) ?_
      refine lv_iload hx hb dX4_squareNumbers_133 (lv_at hl 5 rfl) ?_
      refine lv_isub hx hb dX4_squareNumbers_135 ?_
      replace h := xb h
      obtain ⟨f5, ef5, h⟩ := h
      refine q_jcp X Y hl.1 cp_X4_56 ef5 (Nat.le_of_ble_eq_true rfl) (Nat.le_of_ble_eq_true rfl) dX4_squareNumbers_136 (fun H locs Y => ?_)
      refine lv_iinc (v := (a4 + 5)) (lv' := [(4, .int (a4 + 5)), (1, .int a1), (2, .ref a2), (3, .ref a3), (5, .long a5), (7, .int a7), (8, .long a8)]) hx hb dX4_squareNumbers_139 hl (k := 3) rfl rfl (by decide) rfl (fun ls hl => ?_)
      refine lv_aload_n hx hb dX4_squareNumbers_142 rfl (lv_at hl 2 rfl) ?_
      refine lv_iload hx hb dX4_squareNumbers_143 (lv_at hl 5 rfl) ?_
      refine lv_lload hx hb dX4_squareNumbers_145 (lv_at hl 4 rfl) ?_
      replace h := xb h
      obtain ⟨q6, eq6, h⟩ := h
      refine q_callS X Y hl.1 (rest := []) (As := [.ref a2, .int a7, .long a5]) (c_X4_clearBehind l G z f5 a2 a7 a5 _ eq6) cd_X4_clearBehind ls_X4_62 ⟨(Nat.le_of_ble_eq_true rfl), (Nat.le_of_ble_eq_true rfl)⟩ ⟨(Nat.le_of_ble_eq_true rfl), (Nat.le_of_ble_eq_true rfl)⟩ rfl rfl (Nat.le_of_ble_eq_true rfl) dX4_squareNumbers_147 (fun H locs Y => ?_)
      refine W.eq (g2 := F0 m 150 ls []) rfl ?_
      refine lv_lload hx hb dX4_squareNumbers_150 (lv_at hl 6 rfl) ?_
      refine lv_lstore (lv' := [(5, .long a8), (4, .int (a4 + 5)), (1, .int a1), (2, .ref a2), (3, .ref a3), (7, .int a7), (8, .long a8)]) hx hb dX4_squareNumbers_152 hl (by decide) rfl (fun ls hl => ?_)
      refine W.widen (k := 2) (n := 24) (Nat.le_of_ble_eq_true rfl) (Nat.le_of_ble_eq_true rfl) ?_
      exact w_X4_squareNumbers_154 X hr hlocks hin rs k46 hk46  z q6 a1 a2 a3 (a4 + 5) a8 a7 _ _ _ h Y (lv_sub hl [2, 3, 4, 1, 0, 5] rfl)
set_option maxRecDepth 100000 in
set_option maxHeartbeats 4000000 in
theorem w_X4_squareNumbers_83 {p : Program} {l : Launch} {e : Env} {s : State} {m : MethodId} {args : Array Value} {below : List Frame} {meth : Method} {c : Code} {G : xG} (X : xC G p m c s args RX4 cX4_squareNumbers 10) (hr : meth.sig.returnType = (some (.array .long))) (hlocks : meth.locks = false) (hin : meth.name = yX4_squareNumbers.name) (rs : Option Nat × Nat × xHp)  (z : Nat) (f : xHp) (H : Heap) (locs : List Loc) (ls : Array Slot) (h : F_X4_squareNumbers_83  z f = some rs) (Y : xY G z f s H locs) (hl : lv_has ls 10 []) : W p l e rm_X4_squareNumbers s m args below meth c H locs 2 24 (MQ below (xQ G (some (va_rf rs.1)) rs.2.1 rs.2.2) args s rm_X4_squareNumbers.cells rm_X4_squareNumbers.slots (xA G)) (F0 m 83 ls []) := by
  have hx := X.1.1
  have hb := X.1.2.1
  unfold F_X4_squareNumbers_83 at h
  refine lv_null hx hb dX4_squareNumbers_83 ?_
  replace h := Option.some.inj h
  subst h
  exact q_reta X Y hr (by first | exact Or.inl ⟨_, rfl⟩ | exact Or.inr ⟨_, rfl⟩) hlocks (Nat.le_of_ble_eq_true rfl) (Nat.le_of_ble_eq_true rfl) dX4_squareNumbers_84
set_option maxRecDepth 100000 in
set_option maxHeartbeats 4000000 in
theorem w_X4_squareNumbers_46 {p : Program} {l : Launch} {e : Env} {s : State} {m : MethodId} {args : Array Value} {below : List Frame} {meth : Method} {c : Code} {G : xG} (X : xC G p m c s args RX4 cX4_squareNumbers 10) (hr : meth.sig.returnType = (some (.array .long))) (hlocks : meth.locks = false) (hin : meth.name = yX4_squareNumbers.name) (rs : Option Nat × Nat × xHp) (k46 : Nat → xHp → Int32 → Nat → Nat → Int32 → Int64 → Int32 → Option (Option Nat × Nat × xHp)) (hk46 : ∀ (z : Nat) (f : xHp) (a1 : Int32) (a2 : Nat) (a3 : Nat) (a4 : Int32) (a5 : Int64) (a7 : Int32) (H : Heap) (locs : List Loc) (ls : Array Slot), k46 z f a1 a2 a3 a4 a5 a7 = some rs → xY G z f s H locs → lv_has ls 10 [(1, .int a1), (2, .ref a2), (3, .ref a3), (4, .int a4), (5, .long a5), (7, .int a7)] → W p l e rm_X4_squareNumbers s m args below meth c H locs 2 24 (MQ below (xQ G (some (va_rf rs.1)) rs.2.1 rs.2.2) args s rm_X4_squareNumbers.cells rm_X4_squareNumbers.slots (xA G)) (F0 m 46 ls [])) (z : Nat) (f : xHp) (a1 : Int32) (a2 : Nat) (a3 : Nat) (a4 : Int32) (a5 : Int64) (a7 : Int32) (H : Heap) (locs : List Loc) (ls : Array Slot) (h : F_X4_squareNumbers_46 k46 z f a1 a2 a3 a4 a5 a7 = some rs) (Y : xY G z f s H locs) (hl : lv_has ls 10 [(1, .int a1), (2, .ref a2), (3, .ref a3), (4, .int a4), (5, .long a5), (7, .int a7)]) : W p l e rm_X4_squareNumbers s m args below meth c H locs 2 24 (MQ below (xQ G (some (va_rf rs.1)) rs.2.1 rs.2.2) args s rm_X4_squareNumbers.cells rm_X4_squareNumbers.slots (xA G)) (F0 m 46 ls []) := by
  have hx := X.1.1
  have hb := X.1.2.1
  unfold F_X4_squareNumbers_46 at h
  refine lv_iload hx hb dX4_squareNumbers_46 (lv_at hl 5 rfl) ?_
  refine lv_iconst (v := 3) hx hb dX4_squareNumbers_48 (by decide) ?_
  refine lv_icmp_ge (tgt := 160) hx hb dX4_squareNumbers_49 (by decide) (fun c1 => ?_) (fun c1 => ?_)
  · replace h := Eq.trans (if_pos c1).symm h
    refine lv_aload_n hx hb dX4_squareNumbers_160 rfl (lv_at hl 2 rfl) ?_
    refine lv_iload hx hb dX4_squareNumbers_161 (lv_at hl 3 rfl) ?_
    refine lv_iload_n hx hb dX4_squareNumbers_163 rfl (lv_at hl 0 rfl) ?_
    refine lv_iadd hx hb dX4_squareNumbers_164 ?_
    replace h := xb h
    obtain ⟨q2, eq2, h⟩ := h
    refine q_callS X Y hl.1 (rest := []) (As := [.ref a3, .int (a4 + a1)]) (c_J7_copyOf_c38d5 l G z f a3 (a4 + a1) _ eq2) cd_J7_copyOf_c38d5 ls_X4_35 ⟨(Nat.le_of_ble_eq_true rfl), (Nat.le_of_ble_eq_true rfl)⟩ ⟨(Nat.le_of_ble_eq_true rfl), (Nat.le_of_ble_eq_true rfl)⟩ rfl rfl (Nat.le_of_ble_eq_true rfl) dX4_squareNumbers_165 (fun H locs Y => ?_)
    refine W.eq (g2 := F0 m 168 ls [va_rf q2.1]) rfl ?_
    replace h := xb h
    obtain ⟨o3, eo3, h⟩ := h
    have eo3 := Option.some.inj eo3
    rw [eo3]
    refine W.widen (k := 3) (n := 48) (Nat.le_of_ble_eq_true rfl) (Nat.le_of_ble_eq_true rfl) ?_
    replace h := Option.some.inj h
    subst h
    exact q_reta X Y hr (by first | exact Or.inl ⟨_, rfl⟩ | exact Or.inr ⟨_, rfl⟩) hlocks (Nat.le_of_ble_eq_true rfl) (Nat.le_of_ble_eq_true rfl) dX4_squareNumbers_168
  · replace h := Eq.trans (if_neg c1).symm h
    refine lv_aload_n hx hb dX4_squareNumbers_52 rfl (lv_at hl 1 rfl) ?_
    refine lv_iconst (v := 4) hx hb dX4_squareNumbers_53 (by decide) ?_
    refine lv_iload hx hb dX4_squareNumbers_54 (lv_at hl 5 rfl) ?_
    refine lv_imul hx hb dX4_squareNumbers_56 ?_
    replace h := xb h
    obtain ⟨v4, ev4, h⟩ := h
    refine q_lald X Y ev4 dX4_squareNumbers_57 ?_
    refine lv_lstore (lv' := [(8, .long v4), (1, .int a1), (2, .ref a2), (3, .ref a3), (4, .int a4), (5, .long a5), (7, .int a7)]) hx hb dX4_squareNumbers_58 hl (by decide) rfl (fun ls hl => ?_)
    refine lv_lload hx hb dX4_squareNumbers_60 (lv_at hl 0 rfl) ?_
    refine lv_lconst (v := 0) hx hb dX4_squareNumbers_62 (by decide) ?_
    refine q_lcmp_lt (tgt := 83) hx hb dX4_squareNumbers_63 dX4_squareNumbers_64 (by decide) (fun c5 => ?_) (fun c5 => ?_)
    · replace h := Eq.trans (if_pos c5).symm h
      refine W.widen (k := 2) (n := 24) (Nat.le_of_ble_eq_true rfl) (Nat.le_of_ble_eq_true rfl) ?_
      exact w_X4_squareNumbers_83 X hr hlocks hin rs   z f _ _ _ h Y (lv_sub hl [] rfl)
    · replace h := Eq.trans (if_neg c5).symm h
      refine lv_lload hx hb dX4_squareNumbers_67 (lv_at hl 0 rfl) ?_
      refine lv_lconst (v := 0) hx hb dX4_squareNumbers_69 (by decide) ?_
      refine q_lcmp_ne (tgt := 85) hx hb dX4_squareNumbers_70 dX4_squareNumbers_71 (by decide) (fun c6 => ?_) (fun c6 => ?_)
      · replace h := Eq.trans (if_neg c6).symm h
        refine W.widen (k := 2) (n := 24) (Nat.le_of_ble_eq_true rfl) (Nat.le_of_ble_eq_true rfl) ?_
        exact w_X4_squareNumbers_85 X hr hlocks hin rs k46 hk46  z f a1 a2 a3 a4 a5 a7 v4 _ _ _ h Y (lv_sub hl [1, 2, 3, 4, 5, 6, 0] rfl)
      · replace h := Eq.trans (if_pos c6).symm h
        refine lv_aload_n hx hb dX4_squareNumbers_74 rfl (lv_at hl 2 rfl) ?_
        refine lv_iload hx hb dX4_squareNumbers_75 (lv_at hl 6 rfl) ?_
        replace h := xb h
        obtain ⟨q7, eq7, h⟩ := h
        refine q_callS X Y hl.1 (rest := []) (As := [.ref a2, .int a7]) (c_X4_hasBehind l G z f a2 a7 _ eq7) cd_X4_hasBehind ls_X4_52 ⟨(Nat.le_of_ble_eq_true rfl), (Nat.le_of_ble_eq_true rfl)⟩ ⟨(Nat.le_of_ble_eq_true rfl), (Nat.le_of_ble_eq_true rfl)⟩ rfl rfl (Nat.le_of_ble_eq_true rfl) dX4_squareNumbers_77 (fun H locs Y => ?_)
        refine W.eq (g2 := F0 m 80 ls [.int q7]) rfl ?_
        refine lv_if_eq (tgt := 85) hx hb dX4_squareNumbers_80 (by decide) (fun c8 => ?_) (fun c8 => ?_)
        · replace h := Eq.trans (if_pos c8).symm h
          refine W.widen (k := 2) (n := 24) (Nat.le_of_ble_eq_true rfl) (Nat.le_of_ble_eq_true rfl) ?_
          exact w_X4_squareNumbers_85 X hr hlocks hin rs k46 hk46  z f a1 a2 a3 a4 a5 a7 v4 _ _ _ h Y (lv_sub hl [1, 2, 3, 4, 5, 6, 0] rfl)
        · replace h := Eq.trans (if_neg c8).symm h
          refine W.widen (k := 2) (n := 24) (Nat.le_of_ble_eq_true rfl) (Nat.le_of_ble_eq_true rfl) ?_
          exact w_X4_squareNumbers_83 X hr hlocks hin rs   z f _ _ _ h Y (lv_sub hl [] rfl)
set_option maxRecDepth 100000 in
set_option maxHeartbeats 4000000 in
theorem lw_X4_squareNumbers_46 {p : Program} {l : Launch} {e : Env} {s : State} {m : MethodId} {args : Array Value} {below : List Frame} {meth : Method} {c : Code} {G : xG} (X : xC G p m c s args RX4 cX4_squareNumbers 10) (hr : meth.sig.returnType = (some (.array .long))) (hlocks : meth.locks = false) (hin : meth.name = yX4_squareNumbers.name) (rs : Option Nat × Nat × xHp)  : ∀ (n : Nat) (z : Nat) (f : xHp) (a1 : Int32) (a2 : Nat) (a3 : Nat) (a4 : Int32) (a5 : Int64) (a7 : Int32) (H : Heap) (locs : List Loc) (ls : Array Slot), L_X4_squareNumbers_46  n z f a1 a2 a3 a4 a5 a7 = some rs → xY G z f s H locs → lv_has ls 10 [(1, .int a1), (2, .ref a2), (3, .ref a3), (4, .int a4), (5, .long a5), (7, .int a7)] → W p l e rm_X4_squareNumbers s m args below meth c H locs 2 24 (MQ below (xQ G (some (va_rf rs.1)) rs.2.1 rs.2.2) args s rm_X4_squareNumbers.cells rm_X4_squareNumbers.slots (xA G)) (F0 m 46 ls []) := by
  intro n
  induction n with
  | zero => intro z f a1 a2 a3 a4 a5 a7 H locs ls h Y hl; cases h
  | succ n ih => intro z f a1 a2 a3 a4 a5 a7 H locs ls h Y hl; exact w_X4_squareNumbers_46 X hr hlocks hin rs _ ih z f a1 a2 a3 a4 a5 a7 _ _ _ h Y hl
set_option maxRecDepth 100000 in
set_option maxHeartbeats 4000000 in
theorem w_X4_squareNumbers_7 {p : Program} {l : Launch} {e : Env} {s : State} {m : MethodId} {args : Array Value} {below : List Frame} {meth : Method} {c : Code} {G : xG} (X : xC G p m c s args RX4 cX4_squareNumbers 10) (hr : meth.sig.returnType = (some (.array .long))) (hlocks : meth.locks = false) (hin : meth.name = yX4_squareNumbers.name) (rs : Option Nat × Nat × xHp) (k7 : Nat → xHp → Nat → Int32 → Nat → Int32 → Option (Option Nat × Nat × xHp)) (hk7 : ∀ (z : Nat) (f : xHp) (a0 : Nat) (a1 : Int32) (a2 : Nat) (a3 : Int32) (H : Heap) (locs : List Loc) (ls : Array Slot), k7 z f a0 a1 a2 a3 = some rs → xY G z f s H locs → lv_has ls 10 [(0, .ref a0), (1, .int a1), (2, .ref a2), (3, .int a3)] → W p l e rm_X4_squareNumbers s m args below meth c H locs 1 9 (MQ below (xQ G (some (va_rf rs.1)) rs.2.1 rs.2.2) args s rm_X4_squareNumbers.cells rm_X4_squareNumbers.slots (xA G)) (F0 m 7 ls [])) (z : Nat) (f : xHp) (a0 : Nat) (a1 : Int32) (a2 : Nat) (a3 : Int32) (H : Heap) (locs : List Loc) (ls : Array Slot) (h : F_X4_squareNumbers_7 k7 z f a0 a1 a2 a3 = some rs) (Y : xY G z f s H locs) (hl : lv_has ls 10 [(0, .ref a0), (1, .int a1), (2, .ref a2), (3, .int a3)]) : W p l e rm_X4_squareNumbers s m args below meth c H locs 1 9 (MQ below (xQ G (some (va_rf rs.1)) rs.2.1 rs.2.2) args s rm_X4_squareNumbers.cells rm_X4_squareNumbers.slots (xA G)) (F0 m 7 ls []) := by
  have hx := X.1.1
  have hb := X.1.2.1
  unfold F_X4_squareNumbers_7 at h
  refine lv_iload_n hx hb dX4_squareNumbers_7 rfl (lv_at hl 3 rfl) ?_
  refine lv_aload_n hx hb dX4_squareNumbers_8 rfl (lv_at hl 2 rfl) ?_
  replace h := xb h
  obtain ⟨v1, ev1, h⟩ := h
  refine q_alen X Y ev1 dX4_squareNumbers_9 ?_
  refine lv_icmp_ge (tgt := 32) hx hb dX4_squareNumbers_10 (by decide) (fun c2 => ?_) (fun c2 => ?_)
  · replace h := Eq.trans (if_pos c2).symm h
    refine lv_bipush (v := 15) hx hb dX4_squareNumbers_32 (by decide) ?_
    replace h := xb h
    obtain ⟨n3, en3, h⟩ := h
    replace h := xb h
    obtain ⟨f4, ef4, h⟩ := h
    have ef4 := Option.some.inj ef4
    refine q_newJ X Y en3 (by decide) xw_80 (Nat.le_of_ble_eq_true rfl) (Nat.le_of_ble_eq_true rfl) dX4_squareNumbers_34 (fun H Y => ?_)
    rw [ef4] at Y
    refine lv_astore_n (lv' := [(3, .ref z), (0, .ref a0), (1, .int a1), (2, .ref a2)]) hx hb dX4_squareNumbers_36 rfl hl (by decide) rfl (fun ls hl => ?_)
    refine lv_iconst (v := 0) hx hb dX4_squareNumbers_37 (by decide) ?_
    refine lv_istore (lv' := [(4, .int (0 : Int32)), (3, .ref z), (0, .ref a0), (1, .int a1), (2, .ref a2)]) hx hb dX4_squareNumbers_38 hl (by decide) rfl (fun ls hl => ?_)
    refine lv_lconst (v := 1) hx hb dX4_squareNumbers_40 (by decide) ?_
    refine lv_lstore (lv' := [(5, .long (1 : Int64)), (4, .int (0 : Int32)), (3, .ref z), (0, .ref a0), (1, .int a1), (2, .ref a2)]) hx hb dX4_squareNumbers_41 hl (by decide) rfl (fun ls hl => ?_)
    refine lv_iconst (v := 0) hx hb dX4_squareNumbers_43 (by decide) ?_
    refine lv_istore (lv' := [(7, .int (0 : Int32)), (5, .long (1 : Int64)), (4, .int (0 : Int32)), (3, .ref z), (0, .ref a0), (1, .int a1), (2, .ref a2)]) hx hb dX4_squareNumbers_44 hl (by decide) rfl (fun ls hl => ?_)
    refine W.widen (k := 2) (n := 24) (Nat.le_of_ble_eq_true rfl) (Nat.le_of_ble_eq_true rfl) ?_
    exact lw_X4_squareNumbers_46 X hr hlocks hin rs  xfuel (z + 1) f4 a1 a2 z (0 : Int32) (1 : Int64) (0 : Int32) _ _ _ h Y (lv_sub hl [5, 6, 3, 2, 1, 0] rfl)
  · replace h := Eq.trans (if_neg c2).symm h
    refine lv_aload_n hx hb dX4_squareNumbers_13 rfl (lv_at hl 2 rfl) ?_
    refine lv_iload_n hx hb dX4_squareNumbers_14 rfl (lv_at hl 3 rfl) ?_
    refine lv_aload_n hx hb dX4_squareNumbers_15 rfl (lv_at hl 0 rfl) ?_
    refine lv_iload_n hx hb dX4_squareNumbers_16 rfl (lv_at hl 3 rfl) ?_
    refine lv_iconst (v := 3) hx hb dX4_squareNumbers_17 (by decide) ?_
    refine lv_idiv hx hb dX4_squareNumbers_18 (by decide) ?_
    refine lv_iload_n hx hb dX4_squareNumbers_19 rfl (lv_at hl 3 rfl) ?_
    refine lv_iconst (v := 3) hx hb dX4_squareNumbers_20 (by decide) ?_
    refine lv_irem hx hb dX4_squareNumbers_21 (by decide) ?_
    by_cases c5 : hKd f a0 = some 4
    · replace h := Eq.trans (if_pos c5).symm h
      replace h := xb h
      obtain ⟨q6, eq6, h⟩ := h
      refine q_callV X Y hl.1 (rest := [.int a3, .ref a2]) (As := [.int (a3 / (3 : Int32)), .int (a3 - a3 / (3 : Int32) * (3 : Int32))]) (c_X4_formNumber l G z f a0 (a3 / (3 : Int32)) (a3 - a3 / (3 : Int32) * (3 : Int32)) _ eq6) cd_X4_formNumber lv_X4_48_4 c5 ⟨(Nat.le_of_ble_eq_true rfl), (Nat.le_of_ble_eq_true rfl)⟩ ⟨(Nat.le_of_ble_eq_true rfl), (Nat.le_of_ble_eq_true rfl)⟩ rfl rfl (Nat.le_of_ble_eq_true rfl) dX4_squareNumbers_22 (fun H locs Y => ?_)
      refine W.eq (g2 := F0 m 25 ls [.long q6, .int a3, .ref a2]) rfl ?_
      replace h := xb h
      obtain ⟨f7, ef7, h⟩ := h
      refine q_last X Y ef7 dX4_squareNumbers_25 (fun H locs Y => ?_)
      refine lv_iinc (v := (a3 + 1)) (lv' := [(3, .int (a3 + 1)), (0, .ref a0), (1, .int a1), (2, .ref a2)]) hx hb dX4_squareNumbers_26 hl (k := 3) rfl rfl (by decide) rfl (fun ls hl => ?_)
      refine lv_goto (tgt := 7) hx hb dX4_squareNumbers_29 (by decide) ?_
      refine W.widen (k := 1) (n := 9) (Nat.le_of_ble_eq_true rfl) (Nat.le_of_ble_eq_true rfl) ?_
      exact hk7 z f7 a0 a1 a2 (a3 + 1) _ _ _ h Y (lv_sub hl [1, 2, 3, 0] rfl)
    replace h := Eq.trans (if_neg c5).symm h
    cases h
set_option maxRecDepth 100000 in
set_option maxHeartbeats 4000000 in
theorem lw_X4_squareNumbers_7 {p : Program} {l : Launch} {e : Env} {s : State} {m : MethodId} {args : Array Value} {below : List Frame} {meth : Method} {c : Code} {G : xG} (X : xC G p m c s args RX4 cX4_squareNumbers 10) (hr : meth.sig.returnType = (some (.array .long))) (hlocks : meth.locks = false) (hin : meth.name = yX4_squareNumbers.name) (rs : Option Nat × Nat × xHp)  : ∀ (n : Nat) (z : Nat) (f : xHp) (a0 : Nat) (a1 : Int32) (a2 : Nat) (a3 : Int32) (H : Heap) (locs : List Loc) (ls : Array Slot), L_X4_squareNumbers_7  n z f a0 a1 a2 a3 = some rs → xY G z f s H locs → lv_has ls 10 [(0, .ref a0), (1, .int a1), (2, .ref a2), (3, .int a3)] → W p l e rm_X4_squareNumbers s m args below meth c H locs 1 9 (MQ below (xQ G (some (va_rf rs.1)) rs.2.1 rs.2.2) args s rm_X4_squareNumbers.cells rm_X4_squareNumbers.slots (xA G)) (F0 m 7 ls []) := by
  intro n
  induction n with
  | zero => intro z f a0 a1 a2 a3 H locs ls h Y hl; cases h
  | succ n ih => intro z f a0 a1 a2 a3 H locs ls h Y hl; exact w_X4_squareNumbers_7 X hr hlocks hin rs _ ih z f a0 a1 a2 a3 _ _ _ h Y hl
set_option maxRecDepth 100000 in
set_option maxHeartbeats 4000000 in
theorem c_X4_squareNumbers (l : Launch) (G : xG) (z : Nat) (f : xHp) (h0 : Nat) (p1 : Int32) (rs : Option Nat × Nat × xHp) (h : F_X4_squareNumbers z f h0 p1 = some rs) : xM G l yX4_squareNumbers cX4_squareNumbers 10 (some (.array .long)) rm_X4_squareNumbers [.ref h0, .int p1] z f (some (va_rf rs.1)) rs.2.1 rs.2.2 := by
  refine xM_of (by decide) (Nat.le_of_ble_eq_true rfl) ?_
  intro p e s m below meth c ls X hr hlocks hin Y hl
  have hl : lv_has ls 10 [(0, .ref h0), (1, .int p1)] := hl
  have hx := X.1.1
  have hb := X.1.2.1
  unfold F_X4_squareNumbers at h
  refine lv_bipush (v := 9) hx hb dX4_squareNumbers_0 (by decide) ?_
  replace h := xb h
  obtain ⟨n1, en1, h⟩ := h
  replace h := xb h
  obtain ⟨f2, ef2, h⟩ := h
  have ef2 := Option.some.inj ef2
  refine q_newJ X Y en1 (by decide) xw_80 (Nat.le_of_ble_eq_true rfl) (Nat.le_of_ble_eq_true rfl) dX4_squareNumbers_2 (fun H Y => ?_)
  rw [ef2] at Y
  refine lv_astore_n (lv' := [(2, .ref z), (0, .ref h0), (1, .int p1)]) hx hb dX4_squareNumbers_4 rfl hl (by decide) rfl (fun ls hl => ?_)
  refine lv_iconst (v := 0) hx hb dX4_squareNumbers_5 (by decide) ?_
  refine lv_istore_n (lv' := [(3, .int (0 : Int32)), (2, .ref z), (0, .ref h0), (1, .int p1)]) hx hb dX4_squareNumbers_6 rfl hl (by decide) rfl (fun ls hl => ?_)
  refine W.widen (k := 1) (n := 9) (Nat.le_of_ble_eq_true rfl) (Nat.le_of_ble_eq_true rfl) ?_
  exact lw_X4_squareNumbers_7 X hr hlocks hin rs  xfuel (z + 1) f2 h0 p1 z (0 : Int32) _ _ _ h Y (lv_sub hl [2, 3, 1, 0] rfl)
/-! NeverBelow$Proof.<init>(ILNeverBelow$Polynomial;I[J)V -/
abbrev rm_X5_init : Room := { frames := 1, cells := 0, slots := 0, locals := 24 }
def F_X5_init (f : xHp) (h0 : Nat) (p1 : Int32) (p2 : Nat) (p3 : Int32) (p4 : Nat) : Option (xHp) := Option.bind (hPut f h0 [(0, 0), (3, 2), (6, 0), (7, 0)] (.int p1)) fun f1 => Option.bind (hPut f1 h0 [(0, 1), (3, 3), (6, 1), (7, 1)] (.ref p2)) fun f2 => Option.bind (hPut f2 h0 [(0, 2), (3, 4), (6, 2), (7, 2)] (.int p3)) fun f3 => Option.bind (hPut f3 h0 [(0, 3), (3, 5), (6, 3), (7, 3)] (.ref p4)) fun f4 => some f4
set_option maxRecDepth 100000 in
set_option maxHeartbeats 4000000 in
theorem c_X5_init (l : Launch) (G : xG) (z : Nat) (f : xHp) (h0 : Nat) (p1 : Int32) (p2 : Nat) (p3 : Int32) (p4 : Nat) (rs : xHp) (h : F_X5_init f h0 p1 p2 p3 p4 = some rs) : xM G l yX5_init cX5_init 5 none rm_X5_init [.ref h0, .int p1, .ref p2, .int p3, .ref p4] z f none z rs := by
  refine xM_of (by decide) (Nat.le_of_ble_eq_true rfl) ?_
  intro p e s m below meth c ls X hr hlocks hin Y hl
  have hl : lv_has ls 5 [(0, .ref h0), (1, .int p1), (2, .ref p2), (3, .int p3), (4, .ref p4)] := hl
  have hx := X.1.1
  have hb := X.1.2.1
  unfold F_X5_init at h
  refine lv_aload_n hx hb dX5_init_0 rfl (lv_at hl 0 rfl) ?_
  refine q_obj X hl.1 lo_X5_3 (Nat.le_of_ble_eq_true rfl) (Nat.le_of_ble_eq_true rfl) dX5_init_1 ?_
  refine lv_aload_n hx hb dX5_init_4 rfl (lv_at hl 0 rfl) ?_
  refine lv_iload_n hx hb dX5_init_5 rfl (lv_at hl 1 rfl) ?_
  replace h := xb h
  obtain ⟨f1, ef1, h⟩ := h
  refine q_putF X Y hin fp_X5_9 rfl rfl ef1 dX5_init_6 (fun H locs Y => ?_)
  refine lv_aload_n hx hb dX5_init_9 rfl (lv_at hl 0 rfl) ?_
  refine lv_aload_n hx hb dX5_init_10 rfl (lv_at hl 2 rfl) ?_
  replace h := xb h
  obtain ⟨f2, ef2, h⟩ := h
  refine q_putF X Y hin fp_X5_15 rfl rfl ef2 dX5_init_11 (fun H locs Y => ?_)
  refine lv_aload_n hx hb dX5_init_14 rfl (lv_at hl 0 rfl) ?_
  refine lv_iload_n hx hb dX5_init_15 rfl (lv_at hl 3 rfl) ?_
  replace h := xb h
  obtain ⟨f3, ef3, h⟩ := h
  refine q_putF X Y hin fp_X5_19 rfl rfl ef3 dX5_init_16 (fun H locs Y => ?_)
  refine lv_aload_n hx hb dX5_init_19 rfl (lv_at hl 0 rfl) ?_
  refine lv_aload hx hb dX5_init_20 (lv_at hl 4 rfl) ?_
  replace h := xb h
  obtain ⟨f4, ef4, h⟩ := h
  refine q_putF X Y hin fp_X5_22 rfl rfl ef4 dX5_init_22 (fun H locs Y => ?_)
  replace h := Option.some.inj h
  subst h
  exact q_retv X Y hr hlocks (Nat.le_of_ble_eq_true rfl) (Nat.le_of_ble_eq_true rfl) dX5_init_25
/-! NeverBelow$SquaresProof.<init>(ILNeverBelow$Polynomial;I[J)V -/
abbrev rm_X8_init : Room := { frames := 2, cells := 0, slots := 0, locals := 48 }
def F_X8_init (f : xHp) (h0 : Nat) (p1 : Int32) (p2 : Nat) (p3 : Int32) (p4 : Nat) : Option (xHp) := Option.bind (F_X5_init f h0 p1 p2 p3 p4) fun q1 => some q1
set_option maxRecDepth 100000 in
set_option maxHeartbeats 4000000 in
theorem c_X8_init (l : Launch) (G : xG) (z : Nat) (f : xHp) (h0 : Nat) (p1 : Int32) (p2 : Nat) (p3 : Int32) (p4 : Nat) (rs : xHp) (h : F_X8_init f h0 p1 p2 p3 p4 = some rs) : xM G l yX8_init cX8_init 5 none rm_X8_init [.ref h0, .int p1, .ref p2, .int p3, .ref p4] z f none z rs := by
  refine xM_of (by decide) (Nat.le_of_ble_eq_true rfl) ?_
  intro p e s m below meth c ls X hr hlocks hin Y hl
  have hl : lv_has ls 5 [(0, .ref h0), (1, .int p1), (2, .ref p2), (3, .int p3), (4, .ref p4)] := hl
  have hx := X.1.1
  have hb := X.1.2.1
  unfold F_X8_init at h
  refine lv_aload_n hx hb dX8_init_0 rfl (lv_at hl 0 rfl) ?_
  refine lv_iload_n hx hb dX8_init_1 rfl (lv_at hl 1 rfl) ?_
  refine lv_aload_n hx hb dX8_init_2 rfl (lv_at hl 2 rfl) ?_
  refine lv_iload_n hx hb dX8_init_3 rfl (lv_at hl 3 rfl) ?_
  refine lv_aload hx hb dX8_init_4 (lv_at hl 4 rfl) ?_
  replace h := xb h
  obtain ⟨q1, eq1, h⟩ := h
  refine q_callI X Y hl.1 (rest := []) (As := [.int p1, .ref p2, .int p3, .ref p4]) (c_X5_init l G z f h0 p1 p2 p3 p4 _ eq1) cd_X5_init li_X8_3 ⟨(Nat.le_of_ble_eq_true rfl), (Nat.le_of_ble_eq_true rfl)⟩ ⟨(Nat.le_of_ble_eq_true rfl), (Nat.le_of_ble_eq_true rfl)⟩ rfl rfl (Nat.le_of_ble_eq_true rfl) dX8_init_6 (fun H locs Y => ?_)
  refine W.eq (g2 := F0 m 9 ls []) rfl ?_
  replace h := Option.some.inj h
  subst h
  exact q_retv X Y hr hlocks (Nat.le_of_ble_eq_true rfl) (Nat.le_of_ble_eq_true rfl) dX8_init_9
/-! NeverBelow.squares(I)I -/
abbrev rm_X10_squares : Room := { frames := 3, cells := 4, slots := 52, locals := 91 }
def F_X10_squares (z : Nat) (f : xHp) (h0 : Nat) (p1 : Int32) : Option (Int32 × Nat × xHp) := if hKd f h0 = some 9 then (Option.bind (F_X10_polynomialOf f h0 p1) fun q2 => xnul q2 (some ((-1 : Int32), z, f)) (fun q4 => if hKd f q4 = some 4 then (Option.bind (F_X4_isForm f q4) fun q6 => if q6 = 0 then (some ((-3 : Int32), z, f)) else (if hKd f q4 = some 4 then (Option.bind (F_X4_squareNumbers z f q4 (0 : Int32)) fun q9 => Option.bind (some q9.1) fun o10 => xnul o10 (some ((-9 : Int32), q9.2.1, q9.2.2)) (fun q12 => Option.bind (some (va_up q9.2.2 q9.2.1 (some (.inr (.inr (.inr (7, [.int 0, .null, .int 0, .null]))))))) fun f13 => Option.bind (F_X8_init f13 q9.2.1 (0 : Int32) q4 p1 q12) fun q14 => if hKd q14 h0 = some 9 then (Option.bind (F_X10_keepProof q14 h0 q9.2.1) fun q16 => some (q16.1, (q9.2.1 + 1), q16.2)) else none)) else none)) else none)) else none
set_option maxRecDepth 100000 in
set_option maxHeartbeats 4000000 in
theorem c_X10_squares (l : Launch) (G : xG) (z : Nat) (f : xHp) (h0 : Nat) (p1 : Int32) (rs : Int32 × Nat × xHp) (h : F_X10_squares z f h0 p1 = some rs) : xM G l yX10_squares cX10_squares 4 (some .int) rm_X10_squares [.ref h0, .int p1] z f (some (.int rs.1)) rs.2.1 rs.2.2 := by
  refine xM_of (by decide) (Nat.le_of_ble_eq_true rfl) ?_
  intro p e s m below meth c ls X hr hlocks hin Y hl
  have hl : lv_has ls 4 [(0, .ref h0), (1, .int p1)] := hl
  have hx := X.1.1
  have hb := X.1.2.1
  unfold F_X10_squares at h
  refine lv_aload_n hx hb dX10_squares_0 rfl (lv_at hl 0 rfl) ?_
  refine lv_iload_n hx hb dX10_squares_1 rfl (lv_at hl 1 rfl) ?_
  by_cases c1 : hKd f h0 = some 9
  · replace h := Eq.trans (if_pos c1).symm h
    replace h := xb h
    obtain ⟨q2, eq2, h⟩ := h
    refine q_callV X Y hl.1 (rest := []) (As := [.int p1]) (c_X10_polynomialOf l G z f h0 p1 _ eq2) cd_X10_polynomialOf lv_X10_95_9 c1 ⟨(Nat.le_of_ble_eq_true rfl), (Nat.le_of_ble_eq_true rfl)⟩ ⟨(Nat.le_of_ble_eq_true rfl), (Nat.le_of_ble_eq_true rfl)⟩ rfl rfl (Nat.le_of_ble_eq_true rfl) dX10_squares_2 (fun H locs Y => ?_)
    refine W.eq (g2 := F0 m 5 ls [va_rf q2]) rfl ?_
    refine q_astore_n (lv' := [(2, va_rf q2), (0, .ref h0), (1, .int p1)]) hx hb dX10_squares_5 rfl hl (by decide) rfl (fun ls hl => ?_)
    refine q_aload_n hx hb dX10_squares_6 rfl (lv_at hl 0 rfl) ?_
    refine q_ifnonnull (tgt := 12) hx hb dX10_squares_7 (by decide) (fun c3 => ?_) (fun q4 eq4 => ?_)
    · replace h := xn0 h c3
      subst c3
      have hl : lv_has ls 4 [(2, .null), (0, .ref h0), (1, .int p1)] := hl
      refine lv_iconst (v := -1) hx hb dX10_squares_10 (by decide) ?_
      replace h := Option.some.inj h
      subst h
      exact q_reti X Y hr hlocks (Nat.le_of_ble_eq_true rfl) (Nat.le_of_ble_eq_true rfl) dX10_squares_11
    · replace h := xn1 h eq4
      subst eq4
      have hl : lv_has ls 4 [(2, .ref q4), (0, .ref h0), (1, .int p1)] := hl
      refine lv_aload_n hx hb dX10_squares_12 rfl (lv_at hl 0 rfl) ?_
      by_cases c5 : hKd f q4 = some 4
      · replace h := Eq.trans (if_pos c5).symm h
        replace h := xb h
        obtain ⟨q6, eq6, h⟩ := h
        refine q_callV X Y hl.1 (rest := []) (As := []) (c_X4_isForm l G z f q4 _ eq6) cd_X4_isForm lv_X10_215_4 c5 ⟨(Nat.le_of_ble_eq_true rfl), (Nat.le_of_ble_eq_true rfl)⟩ ⟨(Nat.le_of_ble_eq_true rfl), (Nat.le_of_ble_eq_true rfl)⟩ rfl rfl (Nat.le_of_ble_eq_true rfl) dX10_squares_13 (fun H locs Y => ?_)
        refine W.eq (g2 := F0 m 16 ls [.int q6]) rfl ?_
        refine lv_if_ne (tgt := 22) hx hb dX10_squares_16 (by decide) (fun c7 => ?_) (fun c7 => ?_)
        · replace h := Eq.trans (if_neg c7).symm h
          refine lv_aload_n hx hb dX10_squares_22 rfl (lv_at hl 0 rfl) ?_
          refine lv_iconst (v := 0) hx hb dX10_squares_23 (by decide) ?_
          by_cases c8 : hKd f q4 = some 4
          · replace h := Eq.trans (if_pos c8).symm h
            replace h := xb h
            obtain ⟨q9, eq9, h⟩ := h
            refine q_callV X Y hl.1 (rest := []) (As := [.int (0 : Int32)]) (c_X4_squareNumbers l G z f q4 (0 : Int32) _ eq9) cd_X4_squareNumbers lv_X10_223_4 c8 ⟨(Nat.le_of_ble_eq_true rfl), (Nat.le_of_ble_eq_true rfl)⟩ ⟨(Nat.le_of_ble_eq_true rfl), (Nat.le_of_ble_eq_true rfl)⟩ rfl rfl (Nat.le_of_ble_eq_true rfl) dX10_squares_24 (fun H locs Y => ?_)
            refine W.eq (g2 := F0 m 27 ls [va_rf q9.1]) rfl ?_
            replace h := xb h
            obtain ⟨o10, eo10, h⟩ := h
            have eo10 := Option.some.inj eo10
            rw [eo10]
            refine W.widen (k := 3) (n := 48) (Nat.le_of_ble_eq_true rfl) (Nat.le_of_ble_eq_true rfl) ?_
            refine q_astore_n (lv' := [(3, va_rf o10), (2, .ref q4), (0, .ref h0), (1, .int p1)]) hx hb dX10_squares_27 rfl hl (by decide) rfl (fun ls hl => ?_)
            refine q_aload_n hx hb dX10_squares_28 rfl (lv_at hl 0 rfl) ?_
            refine q_ifnonnull (tgt := 35) hx hb dX10_squares_29 (by decide) (fun c11 => ?_) (fun q12 eq12 => ?_)
            · replace h := xn0 h c11
              subst c11
              have hl : lv_has ls 4 [(3, .null), (2, .ref q4), (0, .ref h0), (1, .int p1)] := hl
              refine lv_bipush (v := -9) hx hb dX10_squares_32 (by decide) ?_
              replace h := Option.some.inj h
              subst h
              exact q_reti X Y hr hlocks (Nat.le_of_ble_eq_true rfl) (Nat.le_of_ble_eq_true rfl) dX10_squares_34
            · replace h := xn1 h eq12
              subst eq12
              have hl : lv_has ls 4 [(3, .ref q12), (2, .ref q4), (0, .ref h0), (1, .int p1)] := hl
              refine lv_aload_n hx hb dX10_squares_35 rfl (lv_at hl 2 rfl) ?_
              replace h := xb h
              obtain ⟨f13, ef13, h⟩ := h
              have ef13 := Option.some.inj ef13
              refine q_new X Y no_X10_227 (Nat.le_of_ble_eq_true rfl) (Nat.le_of_ble_eq_true rfl) dX10_squares_36 (fun H Y => ?_)
              rw [ef13] at Y
              refine lv_dup hx hb dX10_squares_39 rfl ?_
              refine lv_iconst (v := 0) hx hb dX10_squares_40 (by decide) ?_
              refine lv_aload_n hx hb dX10_squares_41 rfl (lv_at hl 1 rfl) ?_
              refine lv_iload_n hx hb dX10_squares_42 rfl (lv_at hl 3 rfl) ?_
              refine lv_aload_n hx hb dX10_squares_43 rfl (lv_at hl 0 rfl) ?_
              replace h := xb h
              obtain ⟨q14, eq14, h⟩ := h
              refine q_callI X Y hl.1 (rest := [.ref q9.2.1, .ref h0]) (As := [.int (0 : Int32), .ref q4, .int p1, .ref q12]) (c_X8_init l G (q9.2.1 + 1) f13 q9.2.1 (0 : Int32) q4 p1 q12 _ eq14) cd_X8_init li_X10_229 ⟨(Nat.le_of_ble_eq_true rfl), (Nat.le_of_ble_eq_true rfl)⟩ ⟨(Nat.le_of_ble_eq_true rfl), (Nat.le_of_ble_eq_true rfl)⟩ rfl rfl (Nat.le_of_ble_eq_true rfl) dX10_squares_44 (fun H locs Y => ?_)
              refine W.eq (g2 := F0 m 47 ls [.ref q9.2.1, .ref h0]) rfl ?_
              by_cases c15 : hKd q14 h0 = some 9
              · replace h := Eq.trans (if_pos c15).symm h
                replace h := xb h
                obtain ⟨q16, eq16, h⟩ := h
                refine q_callV X Y hl.1 (rest := []) (As := [.ref q9.2.1]) (c_X10_keepProof l G (q9.2.1 + 1) q14 h0 q9.2.1 _ eq16) cd_X10_keepProof lv_X10_232_9 c15 ⟨(Nat.le_of_ble_eq_true rfl), (Nat.le_of_ble_eq_true rfl)⟩ ⟨(Nat.le_of_ble_eq_true rfl), (Nat.le_of_ble_eq_true rfl)⟩ rfl rfl (Nat.le_of_ble_eq_true rfl) dX10_squares_47 (fun H locs Y => ?_)
                refine W.eq (g2 := F0 m 50 ls [.int q16.1]) rfl ?_
                replace h := Option.some.inj h
                subst h
                exact q_reti X Y hr hlocks (Nat.le_of_ble_eq_true rfl) (Nat.le_of_ble_eq_true rfl) dX10_squares_50
              replace h := Eq.trans (if_neg c15).symm h
              cases h
          replace h := Eq.trans (if_neg c8).symm h
          cases h
        · replace h := Eq.trans (if_pos c7).symm h
          refine lv_bipush (v := -3) hx hb dX10_squares_19 (by decide) ?_
          replace h := Option.some.inj h
          subst h
          exact q_reti X Y hr hlocks (Nat.le_of_ble_eq_true rfl) (Nat.le_of_ble_eq_true rfl) dX10_squares_21
      replace h := Eq.trans (if_neg c5).symm h
      cases h
  replace h := Eq.trans (if_neg c1).symm h
  cases h
/-! NeverBelow.sidesOf(I)[I -/
abbrev rm_X10_sidesOf : Room := { frames := 3, cells := 1, slots := 8, locals := 86 }
def F_X10_sidesOf (z : Nat) (f : xHp) (h0 : Nat) (p1 : Int32) : Option (Option Nat × Nat × xHp) := Option.bind (hN f h0 [(9, 2)]) fun v1 => Option.bind (F_J7_copyOfRange_feecc z f v1 ((4 : Int32) * p1) (((4 : Int32) * p1) + (4 : Int32))) fun q2 => Option.bind (some q2.1) fun o3 => some (o3, q2.2.1, q2.2.2)
set_option maxRecDepth 100000 in
set_option maxHeartbeats 4000000 in
theorem c_X10_sidesOf (l : Launch) (G : xG) (z : Nat) (f : xHp) (h0 : Nat) (p1 : Int32) (rs : Option Nat × Nat × xHp) (h : F_X10_sidesOf z f h0 p1 = some rs) : xM G l yX10_sidesOf cX10_sidesOf 2 (some (.array .int)) rm_X10_sidesOf [.ref h0, .int p1] z f (some (va_rf rs.1)) rs.2.1 rs.2.2 := by
  refine xM_of (by decide) (Nat.le_of_ble_eq_true rfl) ?_
  intro p e s m below meth c ls X hr hlocks hin Y hl
  have hl : lv_has ls 2 [(0, .ref h0), (1, .int p1)] := hl
  have hx := X.1.1
  have hb := X.1.2.1
  unfold F_X10_sidesOf at h
  refine lv_aload_n hx hb dX10_sidesOf_0 rfl (lv_at hl 0 rfl) ?_
  replace h := xb h
  obtain ⟨v1, ev1, h⟩ := h
  refine q_getN X Y fl_X10_23 ev1 dX10_sidesOf_1 ?_
  refine lv_iconst (v := 4) hx hb dX10_sidesOf_4 (by decide) ?_
  refine lv_iload_n hx hb dX10_sidesOf_5 rfl (lv_at hl 1 rfl) ?_
  refine lv_imul hx hb dX10_sidesOf_6 ?_
  refine lv_iconst (v := 4) hx hb dX10_sidesOf_7 (by decide) ?_
  refine lv_iload_n hx hb dX10_sidesOf_8 rfl (lv_at hl 1 rfl) ?_
  refine lv_imul hx hb dX10_sidesOf_9 ?_
  refine lv_iconst (v := 4) hx hb dX10_sidesOf_10 (by decide) ?_
  refine lv_iadd hx hb dX10_sidesOf_11 ?_
  replace h := xb h
  obtain ⟨q2, eq2, h⟩ := h
  refine q_callS X Y hl.1 (rest := []) (As := [.ref v1, .int ((4 : Int32) * p1), .int (((4 : Int32) * p1) + (4 : Int32))]) (c_J7_copyOfRange_feecc l G z f v1 ((4 : Int32) * p1) (((4 : Int32) * p1) + (4 : Int32)) _ eq2) cd_J7_copyOfRange_feecc ls_X10_311 ⟨(Nat.le_of_ble_eq_true rfl), (Nat.le_of_ble_eq_true rfl)⟩ ⟨(Nat.le_of_ble_eq_true rfl), (Nat.le_of_ble_eq_true rfl)⟩ rfl rfl (Nat.le_of_ble_eq_true rfl) dX10_sidesOf_12 (fun H locs Y => ?_)
  refine W.eq (g2 := F0 m 15 ls [va_rf q2.1]) rfl ?_
  replace h := xb h
  obtain ⟨o3, eo3, h⟩ := h
  have eo3 := Option.some.inj eo3
  rw [eo3]
  refine W.widen (k := 1) (n := 8) (Nat.le_of_ble_eq_true rfl) (Nat.le_of_ble_eq_true rfl) ?_
  replace h := Option.some.inj h
  subst h
  exact q_reta X Y hr (by first | exact Or.inl ⟨_, rfl⟩ | exact Or.inr ⟨_, rfl⟩) hlocks (Nat.le_of_ble_eq_true rfl) (Nat.le_of_ble_eq_true rfl) dX10_sidesOf_15
/-! NeverBelow$CornersProof.<init>(ILNeverBelow$Polynomial;I[JI[I)V -/
abbrev rm_X0_init : Room := { frames := 2, cells := 0, slots := 0, locals := 48 }
def F_X0_init (f : xHp) (h0 : Nat) (p1 : Int32) (p2 : Nat) (p3 : Int32) (p4 : Nat) (p5 : Int32) (p6 : Nat) : Option (xHp) := Option.bind (F_X5_init f h0 p1 p2 p3 p4) fun q1 => Option.bind (hPut q1 h0 [(0, 4), (3, 0)] (.int p5)) fun f2 => Option.bind (hPut f2 h0 [(0, 5), (3, 1)] (.ref p6)) fun f3 => some f3
set_option maxRecDepth 100000 in
set_option maxHeartbeats 4000000 in
theorem c_X0_init (l : Launch) (G : xG) (z : Nat) (f : xHp) (h0 : Nat) (p1 : Int32) (p2 : Nat) (p3 : Int32) (p4 : Nat) (p5 : Int32) (p6 : Nat) (rs : xHp) (h : F_X0_init f h0 p1 p2 p3 p4 p5 p6 = some rs) : xM G l yX0_init cX0_init 7 none rm_X0_init [.ref h0, .int p1, .ref p2, .int p3, .ref p4, .int p5, .ref p6] z f none z rs := by
  refine xM_of (by decide) (Nat.le_of_ble_eq_true rfl) ?_
  intro p e s m below meth c ls X hr hlocks hin Y hl
  have hl : lv_has ls 7 [(0, .ref h0), (1, .int p1), (2, .ref p2), (3, .int p3), (4, .ref p4), (5, .int p5), (6, .ref p6)] := hl
  have hx := X.1.1
  have hb := X.1.2.1
  unfold F_X0_init at h
  refine lv_aload_n hx hb dX0_init_0 rfl (lv_at hl 0 rfl) ?_
  refine lv_iload_n hx hb dX0_init_1 rfl (lv_at hl 1 rfl) ?_
  refine lv_aload_n hx hb dX0_init_2 rfl (lv_at hl 2 rfl) ?_
  refine lv_iload_n hx hb dX0_init_3 rfl (lv_at hl 3 rfl) ?_
  refine lv_aload hx hb dX0_init_4 (lv_at hl 4 rfl) ?_
  replace h := xb h
  obtain ⟨q1, eq1, h⟩ := h
  refine q_callI X Y hl.1 (rest := []) (As := [.int p1, .ref p2, .int p3, .ref p4]) (c_X5_init l G z f h0 p1 p2 p3 p4 _ eq1) cd_X5_init li_X0_3 ⟨(Nat.le_of_ble_eq_true rfl), (Nat.le_of_ble_eq_true rfl)⟩ ⟨(Nat.le_of_ble_eq_true rfl), (Nat.le_of_ble_eq_true rfl)⟩ rfl rfl (Nat.le_of_ble_eq_true rfl) dX0_init_6 (fun H locs Y => ?_)
  refine W.eq (g2 := F0 m 9 ls []) rfl ?_
  refine lv_aload_n hx hb dX0_init_9 rfl (lv_at hl 0 rfl) ?_
  refine lv_iload hx hb dX0_init_10 (lv_at hl 5 rfl) ?_
  replace h := xb h
  obtain ⟨f2, ef2, h⟩ := h
  refine q_putF X Y hin fp_X0_9 rfl rfl ef2 dX0_init_12 (fun H locs Y => ?_)
  refine lv_aload_n hx hb dX0_init_15 rfl (lv_at hl 0 rfl) ?_
  refine lv_aload hx hb dX0_init_16 (lv_at hl 6 rfl) ?_
  replace h := xb h
  obtain ⟨f3, ef3, h⟩ := h
  refine q_putF X Y hin fp_X0_15 rfl rfl ef3 dX0_init_18 (fun H locs Y => ?_)
  replace h := Option.some.inj h
  subst h
  exact q_retv X Y hr hlocks (Nat.le_of_ble_eq_true rfl) (Nat.le_of_ble_eq_true rfl) dX0_init_21

/-! NeverBelowModel.cornerOf(IIIIII)J -/
abbrev rm_X11_cornerOf : Room := { frames := 1, cells := 0, slots := 0, locals := 25 }
def F_X11_cornerOf_6 (f : xHp) (k6 : Nat → Int32 → Int32 → Int32 → Int32 → Int32 → Int32 → Int64 → Int32 → Option (Int64))  (a0 : Nat) (a1 : Int32) (a2 : Int32) (a3 : Int32) (a4 : Int32) (a5 : Int32) (a6 : Int32) (a7 : Int64) (a9 : Int32) : Option (Int64) := if (9 : Int32) ≤ a9 then (some a7) else (if hKd f a0 = some 10 then (Option.bind (F_X11_termOf f a0 a1 a9) fun q3 => Option.bind (F_X11_along f (a9 / (3 : Int32)) (a2 / (3 : Int32)) a3.toInt64 a4.toInt64) fun q4 => Option.bind (F_X11_along f (a9 - a9 / (3 : Int32) * (3 : Int32)) (a2 - a2 / (3 : Int32) * (3 : Int32)) a5.toInt64 a6.toInt64) fun q5 => k6 a0 a1 a2 a3 a4 a5 a6 (a7 + ((q3 * q4) * q5)) (a9 + 1)) else none)
def L_X11_cornerOf_6 (f : xHp)  : Nat → Nat → Int32 → Int32 → Int32 → Int32 → Int32 → Int32 → Int64 → Int32 → Option (Int64)
  | 0, _, _, _, _, _, _, _, _, _ => none
  | n + 1, a0, a1, a2, a3, a4, a5, a6, a7, a9 => F_X11_cornerOf_6 f (L_X11_cornerOf_6 f  n) a0 a1 a2 a3 a4 a5 a6 a7 a9
def F_X11_cornerOf (f : xHp) (h0 : Nat) (p1 : Int32) (p2 : Int32) (p3 : Int32) (p4 : Int32) (p5 : Int32) (p6 : Int32) : Option (Int64) := L_X11_cornerOf_6 f xfuel h0 p1 p2 p3 p4 p5 p6 (0 : Int64) (0 : Int32)
set_option maxRecDepth 100000 in
set_option maxHeartbeats 4000000 in
theorem w_X11_cornerOf_6 {p : Program} {l : Launch} {e : Env} {s : State} {m : MethodId} {args : Array Value} {below : List Frame} {meth : Method} {c : Code} {G : xG} {z : Nat} {f : xHp} (X : xC G p m c s args RX11 cX11_cornerOf 10) (hr : meth.sig.returnType = (some .long)) (hlocks : meth.locks = false) (hin : meth.name = yX11_cornerOf.name) (rs : Int64) (k6 : Nat → Int32 → Int32 → Int32 → Int32 → Int32 → Int32 → Int64 → Int32 → Option (Int64)) (hk6 : ∀ (a0 : Nat) (a1 : Int32) (a2 : Int32) (a3 : Int32) (a4 : Int32) (a5 : Int32) (a6 : Int32) (a7 : Int64) (a9 : Int32) (H : Heap) (locs : List Loc) (ls : Array Slot), k6 a0 a1 a2 a3 a4 a5 a6 a7 a9 = some rs → xY G z f s H locs → lv_has ls 10 [(0, .ref a0), (1, .int a1), (2, .int a2), (3, .int a3), (4, .int a4), (5, .int a5), (6, .int a6), (7, .long a7), (9, .int a9)] → W p l e rm_X11_cornerOf s m args below meth c H locs 0 0 (MQ below (xQ G (some (.long rs)) z f) args s rm_X11_cornerOf.cells rm_X11_cornerOf.slots (xA G)) (F0 m 6 ls [])) (a0 : Nat) (a1 : Int32) (a2 : Int32) (a3 : Int32) (a4 : Int32) (a5 : Int32) (a6 : Int32) (a7 : Int64) (a9 : Int32) (H : Heap) (locs : List Loc) (ls : Array Slot) (h : F_X11_cornerOf_6 f k6 a0 a1 a2 a3 a4 a5 a6 a7 a9 = some rs) (Y : xY G z f s H locs) (hl : lv_has ls 10 [(0, .ref a0), (1, .int a1), (2, .int a2), (3, .int a3), (4, .int a4), (5, .int a5), (6, .int a6), (7, .long a7), (9, .int a9)]) : W p l e rm_X11_cornerOf s m args below meth c H locs 0 0 (MQ below (xQ G (some (.long rs)) z f) args s rm_X11_cornerOf.cells rm_X11_cornerOf.slots (xA G)) (F0 m 6 ls []) := by
  have hx := X.1.1
  have hb := X.1.2.1
  unfold F_X11_cornerOf_6 at h
  refine lv_iload hx hb dX11_cornerOf_6 (lv_at hl 8 rfl) ?_
  refine lv_bipush (v := 9) hx hb dX11_cornerOf_8 (by decide) ?_
  refine lv_icmp_ge (tgt := 64) hx hb dX11_cornerOf_10 (by decide) (fun c1 => ?_) (fun c1 => ?_)
  · replace h := Eq.trans (if_pos c1).symm h
    refine lv_lload hx hb dX11_cornerOf_64 (lv_at hl 7 rfl) ?_
    replace h := Option.some.inj h
    subst h
    exact q_retl X Y hr hlocks (Nat.le_of_ble_eq_true rfl) (Nat.le_of_ble_eq_true rfl) dX11_cornerOf_66
  · replace h := Eq.trans (if_neg c1).symm h
    refine lv_lload hx hb dX11_cornerOf_13 (lv_at hl 7 rfl) ?_
    refine lv_aload_n hx hb dX11_cornerOf_15 rfl (lv_at hl 0 rfl) ?_
    refine lv_iload_n hx hb dX11_cornerOf_16 rfl (lv_at hl 1 rfl) ?_
    refine lv_iload hx hb dX11_cornerOf_17 (lv_at hl 8 rfl) ?_
    by_cases c2 : hKd f a0 = some 10
    · replace h := Eq.trans (if_pos c2).symm h
      replace h := xb h
      obtain ⟨q3, eq3, h⟩ := h
      refine q_callV X Y hl.1 (rest := [.long a7]) (As := [.int a1, .int a9]) (c_X11_termOf l G z f a0 a1 a9 _ eq3) cd_X11_termOf lv_X11_113_10 c2 ⟨(Nat.le_of_ble_eq_true rfl), (Nat.le_of_ble_eq_true rfl)⟩ ⟨(Nat.le_of_ble_eq_true rfl), (Nat.le_of_ble_eq_true rfl)⟩ rfl rfl (Nat.le_of_ble_eq_true rfl) dX11_cornerOf_19 (fun H locs Y => ?_)
      refine W.eq (g2 := F0 m 22 ls [.long q3, .long a7]) rfl ?_
      refine lv_iload hx hb dX11_cornerOf_22 (lv_at hl 8 rfl) ?_
      refine lv_iconst (v := 3) hx hb dX11_cornerOf_24 (by decide) ?_
      refine lv_idiv hx hb dX11_cornerOf_25 (by decide) ?_
      refine lv_iload_n hx hb dX11_cornerOf_26 rfl (lv_at hl 2 rfl) ?_
      refine lv_iconst (v := 3) hx hb dX11_cornerOf_27 (by decide) ?_
      refine lv_idiv hx hb dX11_cornerOf_28 (by decide) ?_
      refine lv_iload_n hx hb dX11_cornerOf_29 rfl (lv_at hl 3 rfl) ?_
      refine lv_i2l hx hb dX11_cornerOf_30 rfl ?_
      refine lv_iload hx hb dX11_cornerOf_31 (lv_at hl 4 rfl) ?_
      refine lv_i2l hx hb dX11_cornerOf_33 rfl ?_
      replace h := xb h
      obtain ⟨q4, eq4, h⟩ := h
      refine q_callS X Y hl.1 (rest := [.long q3, .long a7]) (As := [.int (a9 / (3 : Int32)), .int (a2 / (3 : Int32)), .long a3.toInt64, .long a4.toInt64]) (c_X11_along l G z f (a9 / (3 : Int32)) (a2 / (3 : Int32)) a3.toInt64 a4.toInt64 _ eq4) cd_X11_along ls_X11_147 ⟨(Nat.le_of_ble_eq_true rfl), (Nat.le_of_ble_eq_true rfl)⟩ ⟨(Nat.le_of_ble_eq_true rfl), (Nat.le_of_ble_eq_true rfl)⟩ rfl rfl (Nat.le_of_ble_eq_true rfl) dX11_cornerOf_34 (fun H locs Y => ?_)
      refine W.eq (g2 := F0 m 37 ls [.long q4, .long q3, .long a7]) rfl ?_
      refine lv_lmul hx hb dX11_cornerOf_37 ?_
      refine lv_iload hx hb dX11_cornerOf_38 (lv_at hl 8 rfl) ?_
      refine lv_iconst (v := 3) hx hb dX11_cornerOf_40 (by decide) ?_
      refine lv_irem hx hb dX11_cornerOf_41 (by decide) ?_
      refine lv_iload_n hx hb dX11_cornerOf_42 rfl (lv_at hl 2 rfl) ?_
      refine lv_iconst (v := 3) hx hb dX11_cornerOf_43 (by decide) ?_
      refine lv_irem hx hb dX11_cornerOf_44 (by decide) ?_
      refine lv_iload hx hb dX11_cornerOf_45 (lv_at hl 5 rfl) ?_
      refine lv_i2l hx hb dX11_cornerOf_47 rfl ?_
      refine lv_iload hx hb dX11_cornerOf_48 (lv_at hl 6 rfl) ?_
      refine lv_i2l hx hb dX11_cornerOf_50 rfl ?_
      replace h := xb h
      obtain ⟨q5, eq5, h⟩ := h
      refine q_callS X Y hl.1 (rest := [.long (q3 * q4), .long a7]) (As := [.int (a9 - a9 / (3 : Int32) * (3 : Int32)), .int (a2 - a2 / (3 : Int32) * (3 : Int32)), .long a5.toInt64, .long a6.toInt64]) (c_X11_along l G z f (a9 - a9 / (3 : Int32) * (3 : Int32)) (a2 - a2 / (3 : Int32) * (3 : Int32)) a5.toInt64 a6.toInt64 _ eq5) cd_X11_along ls_X11_147 ⟨(Nat.le_of_ble_eq_true rfl), (Nat.le_of_ble_eq_true rfl)⟩ ⟨(Nat.le_of_ble_eq_true rfl), (Nat.le_of_ble_eq_true rfl)⟩ rfl rfl (Nat.le_of_ble_eq_true rfl) dX11_cornerOf_51 (fun H locs Y => ?_)
      refine W.eq (g2 := F0 m 54 ls [.long q5, .long (q3 * q4), .long a7]) rfl ?_
      refine lv_lmul hx hb dX11_cornerOf_54 ?_
      refine lv_ladd hx hb dX11_cornerOf_55 ?_
      refine lv_lstore (lv' := [(7, .long (a7 + ((q3 * q4) * q5))), (0, .ref a0), (1, .int a1), (2, .int a2), (3, .int a3), (4, .int a4), (5, .int a5), (6, .int a6), (9, .int a9)]) hx hb dX11_cornerOf_56 hl (by decide) rfl (fun ls hl => ?_)
      refine lv_iinc (v := (a9 + 1)) (lv' := [(9, .int (a9 + 1)), (7, .long (a7 + ((q3 * q4) * q5))), (0, .ref a0), (1, .int a1), (2, .int a2), (3, .int a3), (4, .int a4), (5, .int a5), (6, .int a6)]) hx hb dX11_cornerOf_58 hl (k := 8) rfl rfl (by decide) rfl (fun ls hl => ?_)
      refine lv_goto (tgt := 6) hx hb dX11_cornerOf_61 (by decide) ?_
      refine W.widen (k := 0) (n := 0) (Nat.le_of_ble_eq_true rfl) (Nat.le_of_ble_eq_true rfl) ?_
      exact hk6 a0 a1 a2 a3 a4 a5 a6 (a7 + ((q3 * q4) * q5)) (a9 + 1) _ _ _ h Y (lv_sub hl [2, 3, 4, 5, 6, 7, 8, 1, 0] rfl)
    replace h := Eq.trans (if_neg c2).symm h
    cases h
set_option maxRecDepth 100000 in
set_option maxHeartbeats 4000000 in
theorem lw_X11_cornerOf_6 {p : Program} {l : Launch} {e : Env} {s : State} {m : MethodId} {args : Array Value} {below : List Frame} {meth : Method} {c : Code} {G : xG} {z : Nat} {f : xHp} (X : xC G p m c s args RX11 cX11_cornerOf 10) (hr : meth.sig.returnType = (some .long)) (hlocks : meth.locks = false) (hin : meth.name = yX11_cornerOf.name) (rs : Int64)  : ∀ (n : Nat) (a0 : Nat) (a1 : Int32) (a2 : Int32) (a3 : Int32) (a4 : Int32) (a5 : Int32) (a6 : Int32) (a7 : Int64) (a9 : Int32) (H : Heap) (locs : List Loc) (ls : Array Slot), L_X11_cornerOf_6 f  n a0 a1 a2 a3 a4 a5 a6 a7 a9 = some rs → xY G z f s H locs → lv_has ls 10 [(0, .ref a0), (1, .int a1), (2, .int a2), (3, .int a3), (4, .int a4), (5, .int a5), (6, .int a6), (7, .long a7), (9, .int a9)] → W p l e rm_X11_cornerOf s m args below meth c H locs 0 0 (MQ below (xQ G (some (.long rs)) z f) args s rm_X11_cornerOf.cells rm_X11_cornerOf.slots (xA G)) (F0 m 6 ls []) := by
  intro n
  induction n with
  | zero => intro a0 a1 a2 a3 a4 a5 a6 a7 a9 H locs ls h Y hl; cases h
  | succ n ih => intro a0 a1 a2 a3 a4 a5 a6 a7 a9 H locs ls h Y hl; exact w_X11_cornerOf_6 X hr hlocks hin rs _ ih a0 a1 a2 a3 a4 a5 a6 a7 a9 _ _ _ h Y hl
set_option maxRecDepth 100000 in
set_option maxHeartbeats 4000000 in
theorem c_X11_cornerOf (l : Launch) (G : xG) (z : Nat) (f : xHp) (h0 : Nat) (p1 : Int32) (p2 : Int32) (p3 : Int32) (p4 : Int32) (p5 : Int32) (p6 : Int32) (rs : Int64) (h : F_X11_cornerOf f h0 p1 p2 p3 p4 p5 p6 = some rs) : xM G l yX11_cornerOf cX11_cornerOf 10 (some .long) rm_X11_cornerOf [.ref h0, .int p1, .int p2, .int p3, .int p4, .int p5, .int p6] z f (some (.long rs)) z f := by
  refine xM_of (by decide) (Nat.le_of_ble_eq_true rfl) ?_
  intro p e s m below meth c ls X hr hlocks hin Y hl
  have hl : lv_has ls 10 [(0, .ref h0), (1, .int p1), (2, .int p2), (3, .int p3), (4, .int p4), (5, .int p5), (6, .int p6)] := hl
  have hx := X.1.1
  have hb := X.1.2.1
  unfold F_X11_cornerOf at h
  refine lv_lconst (v := 0) hx hb dX11_cornerOf_0 (by decide) ?_
  refine lv_lstore (lv' := [(7, .long (0 : Int64)), (0, .ref h0), (1, .int p1), (2, .int p2), (3, .int p3), (4, .int p4), (5, .int p5), (6, .int p6)]) hx hb dX11_cornerOf_1 hl (by decide) rfl (fun ls hl => ?_)
  refine lv_iconst (v := 0) hx hb dX11_cornerOf_3 (by decide) ?_
  refine lv_istore (lv' := [(9, .int (0 : Int32)), (7, .long (0 : Int64)), (0, .ref h0), (1, .int p1), (2, .int p2), (3, .int p3), (4, .int p4), (5, .int p5), (6, .int p6)]) hx hb dX11_cornerOf_4 hl (by decide) rfl (fun ls hl => ?_)
  refine W.widen (k := 0) (n := 0) (Nat.le_of_ble_eq_true rfl) (Nat.le_of_ble_eq_true rfl) ?_
  exact lw_X11_cornerOf_6 X hr hlocks hin rs  xfuel h0 p1 p2 p3 p4 p5 p6 (0 : Int64) (0 : Int32) _ _ _ h Y (lv_sub hl [2, 3, 4, 5, 6, 7, 8, 1, 0] rfl)
/-! NeverBelowModel.boxCorner(III)J -/
abbrev rm_X11_boxCorner : Room := { frames := 2, cells := 0, slots := 0, locals := 54 }
def F_X11_boxCorner (f : xHp) (h0 : Nat) (p1 : Int32) (p2 : Int32) (p3 : Int32) : Option (Int64) := Option.bind (hN f h0 [(10, 9)]) fun v1 => Option.bind (hIld f v1 ((4 : Int32) * p2)) fun v2 => Option.bind (hN f h0 [(10, 9)]) fun v3 => Option.bind (hIld f v3 (((4 : Int32) * p2) + (1 : Int32))) fun v4 => Option.bind (hN f h0 [(10, 9)]) fun v5 => Option.bind (hIld f v5 (((4 : Int32) * p2) + (2 : Int32))) fun v6 => Option.bind (hN f h0 [(10, 9)]) fun v7 => Option.bind (hIld f v7 (((4 : Int32) * p2) + (3 : Int32))) fun v8 => if hKd f h0 = some 10 then (Option.bind (F_X11_cornerOf f h0 p1 p3 v2 v4 v6 v8) fun q10 => some q10) else none
set_option maxRecDepth 100000 in
set_option maxHeartbeats 4000000 in
theorem c_X11_boxCorner (l : Launch) (G : xG) (z : Nat) (f : xHp) (h0 : Nat) (p1 : Int32) (p2 : Int32) (p3 : Int32) (rs : Int64) (h : F_X11_boxCorner f h0 p1 p2 p3 = some rs) : xM G l yX11_boxCorner cX11_boxCorner 4 (some .long) rm_X11_boxCorner [.ref h0, .int p1, .int p2, .int p3] z f (some (.long rs)) z f := by
  refine xM_of (by decide) (Nat.le_of_ble_eq_true rfl) ?_
  intro p e s m below meth c ls X hr hlocks hin Y hl
  have hl : lv_has ls 4 [(0, .ref h0), (1, .int p1), (2, .int p2), (3, .int p3)] := hl
  have hx := X.1.1
  have hb := X.1.2.1
  unfold F_X11_boxCorner at h
  refine lv_aload_n hx hb dX11_boxCorner_0 rfl (lv_at hl 0 rfl) ?_
  refine lv_iload_n hx hb dX11_boxCorner_1 rfl (lv_at hl 1 rfl) ?_
  refine lv_iload_n hx hb dX11_boxCorner_2 rfl (lv_at hl 3 rfl) ?_
  refine lv_aload_n hx hb dX11_boxCorner_3 rfl (lv_at hl 0 rfl) ?_
  replace h := xb h
  obtain ⟨v1, ev1, h⟩ := h
  refine q_getN X Y fl_X11_26 ev1 dX11_boxCorner_4 ?_
  refine lv_iconst (v := 4) hx hb dX11_boxCorner_7 (by decide) ?_
  refine lv_iload_n hx hb dX11_boxCorner_8 rfl (lv_at hl 2 rfl) ?_
  refine lv_imul hx hb dX11_boxCorner_9 ?_
  replace h := xb h
  obtain ⟨v2, ev2, h⟩ := h
  refine q_iald X Y ev2 dX11_boxCorner_10 ?_
  refine lv_aload_n hx hb dX11_boxCorner_11 rfl (lv_at hl 0 rfl) ?_
  replace h := xb h
  obtain ⟨v3, ev3, h⟩ := h
  refine q_getN X Y fl_X11_26 ev3 dX11_boxCorner_12 ?_
  refine lv_iconst (v := 4) hx hb dX11_boxCorner_15 (by decide) ?_
  refine lv_iload_n hx hb dX11_boxCorner_16 rfl (lv_at hl 2 rfl) ?_
  refine lv_imul hx hb dX11_boxCorner_17 ?_
  refine lv_iconst (v := 1) hx hb dX11_boxCorner_18 (by decide) ?_
  refine lv_iadd hx hb dX11_boxCorner_19 ?_
  replace h := xb h
  obtain ⟨v4, ev4, h⟩ := h
  refine q_iald X Y ev4 dX11_boxCorner_20 ?_
  refine lv_aload_n hx hb dX11_boxCorner_21 rfl (lv_at hl 0 rfl) ?_
  replace h := xb h
  obtain ⟨v5, ev5, h⟩ := h
  refine q_getN X Y fl_X11_26 ev5 dX11_boxCorner_22 ?_
  refine lv_iconst (v := 4) hx hb dX11_boxCorner_25 (by decide) ?_
  refine lv_iload_n hx hb dX11_boxCorner_26 rfl (lv_at hl 2 rfl) ?_
  refine lv_imul hx hb dX11_boxCorner_27 ?_
  refine lv_iconst (v := 2) hx hb dX11_boxCorner_28 (by decide) ?_
  refine lv_iadd hx hb dX11_boxCorner_29 ?_
  replace h := xb h
  obtain ⟨v6, ev6, h⟩ := h
  refine q_iald X Y ev6 dX11_boxCorner_30 ?_
  refine lv_aload_n hx hb dX11_boxCorner_31 rfl (lv_at hl 0 rfl) ?_
  replace h := xb h
  obtain ⟨v7, ev7, h⟩ := h
  refine q_getN X Y fl_X11_26 ev7 dX11_boxCorner_32 ?_
  refine lv_iconst (v := 4) hx hb dX11_boxCorner_35 (by decide) ?_
  refine lv_iload_n hx hb dX11_boxCorner_36 rfl (lv_at hl 2 rfl) ?_
  refine lv_imul hx hb dX11_boxCorner_37 ?_
  refine lv_iconst (v := 3) hx hb dX11_boxCorner_38 (by decide) ?_
  refine lv_iadd hx hb dX11_boxCorner_39 ?_
  replace h := xb h
  obtain ⟨v8, ev8, h⟩ := h
  refine q_iald X Y ev8 dX11_boxCorner_40 ?_
  by_cases c9 : hKd f h0 = some 10
  · replace h := Eq.trans (if_pos c9).symm h
    replace h := xb h
    obtain ⟨q10, eq10, h⟩ := h
    refine q_callV X Y hl.1 (rest := []) (As := [.int p1, .int p3, .int v2, .int v4, .int v6, .int v8]) (c_X11_cornerOf l G z f h0 p1 p3 v2 v4 v6 v8 _ eq10) cd_X11_cornerOf lv_X11_151_10 c9 ⟨(Nat.le_of_ble_eq_true rfl), (Nat.le_of_ble_eq_true rfl)⟩ ⟨(Nat.le_of_ble_eq_true rfl), (Nat.le_of_ble_eq_true rfl)⟩ rfl rfl (Nat.le_of_ble_eq_true rfl) dX11_boxCorner_41 (fun H locs Y => ?_)
    refine W.eq (g2 := F0 m 44 ls [.long q10]) rfl ?_
    replace h := Option.some.inj h
    subst h
    exact q_retl X Y hr hlocks (Nat.le_of_ble_eq_true rfl) (Nat.le_of_ble_eq_true rfl) dX11_boxCorner_44
  replace h := Eq.trans (if_neg c9).symm h
  cases h
/-! NeverBelowModel.corner(III)J -/
abbrev rm_X11_corner : Room := { frames := 3, cells := 0, slots := 0, locals := 77 }
def F_X11_corner_38 (f : xHp)    : Option (Int64) := some (-9223372036854775808 : Int64)
def F_X11_corner (f : xHp) (h0 : Nat) (p1 : Int32) (p2 : Int32) (p3 : Int32) : Option (Int64) := if hKd f h0 = some 10 then (Option.bind (F_X11_isPoly f h0 p1) fun q2 => if q2 = 0 then (F_X11_corner_38 f) else (if hKd f h0 = some 10 then (Option.bind (F_X11_isBox f h0 p2) fun q5 => if q5 = 0 then (F_X11_corner_38 f) else (Option.bind (F_X11_within f p3.toInt64 (0 : Int64) (8 : Int64)) fun q7 => if q7 = 0 then (F_X11_corner_38 f) else (if hKd f h0 = some 10 then (Option.bind (F_X11_boxCorner f h0 p1 p2 p3) fun q10 => some q10) else none))) else none)) else none
set_option maxRecDepth 100000 in
set_option maxHeartbeats 4000000 in
theorem w_X11_corner_38 {p : Program} {l : Launch} {e : Env} {s : State} {m : MethodId} {args : Array Value} {below : List Frame} {meth : Method} {c : Code} {G : xG} {z : Nat} {f : xHp} (X : xC G p m c s args RX11 cX11_corner 4) (hr : meth.sig.returnType = (some .long)) (hlocks : meth.locks = false) (hin : meth.name = yX11_corner.name) (rs : Int64)   (H : Heap) (locs : List Loc) (ls : Array Slot) (h : F_X11_corner_38 f   = some rs) (Y : xY G z f s H locs) (hl : lv_has ls 4 []) : W p l e rm_X11_corner s m args below meth c H locs 0 0 (MQ below (xQ G (some (.long rs)) z f) args s rm_X11_corner.cells rm_X11_corner.slots (xA G)) (F0 m 38 ls []) := by
  have hx := X.1.1
  have hb := X.1.2.1
  unfold F_X11_corner_38 at h
  refine lv_ldc2 (v := -9223372036854775808) hx hb X.1.2.2.2.1 (X.1.2.2.2.2 _ xw_940) dX11_corner_38 ?_
  replace h := Option.some.inj h
  subst h
  exact q_retl X Y hr hlocks (Nat.le_of_ble_eq_true rfl) (Nat.le_of_ble_eq_true rfl) dX11_corner_41
set_option maxRecDepth 100000 in
set_option maxHeartbeats 4000000 in
theorem c_X11_corner (l : Launch) (G : xG) (z : Nat) (f : xHp) (h0 : Nat) (p1 : Int32) (p2 : Int32) (p3 : Int32) (rs : Int64) (h : F_X11_corner f h0 p1 p2 p3 = some rs) : xM G l yX11_corner cX11_corner 4 (some .long) rm_X11_corner [.ref h0, .int p1, .int p2, .int p3] z f (some (.long rs)) z f := by
  refine xM_of (by decide) (Nat.le_of_ble_eq_true rfl) ?_
  intro p e s m below meth c ls X hr hlocks hin Y hl
  have hl : lv_has ls 4 [(0, .ref h0), (1, .int p1), (2, .int p2), (3, .int p3)] := hl
  have hx := X.1.1
  have hb := X.1.2.1
  unfold F_X11_corner at h
  refine lv_aload_n hx hb dX11_corner_0 rfl (lv_at hl 0 rfl) ?_
  refine lv_iload_n hx hb dX11_corner_1 rfl (lv_at hl 1 rfl) ?_
  by_cases c1 : hKd f h0 = some 10
  · replace h := Eq.trans (if_pos c1).symm h
    replace h := xb h
    obtain ⟨q2, eq2, h⟩ := h
    refine q_callV X Y hl.1 (rest := []) (As := [.int p1]) (c_X11_isPoly l G z f h0 p1 _ eq2) cd_X11_isPoly lv_X11_109_10 c1 ⟨(Nat.le_of_ble_eq_true rfl), (Nat.le_of_ble_eq_true rfl)⟩ ⟨(Nat.le_of_ble_eq_true rfl), (Nat.le_of_ble_eq_true rfl)⟩ rfl rfl (Nat.le_of_ble_eq_true rfl) dX11_corner_2 (fun H locs Y => ?_)
    refine W.eq (g2 := F0 m 5 ls [.int q2]) rfl ?_
    refine lv_if_eq (tgt := 38) hx hb dX11_corner_5 (by decide) (fun c3 => ?_) (fun c3 => ?_)
    · replace h := Eq.trans (if_pos c3).symm h
      refine W.widen (k := 0) (n := 0) (Nat.le_of_ble_eq_true rfl) (Nat.le_of_ble_eq_true rfl) ?_
      exact w_X11_corner_38 X hr hlocks hin rs    _ _ _ h Y (lv_sub hl [] rfl)
    · replace h := Eq.trans (if_neg c3).symm h
      refine lv_aload_n hx hb dX11_corner_8 rfl (lv_at hl 0 rfl) ?_
      refine lv_iload_n hx hb dX11_corner_9 rfl (lv_at hl 2 rfl) ?_
      by_cases c4 : hKd f h0 = some 10
      · replace h := Eq.trans (if_pos c4).symm h
        replace h := xb h
        obtain ⟨q5, eq5, h⟩ := h
        refine q_callV X Y hl.1 (rest := []) (As := [.int p2]) (c_X11_isBox l G z f h0 p2 _ eq5) cd_X11_isBox lv_X11_142_10 c4 ⟨(Nat.le_of_ble_eq_true rfl), (Nat.le_of_ble_eq_true rfl)⟩ ⟨(Nat.le_of_ble_eq_true rfl), (Nat.le_of_ble_eq_true rfl)⟩ rfl rfl (Nat.le_of_ble_eq_true rfl) dX11_corner_10 (fun H locs Y => ?_)
        refine W.eq (g2 := F0 m 13 ls [.int q5]) rfl ?_
        refine lv_if_eq (tgt := 38) hx hb dX11_corner_13 (by decide) (fun c6 => ?_) (fun c6 => ?_)
        · replace h := Eq.trans (if_pos c6).symm h
          refine W.widen (k := 0) (n := 0) (Nat.le_of_ble_eq_true rfl) (Nat.le_of_ble_eq_true rfl) ?_
          exact w_X11_corner_38 X hr hlocks hin rs    _ _ _ h Y (lv_sub hl [] rfl)
        · replace h := Eq.trans (if_neg c6).symm h
          refine lv_iload_n hx hb dX11_corner_16 rfl (lv_at hl 3 rfl) ?_
          refine lv_i2l hx hb dX11_corner_17 rfl ?_
          refine lv_lconst (v := 0) hx hb dX11_corner_18 (by decide) ?_
          refine lv_ldc2 (v := 8) hx hb X.1.2.2.2.1 (X.1.2.2.2.2 _ xw_983) dX11_corner_19 ?_
          replace h := xb h
          obtain ⟨q7, eq7, h⟩ := h
          refine q_callS X Y hl.1 (rest := []) (As := [.long p3.toInt64, .long (0 : Int64), .long (8 : Int64)]) (c_X11_within l G z f p3.toInt64 (0 : Int64) (8 : Int64) _ eq7) cd_X11_within ls_X11_82 ⟨(Nat.le_of_ble_eq_true rfl), (Nat.le_of_ble_eq_true rfl)⟩ ⟨(Nat.le_of_ble_eq_true rfl), (Nat.le_of_ble_eq_true rfl)⟩ rfl rfl (Nat.le_of_ble_eq_true rfl) dX11_corner_22 (fun H locs Y => ?_)
          refine W.eq (g2 := F0 m 25 ls [.int q7]) rfl ?_
          refine lv_if_eq (tgt := 38) hx hb dX11_corner_25 (by decide) (fun c8 => ?_) (fun c8 => ?_)
          · replace h := Eq.trans (if_pos c8).symm h
            refine W.widen (k := 0) (n := 0) (Nat.le_of_ble_eq_true rfl) (Nat.le_of_ble_eq_true rfl) ?_
            exact w_X11_corner_38 X hr hlocks hin rs    _ _ _ h Y (lv_sub hl [] rfl)
          · replace h := Eq.trans (if_neg c8).symm h
            refine lv_aload_n hx hb dX11_corner_28 rfl (lv_at hl 0 rfl) ?_
            refine lv_iload_n hx hb dX11_corner_29 rfl (lv_at hl 1 rfl) ?_
            refine lv_iload_n hx hb dX11_corner_30 rfl (lv_at hl 2 rfl) ?_
            refine lv_iload_n hx hb dX11_corner_31 rfl (lv_at hl 3 rfl) ?_
            by_cases c9 : hKd f h0 = some 10
            · replace h := Eq.trans (if_pos c9).symm h
              replace h := xb h
              obtain ⟨q10, eq10, h⟩ := h
              refine q_callV X Y hl.1 (rest := []) (As := [.int p1, .int p2, .int p3]) (c_X11_boxCorner l G z f h0 p1 p2 p3 _ eq10) cd_X11_boxCorner lv_X11_155_10 c9 ⟨(Nat.le_of_ble_eq_true rfl), (Nat.le_of_ble_eq_true rfl)⟩ ⟨(Nat.le_of_ble_eq_true rfl), (Nat.le_of_ble_eq_true rfl)⟩ rfl rfl (Nat.le_of_ble_eq_true rfl) dX11_corner_32 (fun H locs Y => ?_)
              refine W.eq (g2 := F0 m 35 ls [.long q10]) rfl ?_
              refine lv_goto (tgt := 41) hx hb dX11_corner_35 (by decide) ?_
              replace h := Option.some.inj h
              subst h
              exact q_retl X Y hr hlocks (Nat.le_of_ble_eq_true rfl) (Nat.le_of_ble_eq_true rfl) dX11_corner_41
            replace h := Eq.trans (if_neg c9).symm h
            cases h
      replace h := Eq.trans (if_neg c4).symm h
      cases h
  replace h := Eq.trans (if_neg c1).symm h
  cases h
/-! NeverBelowModel.bound(III)J -/
abbrev rm_X11_bound : Room := { frames := 3, cells := 0, slots := 0, locals := 77 }
def F_X11_bound_89 (f : xHp) (k42 : Nat → Int32 → Int32 → Int32 → Int64 → Int32 → Option (Int64))  (a0 : Nat) (a1 : Int32) (a2 : Int32) (a3 : Int32) (a6 : Int32) (s0 : Int64) : Option (Int64) := k42 a0 a1 a2 a3 s0 (a6 + 1)
def F_X11_bound_87 (f : xHp) (k42 : Nat → Int32 → Int32 → Int32 → Int64 → Int32 → Option (Int64))  (a0 : Nat) (a1 : Int32) (a2 : Int32) (a3 : Int32) (a4 : Int64) (a6 : Int32) : Option (Int64) := F_X11_bound_89 f k42 a0 a1 a2 a3 a6 a4
def F_X11_bound_82 (f : xHp) (k42 : Nat → Int32 → Int32 → Int32 → Int64 → Int32 → Option (Int64))  (a0 : Nat) (a1 : Int32) (a2 : Int32) (a3 : Int32) (a6 : Int32) (a7 : Int64) : Option (Int64) := F_X11_bound_89 f k42 a0 a1 a2 a3 a6 a7
def F_X11_bound_42 (f : xHp) (k42 : Nat → Int32 → Int32 → Int32 → Int64 → Int32 → Option (Int64))  (a0 : Nat) (a1 : Int32) (a2 : Int32) (a3 : Int32) (a4 : Int64) (a6 : Int32) : Option (Int64) := if (9 : Int32) ≤ a6 then (some a4) else (if hKd f a0 = some 10 then (Option.bind (F_X11_boxCorner f a0 a1 a2 a6) fun q3 => if a3 = 0 then (if a4 ≤ q3 then (F_X11_bound_87 f k42 a0 a1 a2 a3 a4 a6) else (F_X11_bound_82 f k42 a0 a1 a2 a3 a6 q3)) else (if q3 ≤ a4 then (F_X11_bound_87 f k42 a0 a1 a2 a3 a4 a6) else (F_X11_bound_82 f k42 a0 a1 a2 a3 a6 q3))) else none)
def L_X11_bound_42 (f : xHp)  : Nat → Nat → Int32 → Int32 → Int32 → Int64 → Int32 → Option (Int64)
  | 0, _, _, _, _, _, _ => none
  | n + 1, a0, a1, a2, a3, a4, a6 => F_X11_bound_42 f (L_X11_bound_42 f  n) a0 a1 a2 a3 a4 a6
def F_X11_bound_26 (f : xHp)    : Option (Int64) := some (-9223372036854775808 : Int64)
def F_X11_bound (f : xHp) (h0 : Nat) (p1 : Int32) (p2 : Int32) (p3 : Int32) : Option (Int64) := if hKd f h0 = some 10 then (Option.bind (F_X11_isPoly f h0 p1) fun q2 => if q2 = 0 then (F_X11_bound_26 f) else (if hKd f h0 = some 10 then (Option.bind (F_X11_isBox f h0 p2) fun q5 => if q5 = 0 then (F_X11_bound_26 f) else (Option.bind (F_X11_within f p3.toInt64 (0 : Int64) (1 : Int64)) fun q7 => if q7 = 0 then (F_X11_bound_26 f) else (if hKd f h0 = some 10 then (Option.bind (F_X11_boxCorner f h0 p1 p2 (0 : Int32)) fun q10 => L_X11_bound_42 f xfuel h0 p1 p2 p3 q10 (1 : Int32)) else none))) else none)) else none
set_option maxRecDepth 100000 in
set_option maxHeartbeats 4000000 in
theorem w_X11_bound_89 {p : Program} {l : Launch} {e : Env} {s : State} {m : MethodId} {args : Array Value} {below : List Frame} {meth : Method} {c : Code} {G : xG} {z : Nat} {f : xHp} (X : xC G p m c s args RX11 cX11_bound 9) (hr : meth.sig.returnType = (some .long)) (hlocks : meth.locks = false) (hin : meth.name = yX11_bound.name) (rs : Int64) (k42 : Nat → Int32 → Int32 → Int32 → Int64 → Int32 → Option (Int64)) (hk42 : ∀ (a0 : Nat) (a1 : Int32) (a2 : Int32) (a3 : Int32) (a4 : Int64) (a6 : Int32) (H : Heap) (locs : List Loc) (ls : Array Slot), k42 a0 a1 a2 a3 a4 a6 = some rs → xY G z f s H locs → lv_has ls 9 [(0, .ref a0), (1, .int a1), (2, .int a2), (3, .int a3), (4, .long a4), (6, .int a6)] → W p l e rm_X11_bound s m args below meth c H locs 0 0 (MQ below (xQ G (some (.long rs)) z f) args s rm_X11_bound.cells rm_X11_bound.slots (xA G)) (F0 m 42 ls [])) (a0 : Nat) (a1 : Int32) (a2 : Int32) (a3 : Int32) (a6 : Int32) (s0 : Int64) (H : Heap) (locs : List Loc) (ls : Array Slot) (h : F_X11_bound_89 f k42 a0 a1 a2 a3 a6 s0 = some rs) (Y : xY G z f s H locs) (hl : lv_has ls 9 [(0, .ref a0), (1, .int a1), (2, .int a2), (3, .int a3), (6, .int a6)]) : W p l e rm_X11_bound s m args below meth c H locs 0 0 (MQ below (xQ G (some (.long rs)) z f) args s rm_X11_bound.cells rm_X11_bound.slots (xA G)) (F0 m 89 ls [.long s0]) := by
  have hx := X.1.1
  have hb := X.1.2.1
  unfold F_X11_bound_89 at h
  refine lv_lstore (lv' := [(4, .long s0), (0, .ref a0), (1, .int a1), (2, .int a2), (3, .int a3), (6, .int a6)]) hx hb dX11_bound_89 hl (by decide) rfl (fun ls hl => ?_)
  refine lv_iinc (v := (a6 + 1)) (lv' := [(6, .int (a6 + 1)), (4, .long s0), (0, .ref a0), (1, .int a1), (2, .int a2), (3, .int a3)]) hx hb dX11_bound_91 hl (k := 5) rfl rfl (by decide) rfl (fun ls hl => ?_)
  refine lv_goto (tgt := 42) hx hb dX11_bound_94 (by decide) ?_
  refine W.widen (k := 0) (n := 0) (Nat.le_of_ble_eq_true rfl) (Nat.le_of_ble_eq_true rfl) ?_
  exact hk42 a0 a1 a2 a3 s0 (a6 + 1) _ _ _ h Y (lv_sub hl [2, 3, 4, 5, 1, 0] rfl)
set_option maxRecDepth 100000 in
set_option maxHeartbeats 4000000 in
theorem w_X11_bound_87 {p : Program} {l : Launch} {e : Env} {s : State} {m : MethodId} {args : Array Value} {below : List Frame} {meth : Method} {c : Code} {G : xG} {z : Nat} {f : xHp} (X : xC G p m c s args RX11 cX11_bound 9) (hr : meth.sig.returnType = (some .long)) (hlocks : meth.locks = false) (hin : meth.name = yX11_bound.name) (rs : Int64) (k42 : Nat → Int32 → Int32 → Int32 → Int64 → Int32 → Option (Int64)) (hk42 : ∀ (a0 : Nat) (a1 : Int32) (a2 : Int32) (a3 : Int32) (a4 : Int64) (a6 : Int32) (H : Heap) (locs : List Loc) (ls : Array Slot), k42 a0 a1 a2 a3 a4 a6 = some rs → xY G z f s H locs → lv_has ls 9 [(0, .ref a0), (1, .int a1), (2, .int a2), (3, .int a3), (4, .long a4), (6, .int a6)] → W p l e rm_X11_bound s m args below meth c H locs 0 0 (MQ below (xQ G (some (.long rs)) z f) args s rm_X11_bound.cells rm_X11_bound.slots (xA G)) (F0 m 42 ls [])) (a0 : Nat) (a1 : Int32) (a2 : Int32) (a3 : Int32) (a4 : Int64) (a6 : Int32) (H : Heap) (locs : List Loc) (ls : Array Slot) (h : F_X11_bound_87 f k42 a0 a1 a2 a3 a4 a6 = some rs) (Y : xY G z f s H locs) (hl : lv_has ls 9 [(0, .ref a0), (1, .int a1), (2, .int a2), (3, .int a3), (4, .long a4), (6, .int a6)]) : W p l e rm_X11_bound s m args below meth c H locs 0 0 (MQ below (xQ G (some (.long rs)) z f) args s rm_X11_bound.cells rm_X11_bound.slots (xA G)) (F0 m 87 ls []) := by
  have hx := X.1.1
  have hb := X.1.2.1
  unfold F_X11_bound_87 at h
  refine lv_lload hx hb dX11_bound_87 (lv_at hl 4 rfl) ?_
  refine W.widen (k := 0) (n := 0) (Nat.le_of_ble_eq_true rfl) (Nat.le_of_ble_eq_true rfl) ?_
  exact w_X11_bound_89 X hr hlocks hin rs k42 hk42  a0 a1 a2 a3 a6 a4 _ _ _ h Y (lv_sub hl [0, 1, 2, 3, 5] rfl)
set_option maxRecDepth 100000 in
set_option maxHeartbeats 4000000 in
theorem w_X11_bound_82 {p : Program} {l : Launch} {e : Env} {s : State} {m : MethodId} {args : Array Value} {below : List Frame} {meth : Method} {c : Code} {G : xG} {z : Nat} {f : xHp} (X : xC G p m c s args RX11 cX11_bound 9) (hr : meth.sig.returnType = (some .long)) (hlocks : meth.locks = false) (hin : meth.name = yX11_bound.name) (rs : Int64) (k42 : Nat → Int32 → Int32 → Int32 → Int64 → Int32 → Option (Int64)) (hk42 : ∀ (a0 : Nat) (a1 : Int32) (a2 : Int32) (a3 : Int32) (a4 : Int64) (a6 : Int32) (H : Heap) (locs : List Loc) (ls : Array Slot), k42 a0 a1 a2 a3 a4 a6 = some rs → xY G z f s H locs → lv_has ls 9 [(0, .ref a0), (1, .int a1), (2, .int a2), (3, .int a3), (4, .long a4), (6, .int a6)] → W p l e rm_X11_bound s m args below meth c H locs 0 0 (MQ below (xQ G (some (.long rs)) z f) args s rm_X11_bound.cells rm_X11_bound.slots (xA G)) (F0 m 42 ls [])) (a0 : Nat) (a1 : Int32) (a2 : Int32) (a3 : Int32) (a6 : Int32) (a7 : Int64) (H : Heap) (locs : List Loc) (ls : Array Slot) (h : F_X11_bound_82 f k42 a0 a1 a2 a3 a6 a7 = some rs) (Y : xY G z f s H locs) (hl : lv_has ls 9 [(0, .ref a0), (1, .int a1), (2, .int a2), (3, .int a3), (6, .int a6), (7, .long a7)]) : W p l e rm_X11_bound s m args below meth c H locs 0 0 (MQ below (xQ G (some (.long rs)) z f) args s rm_X11_bound.cells rm_X11_bound.slots (xA G)) (F0 m 82 ls []) := by
  have hx := X.1.1
  have hb := X.1.2.1
  unfold F_X11_bound_82 at h
  refine lv_lload hx hb dX11_bound_82 (lv_at hl 5 rfl) ?_
  refine lv_goto (tgt := 89) hx hb dX11_bound_84 (by decide) ?_
  refine W.widen (k := 0) (n := 0) (Nat.le_of_ble_eq_true rfl) (Nat.le_of_ble_eq_true rfl) ?_
  exact w_X11_bound_89 X hr hlocks hin rs k42 hk42  a0 a1 a2 a3 a6 a7 _ _ _ h Y (lv_sub hl [0, 1, 2, 3, 4] rfl)
set_option maxRecDepth 100000 in
set_option maxHeartbeats 4000000 in
theorem w_X11_bound_42 {p : Program} {l : Launch} {e : Env} {s : State} {m : MethodId} {args : Array Value} {below : List Frame} {meth : Method} {c : Code} {G : xG} {z : Nat} {f : xHp} (X : xC G p m c s args RX11 cX11_bound 9) (hr : meth.sig.returnType = (some .long)) (hlocks : meth.locks = false) (hin : meth.name = yX11_bound.name) (rs : Int64) (k42 : Nat → Int32 → Int32 → Int32 → Int64 → Int32 → Option (Int64)) (hk42 : ∀ (a0 : Nat) (a1 : Int32) (a2 : Int32) (a3 : Int32) (a4 : Int64) (a6 : Int32) (H : Heap) (locs : List Loc) (ls : Array Slot), k42 a0 a1 a2 a3 a4 a6 = some rs → xY G z f s H locs → lv_has ls 9 [(0, .ref a0), (1, .int a1), (2, .int a2), (3, .int a3), (4, .long a4), (6, .int a6)] → W p l e rm_X11_bound s m args below meth c H locs 0 0 (MQ below (xQ G (some (.long rs)) z f) args s rm_X11_bound.cells rm_X11_bound.slots (xA G)) (F0 m 42 ls [])) (a0 : Nat) (a1 : Int32) (a2 : Int32) (a3 : Int32) (a4 : Int64) (a6 : Int32) (H : Heap) (locs : List Loc) (ls : Array Slot) (h : F_X11_bound_42 f k42 a0 a1 a2 a3 a4 a6 = some rs) (Y : xY G z f s H locs) (hl : lv_has ls 9 [(0, .ref a0), (1, .int a1), (2, .int a2), (3, .int a3), (4, .long a4), (6, .int a6)]) : W p l e rm_X11_bound s m args below meth c H locs 0 0 (MQ below (xQ G (some (.long rs)) z f) args s rm_X11_bound.cells rm_X11_bound.slots (xA G)) (F0 m 42 ls []) := by
  have hx := X.1.1
  have hb := X.1.2.1
  unfold F_X11_bound_42 at h
  refine lv_iload hx hb dX11_bound_42 (lv_at hl 5 rfl) ?_
  refine lv_bipush (v := 9) hx hb dX11_bound_44 (by decide) ?_
  refine lv_icmp_ge (tgt := 97) hx hb dX11_bound_46 (by decide) (fun c1 => ?_) (fun c1 => ?_)
  · replace h := Eq.trans (if_pos c1).symm h
    refine lv_lload hx hb dX11_bound_97 (lv_at hl 4 rfl) ?_
    replace h := Option.some.inj h
    subst h
    exact q_retl X Y hr hlocks (Nat.le_of_ble_eq_true rfl) (Nat.le_of_ble_eq_true rfl) dX11_bound_99
  · replace h := Eq.trans (if_neg c1).symm h
    refine lv_aload_n hx hb dX11_bound_49 rfl (lv_at hl 0 rfl) ?_
    refine lv_iload_n hx hb dX11_bound_50 rfl (lv_at hl 1 rfl) ?_
    refine lv_iload_n hx hb dX11_bound_51 rfl (lv_at hl 2 rfl) ?_
    refine lv_iload hx hb dX11_bound_52 (lv_at hl 5 rfl) ?_
    by_cases c2 : hKd f a0 = some 10
    · replace h := Eq.trans (if_pos c2).symm h
      replace h := xb h
      obtain ⟨q3, eq3, h⟩ := h
      refine q_callV X Y hl.1 (rest := []) (As := [.int a1, .int a2, .int a6]) (c_X11_boxCorner l G z f a0 a1 a2 a6 _ eq3) cd_X11_boxCorner lv_X11_155_10 c2 ⟨(Nat.le_of_ble_eq_true rfl), (Nat.le_of_ble_eq_true rfl)⟩ ⟨(Nat.le_of_ble_eq_true rfl), (Nat.le_of_ble_eq_true rfl)⟩ rfl rfl (Nat.le_of_ble_eq_true rfl) dX11_bound_54 (fun H locs Y => ?_)
      refine W.eq (g2 := F0 m 57 ls [.long q3]) rfl ?_
      refine lv_lstore (lv' := [(7, .long q3), (0, .ref a0), (1, .int a1), (2, .int a2), (3, .int a3), (4, .long a4), (6, .int a6)]) hx hb dX11_bound_57 hl (by decide) rfl (fun ls hl => ?_)
      refine lv_iload_n hx hb dX11_bound_59 rfl (lv_at hl 4 rfl) ?_
      refine lv_if_ne (tgt := 74) hx hb dX11_bound_60 (by decide) (fun c4 => ?_) (fun c4 => ?_)
      · replace h := Eq.trans (if_neg c4).symm h
        refine lv_lload hx hb dX11_bound_74 (lv_at hl 0 rfl) ?_
        refine lv_lload hx hb dX11_bound_76 (lv_at hl 5 rfl) ?_
        refine q_lcmp_le (tgt := 87) hx hb dX11_bound_78 dX11_bound_79 (by decide) (fun c5 => ?_) (fun c5 => ?_)
        · replace h := Eq.trans (if_pos c5).symm h
          refine W.widen (k := 0) (n := 0) (Nat.le_of_ble_eq_true rfl) (Nat.le_of_ble_eq_true rfl) ?_
          exact w_X11_bound_87 X hr hlocks hin rs k42 hk42  a0 a1 a2 a3 a4 a6 _ _ _ h Y (lv_sub hl [1, 2, 3, 4, 5, 6] rfl)
        · replace h := Eq.trans (if_neg c5).symm h
          refine W.widen (k := 0) (n := 0) (Nat.le_of_ble_eq_true rfl) (Nat.le_of_ble_eq_true rfl) ?_
          exact w_X11_bound_82 X hr hlocks hin rs k42 hk42  a0 a1 a2 a3 a6 q3 _ _ _ h Y (lv_sub hl [1, 2, 3, 4, 6, 0] rfl)
      · replace h := Eq.trans (if_pos c4).symm h
        refine lv_lload hx hb dX11_bound_63 (lv_at hl 0 rfl) ?_
        refine lv_lload hx hb dX11_bound_65 (lv_at hl 5 rfl) ?_
        refine q_lcmp_ge (tgt := 87) hx hb dX11_bound_67 dX11_bound_68 (by decide) (fun c6 => ?_) (fun c6 => ?_)
        · replace h := Eq.trans (if_pos c6).symm h
          refine W.widen (k := 0) (n := 0) (Nat.le_of_ble_eq_true rfl) (Nat.le_of_ble_eq_true rfl) ?_
          exact w_X11_bound_87 X hr hlocks hin rs k42 hk42  a0 a1 a2 a3 a4 a6 _ _ _ h Y (lv_sub hl [1, 2, 3, 4, 5, 6] rfl)
        · replace h := Eq.trans (if_neg c6).symm h
          refine lv_goto (tgt := 82) hx hb dX11_bound_71 (by decide) ?_
          refine W.widen (k := 0) (n := 0) (Nat.le_of_ble_eq_true rfl) (Nat.le_of_ble_eq_true rfl) ?_
          exact w_X11_bound_82 X hr hlocks hin rs k42 hk42  a0 a1 a2 a3 a6 q3 _ _ _ h Y (lv_sub hl [1, 2, 3, 4, 6, 0] rfl)
    replace h := Eq.trans (if_neg c2).symm h
    cases h
set_option maxRecDepth 100000 in
set_option maxHeartbeats 4000000 in
theorem lw_X11_bound_42 {p : Program} {l : Launch} {e : Env} {s : State} {m : MethodId} {args : Array Value} {below : List Frame} {meth : Method} {c : Code} {G : xG} {z : Nat} {f : xHp} (X : xC G p m c s args RX11 cX11_bound 9) (hr : meth.sig.returnType = (some .long)) (hlocks : meth.locks = false) (hin : meth.name = yX11_bound.name) (rs : Int64)  : ∀ (n : Nat) (a0 : Nat) (a1 : Int32) (a2 : Int32) (a3 : Int32) (a4 : Int64) (a6 : Int32) (H : Heap) (locs : List Loc) (ls : Array Slot), L_X11_bound_42 f  n a0 a1 a2 a3 a4 a6 = some rs → xY G z f s H locs → lv_has ls 9 [(0, .ref a0), (1, .int a1), (2, .int a2), (3, .int a3), (4, .long a4), (6, .int a6)] → W p l e rm_X11_bound s m args below meth c H locs 0 0 (MQ below (xQ G (some (.long rs)) z f) args s rm_X11_bound.cells rm_X11_bound.slots (xA G)) (F0 m 42 ls []) := by
  intro n
  induction n with
  | zero => intro a0 a1 a2 a3 a4 a6 H locs ls h Y hl; cases h
  | succ n ih => intro a0 a1 a2 a3 a4 a6 H locs ls h Y hl; exact w_X11_bound_42 X hr hlocks hin rs _ ih a0 a1 a2 a3 a4 a6 _ _ _ h Y hl
set_option maxRecDepth 100000 in
set_option maxHeartbeats 4000000 in
theorem w_X11_bound_26 {p : Program} {l : Launch} {e : Env} {s : State} {m : MethodId} {args : Array Value} {below : List Frame} {meth : Method} {c : Code} {G : xG} {z : Nat} {f : xHp} (X : xC G p m c s args RX11 cX11_bound 9) (hr : meth.sig.returnType = (some .long)) (hlocks : meth.locks = false) (hin : meth.name = yX11_bound.name) (rs : Int64)   (H : Heap) (locs : List Loc) (ls : Array Slot) (h : F_X11_bound_26 f   = some rs) (Y : xY G z f s H locs) (hl : lv_has ls 9 []) : W p l e rm_X11_bound s m args below meth c H locs 0 0 (MQ below (xQ G (some (.long rs)) z f) args s rm_X11_bound.cells rm_X11_bound.slots (xA G)) (F0 m 26 ls []) := by
  have hx := X.1.1
  have hb := X.1.2.1
  unfold F_X11_bound_26 at h
  refine lv_ldc2 (v := -9223372036854775808) hx hb X.1.2.2.2.1 (X.1.2.2.2.2 _ xw_940) dX11_bound_26 ?_
  replace h := Option.some.inj h
  subst h
  exact q_retl X Y hr hlocks (Nat.le_of_ble_eq_true rfl) (Nat.le_of_ble_eq_true rfl) dX11_bound_29
set_option maxRecDepth 100000 in
set_option maxHeartbeats 4000000 in
theorem c_X11_bound (l : Launch) (G : xG) (z : Nat) (f : xHp) (h0 : Nat) (p1 : Int32) (p2 : Int32) (p3 : Int32) (rs : Int64) (h : F_X11_bound f h0 p1 p2 p3 = some rs) : xM G l yX11_bound cX11_bound 9 (some .long) rm_X11_bound [.ref h0, .int p1, .int p2, .int p3] z f (some (.long rs)) z f := by
  refine xM_of (by decide) (Nat.le_of_ble_eq_true rfl) ?_
  intro p e s m below meth c ls X hr hlocks hin Y hl
  have hl : lv_has ls 9 [(0, .ref h0), (1, .int p1), (2, .int p2), (3, .int p3)] := hl
  have hx := X.1.1
  have hb := X.1.2.1
  unfold F_X11_bound at h
  refine lv_aload_n hx hb dX11_bound_0 rfl (lv_at hl 0 rfl) ?_
  refine lv_iload_n hx hb dX11_bound_1 rfl (lv_at hl 1 rfl) ?_
  by_cases c1 : hKd f h0 = some 10
  · replace h := Eq.trans (if_pos c1).symm h
    replace h := xb h
    obtain ⟨q2, eq2, h⟩ := h
    refine q_callV X Y hl.1 (rest := []) (As := [.int p1]) (c_X11_isPoly l G z f h0 p1 _ eq2) cd_X11_isPoly lv_X11_109_10 c1 ⟨(Nat.le_of_ble_eq_true rfl), (Nat.le_of_ble_eq_true rfl)⟩ ⟨(Nat.le_of_ble_eq_true rfl), (Nat.le_of_ble_eq_true rfl)⟩ rfl rfl (Nat.le_of_ble_eq_true rfl) dX11_bound_2 (fun H locs Y => ?_)
    refine W.eq (g2 := F0 m 5 ls [.int q2]) rfl ?_
    refine lv_if_eq (tgt := 26) hx hb dX11_bound_5 (by decide) (fun c3 => ?_) (fun c3 => ?_)
    · replace h := Eq.trans (if_pos c3).symm h
      refine W.widen (k := 0) (n := 0) (Nat.le_of_ble_eq_true rfl) (Nat.le_of_ble_eq_true rfl) ?_
      exact w_X11_bound_26 X hr hlocks hin rs    _ _ _ h Y (lv_sub hl [] rfl)
    · replace h := Eq.trans (if_neg c3).symm h
      refine lv_aload_n hx hb dX11_bound_8 rfl (lv_at hl 0 rfl) ?_
      refine lv_iload_n hx hb dX11_bound_9 rfl (lv_at hl 2 rfl) ?_
      by_cases c4 : hKd f h0 = some 10
      · replace h := Eq.trans (if_pos c4).symm h
        replace h := xb h
        obtain ⟨q5, eq5, h⟩ := h
        refine q_callV X Y hl.1 (rest := []) (As := [.int p2]) (c_X11_isBox l G z f h0 p2 _ eq5) cd_X11_isBox lv_X11_142_10 c4 ⟨(Nat.le_of_ble_eq_true rfl), (Nat.le_of_ble_eq_true rfl)⟩ ⟨(Nat.le_of_ble_eq_true rfl), (Nat.le_of_ble_eq_true rfl)⟩ rfl rfl (Nat.le_of_ble_eq_true rfl) dX11_bound_10 (fun H locs Y => ?_)
        refine W.eq (g2 := F0 m 13 ls [.int q5]) rfl ?_
        refine lv_if_eq (tgt := 26) hx hb dX11_bound_13 (by decide) (fun c6 => ?_) (fun c6 => ?_)
        · replace h := Eq.trans (if_pos c6).symm h
          refine W.widen (k := 0) (n := 0) (Nat.le_of_ble_eq_true rfl) (Nat.le_of_ble_eq_true rfl) ?_
          exact w_X11_bound_26 X hr hlocks hin rs    _ _ _ h Y (lv_sub hl [] rfl)
        · replace h := Eq.trans (if_neg c6).symm h
          refine lv_iload_n hx hb dX11_bound_16 rfl (lv_at hl 3 rfl) ?_
          refine lv_i2l hx hb dX11_bound_17 rfl ?_
          refine lv_lconst (v := 0) hx hb dX11_bound_18 (by decide) ?_
          refine lv_lconst (v := 1) hx hb dX11_bound_19 (by decide) ?_
          replace h := xb h
          obtain ⟨q7, eq7, h⟩ := h
          refine q_callS X Y hl.1 (rest := []) (As := [.long p3.toInt64, .long (0 : Int64), .long (1 : Int64)]) (c_X11_within l G z f p3.toInt64 (0 : Int64) (1 : Int64) _ eq7) cd_X11_within ls_X11_82 ⟨(Nat.le_of_ble_eq_true rfl), (Nat.le_of_ble_eq_true rfl)⟩ ⟨(Nat.le_of_ble_eq_true rfl), (Nat.le_of_ble_eq_true rfl)⟩ rfl rfl (Nat.le_of_ble_eq_true rfl) dX11_bound_20 (fun H locs Y => ?_)
          refine W.eq (g2 := F0 m 23 ls [.int q7]) rfl ?_
          refine lv_if_ne (tgt := 30) hx hb dX11_bound_23 (by decide) (fun c8 => ?_) (fun c8 => ?_)
          · replace h := Eq.trans (if_neg c8).symm h
            refine lv_aload_n hx hb dX11_bound_30 rfl (lv_at hl 0 rfl) ?_
            refine lv_iload_n hx hb dX11_bound_31 rfl (lv_at hl 1 rfl) ?_
            refine lv_iload_n hx hb dX11_bound_32 rfl (lv_at hl 2 rfl) ?_
            refine lv_iconst (v := 0) hx hb dX11_bound_33 (by decide) ?_
            by_cases c9 : hKd f h0 = some 10
            · replace h := Eq.trans (if_pos c9).symm h
              replace h := xb h
              obtain ⟨q10, eq10, h⟩ := h
              refine q_callV X Y hl.1 (rest := []) (As := [.int p1, .int p2, .int (0 : Int32)]) (c_X11_boxCorner l G z f h0 p1 p2 (0 : Int32) _ eq10) cd_X11_boxCorner lv_X11_155_10 c9 ⟨(Nat.le_of_ble_eq_true rfl), (Nat.le_of_ble_eq_true rfl)⟩ ⟨(Nat.le_of_ble_eq_true rfl), (Nat.le_of_ble_eq_true rfl)⟩ rfl rfl (Nat.le_of_ble_eq_true rfl) dX11_bound_34 (fun H locs Y => ?_)
              refine W.eq (g2 := F0 m 37 ls [.long q10]) rfl ?_
              refine lv_lstore (lv' := [(4, .long q10), (0, .ref h0), (1, .int p1), (2, .int p2), (3, .int p3)]) hx hb dX11_bound_37 hl (by decide) rfl (fun ls hl => ?_)
              refine lv_iconst (v := 1) hx hb dX11_bound_39 (by decide) ?_
              refine lv_istore (lv' := [(6, .int (1 : Int32)), (4, .long q10), (0, .ref h0), (1, .int p1), (2, .int p2), (3, .int p3)]) hx hb dX11_bound_40 hl (by decide) rfl (fun ls hl => ?_)
              refine W.widen (k := 0) (n := 0) (Nat.le_of_ble_eq_true rfl) (Nat.le_of_ble_eq_true rfl) ?_
              exact lw_X11_bound_42 X hr hlocks hin rs  xfuel h0 p1 p2 p3 q10 (1 : Int32) _ _ _ h Y (lv_sub hl [2, 3, 4, 5, 1, 0] rfl)
            replace h := Eq.trans (if_neg c9).symm h
            cases h
          · replace h := Eq.trans (if_pos c8).symm h
            refine W.widen (k := 0) (n := 0) (Nat.le_of_ble_eq_true rfl) (Nat.le_of_ble_eq_true rfl) ?_
            exact w_X11_bound_26 X hr hlocks hin rs    _ _ _ h Y (lv_sub hl [] rfl)
      replace h := Eq.trans (if_neg c4).symm h
      cases h
  replace h := Eq.trans (if_neg c1).symm h
  cases h
/-! NeverBelowModel.cut(II)I -/
abbrev rm_X11_cut : Room := { frames := 1, cells := 0, slots := 0, locals := 25 }
def F_X11_cut_84  (f : xHp) (a0 : Nat) (a2 : Int32) (a3 : Int32) (a4 : Int32) (a5 : Int32) (a6 : Int32) (s0 : Int32) : Option (Int32 × xHp) := if (s0 - s0 / (2 : Int32) * (2 : Int32)) = 0 then (Option.bind (hI f a0 [(10, 8)]) fun v2 => if (v2 + (2 : Int32)) ≤ (30 : Int32) then (Option.bind (hI f a0 [(10, 8)]) fun v4 => if a2 = 0 then (if hKd f a0 = some 10 then (Option.bind (F_X11_newBox f a0 a3 ((a3 + a4) / (2 : Int32)) a5 a6) fun q11 => if hKd q11.2 a0 = some 10 then (Option.bind (F_X11_newBox q11.2 a0 ((a3 + a4) / (2 : Int32)) a4 a5 a6) fun q13 => some (v4, q13.2)) else none) else none) else (if hKd f a0 = some 10 then (Option.bind (F_X11_newBox f a0 a3 a4 a5 ((a5 + a6) / (2 : Int32))) fun q7 => if hKd q7.2 a0 = some 10 then (Option.bind (F_X11_newBox q7.2 a0 a3 a4 ((a5 + a6) / (2 : Int32)) a6) fun q9 => some (v4, q9.2)) else none) else none)) else (some ((-4 : Int32), f))) else (some ((-3 : Int32), f))
def F_X11_cut (f : xHp) (h0 : Nat) (p1 : Int32) (p2 : Int32) : Option (Int32 × xHp) := if hKd f h0 = some 10 then (Option.bind (F_X11_isBox f h0 p1) fun q2 => if q2 = 0 then (some ((-1 : Int32), f)) else (Option.bind (F_X11_within f p2.toInt64 (0 : Int64) (1 : Int64)) fun q4 => if q4 = 0 then (some ((-2 : Int32), f)) else (Option.bind (hN f h0 [(10, 9)]) fun v6 => Option.bind (hIld f v6 ((4 : Int32) * p1)) fun v7 => Option.bind (hN f h0 [(10, 9)]) fun v8 => Option.bind (hIld f v8 (((4 : Int32) * p1) + (1 : Int32))) fun v9 => Option.bind (hN f h0 [(10, 9)]) fun v10 => Option.bind (hIld f v10 (((4 : Int32) * p1) + (2 : Int32))) fun v11 => Option.bind (hN f h0 [(10, 9)]) fun v12 => Option.bind (hIld f v12 (((4 : Int32) * p1) + (3 : Int32))) fun v13 => if p2 = 0 then (F_X11_cut_84 f h0 p2 v7 v9 v11 v13 (v9 - v7)) else (F_X11_cut_84 f h0 p2 v7 v9 v11 v13 (v13 - v11))))) else none
set_option maxRecDepth 100000 in
set_option maxHeartbeats 4000000 in
theorem w_X11_cut_84 {p : Program} {l : Launch} {e : Env} {s : State} {m : MethodId} {args : Array Value} {below : List Frame} {meth : Method} {c : Code} {G : xG} {z : Nat} (X : xC G p m c s args RX11 cX11_cut 9) (hr : meth.sig.returnType = (some .int)) (hlocks : meth.locks = false) (hin : meth.name = yX11_cut.name) (rs : Int32 × xHp)  (f : xHp) (a0 : Nat) (a2 : Int32) (a3 : Int32) (a4 : Int32) (a5 : Int32) (a6 : Int32) (s0 : Int32) (H : Heap) (locs : List Loc) (ls : Array Slot) (h : F_X11_cut_84  f a0 a2 a3 a4 a5 a6 s0 = some rs) (Y : xY G z f s H locs) (hl : lv_has ls 9 [(0, .ref a0), (2, .int a2), (3, .int a3), (4, .int a4), (5, .int a5), (6, .int a6)]) : W p l e rm_X11_cut s m args below meth c H locs 0 0 (MQ below (xQ G (some (.int rs.1)) z rs.2) args s rm_X11_cut.cells rm_X11_cut.slots (xA G)) (F0 m 84 ls [.int s0]) := by
  have hx := X.1.1
  have hb := X.1.2.1
  unfold F_X11_cut_84 at h
  refine lv_iconst (v := 2) hx hb dX11_cut_84 (by decide) ?_
  refine lv_irem hx hb dX11_cut_85 (by decide) ?_
  refine lv_if_eq (tgt := 92) hx hb dX11_cut_86 (by decide) (fun c1 => ?_) (fun c1 => ?_)
  · replace h := Eq.trans (if_pos c1).symm h
    refine lv_aload_n hx hb dX11_cut_92 rfl (lv_at hl 0 rfl) ?_
    replace h := xb h
    obtain ⟨v2, ev2, h⟩ := h
    refine q_getI X Y fl_X11_131 ev2 dX11_cut_93 ?_
    refine lv_iconst (v := 2) hx hb dX11_cut_96 (by decide) ?_
    refine lv_iadd hx hb dX11_cut_97 ?_
    refine lv_bipush (v := 30) hx hb dX11_cut_98 (by decide) ?_
    refine lv_icmp_le (tgt := 106) hx hb dX11_cut_100 (by decide) (fun c3 => ?_) (fun c3 => ?_)
    · replace h := Eq.trans (if_pos c3).symm h
      refine lv_aload_n hx hb dX11_cut_106 rfl (lv_at hl 0 rfl) ?_
      replace h := xb h
      obtain ⟨v4, ev4, h⟩ := h
      refine q_getI X Y fl_X11_131 ev4 dX11_cut_107 ?_
      refine lv_istore (lv' := [(7, .int v4), (0, .ref a0), (2, .int a2), (3, .int a3), (4, .int a4), (5, .int a5), (6, .int a6)]) hx hb dX11_cut_110 hl (by decide) rfl (fun ls hl => ?_)
      refine lv_iload_n hx hb dX11_cut_112 rfl (lv_at hl 2 rfl) ?_
      refine lv_if_ne (tgt := 153) hx hb dX11_cut_113 (by decide) (fun c5 => ?_) (fun c5 => ?_)
      · replace h := Eq.trans (if_neg c5).symm h
        refine lv_aload_n hx hb dX11_cut_153 rfl (lv_at hl 1 rfl) ?_
        refine lv_iload_n hx hb dX11_cut_154 rfl (lv_at hl 3 rfl) ?_
        refine lv_iload hx hb dX11_cut_155 (lv_at hl 4 rfl) ?_
        refine lv_iload hx hb dX11_cut_157 (lv_at hl 5 rfl) ?_
        refine lv_iload hx hb dX11_cut_159 (lv_at hl 5 rfl) ?_
        refine lv_iload hx hb dX11_cut_161 (lv_at hl 6 rfl) ?_
        refine lv_iadd hx hb dX11_cut_163 ?_
        refine lv_iconst (v := 2) hx hb dX11_cut_164 (by decide) ?_
        refine lv_idiv hx hb dX11_cut_165 (by decide) ?_
        by_cases c6 : hKd f a0 = some 10
        · replace h := Eq.trans (if_pos c6).symm h
          replace h := xb h
          obtain ⟨q7, eq7, h⟩ := h
          refine q_callV X Y hl.1 (rest := []) (As := [.int a3, .int a4, .int a5, .int ((a5 + a6) / (2 : Int32))]) (c_X11_newBox l G z f a0 a3 a4 a5 ((a5 + a6) / (2 : Int32)) _ eq7) cd_X11_newBox lv_X11_138_10 c6 ⟨(Nat.le_of_ble_eq_true rfl), (Nat.le_of_ble_eq_true rfl)⟩ ⟨(Nat.le_of_ble_eq_true rfl), (Nat.le_of_ble_eq_true rfl)⟩ rfl rfl (Nat.le_of_ble_eq_true rfl) dX11_cut_166 (fun H locs Y => ?_)
          refine W.eq (g2 := F0 m 169 ls [.int q7.1]) rfl ?_
          refine lv_aload_n hx hb dX11_cut_169 rfl (lv_at hl 1 rfl) ?_
          refine lv_iload_n hx hb dX11_cut_170 rfl (lv_at hl 3 rfl) ?_
          refine lv_iload hx hb dX11_cut_171 (lv_at hl 4 rfl) ?_
          refine lv_iload hx hb dX11_cut_173 (lv_at hl 5 rfl) ?_
          refine lv_iload hx hb dX11_cut_175 (lv_at hl 6 rfl) ?_
          refine lv_iadd hx hb dX11_cut_177 ?_
          refine lv_iconst (v := 2) hx hb dX11_cut_178 (by decide) ?_
          refine lv_idiv hx hb dX11_cut_179 (by decide) ?_
          refine lv_iload hx hb dX11_cut_180 (lv_at hl 6 rfl) ?_
          by_cases c8 : hKd q7.2 a0 = some 10
          · replace h := Eq.trans (if_pos c8).symm h
            replace h := xb h
            obtain ⟨q9, eq9, h⟩ := h
            refine q_callV X Y hl.1 (rest := [.int q7.1]) (As := [.int a3, .int a4, .int ((a5 + a6) / (2 : Int32)), .int a6]) (c_X11_newBox l G z q7.2 a0 a3 a4 ((a5 + a6) / (2 : Int32)) a6 _ eq9) cd_X11_newBox lv_X11_138_10 c8 ⟨(Nat.le_of_ble_eq_true rfl), (Nat.le_of_ble_eq_true rfl)⟩ ⟨(Nat.le_of_ble_eq_true rfl), (Nat.le_of_ble_eq_true rfl)⟩ rfl rfl (Nat.le_of_ble_eq_true rfl) dX11_cut_182 (fun H locs Y => ?_)
            refine W.eq (g2 := F0 m 185 ls [.int q9.1, .int q7.1]) rfl ?_
            refine lv_iadd hx hb dX11_cut_185 ?_
            refine lv_istore (lv' := [(8, .int (q7.1 + q9.1)), (7, .int v4), (0, .ref a0), (2, .int a2), (3, .int a3), (4, .int a4), (5, .int a5), (6, .int a6)]) hx hb dX11_cut_186 hl (by decide) rfl (fun ls hl => ?_)
            refine lv_iload hx hb dX11_cut_188 (lv_at hl 1 rfl) ?_
            replace h := Option.some.inj h
            subst h
            exact q_reti X Y hr hlocks (Nat.le_of_ble_eq_true rfl) (Nat.le_of_ble_eq_true rfl) dX11_cut_190
          replace h := Eq.trans (if_neg c8).symm h
          cases h
        replace h := Eq.trans (if_neg c6).symm h
        cases h
      · replace h := Eq.trans (if_pos c5).symm h
        refine lv_aload_n hx hb dX11_cut_116 rfl (lv_at hl 1 rfl) ?_
        refine lv_iload_n hx hb dX11_cut_117 rfl (lv_at hl 3 rfl) ?_
        refine lv_iload_n hx hb dX11_cut_118 rfl (lv_at hl 3 rfl) ?_
        refine lv_iload hx hb dX11_cut_119 (lv_at hl 4 rfl) ?_
        refine lv_iadd hx hb dX11_cut_121 ?_
        refine lv_iconst (v := 2) hx hb dX11_cut_122 (by decide) ?_
        refine lv_idiv hx hb dX11_cut_123 (by decide) ?_
        refine lv_iload hx hb dX11_cut_124 (lv_at hl 5 rfl) ?_
        refine lv_iload hx hb dX11_cut_126 (lv_at hl 6 rfl) ?_
        by_cases c10 : hKd f a0 = some 10
        · replace h := Eq.trans (if_pos c10).symm h
          replace h := xb h
          obtain ⟨q11, eq11, h⟩ := h
          refine q_callV X Y hl.1 (rest := []) (As := [.int a3, .int ((a3 + a4) / (2 : Int32)), .int a5, .int a6]) (c_X11_newBox l G z f a0 a3 ((a3 + a4) / (2 : Int32)) a5 a6 _ eq11) cd_X11_newBox lv_X11_138_10 c10 ⟨(Nat.le_of_ble_eq_true rfl), (Nat.le_of_ble_eq_true rfl)⟩ ⟨(Nat.le_of_ble_eq_true rfl), (Nat.le_of_ble_eq_true rfl)⟩ rfl rfl (Nat.le_of_ble_eq_true rfl) dX11_cut_128 (fun H locs Y => ?_)
          refine W.eq (g2 := F0 m 131 ls [.int q11.1]) rfl ?_
          refine lv_aload_n hx hb dX11_cut_131 rfl (lv_at hl 1 rfl) ?_
          refine lv_iload_n hx hb dX11_cut_132 rfl (lv_at hl 3 rfl) ?_
          refine lv_iload hx hb dX11_cut_133 (lv_at hl 4 rfl) ?_
          refine lv_iadd hx hb dX11_cut_135 ?_
          refine lv_iconst (v := 2) hx hb dX11_cut_136 (by decide) ?_
          refine lv_idiv hx hb dX11_cut_137 (by decide) ?_
          refine lv_iload hx hb dX11_cut_138 (lv_at hl 4 rfl) ?_
          refine lv_iload hx hb dX11_cut_140 (lv_at hl 5 rfl) ?_
          refine lv_iload hx hb dX11_cut_142 (lv_at hl 6 rfl) ?_
          by_cases c12 : hKd q11.2 a0 = some 10
          · replace h := Eq.trans (if_pos c12).symm h
            replace h := xb h
            obtain ⟨q13, eq13, h⟩ := h
            refine q_callV X Y hl.1 (rest := [.int q11.1]) (As := [.int ((a3 + a4) / (2 : Int32)), .int a4, .int a5, .int a6]) (c_X11_newBox l G z q11.2 a0 ((a3 + a4) / (2 : Int32)) a4 a5 a6 _ eq13) cd_X11_newBox lv_X11_138_10 c12 ⟨(Nat.le_of_ble_eq_true rfl), (Nat.le_of_ble_eq_true rfl)⟩ ⟨(Nat.le_of_ble_eq_true rfl), (Nat.le_of_ble_eq_true rfl)⟩ rfl rfl (Nat.le_of_ble_eq_true rfl) dX11_cut_144 (fun H locs Y => ?_)
            refine W.eq (g2 := F0 m 147 ls [.int q13.1, .int q11.1]) rfl ?_
            refine lv_iadd hx hb dX11_cut_147 ?_
            refine lv_istore (lv' := [(8, .int (q11.1 + q13.1)), (7, .int v4), (0, .ref a0), (2, .int a2), (3, .int a3), (4, .int a4), (5, .int a5), (6, .int a6)]) hx hb dX11_cut_148 hl (by decide) rfl (fun ls hl => ?_)
            refine lv_goto (tgt := 188) hx hb dX11_cut_150 (by decide) ?_
            refine lv_iload hx hb dX11_cut_188 (lv_at hl 1 rfl) ?_
            replace h := Option.some.inj h
            subst h
            exact q_reti X Y hr hlocks (Nat.le_of_ble_eq_true rfl) (Nat.le_of_ble_eq_true rfl) dX11_cut_190
          replace h := Eq.trans (if_neg c12).symm h
          cases h
        replace h := Eq.trans (if_neg c10).symm h
        cases h
    · replace h := Eq.trans (if_neg c3).symm h
      refine lv_bipush (v := -4) hx hb dX11_cut_103 (by decide) ?_
      replace h := Option.some.inj h
      subst h
      exact q_reti X Y hr hlocks (Nat.le_of_ble_eq_true rfl) (Nat.le_of_ble_eq_true rfl) dX11_cut_105
  · replace h := Eq.trans (if_neg c1).symm h
    refine lv_bipush (v := -3) hx hb dX11_cut_89 (by decide) ?_
    replace h := Option.some.inj h
    subst h
    exact q_reti X Y hr hlocks (Nat.le_of_ble_eq_true rfl) (Nat.le_of_ble_eq_true rfl) dX11_cut_91
set_option maxRecDepth 100000 in
set_option maxHeartbeats 4000000 in
theorem c_X11_cut (l : Launch) (G : xG) (z : Nat) (f : xHp) (h0 : Nat) (p1 : Int32) (p2 : Int32) (rs : Int32 × xHp) (h : F_X11_cut f h0 p1 p2 = some rs) : xM G l yX11_cut cX11_cut 9 (some .int) rm_X11_cut [.ref h0, .int p1, .int p2] z f (some (.int rs.1)) z rs.2 := by
  refine xM_of (by decide) (Nat.le_of_ble_eq_true rfl) ?_
  intro p e s m below meth c ls X hr hlocks hin Y hl
  have hl : lv_has ls 9 [(0, .ref h0), (1, .int p1), (2, .int p2)] := hl
  have hx := X.1.1
  have hb := X.1.2.1
  unfold F_X11_cut at h
  refine lv_aload_n hx hb dX11_cut_0 rfl (lv_at hl 0 rfl) ?_
  refine lv_iload_n hx hb dX11_cut_1 rfl (lv_at hl 1 rfl) ?_
  by_cases c1 : hKd f h0 = some 10
  · replace h := Eq.trans (if_pos c1).symm h
    replace h := xb h
    obtain ⟨q2, eq2, h⟩ := h
    refine q_callV X Y hl.1 (rest := []) (As := [.int p1]) (c_X11_isBox l G z f h0 p1 _ eq2) cd_X11_isBox lv_X11_142_10 c1 ⟨(Nat.le_of_ble_eq_true rfl), (Nat.le_of_ble_eq_true rfl)⟩ ⟨(Nat.le_of_ble_eq_true rfl), (Nat.le_of_ble_eq_true rfl)⟩ rfl rfl (Nat.le_of_ble_eq_true rfl) dX11_cut_2 (fun H locs Y => ?_)
    refine W.eq (g2 := F0 m 5 ls [.int q2]) rfl ?_
    refine lv_if_ne (tgt := 10) hx hb dX11_cut_5 (by decide) (fun c3 => ?_) (fun c3 => ?_)
    · replace h := Eq.trans (if_neg c3).symm h
      refine lv_iload_n hx hb dX11_cut_10 rfl (lv_at hl 2 rfl) ?_
      refine lv_i2l hx hb dX11_cut_11 rfl ?_
      refine lv_lconst (v := 0) hx hb dX11_cut_12 (by decide) ?_
      refine lv_lconst (v := 1) hx hb dX11_cut_13 (by decide) ?_
      replace h := xb h
      obtain ⟨q4, eq4, h⟩ := h
      refine q_callS X Y hl.1 (rest := []) (As := [.long p2.toInt64, .long (0 : Int64), .long (1 : Int64)]) (c_X11_within l G z f p2.toInt64 (0 : Int64) (1 : Int64) _ eq4) cd_X11_within ls_X11_82 ⟨(Nat.le_of_ble_eq_true rfl), (Nat.le_of_ble_eq_true rfl)⟩ ⟨(Nat.le_of_ble_eq_true rfl), (Nat.le_of_ble_eq_true rfl)⟩ rfl rfl (Nat.le_of_ble_eq_true rfl) dX11_cut_14 (fun H locs Y => ?_)
      refine W.eq (g2 := F0 m 17 ls [.int q4]) rfl ?_
      refine lv_if_ne (tgt := 23) hx hb dX11_cut_17 (by decide) (fun c5 => ?_) (fun c5 => ?_)
      · replace h := Eq.trans (if_neg c5).symm h
        refine lv_aload_n hx hb dX11_cut_23 rfl (lv_at hl 0 rfl) ?_
        replace h := xb h
        obtain ⟨v6, ev6, h⟩ := h
        refine q_getN X Y fl_X11_26 ev6 dX11_cut_24 ?_
        refine lv_iconst (v := 4) hx hb dX11_cut_27 (by decide) ?_
        refine lv_iload_n hx hb dX11_cut_28 rfl (lv_at hl 1 rfl) ?_
        refine lv_imul hx hb dX11_cut_29 ?_
        replace h := xb h
        obtain ⟨v7, ev7, h⟩ := h
        refine q_iald X Y ev7 dX11_cut_30 ?_
        refine lv_istore_n (lv' := [(3, .int v7), (0, .ref h0), (1, .int p1), (2, .int p2)]) hx hb dX11_cut_31 rfl hl (by decide) rfl (fun ls hl => ?_)
        refine lv_aload_n hx hb dX11_cut_32 rfl (lv_at hl 1 rfl) ?_
        replace h := xb h
        obtain ⟨v8, ev8, h⟩ := h
        refine q_getN X Y fl_X11_26 ev8 dX11_cut_33 ?_
        refine lv_iconst (v := 4) hx hb dX11_cut_36 (by decide) ?_
        refine lv_iload_n hx hb dX11_cut_37 rfl (lv_at hl 2 rfl) ?_
        refine lv_imul hx hb dX11_cut_38 ?_
        refine lv_iconst (v := 1) hx hb dX11_cut_39 (by decide) ?_
        refine lv_iadd hx hb dX11_cut_40 ?_
        replace h := xb h
        obtain ⟨v9, ev9, h⟩ := h
        refine q_iald X Y ev9 dX11_cut_41 ?_
        refine lv_istore (lv' := [(4, .int v9), (3, .int v7), (0, .ref h0), (1, .int p1), (2, .int p2)]) hx hb dX11_cut_42 hl (by decide) rfl (fun ls hl => ?_)
        refine lv_aload_n hx hb dX11_cut_44 rfl (lv_at hl 2 rfl) ?_
        replace h := xb h
        obtain ⟨v10, ev10, h⟩ := h
        refine q_getN X Y fl_X11_26 ev10 dX11_cut_45 ?_
        refine lv_iconst (v := 4) hx hb dX11_cut_48 (by decide) ?_
        refine lv_iload_n hx hb dX11_cut_49 rfl (lv_at hl 3 rfl) ?_
        refine lv_imul hx hb dX11_cut_50 ?_
        refine lv_iconst (v := 2) hx hb dX11_cut_51 (by decide) ?_
        refine lv_iadd hx hb dX11_cut_52 ?_
        replace h := xb h
        obtain ⟨v11, ev11, h⟩ := h
        refine q_iald X Y ev11 dX11_cut_53 ?_
        refine lv_istore (lv' := [(5, .int v11), (4, .int v9), (3, .int v7), (0, .ref h0), (1, .int p1), (2, .int p2)]) hx hb dX11_cut_54 hl (by decide) rfl (fun ls hl => ?_)
        refine lv_aload_n hx hb dX11_cut_56 rfl (lv_at hl 3 rfl) ?_
        replace h := xb h
        obtain ⟨v12, ev12, h⟩ := h
        refine q_getN X Y fl_X11_26 ev12 dX11_cut_57 ?_
        refine lv_iconst (v := 4) hx hb dX11_cut_60 (by decide) ?_
        refine lv_iload_n hx hb dX11_cut_61 rfl (lv_at hl 4 rfl) ?_
        refine lv_imul hx hb dX11_cut_62 ?_
        refine lv_iconst (v := 3) hx hb dX11_cut_63 (by decide) ?_
        refine lv_iadd hx hb dX11_cut_64 ?_
        replace h := xb h
        obtain ⟨v13, ev13, h⟩ := h
        refine q_iald X Y ev13 dX11_cut_65 ?_
        refine lv_istore (lv' := [(6, .int v13), (5, .int v11), (4, .int v9), (3, .int v7), (0, .ref h0), (1, .int p1), (2, .int p2)]) hx hb dX11_cut_66 hl (by decide) rfl (fun ls hl => ?_)
        refine lv_iload_n hx hb dX11_cut_68 rfl (lv_at hl 6 rfl) ?_
        refine lv_if_ne (tgt := 79) hx hb dX11_cut_69 (by decide) (fun c14 => ?_) (fun c14 => ?_)
        · replace h := Eq.trans (if_neg c14).symm h
          refine lv_iload hx hb dX11_cut_79 (lv_at hl 0 rfl) ?_
          refine lv_iload hx hb dX11_cut_81 (lv_at hl 1 rfl) ?_
          refine lv_isub hx hb dX11_cut_83 ?_
          refine W.widen (k := 0) (n := 0) (Nat.le_of_ble_eq_true rfl) (Nat.le_of_ble_eq_true rfl) ?_
          exact w_X11_cut_84 X hr hlocks hin rs   f h0 p2 v7 v9 v11 v13 (v13 - v11) _ _ _ h Y (lv_sub hl [4, 6, 3, 2, 1, 0] rfl)
        · replace h := Eq.trans (if_pos c14).symm h
          refine lv_iload hx hb dX11_cut_72 (lv_at hl 2 rfl) ?_
          refine lv_iload_n hx hb dX11_cut_74 rfl (lv_at hl 3 rfl) ?_
          refine lv_isub hx hb dX11_cut_75 ?_
          refine lv_goto (tgt := 84) hx hb dX11_cut_76 (by decide) ?_
          refine W.widen (k := 0) (n := 0) (Nat.le_of_ble_eq_true rfl) (Nat.le_of_ble_eq_true rfl) ?_
          exact w_X11_cut_84 X hr hlocks hin rs   f h0 p2 v7 v9 v11 v13 (v9 - v7) _ _ _ h Y (lv_sub hl [4, 6, 3, 2, 1, 0] rfl)
      · replace h := Eq.trans (if_pos c5).symm h
        refine lv_bipush (v := -2) hx hb dX11_cut_20 (by decide) ?_
        replace h := Option.some.inj h
        subst h
        exact q_reti X Y hr hlocks (Nat.le_of_ble_eq_true rfl) (Nat.le_of_ble_eq_true rfl) dX11_cut_22
    · replace h := Eq.trans (if_pos c3).symm h
      refine lv_iconst (v := -1) hx hb dX11_cut_8 (by decide) ?_
      replace h := Option.some.inj h
      subst h
      exact q_reti X Y hr hlocks (Nat.le_of_ble_eq_true rfl) (Nat.le_of_ble_eq_true rfl) dX11_cut_9
  replace h := Eq.trans (if_neg c1).symm h
  cases h
/-! NeverBelowModel.beginParts(I)V -/
abbrev rm_X11_beginParts : Room := { frames := 0, cells := 0, slots := 0, locals := 0 }
def F_X11_beginParts_14 (k14 : xHp → Nat → Int32 → Int32 → Option (xHp)) (f : xHp) (a0 : Nat) (a1 : Int32) (a2 : Int32) : Option (xHp) := if (4 : Int32) ≤ a2 then (some f) else (Option.bind (hN f a0 [(10, 13)]) fun v2 => Option.bind (hN f a0 [(10, 9)]) fun v3 => Option.bind (hIld f v3 (((4 : Int32) * a1) + a2)) fun v4 => Option.bind (hIst f v2 a2 v4) fun f5 => k14 f5 a0 a1 (a2 + 1))
def L_X11_beginParts_14  : Nat → xHp → Nat → Int32 → Int32 → Option (xHp)
  | 0, _, _, _, _ => none
  | n + 1, f, a0, a1, a2 => F_X11_beginParts_14 (L_X11_beginParts_14  n) f a0 a1 a2
def F_X11_beginParts (f : xHp) (h0 : Nat) (p1 : Int32) : Option (xHp) := Option.bind (hPut f h0 [(10, 12)] (.int (1 : Int32))) fun f1 => Option.bind (hN f1 h0 [(10, 14)]) fun v2 => Option.bind (hIst f1 v2 (0 : Int32) (0 : Int32)) fun f3 => L_X11_beginParts_14 xfuel f3 h0 p1 (0 : Int32)
set_option maxRecDepth 100000 in
set_option maxHeartbeats 4000000 in
theorem w_X11_beginParts_14 {p : Program} {l : Launch} {e : Env} {s : State} {m : MethodId} {args : Array Value} {below : List Frame} {meth : Method} {c : Code} {G : xG} {z : Nat} (X : xC G p m c s args RX11 cX11_beginParts 3) (hr : meth.sig.returnType = none) (hlocks : meth.locks = false) (hin : meth.name = yX11_beginParts.name) (rs : xHp) (k14 : xHp → Nat → Int32 → Int32 → Option (xHp)) (hk14 : ∀ (f : xHp) (a0 : Nat) (a1 : Int32) (a2 : Int32) (H : Heap) (locs : List Loc) (ls : Array Slot), k14 f a0 a1 a2 = some rs → xY G z f s H locs → lv_has ls 3 [(0, .ref a0), (1, .int a1), (2, .int a2)] → W p l e rm_X11_beginParts s m args below meth c H locs 0 0 (MQ below (xQ G none z rs) args s rm_X11_beginParts.cells rm_X11_beginParts.slots (xA G)) (F0 m 14 ls [])) (f : xHp) (a0 : Nat) (a1 : Int32) (a2 : Int32) (H : Heap) (locs : List Loc) (ls : Array Slot) (h : F_X11_beginParts_14 k14 f a0 a1 a2 = some rs) (Y : xY G z f s H locs) (hl : lv_has ls 3 [(0, .ref a0), (1, .int a1), (2, .int a2)]) : W p l e rm_X11_beginParts s m args below meth c H locs 0 0 (MQ below (xQ G none z rs) args s rm_X11_beginParts.cells rm_X11_beginParts.slots (xA G)) (F0 m 14 ls []) := by
  have hx := X.1.1
  have hb := X.1.2.1
  unfold F_X11_beginParts_14 at h
  refine lv_iload_n hx hb dX11_beginParts_14 rfl (lv_at hl 2 rfl) ?_
  refine lv_iconst (v := 4) hx hb dX11_beginParts_15 (by decide) ?_
  refine lv_icmp_ge (tgt := 41) hx hb dX11_beginParts_16 (by decide) (fun c1 => ?_) (fun c1 => ?_)
  · replace h := Eq.trans (if_pos c1).symm h
    replace h := Option.some.inj h
    subst h
    exact q_retv X Y hr hlocks (Nat.le_of_ble_eq_true rfl) (Nat.le_of_ble_eq_true rfl) dX11_beginParts_41
  · replace h := Eq.trans (if_neg c1).symm h
    refine lv_aload_n hx hb dX11_beginParts_19 rfl (lv_at hl 0 rfl) ?_
    replace h := xb h
    obtain ⟨v2, ev2, h⟩ := h
    refine q_getN X Y fl_X11_29 ev2 dX11_beginParts_20 ?_
    refine lv_iload_n hx hb dX11_beginParts_23 rfl (lv_at hl 2 rfl) ?_
    refine lv_aload_n hx hb dX11_beginParts_24 rfl (lv_at hl 0 rfl) ?_
    replace h := xb h
    obtain ⟨v3, ev3, h⟩ := h
    refine q_getN X Y fl_X11_26 ev3 dX11_beginParts_25 ?_
    refine lv_iconst (v := 4) hx hb dX11_beginParts_28 (by decide) ?_
    refine lv_iload_n hx hb dX11_beginParts_29 rfl (lv_at hl 1 rfl) ?_
    refine lv_imul hx hb dX11_beginParts_30 ?_
    refine lv_iload_n hx hb dX11_beginParts_31 rfl (lv_at hl 2 rfl) ?_
    refine lv_iadd hx hb dX11_beginParts_32 ?_
    replace h := xb h
    obtain ⟨v4, ev4, h⟩ := h
    refine q_iald X Y ev4 dX11_beginParts_33 ?_
    replace h := xb h
    obtain ⟨f5, ef5, h⟩ := h
    refine q_iast X Y ef5 dX11_beginParts_34 (fun H locs Y => ?_)
    refine lv_iinc (v := (a2 + 1)) (lv' := [(2, .int (a2 + 1)), (0, .ref a0), (1, .int a1)]) hx hb dX11_beginParts_35 hl (k := 2) rfl rfl (by decide) rfl (fun ls hl => ?_)
    refine lv_goto (tgt := 14) hx hb dX11_beginParts_38 (by decide) ?_
    refine W.widen (k := 0) (n := 0) (Nat.le_of_ble_eq_true rfl) (Nat.le_of_ble_eq_true rfl) ?_
    exact hk14 f5 a0 a1 (a2 + 1) _ _ _ h Y (lv_sub hl [1, 2, 0] rfl)
set_option maxRecDepth 100000 in
set_option maxHeartbeats 4000000 in
theorem lw_X11_beginParts_14 {p : Program} {l : Launch} {e : Env} {s : State} {m : MethodId} {args : Array Value} {below : List Frame} {meth : Method} {c : Code} {G : xG} {z : Nat} (X : xC G p m c s args RX11 cX11_beginParts 3) (hr : meth.sig.returnType = none) (hlocks : meth.locks = false) (hin : meth.name = yX11_beginParts.name) (rs : xHp)  : ∀ (n : Nat) (f : xHp) (a0 : Nat) (a1 : Int32) (a2 : Int32) (H : Heap) (locs : List Loc) (ls : Array Slot), L_X11_beginParts_14  n f a0 a1 a2 = some rs → xY G z f s H locs → lv_has ls 3 [(0, .ref a0), (1, .int a1), (2, .int a2)] → W p l e rm_X11_beginParts s m args below meth c H locs 0 0 (MQ below (xQ G none z rs) args s rm_X11_beginParts.cells rm_X11_beginParts.slots (xA G)) (F0 m 14 ls []) := by
  intro n
  induction n with
  | zero => intro f a0 a1 a2 H locs ls h Y hl; cases h
  | succ n ih => intro f a0 a1 a2 H locs ls h Y hl; exact w_X11_beginParts_14 X hr hlocks hin rs _ ih f a0 a1 a2 _ _ _ h Y hl
set_option maxRecDepth 100000 in
set_option maxHeartbeats 4000000 in
theorem c_X11_beginParts (l : Launch) (G : xG) (z : Nat) (f : xHp) (h0 : Nat) (p1 : Int32) (rs : xHp) (h : F_X11_beginParts f h0 p1 = some rs) : xM G l yX11_beginParts cX11_beginParts 3 none rm_X11_beginParts [.ref h0, .int p1] z f none z rs := by
  refine xM_of (by decide) (Nat.le_of_ble_eq_true rfl) ?_
  intro p e s m below meth c ls X hr hlocks hin Y hl
  have hl : lv_has ls 3 [(0, .ref h0), (1, .int p1)] := hl
  have hx := X.1.1
  have hb := X.1.2.1
  unfold F_X11_beginParts at h
  refine lv_aload_n hx hb dX11_beginParts_0 rfl (lv_at hl 0 rfl) ?_
  refine lv_iconst (v := 1) hx hb dX11_beginParts_1 (by decide) ?_
  replace h := xb h
  obtain ⟨f1, ef1, h⟩ := h
  refine q_put X Y fp_X11_159 rfl rfl ef1 dX11_beginParts_2 (fun H locs Y => ?_)
  refine lv_aload_n hx hb dX11_beginParts_5 rfl (lv_at hl 0 rfl) ?_
  replace h := xb h
  obtain ⟨v2, ev2, h⟩ := h
  refine q_getN X Y fl_X11_32 ev2 dX11_beginParts_6 ?_
  refine lv_iconst (v := 0) hx hb dX11_beginParts_9 (by decide) ?_
  refine lv_iconst (v := 0) hx hb dX11_beginParts_10 (by decide) ?_
  replace h := xb h
  obtain ⟨f3, ef3, h⟩ := h
  refine q_iast X Y ef3 dX11_beginParts_11 (fun H locs Y => ?_)
  refine lv_iconst (v := 0) hx hb dX11_beginParts_12 (by decide) ?_
  refine lv_istore_n (lv' := [(2, .int (0 : Int32)), (0, .ref h0), (1, .int p1)]) hx hb dX11_beginParts_13 rfl hl (by decide) rfl (fun ls hl => ?_)
  refine W.widen (k := 0) (n := 0) (Nat.le_of_ble_eq_true rfl) (Nat.le_of_ble_eq_true rfl) ?_
  exact lw_X11_beginParts_14 X hr hlocks hin rs  xfuel f3 h0 p1 (0 : Int32) _ _ _ h Y (lv_sub hl [1, 2, 0] rfl)
/-! NeverBelowModel.parts(II)I -/
abbrev rm_X11_parts : Room := { frames := 1, cells := 0, slots := 0, locals := 22 }
def F_X11_parts (f : xHp) (h0 : Nat) (p1 : Int32) (p2 : Int32) : Option (Int32 × xHp) := if hKd f h0 = some 10 then (Option.bind (F_X11_isPoly f h0 p1) fun q2 => if q2 = 0 then (some ((-1 : Int32), f)) else (if hKd f h0 = some 10 then (Option.bind (F_X11_isBox f h0 p2) fun q5 => if q5 = 0 then (some ((-1 : Int32), f)) else (Option.bind (hPut f h0 [(10, 10)] (.int p1)) fun f7 => Option.bind (hPut f7 h0 [(10, 11)] (.int p2)) fun f8 => if hKd f8 h0 = some 10 then (Option.bind (F_X11_beginParts f8 h0 p2) fun q10 => some ((1 : Int32), q10)) else none)) else none)) else none
set_option maxRecDepth 100000 in
set_option maxHeartbeats 4000000 in
theorem c_X11_parts (l : Launch) (G : xG) (z : Nat) (f : xHp) (h0 : Nat) (p1 : Int32) (p2 : Int32) (rs : Int32 × xHp) (h : F_X11_parts f h0 p1 p2 = some rs) : xM G l yX11_parts cX11_parts 3 (some .int) rm_X11_parts [.ref h0, .int p1, .int p2] z f (some (.int rs.1)) z rs.2 := by
  refine xM_of (by decide) (Nat.le_of_ble_eq_true rfl) ?_
  intro p e s m below meth c ls X hr hlocks hin Y hl
  have hl : lv_has ls 3 [(0, .ref h0), (1, .int p1), (2, .int p2)] := hl
  have hx := X.1.1
  have hb := X.1.2.1
  unfold F_X11_parts at h
  refine lv_aload_n hx hb dX11_parts_0 rfl (lv_at hl 0 rfl) ?_
  refine lv_iload_n hx hb dX11_parts_1 rfl (lv_at hl 1 rfl) ?_
  by_cases c1 : hKd f h0 = some 10
  · replace h := Eq.trans (if_pos c1).symm h
    replace h := xb h
    obtain ⟨q2, eq2, h⟩ := h
    refine q_callV X Y hl.1 (rest := []) (As := [.int p1]) (c_X11_isPoly l G z f h0 p1 _ eq2) cd_X11_isPoly lv_X11_109_10 c1 ⟨(Nat.le_of_ble_eq_true rfl), (Nat.le_of_ble_eq_true rfl)⟩ ⟨(Nat.le_of_ble_eq_true rfl), (Nat.le_of_ble_eq_true rfl)⟩ rfl rfl (Nat.le_of_ble_eq_true rfl) dX11_parts_2 (fun H locs Y => ?_)
    refine W.eq (g2 := F0 m 5 ls [.int q2]) rfl ?_
    refine lv_if_eq (tgt := 16) hx hb dX11_parts_5 (by decide) (fun c3 => ?_) (fun c3 => ?_)
    · replace h := Eq.trans (if_pos c3).symm h
      refine lv_iconst (v := -1) hx hb dX11_parts_16 (by decide) ?_
      replace h := Option.some.inj h
      subst h
      exact q_reti X Y hr hlocks (Nat.le_of_ble_eq_true rfl) (Nat.le_of_ble_eq_true rfl) dX11_parts_17
    · replace h := Eq.trans (if_neg c3).symm h
      refine lv_aload_n hx hb dX11_parts_8 rfl (lv_at hl 0 rfl) ?_
      refine lv_iload_n hx hb dX11_parts_9 rfl (lv_at hl 2 rfl) ?_
      by_cases c4 : hKd f h0 = some 10
      · replace h := Eq.trans (if_pos c4).symm h
        replace h := xb h
        obtain ⟨q5, eq5, h⟩ := h
        refine q_callV X Y hl.1 (rest := []) (As := [.int p2]) (c_X11_isBox l G z f h0 p2 _ eq5) cd_X11_isBox lv_X11_142_10 c4 ⟨(Nat.le_of_ble_eq_true rfl), (Nat.le_of_ble_eq_true rfl)⟩ ⟨(Nat.le_of_ble_eq_true rfl), (Nat.le_of_ble_eq_true rfl)⟩ rfl rfl (Nat.le_of_ble_eq_true rfl) dX11_parts_10 (fun H locs Y => ?_)
        refine W.eq (g2 := F0 m 13 ls [.int q5]) rfl ?_
        refine lv_if_ne (tgt := 18) hx hb dX11_parts_13 (by decide) (fun c6 => ?_) (fun c6 => ?_)
        · replace h := Eq.trans (if_neg c6).symm h
          refine lv_aload_n hx hb dX11_parts_18 rfl (lv_at hl 0 rfl) ?_
          refine lv_iload_n hx hb dX11_parts_19 rfl (lv_at hl 1 rfl) ?_
          replace h := xb h
          obtain ⟨f7, ef7, h⟩ := h
          refine q_put X Y fp_X11_162 rfl rfl ef7 dX11_parts_20 (fun H locs Y => ?_)
          refine lv_aload_n hx hb dX11_parts_23 rfl (lv_at hl 0 rfl) ?_
          refine lv_iload_n hx hb dX11_parts_24 rfl (lv_at hl 2 rfl) ?_
          replace h := xb h
          obtain ⟨f8, ef8, h⟩ := h
          refine q_put X Y fp_X11_165 rfl rfl ef8 dX11_parts_25 (fun H locs Y => ?_)
          refine lv_aload_n hx hb dX11_parts_28 rfl (lv_at hl 0 rfl) ?_
          refine lv_iload_n hx hb dX11_parts_29 rfl (lv_at hl 2 rfl) ?_
          by_cases c9 : hKd f8 h0 = some 10
          · replace h := Eq.trans (if_pos c9).symm h
            replace h := xb h
            obtain ⟨q10, eq10, h⟩ := h
            refine q_callV X Y hl.1 (rest := []) (As := [.int p2]) (c_X11_beginParts l G z f8 h0 p2 _ eq10) cd_X11_beginParts lv_X11_168_10 c9 ⟨(Nat.le_of_ble_eq_true rfl), (Nat.le_of_ble_eq_true rfl)⟩ ⟨(Nat.le_of_ble_eq_true rfl), (Nat.le_of_ble_eq_true rfl)⟩ rfl rfl (Nat.le_of_ble_eq_true rfl) dX11_parts_30 (fun H locs Y => ?_)
            refine W.eq (g2 := F0 m 33 ls []) rfl ?_
            refine lv_iconst (v := 1) hx hb dX11_parts_33 (by decide) ?_
            replace h := Option.some.inj h
            subst h
            exact q_reti X Y hr hlocks (Nat.le_of_ble_eq_true rfl) (Nat.le_of_ble_eq_true rfl) dX11_parts_34
          replace h := Eq.trans (if_neg c9).symm h
          cases h
        · replace h := Eq.trans (if_pos c6).symm h
          refine lv_iconst (v := -1) hx hb dX11_parts_16 (by decide) ?_
          replace h := Option.some.inj h
          subst h
          exact q_reti X Y hr hlocks (Nat.le_of_ble_eq_true rfl) (Nat.le_of_ble_eq_true rfl) dX11_parts_17
      replace h := Eq.trans (if_neg c4).symm h
      cases h
  replace h := Eq.trans (if_neg c1).symm h
  cases h
/-! NeverBelowModel.firstPart(I)I -/
abbrev rm_X11_firstPart : Room := { frames := 0, cells := 0, slots := 0, locals := 0 }
def F_X11_firstPart_2 (f : xHp) (k2 : Nat → Int32 → Int32 → Option (Int32))  (a0 : Nat) (a1 : Int32) (a2 : Int32) : Option (Int32) := Option.bind (hI f a0 [(10, 12)]) fun v1 => if v1 ≤ a2 then (some (-9 : Int32)) else (Option.bind (hN f a0 [(10, 14)]) fun v3 => Option.bind (hIld f v3 a2) fun v4 => if v4 = a1 then (some a2) else (k2 a0 a1 (a2 + 1)))
def L_X11_firstPart_2 (f : xHp)  : Nat → Nat → Int32 → Int32 → Option (Int32)
  | 0, _, _, _ => none
  | n + 1, a0, a1, a2 => F_X11_firstPart_2 f (L_X11_firstPart_2 f  n) a0 a1 a2
def F_X11_firstPart (f : xHp) (h0 : Nat) (p1 : Int32) : Option (Int32) := L_X11_firstPart_2 f xfuel h0 p1 (0 : Int32)
set_option maxRecDepth 100000 in
set_option maxHeartbeats 4000000 in
theorem w_X11_firstPart_2 {p : Program} {l : Launch} {e : Env} {s : State} {m : MethodId} {args : Array Value} {below : List Frame} {meth : Method} {c : Code} {G : xG} {z : Nat} {f : xHp} (X : xC G p m c s args RX11 cX11_firstPart 3) (hr : meth.sig.returnType = (some .int)) (hlocks : meth.locks = false) (hin : meth.name = yX11_firstPart.name) (rs : Int32) (k2 : Nat → Int32 → Int32 → Option (Int32)) (hk2 : ∀ (a0 : Nat) (a1 : Int32) (a2 : Int32) (H : Heap) (locs : List Loc) (ls : Array Slot), k2 a0 a1 a2 = some rs → xY G z f s H locs → lv_has ls 3 [(0, .ref a0), (1, .int a1), (2, .int a2)] → W p l e rm_X11_firstPart s m args below meth c H locs 0 0 (MQ below (xQ G (some (.int rs)) z f) args s rm_X11_firstPart.cells rm_X11_firstPart.slots (xA G)) (F0 m 2 ls [])) (a0 : Nat) (a1 : Int32) (a2 : Int32) (H : Heap) (locs : List Loc) (ls : Array Slot) (h : F_X11_firstPart_2 f k2 a0 a1 a2 = some rs) (Y : xY G z f s H locs) (hl : lv_has ls 3 [(0, .ref a0), (1, .int a1), (2, .int a2)]) : W p l e rm_X11_firstPart s m args below meth c H locs 0 0 (MQ below (xQ G (some (.int rs)) z f) args s rm_X11_firstPart.cells rm_X11_firstPart.slots (xA G)) (F0 m 2 ls []) := by
  have hx := X.1.1
  have hb := X.1.2.1
  unfold F_X11_firstPart_2 at h
  refine lv_iload_n hx hb dX11_firstPart_2 rfl (lv_at hl 2 rfl) ?_
  refine lv_aload_n hx hb dX11_firstPart_3 rfl (lv_at hl 0 rfl) ?_
  replace h := xb h
  obtain ⟨v1, ev1, h⟩ := h
  refine q_getI X Y fl_X11_159 ev1 dX11_firstPart_4 ?_
  refine lv_icmp_ge (tgt := 28) hx hb dX11_firstPart_7 (by decide) (fun c2 => ?_) (fun c2 => ?_)
  · replace h := Eq.trans (if_pos c2).symm h
    refine lv_bipush (v := -9) hx hb dX11_firstPart_28 (by decide) ?_
    replace h := Option.some.inj h
    subst h
    exact q_reti X Y hr hlocks (Nat.le_of_ble_eq_true rfl) (Nat.le_of_ble_eq_true rfl) dX11_firstPart_30
  · replace h := Eq.trans (if_neg c2).symm h
    refine lv_aload_n hx hb dX11_firstPart_10 rfl (lv_at hl 0 rfl) ?_
    replace h := xb h
    obtain ⟨v3, ev3, h⟩ := h
    refine q_getN X Y fl_X11_32 ev3 dX11_firstPart_11 ?_
    refine lv_iload_n hx hb dX11_firstPart_14 rfl (lv_at hl 2 rfl) ?_
    replace h := xb h
    obtain ⟨v4, ev4, h⟩ := h
    refine q_iald X Y ev4 dX11_firstPart_15 ?_
    refine lv_iload_n hx hb dX11_firstPart_16 rfl (lv_at hl 1 rfl) ?_
    refine lv_icmp_ne (tgt := 22) hx hb dX11_firstPart_17 (by decide) (fun c5 => ?_) (fun c5 => ?_)
    · replace h := Eq.trans (if_neg c5).symm h
      refine lv_iinc (v := (a2 + 1)) (lv' := [(2, .int (a2 + 1)), (0, .ref a0), (1, .int a1)]) hx hb dX11_firstPart_22 hl (k := 2) rfl rfl (by decide) rfl (fun ls hl => ?_)
      refine lv_goto (tgt := 2) hx hb dX11_firstPart_25 (by decide) ?_
      refine W.widen (k := 0) (n := 0) (Nat.le_of_ble_eq_true rfl) (Nat.le_of_ble_eq_true rfl) ?_
      exact hk2 a0 a1 (a2 + 1) _ _ _ h Y (lv_sub hl [1, 2, 0] rfl)
    · replace h := Eq.trans (if_pos c5).symm h
      refine lv_iload_n hx hb dX11_firstPart_20 rfl (lv_at hl 2 rfl) ?_
      replace h := Option.some.inj h
      subst h
      exact q_reti X Y hr hlocks (Nat.le_of_ble_eq_true rfl) (Nat.le_of_ble_eq_true rfl) dX11_firstPart_21
set_option maxRecDepth 100000 in
set_option maxHeartbeats 4000000 in
theorem lw_X11_firstPart_2 {p : Program} {l : Launch} {e : Env} {s : State} {m : MethodId} {args : Array Value} {below : List Frame} {meth : Method} {c : Code} {G : xG} {z : Nat} {f : xHp} (X : xC G p m c s args RX11 cX11_firstPart 3) (hr : meth.sig.returnType = (some .int)) (hlocks : meth.locks = false) (hin : meth.name = yX11_firstPart.name) (rs : Int32)  : ∀ (n : Nat) (a0 : Nat) (a1 : Int32) (a2 : Int32) (H : Heap) (locs : List Loc) (ls : Array Slot), L_X11_firstPart_2 f  n a0 a1 a2 = some rs → xY G z f s H locs → lv_has ls 3 [(0, .ref a0), (1, .int a1), (2, .int a2)] → W p l e rm_X11_firstPart s m args below meth c H locs 0 0 (MQ below (xQ G (some (.int rs)) z f) args s rm_X11_firstPart.cells rm_X11_firstPart.slots (xA G)) (F0 m 2 ls []) := by
  intro n
  induction n with
  | zero => intro a0 a1 a2 H locs ls h Y hl; cases h
  | succ n ih => intro a0 a1 a2 H locs ls h Y hl; exact w_X11_firstPart_2 X hr hlocks hin rs _ ih a0 a1 a2 _ _ _ h Y hl
set_option maxRecDepth 100000 in
set_option maxHeartbeats 4000000 in
theorem c_X11_firstPart (l : Launch) (G : xG) (z : Nat) (f : xHp) (h0 : Nat) (p1 : Int32) (rs : Int32) (h : F_X11_firstPart f h0 p1 = some rs) : xM G l yX11_firstPart cX11_firstPart 3 (some .int) rm_X11_firstPart [.ref h0, .int p1] z f (some (.int rs)) z f := by
  refine xM_of (by decide) (Nat.le_of_ble_eq_true rfl) ?_
  intro p e s m below meth c ls X hr hlocks hin Y hl
  have hl : lv_has ls 3 [(0, .ref h0), (1, .int p1)] := hl
  have hx := X.1.1
  have hb := X.1.2.1
  unfold F_X11_firstPart at h
  refine lv_iconst (v := 0) hx hb dX11_firstPart_0 (by decide) ?_
  refine lv_istore_n (lv' := [(2, .int (0 : Int32)), (0, .ref h0), (1, .int p1)]) hx hb dX11_firstPart_1 rfl hl (by decide) rfl (fun ls hl => ?_)
  refine W.widen (k := 0) (n := 0) (Nat.le_of_ble_eq_true rfl) (Nat.le_of_ble_eq_true rfl) ?_
  exact lw_X11_firstPart_2 X hr hlocks hin rs  xfuel h0 p1 (0 : Int32) _ _ _ h Y (lv_sub hl [1, 2, 0] rfl)
/-! NeverBelowModel.halve(I)V -/
abbrev rm_X11_halve : Room := { frames := 0, cells := 0, slots := 0, locals := 0 }
def F_X11_halve_208  (f : xHp) (a0 : Nat) (a1 : Int32) (s0 : Int32) : Option (xHp) := Option.bind (hN f a0 [(10, 13)]) fun v1 => Option.bind (hIld f v1 (((4 : Int32) * a1) + s0)) fun v2 => Option.bind (hN f a0 [(10, 13)]) fun v3 => Option.bind (hIld f v3 ((((4 : Int32) * a1) + s0) + (1 : Int32))) fun v4 => Option.bind (hN f a0 [(10, 13)]) fun v5 => Option.bind (hIst f v5 ((((4 : Int32) * a1) + s0) + (1 : Int32)) ((v2 + v4) / (2 : Int32))) fun f6 => Option.bind (hN f6 a0 [(10, 13)]) fun v7 => Option.bind (hIst f6 v7 ((((4 : Int32) * a1) + (4 : Int32)) + s0) ((v2 + v4) / (2 : Int32))) fun f8 => Option.bind (hI f8 a0 [(10, 12)]) fun v9 => Option.bind (hPut f8 a0 [(10, 12)] (.int (v9 + (1 : Int32)))) fun f10 => some f10
def F_X11_halve_162 (k162 : xHp → Nat → Int32 → Int32 → Int32 → Option (xHp)) (f : xHp) (a0 : Nat) (a1 : Int32) (a4 : Int32) (a5 : Int32) : Option (xHp) := if (4 : Int32) ≤ a5 then (if a4 = 0 then (F_X11_halve_208 f a0 a1 (2 : Int32)) else (F_X11_halve_208 f a0 a1 (0 : Int32))) else (Option.bind (hN f a0 [(10, 13)]) fun v3 => Option.bind (hN f a0 [(10, 13)]) fun v4 => Option.bind (hIld f v4 (((4 : Int32) * a1) + a5)) fun v5 => Option.bind (hIst f v3 ((((4 : Int32) * a1) + (4 : Int32)) + a5) v5) fun f6 => k162 f6 a0 a1 a4 (a5 + 1))
def L_X11_halve_162  : Nat → xHp → Nat → Int32 → Int32 → Int32 → Option (xHp)
  | 0, _, _, _, _, _ => none
  | n + 1, f, a0, a1, a4, a5 => F_X11_halve_162 (L_X11_halve_162  n) f a0 a1 a4 a5
def F_X11_halve_99 (k72 : xHp → Nat → Int32 → Int32 → Int32 → Option (xHp)) (k99 : xHp → Nat → Int32 → Int32 → Int32 → Int32 → Option (xHp)) (f : xHp) (a0 : Nat) (a1 : Int32) (a4 : Int32) (a5 : Int32) (a6 : Int32) : Option (xHp) := if (4 : Int32) ≤ a6 then (k72 f a0 a1 a4 (a5 + (-1))) else (Option.bind (hN f a0 [(10, 13)]) fun v2 => Option.bind (hN f a0 [(10, 13)]) fun v3 => Option.bind (hIld f v3 ((((4 : Int32) * a5) - (4 : Int32)) + a6)) fun v4 => Option.bind (hIst f v2 (((4 : Int32) * a5) + a6) v4) fun f5 => k99 f5 a0 a1 a4 a5 (a6 + 1))
def L_X11_halve_99 (k72 : xHp → Nat → Int32 → Int32 → Int32 → Option (xHp)) : Nat → xHp → Nat → Int32 → Int32 → Int32 → Int32 → Option (xHp)
  | 0, _, _, _, _, _, _ => none
  | n + 1, f, a0, a1, a4, a5, a6 => F_X11_halve_99 k72 (L_X11_halve_99 k72 n) f a0 a1 a4 a5 a6
def F_X11_halve_72 (k72 : xHp → Nat → Int32 → Int32 → Int32 → Option (xHp)) (f : xHp) (a0 : Nat) (a1 : Int32) (a4 : Int32) (a5 : Int32) : Option (xHp) := if a5 ≤ (a1 + (1 : Int32)) then (Option.bind (hN f a0 [(10, 14)]) fun v2 => Option.bind (hIst f v2 a1 (0 : Int32)) fun f3 => Option.bind (hN f3 a0 [(10, 14)]) fun v4 => Option.bind (hIst f3 v4 (a1 + (1 : Int32)) (0 : Int32)) fun f5 => L_X11_halve_162 xfuel f5 a0 a1 a4 (0 : Int32)) else (Option.bind (hN f a0 [(10, 14)]) fun v6 => Option.bind (hN f a0 [(10, 14)]) fun v7 => Option.bind (hIld f v7 (a5 - (1 : Int32))) fun v8 => Option.bind (hIst f v6 a5 v8) fun f9 => L_X11_halve_99 k72 xfuel f9 a0 a1 a4 a5 (0 : Int32))
def L_X11_halve_72  : Nat → xHp → Nat → Int32 → Int32 → Int32 → Option (xHp)
  | 0, _, _, _, _, _ => none
  | n + 1, f, a0, a1, a4, a5 => F_X11_halve_72 (L_X11_halve_72  n) f a0 a1 a4 a5
def F_X11_halve_64  (f : xHp) (a0 : Nat) (a1 : Int32) (s0 : Int32) : Option (xHp) := Option.bind (hI f a0 [(10, 12)]) fun v1 => L_X11_halve_72 xfuel f a0 a1 s0 v1
def F_X11_halve_59  (f : xHp) (a0 : Nat) (a1 : Int32) : Option (xHp) := F_X11_halve_64 f a0 a1 (1 : Int32)
def F_X11_halve_53  (f : xHp) (a0 : Nat) (a1 : Int32) (a3 : Int32) : Option (xHp) := if (a3 - a3 / (2 : Int32) * (2 : Int32)) = 0 then (F_X11_halve_64 f a0 a1 (0 : Int32)) else (F_X11_halve_59 f a0 a1)
def F_X11_halve (f : xHp) (h0 : Nat) (p1 : Int32) : Option (xHp) := Option.bind (hN f h0 [(10, 13)]) fun v1 => Option.bind (hIld f v1 (((4 : Int32) * p1) + (1 : Int32))) fun v2 => Option.bind (hN f h0 [(10, 13)]) fun v3 => Option.bind (hIld f v3 ((4 : Int32) * p1)) fun v4 => Option.bind (hN f h0 [(10, 13)]) fun v5 => Option.bind (hIld f v5 (((4 : Int32) * p1) + (3 : Int32))) fun v6 => Option.bind (hN f h0 [(10, 13)]) fun v7 => Option.bind (hIld f v7 (((4 : Int32) * p1) + (2 : Int32))) fun v8 => if ((v2 - v4) - (v2 - v4) / (2 : Int32) * (2 : Int32)) = 0 then (if (v6 - v8) ≤ (v2 - v4) then (F_X11_halve_59 f h0 p1) else (F_X11_halve_53 f h0 p1 (v6 - v8))) else (F_X11_halve_53 f h0 p1 (v6 - v8))
set_option maxRecDepth 100000 in
set_option maxHeartbeats 4000000 in
theorem w_X11_halve_208 {p : Program} {l : Launch} {e : Env} {s : State} {m : MethodId} {args : Array Value} {below : List Frame} {meth : Method} {c : Code} {G : xG} {z : Nat} (X : xC G p m c s args RX11 cX11_halve 7) (hr : meth.sig.returnType = none) (hlocks : meth.locks = false) (hin : meth.name = yX11_halve.name) (rs : xHp)  (f : xHp) (a0 : Nat) (a1 : Int32) (s0 : Int32) (H : Heap) (locs : List Loc) (ls : Array Slot) (h : F_X11_halve_208  f a0 a1 s0 = some rs) (Y : xY G z f s H locs) (hl : lv_has ls 7 [(0, .ref a0), (1, .int a1)]) : W p l e rm_X11_halve s m args below meth c H locs 0 0 (MQ below (xQ G none z rs) args s rm_X11_halve.cells rm_X11_halve.slots (xA G)) (F0 m 208 ls [.int s0]) := by
  have hx := X.1.1
  have hb := X.1.2.1
  unfold F_X11_halve_208 at h
  refine lv_istore (lv' := [(5, .int s0), (0, .ref a0), (1, .int a1)]) hx hb dX11_halve_208 hl (by decide) rfl (fun ls hl => ?_)
  refine lv_aload_n hx hb dX11_halve_210 rfl (lv_at hl 1 rfl) ?_
  replace h := xb h
  obtain ⟨v1, ev1, h⟩ := h
  refine q_getN X Y fl_X11_29 ev1 dX11_halve_211 ?_
  refine lv_iconst (v := 4) hx hb dX11_halve_214 (by decide) ?_
  refine lv_iload_n hx hb dX11_halve_215 rfl (lv_at hl 2 rfl) ?_
  refine lv_imul hx hb dX11_halve_216 ?_
  refine lv_iload hx hb dX11_halve_217 (lv_at hl 0 rfl) ?_
  refine lv_iadd hx hb dX11_halve_219 ?_
  replace h := xb h
  obtain ⟨v2, ev2, h⟩ := h
  refine q_iald X Y ev2 dX11_halve_220 ?_
  refine lv_aload_n hx hb dX11_halve_221 rfl (lv_at hl 1 rfl) ?_
  replace h := xb h
  obtain ⟨v3, ev3, h⟩ := h
  refine q_getN X Y fl_X11_29 ev3 dX11_halve_222 ?_
  refine lv_iconst (v := 4) hx hb dX11_halve_225 (by decide) ?_
  refine lv_iload_n hx hb dX11_halve_226 rfl (lv_at hl 2 rfl) ?_
  refine lv_imul hx hb dX11_halve_227 ?_
  refine lv_iload hx hb dX11_halve_228 (lv_at hl 0 rfl) ?_
  refine lv_iadd hx hb dX11_halve_230 ?_
  refine lv_iconst (v := 1) hx hb dX11_halve_231 (by decide) ?_
  refine lv_iadd hx hb dX11_halve_232 ?_
  replace h := xb h
  obtain ⟨v4, ev4, h⟩ := h
  refine q_iald X Y ev4 dX11_halve_233 ?_
  refine lv_iadd hx hb dX11_halve_234 ?_
  refine lv_iconst (v := 2) hx hb dX11_halve_235 (by decide) ?_
  refine lv_idiv hx hb dX11_halve_236 (by decide) ?_
  refine lv_istore (lv' := [(6, .int ((v2 + v4) / (2 : Int32))), (5, .int s0), (0, .ref a0), (1, .int a1)]) hx hb dX11_halve_237 hl (by decide) rfl (fun ls hl => ?_)
  refine lv_aload_n hx hb dX11_halve_239 rfl (lv_at hl 2 rfl) ?_
  replace h := xb h
  obtain ⟨v5, ev5, h⟩ := h
  refine q_getN X Y fl_X11_29 ev5 dX11_halve_240 ?_
  refine lv_iconst (v := 4) hx hb dX11_halve_243 (by decide) ?_
  refine lv_iload_n hx hb dX11_halve_244 rfl (lv_at hl 3 rfl) ?_
  refine lv_imul hx hb dX11_halve_245 ?_
  refine lv_iload hx hb dX11_halve_246 (lv_at hl 1 rfl) ?_
  refine lv_iadd hx hb dX11_halve_248 ?_
  refine lv_iconst (v := 1) hx hb dX11_halve_249 (by decide) ?_
  refine lv_iadd hx hb dX11_halve_250 ?_
  refine lv_iload hx hb dX11_halve_251 (lv_at hl 0 rfl) ?_
  replace h := xb h
  obtain ⟨f6, ef6, h⟩ := h
  refine q_iast X Y ef6 dX11_halve_253 (fun H locs Y => ?_)
  refine lv_aload_n hx hb dX11_halve_254 rfl (lv_at hl 2 rfl) ?_
  replace h := xb h
  obtain ⟨v7, ev7, h⟩ := h
  refine q_getN X Y fl_X11_29 ev7 dX11_halve_255 ?_
  refine lv_iconst (v := 4) hx hb dX11_halve_258 (by decide) ?_
  refine lv_iload_n hx hb dX11_halve_259 rfl (lv_at hl 3 rfl) ?_
  refine lv_imul hx hb dX11_halve_260 ?_
  refine lv_iconst (v := 4) hx hb dX11_halve_261 (by decide) ?_
  refine lv_iadd hx hb dX11_halve_262 ?_
  refine lv_iload hx hb dX11_halve_263 (lv_at hl 1 rfl) ?_
  refine lv_iadd hx hb dX11_halve_265 ?_
  refine lv_iload hx hb dX11_halve_266 (lv_at hl 0 rfl) ?_
  replace h := xb h
  obtain ⟨f8, ef8, h⟩ := h
  refine q_iast X Y ef8 dX11_halve_268 (fun H locs Y => ?_)
  refine lv_aload_n hx hb dX11_halve_269 rfl (lv_at hl 2 rfl) ?_
  refine lv_dup hx hb dX11_halve_270 rfl ?_
  replace h := xb h
  obtain ⟨v9, ev9, h⟩ := h
  refine q_getI X Y fl_X11_159 ev9 dX11_halve_271 ?_
  refine lv_iconst (v := 1) hx hb dX11_halve_274 (by decide) ?_
  refine lv_iadd hx hb dX11_halve_275 ?_
  replace h := xb h
  obtain ⟨f10, ef10, h⟩ := h
  refine q_put X Y fp_X11_159 rfl rfl ef10 dX11_halve_276 (fun H locs Y => ?_)
  replace h := Option.some.inj h
  subst h
  exact q_retv X Y hr hlocks (Nat.le_of_ble_eq_true rfl) (Nat.le_of_ble_eq_true rfl) dX11_halve_279
set_option maxRecDepth 100000 in
set_option maxHeartbeats 4000000 in
theorem w_X11_halve_162 {p : Program} {l : Launch} {e : Env} {s : State} {m : MethodId} {args : Array Value} {below : List Frame} {meth : Method} {c : Code} {G : xG} {z : Nat} (X : xC G p m c s args RX11 cX11_halve 7) (hr : meth.sig.returnType = none) (hlocks : meth.locks = false) (hin : meth.name = yX11_halve.name) (rs : xHp) (k162 : xHp → Nat → Int32 → Int32 → Int32 → Option (xHp)) (hk162 : ∀ (f : xHp) (a0 : Nat) (a1 : Int32) (a4 : Int32) (a5 : Int32) (H : Heap) (locs : List Loc) (ls : Array Slot), k162 f a0 a1 a4 a5 = some rs → xY G z f s H locs → lv_has ls 7 [(0, .ref a0), (1, .int a1), (4, .int a4), (5, .int a5)] → W p l e rm_X11_halve s m args below meth c H locs 0 0 (MQ below (xQ G none z rs) args s rm_X11_halve.cells rm_X11_halve.slots (xA G)) (F0 m 162 ls [])) (f : xHp) (a0 : Nat) (a1 : Int32) (a4 : Int32) (a5 : Int32) (H : Heap) (locs : List Loc) (ls : Array Slot) (h : F_X11_halve_162 k162 f a0 a1 a4 a5 = some rs) (Y : xY G z f s H locs) (hl : lv_has ls 7 [(0, .ref a0), (1, .int a1), (4, .int a4), (5, .int a5)]) : W p l e rm_X11_halve s m args below meth c H locs 0 0 (MQ below (xQ G none z rs) args s rm_X11_halve.cells rm_X11_halve.slots (xA G)) (F0 m 162 ls []) := by
  have hx := X.1.1
  have hb := X.1.2.1
  unfold F_X11_halve_162 at h
  refine lv_iload hx hb dX11_halve_162 (lv_at hl 3 rfl) ?_
  refine lv_iconst (v := 4) hx hb dX11_halve_164 (by decide) ?_
  refine lv_icmp_ge (tgt := 198) hx hb dX11_halve_165 (by decide) (fun c1 => ?_) (fun c1 => ?_)
  · replace h := Eq.trans (if_pos c1).symm h
    refine lv_iload hx hb dX11_halve_198 (lv_at hl 2 rfl) ?_
    refine lv_if_eq (tgt := 207) hx hb dX11_halve_200 (by decide) (fun c2 => ?_) (fun c2 => ?_)
    · replace h := Eq.trans (if_pos c2).symm h
      refine lv_iconst (v := 2) hx hb dX11_halve_207 (by decide) ?_
      refine W.widen (k := 0) (n := 0) (Nat.le_of_ble_eq_true rfl) (Nat.le_of_ble_eq_true rfl) ?_
      exact w_X11_halve_208 X hr hlocks hin rs   f a0 a1 (2 : Int32) _ _ _ h Y (lv_sub hl [0, 1] rfl)
    · replace h := Eq.trans (if_neg c2).symm h
      refine lv_iconst (v := 0) hx hb dX11_halve_203 (by decide) ?_
      refine lv_goto (tgt := 208) hx hb dX11_halve_204 (by decide) ?_
      refine W.widen (k := 0) (n := 0) (Nat.le_of_ble_eq_true rfl) (Nat.le_of_ble_eq_true rfl) ?_
      exact w_X11_halve_208 X hr hlocks hin rs   f a0 a1 (0 : Int32) _ _ _ h Y (lv_sub hl [0, 1] rfl)
  · replace h := Eq.trans (if_neg c1).symm h
    refine lv_aload_n hx hb dX11_halve_168 rfl (lv_at hl 0 rfl) ?_
    replace h := xb h
    obtain ⟨v3, ev3, h⟩ := h
    refine q_getN X Y fl_X11_29 ev3 dX11_halve_169 ?_
    refine lv_iconst (v := 4) hx hb dX11_halve_172 (by decide) ?_
    refine lv_iload_n hx hb dX11_halve_173 rfl (lv_at hl 1 rfl) ?_
    refine lv_imul hx hb dX11_halve_174 ?_
    refine lv_iconst (v := 4) hx hb dX11_halve_175 (by decide) ?_
    refine lv_iadd hx hb dX11_halve_176 ?_
    refine lv_iload hx hb dX11_halve_177 (lv_at hl 3 rfl) ?_
    refine lv_iadd hx hb dX11_halve_179 ?_
    refine lv_aload_n hx hb dX11_halve_180 rfl (lv_at hl 0 rfl) ?_
    replace h := xb h
    obtain ⟨v4, ev4, h⟩ := h
    refine q_getN X Y fl_X11_29 ev4 dX11_halve_181 ?_
    refine lv_iconst (v := 4) hx hb dX11_halve_184 (by decide) ?_
    refine lv_iload_n hx hb dX11_halve_185 rfl (lv_at hl 1 rfl) ?_
    refine lv_imul hx hb dX11_halve_186 ?_
    refine lv_iload hx hb dX11_halve_187 (lv_at hl 3 rfl) ?_
    refine lv_iadd hx hb dX11_halve_189 ?_
    replace h := xb h
    obtain ⟨v5, ev5, h⟩ := h
    refine q_iald X Y ev5 dX11_halve_190 ?_
    replace h := xb h
    obtain ⟨f6, ef6, h⟩ := h
    refine q_iast X Y ef6 dX11_halve_191 (fun H locs Y => ?_)
    refine lv_iinc (v := (a5 + 1)) (lv' := [(5, .int (a5 + 1)), (0, .ref a0), (1, .int a1), (4, .int a4)]) hx hb dX11_halve_192 hl (k := 3) rfl rfl (by decide) rfl (fun ls hl => ?_)
    refine lv_goto (tgt := 162) hx hb dX11_halve_195 (by decide) ?_
    refine W.widen (k := 0) (n := 0) (Nat.le_of_ble_eq_true rfl) (Nat.le_of_ble_eq_true rfl) ?_
    exact hk162 f6 a0 a1 a4 (a5 + 1) _ _ _ h Y (lv_sub hl [1, 2, 3, 0] rfl)
set_option maxRecDepth 100000 in
set_option maxHeartbeats 4000000 in
theorem lw_X11_halve_162 {p : Program} {l : Launch} {e : Env} {s : State} {m : MethodId} {args : Array Value} {below : List Frame} {meth : Method} {c : Code} {G : xG} {z : Nat} (X : xC G p m c s args RX11 cX11_halve 7) (hr : meth.sig.returnType = none) (hlocks : meth.locks = false) (hin : meth.name = yX11_halve.name) (rs : xHp)  : ∀ (n : Nat) (f : xHp) (a0 : Nat) (a1 : Int32) (a4 : Int32) (a5 : Int32) (H : Heap) (locs : List Loc) (ls : Array Slot), L_X11_halve_162  n f a0 a1 a4 a5 = some rs → xY G z f s H locs → lv_has ls 7 [(0, .ref a0), (1, .int a1), (4, .int a4), (5, .int a5)] → W p l e rm_X11_halve s m args below meth c H locs 0 0 (MQ below (xQ G none z rs) args s rm_X11_halve.cells rm_X11_halve.slots (xA G)) (F0 m 162 ls []) := by
  intro n
  induction n with
  | zero => intro f a0 a1 a4 a5 H locs ls h Y hl; cases h
  | succ n ih => intro f a0 a1 a4 a5 H locs ls h Y hl; exact w_X11_halve_162 X hr hlocks hin rs _ ih f a0 a1 a4 a5 _ _ _ h Y hl
set_option maxRecDepth 100000 in
set_option maxHeartbeats 4000000 in
theorem w_X11_halve_99 {p : Program} {l : Launch} {e : Env} {s : State} {m : MethodId} {args : Array Value} {below : List Frame} {meth : Method} {c : Code} {G : xG} {z : Nat} (X : xC G p m c s args RX11 cX11_halve 7) (hr : meth.sig.returnType = none) (hlocks : meth.locks = false) (hin : meth.name = yX11_halve.name) (rs : xHp) (k72 : xHp → Nat → Int32 → Int32 → Int32 → Option (xHp)) (hk72 : ∀ (f : xHp) (a0 : Nat) (a1 : Int32) (a4 : Int32) (a5 : Int32) (H : Heap) (locs : List Loc) (ls : Array Slot), k72 f a0 a1 a4 a5 = some rs → xY G z f s H locs → lv_has ls 7 [(0, .ref a0), (1, .int a1), (4, .int a4), (5, .int a5)] → W p l e rm_X11_halve s m args below meth c H locs 0 0 (MQ below (xQ G none z rs) args s rm_X11_halve.cells rm_X11_halve.slots (xA G)) (F0 m 72 ls [])) (k99 : xHp → Nat → Int32 → Int32 → Int32 → Int32 → Option (xHp)) (hk99 : ∀ (f : xHp) (a0 : Nat) (a1 : Int32) (a4 : Int32) (a5 : Int32) (a6 : Int32) (H : Heap) (locs : List Loc) (ls : Array Slot), k99 f a0 a1 a4 a5 a6 = some rs → xY G z f s H locs → lv_has ls 7 [(0, .ref a0), (1, .int a1), (4, .int a4), (5, .int a5), (6, .int a6)] → W p l e rm_X11_halve s m args below meth c H locs 0 0 (MQ below (xQ G none z rs) args s rm_X11_halve.cells rm_X11_halve.slots (xA G)) (F0 m 99 ls [])) (f : xHp) (a0 : Nat) (a1 : Int32) (a4 : Int32) (a5 : Int32) (a6 : Int32) (H : Heap) (locs : List Loc) (ls : Array Slot) (h : F_X11_halve_99 k72 k99 f a0 a1 a4 a5 a6 = some rs) (Y : xY G z f s H locs) (hl : lv_has ls 7 [(0, .ref a0), (1, .int a1), (4, .int a4), (5, .int a5), (6, .int a6)]) : W p l e rm_X11_halve s m args below meth c H locs 0 0 (MQ below (xQ G none z rs) args s rm_X11_halve.cells rm_X11_halve.slots (xA G)) (F0 m 99 ls []) := by
  have hx := X.1.1
  have hb := X.1.2.1
  unfold F_X11_halve_99 at h
  refine lv_iload hx hb dX11_halve_99 (lv_at hl 4 rfl) ?_
  refine lv_iconst (v := 4) hx hb dX11_halve_101 (by decide) ?_
  refine lv_icmp_ge (tgt := 137) hx hb dX11_halve_102 (by decide) (fun c1 => ?_) (fun c1 => ?_)
  · replace h := Eq.trans (if_pos c1).symm h
    refine lv_iinc (v := (a5 + (-1))) (lv' := [(5, .int (a5 + (-1))), (0, .ref a0), (1, .int a1), (4, .int a4), (6, .int a6)]) hx hb dX11_halve_137 hl (k := 3) rfl rfl (by decide) rfl (fun ls hl => ?_)
    refine lv_goto (tgt := 72) hx hb dX11_halve_140 (by decide) ?_
    refine W.widen (k := 0) (n := 0) (Nat.le_of_ble_eq_true rfl) (Nat.le_of_ble_eq_true rfl) ?_
    exact hk72 f a0 a1 a4 (a5 + (-1)) _ _ _ h Y (lv_sub hl [1, 2, 3, 0] rfl)
  · replace h := Eq.trans (if_neg c1).symm h
    refine lv_aload_n hx hb dX11_halve_105 rfl (lv_at hl 0 rfl) ?_
    replace h := xb h
    obtain ⟨v2, ev2, h⟩ := h
    refine q_getN X Y fl_X11_29 ev2 dX11_halve_106 ?_
    refine lv_iconst (v := 4) hx hb dX11_halve_109 (by decide) ?_
    refine lv_iload hx hb dX11_halve_110 (lv_at hl 3 rfl) ?_
    refine lv_imul hx hb dX11_halve_112 ?_
    refine lv_iload hx hb dX11_halve_113 (lv_at hl 4 rfl) ?_
    refine lv_iadd hx hb dX11_halve_115 ?_
    refine lv_aload_n hx hb dX11_halve_116 rfl (lv_at hl 0 rfl) ?_
    replace h := xb h
    obtain ⟨v3, ev3, h⟩ := h
    refine q_getN X Y fl_X11_29 ev3 dX11_halve_117 ?_
    refine lv_iconst (v := 4) hx hb dX11_halve_120 (by decide) ?_
    refine lv_iload hx hb dX11_halve_121 (lv_at hl 3 rfl) ?_
    refine lv_imul hx hb dX11_halve_123 ?_
    refine lv_iconst (v := 4) hx hb dX11_halve_124 (by decide) ?_
    refine lv_isub hx hb dX11_halve_125 ?_
    refine lv_iload hx hb dX11_halve_126 (lv_at hl 4 rfl) ?_
    refine lv_iadd hx hb dX11_halve_128 ?_
    replace h := xb h
    obtain ⟨v4, ev4, h⟩ := h
    refine q_iald X Y ev4 dX11_halve_129 ?_
    replace h := xb h
    obtain ⟨f5, ef5, h⟩ := h
    refine q_iast X Y ef5 dX11_halve_130 (fun H locs Y => ?_)
    refine lv_iinc (v := (a6 + 1)) (lv' := [(6, .int (a6 + 1)), (0, .ref a0), (1, .int a1), (4, .int a4), (5, .int a5)]) hx hb dX11_halve_131 hl (k := 4) rfl rfl (by decide) rfl (fun ls hl => ?_)
    refine lv_goto (tgt := 99) hx hb dX11_halve_134 (by decide) ?_
    refine W.widen (k := 0) (n := 0) (Nat.le_of_ble_eq_true rfl) (Nat.le_of_ble_eq_true rfl) ?_
    exact hk99 f5 a0 a1 a4 a5 (a6 + 1) _ _ _ h Y (lv_sub hl [1, 2, 3, 4, 0] rfl)
set_option maxRecDepth 100000 in
set_option maxHeartbeats 4000000 in
theorem lw_X11_halve_99 {p : Program} {l : Launch} {e : Env} {s : State} {m : MethodId} {args : Array Value} {below : List Frame} {meth : Method} {c : Code} {G : xG} {z : Nat} (X : xC G p m c s args RX11 cX11_halve 7) (hr : meth.sig.returnType = none) (hlocks : meth.locks = false) (hin : meth.name = yX11_halve.name) (rs : xHp) (k72 : xHp → Nat → Int32 → Int32 → Int32 → Option (xHp)) (hk72 : ∀ (f : xHp) (a0 : Nat) (a1 : Int32) (a4 : Int32) (a5 : Int32) (H : Heap) (locs : List Loc) (ls : Array Slot), k72 f a0 a1 a4 a5 = some rs → xY G z f s H locs → lv_has ls 7 [(0, .ref a0), (1, .int a1), (4, .int a4), (5, .int a5)] → W p l e rm_X11_halve s m args below meth c H locs 0 0 (MQ below (xQ G none z rs) args s rm_X11_halve.cells rm_X11_halve.slots (xA G)) (F0 m 72 ls [])) : ∀ (n : Nat) (f : xHp) (a0 : Nat) (a1 : Int32) (a4 : Int32) (a5 : Int32) (a6 : Int32) (H : Heap) (locs : List Loc) (ls : Array Slot), L_X11_halve_99 k72 n f a0 a1 a4 a5 a6 = some rs → xY G z f s H locs → lv_has ls 7 [(0, .ref a0), (1, .int a1), (4, .int a4), (5, .int a5), (6, .int a6)] → W p l e rm_X11_halve s m args below meth c H locs 0 0 (MQ below (xQ G none z rs) args s rm_X11_halve.cells rm_X11_halve.slots (xA G)) (F0 m 99 ls []) := by
  intro n
  induction n with
  | zero => intro f a0 a1 a4 a5 a6 H locs ls h Y hl; cases h
  | succ n ih => intro f a0 a1 a4 a5 a6 H locs ls h Y hl; exact w_X11_halve_99 X hr hlocks hin rs k72 hk72 _ ih f a0 a1 a4 a5 a6 _ _ _ h Y hl
set_option maxRecDepth 100000 in
set_option maxHeartbeats 4000000 in
theorem w_X11_halve_72 {p : Program} {l : Launch} {e : Env} {s : State} {m : MethodId} {args : Array Value} {below : List Frame} {meth : Method} {c : Code} {G : xG} {z : Nat} (X : xC G p m c s args RX11 cX11_halve 7) (hr : meth.sig.returnType = none) (hlocks : meth.locks = false) (hin : meth.name = yX11_halve.name) (rs : xHp) (k72 : xHp → Nat → Int32 → Int32 → Int32 → Option (xHp)) (hk72 : ∀ (f : xHp) (a0 : Nat) (a1 : Int32) (a4 : Int32) (a5 : Int32) (H : Heap) (locs : List Loc) (ls : Array Slot), k72 f a0 a1 a4 a5 = some rs → xY G z f s H locs → lv_has ls 7 [(0, .ref a0), (1, .int a1), (4, .int a4), (5, .int a5)] → W p l e rm_X11_halve s m args below meth c H locs 0 0 (MQ below (xQ G none z rs) args s rm_X11_halve.cells rm_X11_halve.slots (xA G)) (F0 m 72 ls [])) (f : xHp) (a0 : Nat) (a1 : Int32) (a4 : Int32) (a5 : Int32) (H : Heap) (locs : List Loc) (ls : Array Slot) (h : F_X11_halve_72 k72 f a0 a1 a4 a5 = some rs) (Y : xY G z f s H locs) (hl : lv_has ls 7 [(0, .ref a0), (1, .int a1), (4, .int a4), (5, .int a5)]) : W p l e rm_X11_halve s m args below meth c H locs 0 0 (MQ below (xQ G none z rs) args s rm_X11_halve.cells rm_X11_halve.slots (xA G)) (F0 m 72 ls []) := by
  have hx := X.1.1
  have hb := X.1.2.1
  unfold F_X11_halve_72 at h
  refine lv_iload hx hb dX11_halve_72 (lv_at hl 3 rfl) ?_
  refine lv_iload_n hx hb dX11_halve_74 rfl (lv_at hl 1 rfl) ?_
  refine lv_iconst (v := 1) hx hb dX11_halve_75 (by decide) ?_
  refine lv_iadd hx hb dX11_halve_76 ?_
  refine lv_icmp_le (tgt := 143) hx hb dX11_halve_77 (by decide) (fun c1 => ?_) (fun c1 => ?_)
  · replace h := Eq.trans (if_pos c1).symm h
    refine lv_aload_n hx hb dX11_halve_143 rfl (lv_at hl 0 rfl) ?_
    replace h := xb h
    obtain ⟨v2, ev2, h⟩ := h
    refine q_getN X Y fl_X11_32 ev2 dX11_halve_144 ?_
    refine lv_iload_n hx hb dX11_halve_147 rfl (lv_at hl 1 rfl) ?_
    refine lv_iconst (v := 0) hx hb dX11_halve_148 (by decide) ?_
    replace h := xb h
    obtain ⟨f3, ef3, h⟩ := h
    refine q_iast X Y ef3 dX11_halve_149 (fun H locs Y => ?_)
    refine lv_aload_n hx hb dX11_halve_150 rfl (lv_at hl 0 rfl) ?_
    replace h := xb h
    obtain ⟨v4, ev4, h⟩ := h
    refine q_getN X Y fl_X11_32 ev4 dX11_halve_151 ?_
    refine lv_iload_n hx hb dX11_halve_154 rfl (lv_at hl 1 rfl) ?_
    refine lv_iconst (v := 1) hx hb dX11_halve_155 (by decide) ?_
    refine lv_iadd hx hb dX11_halve_156 ?_
    refine lv_iconst (v := 0) hx hb dX11_halve_157 (by decide) ?_
    replace h := xb h
    obtain ⟨f5, ef5, h⟩ := h
    refine q_iast X Y ef5 dX11_halve_158 (fun H locs Y => ?_)
    refine lv_iconst (v := 0) hx hb dX11_halve_159 (by decide) ?_
    refine lv_istore (lv' := [(5, .int (0 : Int32)), (0, .ref a0), (1, .int a1), (4, .int a4)]) hx hb dX11_halve_160 hl (by decide) rfl (fun ls hl => ?_)
    refine W.widen (k := 0) (n := 0) (Nat.le_of_ble_eq_true rfl) (Nat.le_of_ble_eq_true rfl) ?_
    exact lw_X11_halve_162 X hr hlocks hin rs  xfuel f5 a0 a1 a4 (0 : Int32) _ _ _ h Y (lv_sub hl [1, 2, 3, 0] rfl)
  · replace h := Eq.trans (if_neg c1).symm h
    refine lv_aload_n hx hb dX11_halve_80 rfl (lv_at hl 0 rfl) ?_
    replace h := xb h
    obtain ⟨v6, ev6, h⟩ := h
    refine q_getN X Y fl_X11_32 ev6 dX11_halve_81 ?_
    refine lv_iload hx hb dX11_halve_84 (lv_at hl 3 rfl) ?_
    refine lv_aload_n hx hb dX11_halve_86 rfl (lv_at hl 0 rfl) ?_
    replace h := xb h
    obtain ⟨v7, ev7, h⟩ := h
    refine q_getN X Y fl_X11_32 ev7 dX11_halve_87 ?_
    refine lv_iload hx hb dX11_halve_90 (lv_at hl 3 rfl) ?_
    refine lv_iconst (v := 1) hx hb dX11_halve_92 (by decide) ?_
    refine lv_isub hx hb dX11_halve_93 ?_
    replace h := xb h
    obtain ⟨v8, ev8, h⟩ := h
    refine q_iald X Y ev8 dX11_halve_94 ?_
    replace h := xb h
    obtain ⟨f9, ef9, h⟩ := h
    refine q_iast X Y ef9 dX11_halve_95 (fun H locs Y => ?_)
    refine lv_iconst (v := 0) hx hb dX11_halve_96 (by decide) ?_
    refine lv_istore (lv' := [(6, .int (0 : Int32)), (0, .ref a0), (1, .int a1), (4, .int a4), (5, .int a5)]) hx hb dX11_halve_97 hl (by decide) rfl (fun ls hl => ?_)
    refine W.widen (k := 0) (n := 0) (Nat.le_of_ble_eq_true rfl) (Nat.le_of_ble_eq_true rfl) ?_
    exact lw_X11_halve_99 X hr hlocks hin rs k72 hk72 xfuel f9 a0 a1 a4 a5 (0 : Int32) _ _ _ h Y (lv_sub hl [1, 2, 3, 4, 0] rfl)
set_option maxRecDepth 100000 in
set_option maxHeartbeats 4000000 in
theorem lw_X11_halve_72 {p : Program} {l : Launch} {e : Env} {s : State} {m : MethodId} {args : Array Value} {below : List Frame} {meth : Method} {c : Code} {G : xG} {z : Nat} (X : xC G p m c s args RX11 cX11_halve 7) (hr : meth.sig.returnType = none) (hlocks : meth.locks = false) (hin : meth.name = yX11_halve.name) (rs : xHp)  : ∀ (n : Nat) (f : xHp) (a0 : Nat) (a1 : Int32) (a4 : Int32) (a5 : Int32) (H : Heap) (locs : List Loc) (ls : Array Slot), L_X11_halve_72  n f a0 a1 a4 a5 = some rs → xY G z f s H locs → lv_has ls 7 [(0, .ref a0), (1, .int a1), (4, .int a4), (5, .int a5)] → W p l e rm_X11_halve s m args below meth c H locs 0 0 (MQ below (xQ G none z rs) args s rm_X11_halve.cells rm_X11_halve.slots (xA G)) (F0 m 72 ls []) := by
  intro n
  induction n with
  | zero => intro f a0 a1 a4 a5 H locs ls h Y hl; cases h
  | succ n ih => intro f a0 a1 a4 a5 H locs ls h Y hl; exact w_X11_halve_72 X hr hlocks hin rs _ ih f a0 a1 a4 a5 _ _ _ h Y hl
set_option maxRecDepth 100000 in
set_option maxHeartbeats 4000000 in
theorem w_X11_halve_64 {p : Program} {l : Launch} {e : Env} {s : State} {m : MethodId} {args : Array Value} {below : List Frame} {meth : Method} {c : Code} {G : xG} {z : Nat} (X : xC G p m c s args RX11 cX11_halve 7) (hr : meth.sig.returnType = none) (hlocks : meth.locks = false) (hin : meth.name = yX11_halve.name) (rs : xHp)  (f : xHp) (a0 : Nat) (a1 : Int32) (s0 : Int32) (H : Heap) (locs : List Loc) (ls : Array Slot) (h : F_X11_halve_64  f a0 a1 s0 = some rs) (Y : xY G z f s H locs) (hl : lv_has ls 7 [(0, .ref a0), (1, .int a1)]) : W p l e rm_X11_halve s m args below meth c H locs 0 0 (MQ below (xQ G none z rs) args s rm_X11_halve.cells rm_X11_halve.slots (xA G)) (F0 m 64 ls [.int s0]) := by
  have hx := X.1.1
  have hb := X.1.2.1
  unfold F_X11_halve_64 at h
  refine lv_istore (lv' := [(4, .int s0), (0, .ref a0), (1, .int a1)]) hx hb dX11_halve_64 hl (by decide) rfl (fun ls hl => ?_)
  refine lv_aload_n hx hb dX11_halve_66 rfl (lv_at hl 1 rfl) ?_
  replace h := xb h
  obtain ⟨v1, ev1, h⟩ := h
  refine q_getI X Y fl_X11_159 ev1 dX11_halve_67 ?_
  refine lv_istore (lv' := [(5, .int v1), (4, .int s0), (0, .ref a0), (1, .int a1)]) hx hb dX11_halve_70 hl (by decide) rfl (fun ls hl => ?_)
  refine W.widen (k := 0) (n := 0) (Nat.le_of_ble_eq_true rfl) (Nat.le_of_ble_eq_true rfl) ?_
  exact lw_X11_halve_72 X hr hlocks hin rs  xfuel f a0 a1 s0 v1 _ _ _ h Y (lv_sub hl [2, 3, 1, 0] rfl)
set_option maxRecDepth 100000 in
set_option maxHeartbeats 4000000 in
theorem w_X11_halve_59 {p : Program} {l : Launch} {e : Env} {s : State} {m : MethodId} {args : Array Value} {below : List Frame} {meth : Method} {c : Code} {G : xG} {z : Nat} (X : xC G p m c s args RX11 cX11_halve 7) (hr : meth.sig.returnType = none) (hlocks : meth.locks = false) (hin : meth.name = yX11_halve.name) (rs : xHp)  (f : xHp) (a0 : Nat) (a1 : Int32) (H : Heap) (locs : List Loc) (ls : Array Slot) (h : F_X11_halve_59  f a0 a1 = some rs) (Y : xY G z f s H locs) (hl : lv_has ls 7 [(0, .ref a0), (1, .int a1)]) : W p l e rm_X11_halve s m args below meth c H locs 0 0 (MQ below (xQ G none z rs) args s rm_X11_halve.cells rm_X11_halve.slots (xA G)) (F0 m 59 ls []) := by
  have hx := X.1.1
  have hb := X.1.2.1
  unfold F_X11_halve_59 at h
  refine lv_iconst (v := 1) hx hb dX11_halve_59 (by decide) ?_
  refine lv_goto (tgt := 64) hx hb dX11_halve_60 (by decide) ?_
  refine W.widen (k := 0) (n := 0) (Nat.le_of_ble_eq_true rfl) (Nat.le_of_ble_eq_true rfl) ?_
  exact w_X11_halve_64 X hr hlocks hin rs   f a0 a1 (1 : Int32) _ _ _ h Y (lv_sub hl [0, 1] rfl)
set_option maxRecDepth 100000 in
set_option maxHeartbeats 4000000 in
theorem w_X11_halve_53 {p : Program} {l : Launch} {e : Env} {s : State} {m : MethodId} {args : Array Value} {below : List Frame} {meth : Method} {c : Code} {G : xG} {z : Nat} (X : xC G p m c s args RX11 cX11_halve 7) (hr : meth.sig.returnType = none) (hlocks : meth.locks = false) (hin : meth.name = yX11_halve.name) (rs : xHp)  (f : xHp) (a0 : Nat) (a1 : Int32) (a3 : Int32) (H : Heap) (locs : List Loc) (ls : Array Slot) (h : F_X11_halve_53  f a0 a1 a3 = some rs) (Y : xY G z f s H locs) (hl : lv_has ls 7 [(0, .ref a0), (1, .int a1), (3, .int a3)]) : W p l e rm_X11_halve s m args below meth c H locs 0 0 (MQ below (xQ G none z rs) args s rm_X11_halve.cells rm_X11_halve.slots (xA G)) (F0 m 53 ls []) := by
  have hx := X.1.1
  have hb := X.1.2.1
  unfold F_X11_halve_53 at h
  refine lv_iload_n hx hb dX11_halve_53 rfl (lv_at hl 2 rfl) ?_
  refine lv_iconst (v := 2) hx hb dX11_halve_54 (by decide) ?_
  refine lv_irem hx hb dX11_halve_55 (by decide) ?_
  refine lv_if_eq (tgt := 63) hx hb dX11_halve_56 (by decide) (fun c1 => ?_) (fun c1 => ?_)
  · replace h := Eq.trans (if_pos c1).symm h
    refine lv_iconst (v := 0) hx hb dX11_halve_63 (by decide) ?_
    refine W.widen (k := 0) (n := 0) (Nat.le_of_ble_eq_true rfl) (Nat.le_of_ble_eq_true rfl) ?_
    exact w_X11_halve_64 X hr hlocks hin rs   f a0 a1 (0 : Int32) _ _ _ h Y (lv_sub hl [0, 1] rfl)
  · replace h := Eq.trans (if_neg c1).symm h
    refine W.widen (k := 0) (n := 0) (Nat.le_of_ble_eq_true rfl) (Nat.le_of_ble_eq_true rfl) ?_
    exact w_X11_halve_59 X hr hlocks hin rs   f a0 a1 _ _ _ h Y (lv_sub hl [0, 1] rfl)
set_option maxRecDepth 100000 in
set_option maxHeartbeats 4000000 in
theorem c_X11_halve (l : Launch) (G : xG) (z : Nat) (f : xHp) (h0 : Nat) (p1 : Int32) (rs : xHp) (h : F_X11_halve f h0 p1 = some rs) : xM G l yX11_halve cX11_halve 7 none rm_X11_halve [.ref h0, .int p1] z f none z rs := by
  refine xM_of (by decide) (Nat.le_of_ble_eq_true rfl) ?_
  intro p e s m below meth c ls X hr hlocks hin Y hl
  have hl : lv_has ls 7 [(0, .ref h0), (1, .int p1)] := hl
  have hx := X.1.1
  have hb := X.1.2.1
  unfold F_X11_halve at h
  refine lv_aload_n hx hb dX11_halve_0 rfl (lv_at hl 0 rfl) ?_
  replace h := xb h
  obtain ⟨v1, ev1, h⟩ := h
  refine q_getN X Y fl_X11_29 ev1 dX11_halve_1 ?_
  refine lv_iconst (v := 4) hx hb dX11_halve_4 (by decide) ?_
  refine lv_iload_n hx hb dX11_halve_5 rfl (lv_at hl 1 rfl) ?_
  refine lv_imul hx hb dX11_halve_6 ?_
  refine lv_iconst (v := 1) hx hb dX11_halve_7 (by decide) ?_
  refine lv_iadd hx hb dX11_halve_8 ?_
  replace h := xb h
  obtain ⟨v2, ev2, h⟩ := h
  refine q_iald X Y ev2 dX11_halve_9 ?_
  refine lv_aload_n hx hb dX11_halve_10 rfl (lv_at hl 0 rfl) ?_
  replace h := xb h
  obtain ⟨v3, ev3, h⟩ := h
  refine q_getN X Y fl_X11_29 ev3 dX11_halve_11 ?_
  refine lv_iconst (v := 4) hx hb dX11_halve_14 (by decide) ?_
  refine lv_iload_n hx hb dX11_halve_15 rfl (lv_at hl 1 rfl) ?_
  refine lv_imul hx hb dX11_halve_16 ?_
  replace h := xb h
  obtain ⟨v4, ev4, h⟩ := h
  refine q_iald X Y ev4 dX11_halve_17 ?_
  refine lv_isub hx hb dX11_halve_18 ?_
  refine lv_istore_n (lv' := [(2, .int (v2 - v4)), (0, .ref h0), (1, .int p1)]) hx hb dX11_halve_19 rfl hl (by decide) rfl (fun ls hl => ?_)
  refine lv_aload_n hx hb dX11_halve_20 rfl (lv_at hl 1 rfl) ?_
  replace h := xb h
  obtain ⟨v5, ev5, h⟩ := h
  refine q_getN X Y fl_X11_29 ev5 dX11_halve_21 ?_
  refine lv_iconst (v := 4) hx hb dX11_halve_24 (by decide) ?_
  refine lv_iload_n hx hb dX11_halve_25 rfl (lv_at hl 2 rfl) ?_
  refine lv_imul hx hb dX11_halve_26 ?_
  refine lv_iconst (v := 3) hx hb dX11_halve_27 (by decide) ?_
  refine lv_iadd hx hb dX11_halve_28 ?_
  replace h := xb h
  obtain ⟨v6, ev6, h⟩ := h
  refine q_iald X Y ev6 dX11_halve_29 ?_
  refine lv_aload_n hx hb dX11_halve_30 rfl (lv_at hl 1 rfl) ?_
  replace h := xb h
  obtain ⟨v7, ev7, h⟩ := h
  refine q_getN X Y fl_X11_29 ev7 dX11_halve_31 ?_
  refine lv_iconst (v := 4) hx hb dX11_halve_34 (by decide) ?_
  refine lv_iload_n hx hb dX11_halve_35 rfl (lv_at hl 2 rfl) ?_
  refine lv_imul hx hb dX11_halve_36 ?_
  refine lv_iconst (v := 2) hx hb dX11_halve_37 (by decide) ?_
  refine lv_iadd hx hb dX11_halve_38 ?_
  replace h := xb h
  obtain ⟨v8, ev8, h⟩ := h
  refine q_iald X Y ev8 dX11_halve_39 ?_
  refine lv_isub hx hb dX11_halve_40 ?_
  refine lv_istore_n (lv' := [(3, .int (v6 - v8)), (2, .int (v2 - v4)), (0, .ref h0), (1, .int p1)]) hx hb dX11_halve_41 rfl hl (by decide) rfl (fun ls hl => ?_)
  refine lv_iload_n hx hb dX11_halve_42 rfl (lv_at hl 1 rfl) ?_
  refine lv_iconst (v := 2) hx hb dX11_halve_43 (by decide) ?_
  refine lv_irem hx hb dX11_halve_44 (by decide) ?_
  refine lv_if_ne (tgt := 53) hx hb dX11_halve_45 (by decide) (fun c9 => ?_) (fun c9 => ?_)
  · replace h := Eq.trans (if_neg c9).symm h
    refine W.widen (k := 0) (n := 0) (Nat.le_of_ble_eq_true rfl) (Nat.le_of_ble_eq_true rfl) ?_
    exact w_X11_halve_53 X hr hlocks hin rs   f h0 p1 (v6 - v8) _ _ _ h Y (lv_sub hl [2, 3, 0] rfl)
  · replace h := Eq.trans (if_pos c9).symm h
    refine lv_iload_n hx hb dX11_halve_48 rfl (lv_at hl 1 rfl) ?_
    refine lv_iload_n hx hb dX11_halve_49 rfl (lv_at hl 0 rfl) ?_
    refine lv_icmp_ge (tgt := 59) hx hb dX11_halve_50 (by decide) (fun c10 => ?_) (fun c10 => ?_)
    · replace h := Eq.trans (if_pos c10).symm h
      refine W.widen (k := 0) (n := 0) (Nat.le_of_ble_eq_true rfl) (Nat.le_of_ble_eq_true rfl) ?_
      exact w_X11_halve_59 X hr hlocks hin rs   f h0 p1 _ _ _ h Y (lv_sub hl [2, 3] rfl)
    · replace h := Eq.trans (if_neg c10).symm h
      refine W.widen (k := 0) (n := 0) (Nat.le_of_ble_eq_true rfl) (Nat.le_of_ble_eq_true rfl) ?_
      exact w_X11_halve_53 X hr hlocks hin rs   f h0 p1 (v6 - v8) _ _ _ h Y (lv_sub hl [2, 3, 0] rfl)
/-! NeverBelowModel.partCorner(II)J -/
abbrev rm_X11_partCorner : Room := { frames := 2, cells := 0, slots := 0, locals := 54 }
def F_X11_partCorner (f : xHp) (h0 : Nat) (p1 : Int32) (p2 : Int32) : Option (Int64) := Option.bind (hI f h0 [(10, 10)]) fun v1 => Option.bind (hN f h0 [(10, 13)]) fun v2 => Option.bind (hIld f v2 ((4 : Int32) * p1)) fun v3 => Option.bind (hN f h0 [(10, 13)]) fun v4 => Option.bind (hIld f v4 (((4 : Int32) * p1) + (1 : Int32))) fun v5 => Option.bind (hN f h0 [(10, 13)]) fun v6 => Option.bind (hIld f v6 (((4 : Int32) * p1) + (2 : Int32))) fun v7 => Option.bind (hN f h0 [(10, 13)]) fun v8 => Option.bind (hIld f v8 (((4 : Int32) * p1) + (3 : Int32))) fun v9 => if hKd f h0 = some 10 then (Option.bind (F_X11_cornerOf f h0 v1 p2 v3 v5 v7 v9) fun q11 => some q11) else none
set_option maxRecDepth 100000 in
set_option maxHeartbeats 4000000 in
theorem c_X11_partCorner (l : Launch) (G : xG) (z : Nat) (f : xHp) (h0 : Nat) (p1 : Int32) (p2 : Int32) (rs : Int64) (h : F_X11_partCorner f h0 p1 p2 = some rs) : xM G l yX11_partCorner cX11_partCorner 3 (some .long) rm_X11_partCorner [.ref h0, .int p1, .int p2] z f (some (.long rs)) z f := by
  refine xM_of (by decide) (Nat.le_of_ble_eq_true rfl) ?_
  intro p e s m below meth c ls X hr hlocks hin Y hl
  have hl : lv_has ls 3 [(0, .ref h0), (1, .int p1), (2, .int p2)] := hl
  have hx := X.1.1
  have hb := X.1.2.1
  unfold F_X11_partCorner at h
  refine lv_aload_n hx hb dX11_partCorner_0 rfl (lv_at hl 0 rfl) ?_
  refine lv_aload_n hx hb dX11_partCorner_1 rfl (lv_at hl 0 rfl) ?_
  replace h := xb h
  obtain ⟨v1, ev1, h⟩ := h
  refine q_getI X Y fl_X11_162 ev1 dX11_partCorner_2 ?_
  refine lv_iload_n hx hb dX11_partCorner_5 rfl (lv_at hl 2 rfl) ?_
  refine lv_aload_n hx hb dX11_partCorner_6 rfl (lv_at hl 0 rfl) ?_
  replace h := xb h
  obtain ⟨v2, ev2, h⟩ := h
  refine q_getN X Y fl_X11_29 ev2 dX11_partCorner_7 ?_
  refine lv_iconst (v := 4) hx hb dX11_partCorner_10 (by decide) ?_
  refine lv_iload_n hx hb dX11_partCorner_11 rfl (lv_at hl 1 rfl) ?_
  refine lv_imul hx hb dX11_partCorner_12 ?_
  replace h := xb h
  obtain ⟨v3, ev3, h⟩ := h
  refine q_iald X Y ev3 dX11_partCorner_13 ?_
  refine lv_aload_n hx hb dX11_partCorner_14 rfl (lv_at hl 0 rfl) ?_
  replace h := xb h
  obtain ⟨v4, ev4, h⟩ := h
  refine q_getN X Y fl_X11_29 ev4 dX11_partCorner_15 ?_
  refine lv_iconst (v := 4) hx hb dX11_partCorner_18 (by decide) ?_
  refine lv_iload_n hx hb dX11_partCorner_19 rfl (lv_at hl 1 rfl) ?_
  refine lv_imul hx hb dX11_partCorner_20 ?_
  refine lv_iconst (v := 1) hx hb dX11_partCorner_21 (by decide) ?_
  refine lv_iadd hx hb dX11_partCorner_22 ?_
  replace h := xb h
  obtain ⟨v5, ev5, h⟩ := h
  refine q_iald X Y ev5 dX11_partCorner_23 ?_
  refine lv_aload_n hx hb dX11_partCorner_24 rfl (lv_at hl 0 rfl) ?_
  replace h := xb h
  obtain ⟨v6, ev6, h⟩ := h
  refine q_getN X Y fl_X11_29 ev6 dX11_partCorner_25 ?_
  refine lv_iconst (v := 4) hx hb dX11_partCorner_28 (by decide) ?_
  refine lv_iload_n hx hb dX11_partCorner_29 rfl (lv_at hl 1 rfl) ?_
  refine lv_imul hx hb dX11_partCorner_30 ?_
  refine lv_iconst (v := 2) hx hb dX11_partCorner_31 (by decide) ?_
  refine lv_iadd hx hb dX11_partCorner_32 ?_
  replace h := xb h
  obtain ⟨v7, ev7, h⟩ := h
  refine q_iald X Y ev7 dX11_partCorner_33 ?_
  refine lv_aload_n hx hb dX11_partCorner_34 rfl (lv_at hl 0 rfl) ?_
  replace h := xb h
  obtain ⟨v8, ev8, h⟩ := h
  refine q_getN X Y fl_X11_29 ev8 dX11_partCorner_35 ?_
  refine lv_iconst (v := 4) hx hb dX11_partCorner_38 (by decide) ?_
  refine lv_iload_n hx hb dX11_partCorner_39 rfl (lv_at hl 1 rfl) ?_
  refine lv_imul hx hb dX11_partCorner_40 ?_
  refine lv_iconst (v := 3) hx hb dX11_partCorner_41 (by decide) ?_
  refine lv_iadd hx hb dX11_partCorner_42 ?_
  replace h := xb h
  obtain ⟨v9, ev9, h⟩ := h
  refine q_iald X Y ev9 dX11_partCorner_43 ?_
  by_cases c10 : hKd f h0 = some 10
  · replace h := Eq.trans (if_pos c10).symm h
    replace h := xb h
    obtain ⟨q11, eq11, h⟩ := h
    refine q_callV X Y hl.1 (rest := []) (As := [.int v1, .int p2, .int v3, .int v5, .int v7, .int v9]) (c_X11_cornerOf l G z f h0 v1 p2 v3 v5 v7 v9 _ eq11) cd_X11_cornerOf lv_X11_151_10 c10 ⟨(Nat.le_of_ble_eq_true rfl), (Nat.le_of_ble_eq_true rfl)⟩ ⟨(Nat.le_of_ble_eq_true rfl), (Nat.le_of_ble_eq_true rfl)⟩ rfl rfl (Nat.le_of_ble_eq_true rfl) dX11_partCorner_44 (fun H locs Y => ?_)
    refine W.eq (g2 := F0 m 47 ls [.long q11]) rfl ?_
    replace h := Option.some.inj h
    subst h
    exact q_retl X Y hr hlocks (Nat.le_of_ble_eq_true rfl) (Nat.le_of_ble_eq_true rfl) dX11_partCorner_47
  replace h := Eq.trans (if_neg c10).symm h
  cases h

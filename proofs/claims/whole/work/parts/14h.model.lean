/-! NeverBelowModel.multiply(J)V -/
abbrev rm_X11_multiply : Room := { frames := 0, cells := 0, slots := 0, locals := 0 }
def F_X11_multiply_157 (k157 : xHp → Nat → Int32 → Option (xHp)) (f : xHp) (a0 : Nat) (a3 : Int32) : Option (xHp) := if (24 : Int32) ≤ a3 then (some f) else (Option.bind (hN f a0 [(10, 26)]) fun v2 => Option.bind (hN f a0 [(10, 28)]) fun v3 => Option.bind (hJld f v3 a3) fun v4 => Option.bind (hJst f v2 a3 v4) fun f5 => k157 f5 a0 (a3 + 1))
def L_X11_multiply_157  : Nat → xHp → Nat → Int32 → Option (xHp)
  | 0, _, _, _ => none
  | n + 1, f, a0, a3 => F_X11_multiply_157 (L_X11_multiply_157  n) f a0 a3
def F_X11_multiply_69 (k57 : xHp → Nat → Int32 → Option (xHp)) (k69 : xHp → Nat → Int32 → Int64 → Int32 → Option (xHp)) (f : xHp) (a0 : Nat) (a3 : Int32) (a4 : Int64) (a6 : Int32) : Option (xHp) := if (24 : Int32) ≤ (a3 + a6) then (k57 f a0 (a3 + 1)) else (Option.bind (hN f a0 [(10, 26)]) fun v2 => Option.bind (hJld f v2 a3) fun v3 => Option.bind (hN f a0 [(10, 27)]) fun v4 => Option.bind (hJld f v4 a6) fun v5 => Option.bind (hN f a0 [(10, 28)]) fun v6 => Option.bind (hJld f v6 (a3 + a6)) fun v7 => Option.bind (hN f a0 [(10, 28)]) fun v8 => Option.bind (hJst f v8 (a3 + a6) (((v7 + ((v3 * v5) &&& (4294967295 : Int64))) + a4) &&& (4294967295 : Int64))) fun f9 => k69 f9 a0 a3 (((v3 * v5).toUInt64 >>> ((32 : Int32).toInt64.toUInt64 &&& Int64.toUInt64 63)).toInt64 + (((v7 + ((v3 * v5) &&& (4294967295 : Int64))) + a4).toUInt64 >>> ((32 : Int32).toInt64.toUInt64 &&& Int64.toUInt64 63)).toInt64) (a6 + 1))
def L_X11_multiply_69 (k57 : xHp → Nat → Int32 → Option (xHp)) : Nat → xHp → Nat → Int32 → Int64 → Int32 → Option (xHp)
  | 0, _, _, _, _, _ => none
  | n + 1, f, a0, a3, a4, a6 => F_X11_multiply_69 k57 (L_X11_multiply_69 k57 n) f a0 a3 a4 a6
def F_X11_multiply_57 (k57 : xHp → Nat → Int32 → Option (xHp)) (f : xHp) (a0 : Nat) (a3 : Int32) : Option (xHp) := if (24 : Int32) ≤ a3 then (L_X11_multiply_157 xfuel f a0 (0 : Int32)) else (L_X11_multiply_69 k57 xfuel f a0 a3 (0 : Int64) (0 : Int32))
def L_X11_multiply_57  : Nat → xHp → Nat → Int32 → Option (xHp)
  | 0, _, _, _ => none
  | n + 1, f, a0, a3 => F_X11_multiply_57 (L_X11_multiply_57  n) f a0 a3
def F_X11_multiply_37 (k2 : xHp → Nat → Int64 → Int32 → Option (xHp)) (f : xHp) (a0 : Nat) (a1 : Int64) (a3 : Int32) (s0 : Int64) (s1 : Int32) (s2 : Nat) : Option (xHp) := Option.bind (hJst f s2 s1 (s0 &&& (4294967295 : Int64))) fun f1 => Option.bind (hN f1 a0 [(10, 28)]) fun v2 => Option.bind (hJst f1 v2 a3 (0 : Int64)) fun f3 => k2 f3 a0 a1 (a3 + 1)
def F_X11_multiply_2 (k2 : xHp → Nat → Int64 → Int32 → Option (xHp)) (f : xHp) (a0 : Nat) (a1 : Int64) (a3 : Int32) : Option (xHp) := if (24 : Int32) ≤ a3 then (L_X11_multiply_57 xfuel f a0 (0 : Int32)) else (Option.bind (hN f a0 [(10, 27)]) fun v2 => if a3 = 0 then (F_X11_multiply_37 k2 f a0 a1 a3 a1 a3 v2) else (if a3 = (1 : Int32) then (F_X11_multiply_37 k2 f a0 a1 a3 (a1 >>> ((32 : Int32).toInt64 &&& 63)) a3 v2) else (F_X11_multiply_37 k2 f a0 a1 a3 (a1 >>> ((63 : Int32).toInt64 &&& 63)) a3 v2)))
def L_X11_multiply_2  : Nat → xHp → Nat → Int64 → Int32 → Option (xHp)
  | 0, _, _, _, _ => none
  | n + 1, f, a0, a1, a3 => F_X11_multiply_2 (L_X11_multiply_2  n) f a0 a1 a3
def F_X11_multiply (f : xHp) (h0 : Nat) (p1 : Int64) : Option (xHp) := L_X11_multiply_2 xfuel f h0 p1 (0 : Int32)
set_option maxRecDepth 100000 in
set_option maxHeartbeats 4000000 in
theorem w_X11_multiply_157 {p : Program} {l : Launch} {e : Env} {s : State} {m : MethodId} {args : Array Value} {below : List Frame} {meth : Method} {c : Code} {G : xG} {z : Nat} (X : xC G p m c s args RX11 cX11_multiply 11) (hr : meth.sig.returnType = none) (hlocks : meth.locks = false) (hin : meth.name = yX11_multiply.name) (rs : xHp) (k157 : xHp → Nat → Int32 → Option (xHp)) (hk157 : ∀ (f : xHp) (a0 : Nat) (a3 : Int32) (H : Heap) (locs : List Loc) (ls : Array Slot), k157 f a0 a3 = some rs → xY G z f s H locs → lv_has ls 11 [(0, .ref a0), (3, .int a3)] → W p l e rm_X11_multiply s m args below meth c H locs 0 0 (MQ below (xQ G none z rs) args s rm_X11_multiply.cells rm_X11_multiply.slots (xA G)) (F0 m 157 ls [])) (f : xHp) (a0 : Nat) (a3 : Int32) (H : Heap) (locs : List Loc) (ls : Array Slot) (h : F_X11_multiply_157 k157 f a0 a3 = some rs) (Y : xY G z f s H locs) (hl : lv_has ls 11 [(0, .ref a0), (3, .int a3)]) : W p l e rm_X11_multiply s m args below meth c H locs 0 0 (MQ below (xQ G none z rs) args s rm_X11_multiply.cells rm_X11_multiply.slots (xA G)) (F0 m 157 ls []) := by
  have hx := X.1.1
  have hb := X.1.2.1
  unfold F_X11_multiply_157 at h
  refine lv_iload_n hx hb dX11_multiply_157 rfl (lv_at hl 1 rfl) ?_
  refine lv_bipush (v := 24) hx hb dX11_multiply_158 (by decide) ?_
  refine lv_icmp_ge (tgt := 181) hx hb dX11_multiply_160 (by decide) (fun c1 => ?_) (fun c1 => ?_)
  · replace h := Eq.trans (if_pos c1).symm h
    replace h := Option.some.inj h
    subst h
    exact q_retv X Y hr hlocks (Nat.le_of_ble_eq_true rfl) (Nat.le_of_ble_eq_true rfl) dX11_multiply_181
  · replace h := Eq.trans (if_neg c1).symm h
    refine lv_aload_n hx hb dX11_multiply_163 rfl (lv_at hl 0 rfl) ?_
    replace h := xb h
    obtain ⟨v2, ev2, h⟩ := h
    refine q_getN X Y fl_X11_56 ev2 dX11_multiply_164 ?_
    refine lv_iload_n hx hb dX11_multiply_167 rfl (lv_at hl 1 rfl) ?_
    refine lv_aload_n hx hb dX11_multiply_168 rfl (lv_at hl 0 rfl) ?_
    replace h := xb h
    obtain ⟨v3, ev3, h⟩ := h
    refine q_getN X Y fl_X11_62 ev3 dX11_multiply_169 ?_
    refine lv_iload_n hx hb dX11_multiply_172 rfl (lv_at hl 1 rfl) ?_
    replace h := xb h
    obtain ⟨v4, ev4, h⟩ := h
    refine q_lald X Y ev4 dX11_multiply_173 ?_
    replace h := xb h
    obtain ⟨f5, ef5, h⟩ := h
    refine q_last X Y ef5 dX11_multiply_174 (fun H locs Y => ?_)
    refine lv_iinc (v := (a3 + 1)) (lv' := [(3, .int (a3 + 1)), (0, .ref a0)]) hx hb dX11_multiply_175 hl (k := 1) rfl rfl (by decide) rfl (fun ls hl => ?_)
    refine lv_goto (tgt := 157) hx hb dX11_multiply_178 (by decide) ?_
    refine W.widen (k := 0) (n := 0) (Nat.le_of_ble_eq_true rfl) (Nat.le_of_ble_eq_true rfl) ?_
    exact hk157 f5 a0 (a3 + 1) _ _ _ h Y (lv_sub hl [1, 0] rfl)
set_option maxRecDepth 100000 in
set_option maxHeartbeats 4000000 in
theorem lw_X11_multiply_157 {p : Program} {l : Launch} {e : Env} {s : State} {m : MethodId} {args : Array Value} {below : List Frame} {meth : Method} {c : Code} {G : xG} {z : Nat} (X : xC G p m c s args RX11 cX11_multiply 11) (hr : meth.sig.returnType = none) (hlocks : meth.locks = false) (hin : meth.name = yX11_multiply.name) (rs : xHp)  : ∀ (n : Nat) (f : xHp) (a0 : Nat) (a3 : Int32) (H : Heap) (locs : List Loc) (ls : Array Slot), L_X11_multiply_157  n f a0 a3 = some rs → xY G z f s H locs → lv_has ls 11 [(0, .ref a0), (3, .int a3)] → W p l e rm_X11_multiply s m args below meth c H locs 0 0 (MQ below (xQ G none z rs) args s rm_X11_multiply.cells rm_X11_multiply.slots (xA G)) (F0 m 157 ls []) := by
  intro n
  induction n with
  | zero => intro f a0 a3 H locs ls h Y hl; cases h
  | succ n ih => intro f a0 a3 H locs ls h Y hl; exact w_X11_multiply_157 X hr hlocks hin rs _ ih f a0 a3 _ _ _ h Y hl
set_option maxRecDepth 100000 in
set_option maxHeartbeats 4000000 in
theorem w_X11_multiply_69 {p : Program} {l : Launch} {e : Env} {s : State} {m : MethodId} {args : Array Value} {below : List Frame} {meth : Method} {c : Code} {G : xG} {z : Nat} (X : xC G p m c s args RX11 cX11_multiply 11) (hr : meth.sig.returnType = none) (hlocks : meth.locks = false) (hin : meth.name = yX11_multiply.name) (rs : xHp) (k57 : xHp → Nat → Int32 → Option (xHp)) (hk57 : ∀ (f : xHp) (a0 : Nat) (a3 : Int32) (H : Heap) (locs : List Loc) (ls : Array Slot), k57 f a0 a3 = some rs → xY G z f s H locs → lv_has ls 11 [(0, .ref a0), (3, .int a3)] → W p l e rm_X11_multiply s m args below meth c H locs 0 0 (MQ below (xQ G none z rs) args s rm_X11_multiply.cells rm_X11_multiply.slots (xA G)) (F0 m 57 ls [])) (k69 : xHp → Nat → Int32 → Int64 → Int32 → Option (xHp)) (hk69 : ∀ (f : xHp) (a0 : Nat) (a3 : Int32) (a4 : Int64) (a6 : Int32) (H : Heap) (locs : List Loc) (ls : Array Slot), k69 f a0 a3 a4 a6 = some rs → xY G z f s H locs → lv_has ls 11 [(0, .ref a0), (3, .int a3), (4, .long a4), (6, .int a6)] → W p l e rm_X11_multiply s m args below meth c H locs 0 0 (MQ below (xQ G none z rs) args s rm_X11_multiply.cells rm_X11_multiply.slots (xA G)) (F0 m 69 ls [])) (f : xHp) (a0 : Nat) (a3 : Int32) (a4 : Int64) (a6 : Int32) (H : Heap) (locs : List Loc) (ls : Array Slot) (h : F_X11_multiply_69 k57 k69 f a0 a3 a4 a6 = some rs) (Y : xY G z f s H locs) (hl : lv_has ls 11 [(0, .ref a0), (3, .int a3), (4, .long a4), (6, .int a6)]) : W p l e rm_X11_multiply s m args below meth c H locs 0 0 (MQ below (xQ G none z rs) args s rm_X11_multiply.cells rm_X11_multiply.slots (xA G)) (F0 m 69 ls []) := by
  have hx := X.1.1
  have hb := X.1.2.1
  unfold F_X11_multiply_69 at h
  refine lv_iload_n hx hb dX11_multiply_69 rfl (lv_at hl 1 rfl) ?_
  refine lv_iload hx hb dX11_multiply_70 (lv_at hl 3 rfl) ?_
  refine lv_iadd hx hb dX11_multiply_72 ?_
  refine lv_bipush (v := 24) hx hb dX11_multiply_73 (by decide) ?_
  refine lv_icmp_ge (tgt := 149) hx hb dX11_multiply_75 (by decide) (fun c1 => ?_) (fun c1 => ?_)
  · replace h := Eq.trans (if_pos c1).symm h
    refine lv_iinc (v := (a3 + 1)) (lv' := [(3, .int (a3 + 1)), (0, .ref a0), (4, .long a4), (6, .int a6)]) hx hb dX11_multiply_149 hl (k := 1) rfl rfl (by decide) rfl (fun ls hl => ?_)
    refine lv_goto (tgt := 57) hx hb dX11_multiply_152 (by decide) ?_
    refine W.widen (k := 0) (n := 0) (Nat.le_of_ble_eq_true rfl) (Nat.le_of_ble_eq_true rfl) ?_
    exact hk57 f a0 (a3 + 1) _ _ _ h Y (lv_sub hl [1, 0] rfl)
  · replace h := Eq.trans (if_neg c1).symm h
    refine lv_aload_n hx hb dX11_multiply_78 rfl (lv_at hl 0 rfl) ?_
    replace h := xb h
    obtain ⟨v2, ev2, h⟩ := h
    refine q_getN X Y fl_X11_56 ev2 dX11_multiply_79 ?_
    refine lv_iload_n hx hb dX11_multiply_82 rfl (lv_at hl 1 rfl) ?_
    replace h := xb h
    obtain ⟨v3, ev3, h⟩ := h
    refine q_lald X Y ev3 dX11_multiply_83 ?_
    refine lv_aload_n hx hb dX11_multiply_84 rfl (lv_at hl 0 rfl) ?_
    replace h := xb h
    obtain ⟨v4, ev4, h⟩ := h
    refine q_getN X Y fl_X11_59 ev4 dX11_multiply_85 ?_
    refine lv_iload hx hb dX11_multiply_88 (lv_at hl 3 rfl) ?_
    replace h := xb h
    obtain ⟨v5, ev5, h⟩ := h
    refine q_lald X Y ev5 dX11_multiply_90 ?_
    refine lv_lmul hx hb dX11_multiply_91 ?_
    refine lv_lstore (lv' := [(7, .long (v3 * v5)), (0, .ref a0), (3, .int a3), (4, .long a4), (6, .int a6)]) hx hb dX11_multiply_92 hl (by decide) rfl (fun ls hl => ?_)
    refine lv_aload_n hx hb dX11_multiply_94 rfl (lv_at hl 1 rfl) ?_
    replace h := xb h
    obtain ⟨v6, ev6, h⟩ := h
    refine q_getN X Y fl_X11_62 ev6 dX11_multiply_95 ?_
    refine lv_iload_n hx hb dX11_multiply_98 rfl (lv_at hl 2 rfl) ?_
    refine lv_iload hx hb dX11_multiply_99 (lv_at hl 4 rfl) ?_
    refine lv_iadd hx hb dX11_multiply_101 ?_
    replace h := xb h
    obtain ⟨v7, ev7, h⟩ := h
    refine q_lald X Y ev7 dX11_multiply_102 ?_
    refine lv_lload hx hb dX11_multiply_103 (lv_at hl 0 rfl) ?_
    refine lv_ldc2 (v := 4294967295) hx hb X.1.2.2.2.1 (X.1.2.2.2.2 _ xw_1194) dX11_multiply_105 ?_
    refine lv_land hx hb dX11_multiply_108 ?_
    refine lv_ladd hx hb dX11_multiply_109 ?_
    refine lv_lload hx hb dX11_multiply_110 (lv_at hl 3 rfl) ?_
    refine lv_ladd hx hb dX11_multiply_112 ?_
    refine lv_lstore (lv' := [(9, .long ((v7 + ((v3 * v5) &&& (4294967295 : Int64))) + a4)), (7, .long (v3 * v5)), (0, .ref a0), (3, .int a3), (4, .long a4), (6, .int a6)]) hx hb dX11_multiply_113 hl (by decide) rfl (fun ls hl => ?_)
    refine lv_aload_n hx hb dX11_multiply_115 rfl (lv_at hl 2 rfl) ?_
    replace h := xb h
    obtain ⟨v8, ev8, h⟩ := h
    refine q_getN X Y fl_X11_62 ev8 dX11_multiply_116 ?_
    refine lv_iload_n hx hb dX11_multiply_119 rfl (lv_at hl 3 rfl) ?_
    refine lv_iload hx hb dX11_multiply_120 (lv_at hl 5 rfl) ?_
    refine lv_iadd hx hb dX11_multiply_122 ?_
    refine lv_lload hx hb dX11_multiply_123 (lv_at hl 0 rfl) ?_
    refine lv_ldc2 (v := 4294967295) hx hb X.1.2.2.2.1 (X.1.2.2.2.2 _ xw_1194) dX11_multiply_125 ?_
    refine lv_land hx hb dX11_multiply_128 ?_
    replace h := xb h
    obtain ⟨f9, ef9, h⟩ := h
    refine q_last X Y ef9 dX11_multiply_129 (fun H locs Y => ?_)
    refine lv_lload hx hb dX11_multiply_130 (lv_at hl 1 rfl) ?_
    refine lv_bipush (v := 32) hx hb dX11_multiply_132 (by decide) ?_
    refine lv_lushr hx hb dX11_multiply_134 rfl ?_
    refine lv_lload hx hb dX11_multiply_135 (lv_at hl 0 rfl) ?_
    refine lv_bipush (v := 32) hx hb dX11_multiply_137 (by decide) ?_
    refine lv_lushr hx hb dX11_multiply_139 rfl ?_
    refine lv_ladd hx hb dX11_multiply_140 ?_
    refine lv_lstore (lv' := [(4, .long (((v3 * v5).toUInt64 >>> ((32 : Int32).toInt64.toUInt64 &&& Int64.toUInt64 63)).toInt64 + (((v7 + ((v3 * v5) &&& (4294967295 : Int64))) + a4).toUInt64 >>> ((32 : Int32).toInt64.toUInt64 &&& Int64.toUInt64 63)).toInt64)), (9, .long ((v7 + ((v3 * v5) &&& (4294967295 : Int64))) + a4)), (7, .long (v3 * v5)), (0, .ref a0), (3, .int a3), (6, .int a6)]) hx hb dX11_multiply_141 hl (by decide) rfl (fun ls hl => ?_)
    refine lv_iinc (v := (a6 + 1)) (lv' := [(6, .int (a6 + 1)), (4, .long (((v3 * v5).toUInt64 >>> ((32 : Int32).toInt64.toUInt64 &&& Int64.toUInt64 63)).toInt64 + (((v7 + ((v3 * v5) &&& (4294967295 : Int64))) + a4).toUInt64 >>> ((32 : Int32).toInt64.toUInt64 &&& Int64.toUInt64 63)).toInt64)), (9, .long ((v7 + ((v3 * v5) &&& (4294967295 : Int64))) + a4)), (7, .long (v3 * v5)), (0, .ref a0), (3, .int a3)]) hx hb dX11_multiply_143 hl (k := 5) rfl rfl (by decide) rfl (fun ls hl => ?_)
    refine lv_goto (tgt := 69) hx hb dX11_multiply_146 (by decide) ?_
    refine W.widen (k := 0) (n := 0) (Nat.le_of_ble_eq_true rfl) (Nat.le_of_ble_eq_true rfl) ?_
    exact hk69 f9 a0 a3 (((v3 * v5).toUInt64 >>> ((32 : Int32).toInt64.toUInt64 &&& Int64.toUInt64 63)).toInt64 + (((v7 + ((v3 * v5) &&& (4294967295 : Int64))) + a4).toUInt64 >>> ((32 : Int32).toInt64.toUInt64 &&& Int64.toUInt64 63)).toInt64) (a6 + 1) _ _ _ h Y (lv_sub hl [4, 5, 1, 0] rfl)
set_option maxRecDepth 100000 in
set_option maxHeartbeats 4000000 in
theorem lw_X11_multiply_69 {p : Program} {l : Launch} {e : Env} {s : State} {m : MethodId} {args : Array Value} {below : List Frame} {meth : Method} {c : Code} {G : xG} {z : Nat} (X : xC G p m c s args RX11 cX11_multiply 11) (hr : meth.sig.returnType = none) (hlocks : meth.locks = false) (hin : meth.name = yX11_multiply.name) (rs : xHp) (k57 : xHp → Nat → Int32 → Option (xHp)) (hk57 : ∀ (f : xHp) (a0 : Nat) (a3 : Int32) (H : Heap) (locs : List Loc) (ls : Array Slot), k57 f a0 a3 = some rs → xY G z f s H locs → lv_has ls 11 [(0, .ref a0), (3, .int a3)] → W p l e rm_X11_multiply s m args below meth c H locs 0 0 (MQ below (xQ G none z rs) args s rm_X11_multiply.cells rm_X11_multiply.slots (xA G)) (F0 m 57 ls [])) : ∀ (n : Nat) (f : xHp) (a0 : Nat) (a3 : Int32) (a4 : Int64) (a6 : Int32) (H : Heap) (locs : List Loc) (ls : Array Slot), L_X11_multiply_69 k57 n f a0 a3 a4 a6 = some rs → xY G z f s H locs → lv_has ls 11 [(0, .ref a0), (3, .int a3), (4, .long a4), (6, .int a6)] → W p l e rm_X11_multiply s m args below meth c H locs 0 0 (MQ below (xQ G none z rs) args s rm_X11_multiply.cells rm_X11_multiply.slots (xA G)) (F0 m 69 ls []) := by
  intro n
  induction n with
  | zero => intro f a0 a3 a4 a6 H locs ls h Y hl; cases h
  | succ n ih => intro f a0 a3 a4 a6 H locs ls h Y hl; exact w_X11_multiply_69 X hr hlocks hin rs k57 hk57 _ ih f a0 a3 a4 a6 _ _ _ h Y hl
set_option maxRecDepth 100000 in
set_option maxHeartbeats 4000000 in
theorem w_X11_multiply_57 {p : Program} {l : Launch} {e : Env} {s : State} {m : MethodId} {args : Array Value} {below : List Frame} {meth : Method} {c : Code} {G : xG} {z : Nat} (X : xC G p m c s args RX11 cX11_multiply 11) (hr : meth.sig.returnType = none) (hlocks : meth.locks = false) (hin : meth.name = yX11_multiply.name) (rs : xHp) (k57 : xHp → Nat → Int32 → Option (xHp)) (hk57 : ∀ (f : xHp) (a0 : Nat) (a3 : Int32) (H : Heap) (locs : List Loc) (ls : Array Slot), k57 f a0 a3 = some rs → xY G z f s H locs → lv_has ls 11 [(0, .ref a0), (3, .int a3)] → W p l e rm_X11_multiply s m args below meth c H locs 0 0 (MQ below (xQ G none z rs) args s rm_X11_multiply.cells rm_X11_multiply.slots (xA G)) (F0 m 57 ls [])) (f : xHp) (a0 : Nat) (a3 : Int32) (H : Heap) (locs : List Loc) (ls : Array Slot) (h : F_X11_multiply_57 k57 f a0 a3 = some rs) (Y : xY G z f s H locs) (hl : lv_has ls 11 [(0, .ref a0), (3, .int a3)]) : W p l e rm_X11_multiply s m args below meth c H locs 0 0 (MQ below (xQ G none z rs) args s rm_X11_multiply.cells rm_X11_multiply.slots (xA G)) (F0 m 57 ls []) := by
  have hx := X.1.1
  have hb := X.1.2.1
  unfold F_X11_multiply_57 at h
  refine lv_iload_n hx hb dX11_multiply_57 rfl (lv_at hl 1 rfl) ?_
  refine lv_bipush (v := 24) hx hb dX11_multiply_58 (by decide) ?_
  refine lv_icmp_ge (tgt := 155) hx hb dX11_multiply_60 (by decide) (fun c1 => ?_) (fun c1 => ?_)
  · replace h := Eq.trans (if_pos c1).symm h
    refine lv_iconst (v := 0) hx hb dX11_multiply_155 (by decide) ?_
    refine lv_istore_n (lv' := [(3, .int (0 : Int32)), (0, .ref a0)]) hx hb dX11_multiply_156 rfl hl (by decide) rfl (fun ls hl => ?_)
    refine W.widen (k := 0) (n := 0) (Nat.le_of_ble_eq_true rfl) (Nat.le_of_ble_eq_true rfl) ?_
    exact lw_X11_multiply_157 X hr hlocks hin rs  xfuel f a0 (0 : Int32) _ _ _ h Y (lv_sub hl [1, 0] rfl)
  · replace h := Eq.trans (if_neg c1).symm h
    refine lv_lconst (v := 0) hx hb dX11_multiply_63 (by decide) ?_
    refine lv_lstore (lv' := [(4, .long (0 : Int64)), (0, .ref a0), (3, .int a3)]) hx hb dX11_multiply_64 hl (by decide) rfl (fun ls hl => ?_)
    refine lv_iconst (v := 0) hx hb dX11_multiply_66 (by decide) ?_
    refine lv_istore (lv' := [(6, .int (0 : Int32)), (4, .long (0 : Int64)), (0, .ref a0), (3, .int a3)]) hx hb dX11_multiply_67 hl (by decide) rfl (fun ls hl => ?_)
    refine W.widen (k := 0) (n := 0) (Nat.le_of_ble_eq_true rfl) (Nat.le_of_ble_eq_true rfl) ?_
    exact lw_X11_multiply_69 X hr hlocks hin rs k57 hk57 xfuel f a0 a3 (0 : Int64) (0 : Int32) _ _ _ h Y (lv_sub hl [2, 3, 1, 0] rfl)
set_option maxRecDepth 100000 in
set_option maxHeartbeats 4000000 in
theorem lw_X11_multiply_57 {p : Program} {l : Launch} {e : Env} {s : State} {m : MethodId} {args : Array Value} {below : List Frame} {meth : Method} {c : Code} {G : xG} {z : Nat} (X : xC G p m c s args RX11 cX11_multiply 11) (hr : meth.sig.returnType = none) (hlocks : meth.locks = false) (hin : meth.name = yX11_multiply.name) (rs : xHp)  : ∀ (n : Nat) (f : xHp) (a0 : Nat) (a3 : Int32) (H : Heap) (locs : List Loc) (ls : Array Slot), L_X11_multiply_57  n f a0 a3 = some rs → xY G z f s H locs → lv_has ls 11 [(0, .ref a0), (3, .int a3)] → W p l e rm_X11_multiply s m args below meth c H locs 0 0 (MQ below (xQ G none z rs) args s rm_X11_multiply.cells rm_X11_multiply.slots (xA G)) (F0 m 57 ls []) := by
  intro n
  induction n with
  | zero => intro f a0 a3 H locs ls h Y hl; cases h
  | succ n ih => intro f a0 a3 H locs ls h Y hl; exact w_X11_multiply_57 X hr hlocks hin rs _ ih f a0 a3 _ _ _ h Y hl
set_option maxRecDepth 100000 in
set_option maxHeartbeats 4000000 in
theorem w_X11_multiply_37 {p : Program} {l : Launch} {e : Env} {s : State} {m : MethodId} {args : Array Value} {below : List Frame} {meth : Method} {c : Code} {G : xG} {z : Nat} (X : xC G p m c s args RX11 cX11_multiply 11) (hr : meth.sig.returnType = none) (hlocks : meth.locks = false) (hin : meth.name = yX11_multiply.name) (rs : xHp) (k2 : xHp → Nat → Int64 → Int32 → Option (xHp)) (hk2 : ∀ (f : xHp) (a0 : Nat) (a1 : Int64) (a3 : Int32) (H : Heap) (locs : List Loc) (ls : Array Slot), k2 f a0 a1 a3 = some rs → xY G z f s H locs → lv_has ls 11 [(0, .ref a0), (1, .long a1), (3, .int a3)] → W p l e rm_X11_multiply s m args below meth c H locs 0 0 (MQ below (xQ G none z rs) args s rm_X11_multiply.cells rm_X11_multiply.slots (xA G)) (F0 m 2 ls [])) (f : xHp) (a0 : Nat) (a1 : Int64) (a3 : Int32) (s0 : Int64) (s1 : Int32) (s2 : Nat) (H : Heap) (locs : List Loc) (ls : Array Slot) (h : F_X11_multiply_37 k2 f a0 a1 a3 s0 s1 s2 = some rs) (Y : xY G z f s H locs) (hl : lv_has ls 11 [(0, .ref a0), (1, .long a1), (3, .int a3)]) : W p l e rm_X11_multiply s m args below meth c H locs 0 0 (MQ below (xQ G none z rs) args s rm_X11_multiply.cells rm_X11_multiply.slots (xA G)) (F0 m 37 ls [.long s0, .int s1, .ref s2]) := by
  have hx := X.1.1
  have hb := X.1.2.1
  unfold F_X11_multiply_37 at h
  refine lv_ldc2 (v := 4294967295) hx hb X.1.2.2.2.1 (X.1.2.2.2.2 _ xw_1194) dX11_multiply_37 ?_
  refine lv_land hx hb dX11_multiply_40 ?_
  replace h := xb h
  obtain ⟨f1, ef1, h⟩ := h
  refine q_last X Y ef1 dX11_multiply_41 (fun H locs Y => ?_)
  refine lv_aload_n hx hb dX11_multiply_42 rfl (lv_at hl 0 rfl) ?_
  replace h := xb h
  obtain ⟨v2, ev2, h⟩ := h
  refine q_getN X Y fl_X11_62 ev2 dX11_multiply_43 ?_
  refine lv_iload_n hx hb dX11_multiply_46 rfl (lv_at hl 2 rfl) ?_
  refine lv_lconst (v := 0) hx hb dX11_multiply_47 (by decide) ?_
  replace h := xb h
  obtain ⟨f3, ef3, h⟩ := h
  refine q_last X Y ef3 dX11_multiply_48 (fun H locs Y => ?_)
  refine lv_iinc (v := (a3 + 1)) (lv' := [(3, .int (a3 + 1)), (0, .ref a0), (1, .long a1)]) hx hb dX11_multiply_49 hl (k := 2) rfl rfl (by decide) rfl (fun ls hl => ?_)
  refine lv_goto (tgt := 2) hx hb dX11_multiply_52 (by decide) ?_
  refine W.widen (k := 0) (n := 0) (Nat.le_of_ble_eq_true rfl) (Nat.le_of_ble_eq_true rfl) ?_
  exact hk2 f3 a0 a1 (a3 + 1) _ _ _ h Y (lv_sub hl [1, 2, 0] rfl)
set_option maxRecDepth 100000 in
set_option maxHeartbeats 4000000 in
theorem w_X11_multiply_2 {p : Program} {l : Launch} {e : Env} {s : State} {m : MethodId} {args : Array Value} {below : List Frame} {meth : Method} {c : Code} {G : xG} {z : Nat} (X : xC G p m c s args RX11 cX11_multiply 11) (hr : meth.sig.returnType = none) (hlocks : meth.locks = false) (hin : meth.name = yX11_multiply.name) (rs : xHp) (k2 : xHp → Nat → Int64 → Int32 → Option (xHp)) (hk2 : ∀ (f : xHp) (a0 : Nat) (a1 : Int64) (a3 : Int32) (H : Heap) (locs : List Loc) (ls : Array Slot), k2 f a0 a1 a3 = some rs → xY G z f s H locs → lv_has ls 11 [(0, .ref a0), (1, .long a1), (3, .int a3)] → W p l e rm_X11_multiply s m args below meth c H locs 0 0 (MQ below (xQ G none z rs) args s rm_X11_multiply.cells rm_X11_multiply.slots (xA G)) (F0 m 2 ls [])) (f : xHp) (a0 : Nat) (a1 : Int64) (a3 : Int32) (H : Heap) (locs : List Loc) (ls : Array Slot) (h : F_X11_multiply_2 k2 f a0 a1 a3 = some rs) (Y : xY G z f s H locs) (hl : lv_has ls 11 [(0, .ref a0), (1, .long a1), (3, .int a3)]) : W p l e rm_X11_multiply s m args below meth c H locs 0 0 (MQ below (xQ G none z rs) args s rm_X11_multiply.cells rm_X11_multiply.slots (xA G)) (F0 m 2 ls []) := by
  have hx := X.1.1
  have hb := X.1.2.1
  unfold F_X11_multiply_2 at h
  refine lv_iload_n hx hb dX11_multiply_2 rfl (lv_at hl 2 rfl) ?_
  refine lv_bipush (v := 24) hx hb dX11_multiply_3 (by decide) ?_
  refine lv_icmp_ge (tgt := 55) hx hb dX11_multiply_5 (by decide) (fun c1 => ?_) (fun c1 => ?_)
  · replace h := Eq.trans (if_pos c1).symm h
    refine lv_iconst (v := 0) hx hb dX11_multiply_55 (by decide) ?_
    refine lv_istore_n (lv' := [(3, .int (0 : Int32)), (0, .ref a0), (1, .long a1)]) hx hb dX11_multiply_56 rfl hl (by decide) rfl (fun ls hl => ?_)
    refine W.widen (k := 0) (n := 0) (Nat.le_of_ble_eq_true rfl) (Nat.le_of_ble_eq_true rfl) ?_
    exact lw_X11_multiply_57 X hr hlocks hin rs  xfuel f a0 (0 : Int32) _ _ _ h Y (lv_sub hl [1, 0] rfl)
  · replace h := Eq.trans (if_neg c1).symm h
    refine lv_aload_n hx hb dX11_multiply_8 rfl (lv_at hl 0 rfl) ?_
    replace h := xb h
    obtain ⟨v2, ev2, h⟩ := h
    refine q_getN X Y fl_X11_59 ev2 dX11_multiply_9 ?_
    refine lv_iload_n hx hb dX11_multiply_12 rfl (lv_at hl 2 rfl) ?_
    refine lv_iload_n hx hb dX11_multiply_13 rfl (lv_at hl 2 rfl) ?_
    refine lv_if_ne (tgt := 21) hx hb dX11_multiply_14 (by decide) (fun c3 => ?_) (fun c3 => ?_)
    · replace h := Eq.trans (if_neg c3).symm h
      refine lv_iload_n hx hb dX11_multiply_21 rfl (lv_at hl 2 rfl) ?_
      refine lv_iconst (v := 1) hx hb dX11_multiply_22 (by decide) ?_
      refine lv_icmp_ne (tgt := 33) hx hb dX11_multiply_23 (by decide) (fun c4 => ?_) (fun c4 => ?_)
      · replace h := Eq.trans (if_neg c4).symm h
        refine lv_lload_n hx hb dX11_multiply_33 rfl (lv_at hl 1 rfl) ?_
        refine lv_bipush (v := 63) hx hb dX11_multiply_34 (by decide) ?_
        refine lv_lshr hx hb dX11_multiply_36 rfl ?_
        refine W.widen (k := 0) (n := 0) (Nat.le_of_ble_eq_true rfl) (Nat.le_of_ble_eq_true rfl) ?_
        exact w_X11_multiply_37 X hr hlocks hin rs k2 hk2  f a0 a1 a3 (a1 >>> ((63 : Int32).toInt64 &&& 63)) a3 v2 _ _ _ h Y (lv_sub hl [0, 1, 2] rfl)
      · replace h := Eq.trans (if_pos c4).symm h
        refine lv_lload_n hx hb dX11_multiply_26 rfl (lv_at hl 1 rfl) ?_
        refine lv_bipush (v := 32) hx hb dX11_multiply_27 (by decide) ?_
        refine lv_lshr hx hb dX11_multiply_29 rfl ?_
        refine lv_goto (tgt := 37) hx hb dX11_multiply_30 (by decide) ?_
        refine W.widen (k := 0) (n := 0) (Nat.le_of_ble_eq_true rfl) (Nat.le_of_ble_eq_true rfl) ?_
        exact w_X11_multiply_37 X hr hlocks hin rs k2 hk2  f a0 a1 a3 (a1 >>> ((32 : Int32).toInt64 &&& 63)) a3 v2 _ _ _ h Y (lv_sub hl [0, 1, 2] rfl)
    · replace h := Eq.trans (if_pos c3).symm h
      refine lv_lload_n hx hb dX11_multiply_17 rfl (lv_at hl 1 rfl) ?_
      refine lv_goto (tgt := 37) hx hb dX11_multiply_18 (by decide) ?_
      refine W.widen (k := 0) (n := 0) (Nat.le_of_ble_eq_true rfl) (Nat.le_of_ble_eq_true rfl) ?_
      exact w_X11_multiply_37 X hr hlocks hin rs k2 hk2  f a0 a1 a3 a1 a3 v2 _ _ _ h Y (lv_sub hl [0, 1, 2] rfl)
set_option maxRecDepth 100000 in
set_option maxHeartbeats 4000000 in
theorem lw_X11_multiply_2 {p : Program} {l : Launch} {e : Env} {s : State} {m : MethodId} {args : Array Value} {below : List Frame} {meth : Method} {c : Code} {G : xG} {z : Nat} (X : xC G p m c s args RX11 cX11_multiply 11) (hr : meth.sig.returnType = none) (hlocks : meth.locks = false) (hin : meth.name = yX11_multiply.name) (rs : xHp)  : ∀ (n : Nat) (f : xHp) (a0 : Nat) (a1 : Int64) (a3 : Int32) (H : Heap) (locs : List Loc) (ls : Array Slot), L_X11_multiply_2  n f a0 a1 a3 = some rs → xY G z f s H locs → lv_has ls 11 [(0, .ref a0), (1, .long a1), (3, .int a3)] → W p l e rm_X11_multiply s m args below meth c H locs 0 0 (MQ below (xQ G none z rs) args s rm_X11_multiply.cells rm_X11_multiply.slots (xA G)) (F0 m 2 ls []) := by
  intro n
  induction n with
  | zero => intro f a0 a1 a3 H locs ls h Y hl; cases h
  | succ n ih => intro f a0 a1 a3 H locs ls h Y hl; exact w_X11_multiply_2 X hr hlocks hin rs _ ih f a0 a1 a3 _ _ _ h Y hl
set_option maxRecDepth 100000 in
set_option maxHeartbeats 4000000 in
theorem c_X11_multiply (l : Launch) (G : xG) (z : Nat) (f : xHp) (h0 : Nat) (p1 : Int64) (rs : xHp) (h : F_X11_multiply f h0 p1 = some rs) : xM G l yX11_multiply cX11_multiply 11 none rm_X11_multiply [.ref h0, .long p1] z f none z rs := by
  refine xM_of (by decide) (Nat.le_of_ble_eq_true rfl) ?_
  intro p e s m below meth c ls X hr hlocks hin Y hl
  have hl : lv_has ls 11 [(0, .ref h0), (1, .long p1)] := hl
  have hx := X.1.1
  have hb := X.1.2.1
  unfold F_X11_multiply at h
  refine lv_iconst (v := 0) hx hb dX11_multiply_0 (by decide) ?_
  refine lv_istore_n (lv' := [(3, .int (0 : Int32)), (0, .ref h0), (1, .long p1)]) hx hb dX11_multiply_1 rfl hl (by decide) rfl (fun ls hl => ?_)
  refine W.widen (k := 0) (n := 0) (Nat.le_of_ble_eq_true rfl) (Nat.le_of_ble_eq_true rfl) ?_
  exact lw_X11_multiply_2 X hr hlocks hin rs  xfuel f h0 p1 (0 : Int32) _ _ _ h Y (lv_sub hl [1, 2, 0] rfl)
/-! NeverBelowModel.secondOf(I)I -/
abbrev rm_X11_secondOf : Room := { frames := 0, cells := 0, slots := 0, locals := 0 }
def F_X11_secondOf_20 (f : xHp)    : Option (Int32) := some (1 : Int32)
def F_X11_secondOf (f : xHp) (p0 : Int32) : Option (Int32) := if p0 = (6 : Int32) then (some (0 : Int32)) else (if p0 = (4 : Int32) then (F_X11_secondOf_20 f) else (if p0 = (2 : Int32) then (F_X11_secondOf_20 f) else (some (2 : Int32))))
set_option maxRecDepth 100000 in
set_option maxHeartbeats 4000000 in
theorem w_X11_secondOf_20 {p : Program} {l : Launch} {e : Env} {s : State} {m : MethodId} {args : Array Value} {below : List Frame} {meth : Method} {c : Code} {G : xG} {z : Nat} {f : xHp} (X : xC G p m c s args RX11 cX11_secondOf 1) (hr : meth.sig.returnType = (some .int)) (hlocks : meth.locks = false) (hin : meth.name = yX11_secondOf.name) (rs : Int32)   (H : Heap) (locs : List Loc) (ls : Array Slot) (h : F_X11_secondOf_20 f   = some rs) (Y : xY G z f s H locs) (hl : lv_has ls 1 []) : W p l e rm_X11_secondOf s m args below meth c H locs 0 0 (MQ below (xQ G (some (.int rs)) z f) args s rm_X11_secondOf.cells rm_X11_secondOf.slots (xA G)) (F0 m 20 ls []) := by
  have hx := X.1.1
  have hb := X.1.2.1
  unfold F_X11_secondOf_20 at h
  refine lv_iconst (v := 1) hx hb dX11_secondOf_20 (by decide) ?_
  refine lv_goto (tgt := 25) hx hb dX11_secondOf_21 (by decide) ?_
  replace h := Option.some.inj h
  subst h
  exact q_reti X Y hr hlocks (Nat.le_of_ble_eq_true rfl) (Nat.le_of_ble_eq_true rfl) dX11_secondOf_25
set_option maxRecDepth 100000 in
set_option maxHeartbeats 4000000 in
theorem c_X11_secondOf (l : Launch) (G : xG) (z : Nat) (f : xHp) (p0 : Int32) (rs : Int32) (h : F_X11_secondOf f p0 = some rs) : xM G l yX11_secondOf cX11_secondOf 1 (some .int) rm_X11_secondOf [.int p0] z f (some (.int rs)) z f := by
  refine xM_of (by decide) (Nat.le_of_ble_eq_true rfl) ?_
  intro p e s m below meth c ls X hr hlocks hin Y hl
  have hl : lv_has ls 1 [(0, .int p0)] := hl
  have hx := X.1.1
  have hb := X.1.2.1
  unfold F_X11_secondOf at h
  refine lv_iload_n hx hb dX11_secondOf_0 rfl (lv_at hl 0 rfl) ?_
  refine lv_bipush (v := 6) hx hb dX11_secondOf_1 (by decide) ?_
  refine lv_icmp_ne (tgt := 10) hx hb dX11_secondOf_3 (by decide) (fun c1 => ?_) (fun c1 => ?_)
  · replace h := Eq.trans (if_neg c1).symm h
    refine lv_iload_n hx hb dX11_secondOf_10 rfl (lv_at hl 0 rfl) ?_
    refine lv_iconst (v := 4) hx hb dX11_secondOf_11 (by decide) ?_
    refine lv_icmp_eq (tgt := 20) hx hb dX11_secondOf_12 (by decide) (fun c2 => ?_) (fun c2 => ?_)
    · replace h := Eq.trans (if_pos c2).symm h
      refine W.widen (k := 0) (n := 0) (Nat.le_of_ble_eq_true rfl) (Nat.le_of_ble_eq_true rfl) ?_
      exact w_X11_secondOf_20 X hr hlocks hin rs    _ _ _ h Y (lv_sub hl [] rfl)
    · replace h := Eq.trans (if_neg c2).symm h
      refine lv_iload_n hx hb dX11_secondOf_15 rfl (lv_at hl 0 rfl) ?_
      refine lv_iconst (v := 2) hx hb dX11_secondOf_16 (by decide) ?_
      refine lv_icmp_ne (tgt := 24) hx hb dX11_secondOf_17 (by decide) (fun c3 => ?_) (fun c3 => ?_)
      · replace h := Eq.trans (if_neg c3).symm h
        refine lv_iconst (v := 2) hx hb dX11_secondOf_24 (by decide) ?_
        replace h := Option.some.inj h
        subst h
        exact q_reti X Y hr hlocks (Nat.le_of_ble_eq_true rfl) (Nat.le_of_ble_eq_true rfl) dX11_secondOf_25
      · replace h := Eq.trans (if_pos c3).symm h
        refine W.widen (k := 0) (n := 0) (Nat.le_of_ble_eq_true rfl) (Nat.le_of_ble_eq_true rfl) ?_
        exact w_X11_secondOf_20 X hr hlocks hin rs    _ _ _ h Y (lv_sub hl [] rfl)
  · replace h := Eq.trans (if_pos c1).symm h
    refine lv_iconst (v := 0) hx hb dX11_secondOf_6 (by decide) ?_
    refine lv_goto (tgt := 25) hx hb dX11_secondOf_7 (by decide) ?_
    replace h := Option.some.inj h
    subst h
    exact q_reti X Y hr hlocks (Nat.le_of_ble_eq_true rfl) (Nat.le_of_ble_eq_true rfl) dX11_secondOf_25
/-! NeverBelowModel.timesOthers(II)V -/
abbrev rm_X11_timesOthers : Room := { frames := 1, cells := 0, slots := 0, locals := 30 }
def F_X11_timesOthers_36 (k9 : xHp → Nat → Int32 → Int32 → Int32 → Int32 → Option (xHp)) (f : xHp) (a0 : Nat) (a1 : Int32) (a2 : Int32) (a3 : Int32) (a4 : Int32) : Option (xHp) := k9 f a0 a1 a2 a3 (a4 + 1)
def F_X11_timesOthers_9 (k9 : xHp → Nat → Int32 → Int32 → Int32 → Int32 → Option (xHp)) (f : xHp) (a0 : Nat) (a1 : Int32) (a2 : Int32) (a3 : Int32) (a4 : Int32) : Option (xHp) := if a3 ≤ a4 then (Option.bind (hN f a0 [(10, 21)]) fun v2 => Option.bind (hIld f v2 a1) fun v3 => if v3 = (3 : Int32) then (if a2 = a3 then (some f) else (if hKd f a0 = some 10 then (Option.bind (F_X11_proofNumber f a0 a1 (((5 : Int32) * a3) + (1 : Int32))) fun q7 => if hKd f a0 = some 10 then (Option.bind (F_X11_multiply f a0 q7) fun q9 => if hKd q9 a0 = some 10 then (Option.bind (F_X11_multiply q9 a0 (65536 : Int64)) fun q11 => some q11) else none) else none) else none)) else (some f)) else (if a4 = a2 then (F_X11_timesOthers_36 k9 f a0 a1 a2 a3 a4) else (if hKd f a0 = some 10 then (Option.bind (F_X11_proofNumber f a0 a1 (((5 : Int32) * a4) + (1 : Int32))) fun q14 => if hKd f a0 = some 10 then (Option.bind (F_X11_multiply f a0 q14) fun q16 => F_X11_timesOthers_36 k9 q16 a0 a1 a2 a3 a4) else none) else none))
def L_X11_timesOthers_9  : Nat → xHp → Nat → Int32 → Int32 → Int32 → Int32 → Option (xHp)
  | 0, _, _, _, _, _, _ => none
  | n + 1, f, a0, a1, a2, a3, a4 => F_X11_timesOthers_9 (L_X11_timesOthers_9  n) f a0 a1 a2 a3 a4
def F_X11_timesOthers (f : xHp) (h0 : Nat) (p1 : Int32) (p2 : Int32) : Option (xHp) := if hKd f h0 = some 10 then (Option.bind (F_X11_squaresIn f h0 p1) fun q2 => L_X11_timesOthers_9 xfuel f h0 p1 p2 q2 (0 : Int32)) else none
set_option maxRecDepth 100000 in
set_option maxHeartbeats 4000000 in
theorem w_X11_timesOthers_36 {p : Program} {l : Launch} {e : Env} {s : State} {m : MethodId} {args : Array Value} {below : List Frame} {meth : Method} {c : Code} {G : xG} {z : Nat} (X : xC G p m c s args RX11 cX11_timesOthers 5) (hr : meth.sig.returnType = none) (hlocks : meth.locks = false) (hin : meth.name = yX11_timesOthers.name) (rs : xHp) (k9 : xHp → Nat → Int32 → Int32 → Int32 → Int32 → Option (xHp)) (hk9 : ∀ (f : xHp) (a0 : Nat) (a1 : Int32) (a2 : Int32) (a3 : Int32) (a4 : Int32) (H : Heap) (locs : List Loc) (ls : Array Slot), k9 f a0 a1 a2 a3 a4 = some rs → xY G z f s H locs → lv_has ls 5 [(0, .ref a0), (1, .int a1), (2, .int a2), (3, .int a3), (4, .int a4)] → W p l e rm_X11_timesOthers s m args below meth c H locs 0 0 (MQ below (xQ G none z rs) args s rm_X11_timesOthers.cells rm_X11_timesOthers.slots (xA G)) (F0 m 9 ls [])) (f : xHp) (a0 : Nat) (a1 : Int32) (a2 : Int32) (a3 : Int32) (a4 : Int32) (H : Heap) (locs : List Loc) (ls : Array Slot) (h : F_X11_timesOthers_36 k9 f a0 a1 a2 a3 a4 = some rs) (Y : xY G z f s H locs) (hl : lv_has ls 5 [(0, .ref a0), (1, .int a1), (2, .int a2), (3, .int a3), (4, .int a4)]) : W p l e rm_X11_timesOthers s m args below meth c H locs 0 0 (MQ below (xQ G none z rs) args s rm_X11_timesOthers.cells rm_X11_timesOthers.slots (xA G)) (F0 m 36 ls []) := by
  have hx := X.1.1
  have hb := X.1.2.1
  unfold F_X11_timesOthers_36 at h
  refine lv_iinc (v := (a4 + 1)) (lv' := [(4, .int (a4 + 1)), (0, .ref a0), (1, .int a1), (2, .int a2), (3, .int a3)]) hx hb dX11_timesOthers_36 hl (k := 4) rfl rfl (by decide) rfl (fun ls hl => ?_)
  refine lv_goto (tgt := 9) hx hb dX11_timesOthers_39 (by decide) ?_
  refine W.widen (k := 0) (n := 0) (Nat.le_of_ble_eq_true rfl) (Nat.le_of_ble_eq_true rfl) ?_
  exact hk9 f a0 a1 a2 a3 (a4 + 1) _ _ _ h Y (lv_sub hl [1, 2, 3, 4, 0] rfl)
set_option maxRecDepth 100000 in
set_option maxHeartbeats 4000000 in
theorem w_X11_timesOthers_9 {p : Program} {l : Launch} {e : Env} {s : State} {m : MethodId} {args : Array Value} {below : List Frame} {meth : Method} {c : Code} {G : xG} {z : Nat} (X : xC G p m c s args RX11 cX11_timesOthers 5) (hr : meth.sig.returnType = none) (hlocks : meth.locks = false) (hin : meth.name = yX11_timesOthers.name) (rs : xHp) (k9 : xHp → Nat → Int32 → Int32 → Int32 → Int32 → Option (xHp)) (hk9 : ∀ (f : xHp) (a0 : Nat) (a1 : Int32) (a2 : Int32) (a3 : Int32) (a4 : Int32) (H : Heap) (locs : List Loc) (ls : Array Slot), k9 f a0 a1 a2 a3 a4 = some rs → xY G z f s H locs → lv_has ls 5 [(0, .ref a0), (1, .int a1), (2, .int a2), (3, .int a3), (4, .int a4)] → W p l e rm_X11_timesOthers s m args below meth c H locs 0 0 (MQ below (xQ G none z rs) args s rm_X11_timesOthers.cells rm_X11_timesOthers.slots (xA G)) (F0 m 9 ls [])) (f : xHp) (a0 : Nat) (a1 : Int32) (a2 : Int32) (a3 : Int32) (a4 : Int32) (H : Heap) (locs : List Loc) (ls : Array Slot) (h : F_X11_timesOthers_9 k9 f a0 a1 a2 a3 a4 = some rs) (Y : xY G z f s H locs) (hl : lv_has ls 5 [(0, .ref a0), (1, .int a1), (2, .int a2), (3, .int a3), (4, .int a4)]) : W p l e rm_X11_timesOthers s m args below meth c H locs 0 0 (MQ below (xQ G none z rs) args s rm_X11_timesOthers.cells rm_X11_timesOthers.slots (xA G)) (F0 m 9 ls []) := by
  have hx := X.1.1
  have hb := X.1.2.1
  unfold F_X11_timesOthers_9 at h
  refine lv_iload hx hb dX11_timesOthers_9 (lv_at hl 4 rfl) ?_
  refine lv_iload_n hx hb dX11_timesOthers_11 rfl (lv_at hl 3 rfl) ?_
  refine lv_icmp_ge (tgt := 42) hx hb dX11_timesOthers_12 (by decide) (fun c1 => ?_) (fun c1 => ?_)
  · replace h := Eq.trans (if_pos c1).symm h
    refine lv_aload_n hx hb dX11_timesOthers_42 rfl (lv_at hl 0 rfl) ?_
    replace h := xb h
    obtain ⟨v2, ev2, h⟩ := h
    refine q_getN X Y fl_X11_41 ev2 dX11_timesOthers_43 ?_
    refine lv_iload_n hx hb dX11_timesOthers_46 rfl (lv_at hl 1 rfl) ?_
    replace h := xb h
    obtain ⟨v3, ev3, h⟩ := h
    refine q_iald X Y ev3 dX11_timesOthers_47 ?_
    refine lv_iconst (v := 3) hx hb dX11_timesOthers_48 (by decide) ?_
    refine lv_icmp_ne (tgt := 78) hx hb dX11_timesOthers_49 (by decide) (fun c4 => ?_) (fun c4 => ?_)
    · replace h := Eq.trans (if_neg c4).symm h
      replace h := Option.some.inj h
      subst h
      exact q_retv X Y hr hlocks (Nat.le_of_ble_eq_true rfl) (Nat.le_of_ble_eq_true rfl) dX11_timesOthers_78
    · replace h := Eq.trans (if_pos c4).symm h
      refine lv_iload_n hx hb dX11_timesOthers_52 rfl (lv_at hl 2 rfl) ?_
      refine lv_iload_n hx hb dX11_timesOthers_53 rfl (lv_at hl 3 rfl) ?_
      refine lv_icmp_eq (tgt := 78) hx hb dX11_timesOthers_54 (by decide) (fun c5 => ?_) (fun c5 => ?_)
      · replace h := Eq.trans (if_pos c5).symm h
        replace h := Option.some.inj h
        subst h
        exact q_retv X Y hr hlocks (Nat.le_of_ble_eq_true rfl) (Nat.le_of_ble_eq_true rfl) dX11_timesOthers_78
      · replace h := Eq.trans (if_neg c5).symm h
        refine lv_aload_n hx hb dX11_timesOthers_57 rfl (lv_at hl 0 rfl) ?_
        refine lv_aload_n hx hb dX11_timesOthers_58 rfl (lv_at hl 0 rfl) ?_
        refine lv_iload_n hx hb dX11_timesOthers_59 rfl (lv_at hl 1 rfl) ?_
        refine lv_iconst (v := 5) hx hb dX11_timesOthers_60 (by decide) ?_
        refine lv_iload_n hx hb dX11_timesOthers_61 rfl (lv_at hl 3 rfl) ?_
        refine lv_imul hx hb dX11_timesOthers_62 ?_
        refine lv_iconst (v := 1) hx hb dX11_timesOthers_63 (by decide) ?_
        refine lv_iadd hx hb dX11_timesOthers_64 ?_
        by_cases c6 : hKd f a0 = some 10
        · replace h := Eq.trans (if_pos c6).symm h
          replace h := xb h
          obtain ⟨q7, eq7, h⟩ := h
          refine q_callV X Y hl.1 (rest := [.ref a0]) (As := [.int a1, .int (((5 : Int32) * a3) + (1 : Int32))]) (c_X11_proofNumber l G z f a0 a1 (((5 : Int32) * a3) + (1 : Int32)) _ eq7) cd_X11_proofNumber lv_X11_239_10 c6 ⟨(Nat.le_of_ble_eq_true rfl), (Nat.le_of_ble_eq_true rfl)⟩ ⟨(Nat.le_of_ble_eq_true rfl), (Nat.le_of_ble_eq_true rfl)⟩ rfl rfl (Nat.le_of_ble_eq_true rfl) dX11_timesOthers_65 (fun H locs Y => ?_)
          refine W.eq (g2 := F0 m 68 ls [.long q7, .ref a0]) rfl ?_
          by_cases c8 : hKd f a0 = some 10
          · replace h := Eq.trans (if_pos c8).symm h
            replace h := xb h
            obtain ⟨q9, eq9, h⟩ := h
            refine q_callV X Y hl.1 (rest := []) (As := [.long q7]) (c_X11_multiply l G z f a0 q7 _ eq9) cd_X11_multiply lv_X11_242_10 c8 ⟨(Nat.le_of_ble_eq_true rfl), (Nat.le_of_ble_eq_true rfl)⟩ ⟨(Nat.le_of_ble_eq_true rfl), (Nat.le_of_ble_eq_true rfl)⟩ rfl rfl (Nat.le_of_ble_eq_true rfl) dX11_timesOthers_68 (fun H locs Y => ?_)
            refine W.eq (g2 := F0 m 71 ls []) rfl ?_
            refine lv_aload_n hx hb dX11_timesOthers_71 rfl (lv_at hl 0 rfl) ?_
            refine lv_ldc2 (v := 65536) hx hb X.1.2.2.2.1 (X.1.2.2.2.2 _ xw_993) dX11_timesOthers_72 ?_
            by_cases c10 : hKd q9 a0 = some 10
            · replace h := Eq.trans (if_pos c10).symm h
              replace h := xb h
              obtain ⟨q11, eq11, h⟩ := h
              refine q_callV X Y hl.1 (rest := []) (As := [.long (65536 : Int64)]) (c_X11_multiply l G z q9 a0 (65536 : Int64) _ eq11) cd_X11_multiply lv_X11_242_10 c10 ⟨(Nat.le_of_ble_eq_true rfl), (Nat.le_of_ble_eq_true rfl)⟩ ⟨(Nat.le_of_ble_eq_true rfl), (Nat.le_of_ble_eq_true rfl)⟩ rfl rfl (Nat.le_of_ble_eq_true rfl) dX11_timesOthers_75 (fun H locs Y => ?_)
              refine W.eq (g2 := F0 m 78 ls []) rfl ?_
              replace h := Option.some.inj h
              subst h
              exact q_retv X Y hr hlocks (Nat.le_of_ble_eq_true rfl) (Nat.le_of_ble_eq_true rfl) dX11_timesOthers_78
            replace h := Eq.trans (if_neg c10).symm h
            cases h
          replace h := Eq.trans (if_neg c8).symm h
          cases h
        replace h := Eq.trans (if_neg c6).symm h
        cases h
  · replace h := Eq.trans (if_neg c1).symm h
    refine lv_iload hx hb dX11_timesOthers_15 (lv_at hl 4 rfl) ?_
    refine lv_iload_n hx hb dX11_timesOthers_17 rfl (lv_at hl 2 rfl) ?_
    refine lv_icmp_eq (tgt := 36) hx hb dX11_timesOthers_18 (by decide) (fun c12 => ?_) (fun c12 => ?_)
    · replace h := Eq.trans (if_pos c12).symm h
      refine W.widen (k := 0) (n := 0) (Nat.le_of_ble_eq_true rfl) (Nat.le_of_ble_eq_true rfl) ?_
      exact w_X11_timesOthers_36 X hr hlocks hin rs k9 hk9  f a0 a1 a2 a3 a4 _ _ _ h Y (lv_sub hl [0, 1, 2, 3, 4] rfl)
    · replace h := Eq.trans (if_neg c12).symm h
      refine lv_aload_n hx hb dX11_timesOthers_21 rfl (lv_at hl 0 rfl) ?_
      refine lv_aload_n hx hb dX11_timesOthers_22 rfl (lv_at hl 0 rfl) ?_
      refine lv_iload_n hx hb dX11_timesOthers_23 rfl (lv_at hl 1 rfl) ?_
      refine lv_iconst (v := 5) hx hb dX11_timesOthers_24 (by decide) ?_
      refine lv_iload hx hb dX11_timesOthers_25 (lv_at hl 4 rfl) ?_
      refine lv_imul hx hb dX11_timesOthers_27 ?_
      refine lv_iconst (v := 1) hx hb dX11_timesOthers_28 (by decide) ?_
      refine lv_iadd hx hb dX11_timesOthers_29 ?_
      by_cases c13 : hKd f a0 = some 10
      · replace h := Eq.trans (if_pos c13).symm h
        replace h := xb h
        obtain ⟨q14, eq14, h⟩ := h
        refine q_callV X Y hl.1 (rest := [.ref a0]) (As := [.int a1, .int (((5 : Int32) * a4) + (1 : Int32))]) (c_X11_proofNumber l G z f a0 a1 (((5 : Int32) * a4) + (1 : Int32)) _ eq14) cd_X11_proofNumber lv_X11_239_10 c13 ⟨(Nat.le_of_ble_eq_true rfl), (Nat.le_of_ble_eq_true rfl)⟩ ⟨(Nat.le_of_ble_eq_true rfl), (Nat.le_of_ble_eq_true rfl)⟩ rfl rfl (Nat.le_of_ble_eq_true rfl) dX11_timesOthers_30 (fun H locs Y => ?_)
        refine W.eq (g2 := F0 m 33 ls [.long q14, .ref a0]) rfl ?_
        by_cases c15 : hKd f a0 = some 10
        · replace h := Eq.trans (if_pos c15).symm h
          replace h := xb h
          obtain ⟨q16, eq16, h⟩ := h
          refine q_callV X Y hl.1 (rest := []) (As := [.long q14]) (c_X11_multiply l G z f a0 q14 _ eq16) cd_X11_multiply lv_X11_242_10 c15 ⟨(Nat.le_of_ble_eq_true rfl), (Nat.le_of_ble_eq_true rfl)⟩ ⟨(Nat.le_of_ble_eq_true rfl), (Nat.le_of_ble_eq_true rfl)⟩ rfl rfl (Nat.le_of_ble_eq_true rfl) dX11_timesOthers_33 (fun H locs Y => ?_)
          refine W.eq (g2 := F0 m 36 ls []) rfl ?_
          refine W.widen (k := 0) (n := 0) (Nat.le_of_ble_eq_true rfl) (Nat.le_of_ble_eq_true rfl) ?_
          exact w_X11_timesOthers_36 X hr hlocks hin rs k9 hk9  q16 a0 a1 a2 a3 a4 _ _ _ h Y (lv_sub hl [0, 1, 2, 3, 4] rfl)
        replace h := Eq.trans (if_neg c15).symm h
        cases h
      replace h := Eq.trans (if_neg c13).symm h
      cases h
set_option maxRecDepth 100000 in
set_option maxHeartbeats 4000000 in
theorem lw_X11_timesOthers_9 {p : Program} {l : Launch} {e : Env} {s : State} {m : MethodId} {args : Array Value} {below : List Frame} {meth : Method} {c : Code} {G : xG} {z : Nat} (X : xC G p m c s args RX11 cX11_timesOthers 5) (hr : meth.sig.returnType = none) (hlocks : meth.locks = false) (hin : meth.name = yX11_timesOthers.name) (rs : xHp)  : ∀ (n : Nat) (f : xHp) (a0 : Nat) (a1 : Int32) (a2 : Int32) (a3 : Int32) (a4 : Int32) (H : Heap) (locs : List Loc) (ls : Array Slot), L_X11_timesOthers_9  n f a0 a1 a2 a3 a4 = some rs → xY G z f s H locs → lv_has ls 5 [(0, .ref a0), (1, .int a1), (2, .int a2), (3, .int a3), (4, .int a4)] → W p l e rm_X11_timesOthers s m args below meth c H locs 0 0 (MQ below (xQ G none z rs) args s rm_X11_timesOthers.cells rm_X11_timesOthers.slots (xA G)) (F0 m 9 ls []) := by
  intro n
  induction n with
  | zero => intro f a0 a1 a2 a3 a4 H locs ls h Y hl; cases h
  | succ n ih => intro f a0 a1 a2 a3 a4 H locs ls h Y hl; exact w_X11_timesOthers_9 X hr hlocks hin rs _ ih f a0 a1 a2 a3 a4 _ _ _ h Y hl
set_option maxRecDepth 100000 in
set_option maxHeartbeats 4000000 in
theorem c_X11_timesOthers (l : Launch) (G : xG) (z : Nat) (f : xHp) (h0 : Nat) (p1 : Int32) (p2 : Int32) (rs : xHp) (h : F_X11_timesOthers f h0 p1 p2 = some rs) : xM G l yX11_timesOthers cX11_timesOthers 5 none rm_X11_timesOthers [.ref h0, .int p1, .int p2] z f none z rs := by
  refine xM_of (by decide) (Nat.le_of_ble_eq_true rfl) ?_
  intro p e s m below meth c ls X hr hlocks hin Y hl
  have hl : lv_has ls 5 [(0, .ref h0), (1, .int p1), (2, .int p2)] := hl
  have hx := X.1.1
  have hb := X.1.2.1
  unfold F_X11_timesOthers at h
  refine lv_aload_n hx hb dX11_timesOthers_0 rfl (lv_at hl 0 rfl) ?_
  refine lv_iload_n hx hb dX11_timesOthers_1 rfl (lv_at hl 1 rfl) ?_
  by_cases c1 : hKd f h0 = some 10
  · replace h := Eq.trans (if_pos c1).symm h
    replace h := xb h
    obtain ⟨q2, eq2, h⟩ := h
    refine q_callV X Y hl.1 (rest := []) (As := [.int p1]) (c_X11_squaresIn l G z f h0 p1 _ eq2) cd_X11_squaresIn lv_X11_230_10 c1 ⟨(Nat.le_of_ble_eq_true rfl), (Nat.le_of_ble_eq_true rfl)⟩ ⟨(Nat.le_of_ble_eq_true rfl), (Nat.le_of_ble_eq_true rfl)⟩ rfl rfl (Nat.le_of_ble_eq_true rfl) dX11_timesOthers_2 (fun H locs Y => ?_)
    refine W.eq (g2 := F0 m 5 ls [.int q2]) rfl ?_
    refine lv_istore_n (lv' := [(3, .int q2), (0, .ref h0), (1, .int p1), (2, .int p2)]) hx hb dX11_timesOthers_5 rfl hl (by decide) rfl (fun ls hl => ?_)
    refine lv_iconst (v := 0) hx hb dX11_timesOthers_6 (by decide) ?_
    refine lv_istore (lv' := [(4, .int (0 : Int32)), (3, .int q2), (0, .ref h0), (1, .int p1), (2, .int p2)]) hx hb dX11_timesOthers_7 hl (by decide) rfl (fun ls hl => ?_)
    refine W.widen (k := 0) (n := 0) (Nat.le_of_ble_eq_true rfl) (Nat.le_of_ble_eq_true rfl) ?_
    exact lw_X11_timesOthers_9 X hr hlocks hin rs  xfuel f h0 p1 p2 q2 (0 : Int32) _ _ _ h Y (lv_sub hl [2, 3, 4, 1, 0] rfl)
  replace h := Eq.trans (if_neg c1).symm h
  cases h
/-! NeverBelowModel.isRight(II)Z -/
abbrev rm_X11_isRight : Room := { frames := 2, cells := 0, slots := 0, locals := 54 }
def F_X11_isRight_262  (f : xHp) (a0 : Nat) (a1 : Int32) (a2 : Int32) : Option (Int32 × xHp) := Option.bind (hN f a0 [(10, 22)]) fun v1 => Option.bind (hIld f v1 a1) fun v2 => if hKd f a0 = some 10 then (Option.bind (F_X11_termOf f a0 v2 a2) fun q4 => if hKd f a0 = some 10 then (Option.bind (F_X11_beginProduct f a0 q4) fun q6 => if hKd q6 a0 = some 10 then (Option.bind (F_X11_timesOthers q6 a0 a1 (-9 : Int32)) fun q8 => if hKd q8 a0 = some 10 then (Option.bind (F_X11_addProduct q8 a0 (1 : Int32)) fun q10 => if hKd q10 a0 = some 10 then (Option.bind (F_X11_isNought q10 a0) fun q12 => Option.bind (hZ q12) fun v13 => some (v13, q10)) else none) else none) else none) else none) else none
def F_X11_isRight_251  (f : xHp) (a0 : Nat) (a1 : Int32) (a2 : Int32) (a3 : Int32) : Option (Int32 × xHp) := if hKd f a0 = some 10 then (Option.bind (F_X11_timesOthers f a0 a1 a3) fun q2 => if hKd q2 a0 = some 10 then (Option.bind (F_X11_addProduct q2 a0 (0 : Int32)) fun q4 => F_X11_isRight_262 q4 a0 a1 a2) else none) else none
def F_X11_isRight_165  (f : xHp) (a0 : Nat) (a1 : Int32) (a2 : Int32) (a3 : Int32) : Option (Int32 × xHp) := if hKd f a0 = some 10 then (Option.bind (F_X11_proofNumber f a0 a1 (((5 : Int32) * a3) + (2 : Int32))) fun q2 => if hKd f a0 = some 10 then (Option.bind (F_X11_proofNumber f a0 a1 (((5 : Int32) * a3) + (3 : Int32))) fun q4 => if hKd f a0 = some 10 then (Option.bind (F_X11_proofNumber f a0 a1 ((5 : Int32) * a3)) fun q6 => if hKd f a0 = some 10 then (Option.bind (F_X11_beginProduct f a0 q6) fun q8 => if a2 = (6 : Int32) then (if hKd q8 a0 = some 10 then (Option.bind (F_X11_multiply q8 a0 (-65536 : Int64)) fun q18 => F_X11_isRight_251 q18 a0 a1 a2 a3) else none) else (if a2 = (3 : Int32) then (if hKd q8 a0 = some 10 then (Option.bind (F_X11_multiply q8 a0 ((256 : Int64) * (q2 + q4))) fun q16 => F_X11_isRight_251 q16 a0 a1 a2 a3) else none) else (if hKd q8 a0 = some 10 then (Option.bind (F_X11_multiply q8 a0 (-q2)) fun q12 => if hKd q12 a0 = some 10 then (Option.bind (F_X11_multiply q12 a0 q4) fun q14 => F_X11_isRight_251 q14 a0 a1 a2 a3) else none) else none))) else none) else none) else none) else none
def F_X11_isRight_140  (f : xHp) (a0 : Nat) (a1 : Int32) (a2 : Int32) (a3 : Int32) : Option (Int32 × xHp) := Option.bind (hN f a0 [(10, 21)]) fun v1 => Option.bind (hIld f v1 a1) fun v2 => if v2 = (3 : Int32) then (if a2 = (6 : Int32) then (F_X11_isRight_165 f a0 a1 a2 a3) else (if a2 = (3 : Int32) then (F_X11_isRight_165 f a0 a1 a2 a3) else (if a2 = 0 then (F_X11_isRight_165 f a0 a1 a2 a3) else (F_X11_isRight_262 f a0 a1 a2)))) else (F_X11_isRight_262 f a0 a1 a2)
def F_X11_isRight_119 (k30 : xHp → Nat → Int32 → Int32 → Int32 → Int32 → Option (Int32 × xHp)) (f : xHp) (a0 : Nat) (a1 : Int32) (a2 : Int32) (a3 : Int32) (a4 : Int32) (s0 : Int64) (s1 : Nat) : Option (Int32 × xHp) := if hKd f s1 = some 10 then (Option.bind (F_X11_multiply f s1 s0) fun q2 => if hKd q2 a0 = some 10 then (Option.bind (F_X11_timesOthers q2 a0 a1 a4) fun q4 => if hKd q4 a0 = some 10 then (Option.bind (F_X11_addProduct q4 a0 (0 : Int32)) fun q6 => k30 q6 a0 a1 a2 a3 (a4 + 1)) else none) else none) else none
def F_X11_isRight_30 (k30 : xHp → Nat → Int32 → Int32 → Int32 → Int32 → Option (Int32 × xHp)) (f : xHp) (a0 : Nat) (a1 : Int32) (a2 : Int32) (a3 : Int32) (a4 : Int32) : Option (Int32 × xHp) := if a3 ≤ a4 then (F_X11_isRight_140 f a0 a1 a2 a3) else (Option.bind (F_X11_isOther f a2) fun q2 => if q2 = 0 then (Option.bind (F_X11_firstOf f a2) fun q4 => Option.bind (F_X11_secondOf f a2) fun q5 => if hKd f a0 = some 10 then (Option.bind (F_X11_proofNumber f a0 a1 ((5 : Int32) * a4)) fun q7 => if hKd f a0 = some 10 then (Option.bind (F_X11_beginProduct f a0 q7) fun q9 => if hKd q9 a0 = some 10 then (Option.bind (F_X11_proofNumber q9 a0 a1 ((((5 : Int32) * a4) + (2 : Int32)) + q4)) fun q11 => if hKd q9 a0 = some 10 then (Option.bind (F_X11_multiply q9 a0 q11) fun q13 => if hKd q13 a0 = some 10 then (Option.bind (F_X11_proofNumber q13 a0 a1 ((((5 : Int32) * a4) + (2 : Int32)) + q5)) fun q15 => if hKd q13 a0 = some 10 then (Option.bind (F_X11_multiply q13 a0 q15) fun q17 => if q4 = q5 then (F_X11_isRight_119 k30 q17 a0 a1 a2 a3 a4 (1 : Int64) a0) else (F_X11_isRight_119 k30 q17 a0 a1 a2 a3 a4 (2 : Int64) a0)) else none) else none) else none) else none) else none) else none) else (F_X11_isRight_140 f a0 a1 a2 a3))
def L_X11_isRight_30  : Nat → xHp → Nat → Int32 → Int32 → Int32 → Int32 → Option (Int32 × xHp)
  | 0, _, _, _, _, _, _ => none
  | n + 1, f, a0, a1, a2, a3, a4 => F_X11_isRight_30 (L_X11_isRight_30  n) f a0 a1 a2 a3 a4
def F_X11_isRight_2 (k2 : xHp → Nat → Int32 → Int32 → Int32 → Option (Int32 × xHp)) (f : xHp) (a0 : Nat) (a1 : Int32) (a2 : Int32) (a3 : Int32) : Option (Int32 × xHp) := if (24 : Int32) ≤ a3 then (if hKd f a0 = some 10 then (Option.bind (F_X11_squaresIn f a0 a1) fun q3 => L_X11_isRight_30 xfuel f a0 a1 a2 q3 (0 : Int32)) else none) else (Option.bind (hN f a0 [(10, 29)]) fun v4 => Option.bind (hJst f v4 a3 (0 : Int64)) fun f5 => k2 f5 a0 a1 a2 (a3 + 1))
def L_X11_isRight_2  : Nat → xHp → Nat → Int32 → Int32 → Int32 → Option (Int32 × xHp)
  | 0, _, _, _, _, _ => none
  | n + 1, f, a0, a1, a2, a3 => F_X11_isRight_2 (L_X11_isRight_2  n) f a0 a1 a2 a3
def F_X11_isRight (f : xHp) (h0 : Nat) (p1 : Int32) (p2 : Int32) : Option (Int32 × xHp) := L_X11_isRight_2 xfuel f h0 p1 p2 (0 : Int32)
set_option maxRecDepth 100000 in
set_option maxHeartbeats 4000000 in
theorem w_X11_isRight_262 {p : Program} {l : Launch} {e : Env} {s : State} {m : MethodId} {args : Array Value} {below : List Frame} {meth : Method} {c : Code} {G : xG} {z : Nat} (X : xC G p m c s args RX11 cX11_isRight 8) (hr : meth.sig.returnType = (some .boolean)) (hlocks : meth.locks = false) (hin : meth.name = yX11_isRight.name) (rs : Int32 × xHp)  (f : xHp) (a0 : Nat) (a1 : Int32) (a2 : Int32) (H : Heap) (locs : List Loc) (ls : Array Slot) (h : F_X11_isRight_262  f a0 a1 a2 = some rs) (Y : xY G z f s H locs) (hl : lv_has ls 8 [(0, .ref a0), (1, .int a1), (2, .int a2)]) : W p l e rm_X11_isRight s m args below meth c H locs 0 0 (MQ below (xQ G (some (.int rs.1)) z rs.2) args s rm_X11_isRight.cells rm_X11_isRight.slots (xA G)) (F0 m 262 ls []) := by
  have hx := X.1.1
  have hb := X.1.2.1
  unfold F_X11_isRight_262 at h
  refine lv_aload_n hx hb dX11_isRight_262 rfl (lv_at hl 0 rfl) ?_
  refine lv_aload_n hx hb dX11_isRight_263 rfl (lv_at hl 0 rfl) ?_
  refine lv_aload_n hx hb dX11_isRight_264 rfl (lv_at hl 0 rfl) ?_
  replace h := xb h
  obtain ⟨v1, ev1, h⟩ := h
  refine q_getN X Y fl_X11_44 ev1 dX11_isRight_265 ?_
  refine lv_iload_n hx hb dX11_isRight_268 rfl (lv_at hl 1 rfl) ?_
  replace h := xb h
  obtain ⟨v2, ev2, h⟩ := h
  refine q_iald X Y ev2 dX11_isRight_269 ?_
  refine lv_iload_n hx hb dX11_isRight_270 rfl (lv_at hl 2 rfl) ?_
  by_cases c3 : hKd f a0 = some 10
  · replace h := Eq.trans (if_pos c3).symm h
    replace h := xb h
    obtain ⟨q4, eq4, h⟩ := h
    refine q_callV X Y hl.1 (rest := [.ref a0]) (As := [.int v2, .int a2]) (c_X11_termOf l G z f a0 v2 a2 _ eq4) cd_X11_termOf lv_X11_113_10 c3 ⟨(Nat.le_of_ble_eq_true rfl), (Nat.le_of_ble_eq_true rfl)⟩ ⟨(Nat.le_of_ble_eq_true rfl), (Nat.le_of_ble_eq_true rfl)⟩ rfl rfl (Nat.le_of_ble_eq_true rfl) dX11_isRight_271 (fun H locs Y => ?_)
    refine W.eq (g2 := F0 m 274 ls [.long q4, .ref a0]) rfl ?_
    by_cases c5 : hKd f a0 = some 10
    · replace h := Eq.trans (if_pos c5).symm h
      replace h := xb h
      obtain ⟨q6, eq6, h⟩ := h
      refine q_callV X Y hl.1 (rest := []) (As := [.long q4]) (c_X11_beginProduct l G z f a0 q4 _ eq6) cd_X11_beginProduct lv_X11_255_10 c5 ⟨(Nat.le_of_ble_eq_true rfl), (Nat.le_of_ble_eq_true rfl)⟩ ⟨(Nat.le_of_ble_eq_true rfl), (Nat.le_of_ble_eq_true rfl)⟩ rfl rfl (Nat.le_of_ble_eq_true rfl) dX11_isRight_274 (fun H locs Y => ?_)
      refine W.eq (g2 := F0 m 277 ls []) rfl ?_
      refine lv_aload_n hx hb dX11_isRight_277 rfl (lv_at hl 0 rfl) ?_
      refine lv_iload_n hx hb dX11_isRight_278 rfl (lv_at hl 1 rfl) ?_
      refine lv_bipush (v := -9) hx hb dX11_isRight_279 (by decide) ?_
      by_cases c7 : hKd q6 a0 = some 10
      · replace h := Eq.trans (if_pos c7).symm h
        replace h := xb h
        obtain ⟨q8, eq8, h⟩ := h
        refine q_callV X Y hl.1 (rest := []) (As := [.int a1, .int (-9 : Int32)]) (c_X11_timesOthers l G z q6 a0 a1 (-9 : Int32) _ eq8) cd_X11_timesOthers lv_X11_258_10 c7 ⟨(Nat.le_of_ble_eq_true rfl), (Nat.le_of_ble_eq_true rfl)⟩ ⟨(Nat.le_of_ble_eq_true rfl), (Nat.le_of_ble_eq_true rfl)⟩ rfl rfl (Nat.le_of_ble_eq_true rfl) dX11_isRight_281 (fun H locs Y => ?_)
        refine W.eq (g2 := F0 m 284 ls []) rfl ?_
        refine lv_aload_n hx hb dX11_isRight_284 rfl (lv_at hl 0 rfl) ?_
        refine lv_iconst (v := 1) hx hb dX11_isRight_285 (by decide) ?_
        by_cases c9 : hKd q8 a0 = some 10
        · replace h := Eq.trans (if_pos c9).symm h
          replace h := xb h
          obtain ⟨q10, eq10, h⟩ := h
          refine q_callV X Y hl.1 (rest := []) (As := [.int (1 : Int32)]) (c_X11_addProduct l G z q8 a0 (1 : Int32) _ eq10) cd_X11_addProduct lv_X11_262_10 c9 ⟨(Nat.le_of_ble_eq_true rfl), (Nat.le_of_ble_eq_true rfl)⟩ ⟨(Nat.le_of_ble_eq_true rfl), (Nat.le_of_ble_eq_true rfl)⟩ rfl rfl (Nat.le_of_ble_eq_true rfl) dX11_isRight_286 (fun H locs Y => ?_)
          refine W.eq (g2 := F0 m 289 ls []) rfl ?_
          refine lv_aload_n hx hb dX11_isRight_289 rfl (lv_at hl 0 rfl) ?_
          by_cases c11 : hKd q10 a0 = some 10
          · replace h := Eq.trans (if_pos c11).symm h
            replace h := xb h
            obtain ⟨q12, eq12, h⟩ := h
            refine q_callV X Y hl.1 (rest := []) (As := []) (c_X11_isNought l G z q10 a0 _ eq12) cd_X11_isNought lv_X11_268_10 c11 ⟨(Nat.le_of_ble_eq_true rfl), (Nat.le_of_ble_eq_true rfl)⟩ ⟨(Nat.le_of_ble_eq_true rfl), (Nat.le_of_ble_eq_true rfl)⟩ rfl rfl (Nat.le_of_ble_eq_true rfl) dX11_isRight_290 (fun H locs Y => ?_)
            refine W.eq (g2 := F0 m 293 ls [.int q12]) rfl ?_
            replace h := xb h
            obtain ⟨v13, ev13, h⟩ := h
            obtain ⟨ev13, kv13⟩ := hZ_of ev13
            rw [ev13] at h
            replace h := Option.some.inj h
            subst h
            exact q_retz (v := q12) X Y hr hlocks kv13 (Nat.le_of_ble_eq_true rfl) (Nat.le_of_ble_eq_true rfl) dX11_isRight_293
          replace h := Eq.trans (if_neg c11).symm h
          cases h
        replace h := Eq.trans (if_neg c9).symm h
        cases h
      replace h := Eq.trans (if_neg c7).symm h
      cases h
    replace h := Eq.trans (if_neg c5).symm h
    cases h
  replace h := Eq.trans (if_neg c3).symm h
  cases h
set_option maxRecDepth 100000 in
set_option maxHeartbeats 4000000 in
theorem w_X11_isRight_251 {p : Program} {l : Launch} {e : Env} {s : State} {m : MethodId} {args : Array Value} {below : List Frame} {meth : Method} {c : Code} {G : xG} {z : Nat} (X : xC G p m c s args RX11 cX11_isRight 8) (hr : meth.sig.returnType = (some .boolean)) (hlocks : meth.locks = false) (hin : meth.name = yX11_isRight.name) (rs : Int32 × xHp)  (f : xHp) (a0 : Nat) (a1 : Int32) (a2 : Int32) (a3 : Int32) (H : Heap) (locs : List Loc) (ls : Array Slot) (h : F_X11_isRight_251  f a0 a1 a2 a3 = some rs) (Y : xY G z f s H locs) (hl : lv_has ls 8 [(0, .ref a0), (1, .int a1), (2, .int a2), (3, .int a3)]) : W p l e rm_X11_isRight s m args below meth c H locs 0 0 (MQ below (xQ G (some (.int rs.1)) z rs.2) args s rm_X11_isRight.cells rm_X11_isRight.slots (xA G)) (F0 m 251 ls []) := by
  have hx := X.1.1
  have hb := X.1.2.1
  unfold F_X11_isRight_251 at h
  refine lv_aload_n hx hb dX11_isRight_251 rfl (lv_at hl 0 rfl) ?_
  refine lv_iload_n hx hb dX11_isRight_252 rfl (lv_at hl 1 rfl) ?_
  refine lv_iload_n hx hb dX11_isRight_253 rfl (lv_at hl 3 rfl) ?_
  by_cases c1 : hKd f a0 = some 10
  · replace h := Eq.trans (if_pos c1).symm h
    replace h := xb h
    obtain ⟨q2, eq2, h⟩ := h
    refine q_callV X Y hl.1 (rest := []) (As := [.int a1, .int a3]) (c_X11_timesOthers l G z f a0 a1 a3 _ eq2) cd_X11_timesOthers lv_X11_258_10 c1 ⟨(Nat.le_of_ble_eq_true rfl), (Nat.le_of_ble_eq_true rfl)⟩ ⟨(Nat.le_of_ble_eq_true rfl), (Nat.le_of_ble_eq_true rfl)⟩ rfl rfl (Nat.le_of_ble_eq_true rfl) dX11_isRight_254 (fun H locs Y => ?_)
    refine W.eq (g2 := F0 m 257 ls []) rfl ?_
    refine lv_aload_n hx hb dX11_isRight_257 rfl (lv_at hl 0 rfl) ?_
    refine lv_iconst (v := 0) hx hb dX11_isRight_258 (by decide) ?_
    by_cases c3 : hKd q2 a0 = some 10
    · replace h := Eq.trans (if_pos c3).symm h
      replace h := xb h
      obtain ⟨q4, eq4, h⟩ := h
      refine q_callV X Y hl.1 (rest := []) (As := [.int (0 : Int32)]) (c_X11_addProduct l G z q2 a0 (0 : Int32) _ eq4) cd_X11_addProduct lv_X11_262_10 c3 ⟨(Nat.le_of_ble_eq_true rfl), (Nat.le_of_ble_eq_true rfl)⟩ ⟨(Nat.le_of_ble_eq_true rfl), (Nat.le_of_ble_eq_true rfl)⟩ rfl rfl (Nat.le_of_ble_eq_true rfl) dX11_isRight_259 (fun H locs Y => ?_)
      refine W.eq (g2 := F0 m 262 ls []) rfl ?_
      refine W.widen (k := 0) (n := 0) (Nat.le_of_ble_eq_true rfl) (Nat.le_of_ble_eq_true rfl) ?_
      exact w_X11_isRight_262 X hr hlocks hin rs   q4 a0 a1 a2 _ _ _ h Y (lv_sub hl [0, 1, 2] rfl)
    replace h := Eq.trans (if_neg c3).symm h
    cases h
  replace h := Eq.trans (if_neg c1).symm h
  cases h
set_option maxRecDepth 100000 in
set_option maxHeartbeats 4000000 in
theorem w_X11_isRight_165 {p : Program} {l : Launch} {e : Env} {s : State} {m : MethodId} {args : Array Value} {below : List Frame} {meth : Method} {c : Code} {G : xG} {z : Nat} (X : xC G p m c s args RX11 cX11_isRight 8) (hr : meth.sig.returnType = (some .boolean)) (hlocks : meth.locks = false) (hin : meth.name = yX11_isRight.name) (rs : Int32 × xHp)  (f : xHp) (a0 : Nat) (a1 : Int32) (a2 : Int32) (a3 : Int32) (H : Heap) (locs : List Loc) (ls : Array Slot) (h : F_X11_isRight_165  f a0 a1 a2 a3 = some rs) (Y : xY G z f s H locs) (hl : lv_has ls 8 [(0, .ref a0), (1, .int a1), (2, .int a2), (3, .int a3)]) : W p l e rm_X11_isRight s m args below meth c H locs 0 0 (MQ below (xQ G (some (.int rs.1)) z rs.2) args s rm_X11_isRight.cells rm_X11_isRight.slots (xA G)) (F0 m 165 ls []) := by
  have hx := X.1.1
  have hb := X.1.2.1
  unfold F_X11_isRight_165 at h
  refine lv_aload_n hx hb dX11_isRight_165 rfl (lv_at hl 0 rfl) ?_
  refine lv_iload_n hx hb dX11_isRight_166 rfl (lv_at hl 1 rfl) ?_
  refine lv_iconst (v := 5) hx hb dX11_isRight_167 (by decide) ?_
  refine lv_iload_n hx hb dX11_isRight_168 rfl (lv_at hl 3 rfl) ?_
  refine lv_imul hx hb dX11_isRight_169 ?_
  refine lv_iconst (v := 2) hx hb dX11_isRight_170 (by decide) ?_
  refine lv_iadd hx hb dX11_isRight_171 ?_
  by_cases c1 : hKd f a0 = some 10
  · replace h := Eq.trans (if_pos c1).symm h
    replace h := xb h
    obtain ⟨q2, eq2, h⟩ := h
    refine q_callV X Y hl.1 (rest := []) (As := [.int a1, .int (((5 : Int32) * a3) + (2 : Int32))]) (c_X11_proofNumber l G z f a0 a1 (((5 : Int32) * a3) + (2 : Int32)) _ eq2) cd_X11_proofNumber lv_X11_239_10 c1 ⟨(Nat.le_of_ble_eq_true rfl), (Nat.le_of_ble_eq_true rfl)⟩ ⟨(Nat.le_of_ble_eq_true rfl), (Nat.le_of_ble_eq_true rfl)⟩ rfl rfl (Nat.le_of_ble_eq_true rfl) dX11_isRight_172 (fun H locs Y => ?_)
    refine W.eq (g2 := F0 m 175 ls [.long q2]) rfl ?_
    refine lv_lstore (lv' := [(4, .long q2), (0, .ref a0), (1, .int a1), (2, .int a2), (3, .int a3)]) hx hb dX11_isRight_175 hl (by decide) rfl (fun ls hl => ?_)
    refine lv_aload_n hx hb dX11_isRight_177 rfl (lv_at hl 1 rfl) ?_
    refine lv_iload_n hx hb dX11_isRight_178 rfl (lv_at hl 2 rfl) ?_
    refine lv_iconst (v := 5) hx hb dX11_isRight_179 (by decide) ?_
    refine lv_iload_n hx hb dX11_isRight_180 rfl (lv_at hl 4 rfl) ?_
    refine lv_imul hx hb dX11_isRight_181 ?_
    refine lv_iconst (v := 3) hx hb dX11_isRight_182 (by decide) ?_
    refine lv_iadd hx hb dX11_isRight_183 ?_
    by_cases c3 : hKd f a0 = some 10
    · replace h := Eq.trans (if_pos c3).symm h
      replace h := xb h
      obtain ⟨q4, eq4, h⟩ := h
      refine q_callV X Y hl.1 (rest := []) (As := [.int a1, .int (((5 : Int32) * a3) + (3 : Int32))]) (c_X11_proofNumber l G z f a0 a1 (((5 : Int32) * a3) + (3 : Int32)) _ eq4) cd_X11_proofNumber lv_X11_239_10 c3 ⟨(Nat.le_of_ble_eq_true rfl), (Nat.le_of_ble_eq_true rfl)⟩ ⟨(Nat.le_of_ble_eq_true rfl), (Nat.le_of_ble_eq_true rfl)⟩ rfl rfl (Nat.le_of_ble_eq_true rfl) dX11_isRight_184 (fun H locs Y => ?_)
      refine W.eq (g2 := F0 m 187 ls [.long q4]) rfl ?_
      refine lv_lstore (lv' := [(6, .long q4), (4, .long q2), (0, .ref a0), (1, .int a1), (2, .int a2), (3, .int a3)]) hx hb dX11_isRight_187 hl (by decide) rfl (fun ls hl => ?_)
      refine lv_aload_n hx hb dX11_isRight_189 rfl (lv_at hl 2 rfl) ?_
      refine lv_aload_n hx hb dX11_isRight_190 rfl (lv_at hl 2 rfl) ?_
      refine lv_iload_n hx hb dX11_isRight_191 rfl (lv_at hl 3 rfl) ?_
      refine lv_iconst (v := 5) hx hb dX11_isRight_192 (by decide) ?_
      refine lv_iload_n hx hb dX11_isRight_193 rfl (lv_at hl 5 rfl) ?_
      refine lv_imul hx hb dX11_isRight_194 ?_
      by_cases c5 : hKd f a0 = some 10
      · replace h := Eq.trans (if_pos c5).symm h
        replace h := xb h
        obtain ⟨q6, eq6, h⟩ := h
        refine q_callV X Y hl.1 (rest := [.ref a0]) (As := [.int a1, .int ((5 : Int32) * a3)]) (c_X11_proofNumber l G z f a0 a1 ((5 : Int32) * a3) _ eq6) cd_X11_proofNumber lv_X11_239_10 c5 ⟨(Nat.le_of_ble_eq_true rfl), (Nat.le_of_ble_eq_true rfl)⟩ ⟨(Nat.le_of_ble_eq_true rfl), (Nat.le_of_ble_eq_true rfl)⟩ rfl rfl (Nat.le_of_ble_eq_true rfl) dX11_isRight_195 (fun H locs Y => ?_)
        refine W.eq (g2 := F0 m 198 ls [.long q6, .ref a0]) rfl ?_
        by_cases c7 : hKd f a0 = some 10
        · replace h := Eq.trans (if_pos c7).symm h
          replace h := xb h
          obtain ⟨q8, eq8, h⟩ := h
          refine q_callV X Y hl.1 (rest := []) (As := [.long q6]) (c_X11_beginProduct l G z f a0 q6 _ eq8) cd_X11_beginProduct lv_X11_255_10 c7 ⟨(Nat.le_of_ble_eq_true rfl), (Nat.le_of_ble_eq_true rfl)⟩ ⟨(Nat.le_of_ble_eq_true rfl), (Nat.le_of_ble_eq_true rfl)⟩ rfl rfl (Nat.le_of_ble_eq_true rfl) dX11_isRight_198 (fun H locs Y => ?_)
          refine W.eq (g2 := F0 m 201 ls []) rfl ?_
          refine lv_iload_n hx hb dX11_isRight_201 rfl (lv_at hl 4 rfl) ?_
          refine lv_bipush (v := 6) hx hb dX11_isRight_202 (by decide) ?_
          refine lv_icmp_ne (tgt := 217) hx hb dX11_isRight_204 (by decide) (fun c9 => ?_) (fun c9 => ?_)
          · replace h := Eq.trans (if_neg c9).symm h
            refine lv_iload_n hx hb dX11_isRight_217 rfl (lv_at hl 4 rfl) ?_
            refine lv_iconst (v := 3) hx hb dX11_isRight_218 (by decide) ?_
            refine lv_icmp_ne (tgt := 238) hx hb dX11_isRight_219 (by decide) (fun c10 => ?_) (fun c10 => ?_)
            · replace h := Eq.trans (if_neg c10).symm h
              refine lv_aload_n hx hb dX11_isRight_238 rfl (lv_at hl 2 rfl) ?_
              refine lv_lload hx hb dX11_isRight_239 (lv_at hl 1 rfl) ?_
              refine lv_lneg hx hb dX11_isRight_241 ?_
              by_cases c11 : hKd q8 a0 = some 10
              · replace h := Eq.trans (if_pos c11).symm h
                replace h := xb h
                obtain ⟨q12, eq12, h⟩ := h
                refine q_callV X Y hl.1 (rest := []) (As := [.long (-q2)]) (c_X11_multiply l G z q8 a0 (-q2) _ eq12) cd_X11_multiply lv_X11_242_10 c11 ⟨(Nat.le_of_ble_eq_true rfl), (Nat.le_of_ble_eq_true rfl)⟩ ⟨(Nat.le_of_ble_eq_true rfl), (Nat.le_of_ble_eq_true rfl)⟩ rfl rfl (Nat.le_of_ble_eq_true rfl) dX11_isRight_242 (fun H locs Y => ?_)
                refine W.eq (g2 := F0 m 245 ls []) rfl ?_
                refine lv_aload_n hx hb dX11_isRight_245 rfl (lv_at hl 2 rfl) ?_
                refine lv_lload hx hb dX11_isRight_246 (lv_at hl 0 rfl) ?_
                by_cases c13 : hKd q12 a0 = some 10
                · replace h := Eq.trans (if_pos c13).symm h
                  replace h := xb h
                  obtain ⟨q14, eq14, h⟩ := h
                  refine q_callV X Y hl.1 (rest := []) (As := [.long q4]) (c_X11_multiply l G z q12 a0 q4 _ eq14) cd_X11_multiply lv_X11_242_10 c13 ⟨(Nat.le_of_ble_eq_true rfl), (Nat.le_of_ble_eq_true rfl)⟩ ⟨(Nat.le_of_ble_eq_true rfl), (Nat.le_of_ble_eq_true rfl)⟩ rfl rfl (Nat.le_of_ble_eq_true rfl) dX11_isRight_248 (fun H locs Y => ?_)
                  refine W.eq (g2 := F0 m 251 ls []) rfl ?_
                  refine W.widen (k := 0) (n := 0) (Nat.le_of_ble_eq_true rfl) (Nat.le_of_ble_eq_true rfl) ?_
                  exact w_X11_isRight_251 X hr hlocks hin rs   q14 a0 a1 a2 a3 _ _ _ h Y (lv_sub hl [2, 3, 4, 5] rfl)
                replace h := Eq.trans (if_neg c13).symm h
                cases h
              replace h := Eq.trans (if_neg c11).symm h
              cases h
            · replace h := Eq.trans (if_pos c10).symm h
              refine lv_aload_n hx hb dX11_isRight_222 rfl (lv_at hl 2 rfl) ?_
              refine lv_ldc2 (v := 256) hx hb X.1.2.2.2.1 (X.1.2.2.2.2 _ xw_994) dX11_isRight_223 ?_
              refine lv_lload hx hb dX11_isRight_226 (lv_at hl 1 rfl) ?_
              refine lv_lload hx hb dX11_isRight_228 (lv_at hl 0 rfl) ?_
              refine lv_ladd hx hb dX11_isRight_230 ?_
              refine lv_lmul hx hb dX11_isRight_231 ?_
              by_cases c15 : hKd q8 a0 = some 10
              · replace h := Eq.trans (if_pos c15).symm h
                replace h := xb h
                obtain ⟨q16, eq16, h⟩ := h
                refine q_callV X Y hl.1 (rest := []) (As := [.long ((256 : Int64) * (q2 + q4))]) (c_X11_multiply l G z q8 a0 ((256 : Int64) * (q2 + q4)) _ eq16) cd_X11_multiply lv_X11_242_10 c15 ⟨(Nat.le_of_ble_eq_true rfl), (Nat.le_of_ble_eq_true rfl)⟩ ⟨(Nat.le_of_ble_eq_true rfl), (Nat.le_of_ble_eq_true rfl)⟩ rfl rfl (Nat.le_of_ble_eq_true rfl) dX11_isRight_232 (fun H locs Y => ?_)
                refine W.eq (g2 := F0 m 235 ls []) rfl ?_
                refine lv_goto (tgt := 251) hx hb dX11_isRight_235 (by decide) ?_
                refine W.widen (k := 0) (n := 0) (Nat.le_of_ble_eq_true rfl) (Nat.le_of_ble_eq_true rfl) ?_
                exact w_X11_isRight_251 X hr hlocks hin rs   q16 a0 a1 a2 a3 _ _ _ h Y (lv_sub hl [2, 3, 4, 5] rfl)
              replace h := Eq.trans (if_neg c15).symm h
              cases h
          · replace h := Eq.trans (if_pos c9).symm h
            refine lv_aload_n hx hb dX11_isRight_207 rfl (lv_at hl 2 rfl) ?_
            refine lv_ldc2 (v := -65536) hx hb X.1.2.2.2.1 (X.1.2.2.2.2 _ xw_1207) dX11_isRight_208 ?_
            by_cases c17 : hKd q8 a0 = some 10
            · replace h := Eq.trans (if_pos c17).symm h
              replace h := xb h
              obtain ⟨q18, eq18, h⟩ := h
              refine q_callV X Y hl.1 (rest := []) (As := [.long (-65536 : Int64)]) (c_X11_multiply l G z q8 a0 (-65536 : Int64) _ eq18) cd_X11_multiply lv_X11_242_10 c17 ⟨(Nat.le_of_ble_eq_true rfl), (Nat.le_of_ble_eq_true rfl)⟩ ⟨(Nat.le_of_ble_eq_true rfl), (Nat.le_of_ble_eq_true rfl)⟩ rfl rfl (Nat.le_of_ble_eq_true rfl) dX11_isRight_211 (fun H locs Y => ?_)
              refine W.eq (g2 := F0 m 214 ls []) rfl ?_
              refine lv_goto (tgt := 251) hx hb dX11_isRight_214 (by decide) ?_
              refine W.widen (k := 0) (n := 0) (Nat.le_of_ble_eq_true rfl) (Nat.le_of_ble_eq_true rfl) ?_
              exact w_X11_isRight_251 X hr hlocks hin rs   q18 a0 a1 a2 a3 _ _ _ h Y (lv_sub hl [2, 3, 4, 5] rfl)
            replace h := Eq.trans (if_neg c17).symm h
            cases h
        replace h := Eq.trans (if_neg c7).symm h
        cases h
      replace h := Eq.trans (if_neg c5).symm h
      cases h
    replace h := Eq.trans (if_neg c3).symm h
    cases h
  replace h := Eq.trans (if_neg c1).symm h
  cases h
set_option maxRecDepth 100000 in
set_option maxHeartbeats 4000000 in
theorem w_X11_isRight_140 {p : Program} {l : Launch} {e : Env} {s : State} {m : MethodId} {args : Array Value} {below : List Frame} {meth : Method} {c : Code} {G : xG} {z : Nat} (X : xC G p m c s args RX11 cX11_isRight 8) (hr : meth.sig.returnType = (some .boolean)) (hlocks : meth.locks = false) (hin : meth.name = yX11_isRight.name) (rs : Int32 × xHp)  (f : xHp) (a0 : Nat) (a1 : Int32) (a2 : Int32) (a3 : Int32) (H : Heap) (locs : List Loc) (ls : Array Slot) (h : F_X11_isRight_140  f a0 a1 a2 a3 = some rs) (Y : xY G z f s H locs) (hl : lv_has ls 8 [(0, .ref a0), (1, .int a1), (2, .int a2), (3, .int a3)]) : W p l e rm_X11_isRight s m args below meth c H locs 0 0 (MQ below (xQ G (some (.int rs.1)) z rs.2) args s rm_X11_isRight.cells rm_X11_isRight.slots (xA G)) (F0 m 140 ls []) := by
  have hx := X.1.1
  have hb := X.1.2.1
  unfold F_X11_isRight_140 at h
  refine lv_aload_n hx hb dX11_isRight_140 rfl (lv_at hl 0 rfl) ?_
  replace h := xb h
  obtain ⟨v1, ev1, h⟩ := h
  refine q_getN X Y fl_X11_41 ev1 dX11_isRight_141 ?_
  refine lv_iload_n hx hb dX11_isRight_144 rfl (lv_at hl 1 rfl) ?_
  replace h := xb h
  obtain ⟨v2, ev2, h⟩ := h
  refine q_iald X Y ev2 dX11_isRight_145 ?_
  refine lv_iconst (v := 3) hx hb dX11_isRight_146 (by decide) ?_
  refine lv_icmp_ne (tgt := 262) hx hb dX11_isRight_147 (by decide) (fun c3 => ?_) (fun c3 => ?_)
  · replace h := Eq.trans (if_neg c3).symm h
    refine W.widen (k := 0) (n := 0) (Nat.le_of_ble_eq_true rfl) (Nat.le_of_ble_eq_true rfl) ?_
    exact w_X11_isRight_262 X hr hlocks hin rs   f a0 a1 a2 _ _ _ h Y (lv_sub hl [0, 1, 2] rfl)
  · replace h := Eq.trans (if_pos c3).symm h
    refine lv_iload_n hx hb dX11_isRight_150 rfl (lv_at hl 2 rfl) ?_
    refine lv_bipush (v := 6) hx hb dX11_isRight_151 (by decide) ?_
    refine lv_icmp_eq (tgt := 165) hx hb dX11_isRight_153 (by decide) (fun c4 => ?_) (fun c4 => ?_)
    · replace h := Eq.trans (if_pos c4).symm h
      refine W.widen (k := 0) (n := 0) (Nat.le_of_ble_eq_true rfl) (Nat.le_of_ble_eq_true rfl) ?_
      exact w_X11_isRight_165 X hr hlocks hin rs   f a0 a1 a2 a3 _ _ _ h Y (lv_sub hl [0, 1, 2, 3] rfl)
    · replace h := Eq.trans (if_neg c4).symm h
      refine lv_iload_n hx hb dX11_isRight_156 rfl (lv_at hl 2 rfl) ?_
      refine lv_iconst (v := 3) hx hb dX11_isRight_157 (by decide) ?_
      refine lv_icmp_eq (tgt := 165) hx hb dX11_isRight_158 (by decide) (fun c5 => ?_) (fun c5 => ?_)
      · replace h := Eq.trans (if_pos c5).symm h
        refine W.widen (k := 0) (n := 0) (Nat.le_of_ble_eq_true rfl) (Nat.le_of_ble_eq_true rfl) ?_
        exact w_X11_isRight_165 X hr hlocks hin rs   f a0 a1 a2 a3 _ _ _ h Y (lv_sub hl [0, 1, 2, 3] rfl)
      · replace h := Eq.trans (if_neg c5).symm h
        refine lv_iload_n hx hb dX11_isRight_161 rfl (lv_at hl 2 rfl) ?_
        refine lv_if_ne (tgt := 262) hx hb dX11_isRight_162 (by decide) (fun c6 => ?_) (fun c6 => ?_)
        · replace h := Eq.trans (if_neg c6).symm h
          refine W.widen (k := 0) (n := 0) (Nat.le_of_ble_eq_true rfl) (Nat.le_of_ble_eq_true rfl) ?_
          exact w_X11_isRight_262 X hr hlocks hin rs   f a0 a1 a2 _ _ _ h Y (lv_sub hl [0, 1, 2] rfl)
        · replace h := Eq.trans (if_pos c6).symm h
          refine W.widen (k := 0) (n := 0) (Nat.le_of_ble_eq_true rfl) (Nat.le_of_ble_eq_true rfl) ?_
          exact w_X11_isRight_165 X hr hlocks hin rs   f a0 a1 a2 a3 _ _ _ h Y (lv_sub hl [0, 1, 2, 3] rfl)
set_option maxRecDepth 100000 in
set_option maxHeartbeats 4000000 in
theorem w_X11_isRight_119 {p : Program} {l : Launch} {e : Env} {s : State} {m : MethodId} {args : Array Value} {below : List Frame} {meth : Method} {c : Code} {G : xG} {z : Nat} (X : xC G p m c s args RX11 cX11_isRight 8) (hr : meth.sig.returnType = (some .boolean)) (hlocks : meth.locks = false) (hin : meth.name = yX11_isRight.name) (rs : Int32 × xHp) (k30 : xHp → Nat → Int32 → Int32 → Int32 → Int32 → Option (Int32 × xHp)) (hk30 : ∀ (f : xHp) (a0 : Nat) (a1 : Int32) (a2 : Int32) (a3 : Int32) (a4 : Int32) (H : Heap) (locs : List Loc) (ls : Array Slot), k30 f a0 a1 a2 a3 a4 = some rs → xY G z f s H locs → lv_has ls 8 [(0, .ref a0), (1, .int a1), (2, .int a2), (3, .int a3), (4, .int a4)] → W p l e rm_X11_isRight s m args below meth c H locs 0 0 (MQ below (xQ G (some (.int rs.1)) z rs.2) args s rm_X11_isRight.cells rm_X11_isRight.slots (xA G)) (F0 m 30 ls [])) (f : xHp) (a0 : Nat) (a1 : Int32) (a2 : Int32) (a3 : Int32) (a4 : Int32) (s0 : Int64) (s1 : Nat) (H : Heap) (locs : List Loc) (ls : Array Slot) (h : F_X11_isRight_119 k30 f a0 a1 a2 a3 a4 s0 s1 = some rs) (Y : xY G z f s H locs) (hl : lv_has ls 8 [(0, .ref a0), (1, .int a1), (2, .int a2), (3, .int a3), (4, .int a4)]) : W p l e rm_X11_isRight s m args below meth c H locs 0 0 (MQ below (xQ G (some (.int rs.1)) z rs.2) args s rm_X11_isRight.cells rm_X11_isRight.slots (xA G)) (F0 m 119 ls [.long s0, .ref s1]) := by
  have hx := X.1.1
  have hb := X.1.2.1
  unfold F_X11_isRight_119 at h
  by_cases c1 : hKd f s1 = some 10
  · replace h := Eq.trans (if_pos c1).symm h
    replace h := xb h
    obtain ⟨q2, eq2, h⟩ := h
    refine q_callV X Y hl.1 (rest := []) (As := [.long s0]) (c_X11_multiply l G z f s1 s0 _ eq2) cd_X11_multiply lv_X11_242_10 c1 ⟨(Nat.le_of_ble_eq_true rfl), (Nat.le_of_ble_eq_true rfl)⟩ ⟨(Nat.le_of_ble_eq_true rfl), (Nat.le_of_ble_eq_true rfl)⟩ rfl rfl (Nat.le_of_ble_eq_true rfl) dX11_isRight_119 (fun H locs Y => ?_)
    refine W.eq (g2 := F0 m 122 ls []) rfl ?_
    refine lv_aload_n hx hb dX11_isRight_122 rfl (lv_at hl 0 rfl) ?_
    refine lv_iload_n hx hb dX11_isRight_123 rfl (lv_at hl 1 rfl) ?_
    refine lv_iload hx hb dX11_isRight_124 (lv_at hl 4 rfl) ?_
    by_cases c3 : hKd q2 a0 = some 10
    · replace h := Eq.trans (if_pos c3).symm h
      replace h := xb h
      obtain ⟨q4, eq4, h⟩ := h
      refine q_callV X Y hl.1 (rest := []) (As := [.int a1, .int a4]) (c_X11_timesOthers l G z q2 a0 a1 a4 _ eq4) cd_X11_timesOthers lv_X11_258_10 c3 ⟨(Nat.le_of_ble_eq_true rfl), (Nat.le_of_ble_eq_true rfl)⟩ ⟨(Nat.le_of_ble_eq_true rfl), (Nat.le_of_ble_eq_true rfl)⟩ rfl rfl (Nat.le_of_ble_eq_true rfl) dX11_isRight_126 (fun H locs Y => ?_)
      refine W.eq (g2 := F0 m 129 ls []) rfl ?_
      refine lv_aload_n hx hb dX11_isRight_129 rfl (lv_at hl 0 rfl) ?_
      refine lv_iconst (v := 0) hx hb dX11_isRight_130 (by decide) ?_
      by_cases c5 : hKd q4 a0 = some 10
      · replace h := Eq.trans (if_pos c5).symm h
        replace h := xb h
        obtain ⟨q6, eq6, h⟩ := h
        refine q_callV X Y hl.1 (rest := []) (As := [.int (0 : Int32)]) (c_X11_addProduct l G z q4 a0 (0 : Int32) _ eq6) cd_X11_addProduct lv_X11_262_10 c5 ⟨(Nat.le_of_ble_eq_true rfl), (Nat.le_of_ble_eq_true rfl)⟩ ⟨(Nat.le_of_ble_eq_true rfl), (Nat.le_of_ble_eq_true rfl)⟩ rfl rfl (Nat.le_of_ble_eq_true rfl) dX11_isRight_131 (fun H locs Y => ?_)
        refine W.eq (g2 := F0 m 134 ls []) rfl ?_
        refine lv_iinc (v := (a4 + 1)) (lv' := [(4, .int (a4 + 1)), (0, .ref a0), (1, .int a1), (2, .int a2), (3, .int a3)]) hx hb dX11_isRight_134 hl (k := 4) rfl rfl (by decide) rfl (fun ls hl => ?_)
        refine lv_goto (tgt := 30) hx hb dX11_isRight_137 (by decide) ?_
        refine W.widen (k := 0) (n := 0) (Nat.le_of_ble_eq_true rfl) (Nat.le_of_ble_eq_true rfl) ?_
        exact hk30 q6 a0 a1 a2 a3 (a4 + 1) _ _ _ h Y (lv_sub hl [1, 2, 3, 4, 0] rfl)
      replace h := Eq.trans (if_neg c5).symm h
      cases h
    replace h := Eq.trans (if_neg c3).symm h
    cases h
  replace h := Eq.trans (if_neg c1).symm h
  cases h
set_option maxRecDepth 100000 in
set_option maxHeartbeats 4000000 in
theorem w_X11_isRight_30 {p : Program} {l : Launch} {e : Env} {s : State} {m : MethodId} {args : Array Value} {below : List Frame} {meth : Method} {c : Code} {G : xG} {z : Nat} (X : xC G p m c s args RX11 cX11_isRight 8) (hr : meth.sig.returnType = (some .boolean)) (hlocks : meth.locks = false) (hin : meth.name = yX11_isRight.name) (rs : Int32 × xHp) (k30 : xHp → Nat → Int32 → Int32 → Int32 → Int32 → Option (Int32 × xHp)) (hk30 : ∀ (f : xHp) (a0 : Nat) (a1 : Int32) (a2 : Int32) (a3 : Int32) (a4 : Int32) (H : Heap) (locs : List Loc) (ls : Array Slot), k30 f a0 a1 a2 a3 a4 = some rs → xY G z f s H locs → lv_has ls 8 [(0, .ref a0), (1, .int a1), (2, .int a2), (3, .int a3), (4, .int a4)] → W p l e rm_X11_isRight s m args below meth c H locs 0 0 (MQ below (xQ G (some (.int rs.1)) z rs.2) args s rm_X11_isRight.cells rm_X11_isRight.slots (xA G)) (F0 m 30 ls [])) (f : xHp) (a0 : Nat) (a1 : Int32) (a2 : Int32) (a3 : Int32) (a4 : Int32) (H : Heap) (locs : List Loc) (ls : Array Slot) (h : F_X11_isRight_30 k30 f a0 a1 a2 a3 a4 = some rs) (Y : xY G z f s H locs) (hl : lv_has ls 8 [(0, .ref a0), (1, .int a1), (2, .int a2), (3, .int a3), (4, .int a4)]) : W p l e rm_X11_isRight s m args below meth c H locs 0 0 (MQ below (xQ G (some (.int rs.1)) z rs.2) args s rm_X11_isRight.cells rm_X11_isRight.slots (xA G)) (F0 m 30 ls []) := by
  have hx := X.1.1
  have hb := X.1.2.1
  unfold F_X11_isRight_30 at h
  refine lv_iload hx hb dX11_isRight_30 (lv_at hl 4 rfl) ?_
  refine lv_iload_n hx hb dX11_isRight_32 rfl (lv_at hl 3 rfl) ?_
  refine lv_icmp_ge (tgt := 140) hx hb dX11_isRight_33 (by decide) (fun c1 => ?_) (fun c1 => ?_)
  · replace h := Eq.trans (if_pos c1).symm h
    refine W.widen (k := 0) (n := 0) (Nat.le_of_ble_eq_true rfl) (Nat.le_of_ble_eq_true rfl) ?_
    exact w_X11_isRight_140 X hr hlocks hin rs   f a0 a1 a2 a3 _ _ _ h Y (lv_sub hl [0, 1, 2, 3] rfl)
  · replace h := Eq.trans (if_neg c1).symm h
    refine lv_iload_n hx hb dX11_isRight_36 rfl (lv_at hl 2 rfl) ?_
    replace h := xb h
    obtain ⟨q2, eq2, h⟩ := h
    refine q_callS X Y hl.1 (rest := []) (As := [.int a2]) (c_X11_isOther l G z f a2 _ eq2) cd_X11_isOther ls_X11_246 ⟨(Nat.le_of_ble_eq_true rfl), (Nat.le_of_ble_eq_true rfl)⟩ ⟨(Nat.le_of_ble_eq_true rfl), (Nat.le_of_ble_eq_true rfl)⟩ rfl rfl (Nat.le_of_ble_eq_true rfl) dX11_isRight_37 (fun H locs Y => ?_)
    refine W.eq (g2 := F0 m 40 ls [.int q2]) rfl ?_
    refine lv_if_ne (tgt := 140) hx hb dX11_isRight_40 (by decide) (fun c3 => ?_) (fun c3 => ?_)
    · replace h := Eq.trans (if_neg c3).symm h
      refine W.widen (k := 0) (n := 0) (Nat.le_of_ble_eq_true rfl) (Nat.le_of_ble_eq_true rfl) ?_
      exact w_X11_isRight_140 X hr hlocks hin rs   f a0 a1 a2 a3 _ _ _ h Y (lv_sub hl [0, 1, 2, 3] rfl)
    · replace h := Eq.trans (if_pos c3).symm h
      refine lv_iload_n hx hb dX11_isRight_43 rfl (lv_at hl 2 rfl) ?_
      replace h := xb h
      obtain ⟨q4, eq4, h⟩ := h
      refine q_callS X Y hl.1 (rest := []) (As := [.int a2]) (c_X11_firstOf l G z f a2 _ eq4) cd_X11_firstOf ls_X11_249 ⟨(Nat.le_of_ble_eq_true rfl), (Nat.le_of_ble_eq_true rfl)⟩ ⟨(Nat.le_of_ble_eq_true rfl), (Nat.le_of_ble_eq_true rfl)⟩ rfl rfl (Nat.le_of_ble_eq_true rfl) dX11_isRight_44 (fun H locs Y => ?_)
      refine W.eq (g2 := F0 m 47 ls [.int q4]) rfl ?_
      refine lv_istore (lv' := [(5, .int q4), (0, .ref a0), (1, .int a1), (2, .int a2), (3, .int a3), (4, .int a4)]) hx hb dX11_isRight_47 hl (by decide) rfl (fun ls hl => ?_)
      refine lv_iload_n hx hb dX11_isRight_49 rfl (lv_at hl 3 rfl) ?_
      replace h := xb h
      obtain ⟨q5, eq5, h⟩ := h
      refine q_callS X Y hl.1 (rest := []) (As := [.int a2]) (c_X11_secondOf l G z f a2 _ eq5) cd_X11_secondOf ls_X11_252 ⟨(Nat.le_of_ble_eq_true rfl), (Nat.le_of_ble_eq_true rfl)⟩ ⟨(Nat.le_of_ble_eq_true rfl), (Nat.le_of_ble_eq_true rfl)⟩ rfl rfl (Nat.le_of_ble_eq_true rfl) dX11_isRight_50 (fun H locs Y => ?_)
      refine W.eq (g2 := F0 m 53 ls [.int q5]) rfl ?_
      refine lv_istore (lv' := [(6, .int q5), (5, .int q4), (0, .ref a0), (1, .int a1), (2, .int a2), (3, .int a3), (4, .int a4)]) hx hb dX11_isRight_53 hl (by decide) rfl (fun ls hl => ?_)
      refine lv_aload_n hx hb dX11_isRight_55 rfl (lv_at hl 2 rfl) ?_
      refine lv_aload_n hx hb dX11_isRight_56 rfl (lv_at hl 2 rfl) ?_
      refine lv_iload_n hx hb dX11_isRight_57 rfl (lv_at hl 3 rfl) ?_
      refine lv_iconst (v := 5) hx hb dX11_isRight_58 (by decide) ?_
      refine lv_iload hx hb dX11_isRight_59 (lv_at hl 6 rfl) ?_
      refine lv_imul hx hb dX11_isRight_61 ?_
      by_cases c6 : hKd f a0 = some 10
      · replace h := Eq.trans (if_pos c6).symm h
        replace h := xb h
        obtain ⟨q7, eq7, h⟩ := h
        refine q_callV X Y hl.1 (rest := [.ref a0]) (As := [.int a1, .int ((5 : Int32) * a4)]) (c_X11_proofNumber l G z f a0 a1 ((5 : Int32) * a4) _ eq7) cd_X11_proofNumber lv_X11_239_10 c6 ⟨(Nat.le_of_ble_eq_true rfl), (Nat.le_of_ble_eq_true rfl)⟩ ⟨(Nat.le_of_ble_eq_true rfl), (Nat.le_of_ble_eq_true rfl)⟩ rfl rfl (Nat.le_of_ble_eq_true rfl) dX11_isRight_62 (fun H locs Y => ?_)
        refine W.eq (g2 := F0 m 65 ls [.long q7, .ref a0]) rfl ?_
        by_cases c8 : hKd f a0 = some 10
        · replace h := Eq.trans (if_pos c8).symm h
          replace h := xb h
          obtain ⟨q9, eq9, h⟩ := h
          refine q_callV X Y hl.1 (rest := []) (As := [.long q7]) (c_X11_beginProduct l G z f a0 q7 _ eq9) cd_X11_beginProduct lv_X11_255_10 c8 ⟨(Nat.le_of_ble_eq_true rfl), (Nat.le_of_ble_eq_true rfl)⟩ ⟨(Nat.le_of_ble_eq_true rfl), (Nat.le_of_ble_eq_true rfl)⟩ rfl rfl (Nat.le_of_ble_eq_true rfl) dX11_isRight_65 (fun H locs Y => ?_)
          refine W.eq (g2 := F0 m 68 ls []) rfl ?_
          refine lv_aload_n hx hb dX11_isRight_68 rfl (lv_at hl 2 rfl) ?_
          refine lv_aload_n hx hb dX11_isRight_69 rfl (lv_at hl 2 rfl) ?_
          refine lv_iload_n hx hb dX11_isRight_70 rfl (lv_at hl 3 rfl) ?_
          refine lv_iconst (v := 5) hx hb dX11_isRight_71 (by decide) ?_
          refine lv_iload hx hb dX11_isRight_72 (lv_at hl 6 rfl) ?_
          refine lv_imul hx hb dX11_isRight_74 ?_
          refine lv_iconst (v := 2) hx hb dX11_isRight_75 (by decide) ?_
          refine lv_iadd hx hb dX11_isRight_76 ?_
          refine lv_iload hx hb dX11_isRight_77 (lv_at hl 1 rfl) ?_
          refine lv_iadd hx hb dX11_isRight_79 ?_
          by_cases c10 : hKd q9 a0 = some 10
          · replace h := Eq.trans (if_pos c10).symm h
            replace h := xb h
            obtain ⟨q11, eq11, h⟩ := h
            refine q_callV X Y hl.1 (rest := [.ref a0]) (As := [.int a1, .int ((((5 : Int32) * a4) + (2 : Int32)) + q4)]) (c_X11_proofNumber l G z q9 a0 a1 ((((5 : Int32) * a4) + (2 : Int32)) + q4) _ eq11) cd_X11_proofNumber lv_X11_239_10 c10 ⟨(Nat.le_of_ble_eq_true rfl), (Nat.le_of_ble_eq_true rfl)⟩ ⟨(Nat.le_of_ble_eq_true rfl), (Nat.le_of_ble_eq_true rfl)⟩ rfl rfl (Nat.le_of_ble_eq_true rfl) dX11_isRight_80 (fun H locs Y => ?_)
            refine W.eq (g2 := F0 m 83 ls [.long q11, .ref a0]) rfl ?_
            by_cases c12 : hKd q9 a0 = some 10
            · replace h := Eq.trans (if_pos c12).symm h
              replace h := xb h
              obtain ⟨q13, eq13, h⟩ := h
              refine q_callV X Y hl.1 (rest := []) (As := [.long q11]) (c_X11_multiply l G z q9 a0 q11 _ eq13) cd_X11_multiply lv_X11_242_10 c12 ⟨(Nat.le_of_ble_eq_true rfl), (Nat.le_of_ble_eq_true rfl)⟩ ⟨(Nat.le_of_ble_eq_true rfl), (Nat.le_of_ble_eq_true rfl)⟩ rfl rfl (Nat.le_of_ble_eq_true rfl) dX11_isRight_83 (fun H locs Y => ?_)
              refine W.eq (g2 := F0 m 86 ls []) rfl ?_
              refine lv_aload_n hx hb dX11_isRight_86 rfl (lv_at hl 2 rfl) ?_
              refine lv_aload_n hx hb dX11_isRight_87 rfl (lv_at hl 2 rfl) ?_
              refine lv_iload_n hx hb dX11_isRight_88 rfl (lv_at hl 3 rfl) ?_
              refine lv_iconst (v := 5) hx hb dX11_isRight_89 (by decide) ?_
              refine lv_iload hx hb dX11_isRight_90 (lv_at hl 6 rfl) ?_
              refine lv_imul hx hb dX11_isRight_92 ?_
              refine lv_iconst (v := 2) hx hb dX11_isRight_93 (by decide) ?_
              refine lv_iadd hx hb dX11_isRight_94 ?_
              refine lv_iload hx hb dX11_isRight_95 (lv_at hl 0 rfl) ?_
              refine lv_iadd hx hb dX11_isRight_97 ?_
              by_cases c14 : hKd q13 a0 = some 10
              · replace h := Eq.trans (if_pos c14).symm h
                replace h := xb h
                obtain ⟨q15, eq15, h⟩ := h
                refine q_callV X Y hl.1 (rest := [.ref a0]) (As := [.int a1, .int ((((5 : Int32) * a4) + (2 : Int32)) + q5)]) (c_X11_proofNumber l G z q13 a0 a1 ((((5 : Int32) * a4) + (2 : Int32)) + q5) _ eq15) cd_X11_proofNumber lv_X11_239_10 c14 ⟨(Nat.le_of_ble_eq_true rfl), (Nat.le_of_ble_eq_true rfl)⟩ ⟨(Nat.le_of_ble_eq_true rfl), (Nat.le_of_ble_eq_true rfl)⟩ rfl rfl (Nat.le_of_ble_eq_true rfl) dX11_isRight_98 (fun H locs Y => ?_)
                refine W.eq (g2 := F0 m 101 ls [.long q15, .ref a0]) rfl ?_
                by_cases c16 : hKd q13 a0 = some 10
                · replace h := Eq.trans (if_pos c16).symm h
                  replace h := xb h
                  obtain ⟨q17, eq17, h⟩ := h
                  refine q_callV X Y hl.1 (rest := []) (As := [.long q15]) (c_X11_multiply l G z q13 a0 q15 _ eq17) cd_X11_multiply lv_X11_242_10 c16 ⟨(Nat.le_of_ble_eq_true rfl), (Nat.le_of_ble_eq_true rfl)⟩ ⟨(Nat.le_of_ble_eq_true rfl), (Nat.le_of_ble_eq_true rfl)⟩ rfl rfl (Nat.le_of_ble_eq_true rfl) dX11_isRight_101 (fun H locs Y => ?_)
                  refine W.eq (g2 := F0 m 104 ls []) rfl ?_
                  refine lv_aload_n hx hb dX11_isRight_104 rfl (lv_at hl 2 rfl) ?_
                  refine lv_iload hx hb dX11_isRight_105 (lv_at hl 1 rfl) ?_
                  refine lv_iload hx hb dX11_isRight_107 (lv_at hl 0 rfl) ?_
                  refine lv_icmp_ne (tgt := 116) hx hb dX11_isRight_109 (by decide) (fun c18 => ?_) (fun c18 => ?_)
                  · replace h := Eq.trans (if_neg c18).symm h
                    refine lv_ldc2 (v := 2) hx hb X.1.2.2.2.1 (X.1.2.2.2.2 _ xw_923) dX11_isRight_116 ?_
                    refine W.widen (k := 0) (n := 0) (Nat.le_of_ble_eq_true rfl) (Nat.le_of_ble_eq_true rfl) ?_
                    exact w_X11_isRight_119 X hr hlocks hin rs k30 hk30  q17 a0 a1 a2 a3 a4 (2 : Int64) a0 _ _ _ h Y (lv_sub hl [2, 3, 4, 5, 6] rfl)
                  · replace h := Eq.trans (if_pos c18).symm h
                    refine lv_lconst (v := 1) hx hb dX11_isRight_112 (by decide) ?_
                    refine lv_goto (tgt := 119) hx hb dX11_isRight_113 (by decide) ?_
                    refine W.widen (k := 0) (n := 0) (Nat.le_of_ble_eq_true rfl) (Nat.le_of_ble_eq_true rfl) ?_
                    exact w_X11_isRight_119 X hr hlocks hin rs k30 hk30  q17 a0 a1 a2 a3 a4 (1 : Int64) a0 _ _ _ h Y (lv_sub hl [2, 3, 4, 5, 6] rfl)
                replace h := Eq.trans (if_neg c16).symm h
                cases h
              replace h := Eq.trans (if_neg c14).symm h
              cases h
            replace h := Eq.trans (if_neg c12).symm h
            cases h
          replace h := Eq.trans (if_neg c10).symm h
          cases h
        replace h := Eq.trans (if_neg c8).symm h
        cases h
      replace h := Eq.trans (if_neg c6).symm h
      cases h
set_option maxRecDepth 100000 in
set_option maxHeartbeats 4000000 in
theorem lw_X11_isRight_30 {p : Program} {l : Launch} {e : Env} {s : State} {m : MethodId} {args : Array Value} {below : List Frame} {meth : Method} {c : Code} {G : xG} {z : Nat} (X : xC G p m c s args RX11 cX11_isRight 8) (hr : meth.sig.returnType = (some .boolean)) (hlocks : meth.locks = false) (hin : meth.name = yX11_isRight.name) (rs : Int32 × xHp)  : ∀ (n : Nat) (f : xHp) (a0 : Nat) (a1 : Int32) (a2 : Int32) (a3 : Int32) (a4 : Int32) (H : Heap) (locs : List Loc) (ls : Array Slot), L_X11_isRight_30  n f a0 a1 a2 a3 a4 = some rs → xY G z f s H locs → lv_has ls 8 [(0, .ref a0), (1, .int a1), (2, .int a2), (3, .int a3), (4, .int a4)] → W p l e rm_X11_isRight s m args below meth c H locs 0 0 (MQ below (xQ G (some (.int rs.1)) z rs.2) args s rm_X11_isRight.cells rm_X11_isRight.slots (xA G)) (F0 m 30 ls []) := by
  intro n
  induction n with
  | zero => intro f a0 a1 a2 a3 a4 H locs ls h Y hl; cases h
  | succ n ih => intro f a0 a1 a2 a3 a4 H locs ls h Y hl; exact w_X11_isRight_30 X hr hlocks hin rs _ ih f a0 a1 a2 a3 a4 _ _ _ h Y hl
set_option maxRecDepth 100000 in
set_option maxHeartbeats 4000000 in
theorem w_X11_isRight_2 {p : Program} {l : Launch} {e : Env} {s : State} {m : MethodId} {args : Array Value} {below : List Frame} {meth : Method} {c : Code} {G : xG} {z : Nat} (X : xC G p m c s args RX11 cX11_isRight 8) (hr : meth.sig.returnType = (some .boolean)) (hlocks : meth.locks = false) (hin : meth.name = yX11_isRight.name) (rs : Int32 × xHp) (k2 : xHp → Nat → Int32 → Int32 → Int32 → Option (Int32 × xHp)) (hk2 : ∀ (f : xHp) (a0 : Nat) (a1 : Int32) (a2 : Int32) (a3 : Int32) (H : Heap) (locs : List Loc) (ls : Array Slot), k2 f a0 a1 a2 a3 = some rs → xY G z f s H locs → lv_has ls 8 [(0, .ref a0), (1, .int a1), (2, .int a2), (3, .int a3)] → W p l e rm_X11_isRight s m args below meth c H locs 0 0 (MQ below (xQ G (some (.int rs.1)) z rs.2) args s rm_X11_isRight.cells rm_X11_isRight.slots (xA G)) (F0 m 2 ls [])) (f : xHp) (a0 : Nat) (a1 : Int32) (a2 : Int32) (a3 : Int32) (H : Heap) (locs : List Loc) (ls : Array Slot) (h : F_X11_isRight_2 k2 f a0 a1 a2 a3 = some rs) (Y : xY G z f s H locs) (hl : lv_has ls 8 [(0, .ref a0), (1, .int a1), (2, .int a2), (3, .int a3)]) : W p l e rm_X11_isRight s m args below meth c H locs 0 0 (MQ below (xQ G (some (.int rs.1)) z rs.2) args s rm_X11_isRight.cells rm_X11_isRight.slots (xA G)) (F0 m 2 ls []) := by
  have hx := X.1.1
  have hb := X.1.2.1
  unfold F_X11_isRight_2 at h
  refine lv_iload_n hx hb dX11_isRight_2 rfl (lv_at hl 3 rfl) ?_
  refine lv_bipush (v := 24) hx hb dX11_isRight_3 (by decide) ?_
  refine lv_icmp_ge (tgt := 21) hx hb dX11_isRight_5 (by decide) (fun c1 => ?_) (fun c1 => ?_)
  · replace h := Eq.trans (if_pos c1).symm h
    refine lv_aload_n hx hb dX11_isRight_21 rfl (lv_at hl 0 rfl) ?_
    refine lv_iload_n hx hb dX11_isRight_22 rfl (lv_at hl 1 rfl) ?_
    by_cases c2 : hKd f a0 = some 10
    · replace h := Eq.trans (if_pos c2).symm h
      replace h := xb h
      obtain ⟨q3, eq3, h⟩ := h
      refine q_callV X Y hl.1 (rest := []) (As := [.int a1]) (c_X11_squaresIn l G z f a0 a1 _ eq3) cd_X11_squaresIn lv_X11_230_10 c2 ⟨(Nat.le_of_ble_eq_true rfl), (Nat.le_of_ble_eq_true rfl)⟩ ⟨(Nat.le_of_ble_eq_true rfl), (Nat.le_of_ble_eq_true rfl)⟩ rfl rfl (Nat.le_of_ble_eq_true rfl) dX11_isRight_23 (fun H locs Y => ?_)
      refine W.eq (g2 := F0 m 26 ls [.int q3]) rfl ?_
      refine lv_istore_n (lv' := [(3, .int q3), (0, .ref a0), (1, .int a1), (2, .int a2)]) hx hb dX11_isRight_26 rfl hl (by decide) rfl (fun ls hl => ?_)
      refine lv_iconst (v := 0) hx hb dX11_isRight_27 (by decide) ?_
      refine lv_istore (lv' := [(4, .int (0 : Int32)), (3, .int q3), (0, .ref a0), (1, .int a1), (2, .int a2)]) hx hb dX11_isRight_28 hl (by decide) rfl (fun ls hl => ?_)
      refine W.widen (k := 0) (n := 0) (Nat.le_of_ble_eq_true rfl) (Nat.le_of_ble_eq_true rfl) ?_
      exact lw_X11_isRight_30 X hr hlocks hin rs  xfuel f a0 a1 a2 q3 (0 : Int32) _ _ _ h Y (lv_sub hl [2, 3, 4, 1, 0] rfl)
    replace h := Eq.trans (if_neg c2).symm h
    cases h
  · replace h := Eq.trans (if_neg c1).symm h
    refine lv_aload_n hx hb dX11_isRight_8 rfl (lv_at hl 0 rfl) ?_
    replace h := xb h
    obtain ⟨v4, ev4, h⟩ := h
    refine q_getN X Y fl_X11_65 ev4 dX11_isRight_9 ?_
    refine lv_iload_n hx hb dX11_isRight_12 rfl (lv_at hl 3 rfl) ?_
    refine lv_lconst (v := 0) hx hb dX11_isRight_13 (by decide) ?_
    replace h := xb h
    obtain ⟨f5, ef5, h⟩ := h
    refine q_last X Y ef5 dX11_isRight_14 (fun H locs Y => ?_)
    refine lv_iinc (v := (a3 + 1)) (lv' := [(3, .int (a3 + 1)), (0, .ref a0), (1, .int a1), (2, .int a2)]) hx hb dX11_isRight_15 hl (k := 3) rfl rfl (by decide) rfl (fun ls hl => ?_)
    refine lv_goto (tgt := 2) hx hb dX11_isRight_18 (by decide) ?_
    refine W.widen (k := 0) (n := 0) (Nat.le_of_ble_eq_true rfl) (Nat.le_of_ble_eq_true rfl) ?_
    exact hk2 f5 a0 a1 a2 (a3 + 1) _ _ _ h Y (lv_sub hl [1, 2, 3, 0] rfl)
set_option maxRecDepth 100000 in
set_option maxHeartbeats 4000000 in
theorem lw_X11_isRight_2 {p : Program} {l : Launch} {e : Env} {s : State} {m : MethodId} {args : Array Value} {below : List Frame} {meth : Method} {c : Code} {G : xG} {z : Nat} (X : xC G p m c s args RX11 cX11_isRight 8) (hr : meth.sig.returnType = (some .boolean)) (hlocks : meth.locks = false) (hin : meth.name = yX11_isRight.name) (rs : Int32 × xHp)  : ∀ (n : Nat) (f : xHp) (a0 : Nat) (a1 : Int32) (a2 : Int32) (a3 : Int32) (H : Heap) (locs : List Loc) (ls : Array Slot), L_X11_isRight_2  n f a0 a1 a2 a3 = some rs → xY G z f s H locs → lv_has ls 8 [(0, .ref a0), (1, .int a1), (2, .int a2), (3, .int a3)] → W p l e rm_X11_isRight s m args below meth c H locs 0 0 (MQ below (xQ G (some (.int rs.1)) z rs.2) args s rm_X11_isRight.cells rm_X11_isRight.slots (xA G)) (F0 m 2 ls []) := by
  intro n
  induction n with
  | zero => intro f a0 a1 a2 a3 H locs ls h Y hl; cases h
  | succ n ih => intro f a0 a1 a2 a3 H locs ls h Y hl; exact w_X11_isRight_2 X hr hlocks hin rs _ ih f a0 a1 a2 a3 _ _ _ h Y hl
set_option maxRecDepth 100000 in
set_option maxHeartbeats 4000000 in
theorem c_X11_isRight (l : Launch) (G : xG) (z : Nat) (f : xHp) (h0 : Nat) (p1 : Int32) (p2 : Int32) (rs : Int32 × xHp) (h : F_X11_isRight f h0 p1 p2 = some rs) : xM G l yX11_isRight cX11_isRight 8 (some .boolean) rm_X11_isRight [.ref h0, .int p1, .int p2] z f (some (.int rs.1)) z rs.2 := by
  refine xM_of (by decide) (Nat.le_of_ble_eq_true rfl) ?_
  intro p e s m below meth c ls X hr hlocks hin Y hl
  have hl : lv_has ls 8 [(0, .ref h0), (1, .int p1), (2, .int p2)] := hl
  have hx := X.1.1
  have hb := X.1.2.1
  unfold F_X11_isRight at h
  refine lv_iconst (v := 0) hx hb dX11_isRight_0 (by decide) ?_
  refine lv_istore_n (lv' := [(3, .int (0 : Int32)), (0, .ref h0), (1, .int p1), (2, .int p2)]) hx hb dX11_isRight_1 rfl hl (by decide) rfl (fun ls hl => ?_)
  refine W.widen (k := 0) (n := 0) (Nat.le_of_ble_eq_true rfl) (Nat.le_of_ble_eq_true rfl) ?_
  exact lw_X11_isRight_2 X hr hlocks hin rs  xfuel f h0 p1 p2 (0 : Int32) _ _ _ h Y (lv_sub hl [1, 2, 3, 0] rfl)
/-! NeverBelowModel.checkSums(I)I -/
abbrev rm_X11_checkSums : Room := { frames := 3, cells := 0, slots := 0, locals := 81 }
def F_X11_checkSums_117 (k117 : xHp → Nat → Int32 → Int32 → Option (Int32 × xHp)) (f : xHp) (a0 : Nat) (a1 : Int32) (a4 : Int32) : Option (Int32 × xHp) := if (9 : Int32) ≤ a4 then (some ((1 : Int32), f)) else (if hKd f a0 = some 10 then (Option.bind (F_X11_isRight f a0 a1 a4) fun q3 => if q3.1 = 0 then (some (((-20 : Int32) - a4), q3.2)) else (k117 q3.2 a0 a1 (a4 + 1))) else none)
def L_X11_checkSums_117  : Nat → xHp → Nat → Int32 → Int32 → Option (Int32 × xHp)
  | 0, _, _, _, _ => none
  | n + 1, f, a0, a1, a4 => F_X11_checkSums_117 (L_X11_checkSums_117  n) f a0 a1 a4
def F_X11_checkSums_107  (f : xHp) (a0 : Nat) (a1 : Int32) (a3 : Int32) : Option (Int32 × xHp) := if a3 = 0 then (some ((-29 : Int32), f)) else (L_X11_checkSums_117 xfuel f a0 a1 (0 : Int32))
def F_X11_checkSums_105  (f : xHp) (a0 : Nat) (a1 : Int32) (s0 : Int32) (s1 : Int32) : Option (Int32 × xHp) := F_X11_checkSums_107 f a0 a1 (s1 &&& s0)
def F_X11_checkSums_104  (f : xHp) (a0 : Nat) (a1 : Int32) (s0 : Int32) : Option (Int32 × xHp) := F_X11_checkSums_105 f a0 a1 (0 : Int32) s0
def F_X11_checkSums_53 (k11 : xHp → Nat → Int32 → Int32 → Int32 → Int32 → Option (Int32 × xHp)) (f : xHp) (a0 : Nat) (a1 : Int32) (a2 : Int32) (a4 : Int32) (s0 : Int32) (s1 : Int32) : Option (Int32 × xHp) := k11 f a0 a1 a2 (s1 &&& s0) (a4 + 1)
def F_X11_checkSums_52 (k11 : xHp → Nat → Int32 → Int32 → Int32 → Int32 → Option (Int32 × xHp)) (f : xHp) (a0 : Nat) (a1 : Int32) (a2 : Int32) (a4 : Int32) (s0 : Int32) : Option (Int32 × xHp) := F_X11_checkSums_53 k11 f a0 a1 a2 a4 (0 : Int32) s0
def F_X11_checkSums_11 (k11 : xHp → Nat → Int32 → Int32 → Int32 → Int32 → Option (Int32 × xHp)) (f : xHp) (a0 : Nat) (a1 : Int32) (a2 : Int32) (a3 : Int32) (a4 : Int32) : Option (Int32 × xHp) := if a2 ≤ a4 then (Option.bind (hN f a0 [(10, 21)]) fun v2 => Option.bind (hIld f v2 a1) fun v3 => if v3 = (3 : Int32) then (if hKd f a0 = some 10 then (Option.bind (F_X11_proofNumber f a0 a1 ((5 : Int32) * a2)) fun q6 => if q6 ≤ (0 : Int64) then (F_X11_checkSums_104 f a0 a1 a3) else (if hKd f a0 = some 10 then (Option.bind (F_X11_proofNumber f a0 a1 (((5 : Int32) * a2) + (1 : Int32))) fun q9 => if q9 ≤ (0 : Int64) then (F_X11_checkSums_104 f a0 a1 a3) else (F_X11_checkSums_105 f a0 a1 (1 : Int32) a3)) else none)) else none) else (F_X11_checkSums_107 f a0 a1 a3)) else (if hKd f a0 = some 10 then (Option.bind (F_X11_proofNumber f a0 a1 ((5 : Int32) * a4)) fun q12 => if q12 ≤ (0 : Int64) then (F_X11_checkSums_52 k11 f a0 a1 a2 a4 a3) else (if hKd f a0 = some 10 then (Option.bind (F_X11_proofNumber f a0 a1 (((5 : Int32) * a4) + (1 : Int32))) fun q15 => if q15 ≤ (0 : Int64) then (F_X11_checkSums_52 k11 f a0 a1 a2 a4 a3) else (F_X11_checkSums_53 k11 f a0 a1 a2 a4 (1 : Int32) a3)) else none)) else none)
def L_X11_checkSums_11  : Nat → xHp → Nat → Int32 → Int32 → Int32 → Int32 → Option (Int32 × xHp)
  | 0, _, _, _, _, _, _ => none
  | n + 1, f, a0, a1, a2, a3, a4 => F_X11_checkSums_11 (L_X11_checkSums_11  n) f a0 a1 a2 a3 a4
def F_X11_checkSums (f : xHp) (h0 : Nat) (p1 : Int32) : Option (Int32 × xHp) := if hKd f h0 = some 10 then (Option.bind (F_X11_squaresIn f h0 p1) fun q2 => L_X11_checkSums_11 xfuel f h0 p1 q2 (1 : Int32) (0 : Int32)) else none
set_option maxRecDepth 100000 in
set_option maxHeartbeats 4000000 in
theorem w_X11_checkSums_117 {p : Program} {l : Launch} {e : Env} {s : State} {m : MethodId} {args : Array Value} {below : List Frame} {meth : Method} {c : Code} {G : xG} {z : Nat} (X : xC G p m c s args RX11 cX11_checkSums 5) (hr : meth.sig.returnType = (some .int)) (hlocks : meth.locks = false) (hin : meth.name = yX11_checkSums.name) (rs : Int32 × xHp) (k117 : xHp → Nat → Int32 → Int32 → Option (Int32 × xHp)) (hk117 : ∀ (f : xHp) (a0 : Nat) (a1 : Int32) (a4 : Int32) (H : Heap) (locs : List Loc) (ls : Array Slot), k117 f a0 a1 a4 = some rs → xY G z f s H locs → lv_has ls 5 [(0, .ref a0), (1, .int a1), (4, .int a4)] → W p l e rm_X11_checkSums s m args below meth c H locs 0 0 (MQ below (xQ G (some (.int rs.1)) z rs.2) args s rm_X11_checkSums.cells rm_X11_checkSums.slots (xA G)) (F0 m 117 ls [])) (f : xHp) (a0 : Nat) (a1 : Int32) (a4 : Int32) (H : Heap) (locs : List Loc) (ls : Array Slot) (h : F_X11_checkSums_117 k117 f a0 a1 a4 = some rs) (Y : xY G z f s H locs) (hl : lv_has ls 5 [(0, .ref a0), (1, .int a1), (4, .int a4)]) : W p l e rm_X11_checkSums s m args below meth c H locs 0 0 (MQ below (xQ G (some (.int rs.1)) z rs.2) args s rm_X11_checkSums.cells rm_X11_checkSums.slots (xA G)) (F0 m 117 ls []) := by
  have hx := X.1.1
  have hb := X.1.2.1
  unfold F_X11_checkSums_117 at h
  refine lv_iload hx hb dX11_checkSums_117 (lv_at hl 2 rfl) ?_
  refine lv_bipush (v := 9) hx hb dX11_checkSums_119 (by decide) ?_
  refine lv_icmp_ge (tgt := 146) hx hb dX11_checkSums_121 (by decide) (fun c1 => ?_) (fun c1 => ?_)
  · replace h := Eq.trans (if_pos c1).symm h
    refine lv_iconst (v := 1) hx hb dX11_checkSums_146 (by decide) ?_
    replace h := Option.some.inj h
    subst h
    exact q_reti X Y hr hlocks (Nat.le_of_ble_eq_true rfl) (Nat.le_of_ble_eq_true rfl) dX11_checkSums_147
  · replace h := Eq.trans (if_neg c1).symm h
    refine lv_aload_n hx hb dX11_checkSums_124 rfl (lv_at hl 0 rfl) ?_
    refine lv_iload_n hx hb dX11_checkSums_125 rfl (lv_at hl 1 rfl) ?_
    refine lv_iload hx hb dX11_checkSums_126 (lv_at hl 2 rfl) ?_
    by_cases c2 : hKd f a0 = some 10
    · replace h := Eq.trans (if_pos c2).symm h
      replace h := xb h
      obtain ⟨q3, eq3, h⟩ := h
      refine q_callV X Y hl.1 (rest := []) (As := [.int a1, .int a4]) (c_X11_isRight l G z f a0 a1 a4 _ eq3) cd_X11_isRight lv_X11_271_10 c2 ⟨(Nat.le_of_ble_eq_true rfl), (Nat.le_of_ble_eq_true rfl)⟩ ⟨(Nat.le_of_ble_eq_true rfl), (Nat.le_of_ble_eq_true rfl)⟩ rfl rfl (Nat.le_of_ble_eq_true rfl) dX11_checkSums_128 (fun H locs Y => ?_)
      refine W.eq (g2 := F0 m 131 ls [.int q3.1]) rfl ?_
      refine lv_if_ne (tgt := 140) hx hb dX11_checkSums_131 (by decide) (fun c4 => ?_) (fun c4 => ?_)
      · replace h := Eq.trans (if_neg c4).symm h
        refine lv_iinc (v := (a4 + 1)) (lv' := [(4, .int (a4 + 1)), (0, .ref a0), (1, .int a1)]) hx hb dX11_checkSums_140 hl (k := 2) rfl rfl (by decide) rfl (fun ls hl => ?_)
        refine lv_goto (tgt := 117) hx hb dX11_checkSums_143 (by decide) ?_
        refine W.widen (k := 0) (n := 0) (Nat.le_of_ble_eq_true rfl) (Nat.le_of_ble_eq_true rfl) ?_
        exact hk117 q3.2 a0 a1 (a4 + 1) _ _ _ h Y (lv_sub hl [1, 2, 0] rfl)
      · replace h := Eq.trans (if_pos c4).symm h
        refine lv_bipush (v := -20) hx hb dX11_checkSums_134 (by decide) ?_
        refine lv_iload hx hb dX11_checkSums_136 (lv_at hl 2 rfl) ?_
        refine lv_isub hx hb dX11_checkSums_138 ?_
        replace h := Option.some.inj h
        subst h
        exact q_reti X Y hr hlocks (Nat.le_of_ble_eq_true rfl) (Nat.le_of_ble_eq_true rfl) dX11_checkSums_139
    replace h := Eq.trans (if_neg c2).symm h
    cases h
set_option maxRecDepth 100000 in
set_option maxHeartbeats 4000000 in
theorem lw_X11_checkSums_117 {p : Program} {l : Launch} {e : Env} {s : State} {m : MethodId} {args : Array Value} {below : List Frame} {meth : Method} {c : Code} {G : xG} {z : Nat} (X : xC G p m c s args RX11 cX11_checkSums 5) (hr : meth.sig.returnType = (some .int)) (hlocks : meth.locks = false) (hin : meth.name = yX11_checkSums.name) (rs : Int32 × xHp)  : ∀ (n : Nat) (f : xHp) (a0 : Nat) (a1 : Int32) (a4 : Int32) (H : Heap) (locs : List Loc) (ls : Array Slot), L_X11_checkSums_117  n f a0 a1 a4 = some rs → xY G z f s H locs → lv_has ls 5 [(0, .ref a0), (1, .int a1), (4, .int a4)] → W p l e rm_X11_checkSums s m args below meth c H locs 0 0 (MQ below (xQ G (some (.int rs.1)) z rs.2) args s rm_X11_checkSums.cells rm_X11_checkSums.slots (xA G)) (F0 m 117 ls []) := by
  intro n
  induction n with
  | zero => intro f a0 a1 a4 H locs ls h Y hl; cases h
  | succ n ih => intro f a0 a1 a4 H locs ls h Y hl; exact w_X11_checkSums_117 X hr hlocks hin rs _ ih f a0 a1 a4 _ _ _ h Y hl
set_option maxRecDepth 100000 in
set_option maxHeartbeats 4000000 in
theorem w_X11_checkSums_107 {p : Program} {l : Launch} {e : Env} {s : State} {m : MethodId} {args : Array Value} {below : List Frame} {meth : Method} {c : Code} {G : xG} {z : Nat} (X : xC G p m c s args RX11 cX11_checkSums 5) (hr : meth.sig.returnType = (some .int)) (hlocks : meth.locks = false) (hin : meth.name = yX11_checkSums.name) (rs : Int32 × xHp)  (f : xHp) (a0 : Nat) (a1 : Int32) (a3 : Int32) (H : Heap) (locs : List Loc) (ls : Array Slot) (h : F_X11_checkSums_107  f a0 a1 a3 = some rs) (Y : xY G z f s H locs) (hl : lv_has ls 5 [(0, .ref a0), (1, .int a1), (3, .int a3)]) : W p l e rm_X11_checkSums s m args below meth c H locs 0 0 (MQ below (xQ G (some (.int rs.1)) z rs.2) args s rm_X11_checkSums.cells rm_X11_checkSums.slots (xA G)) (F0 m 107 ls []) := by
  have hx := X.1.1
  have hb := X.1.2.1
  unfold F_X11_checkSums_107 at h
  refine lv_iload_n hx hb dX11_checkSums_107 rfl (lv_at hl 2 rfl) ?_
  refine lv_if_ne (tgt := 114) hx hb dX11_checkSums_108 (by decide) (fun c1 => ?_) (fun c1 => ?_)
  · replace h := Eq.trans (if_neg c1).symm h
    refine lv_iconst (v := 0) hx hb dX11_checkSums_114 (by decide) ?_
    refine lv_istore (lv' := [(4, .int (0 : Int32)), (0, .ref a0), (1, .int a1), (3, .int a3)]) hx hb dX11_checkSums_115 hl (by decide) rfl (fun ls hl => ?_)
    refine W.widen (k := 0) (n := 0) (Nat.le_of_ble_eq_true rfl) (Nat.le_of_ble_eq_true rfl) ?_
    exact lw_X11_checkSums_117 X hr hlocks hin rs  xfuel f a0 a1 (0 : Int32) _ _ _ h Y (lv_sub hl [1, 2, 0] rfl)
  · replace h := Eq.trans (if_pos c1).symm h
    refine lv_bipush (v := -29) hx hb dX11_checkSums_111 (by decide) ?_
    replace h := Option.some.inj h
    subst h
    exact q_reti X Y hr hlocks (Nat.le_of_ble_eq_true rfl) (Nat.le_of_ble_eq_true rfl) dX11_checkSums_113
set_option maxRecDepth 100000 in
set_option maxHeartbeats 4000000 in
theorem w_X11_checkSums_105 {p : Program} {l : Launch} {e : Env} {s : State} {m : MethodId} {args : Array Value} {below : List Frame} {meth : Method} {c : Code} {G : xG} {z : Nat} (X : xC G p m c s args RX11 cX11_checkSums 5) (hr : meth.sig.returnType = (some .int)) (hlocks : meth.locks = false) (hin : meth.name = yX11_checkSums.name) (rs : Int32 × xHp)  (f : xHp) (a0 : Nat) (a1 : Int32) (s0 : Int32) (s1 : Int32) (H : Heap) (locs : List Loc) (ls : Array Slot) (h : F_X11_checkSums_105  f a0 a1 s0 s1 = some rs) (Y : xY G z f s H locs) (hl : lv_has ls 5 [(0, .ref a0), (1, .int a1)]) : W p l e rm_X11_checkSums s m args below meth c H locs 0 0 (MQ below (xQ G (some (.int rs.1)) z rs.2) args s rm_X11_checkSums.cells rm_X11_checkSums.slots (xA G)) (F0 m 105 ls [.int s0, .int s1]) := by
  have hx := X.1.1
  have hb := X.1.2.1
  unfold F_X11_checkSums_105 at h
  refine lv_iand hx hb dX11_checkSums_105 ?_
  refine lv_istore_n (lv' := [(3, .int (s1 &&& s0)), (0, .ref a0), (1, .int a1)]) hx hb dX11_checkSums_106 rfl hl (by decide) rfl (fun ls hl => ?_)
  refine W.widen (k := 0) (n := 0) (Nat.le_of_ble_eq_true rfl) (Nat.le_of_ble_eq_true rfl) ?_
  exact w_X11_checkSums_107 X hr hlocks hin rs   f a0 a1 (s1 &&& s0) _ _ _ h Y (lv_sub hl [1, 2, 0] rfl)
set_option maxRecDepth 100000 in
set_option maxHeartbeats 4000000 in
theorem w_X11_checkSums_104 {p : Program} {l : Launch} {e : Env} {s : State} {m : MethodId} {args : Array Value} {below : List Frame} {meth : Method} {c : Code} {G : xG} {z : Nat} (X : xC G p m c s args RX11 cX11_checkSums 5) (hr : meth.sig.returnType = (some .int)) (hlocks : meth.locks = false) (hin : meth.name = yX11_checkSums.name) (rs : Int32 × xHp)  (f : xHp) (a0 : Nat) (a1 : Int32) (s0 : Int32) (H : Heap) (locs : List Loc) (ls : Array Slot) (h : F_X11_checkSums_104  f a0 a1 s0 = some rs) (Y : xY G z f s H locs) (hl : lv_has ls 5 [(0, .ref a0), (1, .int a1)]) : W p l e rm_X11_checkSums s m args below meth c H locs 0 0 (MQ below (xQ G (some (.int rs.1)) z rs.2) args s rm_X11_checkSums.cells rm_X11_checkSums.slots (xA G)) (F0 m 104 ls [.int s0]) := by
  have hx := X.1.1
  have hb := X.1.2.1
  unfold F_X11_checkSums_104 at h
  refine lv_iconst (v := 0) hx hb dX11_checkSums_104 (by decide) ?_
  refine W.widen (k := 0) (n := 0) (Nat.le_of_ble_eq_true rfl) (Nat.le_of_ble_eq_true rfl) ?_
  exact w_X11_checkSums_105 X hr hlocks hin rs   f a0 a1 (0 : Int32) s0 _ _ _ h Y (lv_sub hl [0, 1] rfl)
set_option maxRecDepth 100000 in
set_option maxHeartbeats 4000000 in
theorem w_X11_checkSums_53 {p : Program} {l : Launch} {e : Env} {s : State} {m : MethodId} {args : Array Value} {below : List Frame} {meth : Method} {c : Code} {G : xG} {z : Nat} (X : xC G p m c s args RX11 cX11_checkSums 5) (hr : meth.sig.returnType = (some .int)) (hlocks : meth.locks = false) (hin : meth.name = yX11_checkSums.name) (rs : Int32 × xHp) (k11 : xHp → Nat → Int32 → Int32 → Int32 → Int32 → Option (Int32 × xHp)) (hk11 : ∀ (f : xHp) (a0 : Nat) (a1 : Int32) (a2 : Int32) (a3 : Int32) (a4 : Int32) (H : Heap) (locs : List Loc) (ls : Array Slot), k11 f a0 a1 a2 a3 a4 = some rs → xY G z f s H locs → lv_has ls 5 [(0, .ref a0), (1, .int a1), (2, .int a2), (3, .int a3), (4, .int a4)] → W p l e rm_X11_checkSums s m args below meth c H locs 0 0 (MQ below (xQ G (some (.int rs.1)) z rs.2) args s rm_X11_checkSums.cells rm_X11_checkSums.slots (xA G)) (F0 m 11 ls [])) (f : xHp) (a0 : Nat) (a1 : Int32) (a2 : Int32) (a4 : Int32) (s0 : Int32) (s1 : Int32) (H : Heap) (locs : List Loc) (ls : Array Slot) (h : F_X11_checkSums_53 k11 f a0 a1 a2 a4 s0 s1 = some rs) (Y : xY G z f s H locs) (hl : lv_has ls 5 [(0, .ref a0), (1, .int a1), (2, .int a2), (4, .int a4)]) : W p l e rm_X11_checkSums s m args below meth c H locs 0 0 (MQ below (xQ G (some (.int rs.1)) z rs.2) args s rm_X11_checkSums.cells rm_X11_checkSums.slots (xA G)) (F0 m 53 ls [.int s0, .int s1]) := by
  have hx := X.1.1
  have hb := X.1.2.1
  unfold F_X11_checkSums_53 at h
  refine lv_iand hx hb dX11_checkSums_53 ?_
  refine lv_istore_n (lv' := [(3, .int (s1 &&& s0)), (0, .ref a0), (1, .int a1), (2, .int a2), (4, .int a4)]) hx hb dX11_checkSums_54 rfl hl (by decide) rfl (fun ls hl => ?_)
  refine lv_iinc (v := (a4 + 1)) (lv' := [(4, .int (a4 + 1)), (3, .int (s1 &&& s0)), (0, .ref a0), (1, .int a1), (2, .int a2)]) hx hb dX11_checkSums_55 hl (k := 4) rfl rfl (by decide) rfl (fun ls hl => ?_)
  refine lv_goto (tgt := 11) hx hb dX11_checkSums_58 (by decide) ?_
  refine W.widen (k := 0) (n := 0) (Nat.le_of_ble_eq_true rfl) (Nat.le_of_ble_eq_true rfl) ?_
  exact hk11 f a0 a1 a2 (s1 &&& s0) (a4 + 1) _ _ _ h Y (lv_sub hl [2, 3, 4, 1, 0] rfl)
set_option maxRecDepth 100000 in
set_option maxHeartbeats 4000000 in
theorem w_X11_checkSums_52 {p : Program} {l : Launch} {e : Env} {s : State} {m : MethodId} {args : Array Value} {below : List Frame} {meth : Method} {c : Code} {G : xG} {z : Nat} (X : xC G p m c s args RX11 cX11_checkSums 5) (hr : meth.sig.returnType = (some .int)) (hlocks : meth.locks = false) (hin : meth.name = yX11_checkSums.name) (rs : Int32 × xHp) (k11 : xHp → Nat → Int32 → Int32 → Int32 → Int32 → Option (Int32 × xHp)) (hk11 : ∀ (f : xHp) (a0 : Nat) (a1 : Int32) (a2 : Int32) (a3 : Int32) (a4 : Int32) (H : Heap) (locs : List Loc) (ls : Array Slot), k11 f a0 a1 a2 a3 a4 = some rs → xY G z f s H locs → lv_has ls 5 [(0, .ref a0), (1, .int a1), (2, .int a2), (3, .int a3), (4, .int a4)] → W p l e rm_X11_checkSums s m args below meth c H locs 0 0 (MQ below (xQ G (some (.int rs.1)) z rs.2) args s rm_X11_checkSums.cells rm_X11_checkSums.slots (xA G)) (F0 m 11 ls [])) (f : xHp) (a0 : Nat) (a1 : Int32) (a2 : Int32) (a4 : Int32) (s0 : Int32) (H : Heap) (locs : List Loc) (ls : Array Slot) (h : F_X11_checkSums_52 k11 f a0 a1 a2 a4 s0 = some rs) (Y : xY G z f s H locs) (hl : lv_has ls 5 [(0, .ref a0), (1, .int a1), (2, .int a2), (4, .int a4)]) : W p l e rm_X11_checkSums s m args below meth c H locs 0 0 (MQ below (xQ G (some (.int rs.1)) z rs.2) args s rm_X11_checkSums.cells rm_X11_checkSums.slots (xA G)) (F0 m 52 ls [.int s0]) := by
  have hx := X.1.1
  have hb := X.1.2.1
  unfold F_X11_checkSums_52 at h
  refine lv_iconst (v := 0) hx hb dX11_checkSums_52 (by decide) ?_
  refine W.widen (k := 0) (n := 0) (Nat.le_of_ble_eq_true rfl) (Nat.le_of_ble_eq_true rfl) ?_
  exact w_X11_checkSums_53 X hr hlocks hin rs k11 hk11  f a0 a1 a2 a4 (0 : Int32) s0 _ _ _ h Y (lv_sub hl [0, 1, 2, 3] rfl)
set_option maxRecDepth 100000 in
set_option maxHeartbeats 4000000 in
theorem w_X11_checkSums_11 {p : Program} {l : Launch} {e : Env} {s : State} {m : MethodId} {args : Array Value} {below : List Frame} {meth : Method} {c : Code} {G : xG} {z : Nat} (X : xC G p m c s args RX11 cX11_checkSums 5) (hr : meth.sig.returnType = (some .int)) (hlocks : meth.locks = false) (hin : meth.name = yX11_checkSums.name) (rs : Int32 × xHp) (k11 : xHp → Nat → Int32 → Int32 → Int32 → Int32 → Option (Int32 × xHp)) (hk11 : ∀ (f : xHp) (a0 : Nat) (a1 : Int32) (a2 : Int32) (a3 : Int32) (a4 : Int32) (H : Heap) (locs : List Loc) (ls : Array Slot), k11 f a0 a1 a2 a3 a4 = some rs → xY G z f s H locs → lv_has ls 5 [(0, .ref a0), (1, .int a1), (2, .int a2), (3, .int a3), (4, .int a4)] → W p l e rm_X11_checkSums s m args below meth c H locs 0 0 (MQ below (xQ G (some (.int rs.1)) z rs.2) args s rm_X11_checkSums.cells rm_X11_checkSums.slots (xA G)) (F0 m 11 ls [])) (f : xHp) (a0 : Nat) (a1 : Int32) (a2 : Int32) (a3 : Int32) (a4 : Int32) (H : Heap) (locs : List Loc) (ls : Array Slot) (h : F_X11_checkSums_11 k11 f a0 a1 a2 a3 a4 = some rs) (Y : xY G z f s H locs) (hl : lv_has ls 5 [(0, .ref a0), (1, .int a1), (2, .int a2), (3, .int a3), (4, .int a4)]) : W p l e rm_X11_checkSums s m args below meth c H locs 0 0 (MQ below (xQ G (some (.int rs.1)) z rs.2) args s rm_X11_checkSums.cells rm_X11_checkSums.slots (xA G)) (F0 m 11 ls []) := by
  have hx := X.1.1
  have hb := X.1.2.1
  unfold F_X11_checkSums_11 at h
  refine lv_iload hx hb dX11_checkSums_11 (lv_at hl 4 rfl) ?_
  refine lv_iload_n hx hb dX11_checkSums_13 rfl (lv_at hl 2 rfl) ?_
  refine lv_icmp_ge (tgt := 61) hx hb dX11_checkSums_14 (by decide) (fun c1 => ?_) (fun c1 => ?_)
  · replace h := Eq.trans (if_pos c1).symm h
    refine lv_aload_n hx hb dX11_checkSums_61 rfl (lv_at hl 0 rfl) ?_
    replace h := xb h
    obtain ⟨v2, ev2, h⟩ := h
    refine q_getN X Y fl_X11_41 ev2 dX11_checkSums_62 ?_
    refine lv_iload_n hx hb dX11_checkSums_65 rfl (lv_at hl 1 rfl) ?_
    replace h := xb h
    obtain ⟨v3, ev3, h⟩ := h
    refine q_iald X Y ev3 dX11_checkSums_66 ?_
    refine lv_iconst (v := 3) hx hb dX11_checkSums_67 (by decide) ?_
    refine lv_icmp_ne (tgt := 107) hx hb dX11_checkSums_68 (by decide) (fun c4 => ?_) (fun c4 => ?_)
    · replace h := Eq.trans (if_neg c4).symm h
      refine W.widen (k := 0) (n := 0) (Nat.le_of_ble_eq_true rfl) (Nat.le_of_ble_eq_true rfl) ?_
      exact w_X11_checkSums_107 X hr hlocks hin rs   f a0 a1 a3 _ _ _ h Y (lv_sub hl [0, 1, 3] rfl)
    · replace h := Eq.trans (if_pos c4).symm h
      refine lv_iload_n hx hb dX11_checkSums_71 rfl (lv_at hl 3 rfl) ?_
      refine lv_aload_n hx hb dX11_checkSums_72 rfl (lv_at hl 0 rfl) ?_
      refine lv_iload_n hx hb dX11_checkSums_73 rfl (lv_at hl 1 rfl) ?_
      refine lv_iconst (v := 5) hx hb dX11_checkSums_74 (by decide) ?_
      refine lv_iload_n hx hb dX11_checkSums_75 rfl (lv_at hl 2 rfl) ?_
      refine lv_imul hx hb dX11_checkSums_76 ?_
      by_cases c5 : hKd f a0 = some 10
      · replace h := Eq.trans (if_pos c5).symm h
        replace h := xb h
        obtain ⟨q6, eq6, h⟩ := h
        refine q_callV X Y hl.1 (rest := [.int a3]) (As := [.int a1, .int ((5 : Int32) * a2)]) (c_X11_proofNumber l G z f a0 a1 ((5 : Int32) * a2) _ eq6) cd_X11_proofNumber lv_X11_239_10 c5 ⟨(Nat.le_of_ble_eq_true rfl), (Nat.le_of_ble_eq_true rfl)⟩ ⟨(Nat.le_of_ble_eq_true rfl), (Nat.le_of_ble_eq_true rfl)⟩ rfl rfl (Nat.le_of_ble_eq_true rfl) dX11_checkSums_77 (fun H locs Y => ?_)
        refine W.eq (g2 := F0 m 80 ls [.long q6, .int a3]) rfl ?_
        refine lv_lconst (v := 0) hx hb dX11_checkSums_80 (by decide) ?_
        refine q_lcmp_le (tgt := 104) hx hb dX11_checkSums_81 dX11_checkSums_82 (by decide) (fun c7 => ?_) (fun c7 => ?_)
        · replace h := Eq.trans (if_pos c7).symm h
          refine W.widen (k := 0) (n := 0) (Nat.le_of_ble_eq_true rfl) (Nat.le_of_ble_eq_true rfl) ?_
          exact w_X11_checkSums_104 X hr hlocks hin rs   f a0 a1 a3 _ _ _ h Y (lv_sub hl [0, 1] rfl)
        · replace h := Eq.trans (if_neg c7).symm h
          refine lv_aload_n hx hb dX11_checkSums_85 rfl (lv_at hl 0 rfl) ?_
          refine lv_iload_n hx hb dX11_checkSums_86 rfl (lv_at hl 1 rfl) ?_
          refine lv_iconst (v := 5) hx hb dX11_checkSums_87 (by decide) ?_
          refine lv_iload_n hx hb dX11_checkSums_88 rfl (lv_at hl 2 rfl) ?_
          refine lv_imul hx hb dX11_checkSums_89 ?_
          refine lv_iconst (v := 1) hx hb dX11_checkSums_90 (by decide) ?_
          refine lv_iadd hx hb dX11_checkSums_91 ?_
          by_cases c8 : hKd f a0 = some 10
          · replace h := Eq.trans (if_pos c8).symm h
            replace h := xb h
            obtain ⟨q9, eq9, h⟩ := h
            refine q_callV X Y hl.1 (rest := [.int a3]) (As := [.int a1, .int (((5 : Int32) * a2) + (1 : Int32))]) (c_X11_proofNumber l G z f a0 a1 (((5 : Int32) * a2) + (1 : Int32)) _ eq9) cd_X11_proofNumber lv_X11_239_10 c8 ⟨(Nat.le_of_ble_eq_true rfl), (Nat.le_of_ble_eq_true rfl)⟩ ⟨(Nat.le_of_ble_eq_true rfl), (Nat.le_of_ble_eq_true rfl)⟩ rfl rfl (Nat.le_of_ble_eq_true rfl) dX11_checkSums_92 (fun H locs Y => ?_)
            refine W.eq (g2 := F0 m 95 ls [.long q9, .int a3]) rfl ?_
            refine lv_lconst (v := 0) hx hb dX11_checkSums_95 (by decide) ?_
            refine q_lcmp_le (tgt := 104) hx hb dX11_checkSums_96 dX11_checkSums_97 (by decide) (fun c10 => ?_) (fun c10 => ?_)
            · replace h := Eq.trans (if_pos c10).symm h
              refine W.widen (k := 0) (n := 0) (Nat.le_of_ble_eq_true rfl) (Nat.le_of_ble_eq_true rfl) ?_
              exact w_X11_checkSums_104 X hr hlocks hin rs   f a0 a1 a3 _ _ _ h Y (lv_sub hl [0, 1] rfl)
            · replace h := Eq.trans (if_neg c10).symm h
              refine lv_iconst (v := 1) hx hb dX11_checkSums_100 (by decide) ?_
              refine lv_goto (tgt := 105) hx hb dX11_checkSums_101 (by decide) ?_
              refine W.widen (k := 0) (n := 0) (Nat.le_of_ble_eq_true rfl) (Nat.le_of_ble_eq_true rfl) ?_
              exact w_X11_checkSums_105 X hr hlocks hin rs   f a0 a1 (1 : Int32) a3 _ _ _ h Y (lv_sub hl [0, 1] rfl)
          replace h := Eq.trans (if_neg c8).symm h
          cases h
      replace h := Eq.trans (if_neg c5).symm h
      cases h
  · replace h := Eq.trans (if_neg c1).symm h
    refine lv_iload_n hx hb dX11_checkSums_17 rfl (lv_at hl 3 rfl) ?_
    refine lv_aload_n hx hb dX11_checkSums_18 rfl (lv_at hl 0 rfl) ?_
    refine lv_iload_n hx hb dX11_checkSums_19 rfl (lv_at hl 1 rfl) ?_
    refine lv_iconst (v := 5) hx hb dX11_checkSums_20 (by decide) ?_
    refine lv_iload hx hb dX11_checkSums_21 (lv_at hl 4 rfl) ?_
    refine lv_imul hx hb dX11_checkSums_23 ?_
    by_cases c11 : hKd f a0 = some 10
    · replace h := Eq.trans (if_pos c11).symm h
      replace h := xb h
      obtain ⟨q12, eq12, h⟩ := h
      refine q_callV X Y hl.1 (rest := [.int a3]) (As := [.int a1, .int ((5 : Int32) * a4)]) (c_X11_proofNumber l G z f a0 a1 ((5 : Int32) * a4) _ eq12) cd_X11_proofNumber lv_X11_239_10 c11 ⟨(Nat.le_of_ble_eq_true rfl), (Nat.le_of_ble_eq_true rfl)⟩ ⟨(Nat.le_of_ble_eq_true rfl), (Nat.le_of_ble_eq_true rfl)⟩ rfl rfl (Nat.le_of_ble_eq_true rfl) dX11_checkSums_24 (fun H locs Y => ?_)
      refine W.eq (g2 := F0 m 27 ls [.long q12, .int a3]) rfl ?_
      refine lv_lconst (v := 0) hx hb dX11_checkSums_27 (by decide) ?_
      refine q_lcmp_le (tgt := 52) hx hb dX11_checkSums_28 dX11_checkSums_29 (by decide) (fun c13 => ?_) (fun c13 => ?_)
      · replace h := Eq.trans (if_pos c13).symm h
        refine W.widen (k := 0) (n := 0) (Nat.le_of_ble_eq_true rfl) (Nat.le_of_ble_eq_true rfl) ?_
        exact w_X11_checkSums_52 X hr hlocks hin rs k11 hk11  f a0 a1 a2 a4 a3 _ _ _ h Y (lv_sub hl [0, 1, 2, 4] rfl)
      · replace h := Eq.trans (if_neg c13).symm h
        refine lv_aload_n hx hb dX11_checkSums_32 rfl (lv_at hl 0 rfl) ?_
        refine lv_iload_n hx hb dX11_checkSums_33 rfl (lv_at hl 1 rfl) ?_
        refine lv_iconst (v := 5) hx hb dX11_checkSums_34 (by decide) ?_
        refine lv_iload hx hb dX11_checkSums_35 (lv_at hl 4 rfl) ?_
        refine lv_imul hx hb dX11_checkSums_37 ?_
        refine lv_iconst (v := 1) hx hb dX11_checkSums_38 (by decide) ?_
        refine lv_iadd hx hb dX11_checkSums_39 ?_
        by_cases c14 : hKd f a0 = some 10
        · replace h := Eq.trans (if_pos c14).symm h
          replace h := xb h
          obtain ⟨q15, eq15, h⟩ := h
          refine q_callV X Y hl.1 (rest := [.int a3]) (As := [.int a1, .int (((5 : Int32) * a4) + (1 : Int32))]) (c_X11_proofNumber l G z f a0 a1 (((5 : Int32) * a4) + (1 : Int32)) _ eq15) cd_X11_proofNumber lv_X11_239_10 c14 ⟨(Nat.le_of_ble_eq_true rfl), (Nat.le_of_ble_eq_true rfl)⟩ ⟨(Nat.le_of_ble_eq_true rfl), (Nat.le_of_ble_eq_true rfl)⟩ rfl rfl (Nat.le_of_ble_eq_true rfl) dX11_checkSums_40 (fun H locs Y => ?_)
          refine W.eq (g2 := F0 m 43 ls [.long q15, .int a3]) rfl ?_
          refine lv_lconst (v := 0) hx hb dX11_checkSums_43 (by decide) ?_
          refine q_lcmp_le (tgt := 52) hx hb dX11_checkSums_44 dX11_checkSums_45 (by decide) (fun c16 => ?_) (fun c16 => ?_)
          · replace h := Eq.trans (if_pos c16).symm h
            refine W.widen (k := 0) (n := 0) (Nat.le_of_ble_eq_true rfl) (Nat.le_of_ble_eq_true rfl) ?_
            exact w_X11_checkSums_52 X hr hlocks hin rs k11 hk11  f a0 a1 a2 a4 a3 _ _ _ h Y (lv_sub hl [0, 1, 2, 4] rfl)
          · replace h := Eq.trans (if_neg c16).symm h
            refine lv_iconst (v := 1) hx hb dX11_checkSums_48 (by decide) ?_
            refine lv_goto (tgt := 53) hx hb dX11_checkSums_49 (by decide) ?_
            refine W.widen (k := 0) (n := 0) (Nat.le_of_ble_eq_true rfl) (Nat.le_of_ble_eq_true rfl) ?_
            exact w_X11_checkSums_53 X hr hlocks hin rs k11 hk11  f a0 a1 a2 a4 (1 : Int32) a3 _ _ _ h Y (lv_sub hl [0, 1, 2, 4] rfl)
        replace h := Eq.trans (if_neg c14).symm h
        cases h
    replace h := Eq.trans (if_neg c11).symm h
    cases h
set_option maxRecDepth 100000 in
set_option maxHeartbeats 4000000 in
theorem lw_X11_checkSums_11 {p : Program} {l : Launch} {e : Env} {s : State} {m : MethodId} {args : Array Value} {below : List Frame} {meth : Method} {c : Code} {G : xG} {z : Nat} (X : xC G p m c s args RX11 cX11_checkSums 5) (hr : meth.sig.returnType = (some .int)) (hlocks : meth.locks = false) (hin : meth.name = yX11_checkSums.name) (rs : Int32 × xHp)  : ∀ (n : Nat) (f : xHp) (a0 : Nat) (a1 : Int32) (a2 : Int32) (a3 : Int32) (a4 : Int32) (H : Heap) (locs : List Loc) (ls : Array Slot), L_X11_checkSums_11  n f a0 a1 a2 a3 a4 = some rs → xY G z f s H locs → lv_has ls 5 [(0, .ref a0), (1, .int a1), (2, .int a2), (3, .int a3), (4, .int a4)] → W p l e rm_X11_checkSums s m args below meth c H locs 0 0 (MQ below (xQ G (some (.int rs.1)) z rs.2) args s rm_X11_checkSums.cells rm_X11_checkSums.slots (xA G)) (F0 m 11 ls []) := by
  intro n
  induction n with
  | zero => intro f a0 a1 a2 a3 a4 H locs ls h Y hl; cases h
  | succ n ih => intro f a0 a1 a2 a3 a4 H locs ls h Y hl; exact w_X11_checkSums_11 X hr hlocks hin rs _ ih f a0 a1 a2 a3 a4 _ _ _ h Y hl
set_option maxRecDepth 100000 in
set_option maxHeartbeats 4000000 in
theorem c_X11_checkSums (l : Launch) (G : xG) (z : Nat) (f : xHp) (h0 : Nat) (p1 : Int32) (rs : Int32 × xHp) (h : F_X11_checkSums f h0 p1 = some rs) : xM G l yX11_checkSums cX11_checkSums 5 (some .int) rm_X11_checkSums [.ref h0, .int p1] z f (some (.int rs.1)) z rs.2 := by
  refine xM_of (by decide) (Nat.le_of_ble_eq_true rfl) ?_
  intro p e s m below meth c ls X hr hlocks hin Y hl
  have hl : lv_has ls 5 [(0, .ref h0), (1, .int p1)] := hl
  have hx := X.1.1
  have hb := X.1.2.1
  unfold F_X11_checkSums at h
  refine lv_aload_n hx hb dX11_checkSums_0 rfl (lv_at hl 0 rfl) ?_
  refine lv_iload_n hx hb dX11_checkSums_1 rfl (lv_at hl 1 rfl) ?_
  by_cases c1 : hKd f h0 = some 10
  · replace h := Eq.trans (if_pos c1).symm h
    replace h := xb h
    obtain ⟨q2, eq2, h⟩ := h
    refine q_callV X Y hl.1 (rest := []) (As := [.int p1]) (c_X11_squaresIn l G z f h0 p1 _ eq2) cd_X11_squaresIn lv_X11_230_10 c1 ⟨(Nat.le_of_ble_eq_true rfl), (Nat.le_of_ble_eq_true rfl)⟩ ⟨(Nat.le_of_ble_eq_true rfl), (Nat.le_of_ble_eq_true rfl)⟩ rfl rfl (Nat.le_of_ble_eq_true rfl) dX11_checkSums_2 (fun H locs Y => ?_)
    refine W.eq (g2 := F0 m 5 ls [.int q2]) rfl ?_
    refine lv_istore_n (lv' := [(2, .int q2), (0, .ref h0), (1, .int p1)]) hx hb dX11_checkSums_5 rfl hl (by decide) rfl (fun ls hl => ?_)
    refine lv_iconst (v := 1) hx hb dX11_checkSums_6 (by decide) ?_
    refine lv_istore_n (lv' := [(3, .int (1 : Int32)), (2, .int q2), (0, .ref h0), (1, .int p1)]) hx hb dX11_checkSums_7 rfl hl (by decide) rfl (fun ls hl => ?_)
    refine lv_iconst (v := 0) hx hb dX11_checkSums_8 (by decide) ?_
    refine lv_istore (lv' := [(4, .int (0 : Int32)), (3, .int (1 : Int32)), (2, .int q2), (0, .ref h0), (1, .int p1)]) hx hb dX11_checkSums_9 hl (by decide) rfl (fun ls hl => ?_)
    refine W.widen (k := 0) (n := 0) (Nat.le_of_ble_eq_true rfl) (Nat.le_of_ble_eq_true rfl) ?_
    exact lw_X11_checkSums_11 X hr hlocks hin rs  xfuel f h0 p1 q2 (1 : Int32) (0 : Int32) _ _ _ h Y (lv_sub hl [3, 4, 2, 1, 0] rfl)
  replace h := Eq.trans (if_neg c1).symm h
  cases h

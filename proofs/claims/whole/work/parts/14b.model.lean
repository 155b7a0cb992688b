/-! NeverBelowModel.times(II)I -/
abbrev rm_X11_times : Room := { frames := 2, cells := 0, slots := 0, locals := 47 }
def F_X11_times_196 (k196 : xHp → Nat → Int32 → Option (Int32 × xHp)) (f : xHp) (a0 : Nat) (a4 : Int32) : Option (Int32 × xHp) := if (9 : Int32) ≤ a4 then (if hKd f a0 = some 10 then (Option.bind (F_X11_becomes f a0 (9 : Int32)) fun q3 => some (q3.1, q3.2)) else none) else (Option.bind (hN f a0 [(10, 7)]) fun v4 => Option.bind (hN f a0 [(10, 7)]) fun v5 => Option.bind (hJld f v5 (((5 : Int32) * (a4 / (3 : Int32))) + (a4 - a4 / (3 : Int32) * (3 : Int32)))) fun v6 => Option.bind (hJst f v4 a4 v6) fun f7 => k196 f7 a0 (a4 + 1))
def L_X11_times_196  : Nat → xHp → Nat → Int32 → Option (Int32 × xHp)
  | 0, _, _, _ => none
  | n + 1, f, a0, a4 => F_X11_times_196 (L_X11_times_196  n) f a0 a4
def F_X11_times_178 (k98 : xHp → Nat → Int32 → Int32 → Option (Int32 × xHp)) (f : xHp) (a0 : Nat) (a4 : Int32) (s0 : Int32) (s1 : Int32) : Option (Int32 × xHp) := k98 f a0 (s1 ||| s0) (a4 + 1)
def F_X11_times_177 (k98 : xHp → Nat → Int32 → Int32 → Option (Int32 × xHp)) (f : xHp) (a0 : Nat) (a4 : Int32) (s0 : Int32) : Option (Int32 × xHp) := F_X11_times_178 k98 f a0 a4 (0 : Int32) s0
def F_X11_times_155 (k98 : xHp → Nat → Int32 → Int32 → Option (Int32 × xHp)) (f : xHp) (a0 : Nat) (a3 : Int32) (a4 : Int32) (a5 : Int32) : Option (Int32 × xHp) := if a5 = 0 then (F_X11_times_177 k98 f a0 a4 a3) else (Option.bind (hN f a0 [(10, 7)]) fun v2 => Option.bind (hJld f v2 a4) fun v3 => if v3 = (0 : Int64) then (F_X11_times_177 k98 f a0 a4 a3) else (F_X11_times_178 k98 f a0 a4 (1 : Int32) a3))
def F_X11_times_126 (k98 : xHp → Nat → Int32 → Int32 → Option (Int32 × xHp)) (f : xHp) (a0 : Nat) (a3 : Int32) (a4 : Int32) (s0 : Int32) : Option (Int32 × xHp) := if s0 = 0 then (Option.bind (hN f a0 [(10, 7)]) fun v2 => Option.bind (hJld f v2 a4) fun v3 => Option.bind (F_X11_within f v3 (-1000 : Int64) (1000 : Int64)) fun q4 => if q4 = 0 then (some ((-2 : Int32), f)) else (F_X11_times_155 k98 f a0 a3 a4 s0)) else (F_X11_times_155 k98 f a0 a3 a4 s0)
def F_X11_times_121 (k98 : xHp → Nat → Int32 → Int32 → Option (Int32 × xHp)) (f : xHp) (a0 : Nat) (a3 : Int32) (a4 : Int32) : Option (Int32 × xHp) := F_X11_times_126 k98 f a0 a3 a4 (1 : Int32)
def F_X11_times_98 (k98 : xHp → Nat → Int32 → Int32 → Option (Int32 × xHp)) (f : xHp) (a0 : Nat) (a3 : Int32) (a4 : Int32) : Option (Int32 × xHp) := if (25 : Int32) ≤ a4 then (if a3 = 0 then (L_X11_times_196 xfuel f a0 (0 : Int32)) else (some ((-3 : Int32), f))) else (if (2 : Int32) < (a4 / (5 : Int32)) then (F_X11_times_121 k98 f a0 a3 a4) else (if (a4 - a4 / (5 : Int32) * (5 : Int32)) ≤ (2 : Int32) then (F_X11_times_126 k98 f a0 a3 a4 (0 : Int32)) else (F_X11_times_121 k98 f a0 a3 a4)))
def L_X11_times_98  : Nat → xHp → Nat → Int32 → Int32 → Option (Int32 × xHp)
  | 0, _, _, _, _ => none
  | n + 1, f, a0, a3, a4 => F_X11_times_98 (L_X11_times_98  n) f a0 a3 a4
def F_X11_times_33 (k24 : xHp → Nat → Int32 → Int32 → Int32 → Option (Int32 × xHp)) (k33 : xHp → Nat → Int32 → Int32 → Int32 → Int32 → Option (Int32 × xHp)) (f : xHp) (a0 : Nat) (a1 : Int32) (a2 : Int32) (a3 : Int32) (a4 : Int32) : Option (Int32 × xHp) := if (9 : Int32) ≤ a4 then (k24 f a0 a1 a2 (a3 + 1)) else (Option.bind (hN f a0 [(10, 7)]) fun v2 => Option.bind (hJld f v2 ((((5 : Int32) * ((a3 / (3 : Int32)) + (a4 / (3 : Int32)))) + (a3 - a3 / (3 : Int32) * (3 : Int32))) + (a4 - a4 / (3 : Int32) * (3 : Int32)))) fun v3 => if hKd f a0 = some 10 then (Option.bind (F_X11_termOf f a0 a1 a3) fun q5 => if hKd f a0 = some 10 then (Option.bind (F_X11_termOf f a0 a2 a4) fun q7 => Option.bind (hJst f v2 ((((5 : Int32) * ((a3 / (3 : Int32)) + (a4 / (3 : Int32)))) + (a3 - a3 / (3 : Int32) * (3 : Int32))) + (a4 - a4 / (3 : Int32) * (3 : Int32))) (v3 + (q5 * q7))) fun f8 => k33 f8 a0 a1 a2 a3 (a4 + 1)) else none) else none)
def L_X11_times_33 (k24 : xHp → Nat → Int32 → Int32 → Int32 → Option (Int32 × xHp)) : Nat → xHp → Nat → Int32 → Int32 → Int32 → Int32 → Option (Int32 × xHp)
  | 0, _, _, _, _, _, _ => none
  | n + 1, f, a0, a1, a2, a3, a4 => F_X11_times_33 k24 (L_X11_times_33 k24 n) f a0 a1 a2 a3 a4
def F_X11_times_24 (k24 : xHp → Nat → Int32 → Int32 → Int32 → Option (Int32 × xHp)) (f : xHp) (a0 : Nat) (a1 : Int32) (a2 : Int32) (a3 : Int32) : Option (Int32 × xHp) := if (9 : Int32) ≤ a3 then (L_X11_times_98 xfuel f a0 (0 : Int32) (0 : Int32)) else (L_X11_times_33 k24 xfuel f a0 a1 a2 a3 (0 : Int32))
def L_X11_times_24  : Nat → xHp → Nat → Int32 → Int32 → Int32 → Option (Int32 × xHp)
  | 0, _, _, _, _, _ => none
  | n + 1, f, a0, a1, a2, a3 => F_X11_times_24 (L_X11_times_24  n) f a0 a1 a2 a3
def F_X11_times (f : xHp) (h0 : Nat) (p1 : Int32) (p2 : Int32) : Option (Int32 × xHp) := if hKd f h0 = some 10 then (Option.bind (F_X11_isPoly f h0 p1) fun q2 => if q2 = 0 then (some ((-1 : Int32), f)) else (if hKd f h0 = some 10 then (Option.bind (F_X11_isPoly f h0 p2) fun q5 => if q5 = 0 then (some ((-1 : Int32), f)) else (if hKd f h0 = some 10 then (Option.bind (F_X11_clearDraft f h0) fun q8 => L_X11_times_24 xfuel q8 h0 p1 p2 (0 : Int32)) else none)) else none)) else none
set_option maxRecDepth 100000 in
set_option maxHeartbeats 4000000 in
theorem w_X11_times_196 {p : Program} {l : Launch} {e : Env} {s : State} {m : MethodId} {args : Array Value} {below : List Frame} {meth : Method} {c : Code} {G : xG} {z : Nat} (X : xC G p m c s args RX11 cX11_times 6) (hr : meth.sig.returnType = (some .int)) (hlocks : meth.locks = false) (hin : meth.name = yX11_times.name) (rs : Int32 × xHp) (k196 : xHp → Nat → Int32 → Option (Int32 × xHp)) (hk196 : ∀ (f : xHp) (a0 : Nat) (a4 : Int32) (H : Heap) (locs : List Loc) (ls : Array Slot), k196 f a0 a4 = some rs → xY G z f s H locs → lv_has ls 6 [(0, .ref a0), (4, .int a4)] → W p l e rm_X11_times s m args below meth c H locs 0 0 (MQ below (xQ G (some (.int rs.1)) z rs.2) args s rm_X11_times.cells rm_X11_times.slots (xA G)) (F0 m 196 ls [])) (f : xHp) (a0 : Nat) (a4 : Int32) (H : Heap) (locs : List Loc) (ls : Array Slot) (h : F_X11_times_196 k196 f a0 a4 = some rs) (Y : xY G z f s H locs) (hl : lv_has ls 6 [(0, .ref a0), (4, .int a4)]) : W p l e rm_X11_times s m args below meth c H locs 0 0 (MQ below (xQ G (some (.int rs.1)) z rs.2) args s rm_X11_times.cells rm_X11_times.slots (xA G)) (F0 m 196 ls []) := by
  have hx := X.1.1
  have hb := X.1.2.1
  unfold F_X11_times_196 at h
  refine lv_iload hx hb dX11_times_196 (lv_at hl 1 rfl) ?_
  refine lv_bipush (v := 9) hx hb dX11_times_198 (by decide) ?_
  refine lv_icmp_ge (tgt := 232) hx hb dX11_times_200 (by decide) (fun c1 => ?_) (fun c1 => ?_)
  · replace h := Eq.trans (if_pos c1).symm h
    refine lv_aload_n hx hb dX11_times_232 rfl (lv_at hl 0 rfl) ?_
    refine lv_bipush (v := 9) hx hb dX11_times_233 (by decide) ?_
    by_cases c2 : hKd f a0 = some 10
    · replace h := Eq.trans (if_pos c2).symm h
      replace h := xb h
      obtain ⟨q3, eq3, h⟩ := h
      refine q_callV X Y hl.1 (rest := []) (As := [.int (9 : Int32)]) (c_X11_becomes l G z f a0 (9 : Int32) _ eq3) cd_X11_becomes lv_X11_106_10 c2 ⟨(Nat.le_of_ble_eq_true rfl), (Nat.le_of_ble_eq_true rfl)⟩ ⟨(Nat.le_of_ble_eq_true rfl), (Nat.le_of_ble_eq_true rfl)⟩ rfl rfl (Nat.le_of_ble_eq_true rfl) dX11_times_235 (fun H locs Y => ?_)
      refine W.eq (g2 := F0 m 238 ls [.int q3.1]) rfl ?_
      replace h := Option.some.inj h
      subst h
      exact q_reti X Y hr hlocks (Nat.le_of_ble_eq_true rfl) (Nat.le_of_ble_eq_true rfl) dX11_times_238
    replace h := Eq.trans (if_neg c2).symm h
    cases h
  · replace h := Eq.trans (if_neg c1).symm h
    refine lv_aload_n hx hb dX11_times_203 rfl (lv_at hl 0 rfl) ?_
    replace h := xb h
    obtain ⟨v4, ev4, h⟩ := h
    refine q_getN X Y fl_X11_23 ev4 dX11_times_204 ?_
    refine lv_iload hx hb dX11_times_207 (lv_at hl 1 rfl) ?_
    refine lv_aload_n hx hb dX11_times_209 rfl (lv_at hl 0 rfl) ?_
    replace h := xb h
    obtain ⟨v5, ev5, h⟩ := h
    refine q_getN X Y fl_X11_23 ev5 dX11_times_210 ?_
    refine lv_iconst (v := 5) hx hb dX11_times_213 (by decide) ?_
    refine lv_iload hx hb dX11_times_214 (lv_at hl 1 rfl) ?_
    refine lv_iconst (v := 3) hx hb dX11_times_216 (by decide) ?_
    refine lv_idiv hx hb dX11_times_217 (by decide) ?_
    refine lv_imul hx hb dX11_times_218 ?_
    refine lv_iload hx hb dX11_times_219 (lv_at hl 1 rfl) ?_
    refine lv_iconst (v := 3) hx hb dX11_times_221 (by decide) ?_
    refine lv_irem hx hb dX11_times_222 (by decide) ?_
    refine lv_iadd hx hb dX11_times_223 ?_
    replace h := xb h
    obtain ⟨v6, ev6, h⟩ := h
    refine q_lald X Y ev6 dX11_times_224 ?_
    replace h := xb h
    obtain ⟨f7, ef7, h⟩ := h
    refine q_last X Y ef7 dX11_times_225 (fun H locs Y => ?_)
    refine lv_iinc (v := (a4 + 1)) (lv' := [(4, .int (a4 + 1)), (0, .ref a0)]) hx hb dX11_times_226 hl (k := 1) rfl rfl (by decide) rfl (fun ls hl => ?_)
    refine lv_goto (tgt := 196) hx hb dX11_times_229 (by decide) ?_
    refine W.widen (k := 0) (n := 0) (Nat.le_of_ble_eq_true rfl) (Nat.le_of_ble_eq_true rfl) ?_
    exact hk196 f7 a0 (a4 + 1) _ _ _ h Y (lv_sub hl [1, 0] rfl)
set_option maxRecDepth 100000 in
set_option maxHeartbeats 4000000 in
theorem lw_X11_times_196 {p : Program} {l : Launch} {e : Env} {s : State} {m : MethodId} {args : Array Value} {below : List Frame} {meth : Method} {c : Code} {G : xG} {z : Nat} (X : xC G p m c s args RX11 cX11_times 6) (hr : meth.sig.returnType = (some .int)) (hlocks : meth.locks = false) (hin : meth.name = yX11_times.name) (rs : Int32 × xHp)  : ∀ (n : Nat) (f : xHp) (a0 : Nat) (a4 : Int32) (H : Heap) (locs : List Loc) (ls : Array Slot), L_X11_times_196  n f a0 a4 = some rs → xY G z f s H locs → lv_has ls 6 [(0, .ref a0), (4, .int a4)] → W p l e rm_X11_times s m args below meth c H locs 0 0 (MQ below (xQ G (some (.int rs.1)) z rs.2) args s rm_X11_times.cells rm_X11_times.slots (xA G)) (F0 m 196 ls []) := by
  intro n
  induction n with
  | zero => intro f a0 a4 H locs ls h Y hl; cases h
  | succ n ih => intro f a0 a4 H locs ls h Y hl; exact w_X11_times_196 X hr hlocks hin rs _ ih f a0 a4 _ _ _ h Y hl
set_option maxRecDepth 100000 in
set_option maxHeartbeats 4000000 in
theorem w_X11_times_178 {p : Program} {l : Launch} {e : Env} {s : State} {m : MethodId} {args : Array Value} {below : List Frame} {meth : Method} {c : Code} {G : xG} {z : Nat} (X : xC G p m c s args RX11 cX11_times 6) (hr : meth.sig.returnType = (some .int)) (hlocks : meth.locks = false) (hin : meth.name = yX11_times.name) (rs : Int32 × xHp) (k98 : xHp → Nat → Int32 → Int32 → Option (Int32 × xHp)) (hk98 : ∀ (f : xHp) (a0 : Nat) (a3 : Int32) (a4 : Int32) (H : Heap) (locs : List Loc) (ls : Array Slot), k98 f a0 a3 a4 = some rs → xY G z f s H locs → lv_has ls 6 [(0, .ref a0), (3, .int a3), (4, .int a4)] → W p l e rm_X11_times s m args below meth c H locs 0 0 (MQ below (xQ G (some (.int rs.1)) z rs.2) args s rm_X11_times.cells rm_X11_times.slots (xA G)) (F0 m 98 ls [])) (f : xHp) (a0 : Nat) (a4 : Int32) (s0 : Int32) (s1 : Int32) (H : Heap) (locs : List Loc) (ls : Array Slot) (h : F_X11_times_178 k98 f a0 a4 s0 s1 = some rs) (Y : xY G z f s H locs) (hl : lv_has ls 6 [(0, .ref a0), (4, .int a4)]) : W p l e rm_X11_times s m args below meth c H locs 0 0 (MQ below (xQ G (some (.int rs.1)) z rs.2) args s rm_X11_times.cells rm_X11_times.slots (xA G)) (F0 m 178 ls [.int s0, .int s1]) := by
  have hx := X.1.1
  have hb := X.1.2.1
  unfold F_X11_times_178 at h
  refine lv_ior hx hb dX11_times_178 ?_
  refine lv_istore_n (lv' := [(3, .int (s1 ||| s0)), (0, .ref a0), (4, .int a4)]) hx hb dX11_times_179 rfl hl (by decide) rfl (fun ls hl => ?_)
  refine lv_iinc (v := (a4 + 1)) (lv' := [(4, .int (a4 + 1)), (3, .int (s1 ||| s0)), (0, .ref a0)]) hx hb dX11_times_180 hl (k := 2) rfl rfl (by decide) rfl (fun ls hl => ?_)
  refine lv_goto (tgt := 98) hx hb dX11_times_183 (by decide) ?_
  refine W.widen (k := 0) (n := 0) (Nat.le_of_ble_eq_true rfl) (Nat.le_of_ble_eq_true rfl) ?_
  exact hk98 f a0 (s1 ||| s0) (a4 + 1) _ _ _ h Y (lv_sub hl [2, 1, 0] rfl)
set_option maxRecDepth 100000 in
set_option maxHeartbeats 4000000 in
theorem w_X11_times_177 {p : Program} {l : Launch} {e : Env} {s : State} {m : MethodId} {args : Array Value} {below : List Frame} {meth : Method} {c : Code} {G : xG} {z : Nat} (X : xC G p m c s args RX11 cX11_times 6) (hr : meth.sig.returnType = (some .int)) (hlocks : meth.locks = false) (hin : meth.name = yX11_times.name) (rs : Int32 × xHp) (k98 : xHp → Nat → Int32 → Int32 → Option (Int32 × xHp)) (hk98 : ∀ (f : xHp) (a0 : Nat) (a3 : Int32) (a4 : Int32) (H : Heap) (locs : List Loc) (ls : Array Slot), k98 f a0 a3 a4 = some rs → xY G z f s H locs → lv_has ls 6 [(0, .ref a0), (3, .int a3), (4, .int a4)] → W p l e rm_X11_times s m args below meth c H locs 0 0 (MQ below (xQ G (some (.int rs.1)) z rs.2) args s rm_X11_times.cells rm_X11_times.slots (xA G)) (F0 m 98 ls [])) (f : xHp) (a0 : Nat) (a4 : Int32) (s0 : Int32) (H : Heap) (locs : List Loc) (ls : Array Slot) (h : F_X11_times_177 k98 f a0 a4 s0 = some rs) (Y : xY G z f s H locs) (hl : lv_has ls 6 [(0, .ref a0), (4, .int a4)]) : W p l e rm_X11_times s m args below meth c H locs 0 0 (MQ below (xQ G (some (.int rs.1)) z rs.2) args s rm_X11_times.cells rm_X11_times.slots (xA G)) (F0 m 177 ls [.int s0]) := by
  have hx := X.1.1
  have hb := X.1.2.1
  unfold F_X11_times_177 at h
  refine lv_iconst (v := 0) hx hb dX11_times_177 (by decide) ?_
  refine W.widen (k := 0) (n := 0) (Nat.le_of_ble_eq_true rfl) (Nat.le_of_ble_eq_true rfl) ?_
  exact w_X11_times_178 X hr hlocks hin rs k98 hk98  f a0 a4 (0 : Int32) s0 _ _ _ h Y (lv_sub hl [0, 1] rfl)
set_option maxRecDepth 100000 in
set_option maxHeartbeats 4000000 in
theorem w_X11_times_155 {p : Program} {l : Launch} {e : Env} {s : State} {m : MethodId} {args : Array Value} {below : List Frame} {meth : Method} {c : Code} {G : xG} {z : Nat} (X : xC G p m c s args RX11 cX11_times 6) (hr : meth.sig.returnType = (some .int)) (hlocks : meth.locks = false) (hin : meth.name = yX11_times.name) (rs : Int32 × xHp) (k98 : xHp → Nat → Int32 → Int32 → Option (Int32 × xHp)) (hk98 : ∀ (f : xHp) (a0 : Nat) (a3 : Int32) (a4 : Int32) (H : Heap) (locs : List Loc) (ls : Array Slot), k98 f a0 a3 a4 = some rs → xY G z f s H locs → lv_has ls 6 [(0, .ref a0), (3, .int a3), (4, .int a4)] → W p l e rm_X11_times s m args below meth c H locs 0 0 (MQ below (xQ G (some (.int rs.1)) z rs.2) args s rm_X11_times.cells rm_X11_times.slots (xA G)) (F0 m 98 ls [])) (f : xHp) (a0 : Nat) (a3 : Int32) (a4 : Int32) (a5 : Int32) (H : Heap) (locs : List Loc) (ls : Array Slot) (h : F_X11_times_155 k98 f a0 a3 a4 a5 = some rs) (Y : xY G z f s H locs) (hl : lv_has ls 6 [(0, .ref a0), (3, .int a3), (4, .int a4), (5, .int a5)]) : W p l e rm_X11_times s m args below meth c H locs 0 0 (MQ below (xQ G (some (.int rs.1)) z rs.2) args s rm_X11_times.cells rm_X11_times.slots (xA G)) (F0 m 155 ls []) := by
  have hx := X.1.1
  have hb := X.1.2.1
  unfold F_X11_times_155 at h
  refine lv_iload_n hx hb dX11_times_155 rfl (lv_at hl 1 rfl) ?_
  refine lv_iload hx hb dX11_times_156 (lv_at hl 3 rfl) ?_
  refine lv_if_eq (tgt := 177) hx hb dX11_times_158 (by decide) (fun c1 => ?_) (fun c1 => ?_)
  · replace h := Eq.trans (if_pos c1).symm h
    refine W.widen (k := 0) (n := 0) (Nat.le_of_ble_eq_true rfl) (Nat.le_of_ble_eq_true rfl) ?_
    exact w_X11_times_177 X hr hlocks hin rs k98 hk98  f a0 a4 a3 _ _ _ h Y (lv_sub hl [0, 2] rfl)
  · replace h := Eq.trans (if_neg c1).symm h
    refine lv_aload_n hx hb dX11_times_161 rfl (lv_at hl 0 rfl) ?_
    replace h := xb h
    obtain ⟨v2, ev2, h⟩ := h
    refine q_getN X Y fl_X11_23 ev2 dX11_times_162 ?_
    refine lv_iload hx hb dX11_times_165 (lv_at hl 2 rfl) ?_
    replace h := xb h
    obtain ⟨v3, ev3, h⟩ := h
    refine q_lald X Y ev3 dX11_times_167 ?_
    refine lv_lconst (v := 0) hx hb dX11_times_168 (by decide) ?_
    refine q_lcmp_eq (tgt := 177) hx hb dX11_times_169 dX11_times_170 (by decide) (fun c4 => ?_) (fun c4 => ?_)
    · replace h := Eq.trans (if_pos c4).symm h
      refine W.widen (k := 0) (n := 0) (Nat.le_of_ble_eq_true rfl) (Nat.le_of_ble_eq_true rfl) ?_
      exact w_X11_times_177 X hr hlocks hin rs k98 hk98  f a0 a4 a3 _ _ _ h Y (lv_sub hl [0, 2] rfl)
    · replace h := Eq.trans (if_neg c4).symm h
      refine lv_iconst (v := 1) hx hb dX11_times_173 (by decide) ?_
      refine lv_goto (tgt := 178) hx hb dX11_times_174 (by decide) ?_
      refine W.widen (k := 0) (n := 0) (Nat.le_of_ble_eq_true rfl) (Nat.le_of_ble_eq_true rfl) ?_
      exact w_X11_times_178 X hr hlocks hin rs k98 hk98  f a0 a4 (1 : Int32) a3 _ _ _ h Y (lv_sub hl [0, 2] rfl)
set_option maxRecDepth 100000 in
set_option maxHeartbeats 4000000 in
theorem w_X11_times_126 {p : Program} {l : Launch} {e : Env} {s : State} {m : MethodId} {args : Array Value} {below : List Frame} {meth : Method} {c : Code} {G : xG} {z : Nat} (X : xC G p m c s args RX11 cX11_times 6) (hr : meth.sig.returnType = (some .int)) (hlocks : meth.locks = false) (hin : meth.name = yX11_times.name) (rs : Int32 × xHp) (k98 : xHp → Nat → Int32 → Int32 → Option (Int32 × xHp)) (hk98 : ∀ (f : xHp) (a0 : Nat) (a3 : Int32) (a4 : Int32) (H : Heap) (locs : List Loc) (ls : Array Slot), k98 f a0 a3 a4 = some rs → xY G z f s H locs → lv_has ls 6 [(0, .ref a0), (3, .int a3), (4, .int a4)] → W p l e rm_X11_times s m args below meth c H locs 0 0 (MQ below (xQ G (some (.int rs.1)) z rs.2) args s rm_X11_times.cells rm_X11_times.slots (xA G)) (F0 m 98 ls [])) (f : xHp) (a0 : Nat) (a3 : Int32) (a4 : Int32) (s0 : Int32) (H : Heap) (locs : List Loc) (ls : Array Slot) (h : F_X11_times_126 k98 f a0 a3 a4 s0 = some rs) (Y : xY G z f s H locs) (hl : lv_has ls 6 [(0, .ref a0), (3, .int a3), (4, .int a4)]) : W p l e rm_X11_times s m args below meth c H locs 0 0 (MQ below (xQ G (some (.int rs.1)) z rs.2) args s rm_X11_times.cells rm_X11_times.slots (xA G)) (F0 m 126 ls [.int s0]) := by
  have hx := X.1.1
  have hb := X.1.2.1
  unfold F_X11_times_126 at h
  refine lv_istore (lv' := [(5, .int s0), (0, .ref a0), (3, .int a3), (4, .int a4)]) hx hb dX11_times_126 hl (by decide) rfl (fun ls hl => ?_)
  refine lv_iload hx hb dX11_times_128 (lv_at hl 0 rfl) ?_
  refine lv_if_ne (tgt := 155) hx hb dX11_times_130 (by decide) (fun c1 => ?_) (fun c1 => ?_)
  · replace h := Eq.trans (if_neg c1).symm h
    refine W.widen (k := 0) (n := 0) (Nat.le_of_ble_eq_true rfl) (Nat.le_of_ble_eq_true rfl) ?_
    exact w_X11_times_155 X hr hlocks hin rs k98 hk98  f a0 a3 a4 s0 _ _ _ h Y (lv_sub hl [1, 2, 3, 0] rfl)
  · replace h := Eq.trans (if_pos c1).symm h
    refine lv_aload_n hx hb dX11_times_133 rfl (lv_at hl 1 rfl) ?_
    replace h := xb h
    obtain ⟨v2, ev2, h⟩ := h
    refine q_getN X Y fl_X11_23 ev2 dX11_times_134 ?_
    refine lv_iload hx hb dX11_times_137 (lv_at hl 3 rfl) ?_
    replace h := xb h
    obtain ⟨v3, ev3, h⟩ := h
    refine q_lald X Y ev3 dX11_times_139 ?_
    refine lv_ldc2 (v := -1000) hx hb X.1.2.2.2.1 (X.1.2.2.2.2 _ xw_957) dX11_times_140 ?_
    refine lv_ldc2 (v := 1000) hx hb X.1.2.2.2.1 (X.1.2.2.2.2 _ xw_958) dX11_times_143 ?_
    replace h := xb h
    obtain ⟨q4, eq4, h⟩ := h
    refine q_callS X Y hl.1 (rest := []) (As := [.long v3, .long (-1000 : Int64), .long (1000 : Int64)]) (c_X11_within l G z f v3 (-1000 : Int64) (1000 : Int64) _ eq4) cd_X11_within ls_X11_82 ⟨(Nat.le_of_ble_eq_true rfl), (Nat.le_of_ble_eq_true rfl)⟩ ⟨(Nat.le_of_ble_eq_true rfl), (Nat.le_of_ble_eq_true rfl)⟩ rfl rfl (Nat.le_of_ble_eq_true rfl) dX11_times_146 (fun H locs Y => ?_)
    refine W.eq (g2 := F0 m 149 ls [.int q4]) rfl ?_
    refine lv_if_ne (tgt := 155) hx hb dX11_times_149 (by decide) (fun c5 => ?_) (fun c5 => ?_)
    · replace h := Eq.trans (if_neg c5).symm h
      refine W.widen (k := 0) (n := 0) (Nat.le_of_ble_eq_true rfl) (Nat.le_of_ble_eq_true rfl) ?_
      exact w_X11_times_155 X hr hlocks hin rs k98 hk98  f a0 a3 a4 s0 _ _ _ h Y (lv_sub hl [1, 2, 3, 0] rfl)
    · replace h := Eq.trans (if_pos c5).symm h
      refine lv_bipush (v := -2) hx hb dX11_times_152 (by decide) ?_
      replace h := Option.some.inj h
      subst h
      exact q_reti X Y hr hlocks (Nat.le_of_ble_eq_true rfl) (Nat.le_of_ble_eq_true rfl) dX11_times_154
set_option maxRecDepth 100000 in
set_option maxHeartbeats 4000000 in
theorem w_X11_times_121 {p : Program} {l : Launch} {e : Env} {s : State} {m : MethodId} {args : Array Value} {below : List Frame} {meth : Method} {c : Code} {G : xG} {z : Nat} (X : xC G p m c s args RX11 cX11_times 6) (hr : meth.sig.returnType = (some .int)) (hlocks : meth.locks = false) (hin : meth.name = yX11_times.name) (rs : Int32 × xHp) (k98 : xHp → Nat → Int32 → Int32 → Option (Int32 × xHp)) (hk98 : ∀ (f : xHp) (a0 : Nat) (a3 : Int32) (a4 : Int32) (H : Heap) (locs : List Loc) (ls : Array Slot), k98 f a0 a3 a4 = some rs → xY G z f s H locs → lv_has ls 6 [(0, .ref a0), (3, .int a3), (4, .int a4)] → W p l e rm_X11_times s m args below meth c H locs 0 0 (MQ below (xQ G (some (.int rs.1)) z rs.2) args s rm_X11_times.cells rm_X11_times.slots (xA G)) (F0 m 98 ls [])) (f : xHp) (a0 : Nat) (a3 : Int32) (a4 : Int32) (H : Heap) (locs : List Loc) (ls : Array Slot) (h : F_X11_times_121 k98 f a0 a3 a4 = some rs) (Y : xY G z f s H locs) (hl : lv_has ls 6 [(0, .ref a0), (3, .int a3), (4, .int a4)]) : W p l e rm_X11_times s m args below meth c H locs 0 0 (MQ below (xQ G (some (.int rs.1)) z rs.2) args s rm_X11_times.cells rm_X11_times.slots (xA G)) (F0 m 121 ls []) := by
  have hx := X.1.1
  have hb := X.1.2.1
  unfold F_X11_times_121 at h
  refine lv_iconst (v := 1) hx hb dX11_times_121 (by decide) ?_
  refine lv_goto (tgt := 126) hx hb dX11_times_122 (by decide) ?_
  refine W.widen (k := 0) (n := 0) (Nat.le_of_ble_eq_true rfl) (Nat.le_of_ble_eq_true rfl) ?_
  exact w_X11_times_126 X hr hlocks hin rs k98 hk98  f a0 a3 a4 (1 : Int32) _ _ _ h Y (lv_sub hl [0, 1, 2] rfl)
set_option maxRecDepth 100000 in
set_option maxHeartbeats 4000000 in
theorem w_X11_times_98 {p : Program} {l : Launch} {e : Env} {s : State} {m : MethodId} {args : Array Value} {below : List Frame} {meth : Method} {c : Code} {G : xG} {z : Nat} (X : xC G p m c s args RX11 cX11_times 6) (hr : meth.sig.returnType = (some .int)) (hlocks : meth.locks = false) (hin : meth.name = yX11_times.name) (rs : Int32 × xHp) (k98 : xHp → Nat → Int32 → Int32 → Option (Int32 × xHp)) (hk98 : ∀ (f : xHp) (a0 : Nat) (a3 : Int32) (a4 : Int32) (H : Heap) (locs : List Loc) (ls : Array Slot), k98 f a0 a3 a4 = some rs → xY G z f s H locs → lv_has ls 6 [(0, .ref a0), (3, .int a3), (4, .int a4)] → W p l e rm_X11_times s m args below meth c H locs 0 0 (MQ below (xQ G (some (.int rs.1)) z rs.2) args s rm_X11_times.cells rm_X11_times.slots (xA G)) (F0 m 98 ls [])) (f : xHp) (a0 : Nat) (a3 : Int32) (a4 : Int32) (H : Heap) (locs : List Loc) (ls : Array Slot) (h : F_X11_times_98 k98 f a0 a3 a4 = some rs) (Y : xY G z f s H locs) (hl : lv_has ls 6 [(0, .ref a0), (3, .int a3), (4, .int a4)]) : W p l e rm_X11_times s m args below meth c H locs 0 0 (MQ below (xQ G (some (.int rs.1)) z rs.2) args s rm_X11_times.cells rm_X11_times.slots (xA G)) (F0 m 98 ls []) := by
  have hx := X.1.1
  have hb := X.1.2.1
  unfold F_X11_times_98 at h
  refine lv_iload hx hb dX11_times_98 (lv_at hl 2 rfl) ?_
  refine lv_bipush (v := 25) hx hb dX11_times_100 (by decide) ?_
  refine lv_icmp_ge (tgt := 186) hx hb dX11_times_102 (by decide) (fun c1 => ?_) (fun c1 => ?_)
  · replace h := Eq.trans (if_pos c1).symm h
    refine lv_iload_n hx hb dX11_times_186 rfl (lv_at hl 1 rfl) ?_
    refine lv_if_eq (tgt := 193) hx hb dX11_times_187 (by decide) (fun c2 => ?_) (fun c2 => ?_)
    · replace h := Eq.trans (if_pos c2).symm h
      refine lv_iconst (v := 0) hx hb dX11_times_193 (by decide) ?_
      refine lv_istore (lv' := [(4, .int (0 : Int32)), (0, .ref a0), (3, .int a3)]) hx hb dX11_times_194 hl (by decide) rfl (fun ls hl => ?_)
      refine W.widen (k := 0) (n := 0) (Nat.le_of_ble_eq_true rfl) (Nat.le_of_ble_eq_true rfl) ?_
      exact lw_X11_times_196 X hr hlocks hin rs  xfuel f a0 (0 : Int32) _ _ _ h Y (lv_sub hl [1, 0] rfl)
    · replace h := Eq.trans (if_neg c2).symm h
      refine lv_bipush (v := -3) hx hb dX11_times_190 (by decide) ?_
      replace h := Option.some.inj h
      subst h
      exact q_reti X Y hr hlocks (Nat.le_of_ble_eq_true rfl) (Nat.le_of_ble_eq_true rfl) dX11_times_192
  · replace h := Eq.trans (if_neg c1).symm h
    refine lv_iload hx hb dX11_times_105 (lv_at hl 2 rfl) ?_
    refine lv_iconst (v := 5) hx hb dX11_times_107 (by decide) ?_
    refine lv_idiv hx hb dX11_times_108 (by decide) ?_
    refine lv_iconst (v := 2) hx hb dX11_times_109 (by decide) ?_
    refine lv_icmp_gt (tgt := 121) hx hb dX11_times_110 (by decide) (fun c3 => ?_) (fun c3 => ?_)
    · replace h := Eq.trans (if_pos c3).symm h
      refine W.widen (k := 0) (n := 0) (Nat.le_of_ble_eq_true rfl) (Nat.le_of_ble_eq_true rfl) ?_
      exact w_X11_times_121 X hr hlocks hin rs k98 hk98  f a0 a3 a4 _ _ _ h Y (lv_sub hl [0, 1, 2] rfl)
    · replace h := Eq.trans (if_neg c3).symm h
      refine lv_iload hx hb dX11_times_113 (lv_at hl 2 rfl) ?_
      refine lv_iconst (v := 5) hx hb dX11_times_115 (by decide) ?_
      refine lv_irem hx hb dX11_times_116 (by decide) ?_
      refine lv_iconst (v := 2) hx hb dX11_times_117 (by decide) ?_
      refine lv_icmp_le (tgt := 125) hx hb dX11_times_118 (by decide) (fun c4 => ?_) (fun c4 => ?_)
      · replace h := Eq.trans (if_pos c4).symm h
        refine lv_iconst (v := 0) hx hb dX11_times_125 (by decide) ?_
        refine W.widen (k := 0) (n := 0) (Nat.le_of_ble_eq_true rfl) (Nat.le_of_ble_eq_true rfl) ?_
        exact w_X11_times_126 X hr hlocks hin rs k98 hk98  f a0 a3 a4 (0 : Int32) _ _ _ h Y (lv_sub hl [0, 1, 2] rfl)
      · replace h := Eq.trans (if_neg c4).symm h
        refine W.widen (k := 0) (n := 0) (Nat.le_of_ble_eq_true rfl) (Nat.le_of_ble_eq_true rfl) ?_
        exact w_X11_times_121 X hr hlocks hin rs k98 hk98  f a0 a3 a4 _ _ _ h Y (lv_sub hl [0, 1, 2] rfl)
set_option maxRecDepth 100000 in
set_option maxHeartbeats 4000000 in
theorem lw_X11_times_98 {p : Program} {l : Launch} {e : Env} {s : State} {m : MethodId} {args : Array Value} {below : List Frame} {meth : Method} {c : Code} {G : xG} {z : Nat} (X : xC G p m c s args RX11 cX11_times 6) (hr : meth.sig.returnType = (some .int)) (hlocks : meth.locks = false) (hin : meth.name = yX11_times.name) (rs : Int32 × xHp)  : ∀ (n : Nat) (f : xHp) (a0 : Nat) (a3 : Int32) (a4 : Int32) (H : Heap) (locs : List Loc) (ls : Array Slot), L_X11_times_98  n f a0 a3 a4 = some rs → xY G z f s H locs → lv_has ls 6 [(0, .ref a0), (3, .int a3), (4, .int a4)] → W p l e rm_X11_times s m args below meth c H locs 0 0 (MQ below (xQ G (some (.int rs.1)) z rs.2) args s rm_X11_times.cells rm_X11_times.slots (xA G)) (F0 m 98 ls []) := by
  intro n
  induction n with
  | zero => intro f a0 a3 a4 H locs ls h Y hl; cases h
  | succ n ih => intro f a0 a3 a4 H locs ls h Y hl; exact w_X11_times_98 X hr hlocks hin rs _ ih f a0 a3 a4 _ _ _ h Y hl
set_option maxRecDepth 100000 in
set_option maxHeartbeats 4000000 in
theorem w_X11_times_33 {p : Program} {l : Launch} {e : Env} {s : State} {m : MethodId} {args : Array Value} {below : List Frame} {meth : Method} {c : Code} {G : xG} {z : Nat} (X : xC G p m c s args RX11 cX11_times 6) (hr : meth.sig.returnType = (some .int)) (hlocks : meth.locks = false) (hin : meth.name = yX11_times.name) (rs : Int32 × xHp) (k24 : xHp → Nat → Int32 → Int32 → Int32 → Option (Int32 × xHp)) (hk24 : ∀ (f : xHp) (a0 : Nat) (a1 : Int32) (a2 : Int32) (a3 : Int32) (H : Heap) (locs : List Loc) (ls : Array Slot), k24 f a0 a1 a2 a3 = some rs → xY G z f s H locs → lv_has ls 6 [(0, .ref a0), (1, .int a1), (2, .int a2), (3, .int a3)] → W p l e rm_X11_times s m args below meth c H locs 0 0 (MQ below (xQ G (some (.int rs.1)) z rs.2) args s rm_X11_times.cells rm_X11_times.slots (xA G)) (F0 m 24 ls [])) (k33 : xHp → Nat → Int32 → Int32 → Int32 → Int32 → Option (Int32 × xHp)) (hk33 : ∀ (f : xHp) (a0 : Nat) (a1 : Int32) (a2 : Int32) (a3 : Int32) (a4 : Int32) (H : Heap) (locs : List Loc) (ls : Array Slot), k33 f a0 a1 a2 a3 a4 = some rs → xY G z f s H locs → lv_has ls 6 [(0, .ref a0), (1, .int a1), (2, .int a2), (3, .int a3), (4, .int a4)] → W p l e rm_X11_times s m args below meth c H locs 0 0 (MQ below (xQ G (some (.int rs.1)) z rs.2) args s rm_X11_times.cells rm_X11_times.slots (xA G)) (F0 m 33 ls [])) (f : xHp) (a0 : Nat) (a1 : Int32) (a2 : Int32) (a3 : Int32) (a4 : Int32) (H : Heap) (locs : List Loc) (ls : Array Slot) (h : F_X11_times_33 k24 k33 f a0 a1 a2 a3 a4 = some rs) (Y : xY G z f s H locs) (hl : lv_has ls 6 [(0, .ref a0), (1, .int a1), (2, .int a2), (3, .int a3), (4, .int a4)]) : W p l e rm_X11_times s m args below meth c H locs 0 0 (MQ below (xQ G (some (.int rs.1)) z rs.2) args s rm_X11_times.cells rm_X11_times.slots (xA G)) (F0 m 33 ls []) := by
  have hx := X.1.1
  have hb := X.1.2.1
  unfold F_X11_times_33 at h
  refine lv_iload hx hb dX11_times_33 (lv_at hl 4 rfl) ?_
  refine lv_bipush (v := 9) hx hb dX11_times_35 (by decide) ?_
  refine lv_icmp_ge (tgt := 87) hx hb dX11_times_37 (by decide) (fun c1 => ?_) (fun c1 => ?_)
  · replace h := Eq.trans (if_pos c1).symm h
    refine lv_iinc (v := (a3 + 1)) (lv' := [(3, .int (a3 + 1)), (0, .ref a0), (1, .int a1), (2, .int a2), (4, .int a4)]) hx hb dX11_times_87 hl (k := 3) rfl rfl (by decide) rfl (fun ls hl => ?_)
    refine lv_goto (tgt := 24) hx hb dX11_times_90 (by decide) ?_
    refine W.widen (k := 0) (n := 0) (Nat.le_of_ble_eq_true rfl) (Nat.le_of_ble_eq_true rfl) ?_
    exact hk24 f a0 a1 a2 (a3 + 1) _ _ _ h Y (lv_sub hl [1, 2, 3, 0] rfl)
  · replace h := Eq.trans (if_neg c1).symm h
    refine lv_aload_n hx hb dX11_times_40 rfl (lv_at hl 0 rfl) ?_
    replace h := xb h
    obtain ⟨v2, ev2, h⟩ := h
    refine q_getN X Y fl_X11_23 ev2 dX11_times_41 ?_
    refine lv_iconst (v := 5) hx hb dX11_times_44 (by decide) ?_
    refine lv_iload_n hx hb dX11_times_45 rfl (lv_at hl 3 rfl) ?_
    refine lv_iconst (v := 3) hx hb dX11_times_46 (by decide) ?_
    refine lv_idiv hx hb dX11_times_47 (by decide) ?_
    refine lv_iload hx hb dX11_times_48 (lv_at hl 4 rfl) ?_
    refine lv_iconst (v := 3) hx hb dX11_times_50 (by decide) ?_
    refine lv_idiv hx hb dX11_times_51 (by decide) ?_
    refine lv_iadd hx hb dX11_times_52 ?_
    refine lv_imul hx hb dX11_times_53 ?_
    refine lv_iload_n hx hb dX11_times_54 rfl (lv_at hl 3 rfl) ?_
    refine lv_iconst (v := 3) hx hb dX11_times_55 (by decide) ?_
    refine lv_irem hx hb dX11_times_56 (by decide) ?_
    refine lv_iadd hx hb dX11_times_57 ?_
    refine lv_iload hx hb dX11_times_58 (lv_at hl 4 rfl) ?_
    refine lv_iconst (v := 3) hx hb dX11_times_60 (by decide) ?_
    refine lv_irem hx hb dX11_times_61 (by decide) ?_
    refine lv_iadd hx hb dX11_times_62 ?_
    refine lv_dup2_11 hx hb dX11_times_63 rfl rfl ?_
    replace h := xb h
    obtain ⟨v3, ev3, h⟩ := h
    refine q_lald X Y ev3 dX11_times_64 ?_
    refine lv_aload_n hx hb dX11_times_65 rfl (lv_at hl 0 rfl) ?_
    refine lv_iload_n hx hb dX11_times_66 rfl (lv_at hl 1 rfl) ?_
    refine lv_iload_n hx hb dX11_times_67 rfl (lv_at hl 3 rfl) ?_
    by_cases c4 : hKd f a0 = some 10
    · replace h := Eq.trans (if_pos c4).symm h
      replace h := xb h
      obtain ⟨q5, eq5, h⟩ := h
      refine q_callV X Y hl.1 (rest := [.long v3, .int ((((5 : Int32) * ((a3 / (3 : Int32)) + (a4 / (3 : Int32)))) + (a3 - a3 / (3 : Int32) * (3 : Int32))) + (a4 - a4 / (3 : Int32) * (3 : Int32))), .ref v2]) (As := [.int a1, .int a3]) (c_X11_termOf l G z f a0 a1 a3 _ eq5) cd_X11_termOf lv_X11_113_10 c4 ⟨(Nat.le_of_ble_eq_true rfl), (Nat.le_of_ble_eq_true rfl)⟩ ⟨(Nat.le_of_ble_eq_true rfl), (Nat.le_of_ble_eq_true rfl)⟩ rfl rfl (Nat.le_of_ble_eq_true rfl) dX11_times_68 (fun H locs Y => ?_)
      refine W.eq (g2 := F0 m 71 ls [.long q5, .long v3, .int ((((5 : Int32) * ((a3 / (3 : Int32)) + (a4 / (3 : Int32)))) + (a3 - a3 / (3 : Int32) * (3 : Int32))) + (a4 - a4 / (3 : Int32) * (3 : Int32))), .ref v2]) rfl ?_
      refine lv_aload_n hx hb dX11_times_71 rfl (lv_at hl 0 rfl) ?_
      refine lv_iload_n hx hb dX11_times_72 rfl (lv_at hl 2 rfl) ?_
      refine lv_iload hx hb dX11_times_73 (lv_at hl 4 rfl) ?_
      by_cases c6 : hKd f a0 = some 10
      · replace h := Eq.trans (if_pos c6).symm h
        replace h := xb h
        obtain ⟨q7, eq7, h⟩ := h
        refine q_callV X Y hl.1 (rest := [.long q5, .long v3, .int ((((5 : Int32) * ((a3 / (3 : Int32)) + (a4 / (3 : Int32)))) + (a3 - a3 / (3 : Int32) * (3 : Int32))) + (a4 - a4 / (3 : Int32) * (3 : Int32))), .ref v2]) (As := [.int a2, .int a4]) (c_X11_termOf l G z f a0 a2 a4 _ eq7) cd_X11_termOf lv_X11_113_10 c6 ⟨(Nat.le_of_ble_eq_true rfl), (Nat.le_of_ble_eq_true rfl)⟩ ⟨(Nat.le_of_ble_eq_true rfl), (Nat.le_of_ble_eq_true rfl)⟩ rfl rfl (Nat.le_of_ble_eq_true rfl) dX11_times_75 (fun H locs Y => ?_)
        refine W.eq (g2 := F0 m 78 ls [.long q7, .long q5, .long v3, .int ((((5 : Int32) * ((a3 / (3 : Int32)) + (a4 / (3 : Int32)))) + (a3 - a3 / (3 : Int32) * (3 : Int32))) + (a4 - a4 / (3 : Int32) * (3 : Int32))), .ref v2]) rfl ?_
        refine lv_lmul hx hb dX11_times_78 ?_
        refine lv_ladd hx hb dX11_times_79 ?_
        replace h := xb h
        obtain ⟨f8, ef8, h⟩ := h
        refine q_last X Y ef8 dX11_times_80 (fun H locs Y => ?_)
        refine lv_iinc (v := (a4 + 1)) (lv' := [(4, .int (a4 + 1)), (0, .ref a0), (1, .int a1), (2, .int a2), (3, .int a3)]) hx hb dX11_times_81 hl (k := 4) rfl rfl (by decide) rfl (fun ls hl => ?_)
        refine lv_goto (tgt := 33) hx hb dX11_times_84 (by decide) ?_
        refine W.widen (k := 0) (n := 0) (Nat.le_of_ble_eq_true rfl) (Nat.le_of_ble_eq_true rfl) ?_
        exact hk33 f8 a0 a1 a2 a3 (a4 + 1) _ _ _ h Y (lv_sub hl [1, 2, 3, 4, 0] rfl)
      replace h := Eq.trans (if_neg c6).symm h
      cases h
    replace h := Eq.trans (if_neg c4).symm h
    cases h
set_option maxRecDepth 100000 in
set_option maxHeartbeats 4000000 in
theorem lw_X11_times_33 {p : Program} {l : Launch} {e : Env} {s : State} {m : MethodId} {args : Array Value} {below : List Frame} {meth : Method} {c : Code} {G : xG} {z : Nat} (X : xC G p m c s args RX11 cX11_times 6) (hr : meth.sig.returnType = (some .int)) (hlocks : meth.locks = false) (hin : meth.name = yX11_times.name) (rs : Int32 × xHp) (k24 : xHp → Nat → Int32 → Int32 → Int32 → Option (Int32 × xHp)) (hk24 : ∀ (f : xHp) (a0 : Nat) (a1 : Int32) (a2 : Int32) (a3 : Int32) (H : Heap) (locs : List Loc) (ls : Array Slot), k24 f a0 a1 a2 a3 = some rs → xY G z f s H locs → lv_has ls 6 [(0, .ref a0), (1, .int a1), (2, .int a2), (3, .int a3)] → W p l e rm_X11_times s m args below meth c H locs 0 0 (MQ below (xQ G (some (.int rs.1)) z rs.2) args s rm_X11_times.cells rm_X11_times.slots (xA G)) (F0 m 24 ls [])) : ∀ (n : Nat) (f : xHp) (a0 : Nat) (a1 : Int32) (a2 : Int32) (a3 : Int32) (a4 : Int32) (H : Heap) (locs : List Loc) (ls : Array Slot), L_X11_times_33 k24 n f a0 a1 a2 a3 a4 = some rs → xY G z f s H locs → lv_has ls 6 [(0, .ref a0), (1, .int a1), (2, .int a2), (3, .int a3), (4, .int a4)] → W p l e rm_X11_times s m args below meth c H locs 0 0 (MQ below (xQ G (some (.int rs.1)) z rs.2) args s rm_X11_times.cells rm_X11_times.slots (xA G)) (F0 m 33 ls []) := by
  intro n
  induction n with
  | zero => intro f a0 a1 a2 a3 a4 H locs ls h Y hl; cases h
  | succ n ih => intro f a0 a1 a2 a3 a4 H locs ls h Y hl; exact w_X11_times_33 X hr hlocks hin rs k24 hk24 _ ih f a0 a1 a2 a3 a4 _ _ _ h Y hl
set_option maxRecDepth 100000 in
set_option maxHeartbeats 4000000 in
theorem w_X11_times_24 {p : Program} {l : Launch} {e : Env} {s : State} {m : MethodId} {args : Array Value} {below : List Frame} {meth : Method} {c : Code} {G : xG} {z : Nat} (X : xC G p m c s args RX11 cX11_times 6) (hr : meth.sig.returnType = (some .int)) (hlocks : meth.locks = false) (hin : meth.name = yX11_times.name) (rs : Int32 × xHp) (k24 : xHp → Nat → Int32 → Int32 → Int32 → Option (Int32 × xHp)) (hk24 : ∀ (f : xHp) (a0 : Nat) (a1 : Int32) (a2 : Int32) (a3 : Int32) (H : Heap) (locs : List Loc) (ls : Array Slot), k24 f a0 a1 a2 a3 = some rs → xY G z f s H locs → lv_has ls 6 [(0, .ref a0), (1, .int a1), (2, .int a2), (3, .int a3)] → W p l e rm_X11_times s m args below meth c H locs 0 0 (MQ below (xQ G (some (.int rs.1)) z rs.2) args s rm_X11_times.cells rm_X11_times.slots (xA G)) (F0 m 24 ls [])) (f : xHp) (a0 : Nat) (a1 : Int32) (a2 : Int32) (a3 : Int32) (H : Heap) (locs : List Loc) (ls : Array Slot) (h : F_X11_times_24 k24 f a0 a1 a2 a3 = some rs) (Y : xY G z f s H locs) (hl : lv_has ls 6 [(0, .ref a0), (1, .int a1), (2, .int a2), (3, .int a3)]) : W p l e rm_X11_times s m args below meth c H locs 0 0 (MQ below (xQ G (some (.int rs.1)) z rs.2) args s rm_X11_times.cells rm_X11_times.slots (xA G)) (F0 m 24 ls []) := by
  have hx := X.1.1
  have hb := X.1.2.1
  unfold F_X11_times_24 at h
  refine lv_iload_n hx hb dX11_times_24 rfl (lv_at hl 3 rfl) ?_
  refine lv_bipush (v := 9) hx hb dX11_times_25 (by decide) ?_
  refine lv_icmp_ge (tgt := 93) hx hb dX11_times_27 (by decide) (fun c1 => ?_) (fun c1 => ?_)
  · replace h := Eq.trans (if_pos c1).symm h
    refine lv_iconst (v := 0) hx hb dX11_times_93 (by decide) ?_
    refine lv_istore_n (lv' := [(3, .int (0 : Int32)), (0, .ref a0), (1, .int a1), (2, .int a2)]) hx hb dX11_times_94 rfl hl (by decide) rfl (fun ls hl => ?_)
    refine lv_iconst (v := 0) hx hb dX11_times_95 (by decide) ?_
    refine lv_istore (lv' := [(4, .int (0 : Int32)), (3, .int (0 : Int32)), (0, .ref a0), (1, .int a1), (2, .int a2)]) hx hb dX11_times_96 hl (by decide) rfl (fun ls hl => ?_)
    refine W.widen (k := 0) (n := 0) (Nat.le_of_ble_eq_true rfl) (Nat.le_of_ble_eq_true rfl) ?_
    exact lw_X11_times_98 X hr hlocks hin rs  xfuel f a0 (0 : Int32) (0 : Int32) _ _ _ h Y (lv_sub hl [2, 1, 0] rfl)
  · replace h := Eq.trans (if_neg c1).symm h
    refine lv_iconst (v := 0) hx hb dX11_times_30 (by decide) ?_
    refine lv_istore (lv' := [(4, .int (0 : Int32)), (0, .ref a0), (1, .int a1), (2, .int a2), (3, .int a3)]) hx hb dX11_times_31 hl (by decide) rfl (fun ls hl => ?_)
    refine W.widen (k := 0) (n := 0) (Nat.le_of_ble_eq_true rfl) (Nat.le_of_ble_eq_true rfl) ?_
    exact lw_X11_times_33 X hr hlocks hin rs k24 hk24 xfuel f a0 a1 a2 a3 (0 : Int32) _ _ _ h Y (lv_sub hl [1, 2, 3, 4, 0] rfl)
set_option maxRecDepth 100000 in
set_option maxHeartbeats 4000000 in
theorem lw_X11_times_24 {p : Program} {l : Launch} {e : Env} {s : State} {m : MethodId} {args : Array Value} {below : List Frame} {meth : Method} {c : Code} {G : xG} {z : Nat} (X : xC G p m c s args RX11 cX11_times 6) (hr : meth.sig.returnType = (some .int)) (hlocks : meth.locks = false) (hin : meth.name = yX11_times.name) (rs : Int32 × xHp)  : ∀ (n : Nat) (f : xHp) (a0 : Nat) (a1 : Int32) (a2 : Int32) (a3 : Int32) (H : Heap) (locs : List Loc) (ls : Array Slot), L_X11_times_24  n f a0 a1 a2 a3 = some rs → xY G z f s H locs → lv_has ls 6 [(0, .ref a0), (1, .int a1), (2, .int a2), (3, .int a3)] → W p l e rm_X11_times s m args below meth c H locs 0 0 (MQ below (xQ G (some (.int rs.1)) z rs.2) args s rm_X11_times.cells rm_X11_times.slots (xA G)) (F0 m 24 ls []) := by
  intro n
  induction n with
  | zero => intro f a0 a1 a2 a3 H locs ls h Y hl; cases h
  | succ n ih => intro f a0 a1 a2 a3 H locs ls h Y hl; exact w_X11_times_24 X hr hlocks hin rs _ ih f a0 a1 a2 a3 _ _ _ h Y hl
set_option maxRecDepth 100000 in
set_option maxHeartbeats 4000000 in
theorem c_X11_times (l : Launch) (G : xG) (z : Nat) (f : xHp) (h0 : Nat) (p1 : Int32) (p2 : Int32) (rs : Int32 × xHp) (h : F_X11_times f h0 p1 p2 = some rs) : xM G l yX11_times cX11_times 6 (some .int) rm_X11_times [.ref h0, .int p1, .int p2] z f (some (.int rs.1)) z rs.2 := by
  refine xM_of (by decide) (Nat.le_of_ble_eq_true rfl) ?_
  intro p e s m below meth c ls X hr hlocks hin Y hl
  have hl : lv_has ls 6 [(0, .ref h0), (1, .int p1), (2, .int p2)] := hl
  have hx := X.1.1
  have hb := X.1.2.1
  unfold F_X11_times at h
  refine lv_aload_n hx hb dX11_times_0 rfl (lv_at hl 0 rfl) ?_
  refine lv_iload_n hx hb dX11_times_1 rfl (lv_at hl 1 rfl) ?_
  by_cases c1 : hKd f h0 = some 10
  · replace h := Eq.trans (if_pos c1).symm h
    replace h := xb h
    obtain ⟨q2, eq2, h⟩ := h
    refine q_callV X Y hl.1 (rest := []) (As := [.int p1]) (c_X11_isPoly l G z f h0 p1 _ eq2) cd_X11_isPoly lv_X11_109_10 c1 ⟨(Nat.le_of_ble_eq_true rfl), (Nat.le_of_ble_eq_true rfl)⟩ ⟨(Nat.le_of_ble_eq_true rfl), (Nat.le_of_ble_eq_true rfl)⟩ rfl rfl (Nat.le_of_ble_eq_true rfl) dX11_times_2 (fun H locs Y => ?_)
    refine W.eq (g2 := F0 m 5 ls [.int q2]) rfl ?_
    refine lv_if_eq (tgt := 16) hx hb dX11_times_5 (by decide) (fun c3 => ?_) (fun c3 => ?_)
    · replace h := Eq.trans (if_pos c3).symm h
      refine lv_iconst (v := -1) hx hb dX11_times_16 (by decide) ?_
      replace h := Option.some.inj h
      subst h
      exact q_reti X Y hr hlocks (Nat.le_of_ble_eq_true rfl) (Nat.le_of_ble_eq_true rfl) dX11_times_17
    · replace h := Eq.trans (if_neg c3).symm h
      refine lv_aload_n hx hb dX11_times_8 rfl (lv_at hl 0 rfl) ?_
      refine lv_iload_n hx hb dX11_times_9 rfl (lv_at hl 2 rfl) ?_
      by_cases c4 : hKd f h0 = some 10
      · replace h := Eq.trans (if_pos c4).symm h
        replace h := xb h
        obtain ⟨q5, eq5, h⟩ := h
        refine q_callV X Y hl.1 (rest := []) (As := [.int p2]) (c_X11_isPoly l G z f h0 p2 _ eq5) cd_X11_isPoly lv_X11_109_10 c4 ⟨(Nat.le_of_ble_eq_true rfl), (Nat.le_of_ble_eq_true rfl)⟩ ⟨(Nat.le_of_ble_eq_true rfl), (Nat.le_of_ble_eq_true rfl)⟩ rfl rfl (Nat.le_of_ble_eq_true rfl) dX11_times_10 (fun H locs Y => ?_)
        refine W.eq (g2 := F0 m 13 ls [.int q5]) rfl ?_
        refine lv_if_ne (tgt := 18) hx hb dX11_times_13 (by decide) (fun c6 => ?_) (fun c6 => ?_)
        · replace h := Eq.trans (if_neg c6).symm h
          refine lv_aload_n hx hb dX11_times_18 rfl (lv_at hl 0 rfl) ?_
          by_cases c7 : hKd f h0 = some 10
          · replace h := Eq.trans (if_pos c7).symm h
            replace h := xb h
            obtain ⟨q8, eq8, h⟩ := h
            refine q_callV X Y hl.1 (rest := []) (As := []) (c_X11_clearDraft l G z f h0 _ eq8) cd_X11_clearDraft lv_X11_103_10 c7 ⟨(Nat.le_of_ble_eq_true rfl), (Nat.le_of_ble_eq_true rfl)⟩ ⟨(Nat.le_of_ble_eq_true rfl), (Nat.le_of_ble_eq_true rfl)⟩ rfl rfl (Nat.le_of_ble_eq_true rfl) dX11_times_19 (fun H locs Y => ?_)
            refine W.eq (g2 := F0 m 22 ls []) rfl ?_
            refine lv_iconst (v := 0) hx hb dX11_times_22 (by decide) ?_
            refine lv_istore_n (lv' := [(3, .int (0 : Int32)), (0, .ref h0), (1, .int p1), (2, .int p2)]) hx hb dX11_times_23 rfl hl (by decide) rfl (fun ls hl => ?_)
            refine W.widen (k := 0) (n := 0) (Nat.le_of_ble_eq_true rfl) (Nat.le_of_ble_eq_true rfl) ?_
            exact lw_X11_times_24 X hr hlocks hin rs  xfuel q8 h0 p1 p2 (0 : Int32) _ _ _ h Y (lv_sub hl [1, 2, 3, 0] rfl)
          replace h := Eq.trans (if_neg c7).symm h
          cases h
        · replace h := Eq.trans (if_pos c6).symm h
          refine lv_iconst (v := -1) hx hb dX11_times_16 (by decide) ?_
          replace h := Option.some.inj h
          subst h
          exact q_reti X Y hr hlocks (Nat.le_of_ble_eq_true rfl) (Nat.le_of_ble_eq_true rfl) dX11_times_17
      replace h := Eq.trans (if_neg c4).symm h
      cases h
  replace h := Eq.trans (if_neg c1).symm h
  cases h
/-! NeverBelowModel.slope(II)I -/
abbrev rm_X11_slope : Room := { frames := 2, cells := 0, slots := 0, locals := 47 }
def F_X11_slope_83 (k29 : xHp → Nat → Int32 → Int32 → Int32 → Option (Int32 × xHp)) (f : xHp) (a0 : Nat) (a1 : Int32) (a2 : Int32) (a3 : Int32) : Option (Int32 × xHp) := k29 f a0 a1 a2 (a3 + 1)
def F_X11_slope_72 (k29 : xHp → Nat → Int32 → Int32 → Int32 → Option (Int32 × xHp)) (f : xHp) (a0 : Nat) (a1 : Int32) (a2 : Int32) (a3 : Int32) (a4 : Int32) (s0 : Int32) (s1 : Nat) : Option (Int32 × xHp) := if hKd f a0 = some 10 then (Option.bind (F_X11_termOf f a0 a1 a3) fun q2 => Option.bind (hJst f s1 s0 (a4.toInt64 * q2)) fun f3 => F_X11_slope_83 k29 f3 a0 a1 a2 a3) else none
def F_X11_slope_48 (k29 : xHp → Nat → Int32 → Int32 → Int32 → Option (Int32 × xHp)) (f : xHp) (a0 : Nat) (a1 : Int32) (a2 : Int32) (a3 : Int32) (s0 : Int32) : Option (Int32 × xHp) := if s0 ≤ 0 then (F_X11_slope_83 k29 f a0 a1 a2 a3) else (Option.bind (hN f a0 [(10, 7)]) fun v2 => if a2 = 0 then (F_X11_slope_72 k29 f a0 a1 a2 a3 s0 (a3 - (3 : Int32)) v2) else (F_X11_slope_72 k29 f a0 a1 a2 a3 s0 (a3 - (1 : Int32)) v2))
def F_X11_slope_29 (k29 : xHp → Nat → Int32 → Int32 → Int32 → Option (Int32 × xHp)) (f : xHp) (a0 : Nat) (a1 : Int32) (a2 : Int32) (a3 : Int32) : Option (Int32 × xHp) := if (9 : Int32) ≤ a3 then (if hKd f a0 = some 10 then (Option.bind (F_X11_becomes f a0 (9 : Int32)) fun q3 => some (q3.1, q3.2)) else none) else (if a2 = 0 then (F_X11_slope_48 k29 f a0 a1 a2 a3 (a3 / (3 : Int32))) else (F_X11_slope_48 k29 f a0 a1 a2 a3 (a3 - a3 / (3 : Int32) * (3 : Int32))))
def L_X11_slope_29  : Nat → xHp → Nat → Int32 → Int32 → Int32 → Option (Int32 × xHp)
  | 0, _, _, _, _, _ => none
  | n + 1, f, a0, a1, a2, a3 => F_X11_slope_29 (L_X11_slope_29  n) f a0 a1 a2 a3
def F_X11_slope (f : xHp) (h0 : Nat) (p1 : Int32) (p2 : Int32) : Option (Int32 × xHp) := if hKd f h0 = some 10 then (Option.bind (F_X11_isPoly f h0 p1) fun q2 => if q2 = 0 then (some ((-1 : Int32), f)) else (Option.bind (F_X11_within f p2.toInt64 (0 : Int64) (1 : Int64)) fun q4 => if q4 = 0 then (some ((-2 : Int32), f)) else (if hKd f h0 = some 10 then (Option.bind (F_X11_clearDraft f h0) fun q7 => L_X11_slope_29 xfuel q7 h0 p1 p2 (0 : Int32)) else none))) else none
set_option maxRecDepth 100000 in
set_option maxHeartbeats 4000000 in
theorem w_X11_slope_83 {p : Program} {l : Launch} {e : Env} {s : State} {m : MethodId} {args : Array Value} {below : List Frame} {meth : Method} {c : Code} {G : xG} {z : Nat} (X : xC G p m c s args RX11 cX11_slope 5) (hr : meth.sig.returnType = (some .int)) (hlocks : meth.locks = false) (hin : meth.name = yX11_slope.name) (rs : Int32 × xHp) (k29 : xHp → Nat → Int32 → Int32 → Int32 → Option (Int32 × xHp)) (hk29 : ∀ (f : xHp) (a0 : Nat) (a1 : Int32) (a2 : Int32) (a3 : Int32) (H : Heap) (locs : List Loc) (ls : Array Slot), k29 f a0 a1 a2 a3 = some rs → xY G z f s H locs → lv_has ls 5 [(0, .ref a0), (1, .int a1), (2, .int a2), (3, .int a3)] → W p l e rm_X11_slope s m args below meth c H locs 0 0 (MQ below (xQ G (some (.int rs.1)) z rs.2) args s rm_X11_slope.cells rm_X11_slope.slots (xA G)) (F0 m 29 ls [])) (f : xHp) (a0 : Nat) (a1 : Int32) (a2 : Int32) (a3 : Int32) (H : Heap) (locs : List Loc) (ls : Array Slot) (h : F_X11_slope_83 k29 f a0 a1 a2 a3 = some rs) (Y : xY G z f s H locs) (hl : lv_has ls 5 [(0, .ref a0), (1, .int a1), (2, .int a2), (3, .int a3)]) : W p l e rm_X11_slope s m args below meth c H locs 0 0 (MQ below (xQ G (some (.int rs.1)) z rs.2) args s rm_X11_slope.cells rm_X11_slope.slots (xA G)) (F0 m 83 ls []) := by
  have hx := X.1.1
  have hb := X.1.2.1
  unfold F_X11_slope_83 at h
  refine lv_iinc (v := (a3 + 1)) (lv' := [(3, .int (a3 + 1)), (0, .ref a0), (1, .int a1), (2, .int a2)]) hx hb dX11_slope_83 hl (k := 3) rfl rfl (by decide) rfl (fun ls hl => ?_)
  refine lv_goto (tgt := 29) hx hb dX11_slope_86 (by decide) ?_
  refine W.widen (k := 0) (n := 0) (Nat.le_of_ble_eq_true rfl) (Nat.le_of_ble_eq_true rfl) ?_
  exact hk29 f a0 a1 a2 (a3 + 1) _ _ _ h Y (lv_sub hl [1, 2, 3, 0] rfl)
set_option maxRecDepth 100000 in
set_option maxHeartbeats 4000000 in
theorem w_X11_slope_72 {p : Program} {l : Launch} {e : Env} {s : State} {m : MethodId} {args : Array Value} {below : List Frame} {meth : Method} {c : Code} {G : xG} {z : Nat} (X : xC G p m c s args RX11 cX11_slope 5) (hr : meth.sig.returnType = (some .int)) (hlocks : meth.locks = false) (hin : meth.name = yX11_slope.name) (rs : Int32 × xHp) (k29 : xHp → Nat → Int32 → Int32 → Int32 → Option (Int32 × xHp)) (hk29 : ∀ (f : xHp) (a0 : Nat) (a1 : Int32) (a2 : Int32) (a3 : Int32) (H : Heap) (locs : List Loc) (ls : Array Slot), k29 f a0 a1 a2 a3 = some rs → xY G z f s H locs → lv_has ls 5 [(0, .ref a0), (1, .int a1), (2, .int a2), (3, .int a3)] → W p l e rm_X11_slope s m args below meth c H locs 0 0 (MQ below (xQ G (some (.int rs.1)) z rs.2) args s rm_X11_slope.cells rm_X11_slope.slots (xA G)) (F0 m 29 ls [])) (f : xHp) (a0 : Nat) (a1 : Int32) (a2 : Int32) (a3 : Int32) (a4 : Int32) (s0 : Int32) (s1 : Nat) (H : Heap) (locs : List Loc) (ls : Array Slot) (h : F_X11_slope_72 k29 f a0 a1 a2 a3 a4 s0 s1 = some rs) (Y : xY G z f s H locs) (hl : lv_has ls 5 [(0, .ref a0), (1, .int a1), (2, .int a2), (3, .int a3), (4, .int a4)]) : W p l e rm_X11_slope s m args below meth c H locs 0 0 (MQ below (xQ G (some (.int rs.1)) z rs.2) args s rm_X11_slope.cells rm_X11_slope.slots (xA G)) (F0 m 72 ls [.int s0, .ref s1]) := by
  have hx := X.1.1
  have hb := X.1.2.1
  unfold F_X11_slope_72 at h
  refine lv_iload hx hb dX11_slope_72 (lv_at hl 4 rfl) ?_
  refine lv_i2l hx hb dX11_slope_74 rfl ?_
  refine lv_aload_n hx hb dX11_slope_75 rfl (lv_at hl 0 rfl) ?_
  refine lv_iload_n hx hb dX11_slope_76 rfl (lv_at hl 1 rfl) ?_
  refine lv_iload_n hx hb dX11_slope_77 rfl (lv_at hl 3 rfl) ?_
  by_cases c1 : hKd f a0 = some 10
  · replace h := Eq.trans (if_pos c1).symm h
    replace h := xb h
    obtain ⟨q2, eq2, h⟩ := h
    refine q_callV X Y hl.1 (rest := [.long a4.toInt64, .int s0, .ref s1]) (As := [.int a1, .int a3]) (c_X11_termOf l G z f a0 a1 a3 _ eq2) cd_X11_termOf lv_X11_113_10 c1 ⟨(Nat.le_of_ble_eq_true rfl), (Nat.le_of_ble_eq_true rfl)⟩ ⟨(Nat.le_of_ble_eq_true rfl), (Nat.le_of_ble_eq_true rfl)⟩ rfl rfl (Nat.le_of_ble_eq_true rfl) dX11_slope_78 (fun H locs Y => ?_)
    refine W.eq (g2 := F0 m 81 ls [.long q2, .long a4.toInt64, .int s0, .ref s1]) rfl ?_
    refine lv_lmul hx hb dX11_slope_81 ?_
    replace h := xb h
    obtain ⟨f3, ef3, h⟩ := h
    refine q_last X Y ef3 dX11_slope_82 (fun H locs Y => ?_)
    refine W.widen (k := 0) (n := 0) (Nat.le_of_ble_eq_true rfl) (Nat.le_of_ble_eq_true rfl) ?_
    exact w_X11_slope_83 X hr hlocks hin rs k29 hk29  f3 a0 a1 a2 a3 _ _ _ h Y (lv_sub hl [0, 1, 2, 3] rfl)
  replace h := Eq.trans (if_neg c1).symm h
  cases h
set_option maxRecDepth 100000 in
set_option maxHeartbeats 4000000 in
theorem w_X11_slope_48 {p : Program} {l : Launch} {e : Env} {s : State} {m : MethodId} {args : Array Value} {below : List Frame} {meth : Method} {c : Code} {G : xG} {z : Nat} (X : xC G p m c s args RX11 cX11_slope 5) (hr : meth.sig.returnType = (some .int)) (hlocks : meth.locks = false) (hin : meth.name = yX11_slope.name) (rs : Int32 × xHp) (k29 : xHp → Nat → Int32 → Int32 → Int32 → Option (Int32 × xHp)) (hk29 : ∀ (f : xHp) (a0 : Nat) (a1 : Int32) (a2 : Int32) (a3 : Int32) (H : Heap) (locs : List Loc) (ls : Array Slot), k29 f a0 a1 a2 a3 = some rs → xY G z f s H locs → lv_has ls 5 [(0, .ref a0), (1, .int a1), (2, .int a2), (3, .int a3)] → W p l e rm_X11_slope s m args below meth c H locs 0 0 (MQ below (xQ G (some (.int rs.1)) z rs.2) args s rm_X11_slope.cells rm_X11_slope.slots (xA G)) (F0 m 29 ls [])) (f : xHp) (a0 : Nat) (a1 : Int32) (a2 : Int32) (a3 : Int32) (s0 : Int32) (H : Heap) (locs : List Loc) (ls : Array Slot) (h : F_X11_slope_48 k29 f a0 a1 a2 a3 s0 = some rs) (Y : xY G z f s H locs) (hl : lv_has ls 5 [(0, .ref a0), (1, .int a1), (2, .int a2), (3, .int a3)]) : W p l e rm_X11_slope s m args below meth c H locs 0 0 (MQ below (xQ G (some (.int rs.1)) z rs.2) args s rm_X11_slope.cells rm_X11_slope.slots (xA G)) (F0 m 48 ls [.int s0]) := by
  have hx := X.1.1
  have hb := X.1.2.1
  unfold F_X11_slope_48 at h
  refine lv_istore (lv' := [(4, .int s0), (0, .ref a0), (1, .int a1), (2, .int a2), (3, .int a3)]) hx hb dX11_slope_48 hl (by decide) rfl (fun ls hl => ?_)
  refine lv_iload hx hb dX11_slope_50 (lv_at hl 0 rfl) ?_
  refine lv_if_le (tgt := 83) hx hb dX11_slope_52 (by decide) (fun c1 => ?_) (fun c1 => ?_)
  · replace h := Eq.trans (if_pos c1).symm h
    refine W.widen (k := 0) (n := 0) (Nat.le_of_ble_eq_true rfl) (Nat.le_of_ble_eq_true rfl) ?_
    exact w_X11_slope_83 X hr hlocks hin rs k29 hk29  f a0 a1 a2 a3 _ _ _ h Y (lv_sub hl [1, 2, 3, 4] rfl)
  · replace h := Eq.trans (if_neg c1).symm h
    refine lv_aload_n hx hb dX11_slope_55 rfl (lv_at hl 1 rfl) ?_
    replace h := xb h
    obtain ⟨v2, ev2, h⟩ := h
    refine q_getN X Y fl_X11_23 ev2 dX11_slope_56 ?_
    refine lv_iload_n hx hb dX11_slope_59 rfl (lv_at hl 3 rfl) ?_
    refine lv_if_ne (tgt := 69) hx hb dX11_slope_60 (by decide) (fun c3 => ?_) (fun c3 => ?_)
    · replace h := Eq.trans (if_neg c3).symm h
      refine lv_iload_n hx hb dX11_slope_69 rfl (lv_at hl 4 rfl) ?_
      refine lv_iconst (v := 1) hx hb dX11_slope_70 (by decide) ?_
      refine lv_isub hx hb dX11_slope_71 ?_
      refine W.widen (k := 0) (n := 0) (Nat.le_of_ble_eq_true rfl) (Nat.le_of_ble_eq_true rfl) ?_
      exact w_X11_slope_72 X hr hlocks hin rs k29 hk29  f a0 a1 a2 a3 s0 (a3 - (1 : Int32)) v2 _ _ _ h Y (lv_sub hl [1, 2, 3, 4, 0] rfl)
    · replace h := Eq.trans (if_pos c3).symm h
      refine lv_iload_n hx hb dX11_slope_63 rfl (lv_at hl 4 rfl) ?_
      refine lv_iconst (v := 3) hx hb dX11_slope_64 (by decide) ?_
      refine lv_isub hx hb dX11_slope_65 ?_
      refine lv_goto (tgt := 72) hx hb dX11_slope_66 (by decide) ?_
      refine W.widen (k := 0) (n := 0) (Nat.le_of_ble_eq_true rfl) (Nat.le_of_ble_eq_true rfl) ?_
      exact w_X11_slope_72 X hr hlocks hin rs k29 hk29  f a0 a1 a2 a3 s0 (a3 - (3 : Int32)) v2 _ _ _ h Y (lv_sub hl [1, 2, 3, 4, 0] rfl)
set_option maxRecDepth 100000 in
set_option maxHeartbeats 4000000 in
theorem w_X11_slope_29 {p : Program} {l : Launch} {e : Env} {s : State} {m : MethodId} {args : Array Value} {below : List Frame} {meth : Method} {c : Code} {G : xG} {z : Nat} (X : xC G p m c s args RX11 cX11_slope 5) (hr : meth.sig.returnType = (some .int)) (hlocks : meth.locks = false) (hin : meth.name = yX11_slope.name) (rs : Int32 × xHp) (k29 : xHp → Nat → Int32 → Int32 → Int32 → Option (Int32 × xHp)) (hk29 : ∀ (f : xHp) (a0 : Nat) (a1 : Int32) (a2 : Int32) (a3 : Int32) (H : Heap) (locs : List Loc) (ls : Array Slot), k29 f a0 a1 a2 a3 = some rs → xY G z f s H locs → lv_has ls 5 [(0, .ref a0), (1, .int a1), (2, .int a2), (3, .int a3)] → W p l e rm_X11_slope s m args below meth c H locs 0 0 (MQ below (xQ G (some (.int rs.1)) z rs.2) args s rm_X11_slope.cells rm_X11_slope.slots (xA G)) (F0 m 29 ls [])) (f : xHp) (a0 : Nat) (a1 : Int32) (a2 : Int32) (a3 : Int32) (H : Heap) (locs : List Loc) (ls : Array Slot) (h : F_X11_slope_29 k29 f a0 a1 a2 a3 = some rs) (Y : xY G z f s H locs) (hl : lv_has ls 5 [(0, .ref a0), (1, .int a1), (2, .int a2), (3, .int a3)]) : W p l e rm_X11_slope s m args below meth c H locs 0 0 (MQ below (xQ G (some (.int rs.1)) z rs.2) args s rm_X11_slope.cells rm_X11_slope.slots (xA G)) (F0 m 29 ls []) := by
  have hx := X.1.1
  have hb := X.1.2.1
  unfold F_X11_slope_29 at h
  refine lv_iload_n hx hb dX11_slope_29 rfl (lv_at hl 3 rfl) ?_
  refine lv_bipush (v := 9) hx hb dX11_slope_30 (by decide) ?_
  refine lv_icmp_ge (tgt := 89) hx hb dX11_slope_32 (by decide) (fun c1 => ?_) (fun c1 => ?_)
  · replace h := Eq.trans (if_pos c1).symm h
    refine lv_aload_n hx hb dX11_slope_89 rfl (lv_at hl 0 rfl) ?_
    refine lv_bipush (v := 9) hx hb dX11_slope_90 (by decide) ?_
    by_cases c2 : hKd f a0 = some 10
    · replace h := Eq.trans (if_pos c2).symm h
      replace h := xb h
      obtain ⟨q3, eq3, h⟩ := h
      refine q_callV X Y hl.1 (rest := []) (As := [.int (9 : Int32)]) (c_X11_becomes l G z f a0 (9 : Int32) _ eq3) cd_X11_becomes lv_X11_106_10 c2 ⟨(Nat.le_of_ble_eq_true rfl), (Nat.le_of_ble_eq_true rfl)⟩ ⟨(Nat.le_of_ble_eq_true rfl), (Nat.le_of_ble_eq_true rfl)⟩ rfl rfl (Nat.le_of_ble_eq_true rfl) dX11_slope_92 (fun H locs Y => ?_)
      refine W.eq (g2 := F0 m 95 ls [.int q3.1]) rfl ?_
      replace h := Option.some.inj h
      subst h
      exact q_reti X Y hr hlocks (Nat.le_of_ble_eq_true rfl) (Nat.le_of_ble_eq_true rfl) dX11_slope_95
    replace h := Eq.trans (if_neg c2).symm h
    cases h
  · replace h := Eq.trans (if_neg c1).symm h
    refine lv_iload_n hx hb dX11_slope_35 rfl (lv_at hl 2 rfl) ?_
    refine lv_if_ne (tgt := 45) hx hb dX11_slope_36 (by decide) (fun c4 => ?_) (fun c4 => ?_)
    · replace h := Eq.trans (if_neg c4).symm h
      refine lv_iload_n hx hb dX11_slope_45 rfl (lv_at hl 3 rfl) ?_
      refine lv_iconst (v := 3) hx hb dX11_slope_46 (by decide) ?_
      refine lv_irem hx hb dX11_slope_47 (by decide) ?_
      refine W.widen (k := 0) (n := 0) (Nat.le_of_ble_eq_true rfl) (Nat.le_of_ble_eq_true rfl) ?_
      exact w_X11_slope_48 X hr hlocks hin rs k29 hk29  f a0 a1 a2 a3 (a3 - a3 / (3 : Int32) * (3 : Int32)) _ _ _ h Y (lv_sub hl [0, 1, 2, 3] rfl)
    · replace h := Eq.trans (if_pos c4).symm h
      refine lv_iload_n hx hb dX11_slope_39 rfl (lv_at hl 3 rfl) ?_
      refine lv_iconst (v := 3) hx hb dX11_slope_40 (by decide) ?_
      refine lv_idiv hx hb dX11_slope_41 (by decide) ?_
      refine lv_goto (tgt := 48) hx hb dX11_slope_42 (by decide) ?_
      refine W.widen (k := 0) (n := 0) (Nat.le_of_ble_eq_true rfl) (Nat.le_of_ble_eq_true rfl) ?_
      exact w_X11_slope_48 X hr hlocks hin rs k29 hk29  f a0 a1 a2 a3 (a3 / (3 : Int32)) _ _ _ h Y (lv_sub hl [0, 1, 2, 3] rfl)
set_option maxRecDepth 100000 in
set_option maxHeartbeats 4000000 in
theorem lw_X11_slope_29 {p : Program} {l : Launch} {e : Env} {s : State} {m : MethodId} {args : Array Value} {below : List Frame} {meth : Method} {c : Code} {G : xG} {z : Nat} (X : xC G p m c s args RX11 cX11_slope 5) (hr : meth.sig.returnType = (some .int)) (hlocks : meth.locks = false) (hin : meth.name = yX11_slope.name) (rs : Int32 × xHp)  : ∀ (n : Nat) (f : xHp) (a0 : Nat) (a1 : Int32) (a2 : Int32) (a3 : Int32) (H : Heap) (locs : List Loc) (ls : Array Slot), L_X11_slope_29  n f a0 a1 a2 a3 = some rs → xY G z f s H locs → lv_has ls 5 [(0, .ref a0), (1, .int a1), (2, .int a2), (3, .int a3)] → W p l e rm_X11_slope s m args below meth c H locs 0 0 (MQ below (xQ G (some (.int rs.1)) z rs.2) args s rm_X11_slope.cells rm_X11_slope.slots (xA G)) (F0 m 29 ls []) := by
  intro n
  induction n with
  | zero => intro f a0 a1 a2 a3 H locs ls h Y hl; cases h
  | succ n ih => intro f a0 a1 a2 a3 H locs ls h Y hl; exact w_X11_slope_29 X hr hlocks hin rs _ ih f a0 a1 a2 a3 _ _ _ h Y hl
set_option maxRecDepth 100000 in
set_option maxHeartbeats 4000000 in
theorem c_X11_slope (l : Launch) (G : xG) (z : Nat) (f : xHp) (h0 : Nat) (p1 : Int32) (p2 : Int32) (rs : Int32 × xHp) (h : F_X11_slope f h0 p1 p2 = some rs) : xM G l yX11_slope cX11_slope 5 (some .int) rm_X11_slope [.ref h0, .int p1, .int p2] z f (some (.int rs.1)) z rs.2 := by
  refine xM_of (by decide) (Nat.le_of_ble_eq_true rfl) ?_
  intro p e s m below meth c ls X hr hlocks hin Y hl
  have hl : lv_has ls 5 [(0, .ref h0), (1, .int p1), (2, .int p2)] := hl
  have hx := X.1.1
  have hb := X.1.2.1
  unfold F_X11_slope at h
  refine lv_aload_n hx hb dX11_slope_0 rfl (lv_at hl 0 rfl) ?_
  refine lv_iload_n hx hb dX11_slope_1 rfl (lv_at hl 1 rfl) ?_
  by_cases c1 : hKd f h0 = some 10
  · replace h := Eq.trans (if_pos c1).symm h
    replace h := xb h
    obtain ⟨q2, eq2, h⟩ := h
    refine q_callV X Y hl.1 (rest := []) (As := [.int p1]) (c_X11_isPoly l G z f h0 p1 _ eq2) cd_X11_isPoly lv_X11_109_10 c1 ⟨(Nat.le_of_ble_eq_true rfl), (Nat.le_of_ble_eq_true rfl)⟩ ⟨(Nat.le_of_ble_eq_true rfl), (Nat.le_of_ble_eq_true rfl)⟩ rfl rfl (Nat.le_of_ble_eq_true rfl) dX11_slope_2 (fun H locs Y => ?_)
    refine W.eq (g2 := F0 m 5 ls [.int q2]) rfl ?_
    refine lv_if_ne (tgt := 10) hx hb dX11_slope_5 (by decide) (fun c3 => ?_) (fun c3 => ?_)
    · replace h := Eq.trans (if_neg c3).symm h
      refine lv_iload_n hx hb dX11_slope_10 rfl (lv_at hl 2 rfl) ?_
      refine lv_i2l hx hb dX11_slope_11 rfl ?_
      refine lv_lconst (v := 0) hx hb dX11_slope_12 (by decide) ?_
      refine lv_lconst (v := 1) hx hb dX11_slope_13 (by decide) ?_
      replace h := xb h
      obtain ⟨q4, eq4, h⟩ := h
      refine q_callS X Y hl.1 (rest := []) (As := [.long p2.toInt64, .long (0 : Int64), .long (1 : Int64)]) (c_X11_within l G z f p2.toInt64 (0 : Int64) (1 : Int64) _ eq4) cd_X11_within ls_X11_82 ⟨(Nat.le_of_ble_eq_true rfl), (Nat.le_of_ble_eq_true rfl)⟩ ⟨(Nat.le_of_ble_eq_true rfl), (Nat.le_of_ble_eq_true rfl)⟩ rfl rfl (Nat.le_of_ble_eq_true rfl) dX11_slope_14 (fun H locs Y => ?_)
      refine W.eq (g2 := F0 m 17 ls [.int q4]) rfl ?_
      refine lv_if_ne (tgt := 23) hx hb dX11_slope_17 (by decide) (fun c5 => ?_) (fun c5 => ?_)
      · replace h := Eq.trans (if_neg c5).symm h
        refine lv_aload_n hx hb dX11_slope_23 rfl (lv_at hl 0 rfl) ?_
        by_cases c6 : hKd f h0 = some 10
        · replace h := Eq.trans (if_pos c6).symm h
          replace h := xb h
          obtain ⟨q7, eq7, h⟩ := h
          refine q_callV X Y hl.1 (rest := []) (As := []) (c_X11_clearDraft l G z f h0 _ eq7) cd_X11_clearDraft lv_X11_103_10 c6 ⟨(Nat.le_of_ble_eq_true rfl), (Nat.le_of_ble_eq_true rfl)⟩ ⟨(Nat.le_of_ble_eq_true rfl), (Nat.le_of_ble_eq_true rfl)⟩ rfl rfl (Nat.le_of_ble_eq_true rfl) dX11_slope_24 (fun H locs Y => ?_)
          refine W.eq (g2 := F0 m 27 ls []) rfl ?_
          refine lv_iconst (v := 0) hx hb dX11_slope_27 (by decide) ?_
          refine lv_istore_n (lv' := [(3, .int (0 : Int32)), (0, .ref h0), (1, .int p1), (2, .int p2)]) hx hb dX11_slope_28 rfl hl (by decide) rfl (fun ls hl => ?_)
          refine W.widen (k := 0) (n := 0) (Nat.le_of_ble_eq_true rfl) (Nat.le_of_ble_eq_true rfl) ?_
          exact lw_X11_slope_29 X hr hlocks hin rs  xfuel q7 h0 p1 p2 (0 : Int32) _ _ _ h Y (lv_sub hl [1, 2, 3, 0] rfl)
        replace h := Eq.trans (if_neg c6).symm h
        cases h
      · replace h := Eq.trans (if_pos c5).symm h
        refine lv_bipush (v := -2) hx hb dX11_slope_20 (by decide) ?_
        replace h := Option.some.inj h
        subst h
        exact q_reti X Y hr hlocks (Nat.le_of_ble_eq_true rfl) (Nat.le_of_ble_eq_true rfl) dX11_slope_22
    · replace h := Eq.trans (if_pos c3).symm h
      refine lv_iconst (v := -1) hx hb dX11_slope_8 (by decide) ?_
      replace h := Option.some.inj h
      subst h
      exact q_reti X Y hr hlocks (Nat.le_of_ble_eq_true rfl) (Nat.le_of_ble_eq_true rfl) dX11_slope_9
  replace h := Eq.trans (if_neg c1).symm h
  cases h
/-! NeverBelowModel.term(II)J -/
abbrev rm_X11_term : Room := { frames := 1, cells := 0, slots := 0, locals := 25 }
def F_X11_term_29 (f : xHp)    : Option (Int64) := some (-9223372036854775808 : Int64)
def F_X11_term (f : xHp) (h0 : Nat) (p1 : Int32) (p2 : Int32) : Option (Int64) := if hKd f h0 = some 10 then (Option.bind (F_X11_isPoly f h0 p1) fun q2 => if q2 = 0 then (F_X11_term_29 f) else (Option.bind (F_X11_within f p2.toInt64 (0 : Int64) (8 : Int64)) fun q4 => if q4 = 0 then (F_X11_term_29 f) else (if hKd f h0 = some 10 then (Option.bind (F_X11_termOf f h0 p1 p2) fun q7 => some q7) else none))) else none
set_option maxRecDepth 100000 in
set_option maxHeartbeats 4000000 in
theorem w_X11_term_29 {p : Program} {l : Launch} {e : Env} {s : State} {m : MethodId} {args : Array Value} {below : List Frame} {meth : Method} {c : Code} {G : xG} {z : Nat} {f : xHp} (X : xC G p m c s args RX11 cX11_term 3) (hr : meth.sig.returnType = (some .long)) (hlocks : meth.locks = false) (hin : meth.name = yX11_term.name) (rs : Int64)   (H : Heap) (locs : List Loc) (ls : Array Slot) (h : F_X11_term_29 f   = some rs) (Y : xY G z f s H locs) (hl : lv_has ls 3 []) : W p l e rm_X11_term s m args below meth c H locs 0 0 (MQ below (xQ G (some (.long rs)) z f) args s rm_X11_term.cells rm_X11_term.slots (xA G)) (F0 m 29 ls []) := by
  have hx := X.1.1
  have hb := X.1.2.1
  unfold F_X11_term_29 at h
  refine lv_ldc2 (v := -9223372036854775808) hx hb X.1.2.2.2.1 (X.1.2.2.2.2 _ xw_940) dX11_term_29 ?_
  replace h := Option.some.inj h
  subst h
  exact q_retl X Y hr hlocks (Nat.le_of_ble_eq_true rfl) (Nat.le_of_ble_eq_true rfl) dX11_term_32
set_option maxRecDepth 100000 in
set_option maxHeartbeats 4000000 in
theorem c_X11_term (l : Launch) (G : xG) (z : Nat) (f : xHp) (h0 : Nat) (p1 : Int32) (p2 : Int32) (rs : Int64) (h : F_X11_term f h0 p1 p2 = some rs) : xM G l yX11_term cX11_term 3 (some .long) rm_X11_term [.ref h0, .int p1, .int p2] z f (some (.long rs)) z f := by
  refine xM_of (by decide) (Nat.le_of_ble_eq_true rfl) ?_
  intro p e s m below meth c ls X hr hlocks hin Y hl
  have hl : lv_has ls 3 [(0, .ref h0), (1, .int p1), (2, .int p2)] := hl
  have hx := X.1.1
  have hb := X.1.2.1
  unfold F_X11_term at h
  refine lv_aload_n hx hb dX11_term_0 rfl (lv_at hl 0 rfl) ?_
  refine lv_iload_n hx hb dX11_term_1 rfl (lv_at hl 1 rfl) ?_
  by_cases c1 : hKd f h0 = some 10
  · replace h := Eq.trans (if_pos c1).symm h
    replace h := xb h
    obtain ⟨q2, eq2, h⟩ := h
    refine q_callV X Y hl.1 (rest := []) (As := [.int p1]) (c_X11_isPoly l G z f h0 p1 _ eq2) cd_X11_isPoly lv_X11_109_10 c1 ⟨(Nat.le_of_ble_eq_true rfl), (Nat.le_of_ble_eq_true rfl)⟩ ⟨(Nat.le_of_ble_eq_true rfl), (Nat.le_of_ble_eq_true rfl)⟩ rfl rfl (Nat.le_of_ble_eq_true rfl) dX11_term_2 (fun H locs Y => ?_)
    refine W.eq (g2 := F0 m 5 ls [.int q2]) rfl ?_
    refine lv_if_eq (tgt := 29) hx hb dX11_term_5 (by decide) (fun c3 => ?_) (fun c3 => ?_)
    · replace h := Eq.trans (if_pos c3).symm h
      refine W.widen (k := 0) (n := 0) (Nat.le_of_ble_eq_true rfl) (Nat.le_of_ble_eq_true rfl) ?_
      exact w_X11_term_29 X hr hlocks hin rs    _ _ _ h Y (lv_sub hl [] rfl)
    · replace h := Eq.trans (if_neg c3).symm h
      refine lv_iload_n hx hb dX11_term_8 rfl (lv_at hl 2 rfl) ?_
      refine lv_i2l hx hb dX11_term_9 rfl ?_
      refine lv_lconst (v := 0) hx hb dX11_term_10 (by decide) ?_
      refine lv_ldc2 (v := 8) hx hb X.1.2.2.2.1 (X.1.2.2.2.2 _ xw_983) dX11_term_11 ?_
      replace h := xb h
      obtain ⟨q4, eq4, h⟩ := h
      refine q_callS X Y hl.1 (rest := []) (As := [.long p2.toInt64, .long (0 : Int64), .long (8 : Int64)]) (c_X11_within l G z f p2.toInt64 (0 : Int64) (8 : Int64) _ eq4) cd_X11_within ls_X11_82 ⟨(Nat.le_of_ble_eq_true rfl), (Nat.le_of_ble_eq_true rfl)⟩ ⟨(Nat.le_of_ble_eq_true rfl), (Nat.le_of_ble_eq_true rfl)⟩ rfl rfl (Nat.le_of_ble_eq_true rfl) dX11_term_14 (fun H locs Y => ?_)
      refine W.eq (g2 := F0 m 17 ls [.int q4]) rfl ?_
      refine lv_if_eq (tgt := 29) hx hb dX11_term_17 (by decide) (fun c5 => ?_) (fun c5 => ?_)
      · replace h := Eq.trans (if_pos c5).symm h
        refine W.widen (k := 0) (n := 0) (Nat.le_of_ble_eq_true rfl) (Nat.le_of_ble_eq_true rfl) ?_
        exact w_X11_term_29 X hr hlocks hin rs    _ _ _ h Y (lv_sub hl [] rfl)
      · replace h := Eq.trans (if_neg c5).symm h
        refine lv_aload_n hx hb dX11_term_20 rfl (lv_at hl 0 rfl) ?_
        refine lv_iload_n hx hb dX11_term_21 rfl (lv_at hl 1 rfl) ?_
        refine lv_iload_n hx hb dX11_term_22 rfl (lv_at hl 2 rfl) ?_
        by_cases c6 : hKd f h0 = some 10
        · replace h := Eq.trans (if_pos c6).symm h
          replace h := xb h
          obtain ⟨q7, eq7, h⟩ := h
          refine q_callV X Y hl.1 (rest := []) (As := [.int p1, .int p2]) (c_X11_termOf l G z f h0 p1 p2 _ eq7) cd_X11_termOf lv_X11_113_10 c6 ⟨(Nat.le_of_ble_eq_true rfl), (Nat.le_of_ble_eq_true rfl)⟩ ⟨(Nat.le_of_ble_eq_true rfl), (Nat.le_of_ble_eq_true rfl)⟩ rfl rfl (Nat.le_of_ble_eq_true rfl) dX11_term_23 (fun H locs Y => ?_)
          refine W.eq (g2 := F0 m 26 ls [.long q7]) rfl ?_
          refine lv_goto (tgt := 32) hx hb dX11_term_26 (by decide) ?_
          replace h := Option.some.inj h
          subst h
          exact q_retl X Y hr hlocks (Nat.le_of_ble_eq_true rfl) (Nat.le_of_ble_eq_true rfl) dX11_term_32
        replace h := Eq.trans (if_neg c6).symm h
        cases h
  replace h := Eq.trans (if_neg c1).symm h
  cases h
/-! NeverBelowModel.power(JI)J -/
abbrev rm_X11_power : Room := { frames := 0, cells := 0, slots := 0, locals := 0 }
def F_X11_power (f : xHp) (p0 : Int64) (p2 : Int32) : Option (Int64) := if p2 = 0 then (some (65536 : Int64)) else (if p2 = (1 : Int32) then (some ((256 : Int64) * p0)) else (some (p0 * p0)))
set_option maxRecDepth 100000 in
set_option maxHeartbeats 4000000 in
theorem c_X11_power (l : Launch) (G : xG) (z : Nat) (f : xHp) (p0 : Int64) (p2 : Int32) (rs : Int64) (h : F_X11_power f p0 p2 = some rs) : xM G l yX11_power cX11_power 3 (some .long) rm_X11_power [.long p0, .int p2] z f (some (.long rs)) z f := by
  refine xM_of (by decide) (Nat.le_of_ble_eq_true rfl) ?_
  intro p e s m below meth c ls X hr hlocks hin Y hl
  have hl : lv_has ls 3 [(0, .long p0), (2, .int p2)] := hl
  have hx := X.1.1
  have hb := X.1.2.1
  unfold F_X11_power at h
  refine lv_iload_n hx hb dX11_power_0 rfl (lv_at hl 1 rfl) ?_
  refine lv_if_ne (tgt := 10) hx hb dX11_power_1 (by decide) (fun c1 => ?_) (fun c1 => ?_)
  · replace h := Eq.trans (if_neg c1).symm h
    refine lv_iload_n hx hb dX11_power_10 rfl (lv_at hl 1 rfl) ?_
    refine lv_iconst (v := 1) hx hb dX11_power_11 (by decide) ?_
    refine lv_icmp_ne (tgt := 23) hx hb dX11_power_12 (by decide) (fun c2 => ?_) (fun c2 => ?_)
    · replace h := Eq.trans (if_neg c2).symm h
      refine lv_lload_n hx hb dX11_power_23 rfl (lv_at hl 0 rfl) ?_
      refine lv_lload_n hx hb dX11_power_24 rfl (lv_at hl 0 rfl) ?_
      refine lv_lmul hx hb dX11_power_25 ?_
      replace h := Option.some.inj h
      subst h
      exact q_retl X Y hr hlocks (Nat.le_of_ble_eq_true rfl) (Nat.le_of_ble_eq_true rfl) dX11_power_26
    · replace h := Eq.trans (if_pos c2).symm h
      refine lv_ldc2 (v := 256) hx hb X.1.2.2.2.1 (X.1.2.2.2.2 _ xw_994) dX11_power_15 ?_
      refine lv_lload_n hx hb dX11_power_18 rfl (lv_at hl 0 rfl) ?_
      refine lv_lmul hx hb dX11_power_19 ?_
      refine lv_goto (tgt := 26) hx hb dX11_power_20 (by decide) ?_
      replace h := Option.some.inj h
      subst h
      exact q_retl X Y hr hlocks (Nat.le_of_ble_eq_true rfl) (Nat.le_of_ble_eq_true rfl) dX11_power_26
  · replace h := Eq.trans (if_pos c1).symm h
    refine lv_ldc2 (v := 65536) hx hb X.1.2.2.2.1 (X.1.2.2.2.2 _ xw_993) dX11_power_4 ?_
    refine lv_goto (tgt := 26) hx hb dX11_power_7 (by decide) ?_
    replace h := Option.some.inj h
    subst h
    exact q_retl X Y hr hlocks (Nat.le_of_ble_eq_true rfl) (Nat.le_of_ble_eq_true rfl) dX11_power_26
/-! NeverBelowModel.value(III)J -/
abbrev rm_X11_value : Room := { frames := 1, cells := 0, slots := 0, locals := 25 }
def F_X11_value_46 (f : xHp) (k46 : Nat → Int32 → Int32 → Int32 → Int64 → Int32 → Option (Int64))  (a0 : Nat) (a1 : Int32) (a2 : Int32) (a3 : Int32) (a4 : Int64) (a6 : Int32) : Option (Int64) := if (9 : Int32) ≤ a6 then (some a4) else (if hKd f a0 = some 10 then (Option.bind (F_X11_termOf f a0 a1 a6) fun q3 => Option.bind (F_X11_power f a2.toInt64 (a6 / (3 : Int32))) fun q4 => Option.bind (F_X11_power f a3.toInt64 (a6 - a6 / (3 : Int32) * (3 : Int32))) fun q5 => k46 a0 a1 a2 a3 (a4 + ((q3 * q4) * q5)) (a6 + 1)) else none)
def L_X11_value_46 (f : xHp)  : Nat → Nat → Int32 → Int32 → Int32 → Int64 → Int32 → Option (Int64)
  | 0, _, _, _, _, _, _ => none
  | n + 1, a0, a1, a2, a3, a4, a6 => F_X11_value_46 f (L_X11_value_46 f  n) a0 a1 a2 a3 a4 a6
def F_X11_value_36 (f : xHp)    : Option (Int64) := some (-9223372036854775808 : Int64)
def F_X11_value (f : xHp) (h0 : Nat) (p1 : Int32) (p2 : Int32) (p3 : Int32) : Option (Int64) := if hKd f h0 = some 10 then (Option.bind (F_X11_isPoly f h0 p1) fun q2 => if q2 = 0 then (F_X11_value_36 f) else (Option.bind (F_X11_within f p2.toInt64 (-2048 : Int64) (2048 : Int64)) fun q4 => if q4 = 0 then (F_X11_value_36 f) else (Option.bind (F_X11_within f p3.toInt64 (-2048 : Int64) (2048 : Int64)) fun q6 => if q6 = 0 then (F_X11_value_36 f) else (L_X11_value_46 f xfuel h0 p1 p2 p3 (0 : Int64) (0 : Int32))))) else none
set_option maxRecDepth 100000 in
set_option maxHeartbeats 4000000 in
theorem w_X11_value_46 {p : Program} {l : Launch} {e : Env} {s : State} {m : MethodId} {args : Array Value} {below : List Frame} {meth : Method} {c : Code} {G : xG} {z : Nat} {f : xHp} (X : xC G p m c s args RX11 cX11_value 7) (hr : meth.sig.returnType = (some .long)) (hlocks : meth.locks = false) (hin : meth.name = yX11_value.name) (rs : Int64) (k46 : Nat → Int32 → Int32 → Int32 → Int64 → Int32 → Option (Int64)) (hk46 : ∀ (a0 : Nat) (a1 : Int32) (a2 : Int32) (a3 : Int32) (a4 : Int64) (a6 : Int32) (H : Heap) (locs : List Loc) (ls : Array Slot), k46 a0 a1 a2 a3 a4 a6 = some rs → xY G z f s H locs → lv_has ls 7 [(0, .ref a0), (1, .int a1), (2, .int a2), (3, .int a3), (4, .long a4), (6, .int a6)] → W p l e rm_X11_value s m args below meth c H locs 0 0 (MQ below (xQ G (some (.long rs)) z f) args s rm_X11_value.cells rm_X11_value.slots (xA G)) (F0 m 46 ls [])) (a0 : Nat) (a1 : Int32) (a2 : Int32) (a3 : Int32) (a4 : Int64) (a6 : Int32) (H : Heap) (locs : List Loc) (ls : Array Slot) (h : F_X11_value_46 f k46 a0 a1 a2 a3 a4 a6 = some rs) (Y : xY G z f s H locs) (hl : lv_has ls 7 [(0, .ref a0), (1, .int a1), (2, .int a2), (3, .int a3), (4, .long a4), (6, .int a6)]) : W p l e rm_X11_value s m args below meth c H locs 0 0 (MQ below (xQ G (some (.long rs)) z f) args s rm_X11_value.cells rm_X11_value.slots (xA G)) (F0 m 46 ls []) := by
  have hx := X.1.1
  have hb := X.1.2.1
  unfold F_X11_value_46 at h
  refine lv_iload hx hb dX11_value_46 (lv_at hl 5 rfl) ?_
  refine lv_bipush (v := 9) hx hb dX11_value_48 (by decide) ?_
  refine lv_icmp_ge (tgt := 91) hx hb dX11_value_50 (by decide) (fun c1 => ?_) (fun c1 => ?_)
  · replace h := Eq.trans (if_pos c1).symm h
    refine lv_lload hx hb dX11_value_91 (lv_at hl 4 rfl) ?_
    replace h := Option.some.inj h
    subst h
    exact q_retl X Y hr hlocks (Nat.le_of_ble_eq_true rfl) (Nat.le_of_ble_eq_true rfl) dX11_value_93
  · replace h := Eq.trans (if_neg c1).symm h
    refine lv_lload hx hb dX11_value_53 (lv_at hl 4 rfl) ?_
    refine lv_aload_n hx hb dX11_value_55 rfl (lv_at hl 0 rfl) ?_
    refine lv_iload_n hx hb dX11_value_56 rfl (lv_at hl 1 rfl) ?_
    refine lv_iload hx hb dX11_value_57 (lv_at hl 5 rfl) ?_
    by_cases c2 : hKd f a0 = some 10
    · replace h := Eq.trans (if_pos c2).symm h
      replace h := xb h
      obtain ⟨q3, eq3, h⟩ := h
      refine q_callV X Y hl.1 (rest := [.long a4]) (As := [.int a1, .int a6]) (c_X11_termOf l G z f a0 a1 a6 _ eq3) cd_X11_termOf lv_X11_113_10 c2 ⟨(Nat.le_of_ble_eq_true rfl), (Nat.le_of_ble_eq_true rfl)⟩ ⟨(Nat.le_of_ble_eq_true rfl), (Nat.le_of_ble_eq_true rfl)⟩ rfl rfl (Nat.le_of_ble_eq_true rfl) dX11_value_59 (fun H locs Y => ?_)
      refine W.eq (g2 := F0 m 62 ls [.long q3, .long a4]) rfl ?_
      refine lv_iload_n hx hb dX11_value_62 rfl (lv_at hl 2 rfl) ?_
      refine lv_i2l hx hb dX11_value_63 rfl ?_
      refine lv_iload hx hb dX11_value_64 (lv_at hl 5 rfl) ?_
      refine lv_iconst (v := 3) hx hb dX11_value_66 (by decide) ?_
      refine lv_idiv hx hb dX11_value_67 (by decide) ?_
      replace h := xb h
      obtain ⟨q4, eq4, h⟩ := h
      refine q_callS X Y hl.1 (rest := [.long q3, .long a4]) (As := [.long a2.toInt64, .int (a6 / (3 : Int32))]) (c_X11_power l G z f a2.toInt64 (a6 / (3 : Int32)) _ eq4) cd_X11_power ls_X11_123 ⟨(Nat.le_of_ble_eq_true rfl), (Nat.le_of_ble_eq_true rfl)⟩ ⟨(Nat.le_of_ble_eq_true rfl), (Nat.le_of_ble_eq_true rfl)⟩ rfl rfl (Nat.le_of_ble_eq_true rfl) dX11_value_68 (fun H locs Y => ?_)
      refine W.eq (g2 := F0 m 71 ls [.long q4, .long q3, .long a4]) rfl ?_
      refine lv_lmul hx hb dX11_value_71 ?_
      refine lv_iload_n hx hb dX11_value_72 rfl (lv_at hl 3 rfl) ?_
      refine lv_i2l hx hb dX11_value_73 rfl ?_
      refine lv_iload hx hb dX11_value_74 (lv_at hl 5 rfl) ?_
      refine lv_iconst (v := 3) hx hb dX11_value_76 (by decide) ?_
      refine lv_irem hx hb dX11_value_77 (by decide) ?_
      replace h := xb h
      obtain ⟨q5, eq5, h⟩ := h
      refine q_callS X Y hl.1 (rest := [.long (q3 * q4), .long a4]) (As := [.long a3.toInt64, .int (a6 - a6 / (3 : Int32) * (3 : Int32))]) (c_X11_power l G z f a3.toInt64 (a6 - a6 / (3 : Int32) * (3 : Int32)) _ eq5) cd_X11_power ls_X11_123 ⟨(Nat.le_of_ble_eq_true rfl), (Nat.le_of_ble_eq_true rfl)⟩ ⟨(Nat.le_of_ble_eq_true rfl), (Nat.le_of_ble_eq_true rfl)⟩ rfl rfl (Nat.le_of_ble_eq_true rfl) dX11_value_78 (fun H locs Y => ?_)
      refine W.eq (g2 := F0 m 81 ls [.long q5, .long (q3 * q4), .long a4]) rfl ?_
      refine lv_lmul hx hb dX11_value_81 ?_
      refine lv_ladd hx hb dX11_value_82 ?_
      refine lv_lstore (lv' := [(4, .long (a4 + ((q3 * q4) * q5))), (0, .ref a0), (1, .int a1), (2, .int a2), (3, .int a3), (6, .int a6)]) hx hb dX11_value_83 hl (by decide) rfl (fun ls hl => ?_)
      refine lv_iinc (v := (a6 + 1)) (lv' := [(6, .int (a6 + 1)), (4, .long (a4 + ((q3 * q4) * q5))), (0, .ref a0), (1, .int a1), (2, .int a2), (3, .int a3)]) hx hb dX11_value_85 hl (k := 5) rfl rfl (by decide) rfl (fun ls hl => ?_)
      refine lv_goto (tgt := 46) hx hb dX11_value_88 (by decide) ?_
      refine W.widen (k := 0) (n := 0) (Nat.le_of_ble_eq_true rfl) (Nat.le_of_ble_eq_true rfl) ?_
      exact hk46 a0 a1 a2 a3 (a4 + ((q3 * q4) * q5)) (a6 + 1) _ _ _ h Y (lv_sub hl [2, 3, 4, 5, 1, 0] rfl)
    replace h := Eq.trans (if_neg c2).symm h
    cases h
set_option maxRecDepth 100000 in
set_option maxHeartbeats 4000000 in
theorem lw_X11_value_46 {p : Program} {l : Launch} {e : Env} {s : State} {m : MethodId} {args : Array Value} {below : List Frame} {meth : Method} {c : Code} {G : xG} {z : Nat} {f : xHp} (X : xC G p m c s args RX11 cX11_value 7) (hr : meth.sig.returnType = (some .long)) (hlocks : meth.locks = false) (hin : meth.name = yX11_value.name) (rs : Int64)  : ∀ (n : Nat) (a0 : Nat) (a1 : Int32) (a2 : Int32) (a3 : Int32) (a4 : Int64) (a6 : Int32) (H : Heap) (locs : List Loc) (ls : Array Slot), L_X11_value_46 f  n a0 a1 a2 a3 a4 a6 = some rs → xY G z f s H locs → lv_has ls 7 [(0, .ref a0), (1, .int a1), (2, .int a2), (3, .int a3), (4, .long a4), (6, .int a6)] → W p l e rm_X11_value s m args below meth c H locs 0 0 (MQ below (xQ G (some (.long rs)) z f) args s rm_X11_value.cells rm_X11_value.slots (xA G)) (F0 m 46 ls []) := by
  intro n
  induction n with
  | zero => intro a0 a1 a2 a3 a4 a6 H locs ls h Y hl; cases h
  | succ n ih => intro a0 a1 a2 a3 a4 a6 H locs ls h Y hl; exact w_X11_value_46 X hr hlocks hin rs _ ih a0 a1 a2 a3 a4 a6 _ _ _ h Y hl
set_option maxRecDepth 100000 in
set_option maxHeartbeats 4000000 in
theorem w_X11_value_36 {p : Program} {l : Launch} {e : Env} {s : State} {m : MethodId} {args : Array Value} {below : List Frame} {meth : Method} {c : Code} {G : xG} {z : Nat} {f : xHp} (X : xC G p m c s args RX11 cX11_value 7) (hr : meth.sig.returnType = (some .long)) (hlocks : meth.locks = false) (hin : meth.name = yX11_value.name) (rs : Int64)   (H : Heap) (locs : List Loc) (ls : Array Slot) (h : F_X11_value_36 f   = some rs) (Y : xY G z f s H locs) (hl : lv_has ls 7 []) : W p l e rm_X11_value s m args below meth c H locs 0 0 (MQ below (xQ G (some (.long rs)) z f) args s rm_X11_value.cells rm_X11_value.slots (xA G)) (F0 m 36 ls []) := by
  have hx := X.1.1
  have hb := X.1.2.1
  unfold F_X11_value_36 at h
  refine lv_ldc2 (v := -9223372036854775808) hx hb X.1.2.2.2.1 (X.1.2.2.2.2 _ xw_940) dX11_value_36 ?_
  replace h := Option.some.inj h
  subst h
  exact q_retl X Y hr hlocks (Nat.le_of_ble_eq_true rfl) (Nat.le_of_ble_eq_true rfl) dX11_value_39
set_option maxRecDepth 100000 in
set_option maxHeartbeats 4000000 in
theorem c_X11_value (l : Launch) (G : xG) (z : Nat) (f : xHp) (h0 : Nat) (p1 : Int32) (p2 : Int32) (p3 : Int32) (rs : Int64) (h : F_X11_value f h0 p1 p2 p3 = some rs) : xM G l yX11_value cX11_value 7 (some .long) rm_X11_value [.ref h0, .int p1, .int p2, .int p3] z f (some (.long rs)) z f := by
  refine xM_of (by decide) (Nat.le_of_ble_eq_true rfl) ?_
  intro p e s m below meth c ls X hr hlocks hin Y hl
  have hl : lv_has ls 7 [(0, .ref h0), (1, .int p1), (2, .int p2), (3, .int p3)] := hl
  have hx := X.1.1
  have hb := X.1.2.1
  unfold F_X11_value at h
  refine lv_aload_n hx hb dX11_value_0 rfl (lv_at hl 0 rfl) ?_
  refine lv_iload_n hx hb dX11_value_1 rfl (lv_at hl 1 rfl) ?_
  by_cases c1 : hKd f h0 = some 10
  · replace h := Eq.trans (if_pos c1).symm h
    replace h := xb h
    obtain ⟨q2, eq2, h⟩ := h
    refine q_callV X Y hl.1 (rest := []) (As := [.int p1]) (c_X11_isPoly l G z f h0 p1 _ eq2) cd_X11_isPoly lv_X11_109_10 c1 ⟨(Nat.le_of_ble_eq_true rfl), (Nat.le_of_ble_eq_true rfl)⟩ ⟨(Nat.le_of_ble_eq_true rfl), (Nat.le_of_ble_eq_true rfl)⟩ rfl rfl (Nat.le_of_ble_eq_true rfl) dX11_value_2 (fun H locs Y => ?_)
    refine W.eq (g2 := F0 m 5 ls [.int q2]) rfl ?_
    refine lv_if_eq (tgt := 36) hx hb dX11_value_5 (by decide) (fun c3 => ?_) (fun c3 => ?_)
    · replace h := Eq.trans (if_pos c3).symm h
      refine W.widen (k := 0) (n := 0) (Nat.le_of_ble_eq_true rfl) (Nat.le_of_ble_eq_true rfl) ?_
      exact w_X11_value_36 X hr hlocks hin rs    _ _ _ h Y (lv_sub hl [] rfl)
    · replace h := Eq.trans (if_neg c3).symm h
      refine lv_iload_n hx hb dX11_value_8 rfl (lv_at hl 2 rfl) ?_
      refine lv_i2l hx hb dX11_value_9 rfl ?_
      refine lv_ldc2 (v := -2048) hx hb X.1.2.2.2.1 (X.1.2.2.2.2 _ xw_988) dX11_value_10 ?_
      refine lv_ldc2 (v := 2048) hx hb X.1.2.2.2.1 (X.1.2.2.2.2 _ xw_989) dX11_value_13 ?_
      replace h := xb h
      obtain ⟨q4, eq4, h⟩ := h
      refine q_callS X Y hl.1 (rest := []) (As := [.long p2.toInt64, .long (-2048 : Int64), .long (2048 : Int64)]) (c_X11_within l G z f p2.toInt64 (-2048 : Int64) (2048 : Int64) _ eq4) cd_X11_within ls_X11_82 ⟨(Nat.le_of_ble_eq_true rfl), (Nat.le_of_ble_eq_true rfl)⟩ ⟨(Nat.le_of_ble_eq_true rfl), (Nat.le_of_ble_eq_true rfl)⟩ rfl rfl (Nat.le_of_ble_eq_true rfl) dX11_value_16 (fun H locs Y => ?_)
      refine W.eq (g2 := F0 m 19 ls [.int q4]) rfl ?_
      refine lv_if_eq (tgt := 36) hx hb dX11_value_19 (by decide) (fun c5 => ?_) (fun c5 => ?_)
      · replace h := Eq.trans (if_pos c5).symm h
        refine W.widen (k := 0) (n := 0) (Nat.le_of_ble_eq_true rfl) (Nat.le_of_ble_eq_true rfl) ?_
        exact w_X11_value_36 X hr hlocks hin rs    _ _ _ h Y (lv_sub hl [] rfl)
      · replace h := Eq.trans (if_neg c5).symm h
        refine lv_iload_n hx hb dX11_value_22 rfl (lv_at hl 3 rfl) ?_
        refine lv_i2l hx hb dX11_value_23 rfl ?_
        refine lv_ldc2 (v := -2048) hx hb X.1.2.2.2.1 (X.1.2.2.2.2 _ xw_988) dX11_value_24 ?_
        refine lv_ldc2 (v := 2048) hx hb X.1.2.2.2.1 (X.1.2.2.2.2 _ xw_989) dX11_value_27 ?_
        replace h := xb h
        obtain ⟨q6, eq6, h⟩ := h
        refine q_callS X Y hl.1 (rest := []) (As := [.long p3.toInt64, .long (-2048 : Int64), .long (2048 : Int64)]) (c_X11_within l G z f p3.toInt64 (-2048 : Int64) (2048 : Int64) _ eq6) cd_X11_within ls_X11_82 ⟨(Nat.le_of_ble_eq_true rfl), (Nat.le_of_ble_eq_true rfl)⟩ ⟨(Nat.le_of_ble_eq_true rfl), (Nat.le_of_ble_eq_true rfl)⟩ rfl rfl (Nat.le_of_ble_eq_true rfl) dX11_value_30 (fun H locs Y => ?_)
        refine W.eq (g2 := F0 m 33 ls [.int q6]) rfl ?_
        refine lv_if_ne (tgt := 40) hx hb dX11_value_33 (by decide) (fun c7 => ?_) (fun c7 => ?_)
        · replace h := Eq.trans (if_neg c7).symm h
          refine lv_lconst (v := 0) hx hb dX11_value_40 (by decide) ?_
          refine lv_lstore (lv' := [(4, .long (0 : Int64)), (0, .ref h0), (1, .int p1), (2, .int p2), (3, .int p3)]) hx hb dX11_value_41 hl (by decide) rfl (fun ls hl => ?_)
          refine lv_iconst (v := 0) hx hb dX11_value_43 (by decide) ?_
          refine lv_istore (lv' := [(6, .int (0 : Int32)), (4, .long (0 : Int64)), (0, .ref h0), (1, .int p1), (2, .int p2), (3, .int p3)]) hx hb dX11_value_44 hl (by decide) rfl (fun ls hl => ?_)
          refine W.widen (k := 0) (n := 0) (Nat.le_of_ble_eq_true rfl) (Nat.le_of_ble_eq_true rfl) ?_
          exact lw_X11_value_46 X hr hlocks hin rs  xfuel h0 p1 p2 p3 (0 : Int64) (0 : Int32) _ _ _ h Y (lv_sub hl [2, 3, 4, 5, 1, 0] rfl)
        · replace h := Eq.trans (if_pos c7).symm h
          refine W.widen (k := 0) (n := 0) (Nat.le_of_ble_eq_true rfl) (Nat.le_of_ble_eq_true rfl) ?_
          exact w_X11_value_36 X hr hlocks hin rs    _ _ _ h Y (lv_sub hl [] rfl)
  replace h := Eq.trans (if_neg c1).symm h
  cases h
/-! NeverBelowModel.same(II)I -/
abbrev rm_X11_same : Room := { frames := 1, cells := 0, slots := 0, locals := 22 }
def F_X11_same_20 (f : xHp) (k20 : Nat → Int32 → Int32 → Int32 → Option (Int32))  (a0 : Nat) (a1 : Int32) (a2 : Int32) (a3 : Int32) : Option (Int32) := if (9 : Int32) ≤ a3 then (some (1 : Int32)) else (if hKd f a0 = some 10 then (Option.bind (F_X11_termOf f a0 a1 a3) fun q3 => if hKd f a0 = some 10 then (Option.bind (F_X11_termOf f a0 a2 a3) fun q5 => if q3 = q5 then (k20 a0 a1 a2 (a3 + 1)) else (some (0 : Int32))) else none) else none)
def L_X11_same_20 (f : xHp)  : Nat → Nat → Int32 → Int32 → Int32 → Option (Int32)
  | 0, _, _, _, _ => none
  | n + 1, a0, a1, a2, a3 => F_X11_same_20 f (L_X11_same_20 f  n) a0 a1 a2 a3
def F_X11_same (f : xHp) (h0 : Nat) (p1 : Int32) (p2 : Int32) : Option (Int32) := if hKd f h0 = some 10 then (Option.bind (F_X11_isPoly f h0 p1) fun q2 => if q2 = 0 then (some (-1 : Int32)) else (if hKd f h0 = some 10 then (Option.bind (F_X11_isPoly f h0 p2) fun q5 => if q5 = 0 then (some (-1 : Int32)) else (L_X11_same_20 f xfuel h0 p1 p2 (0 : Int32))) else none)) else none
set_option maxRecDepth 100000 in
set_option maxHeartbeats 4000000 in
theorem w_X11_same_20 {p : Program} {l : Launch} {e : Env} {s : State} {m : MethodId} {args : Array Value} {below : List Frame} {meth : Method} {c : Code} {G : xG} {z : Nat} {f : xHp} (X : xC G p m c s args RX11 cX11_same 4) (hr : meth.sig.returnType = (some .int)) (hlocks : meth.locks = false) (hin : meth.name = yX11_same.name) (rs : Int32) (k20 : Nat → Int32 → Int32 → Int32 → Option (Int32)) (hk20 : ∀ (a0 : Nat) (a1 : Int32) (a2 : Int32) (a3 : Int32) (H : Heap) (locs : List Loc) (ls : Array Slot), k20 a0 a1 a2 a3 = some rs → xY G z f s H locs → lv_has ls 4 [(0, .ref a0), (1, .int a1), (2, .int a2), (3, .int a3)] → W p l e rm_X11_same s m args below meth c H locs 0 0 (MQ below (xQ G (some (.int rs)) z f) args s rm_X11_same.cells rm_X11_same.slots (xA G)) (F0 m 20 ls [])) (a0 : Nat) (a1 : Int32) (a2 : Int32) (a3 : Int32) (H : Heap) (locs : List Loc) (ls : Array Slot) (h : F_X11_same_20 f k20 a0 a1 a2 a3 = some rs) (Y : xY G z f s H locs) (hl : lv_has ls 4 [(0, .ref a0), (1, .int a1), (2, .int a2), (3, .int a3)]) : W p l e rm_X11_same s m args below meth c H locs 0 0 (MQ below (xQ G (some (.int rs)) z f) args s rm_X11_same.cells rm_X11_same.slots (xA G)) (F0 m 20 ls []) := by
  have hx := X.1.1
  have hb := X.1.2.1
  unfold F_X11_same_20 at h
  refine lv_iload_n hx hb dX11_same_20 rfl (lv_at hl 3 rfl) ?_
  refine lv_bipush (v := 9) hx hb dX11_same_21 (by decide) ?_
  refine lv_icmp_ge (tgt := 50) hx hb dX11_same_23 (by decide) (fun c1 => ?_) (fun c1 => ?_)
  · replace h := Eq.trans (if_pos c1).symm h
    refine lv_iconst (v := 1) hx hb dX11_same_50 (by decide) ?_
    replace h := Option.some.inj h
    subst h
    exact q_reti X Y hr hlocks (Nat.le_of_ble_eq_true rfl) (Nat.le_of_ble_eq_true rfl) dX11_same_51
  · replace h := Eq.trans (if_neg c1).symm h
    refine lv_aload_n hx hb dX11_same_26 rfl (lv_at hl 0 rfl) ?_
    refine lv_iload_n hx hb dX11_same_27 rfl (lv_at hl 1 rfl) ?_
    refine lv_iload_n hx hb dX11_same_28 rfl (lv_at hl 3 rfl) ?_
    by_cases c2 : hKd f a0 = some 10
    · replace h := Eq.trans (if_pos c2).symm h
      replace h := xb h
      obtain ⟨q3, eq3, h⟩ := h
      refine q_callV X Y hl.1 (rest := []) (As := [.int a1, .int a3]) (c_X11_termOf l G z f a0 a1 a3 _ eq3) cd_X11_termOf lv_X11_113_10 c2 ⟨(Nat.le_of_ble_eq_true rfl), (Nat.le_of_ble_eq_true rfl)⟩ ⟨(Nat.le_of_ble_eq_true rfl), (Nat.le_of_ble_eq_true rfl)⟩ rfl rfl (Nat.le_of_ble_eq_true rfl) dX11_same_29 (fun H locs Y => ?_)
      refine W.eq (g2 := F0 m 32 ls [.long q3]) rfl ?_
      refine lv_aload_n hx hb dX11_same_32 rfl (lv_at hl 0 rfl) ?_
      refine lv_iload_n hx hb dX11_same_33 rfl (lv_at hl 2 rfl) ?_
      refine lv_iload_n hx hb dX11_same_34 rfl (lv_at hl 3 rfl) ?_
      by_cases c4 : hKd f a0 = some 10
      · replace h := Eq.trans (if_pos c4).symm h
        replace h := xb h
        obtain ⟨q5, eq5, h⟩ := h
        refine q_callV X Y hl.1 (rest := [.long q3]) (As := [.int a2, .int a3]) (c_X11_termOf l G z f a0 a2 a3 _ eq5) cd_X11_termOf lv_X11_113_10 c4 ⟨(Nat.le_of_ble_eq_true rfl), (Nat.le_of_ble_eq_true rfl)⟩ ⟨(Nat.le_of_ble_eq_true rfl), (Nat.le_of_ble_eq_true rfl)⟩ rfl rfl (Nat.le_of_ble_eq_true rfl) dX11_same_35 (fun H locs Y => ?_)
        refine W.eq (g2 := F0 m 38 ls [.long q5, .long q3]) rfl ?_
        refine q_lcmp_eq (tgt := 44) hx hb dX11_same_38 dX11_same_39 (by decide) (fun c6 => ?_) (fun c6 => ?_)
        · replace h := Eq.trans (if_pos c6).symm h
          refine lv_iinc (v := (a3 + 1)) (lv' := [(3, .int (a3 + 1)), (0, .ref a0), (1, .int a1), (2, .int a2)]) hx hb dX11_same_44 hl (k := 3) rfl rfl (by decide) rfl (fun ls hl => ?_)
          refine lv_goto (tgt := 20) hx hb dX11_same_47 (by decide) ?_
          refine W.widen (k := 0) (n := 0) (Nat.le_of_ble_eq_true rfl) (Nat.le_of_ble_eq_true rfl) ?_
          exact hk20 a0 a1 a2 (a3 + 1) _ _ _ h Y (lv_sub hl [1, 2, 3, 0] rfl)
        · replace h := Eq.trans (if_neg c6).symm h
          refine lv_iconst (v := 0) hx hb dX11_same_42 (by decide) ?_
          replace h := Option.some.inj h
          subst h
          exact q_reti X Y hr hlocks (Nat.le_of_ble_eq_true rfl) (Nat.le_of_ble_eq_true rfl) dX11_same_43
      replace h := Eq.trans (if_neg c4).symm h
      cases h
    replace h := Eq.trans (if_neg c2).symm h
    cases h
set_option maxRecDepth 100000 in
set_option maxHeartbeats 4000000 in
theorem lw_X11_same_20 {p : Program} {l : Launch} {e : Env} {s : State} {m : MethodId} {args : Array Value} {below : List Frame} {meth : Method} {c : Code} {G : xG} {z : Nat} {f : xHp} (X : xC G p m c s args RX11 cX11_same 4) (hr : meth.sig.returnType = (some .int)) (hlocks : meth.locks = false) (hin : meth.name = yX11_same.name) (rs : Int32)  : ∀ (n : Nat) (a0 : Nat) (a1 : Int32) (a2 : Int32) (a3 : Int32) (H : Heap) (locs : List Loc) (ls : Array Slot), L_X11_same_20 f  n a0 a1 a2 a3 = some rs → xY G z f s H locs → lv_has ls 4 [(0, .ref a0), (1, .int a1), (2, .int a2), (3, .int a3)] → W p l e rm_X11_same s m args below meth c H locs 0 0 (MQ below (xQ G (some (.int rs)) z f) args s rm_X11_same.cells rm_X11_same.slots (xA G)) (F0 m 20 ls []) := by
  intro n
  induction n with
  | zero => intro a0 a1 a2 a3 H locs ls h Y hl; cases h
  | succ n ih => intro a0 a1 a2 a3 H locs ls h Y hl; exact w_X11_same_20 X hr hlocks hin rs _ ih a0 a1 a2 a3 _ _ _ h Y hl
set_option maxRecDepth 100000 in
set_option maxHeartbeats 4000000 in
theorem c_X11_same (l : Launch) (G : xG) (z : Nat) (f : xHp) (h0 : Nat) (p1 : Int32) (p2 : Int32) (rs : Int32) (h : F_X11_same f h0 p1 p2 = some rs) : xM G l yX11_same cX11_same 4 (some .int) rm_X11_same [.ref h0, .int p1, .int p2] z f (some (.int rs)) z f := by
  refine xM_of (by decide) (Nat.le_of_ble_eq_true rfl) ?_
  intro p e s m below meth c ls X hr hlocks hin Y hl
  have hl : lv_has ls 4 [(0, .ref h0), (1, .int p1), (2, .int p2)] := hl
  have hx := X.1.1
  have hb := X.1.2.1
  unfold F_X11_same at h
  refine lv_aload_n hx hb dX11_same_0 rfl (lv_at hl 0 rfl) ?_
  refine lv_iload_n hx hb dX11_same_1 rfl (lv_at hl 1 rfl) ?_
  by_cases c1 : hKd f h0 = some 10
  · replace h := Eq.trans (if_pos c1).symm h
    replace h := xb h
    obtain ⟨q2, eq2, h⟩ := h
    refine q_callV X Y hl.1 (rest := []) (As := [.int p1]) (c_X11_isPoly l G z f h0 p1 _ eq2) cd_X11_isPoly lv_X11_109_10 c1 ⟨(Nat.le_of_ble_eq_true rfl), (Nat.le_of_ble_eq_true rfl)⟩ ⟨(Nat.le_of_ble_eq_true rfl), (Nat.le_of_ble_eq_true rfl)⟩ rfl rfl (Nat.le_of_ble_eq_true rfl) dX11_same_2 (fun H locs Y => ?_)
    refine W.eq (g2 := F0 m 5 ls [.int q2]) rfl ?_
    refine lv_if_eq (tgt := 16) hx hb dX11_same_5 (by decide) (fun c3 => ?_) (fun c3 => ?_)
    · replace h := Eq.trans (if_pos c3).symm h
      refine lv_iconst (v := -1) hx hb dX11_same_16 (by decide) ?_
      replace h := Option.some.inj h
      subst h
      exact q_reti X Y hr hlocks (Nat.le_of_ble_eq_true rfl) (Nat.le_of_ble_eq_true rfl) dX11_same_17
    · replace h := Eq.trans (if_neg c3).symm h
      refine lv_aload_n hx hb dX11_same_8 rfl (lv_at hl 0 rfl) ?_
      refine lv_iload_n hx hb dX11_same_9 rfl (lv_at hl 2 rfl) ?_
      by_cases c4 : hKd f h0 = some 10
      · replace h := Eq.trans (if_pos c4).symm h
        replace h := xb h
        obtain ⟨q5, eq5, h⟩ := h
        refine q_callV X Y hl.1 (rest := []) (As := [.int p2]) (c_X11_isPoly l G z f h0 p2 _ eq5) cd_X11_isPoly lv_X11_109_10 c4 ⟨(Nat.le_of_ble_eq_true rfl), (Nat.le_of_ble_eq_true rfl)⟩ ⟨(Nat.le_of_ble_eq_true rfl), (Nat.le_of_ble_eq_true rfl)⟩ rfl rfl (Nat.le_of_ble_eq_true rfl) dX11_same_10 (fun H locs Y => ?_)
        refine W.eq (g2 := F0 m 13 ls [.int q5]) rfl ?_
        refine lv_if_ne (tgt := 18) hx hb dX11_same_13 (by decide) (fun c6 => ?_) (fun c6 => ?_)
        · replace h := Eq.trans (if_neg c6).symm h
          refine lv_iconst (v := 0) hx hb dX11_same_18 (by decide) ?_
          refine lv_istore_n (lv' := [(3, .int (0 : Int32)), (0, .ref h0), (1, .int p1), (2, .int p2)]) hx hb dX11_same_19 rfl hl (by decide) rfl (fun ls hl => ?_)
          refine W.widen (k := 0) (n := 0) (Nat.le_of_ble_eq_true rfl) (Nat.le_of_ble_eq_true rfl) ?_
          exact lw_X11_same_20 X hr hlocks hin rs  xfuel h0 p1 p2 (0 : Int32) _ _ _ h Y (lv_sub hl [1, 2, 3, 0] rfl)
        · replace h := Eq.trans (if_pos c6).symm h
          refine lv_iconst (v := -1) hx hb dX11_same_16 (by decide) ?_
          replace h := Option.some.inj h
          subst h
          exact q_reti X Y hr hlocks (Nat.le_of_ble_eq_true rfl) (Nat.le_of_ble_eq_true rfl) dX11_same_17
      replace h := Eq.trans (if_neg c4).symm h
      cases h
  replace h := Eq.trans (if_neg c1).symm h
  cases h
/-! NeverBelowModel.isRange(II)Z -/
abbrev rm_X11_isRange : Room := { frames := 1, cells := 0, slots := 0, locals := 25 }
def F_X11_isRange (f : xHp) (p0 : Int32) (p1 : Int32) : Option (Int32) := Option.bind (F_X11_within f p0.toInt64 (-2048 : Int64) (2048 : Int64)) fun q1 => if q1 = 0 then (some (0 : Int32)) else (Option.bind (F_X11_within f p1.toInt64 (-2048 : Int64) (2048 : Int64)) fun q3 => if q3 = 0 then (some (0 : Int32)) else (if p1 ≤ p0 then (some (0 : Int32)) else (some (1 : Int32))))
set_option maxRecDepth 100000 in
set_option maxHeartbeats 4000000 in
theorem c_X11_isRange (l : Launch) (G : xG) (z : Nat) (f : xHp) (p0 : Int32) (p1 : Int32) (rs : Int32) (h : F_X11_isRange f p0 p1 = some rs) : xM G l yX11_isRange cX11_isRange 2 (some .boolean) rm_X11_isRange [.int p0, .int p1] z f (some (.int rs)) z f := by
  refine xM_of (by decide) (Nat.le_of_ble_eq_true rfl) ?_
  intro p e s m below meth c ls X hr hlocks hin Y hl
  have hl : lv_has ls 2 [(0, .int p0), (1, .int p1)] := hl
  have hx := X.1.1
  have hb := X.1.2.1
  unfold F_X11_isRange at h
  refine lv_iload_n hx hb dX11_isRange_0 rfl (lv_at hl 0 rfl) ?_
  refine lv_i2l hx hb dX11_isRange_1 rfl ?_
  refine lv_ldc2 (v := -2048) hx hb X.1.2.2.2.1 (X.1.2.2.2.2 _ xw_988) dX11_isRange_2 ?_
  refine lv_ldc2 (v := 2048) hx hb X.1.2.2.2.1 (X.1.2.2.2.2 _ xw_989) dX11_isRange_5 ?_
  replace h := xb h
  obtain ⟨q1, eq1, h⟩ := h
  refine q_callS X Y hl.1 (rest := []) (As := [.long p0.toInt64, .long (-2048 : Int64), .long (2048 : Int64)]) (c_X11_within l G z f p0.toInt64 (-2048 : Int64) (2048 : Int64) _ eq1) cd_X11_within ls_X11_82 ⟨(Nat.le_of_ble_eq_true rfl), (Nat.le_of_ble_eq_true rfl)⟩ ⟨(Nat.le_of_ble_eq_true rfl), (Nat.le_of_ble_eq_true rfl)⟩ rfl rfl (Nat.le_of_ble_eq_true rfl) dX11_isRange_8 (fun H locs Y => ?_)
  refine W.eq (g2 := F0 m 11 ls [.int q1]) rfl ?_
  refine lv_if_eq (tgt := 37) hx hb dX11_isRange_11 (by decide) (fun c2 => ?_) (fun c2 => ?_)
  · replace h := Eq.trans (if_pos c2).symm h
    refine lv_iconst (v := 0) hx hb dX11_isRange_37 (by decide) ?_
    replace h := Option.some.inj h
    subst h
    exact q_retz (v := (0 : Int32)) X Y hr hlocks rfl (Nat.le_of_ble_eq_true rfl) (Nat.le_of_ble_eq_true rfl) dX11_isRange_38
  · replace h := Eq.trans (if_neg c2).symm h
    refine lv_iload_n hx hb dX11_isRange_14 rfl (lv_at hl 1 rfl) ?_
    refine lv_i2l hx hb dX11_isRange_15 rfl ?_
    refine lv_ldc2 (v := -2048) hx hb X.1.2.2.2.1 (X.1.2.2.2.2 _ xw_988) dX11_isRange_16 ?_
    refine lv_ldc2 (v := 2048) hx hb X.1.2.2.2.1 (X.1.2.2.2.2 _ xw_989) dX11_isRange_19 ?_
    replace h := xb h
    obtain ⟨q3, eq3, h⟩ := h
    refine q_callS X Y hl.1 (rest := []) (As := [.long p1.toInt64, .long (-2048 : Int64), .long (2048 : Int64)]) (c_X11_within l G z f p1.toInt64 (-2048 : Int64) (2048 : Int64) _ eq3) cd_X11_within ls_X11_82 ⟨(Nat.le_of_ble_eq_true rfl), (Nat.le_of_ble_eq_true rfl)⟩ ⟨(Nat.le_of_ble_eq_true rfl), (Nat.le_of_ble_eq_true rfl)⟩ rfl rfl (Nat.le_of_ble_eq_true rfl) dX11_isRange_22 (fun H locs Y => ?_)
    refine W.eq (g2 := F0 m 25 ls [.int q3]) rfl ?_
    refine lv_if_eq (tgt := 37) hx hb dX11_isRange_25 (by decide) (fun c4 => ?_) (fun c4 => ?_)
    · replace h := Eq.trans (if_pos c4).symm h
      refine lv_iconst (v := 0) hx hb dX11_isRange_37 (by decide) ?_
      replace h := Option.some.inj h
      subst h
      exact q_retz (v := (0 : Int32)) X Y hr hlocks rfl (Nat.le_of_ble_eq_true rfl) (Nat.le_of_ble_eq_true rfl) dX11_isRange_38
    · replace h := Eq.trans (if_neg c4).symm h
      refine lv_iload_n hx hb dX11_isRange_28 rfl (lv_at hl 0 rfl) ?_
      refine lv_iload_n hx hb dX11_isRange_29 rfl (lv_at hl 1 rfl) ?_
      refine lv_icmp_ge (tgt := 37) hx hb dX11_isRange_30 (by decide) (fun c5 => ?_) (fun c5 => ?_)
      · replace h := Eq.trans (if_pos c5).symm h
        refine lv_iconst (v := 0) hx hb dX11_isRange_37 (by decide) ?_
        replace h := Option.some.inj h
        subst h
        exact q_retz (v := (0 : Int32)) X Y hr hlocks rfl (Nat.le_of_ble_eq_true rfl) (Nat.le_of_ble_eq_true rfl) dX11_isRange_38
      · replace h := Eq.trans (if_neg c5).symm h
        refine lv_iconst (v := 1) hx hb dX11_isRange_33 (by decide) ?_
        refine lv_goto (tgt := 38) hx hb dX11_isRange_34 (by decide) ?_
        replace h := Option.some.inj h
        subst h
        exact q_retz (v := (1 : Int32)) X Y hr hlocks rfl (Nat.le_of_ble_eq_true rfl) (Nat.le_of_ble_eq_true rfl) dX11_isRange_38
/-! NeverBelowModel.newBox(IIII)I -/
abbrev rm_X11_newBox : Room := { frames := 0, cells := 0, slots := 0, locals := 0 }
def F_X11_newBox (f : xHp) (h0 : Nat) (p1 : Int32) (p2 : Int32) (p3 : Int32) (p4 : Int32) : Option (Int32 × xHp) := Option.bind (hN f h0 [(10, 9)]) fun v1 => Option.bind (hI f h0 [(10, 8)]) fun v2 => Option.bind (hIst f v1 ((4 : Int32) * v2) p1) fun f3 => Option.bind (hN f3 h0 [(10, 9)]) fun v4 => Option.bind (hI f3 h0 [(10, 8)]) fun v5 => Option.bind (hIst f3 v4 (((4 : Int32) * v5) + (1 : Int32)) p2) fun f6 => Option.bind (hN f6 h0 [(10, 9)]) fun v7 => Option.bind (hI f6 h0 [(10, 8)]) fun v8 => Option.bind (hIst f6 v7 (((4 : Int32) * v8) + (2 : Int32)) p3) fun f9 => Option.bind (hN f9 h0 [(10, 9)]) fun v10 => Option.bind (hI f9 h0 [(10, 8)]) fun v11 => Option.bind (hIst f9 v10 (((4 : Int32) * v11) + (3 : Int32)) p4) fun f12 => Option.bind (hI f12 h0 [(10, 8)]) fun v13 => Option.bind (hPut f12 h0 [(10, 8)] (.int (v13 + (1 : Int32)))) fun f14 => Option.bind (hI f14 h0 [(10, 8)]) fun v15 => some ((v15 - (1 : Int32)), f14)
set_option maxRecDepth 100000 in
set_option maxHeartbeats 4000000 in
theorem c_X11_newBox (l : Launch) (G : xG) (z : Nat) (f : xHp) (h0 : Nat) (p1 : Int32) (p2 : Int32) (p3 : Int32) (p4 : Int32) (rs : Int32 × xHp) (h : F_X11_newBox f h0 p1 p2 p3 p4 = some rs) : xM G l yX11_newBox cX11_newBox 5 (some .int) rm_X11_newBox [.ref h0, .int p1, .int p2, .int p3, .int p4] z f (some (.int rs.1)) z rs.2 := by
  refine xM_of (by decide) (Nat.le_of_ble_eq_true rfl) ?_
  intro p e s m below meth c ls X hr hlocks hin Y hl
  have hl : lv_has ls 5 [(0, .ref h0), (1, .int p1), (2, .int p2), (3, .int p3), (4, .int p4)] := hl
  have hx := X.1.1
  have hb := X.1.2.1
  unfold F_X11_newBox at h
  refine lv_aload_n hx hb dX11_newBox_0 rfl (lv_at hl 0 rfl) ?_
  replace h := xb h
  obtain ⟨v1, ev1, h⟩ := h
  refine q_getN X Y fl_X11_26 ev1 dX11_newBox_1 ?_
  refine lv_iconst (v := 4) hx hb dX11_newBox_4 (by decide) ?_
  refine lv_aload_n hx hb dX11_newBox_5 rfl (lv_at hl 0 rfl) ?_
  replace h := xb h
  obtain ⟨v2, ev2, h⟩ := h
  refine q_getI X Y fl_X11_131 ev2 dX11_newBox_6 ?_
  refine lv_imul hx hb dX11_newBox_9 ?_
  refine lv_iload_n hx hb dX11_newBox_10 rfl (lv_at hl 1 rfl) ?_
  replace h := xb h
  obtain ⟨f3, ef3, h⟩ := h
  refine q_iast X Y ef3 dX11_newBox_11 (fun H locs Y => ?_)
  refine lv_aload_n hx hb dX11_newBox_12 rfl (lv_at hl 0 rfl) ?_
  replace h := xb h
  obtain ⟨v4, ev4, h⟩ := h
  refine q_getN X Y fl_X11_26 ev4 dX11_newBox_13 ?_
  refine lv_iconst (v := 4) hx hb dX11_newBox_16 (by decide) ?_
  refine lv_aload_n hx hb dX11_newBox_17 rfl (lv_at hl 0 rfl) ?_
  replace h := xb h
  obtain ⟨v5, ev5, h⟩ := h
  refine q_getI X Y fl_X11_131 ev5 dX11_newBox_18 ?_
  refine lv_imul hx hb dX11_newBox_21 ?_
  refine lv_iconst (v := 1) hx hb dX11_newBox_22 (by decide) ?_
  refine lv_iadd hx hb dX11_newBox_23 ?_
  refine lv_iload_n hx hb dX11_newBox_24 rfl (lv_at hl 2 rfl) ?_
  replace h := xb h
  obtain ⟨f6, ef6, h⟩ := h
  refine q_iast X Y ef6 dX11_newBox_25 (fun H locs Y => ?_)
  refine lv_aload_n hx hb dX11_newBox_26 rfl (lv_at hl 0 rfl) ?_
  replace h := xb h
  obtain ⟨v7, ev7, h⟩ := h
  refine q_getN X Y fl_X11_26 ev7 dX11_newBox_27 ?_
  refine lv_iconst (v := 4) hx hb dX11_newBox_30 (by decide) ?_
  refine lv_aload_n hx hb dX11_newBox_31 rfl (lv_at hl 0 rfl) ?_
  replace h := xb h
  obtain ⟨v8, ev8, h⟩ := h
  refine q_getI X Y fl_X11_131 ev8 dX11_newBox_32 ?_
  refine lv_imul hx hb dX11_newBox_35 ?_
  refine lv_iconst (v := 2) hx hb dX11_newBox_36 (by decide) ?_
  refine lv_iadd hx hb dX11_newBox_37 ?_
  refine lv_iload_n hx hb dX11_newBox_38 rfl (lv_at hl 3 rfl) ?_
  replace h := xb h
  obtain ⟨f9, ef9, h⟩ := h
  refine q_iast X Y ef9 dX11_newBox_39 (fun H locs Y => ?_)
  refine lv_aload_n hx hb dX11_newBox_40 rfl (lv_at hl 0 rfl) ?_
  replace h := xb h
  obtain ⟨v10, ev10, h⟩ := h
  refine q_getN X Y fl_X11_26 ev10 dX11_newBox_41 ?_
  refine lv_iconst (v := 4) hx hb dX11_newBox_44 (by decide) ?_
  refine lv_aload_n hx hb dX11_newBox_45 rfl (lv_at hl 0 rfl) ?_
  replace h := xb h
  obtain ⟨v11, ev11, h⟩ := h
  refine q_getI X Y fl_X11_131 ev11 dX11_newBox_46 ?_
  refine lv_imul hx hb dX11_newBox_49 ?_
  refine lv_iconst (v := 3) hx hb dX11_newBox_50 (by decide) ?_
  refine lv_iadd hx hb dX11_newBox_51 ?_
  refine lv_iload hx hb dX11_newBox_52 (lv_at hl 4 rfl) ?_
  replace h := xb h
  obtain ⟨f12, ef12, h⟩ := h
  refine q_iast X Y ef12 dX11_newBox_54 (fun H locs Y => ?_)
  refine lv_aload_n hx hb dX11_newBox_55 rfl (lv_at hl 0 rfl) ?_
  refine lv_dup hx hb dX11_newBox_56 rfl ?_
  replace h := xb h
  obtain ⟨v13, ev13, h⟩ := h
  refine q_getI X Y fl_X11_131 ev13 dX11_newBox_57 ?_
  refine lv_iconst (v := 1) hx hb dX11_newBox_60 (by decide) ?_
  refine lv_iadd hx hb dX11_newBox_61 ?_
  replace h := xb h
  obtain ⟨f14, ef14, h⟩ := h
  refine q_put X Y fp_X11_131 rfl rfl ef14 dX11_newBox_62 (fun H locs Y => ?_)
  refine lv_aload_n hx hb dX11_newBox_65 rfl (lv_at hl 0 rfl) ?_
  replace h := xb h
  obtain ⟨v15, ev15, h⟩ := h
  refine q_getI X Y fl_X11_131 ev15 dX11_newBox_66 ?_
  refine lv_iconst (v := 1) hx hb dX11_newBox_69 (by decide) ?_
  refine lv_isub hx hb dX11_newBox_70 ?_
  replace h := Option.some.inj h
  subst h
  exact q_reti X Y hr hlocks (Nat.le_of_ble_eq_true rfl) (Nat.le_of_ble_eq_true rfl) dX11_newBox_71
/-! NeverBelowModel.box(IIII)I -/
abbrev rm_X11_box : Room := { frames := 2, cells := 0, slots := 0, locals := 46 }
def F_X11_box (f : xHp) (h0 : Nat) (p1 : Int32) (p2 : Int32) (p3 : Int32) (p4 : Int32) : Option (Int32 × xHp) := Option.bind (F_X11_isRange f p1 p2) fun q1 => if q1 = 0 then (some ((-2 : Int32), f)) else (Option.bind (F_X11_isRange f p3 p4) fun q3 => if q3 = 0 then (some ((-2 : Int32), f)) else (Option.bind (hI f h0 [(10, 8)]) fun v5 => if v5 = (30 : Int32) then (some ((-4 : Int32), f)) else (if hKd f h0 = some 10 then (Option.bind (F_X11_newBox f h0 p1 p2 p3 p4) fun q8 => some (q8.1, q8.2)) else none)))
set_option maxRecDepth 100000 in
set_option maxHeartbeats 4000000 in
theorem c_X11_box (l : Launch) (G : xG) (z : Nat) (f : xHp) (h0 : Nat) (p1 : Int32) (p2 : Int32) (p3 : Int32) (p4 : Int32) (rs : Int32 × xHp) (h : F_X11_box f h0 p1 p2 p3 p4 = some rs) : xM G l yX11_box cX11_box 5 (some .int) rm_X11_box [.ref h0, .int p1, .int p2, .int p3, .int p4] z f (some (.int rs.1)) z rs.2 := by
  refine xM_of (by decide) (Nat.le_of_ble_eq_true rfl) ?_
  intro p e s m below meth c ls X hr hlocks hin Y hl
  have hl : lv_has ls 5 [(0, .ref h0), (1, .int p1), (2, .int p2), (3, .int p3), (4, .int p4)] := hl
  have hx := X.1.1
  have hb := X.1.2.1
  unfold F_X11_box at h
  refine lv_iload_n hx hb dX11_box_0 rfl (lv_at hl 1 rfl) ?_
  refine lv_iload_n hx hb dX11_box_1 rfl (lv_at hl 2 rfl) ?_
  replace h := xb h
  obtain ⟨q1, eq1, h⟩ := h
  refine q_callS X Y hl.1 (rest := []) (As := [.int p1, .int p2]) (c_X11_isRange l G z f p1 p2 _ eq1) cd_X11_isRange ls_X11_134 ⟨(Nat.le_of_ble_eq_true rfl), (Nat.le_of_ble_eq_true rfl)⟩ ⟨(Nat.le_of_ble_eq_true rfl), (Nat.le_of_ble_eq_true rfl)⟩ rfl rfl (Nat.le_of_ble_eq_true rfl) dX11_box_2 (fun H locs Y => ?_)
  refine W.eq (g2 := F0 m 5 ls [.int q1]) rfl ?_
  refine lv_if_eq (tgt := 17) hx hb dX11_box_5 (by decide) (fun c2 => ?_) (fun c2 => ?_)
  · replace h := Eq.trans (if_pos c2).symm h
    refine lv_bipush (v := -2) hx hb dX11_box_17 (by decide) ?_
    replace h := Option.some.inj h
    subst h
    exact q_reti X Y hr hlocks (Nat.le_of_ble_eq_true rfl) (Nat.le_of_ble_eq_true rfl) dX11_box_19
  · replace h := Eq.trans (if_neg c2).symm h
    refine lv_iload_n hx hb dX11_box_8 rfl (lv_at hl 3 rfl) ?_
    refine lv_iload hx hb dX11_box_9 (lv_at hl 4 rfl) ?_
    replace h := xb h
    obtain ⟨q3, eq3, h⟩ := h
    refine q_callS X Y hl.1 (rest := []) (As := [.int p3, .int p4]) (c_X11_isRange l G z f p3 p4 _ eq3) cd_X11_isRange ls_X11_134 ⟨(Nat.le_of_ble_eq_true rfl), (Nat.le_of_ble_eq_true rfl)⟩ ⟨(Nat.le_of_ble_eq_true rfl), (Nat.le_of_ble_eq_true rfl)⟩ rfl rfl (Nat.le_of_ble_eq_true rfl) dX11_box_11 (fun H locs Y => ?_)
    refine W.eq (g2 := F0 m 14 ls [.int q3]) rfl ?_
    refine lv_if_ne (tgt := 20) hx hb dX11_box_14 (by decide) (fun c4 => ?_) (fun c4 => ?_)
    · replace h := Eq.trans (if_neg c4).symm h
      refine lv_aload_n hx hb dX11_box_20 rfl (lv_at hl 0 rfl) ?_
      replace h := xb h
      obtain ⟨v5, ev5, h⟩ := h
      refine q_getI X Y fl_X11_131 ev5 dX11_box_21 ?_
      refine lv_bipush (v := 30) hx hb dX11_box_24 (by decide) ?_
      refine lv_icmp_ne (tgt := 34) hx hb dX11_box_26 (by decide) (fun c6 => ?_) (fun c6 => ?_)
      · replace h := Eq.trans (if_neg c6).symm h
        refine lv_aload_n hx hb dX11_box_34 rfl (lv_at hl 0 rfl) ?_
        refine lv_iload_n hx hb dX11_box_35 rfl (lv_at hl 1 rfl) ?_
        refine lv_iload_n hx hb dX11_box_36 rfl (lv_at hl 2 rfl) ?_
        refine lv_iload_n hx hb dX11_box_37 rfl (lv_at hl 3 rfl) ?_
        refine lv_iload hx hb dX11_box_38 (lv_at hl 4 rfl) ?_
        by_cases c7 : hKd f h0 = some 10
        · replace h := Eq.trans (if_pos c7).symm h
          replace h := xb h
          obtain ⟨q8, eq8, h⟩ := h
          refine q_callV X Y hl.1 (rest := []) (As := [.int p1, .int p2, .int p3, .int p4]) (c_X11_newBox l G z f h0 p1 p2 p3 p4 _ eq8) cd_X11_newBox lv_X11_138_10 c7 ⟨(Nat.le_of_ble_eq_true rfl), (Nat.le_of_ble_eq_true rfl)⟩ ⟨(Nat.le_of_ble_eq_true rfl), (Nat.le_of_ble_eq_true rfl)⟩ rfl rfl (Nat.le_of_ble_eq_true rfl) dX11_box_40 (fun H locs Y => ?_)
          refine W.eq (g2 := F0 m 43 ls [.int q8.1]) rfl ?_
          replace h := Option.some.inj h
          subst h
          exact q_reti X Y hr hlocks (Nat.le_of_ble_eq_true rfl) (Nat.le_of_ble_eq_true rfl) dX11_box_43
        replace h := Eq.trans (if_neg c7).symm h
        cases h
      · replace h := Eq.trans (if_pos c6).symm h
        refine lv_bipush (v := -4) hx hb dX11_box_29 (by decide) ?_
        refine lv_goto (tgt := 43) hx hb dX11_box_31 (by decide) ?_
        replace h := Option.some.inj h
        subst h
        exact q_reti X Y hr hlocks (Nat.le_of_ble_eq_true rfl) (Nat.le_of_ble_eq_true rfl) dX11_box_43
    · replace h := Eq.trans (if_pos c4).symm h
      refine lv_bipush (v := -2) hx hb dX11_box_17 (by decide) ?_
      replace h := Option.some.inj h
      subst h
      exact q_reti X Y hr hlocks (Nat.le_of_ble_eq_true rfl) (Nat.le_of_ble_eq_true rfl) dX11_box_19
/-! NeverBelowModel.isBox(I)Z -/
abbrev rm_X11_isBox : Room := { frames := 0, cells := 0, slots := 0, locals := 0 }
def F_X11_isBox (f : xHp) (h0 : Nat) (p1 : Int32) : Option (Int32) := if p1 < 0 then (some (0 : Int32)) else (Option.bind (hI f h0 [(10, 8)]) fun v2 => if v2 ≤ p1 then (some (0 : Int32)) else (some (1 : Int32)))
set_option maxRecDepth 100000 in
set_option maxHeartbeats 4000000 in
theorem c_X11_isBox (l : Launch) (G : xG) (z : Nat) (f : xHp) (h0 : Nat) (p1 : Int32) (rs : Int32) (h : F_X11_isBox f h0 p1 = some rs) : xM G l yX11_isBox cX11_isBox 2 (some .boolean) rm_X11_isBox [.ref h0, .int p1] z f (some (.int rs)) z f := by
  refine xM_of (by decide) (Nat.le_of_ble_eq_true rfl) ?_
  intro p e s m below meth c ls X hr hlocks hin Y hl
  have hl : lv_has ls 2 [(0, .ref h0), (1, .int p1)] := hl
  have hx := X.1.1
  have hb := X.1.2.1
  unfold F_X11_isBox at h
  refine lv_iload_n hx hb dX11_isBox_0 rfl (lv_at hl 1 rfl) ?_
  refine lv_if_lt (tgt := 16) hx hb dX11_isBox_1 (by decide) (fun c1 => ?_) (fun c1 => ?_)
  · replace h := Eq.trans (if_pos c1).symm h
    refine lv_iconst (v := 0) hx hb dX11_isBox_16 (by decide) ?_
    replace h := Option.some.inj h
    subst h
    exact q_retz (v := (0 : Int32)) X Y hr hlocks rfl (Nat.le_of_ble_eq_true rfl) (Nat.le_of_ble_eq_true rfl) dX11_isBox_17
  · replace h := Eq.trans (if_neg c1).symm h
    refine lv_iload_n hx hb dX11_isBox_4 rfl (lv_at hl 1 rfl) ?_
    refine lv_aload_n hx hb dX11_isBox_5 rfl (lv_at hl 0 rfl) ?_
    replace h := xb h
    obtain ⟨v2, ev2, h⟩ := h
    refine q_getI X Y fl_X11_131 ev2 dX11_isBox_6 ?_
    refine lv_icmp_ge (tgt := 16) hx hb dX11_isBox_9 (by decide) (fun c3 => ?_) (fun c3 => ?_)
    · replace h := Eq.trans (if_pos c3).symm h
      refine lv_iconst (v := 0) hx hb dX11_isBox_16 (by decide) ?_
      replace h := Option.some.inj h
      subst h
      exact q_retz (v := (0 : Int32)) X Y hr hlocks rfl (Nat.le_of_ble_eq_true rfl) (Nat.le_of_ble_eq_true rfl) dX11_isBox_17
    · replace h := Eq.trans (if_neg c3).symm h
      refine lv_iconst (v := 1) hx hb dX11_isBox_12 (by decide) ?_
      refine lv_goto (tgt := 17) hx hb dX11_isBox_13 (by decide) ?_
      replace h := Option.some.inj h
      subst h
      exact q_retz (v := (1 : Int32)) X Y hr hlocks rfl (Nat.le_of_ble_eq_true rfl) (Nat.le_of_ble_eq_true rfl) dX11_isBox_17
/-! NeverBelowModel.side(II)I -/
abbrev rm_X11_side : Room := { frames := 1, cells := 0, slots := 0, locals := 25 }
def F_X11_side (f : xHp) (h0 : Nat) (p1 : Int32) (p2 : Int32) : Option (Int32) := if hKd f h0 = some 10 then (Option.bind (F_X11_isBox f h0 p1) fun q2 => if q2 = 0 then (some (-1 : Int32)) else (Option.bind (F_X11_within f p2.toInt64 (0 : Int64) (3 : Int64)) fun q4 => if q4 = 0 then (some (-2 : Int32)) else (Option.bind (hN f h0 [(10, 9)]) fun v6 => Option.bind (hIld f v6 (((4 : Int32) * p1) + p2)) fun v7 => some v7))) else none
set_option maxRecDepth 100000 in
set_option maxHeartbeats 4000000 in
theorem c_X11_side (l : Launch) (G : xG) (z : Nat) (f : xHp) (h0 : Nat) (p1 : Int32) (p2 : Int32) (rs : Int32) (h : F_X11_side f h0 p1 p2 = some rs) : xM G l yX11_side cX11_side 3 (some .int) rm_X11_side [.ref h0, .int p1, .int p2] z f (some (.int rs)) z f := by
  refine xM_of (by decide) (Nat.le_of_ble_eq_true rfl) ?_
  intro p e s m below meth c ls X hr hlocks hin Y hl
  have hl : lv_has ls 3 [(0, .ref h0), (1, .int p1), (2, .int p2)] := hl
  have hx := X.1.1
  have hb := X.1.2.1
  unfold F_X11_side at h
  refine lv_aload_n hx hb dX11_side_0 rfl (lv_at hl 0 rfl) ?_
  refine lv_iload_n hx hb dX11_side_1 rfl (lv_at hl 1 rfl) ?_
  by_cases c1 : hKd f h0 = some 10
  · replace h := Eq.trans (if_pos c1).symm h
    replace h := xb h
    obtain ⟨q2, eq2, h⟩ := h
    refine q_callV X Y hl.1 (rest := []) (As := [.int p1]) (c_X11_isBox l G z f h0 p1 _ eq2) cd_X11_isBox lv_X11_142_10 c1 ⟨(Nat.le_of_ble_eq_true rfl), (Nat.le_of_ble_eq_true rfl)⟩ ⟨(Nat.le_of_ble_eq_true rfl), (Nat.le_of_ble_eq_true rfl)⟩ rfl rfl (Nat.le_of_ble_eq_true rfl) dX11_side_2 (fun H locs Y => ?_)
    refine W.eq (g2 := F0 m 5 ls [.int q2]) rfl ?_
    refine lv_if_ne (tgt := 10) hx hb dX11_side_5 (by decide) (fun c3 => ?_) (fun c3 => ?_)
    · replace h := Eq.trans (if_neg c3).symm h
      refine lv_iload_n hx hb dX11_side_10 rfl (lv_at hl 2 rfl) ?_
      refine lv_i2l hx hb dX11_side_11 rfl ?_
      refine lv_lconst (v := 0) hx hb dX11_side_12 (by decide) ?_
      refine lv_ldc2 (v := 3) hx hb X.1.2.2.2.1 (X.1.2.2.2.2 _ xw_919) dX11_side_13 ?_
      replace h := xb h
      obtain ⟨q4, eq4, h⟩ := h
      refine q_callS X Y hl.1 (rest := []) (As := [.long p2.toInt64, .long (0 : Int64), .long (3 : Int64)]) (c_X11_within l G z f p2.toInt64 (0 : Int64) (3 : Int64) _ eq4) cd_X11_within ls_X11_82 ⟨(Nat.le_of_ble_eq_true rfl), (Nat.le_of_ble_eq_true rfl)⟩ ⟨(Nat.le_of_ble_eq_true rfl), (Nat.le_of_ble_eq_true rfl)⟩ rfl rfl (Nat.le_of_ble_eq_true rfl) dX11_side_16 (fun H locs Y => ?_)
      refine W.eq (g2 := F0 m 19 ls [.int q4]) rfl ?_
      refine lv_if_eq (tgt := 35) hx hb dX11_side_19 (by decide) (fun c5 => ?_) (fun c5 => ?_)
      · replace h := Eq.trans (if_pos c5).symm h
        refine lv_bipush (v := -2) hx hb dX11_side_35 (by decide) ?_
        replace h := Option.some.inj h
        subst h
        exact q_reti X Y hr hlocks (Nat.le_of_ble_eq_true rfl) (Nat.le_of_ble_eq_true rfl) dX11_side_37
      · replace h := Eq.trans (if_neg c5).symm h
        refine lv_aload_n hx hb dX11_side_22 rfl (lv_at hl 0 rfl) ?_
        replace h := xb h
        obtain ⟨v6, ev6, h⟩ := h
        refine q_getN X Y fl_X11_26 ev6 dX11_side_23 ?_
        refine lv_iconst (v := 4) hx hb dX11_side_26 (by decide) ?_
        refine lv_iload_n hx hb dX11_side_27 rfl (lv_at hl 1 rfl) ?_
        refine lv_imul hx hb dX11_side_28 ?_
        refine lv_iload_n hx hb dX11_side_29 rfl (lv_at hl 2 rfl) ?_
        refine lv_iadd hx hb dX11_side_30 ?_
        replace h := xb h
        obtain ⟨v7, ev7, h⟩ := h
        refine q_iald X Y ev7 dX11_side_31 ?_
        refine lv_goto (tgt := 37) hx hb dX11_side_32 (by decide) ?_
        replace h := Option.some.inj h
        subst h
        exact q_reti X Y hr hlocks (Nat.le_of_ble_eq_true rfl) (Nat.le_of_ble_eq_true rfl) dX11_side_37
    · replace h := Eq.trans (if_pos c3).symm h
      refine lv_iconst (v := -1) hx hb dX11_side_8 (by decide) ?_
      replace h := Option.some.inj h
      subst h
      exact q_reti X Y hr hlocks (Nat.le_of_ble_eq_true rfl) (Nat.le_of_ble_eq_true rfl) dX11_side_9
  replace h := Eq.trans (if_neg c1).symm h
  cases h
/-! NeverBelowModel.along(IIJJ)J -/
abbrev rm_X11_along : Room := { frames := 0, cells := 0, slots := 0, locals := 0 }
def F_X11_along_78 (f : xHp)   (s0 : Int64) (s1 : Int64) : Option (Int64) := some (s1 * s0)
def F_X11_along_46 (f : xHp)   (s0 : Int64) (s1 : Int64) : Option (Int64) := some (s1 * s0)
def F_X11_along (f : xHp) (p0 : Int32) (p1 : Int32) (p2 : Int64) (p4 : Int64) : Option (Int64) := if p0 = 0 then (some (131072 : Int64)) else (if p0 = (1 : Int32) then (if p1 = 0 then (F_X11_along_46 f ((2 : Int64) * p2) (256 : Int64)) else (if p1 = (1 : Int32) then (F_X11_along_46 f (p2 + p4) (256 : Int64)) else (F_X11_along_46 f ((2 : Int64) * p4) (256 : Int64)))) else (if p1 = 0 then (F_X11_along_78 f (p2 * p2) (2 : Int64)) else (if p1 = (1 : Int32) then (F_X11_along_78 f (p2 * p4) (2 : Int64)) else (F_X11_along_78 f (p4 * p4) (2 : Int64)))))
set_option maxRecDepth 100000 in
set_option maxHeartbeats 4000000 in
theorem w_X11_along_78 {p : Program} {l : Launch} {e : Env} {s : State} {m : MethodId} {args : Array Value} {below : List Frame} {meth : Method} {c : Code} {G : xG} {z : Nat} {f : xHp} (X : xC G p m c s args RX11 cX11_along 6) (hr : meth.sig.returnType = (some .long)) (hlocks : meth.locks = false) (hin : meth.name = yX11_along.name) (rs : Int64)  (s0 : Int64) (s1 : Int64) (H : Heap) (locs : List Loc) (ls : Array Slot) (h : F_X11_along_78 f  s0 s1 = some rs) (Y : xY G z f s H locs) (hl : lv_has ls 6 []) : W p l e rm_X11_along s m args below meth c H locs 0 0 (MQ below (xQ G (some (.long rs)) z f) args s rm_X11_along.cells rm_X11_along.slots (xA G)) (F0 m 78 ls [.long s0, .long s1]) := by
  have hx := X.1.1
  have hb := X.1.2.1
  unfold F_X11_along_78 at h
  refine lv_lmul hx hb dX11_along_78 ?_
  replace h := Option.some.inj h
  subst h
  exact q_retl X Y hr hlocks (Nat.le_of_ble_eq_true rfl) (Nat.le_of_ble_eq_true rfl) dX11_along_79
set_option maxRecDepth 100000 in
set_option maxHeartbeats 4000000 in
theorem w_X11_along_46 {p : Program} {l : Launch} {e : Env} {s : State} {m : MethodId} {args : Array Value} {below : List Frame} {meth : Method} {c : Code} {G : xG} {z : Nat} {f : xHp} (X : xC G p m c s args RX11 cX11_along 6) (hr : meth.sig.returnType = (some .long)) (hlocks : meth.locks = false) (hin : meth.name = yX11_along.name) (rs : Int64)  (s0 : Int64) (s1 : Int64) (H : Heap) (locs : List Loc) (ls : Array Slot) (h : F_X11_along_46 f  s0 s1 = some rs) (Y : xY G z f s H locs) (hl : lv_has ls 6 []) : W p l e rm_X11_along s m args below meth c H locs 0 0 (MQ below (xQ G (some (.long rs)) z f) args s rm_X11_along.cells rm_X11_along.slots (xA G)) (F0 m 46 ls [.long s0, .long s1]) := by
  have hx := X.1.1
  have hb := X.1.2.1
  unfold F_X11_along_46 at h
  refine lv_lmul hx hb dX11_along_46 ?_
  replace h := Option.some.inj h
  subst h
  exact q_retl X Y hr hlocks (Nat.le_of_ble_eq_true rfl) (Nat.le_of_ble_eq_true rfl) dX11_along_47
set_option maxRecDepth 100000 in
set_option maxHeartbeats 4000000 in
theorem c_X11_along (l : Launch) (G : xG) (z : Nat) (f : xHp) (p0 : Int32) (p1 : Int32) (p2 : Int64) (p4 : Int64) (rs : Int64) (h : F_X11_along f p0 p1 p2 p4 = some rs) : xM G l yX11_along cX11_along 6 (some .long) rm_X11_along [.int p0, .int p1, .long p2, .long p4] z f (some (.long rs)) z f := by
  refine xM_of (by decide) (Nat.le_of_ble_eq_true rfl) ?_
  intro p e s m below meth c ls X hr hlocks hin Y hl
  have hl : lv_has ls 6 [(0, .int p0), (1, .int p1), (2, .long p2), (4, .long p4)] := hl
  have hx := X.1.1
  have hb := X.1.2.1
  unfold F_X11_along at h
  refine lv_iload_n hx hb dX11_along_0 rfl (lv_at hl 0 rfl) ?_
  refine lv_if_ne (tgt := 8) hx hb dX11_along_1 (by decide) (fun c1 => ?_) (fun c1 => ?_)
  · replace h := Eq.trans (if_neg c1).symm h
    refine lv_iload_n hx hb dX11_along_8 rfl (lv_at hl 0 rfl) ?_
    refine lv_iconst (v := 1) hx hb dX11_along_9 (by decide) ?_
    refine lv_icmp_ne (tgt := 48) hx hb dX11_along_10 (by decide) (fun c2 => ?_) (fun c2 => ?_)
    · replace h := Eq.trans (if_neg c2).symm h
      refine lv_ldc2 (v := 2) hx hb X.1.2.2.2.1 (X.1.2.2.2.2 _ xw_923) dX11_along_48 ?_
      refine lv_iload_n hx hb dX11_along_51 rfl (lv_at hl 1 rfl) ?_
      refine lv_if_ne (tgt := 61) hx hb dX11_along_52 (by decide) (fun c3 => ?_) (fun c3 => ?_)
      · replace h := Eq.trans (if_neg c3).symm h
        refine lv_iload_n hx hb dX11_along_61 rfl (lv_at hl 1 rfl) ?_
        refine lv_iconst (v := 1) hx hb dX11_along_62 (by decide) ?_
        refine lv_icmp_ne (tgt := 73) hx hb dX11_along_63 (by decide) (fun c4 => ?_) (fun c4 => ?_)
        · replace h := Eq.trans (if_neg c4).symm h
          refine lv_lload hx hb dX11_along_73 (lv_at hl 3 rfl) ?_
          refine lv_lload hx hb dX11_along_75 (lv_at hl 3 rfl) ?_
          refine lv_lmul hx hb dX11_along_77 ?_
          refine W.widen (k := 0) (n := 0) (Nat.le_of_ble_eq_true rfl) (Nat.le_of_ble_eq_true rfl) ?_
          exact w_X11_along_78 X hr hlocks hin rs   (p4 * p4) (2 : Int64) _ _ _ h Y (lv_sub hl [] rfl)
        · replace h := Eq.trans (if_pos c4).symm h
          refine lv_lload_n hx hb dX11_along_66 rfl (lv_at hl 2 rfl) ?_
          refine lv_lload hx hb dX11_along_67 (lv_at hl 3 rfl) ?_
          refine lv_lmul hx hb dX11_along_69 ?_
          refine lv_goto (tgt := 78) hx hb dX11_along_70 (by decide) ?_
          refine W.widen (k := 0) (n := 0) (Nat.le_of_ble_eq_true rfl) (Nat.le_of_ble_eq_true rfl) ?_
          exact w_X11_along_78 X hr hlocks hin rs   (p2 * p4) (2 : Int64) _ _ _ h Y (lv_sub hl [] rfl)
      · replace h := Eq.trans (if_pos c3).symm h
        refine lv_lload_n hx hb dX11_along_55 rfl (lv_at hl 2 rfl) ?_
        refine lv_lload_n hx hb dX11_along_56 rfl (lv_at hl 2 rfl) ?_
        refine lv_lmul hx hb dX11_along_57 ?_
        refine lv_goto (tgt := 78) hx hb dX11_along_58 (by decide) ?_
        refine W.widen (k := 0) (n := 0) (Nat.le_of_ble_eq_true rfl) (Nat.le_of_ble_eq_true rfl) ?_
        exact w_X11_along_78 X hr hlocks hin rs   (p2 * p2) (2 : Int64) _ _ _ h Y (lv_sub hl [] rfl)
    · replace h := Eq.trans (if_pos c2).symm h
      refine lv_ldc2 (v := 256) hx hb X.1.2.2.2.1 (X.1.2.2.2.2 _ xw_994) dX11_along_13 ?_
      refine lv_iload_n hx hb dX11_along_16 rfl (lv_at hl 1 rfl) ?_
      refine lv_if_ne (tgt := 28) hx hb dX11_along_17 (by decide) (fun c5 => ?_) (fun c5 => ?_)
      · replace h := Eq.trans (if_neg c5).symm h
        refine lv_iload_n hx hb dX11_along_28 rfl (lv_at hl 1 rfl) ?_
        refine lv_iconst (v := 1) hx hb dX11_along_29 (by decide) ?_
        refine lv_icmp_ne (tgt := 40) hx hb dX11_along_30 (by decide) (fun c6 => ?_) (fun c6 => ?_)
        · replace h := Eq.trans (if_neg c6).symm h
          refine lv_ldc2 (v := 2) hx hb X.1.2.2.2.1 (X.1.2.2.2.2 _ xw_923) dX11_along_40 ?_
          refine lv_lload hx hb dX11_along_43 (lv_at hl 3 rfl) ?_
          refine lv_lmul hx hb dX11_along_45 ?_
          refine W.widen (k := 0) (n := 0) (Nat.le_of_ble_eq_true rfl) (Nat.le_of_ble_eq_true rfl) ?_
          exact w_X11_along_46 X hr hlocks hin rs   ((2 : Int64) * p4) (256 : Int64) _ _ _ h Y (lv_sub hl [] rfl)
        · replace h := Eq.trans (if_pos c6).symm h
          refine lv_lload_n hx hb dX11_along_33 rfl (lv_at hl 2 rfl) ?_
          refine lv_lload hx hb dX11_along_34 (lv_at hl 3 rfl) ?_
          refine lv_ladd hx hb dX11_along_36 ?_
          refine lv_goto (tgt := 46) hx hb dX11_along_37 (by decide) ?_
          refine W.widen (k := 0) (n := 0) (Nat.le_of_ble_eq_true rfl) (Nat.le_of_ble_eq_true rfl) ?_
          exact w_X11_along_46 X hr hlocks hin rs   (p2 + p4) (256 : Int64) _ _ _ h Y (lv_sub hl [] rfl)
      · replace h := Eq.trans (if_pos c5).symm h
        refine lv_ldc2 (v := 2) hx hb X.1.2.2.2.1 (X.1.2.2.2.2 _ xw_923) dX11_along_20 ?_
        refine lv_lload_n hx hb dX11_along_23 rfl (lv_at hl 2 rfl) ?_
        refine lv_lmul hx hb dX11_along_24 ?_
        refine lv_goto (tgt := 46) hx hb dX11_along_25 (by decide) ?_
        refine W.widen (k := 0) (n := 0) (Nat.le_of_ble_eq_true rfl) (Nat.le_of_ble_eq_true rfl) ?_
        exact w_X11_along_46 X hr hlocks hin rs   ((2 : Int64) * p2) (256 : Int64) _ _ _ h Y (lv_sub hl [] rfl)
  · replace h := Eq.trans (if_pos c1).symm h
    refine lv_ldc2 (v := 131072) hx hb X.1.2.2.2.1 (X.1.2.2.2.2 _ xw_1033) dX11_along_4 ?_
    replace h := Option.some.inj h
    subst h
    exact q_retl X Y hr hlocks (Nat.le_of_ble_eq_true rfl) (Nat.le_of_ble_eq_true rfl) dX11_along_7

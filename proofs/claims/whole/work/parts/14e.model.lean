/-! NeverBelowModel.findSquares()Z -/
abbrev rm_X11_findSquares : Room := { frames := 0, cells := 0, slots := 0, locals := 0 }
def F_X11_findSquares_263 (k9 : xHp → Nat → Int64 → Int32 → Option (Int32 × xHp)) (f : xHp) (a0 : Nat) (a1 : Int64) (a3 : Int32) : Option (Int32 × xHp) := k9 f a0 a1 (a3 + 1)
def F_X11_findSquares_189 (k178 : xHp → Nat → Int64 → Int32 → Int64 → Int32 → Option (Int32 × xHp)) (k189 : xHp → Nat → Int64 → Int32 → Int64 → Int32 → Int32 → Option (Int32 × xHp)) (f : xHp) (a0 : Nat) (a1 : Int64) (a3 : Int32) (a4 : Int64) (a6 : Int32) (a7 : Int32) : Option (Int32 × xHp) := if (3 : Int32) ≤ a7 then (k178 f a0 a1 a3 a4 (a6 + 1)) else (Option.bind (hN f a0 [(10, 17)]) fun v2 => Option.bind (hN f a0 [(10, 17)]) fun v3 => Option.bind (hJld f v3 (((3 : Int32) * a6) + a7)) fun v4 => Option.bind (hN f a0 [(10, 17)]) fun v5 => Option.bind (hJld f v5 (((3 : Int32) * a6) + a3)) fun v6 => Option.bind (hN f a0 [(10, 17)]) fun v7 => Option.bind (hJld f v7 (((3 : Int32) * a3) + a7)) fun v8 => if a1 = 0 then none else Option.bind (hJst f v2 (((3 : Int32) * a6) + a7) (((v4 * a4) - (v6 * v8)) / a1)) fun f10 => k189 f10 a0 a1 a3 a4 a6 (a7 + 1))
def L_X11_findSquares_189 (k178 : xHp → Nat → Int64 → Int32 → Int64 → Int32 → Option (Int32 × xHp)) : Nat → xHp → Nat → Int64 → Int32 → Int64 → Int32 → Int32 → Option (Int32 × xHp)
  | 0, _, _, _, _, _, _, _ => none
  | n + 1, f, a0, a1, a3, a4, a6, a7 => F_X11_findSquares_189 k178 (L_X11_findSquares_189 k178 n) f a0 a1 a3 a4 a6 a7
def F_X11_findSquares_178 (k9 : xHp → Nat → Int64 → Int32 → Option (Int32 × xHp)) (k178 : xHp → Nat → Int64 → Int32 → Int64 → Int32 → Option (Int32 × xHp)) (f : xHp) (a0 : Nat) (a1 : Int64) (a3 : Int32) (a4 : Int64) (a6 : Int32) : Option (Int32 × xHp) := if (3 : Int32) ≤ a6 then (F_X11_findSquares_263 k9 f a0 a4 a3) else (L_X11_findSquares_189 k178 xfuel f a0 a1 a3 a4 a6 (a3 + (1 : Int32)))
def L_X11_findSquares_178 (k9 : xHp → Nat → Int64 → Int32 → Option (Int32 × xHp)) : Nat → xHp → Nat → Int64 → Int32 → Int64 → Int32 → Option (Int32 × xHp)
  | 0, _, _, _, _, _, _ => none
  | n + 1, f, a0, a1, a3, a4, a6 => F_X11_findSquares_178 k9 (L_X11_findSquares_178 k9 n) f a0 a1 a3 a4 a6
def F_X11_findSquares_156 (k114 : xHp → Nat → Int64 → Int32 → Int64 → Int32 → Option (Int32 × xHp)) (f : xHp) (a0 : Nat) (a1 : Int64) (a3 : Int32) (a4 : Int64) (a6 : Int32) (s0 : Int64) (s1 : Int32) (s2 : Nat) : Option (Int32 × xHp) := Option.bind (hJst f s2 s1 s0) fun f1 => k114 f1 a0 a1 a3 a4 (a6 + 1)
def F_X11_findSquares_114 (k9 : xHp → Nat → Int64 → Int32 → Option (Int32 × xHp)) (k114 : xHp → Nat → Int64 → Int32 → Int64 → Int32 → Option (Int32 × xHp)) (f : xHp) (a0 : Nat) (a1 : Int64) (a3 : Int32) (a4 : Int64) (a6 : Int32) : Option (Int32 × xHp) := if (3 : Int32) ≤ a6 then (Option.bind (hI f a0 [(10, 18)]) fun v2 => Option.bind (hPut f a0 [(10, 18)] (.int (v2 + (1 : Int32)))) fun f3 => L_X11_findSquares_178 k9 xfuel f3 a0 a1 a3 a4 (a3 + (1 : Int32))) else (Option.bind (hN f a0 [(10, 19)]) fun v4 => Option.bind (hI f a0 [(10, 18)]) fun v5 => if a3 ≤ a6 then (Option.bind (hN f a0 [(10, 17)]) fun v7 => Option.bind (hJld f v7 (((3 : Int32) * a3) + a6)) fun v8 => F_X11_findSquares_156 k114 f a0 a1 a3 a4 a6 v8 ((((5 : Int32) * v5) + (2 : Int32)) + a6) v4) else (F_X11_findSquares_156 k114 f a0 a1 a3 a4 a6 (0 : Int64) ((((5 : Int32) * v5) + (2 : Int32)) + a6) v4))
def L_X11_findSquares_114 (k9 : xHp → Nat → Int64 → Int32 → Option (Int32 × xHp)) : Nat → xHp → Nat → Int64 → Int32 → Int64 → Int32 → Option (Int32 × xHp)
  | 0, _, _, _, _, _, _ => none
  | n + 1, f, a0, a1, a3, a4, a6 => F_X11_findSquares_114 k9 (L_X11_findSquares_114 k9 n) f a0 a1 a3 a4 a6
def F_X11_findSquares_45 (k9 : xHp → Nat → Int64 → Int32 → Option (Int32 × xHp)) (k45 : xHp → Nat → Int64 → Int32 → Int32 → Option (Int32 × xHp)) (f : xHp) (a0 : Nat) (a1 : Int64) (a3 : Int32) (a6 : Int32) : Option (Int32 × xHp) := if (3 : Int32) ≤ a6 then (F_X11_findSquares_263 k9 f a0 a1 a3) else (Option.bind (hN f a0 [(10, 17)]) fun v2 => Option.bind (hJld f v2 (((3 : Int32) * a3) + a6)) fun v3 => if v3 = (0 : Int64) then (k45 f a0 a1 a3 (a6 + 1)) else (some ((0 : Int32), f)))
def L_X11_findSquares_45 (k9 : xHp → Nat → Int64 → Int32 → Option (Int32 × xHp)) : Nat → xHp → Nat → Int64 → Int32 → Int32 → Option (Int32 × xHp)
  | 0, _, _, _, _, _ => none
  | n + 1, f, a0, a1, a3, a6 => F_X11_findSquares_45 k9 (L_X11_findSquares_45 k9 n) f a0 a1 a3 a6
def F_X11_findSquares_9 (k9 : xHp → Nat → Int64 → Int32 → Option (Int32 × xHp)) (f : xHp) (a0 : Nat) (a1 : Int64) (a3 : Int32) : Option (Int32 × xHp) := if (3 : Int32) ≤ a3 then (some ((1 : Int32), f)) else (Option.bind (hN f a0 [(10, 17)]) fun v2 => Option.bind (hJld f v2 ((4 : Int32) * a3)) fun v3 => if (0 : Int64) ≤ v3 then (if v3 = (0 : Int64) then (L_X11_findSquares_45 k9 xfuel f a0 a1 a3 (a3 + (1 : Int32))) else (Option.bind (hN f a0 [(10, 19)]) fun v6 => Option.bind (hI f a0 [(10, 18)]) fun v7 => Option.bind (hJst f v6 ((5 : Int32) * v7) (1 : Int64)) fun f8 => Option.bind (hN f8 a0 [(10, 19)]) fun v9 => Option.bind (hI f8 a0 [(10, 18)]) fun v10 => Option.bind (hJst f8 v9 (((5 : Int32) * v10) + (1 : Int32)) (((2 : Int64) * a1) * v3)) fun f11 => L_X11_findSquares_114 k9 xfuel f11 a0 a1 a3 v3 (0 : Int32))) else (some ((0 : Int32), f)))
def L_X11_findSquares_9  : Nat → xHp → Nat → Int64 → Int32 → Option (Int32 × xHp)
  | 0, _, _, _, _ => none
  | n + 1, f, a0, a1, a3 => F_X11_findSquares_9 (L_X11_findSquares_9  n) f a0 a1 a3
def F_X11_findSquares (f : xHp) (h0 : Nat) : Option (Int32 × xHp) := Option.bind (hPut f h0 [(10, 18)] (.int (0 : Int32))) fun f1 => L_X11_findSquares_9 xfuel f1 h0 (1 : Int64) (0 : Int32)
set_option maxRecDepth 100000 in
set_option maxHeartbeats 4000000 in
theorem w_X11_findSquares_263 {p : Program} {l : Launch} {e : Env} {s : State} {m : MethodId} {args : Array Value} {below : List Frame} {meth : Method} {c : Code} {G : xG} {z : Nat} (X : xC G p m c s args RX11 cX11_findSquares 8) (hr : meth.sig.returnType = (some .boolean)) (hlocks : meth.locks = false) (hin : meth.name = yX11_findSquares.name) (rs : Int32 × xHp) (k9 : xHp → Nat → Int64 → Int32 → Option (Int32 × xHp)) (hk9 : ∀ (f : xHp) (a0 : Nat) (a1 : Int64) (a3 : Int32) (H : Heap) (locs : List Loc) (ls : Array Slot), k9 f a0 a1 a3 = some rs → xY G z f s H locs → lv_has ls 8 [(0, .ref a0), (1, .long a1), (3, .int a3)] → W p l e rm_X11_findSquares s m args below meth c H locs 0 0 (MQ below (xQ G (some (.int rs.1)) z rs.2) args s rm_X11_findSquares.cells rm_X11_findSquares.slots (xA G)) (F0 m 9 ls [])) (f : xHp) (a0 : Nat) (a1 : Int64) (a3 : Int32) (H : Heap) (locs : List Loc) (ls : Array Slot) (h : F_X11_findSquares_263 k9 f a0 a1 a3 = some rs) (Y : xY G z f s H locs) (hl : lv_has ls 8 [(0, .ref a0), (1, .long a1), (3, .int a3)]) : W p l e rm_X11_findSquares s m args below meth c H locs 0 0 (MQ below (xQ G (some (.int rs.1)) z rs.2) args s rm_X11_findSquares.cells rm_X11_findSquares.slots (xA G)) (F0 m 263 ls []) := by
  have hx := X.1.1
  have hb := X.1.2.1
  unfold F_X11_findSquares_263 at h
  refine lv_iinc (v := (a3 + 1)) (lv' := [(3, .int (a3 + 1)), (0, .ref a0), (1, .long a1)]) hx hb dX11_findSquares_263 hl (k := 2) rfl rfl (by decide) rfl (fun ls hl => ?_)
  refine lv_goto (tgt := 9) hx hb dX11_findSquares_266 (by decide) ?_
  refine W.widen (k := 0) (n := 0) (Nat.le_of_ble_eq_true rfl) (Nat.le_of_ble_eq_true rfl) ?_
  exact hk9 f a0 a1 (a3 + 1) _ _ _ h Y (lv_sub hl [1, 2, 0] rfl)
set_option maxRecDepth 100000 in
set_option maxHeartbeats 4000000 in
theorem w_X11_findSquares_189 {p : Program} {l : Launch} {e : Env} {s : State} {m : MethodId} {args : Array Value} {below : List Frame} {meth : Method} {c : Code} {G : xG} {z : Nat} (X : xC G p m c s args RX11 cX11_findSquares 8) (hr : meth.sig.returnType = (some .boolean)) (hlocks : meth.locks = false) (hin : meth.name = yX11_findSquares.name) (rs : Int32 × xHp) (k178 : xHp → Nat → Int64 → Int32 → Int64 → Int32 → Option (Int32 × xHp)) (hk178 : ∀ (f : xHp) (a0 : Nat) (a1 : Int64) (a3 : Int32) (a4 : Int64) (a6 : Int32) (H : Heap) (locs : List Loc) (ls : Array Slot), k178 f a0 a1 a3 a4 a6 = some rs → xY G z f s H locs → lv_has ls 8 [(0, .ref a0), (1, .long a1), (3, .int a3), (4, .long a4), (6, .int a6)] → W p l e rm_X11_findSquares s m args below meth c H locs 0 0 (MQ below (xQ G (some (.int rs.1)) z rs.2) args s rm_X11_findSquares.cells rm_X11_findSquares.slots (xA G)) (F0 m 178 ls [])) (k189 : xHp → Nat → Int64 → Int32 → Int64 → Int32 → Int32 → Option (Int32 × xHp)) (hk189 : ∀ (f : xHp) (a0 : Nat) (a1 : Int64) (a3 : Int32) (a4 : Int64) (a6 : Int32) (a7 : Int32) (H : Heap) (locs : List Loc) (ls : Array Slot), k189 f a0 a1 a3 a4 a6 a7 = some rs → xY G z f s H locs → lv_has ls 8 [(0, .ref a0), (1, .long a1), (3, .int a3), (4, .long a4), (6, .int a6), (7, .int a7)] → W p l e rm_X11_findSquares s m args below meth c H locs 0 0 (MQ below (xQ G (some (.int rs.1)) z rs.2) args s rm_X11_findSquares.cells rm_X11_findSquares.slots (xA G)) (F0 m 189 ls [])) (f : xHp) (a0 : Nat) (a1 : Int64) (a3 : Int32) (a4 : Int64) (a6 : Int32) (a7 : Int32) (H : Heap) (locs : List Loc) (ls : Array Slot) (h : F_X11_findSquares_189 k178 k189 f a0 a1 a3 a4 a6 a7 = some rs) (Y : xY G z f s H locs) (hl : lv_has ls 8 [(0, .ref a0), (1, .long a1), (3, .int a3), (4, .long a4), (6, .int a6), (7, .int a7)]) : W p l e rm_X11_findSquares s m args below meth c H locs 0 0 (MQ below (xQ G (some (.int rs.1)) z rs.2) args s rm_X11_findSquares.cells rm_X11_findSquares.slots (xA G)) (F0 m 189 ls []) := by
  have hx := X.1.1
  have hb := X.1.2.1
  unfold F_X11_findSquares_189 at h
  refine lv_iload hx hb dX11_findSquares_189 (lv_at hl 5 rfl) ?_
  refine lv_iconst (v := 3) hx hb dX11_findSquares_191 (by decide) ?_
  refine lv_icmp_ge (tgt := 254) hx hb dX11_findSquares_192 (by decide) (fun c1 => ?_) (fun c1 => ?_)
  · replace h := Eq.trans (if_pos c1).symm h
    refine lv_iinc (v := (a6 + 1)) (lv' := [(6, .int (a6 + 1)), (0, .ref a0), (1, .long a1), (3, .int a3), (4, .long a4), (7, .int a7)]) hx hb dX11_findSquares_254 hl (k := 4) rfl rfl (by decide) rfl (fun ls hl => ?_)
    refine lv_goto (tgt := 178) hx hb dX11_findSquares_257 (by decide) ?_
    refine W.widen (k := 0) (n := 0) (Nat.le_of_ble_eq_true rfl) (Nat.le_of_ble_eq_true rfl) ?_
    exact hk178 f a0 a1 a3 a4 (a6 + 1) _ _ _ h Y (lv_sub hl [1, 2, 3, 4, 0] rfl)
  · replace h := Eq.trans (if_neg c1).symm h
    refine lv_aload_n hx hb dX11_findSquares_195 rfl (lv_at hl 0 rfl) ?_
    replace h := xb h
    obtain ⟨v2, ev2, h⟩ := h
    refine q_getN X Y fl_X11_35 ev2 dX11_findSquares_196 ?_
    refine lv_iconst (v := 3) hx hb dX11_findSquares_199 (by decide) ?_
    refine lv_iload hx hb dX11_findSquares_200 (lv_at hl 4 rfl) ?_
    refine lv_imul hx hb dX11_findSquares_202 ?_
    refine lv_iload hx hb dX11_findSquares_203 (lv_at hl 5 rfl) ?_
    refine lv_iadd hx hb dX11_findSquares_205 ?_
    refine lv_aload_n hx hb dX11_findSquares_206 rfl (lv_at hl 0 rfl) ?_
    replace h := xb h
    obtain ⟨v3, ev3, h⟩ := h
    refine q_getN X Y fl_X11_35 ev3 dX11_findSquares_207 ?_
    refine lv_iconst (v := 3) hx hb dX11_findSquares_210 (by decide) ?_
    refine lv_iload hx hb dX11_findSquares_211 (lv_at hl 4 rfl) ?_
    refine lv_imul hx hb dX11_findSquares_213 ?_
    refine lv_iload hx hb dX11_findSquares_214 (lv_at hl 5 rfl) ?_
    refine lv_iadd hx hb dX11_findSquares_216 ?_
    replace h := xb h
    obtain ⟨v4, ev4, h⟩ := h
    refine q_lald X Y ev4 dX11_findSquares_217 ?_
    refine lv_lload hx hb dX11_findSquares_218 (lv_at hl 3 rfl) ?_
    refine lv_lmul hx hb dX11_findSquares_220 ?_
    refine lv_aload_n hx hb dX11_findSquares_221 rfl (lv_at hl 0 rfl) ?_
    replace h := xb h
    obtain ⟨v5, ev5, h⟩ := h
    refine q_getN X Y fl_X11_35 ev5 dX11_findSquares_222 ?_
    refine lv_iconst (v := 3) hx hb dX11_findSquares_225 (by decide) ?_
    refine lv_iload hx hb dX11_findSquares_226 (lv_at hl 4 rfl) ?_
    refine lv_imul hx hb dX11_findSquares_228 ?_
    refine lv_iload_n hx hb dX11_findSquares_229 rfl (lv_at hl 2 rfl) ?_
    refine lv_iadd hx hb dX11_findSquares_230 ?_
    replace h := xb h
    obtain ⟨v6, ev6, h⟩ := h
    refine q_lald X Y ev6 dX11_findSquares_231 ?_
    refine lv_aload_n hx hb dX11_findSquares_232 rfl (lv_at hl 0 rfl) ?_
    replace h := xb h
    obtain ⟨v7, ev7, h⟩ := h
    refine q_getN X Y fl_X11_35 ev7 dX11_findSquares_233 ?_
    refine lv_iconst (v := 3) hx hb dX11_findSquares_236 (by decide) ?_
    refine lv_iload_n hx hb dX11_findSquares_237 rfl (lv_at hl 2 rfl) ?_
    refine lv_imul hx hb dX11_findSquares_238 ?_
    refine lv_iload hx hb dX11_findSquares_239 (lv_at hl 5 rfl) ?_
    refine lv_iadd hx hb dX11_findSquares_241 ?_
    replace h := xb h
    obtain ⟨v8, ev8, h⟩ := h
    refine q_lald X Y ev8 dX11_findSquares_242 ?_
    refine lv_lmul hx hb dX11_findSquares_243 ?_
    refine lv_lsub hx hb dX11_findSquares_244 ?_
    refine lv_lload_n hx hb dX11_findSquares_245 rfl (lv_at hl 1 rfl) ?_
    by_cases c9 : a1 = 0
    · exact absurd (Eq.trans (if_pos c9).symm h) (by intro q; cases q)
    replace h := Eq.trans (if_neg c9).symm h
    refine lv_ldiv hx hb dX11_findSquares_246 c9 ?_
    replace h := xb h
    obtain ⟨f10, ef10, h⟩ := h
    refine q_last X Y ef10 dX11_findSquares_247 (fun H locs Y => ?_)
    refine lv_iinc (v := (a7 + 1)) (lv' := [(7, .int (a7 + 1)), (0, .ref a0), (1, .long a1), (3, .int a3), (4, .long a4), (6, .int a6)]) hx hb dX11_findSquares_248 hl (k := 5) rfl rfl (by decide) rfl (fun ls hl => ?_)
    refine lv_goto (tgt := 189) hx hb dX11_findSquares_251 (by decide) ?_
    refine W.widen (k := 0) (n := 0) (Nat.le_of_ble_eq_true rfl) (Nat.le_of_ble_eq_true rfl) ?_
    exact hk189 f10 a0 a1 a3 a4 a6 (a7 + 1) _ _ _ h Y (lv_sub hl [1, 2, 3, 4, 5, 0] rfl)
set_option maxRecDepth 100000 in
set_option maxHeartbeats 4000000 in
theorem lw_X11_findSquares_189 {p : Program} {l : Launch} {e : Env} {s : State} {m : MethodId} {args : Array Value} {below : List Frame} {meth : Method} {c : Code} {G : xG} {z : Nat} (X : xC G p m c s args RX11 cX11_findSquares 8) (hr : meth.sig.returnType = (some .boolean)) (hlocks : meth.locks = false) (hin : meth.name = yX11_findSquares.name) (rs : Int32 × xHp) (k178 : xHp → Nat → Int64 → Int32 → Int64 → Int32 → Option (Int32 × xHp)) (hk178 : ∀ (f : xHp) (a0 : Nat) (a1 : Int64) (a3 : Int32) (a4 : Int64) (a6 : Int32) (H : Heap) (locs : List Loc) (ls : Array Slot), k178 f a0 a1 a3 a4 a6 = some rs → xY G z f s H locs → lv_has ls 8 [(0, .ref a0), (1, .long a1), (3, .int a3), (4, .long a4), (6, .int a6)] → W p l e rm_X11_findSquares s m args below meth c H locs 0 0 (MQ below (xQ G (some (.int rs.1)) z rs.2) args s rm_X11_findSquares.cells rm_X11_findSquares.slots (xA G)) (F0 m 178 ls [])) : ∀ (n : Nat) (f : xHp) (a0 : Nat) (a1 : Int64) (a3 : Int32) (a4 : Int64) (a6 : Int32) (a7 : Int32) (H : Heap) (locs : List Loc) (ls : Array Slot), L_X11_findSquares_189 k178 n f a0 a1 a3 a4 a6 a7 = some rs → xY G z f s H locs → lv_has ls 8 [(0, .ref a0), (1, .long a1), (3, .int a3), (4, .long a4), (6, .int a6), (7, .int a7)] → W p l e rm_X11_findSquares s m args below meth c H locs 0 0 (MQ below (xQ G (some (.int rs.1)) z rs.2) args s rm_X11_findSquares.cells rm_X11_findSquares.slots (xA G)) (F0 m 189 ls []) := by
  intro n
  induction n with
  | zero => intro f a0 a1 a3 a4 a6 a7 H locs ls h Y hl; cases h
  | succ n ih => intro f a0 a1 a3 a4 a6 a7 H locs ls h Y hl; exact w_X11_findSquares_189 X hr hlocks hin rs k178 hk178 _ ih f a0 a1 a3 a4 a6 a7 _ _ _ h Y hl
set_option maxRecDepth 100000 in
set_option maxHeartbeats 4000000 in
theorem w_X11_findSquares_178 {p : Program} {l : Launch} {e : Env} {s : State} {m : MethodId} {args : Array Value} {below : List Frame} {meth : Method} {c : Code} {G : xG} {z : Nat} (X : xC G p m c s args RX11 cX11_findSquares 8) (hr : meth.sig.returnType = (some .boolean)) (hlocks : meth.locks = false) (hin : meth.name = yX11_findSquares.name) (rs : Int32 × xHp) (k9 : xHp → Nat → Int64 → Int32 → Option (Int32 × xHp)) (hk9 : ∀ (f : xHp) (a0 : Nat) (a1 : Int64) (a3 : Int32) (H : Heap) (locs : List Loc) (ls : Array Slot), k9 f a0 a1 a3 = some rs → xY G z f s H locs → lv_has ls 8 [(0, .ref a0), (1, .long a1), (3, .int a3)] → W p l e rm_X11_findSquares s m args below meth c H locs 0 0 (MQ below (xQ G (some (.int rs.1)) z rs.2) args s rm_X11_findSquares.cells rm_X11_findSquares.slots (xA G)) (F0 m 9 ls [])) (k178 : xHp → Nat → Int64 → Int32 → Int64 → Int32 → Option (Int32 × xHp)) (hk178 : ∀ (f : xHp) (a0 : Nat) (a1 : Int64) (a3 : Int32) (a4 : Int64) (a6 : Int32) (H : Heap) (locs : List Loc) (ls : Array Slot), k178 f a0 a1 a3 a4 a6 = some rs → xY G z f s H locs → lv_has ls 8 [(0, .ref a0), (1, .long a1), (3, .int a3), (4, .long a4), (6, .int a6)] → W p l e rm_X11_findSquares s m args below meth c H locs 0 0 (MQ below (xQ G (some (.int rs.1)) z rs.2) args s rm_X11_findSquares.cells rm_X11_findSquares.slots (xA G)) (F0 m 178 ls [])) (f : xHp) (a0 : Nat) (a1 : Int64) (a3 : Int32) (a4 : Int64) (a6 : Int32) (H : Heap) (locs : List Loc) (ls : Array Slot) (h : F_X11_findSquares_178 k9 k178 f a0 a1 a3 a4 a6 = some rs) (Y : xY G z f s H locs) (hl : lv_has ls 8 [(0, .ref a0), (1, .long a1), (3, .int a3), (4, .long a4), (6, .int a6)]) : W p l e rm_X11_findSquares s m args below meth c H locs 0 0 (MQ below (xQ G (some (.int rs.1)) z rs.2) args s rm_X11_findSquares.cells rm_X11_findSquares.slots (xA G)) (F0 m 178 ls []) := by
  have hx := X.1.1
  have hb := X.1.2.1
  unfold F_X11_findSquares_178 at h
  refine lv_iload hx hb dX11_findSquares_178 (lv_at hl 4 rfl) ?_
  refine lv_iconst (v := 3) hx hb dX11_findSquares_180 (by decide) ?_
  refine lv_icmp_ge (tgt := 260) hx hb dX11_findSquares_181 (by decide) (fun c1 => ?_) (fun c1 => ?_)
  · replace h := Eq.trans (if_pos c1).symm h
    refine lv_lload hx hb dX11_findSquares_260 (lv_at hl 3 rfl) ?_
    refine lv_lstore_n (lv' := [(1, .long a4), (0, .ref a0), (3, .int a3), (4, .long a4), (6, .int a6)]) hx hb dX11_findSquares_262 rfl hl (by decide) rfl (fun ls hl => ?_)
    refine W.widen (k := 0) (n := 0) (Nat.le_of_ble_eq_true rfl) (Nat.le_of_ble_eq_true rfl) ?_
    exact w_X11_findSquares_263 X hr hlocks hin rs k9 hk9  f a0 a4 a3 _ _ _ h Y (lv_sub hl [1, 0, 2] rfl)
  · replace h := Eq.trans (if_neg c1).symm h
    refine lv_iload_n hx hb dX11_findSquares_184 rfl (lv_at hl 2 rfl) ?_
    refine lv_iconst (v := 1) hx hb dX11_findSquares_185 (by decide) ?_
    refine lv_iadd hx hb dX11_findSquares_186 ?_
    refine lv_istore (lv' := [(7, .int (a3 + (1 : Int32))), (0, .ref a0), (1, .long a1), (3, .int a3), (4, .long a4), (6, .int a6)]) hx hb dX11_findSquares_187 hl (by decide) rfl (fun ls hl => ?_)
    refine W.widen (k := 0) (n := 0) (Nat.le_of_ble_eq_true rfl) (Nat.le_of_ble_eq_true rfl) ?_
    exact lw_X11_findSquares_189 X hr hlocks hin rs k178 hk178 xfuel f a0 a1 a3 a4 a6 (a3 + (1 : Int32)) _ _ _ h Y (lv_sub hl [1, 2, 3, 4, 5, 0] rfl)
set_option maxRecDepth 100000 in
set_option maxHeartbeats 4000000 in
theorem lw_X11_findSquares_178 {p : Program} {l : Launch} {e : Env} {s : State} {m : MethodId} {args : Array Value} {below : List Frame} {meth : Method} {c : Code} {G : xG} {z : Nat} (X : xC G p m c s args RX11 cX11_findSquares 8) (hr : meth.sig.returnType = (some .boolean)) (hlocks : meth.locks = false) (hin : meth.name = yX11_findSquares.name) (rs : Int32 × xHp) (k9 : xHp → Nat → Int64 → Int32 → Option (Int32 × xHp)) (hk9 : ∀ (f : xHp) (a0 : Nat) (a1 : Int64) (a3 : Int32) (H : Heap) (locs : List Loc) (ls : Array Slot), k9 f a0 a1 a3 = some rs → xY G z f s H locs → lv_has ls 8 [(0, .ref a0), (1, .long a1), (3, .int a3)] → W p l e rm_X11_findSquares s m args below meth c H locs 0 0 (MQ below (xQ G (some (.int rs.1)) z rs.2) args s rm_X11_findSquares.cells rm_X11_findSquares.slots (xA G)) (F0 m 9 ls [])) : ∀ (n : Nat) (f : xHp) (a0 : Nat) (a1 : Int64) (a3 : Int32) (a4 : Int64) (a6 : Int32) (H : Heap) (locs : List Loc) (ls : Array Slot), L_X11_findSquares_178 k9 n f a0 a1 a3 a4 a6 = some rs → xY G z f s H locs → lv_has ls 8 [(0, .ref a0), (1, .long a1), (3, .int a3), (4, .long a4), (6, .int a6)] → W p l e rm_X11_findSquares s m args below meth c H locs 0 0 (MQ below (xQ G (some (.int rs.1)) z rs.2) args s rm_X11_findSquares.cells rm_X11_findSquares.slots (xA G)) (F0 m 178 ls []) := by
  intro n
  induction n with
  | zero => intro f a0 a1 a3 a4 a6 H locs ls h Y hl; cases h
  | succ n ih => intro f a0 a1 a3 a4 a6 H locs ls h Y hl; exact w_X11_findSquares_178 X hr hlocks hin rs k9 hk9 _ ih f a0 a1 a3 a4 a6 _ _ _ h Y hl
set_option maxRecDepth 100000 in
set_option maxHeartbeats 4000000 in
theorem w_X11_findSquares_156 {p : Program} {l : Launch} {e : Env} {s : State} {m : MethodId} {args : Array Value} {below : List Frame} {meth : Method} {c : Code} {G : xG} {z : Nat} (X : xC G p m c s args RX11 cX11_findSquares 8) (hr : meth.sig.returnType = (some .boolean)) (hlocks : meth.locks = false) (hin : meth.name = yX11_findSquares.name) (rs : Int32 × xHp) (k114 : xHp → Nat → Int64 → Int32 → Int64 → Int32 → Option (Int32 × xHp)) (hk114 : ∀ (f : xHp) (a0 : Nat) (a1 : Int64) (a3 : Int32) (a4 : Int64) (a6 : Int32) (H : Heap) (locs : List Loc) (ls : Array Slot), k114 f a0 a1 a3 a4 a6 = some rs → xY G z f s H locs → lv_has ls 8 [(0, .ref a0), (1, .long a1), (3, .int a3), (4, .long a4), (6, .int a6)] → W p l e rm_X11_findSquares s m args below meth c H locs 0 0 (MQ below (xQ G (some (.int rs.1)) z rs.2) args s rm_X11_findSquares.cells rm_X11_findSquares.slots (xA G)) (F0 m 114 ls [])) (f : xHp) (a0 : Nat) (a1 : Int64) (a3 : Int32) (a4 : Int64) (a6 : Int32) (s0 : Int64) (s1 : Int32) (s2 : Nat) (H : Heap) (locs : List Loc) (ls : Array Slot) (h : F_X11_findSquares_156 k114 f a0 a1 a3 a4 a6 s0 s1 s2 = some rs) (Y : xY G z f s H locs) (hl : lv_has ls 8 [(0, .ref a0), (1, .long a1), (3, .int a3), (4, .long a4), (6, .int a6)]) : W p l e rm_X11_findSquares s m args below meth c H locs 0 0 (MQ below (xQ G (some (.int rs.1)) z rs.2) args s rm_X11_findSquares.cells rm_X11_findSquares.slots (xA G)) (F0 m 156 ls [.long s0, .int s1, .ref s2]) := by
  have hx := X.1.1
  have hb := X.1.2.1
  unfold F_X11_findSquares_156 at h
  replace h := xb h
  obtain ⟨f1, ef1, h⟩ := h
  refine q_last X Y ef1 dX11_findSquares_156 (fun H locs Y => ?_)
  refine lv_iinc (v := (a6 + 1)) (lv' := [(6, .int (a6 + 1)), (0, .ref a0), (1, .long a1), (3, .int a3), (4, .long a4)]) hx hb dX11_findSquares_157 hl (k := 4) rfl rfl (by decide) rfl (fun ls hl => ?_)
  refine lv_goto (tgt := 114) hx hb dX11_findSquares_160 (by decide) ?_
  refine W.widen (k := 0) (n := 0) (Nat.le_of_ble_eq_true rfl) (Nat.le_of_ble_eq_true rfl) ?_
  exact hk114 f1 a0 a1 a3 a4 (a6 + 1) _ _ _ h Y (lv_sub hl [1, 2, 3, 4, 0] rfl)
set_option maxRecDepth 100000 in
set_option maxHeartbeats 4000000 in
theorem w_X11_findSquares_114 {p : Program} {l : Launch} {e : Env} {s : State} {m : MethodId} {args : Array Value} {below : List Frame} {meth : Method} {c : Code} {G : xG} {z : Nat} (X : xC G p m c s args RX11 cX11_findSquares 8) (hr : meth.sig.returnType = (some .boolean)) (hlocks : meth.locks = false) (hin : meth.name = yX11_findSquares.name) (rs : Int32 × xHp) (k9 : xHp → Nat → Int64 → Int32 → Option (Int32 × xHp)) (hk9 : ∀ (f : xHp) (a0 : Nat) (a1 : Int64) (a3 : Int32) (H : Heap) (locs : List Loc) (ls : Array Slot), k9 f a0 a1 a3 = some rs → xY G z f s H locs → lv_has ls 8 [(0, .ref a0), (1, .long a1), (3, .int a3)] → W p l e rm_X11_findSquares s m args below meth c H locs 0 0 (MQ below (xQ G (some (.int rs.1)) z rs.2) args s rm_X11_findSquares.cells rm_X11_findSquares.slots (xA G)) (F0 m 9 ls [])) (k114 : xHp → Nat → Int64 → Int32 → Int64 → Int32 → Option (Int32 × xHp)) (hk114 : ∀ (f : xHp) (a0 : Nat) (a1 : Int64) (a3 : Int32) (a4 : Int64) (a6 : Int32) (H : Heap) (locs : List Loc) (ls : Array Slot), k114 f a0 a1 a3 a4 a6 = some rs → xY G z f s H locs → lv_has ls 8 [(0, .ref a0), (1, .long a1), (3, .int a3), (4, .long a4), (6, .int a6)] → W p l e rm_X11_findSquares s m args below meth c H locs 0 0 (MQ below (xQ G (some (.int rs.1)) z rs.2) args s rm_X11_findSquares.cells rm_X11_findSquares.slots (xA G)) (F0 m 114 ls [])) (f : xHp) (a0 : Nat) (a1 : Int64) (a3 : Int32) (a4 : Int64) (a6 : Int32) (H : Heap) (locs : List Loc) (ls : Array Slot) (h : F_X11_findSquares_114 k9 k114 f a0 a1 a3 a4 a6 = some rs) (Y : xY G z f s H locs) (hl : lv_has ls 8 [(0, .ref a0), (1, .long a1), (3, .int a3), (4, .long a4), (6, .int a6)]) : W p l e rm_X11_findSquares s m args below meth c H locs 0 0 (MQ below (xQ G (some (.int rs.1)) z rs.2) args s rm_X11_findSquares.cells rm_X11_findSquares.slots (xA G)) (F0 m 114 ls []) := by
  have hx := X.1.1
  have hb := X.1.2.1
  unfold F_X11_findSquares_114 at h
  refine lv_iload hx hb dX11_findSquares_114 (lv_at hl 4 rfl) ?_
  refine lv_iconst (v := 3) hx hb dX11_findSquares_116 (by decide) ?_
  refine lv_icmp_ge (tgt := 163) hx hb dX11_findSquares_117 (by decide) (fun c1 => ?_) (fun c1 => ?_)
  · replace h := Eq.trans (if_pos c1).symm h
    refine lv_aload_n hx hb dX11_findSquares_163 rfl (lv_at hl 0 rfl) ?_
    refine lv_dup hx hb dX11_findSquares_164 rfl ?_
    replace h := xb h
    obtain ⟨v2, ev2, h⟩ := h
    refine q_getI X Y fl_X11_202 ev2 dX11_findSquares_165 ?_
    refine lv_iconst (v := 1) hx hb dX11_findSquares_168 (by decide) ?_
    refine lv_iadd hx hb dX11_findSquares_169 ?_
    replace h := xb h
    obtain ⟨f3, ef3, h⟩ := h
    refine q_put X Y fp_X11_202 rfl rfl ef3 dX11_findSquares_170 (fun H locs Y => ?_)
    refine lv_iload_n hx hb dX11_findSquares_173 rfl (lv_at hl 2 rfl) ?_
    refine lv_iconst (v := 1) hx hb dX11_findSquares_174 (by decide) ?_
    refine lv_iadd hx hb dX11_findSquares_175 ?_
    refine lv_istore (lv' := [(6, .int (a3 + (1 : Int32))), (0, .ref a0), (1, .long a1), (3, .int a3), (4, .long a4)]) hx hb dX11_findSquares_176 hl (by decide) rfl (fun ls hl => ?_)
    refine W.widen (k := 0) (n := 0) (Nat.le_of_ble_eq_true rfl) (Nat.le_of_ble_eq_true rfl) ?_
    exact lw_X11_findSquares_178 X hr hlocks hin rs k9 hk9 xfuel f3 a0 a1 a3 a4 (a3 + (1 : Int32)) _ _ _ h Y (lv_sub hl [1, 2, 3, 4, 0] rfl)
  · replace h := Eq.trans (if_neg c1).symm h
    refine lv_aload_n hx hb dX11_findSquares_120 rfl (lv_at hl 0 rfl) ?_
    replace h := xb h
    obtain ⟨v4, ev4, h⟩ := h
    refine q_getN X Y fl_X11_38 ev4 dX11_findSquares_121 ?_
    refine lv_iconst (v := 5) hx hb dX11_findSquares_124 (by decide) ?_
    refine lv_aload_n hx hb dX11_findSquares_125 rfl (lv_at hl 0 rfl) ?_
    replace h := xb h
    obtain ⟨v5, ev5, h⟩ := h
    refine q_getI X Y fl_X11_202 ev5 dX11_findSquares_126 ?_
    refine lv_imul hx hb dX11_findSquares_129 ?_
    refine lv_iconst (v := 2) hx hb dX11_findSquares_130 (by decide) ?_
    refine lv_iadd hx hb dX11_findSquares_131 ?_
    refine lv_iload hx hb dX11_findSquares_132 (lv_at hl 4 rfl) ?_
    refine lv_iadd hx hb dX11_findSquares_134 ?_
    refine lv_iload hx hb dX11_findSquares_135 (lv_at hl 4 rfl) ?_
    refine lv_iload_n hx hb dX11_findSquares_137 rfl (lv_at hl 2 rfl) ?_
    refine lv_icmp_ge (tgt := 145) hx hb dX11_findSquares_138 (by decide) (fun c6 => ?_) (fun c6 => ?_)
    · replace h := Eq.trans (if_pos c6).symm h
      refine lv_aload_n hx hb dX11_findSquares_145 rfl (lv_at hl 0 rfl) ?_
      replace h := xb h
      obtain ⟨v7, ev7, h⟩ := h
      refine q_getN X Y fl_X11_35 ev7 dX11_findSquares_146 ?_
      refine lv_iconst (v := 3) hx hb dX11_findSquares_149 (by decide) ?_
      refine lv_iload_n hx hb dX11_findSquares_150 rfl (lv_at hl 2 rfl) ?_
      refine lv_imul hx hb dX11_findSquares_151 ?_
      refine lv_iload hx hb dX11_findSquares_152 (lv_at hl 4 rfl) ?_
      refine lv_iadd hx hb dX11_findSquares_154 ?_
      replace h := xb h
      obtain ⟨v8, ev8, h⟩ := h
      refine q_lald X Y ev8 dX11_findSquares_155 ?_
      refine W.widen (k := 0) (n := 0) (Nat.le_of_ble_eq_true rfl) (Nat.le_of_ble_eq_true rfl) ?_
      exact w_X11_findSquares_156 X hr hlocks hin rs k114 hk114  f a0 a1 a3 a4 a6 v8 ((((5 : Int32) * v5) + (2 : Int32)) + a6) v4 _ _ _ h Y (lv_sub hl [0, 1, 2, 3, 4] rfl)
    · replace h := Eq.trans (if_neg c6).symm h
      refine lv_lconst (v := 0) hx hb dX11_findSquares_141 (by decide) ?_
      refine lv_goto (tgt := 156) hx hb dX11_findSquares_142 (by decide) ?_
      refine W.widen (k := 0) (n := 0) (Nat.le_of_ble_eq_true rfl) (Nat.le_of_ble_eq_true rfl) ?_
      exact w_X11_findSquares_156 X hr hlocks hin rs k114 hk114  f a0 a1 a3 a4 a6 (0 : Int64) ((((5 : Int32) * v5) + (2 : Int32)) + a6) v4 _ _ _ h Y (lv_sub hl [0, 1, 2, 3, 4] rfl)
set_option maxRecDepth 100000 in
set_option maxHeartbeats 4000000 in
theorem lw_X11_findSquares_114 {p : Program} {l : Launch} {e : Env} {s : State} {m : MethodId} {args : Array Value} {below : List Frame} {meth : Method} {c : Code} {G : xG} {z : Nat} (X : xC G p m c s args RX11 cX11_findSquares 8) (hr : meth.sig.returnType = (some .boolean)) (hlocks : meth.locks = false) (hin : meth.name = yX11_findSquares.name) (rs : Int32 × xHp) (k9 : xHp → Nat → Int64 → Int32 → Option (Int32 × xHp)) (hk9 : ∀ (f : xHp) (a0 : Nat) (a1 : Int64) (a3 : Int32) (H : Heap) (locs : List Loc) (ls : Array Slot), k9 f a0 a1 a3 = some rs → xY G z f s H locs → lv_has ls 8 [(0, .ref a0), (1, .long a1), (3, .int a3)] → W p l e rm_X11_findSquares s m args below meth c H locs 0 0 (MQ below (xQ G (some (.int rs.1)) z rs.2) args s rm_X11_findSquares.cells rm_X11_findSquares.slots (xA G)) (F0 m 9 ls [])) : ∀ (n : Nat) (f : xHp) (a0 : Nat) (a1 : Int64) (a3 : Int32) (a4 : Int64) (a6 : Int32) (H : Heap) (locs : List Loc) (ls : Array Slot), L_X11_findSquares_114 k9 n f a0 a1 a3 a4 a6 = some rs → xY G z f s H locs → lv_has ls 8 [(0, .ref a0), (1, .long a1), (3, .int a3), (4, .long a4), (6, .int a6)] → W p l e rm_X11_findSquares s m args below meth c H locs 0 0 (MQ below (xQ G (some (.int rs.1)) z rs.2) args s rm_X11_findSquares.cells rm_X11_findSquares.slots (xA G)) (F0 m 114 ls []) := by
  intro n
  induction n with
  | zero => intro f a0 a1 a3 a4 a6 H locs ls h Y hl; cases h
  | succ n ih => intro f a0 a1 a3 a4 a6 H locs ls h Y hl; exact w_X11_findSquares_114 X hr hlocks hin rs k9 hk9 _ ih f a0 a1 a3 a4 a6 _ _ _ h Y hl
set_option maxRecDepth 100000 in
set_option maxHeartbeats 4000000 in
theorem w_X11_findSquares_45 {p : Program} {l : Launch} {e : Env} {s : State} {m : MethodId} {args : Array Value} {below : List Frame} {meth : Method} {c : Code} {G : xG} {z : Nat} (X : xC G p m c s args RX11 cX11_findSquares 8) (hr : meth.sig.returnType = (some .boolean)) (hlocks : meth.locks = false) (hin : meth.name = yX11_findSquares.name) (rs : Int32 × xHp) (k9 : xHp → Nat → Int64 → Int32 → Option (Int32 × xHp)) (hk9 : ∀ (f : xHp) (a0 : Nat) (a1 : Int64) (a3 : Int32) (H : Heap) (locs : List Loc) (ls : Array Slot), k9 f a0 a1 a3 = some rs → xY G z f s H locs → lv_has ls 8 [(0, .ref a0), (1, .long a1), (3, .int a3)] → W p l e rm_X11_findSquares s m args below meth c H locs 0 0 (MQ below (xQ G (some (.int rs.1)) z rs.2) args s rm_X11_findSquares.cells rm_X11_findSquares.slots (xA G)) (F0 m 9 ls [])) (k45 : xHp → Nat → Int64 → Int32 → Int32 → Option (Int32 × xHp)) (hk45 : ∀ (f : xHp) (a0 : Nat) (a1 : Int64) (a3 : Int32) (a6 : Int32) (H : Heap) (locs : List Loc) (ls : Array Slot), k45 f a0 a1 a3 a6 = some rs → xY G z f s H locs → lv_has ls 8 [(0, .ref a0), (1, .long a1), (3, .int a3), (6, .int a6)] → W p l e rm_X11_findSquares s m args below meth c H locs 0 0 (MQ below (xQ G (some (.int rs.1)) z rs.2) args s rm_X11_findSquares.cells rm_X11_findSquares.slots (xA G)) (F0 m 45 ls [])) (f : xHp) (a0 : Nat) (a1 : Int64) (a3 : Int32) (a6 : Int32) (H : Heap) (locs : List Loc) (ls : Array Slot) (h : F_X11_findSquares_45 k9 k45 f a0 a1 a3 a6 = some rs) (Y : xY G z f s H locs) (hl : lv_has ls 8 [(0, .ref a0), (1, .long a1), (3, .int a3), (6, .int a6)]) : W p l e rm_X11_findSquares s m args below meth c H locs 0 0 (MQ below (xQ G (some (.int rs.1)) z rs.2) args s rm_X11_findSquares.cells rm_X11_findSquares.slots (xA G)) (F0 m 45 ls []) := by
  have hx := X.1.1
  have hb := X.1.2.1
  unfold F_X11_findSquares_45 at h
  refine lv_iload hx hb dX11_findSquares_45 (lv_at hl 3 rfl) ?_
  refine lv_iconst (v := 3) hx hb dX11_findSquares_47 (by decide) ?_
  refine lv_icmp_ge (tgt := 75) hx hb dX11_findSquares_48 (by decide) (fun c1 => ?_) (fun c1 => ?_)
  · replace h := Eq.trans (if_pos c1).symm h
    refine lv_goto (tgt := 263) hx hb dX11_findSquares_75 (by decide) ?_
    refine W.widen (k := 0) (n := 0) (Nat.le_of_ble_eq_true rfl) (Nat.le_of_ble_eq_true rfl) ?_
    exact w_X11_findSquares_263 X hr hlocks hin rs k9 hk9  f a0 a1 a3 _ _ _ h Y (lv_sub hl [0, 1, 2] rfl)
  · replace h := Eq.trans (if_neg c1).symm h
    refine lv_aload_n hx hb dX11_findSquares_51 rfl (lv_at hl 0 rfl) ?_
    replace h := xb h
    obtain ⟨v2, ev2, h⟩ := h
    refine q_getN X Y fl_X11_35 ev2 dX11_findSquares_52 ?_
    refine lv_iconst (v := 3) hx hb dX11_findSquares_55 (by decide) ?_
    refine lv_iload_n hx hb dX11_findSquares_56 rfl (lv_at hl 2 rfl) ?_
    refine lv_imul hx hb dX11_findSquares_57 ?_
    refine lv_iload hx hb dX11_findSquares_58 (lv_at hl 3 rfl) ?_
    refine lv_iadd hx hb dX11_findSquares_60 ?_
    replace h := xb h
    obtain ⟨v3, ev3, h⟩ := h
    refine q_lald X Y ev3 dX11_findSquares_61 ?_
    refine lv_lconst (v := 0) hx hb dX11_findSquares_62 (by decide) ?_
    refine q_lcmp_eq (tgt := 69) hx hb dX11_findSquares_63 dX11_findSquares_64 (by decide) (fun c4 => ?_) (fun c4 => ?_)
    · replace h := Eq.trans (if_pos c4).symm h
      refine lv_iinc (v := (a6 + 1)) (lv' := [(6, .int (a6 + 1)), (0, .ref a0), (1, .long a1), (3, .int a3)]) hx hb dX11_findSquares_69 hl (k := 3) rfl rfl (by decide) rfl (fun ls hl => ?_)
      refine lv_goto (tgt := 45) hx hb dX11_findSquares_72 (by decide) ?_
      refine W.widen (k := 0) (n := 0) (Nat.le_of_ble_eq_true rfl) (Nat.le_of_ble_eq_true rfl) ?_
      exact hk45 f a0 a1 a3 (a6 + 1) _ _ _ h Y (lv_sub hl [1, 2, 3, 0] rfl)
    · replace h := Eq.trans (if_neg c4).symm h
      refine lv_iconst (v := 0) hx hb dX11_findSquares_67 (by decide) ?_
      replace h := Option.some.inj h
      subst h
      exact q_retz (v := (0 : Int32)) X Y hr hlocks rfl (Nat.le_of_ble_eq_true rfl) (Nat.le_of_ble_eq_true rfl) dX11_findSquares_68
set_option maxRecDepth 100000 in
set_option maxHeartbeats 4000000 in
theorem lw_X11_findSquares_45 {p : Program} {l : Launch} {e : Env} {s : State} {m : MethodId} {args : Array Value} {below : List Frame} {meth : Method} {c : Code} {G : xG} {z : Nat} (X : xC G p m c s args RX11 cX11_findSquares 8) (hr : meth.sig.returnType = (some .boolean)) (hlocks : meth.locks = false) (hin : meth.name = yX11_findSquares.name) (rs : Int32 × xHp) (k9 : xHp → Nat → Int64 → Int32 → Option (Int32 × xHp)) (hk9 : ∀ (f : xHp) (a0 : Nat) (a1 : Int64) (a3 : Int32) (H : Heap) (locs : List Loc) (ls : Array Slot), k9 f a0 a1 a3 = some rs → xY G z f s H locs → lv_has ls 8 [(0, .ref a0), (1, .long a1), (3, .int a3)] → W p l e rm_X11_findSquares s m args below meth c H locs 0 0 (MQ below (xQ G (some (.int rs.1)) z rs.2) args s rm_X11_findSquares.cells rm_X11_findSquares.slots (xA G)) (F0 m 9 ls [])) : ∀ (n : Nat) (f : xHp) (a0 : Nat) (a1 : Int64) (a3 : Int32) (a6 : Int32) (H : Heap) (locs : List Loc) (ls : Array Slot), L_X11_findSquares_45 k9 n f a0 a1 a3 a6 = some rs → xY G z f s H locs → lv_has ls 8 [(0, .ref a0), (1, .long a1), (3, .int a3), (6, .int a6)] → W p l e rm_X11_findSquares s m args below meth c H locs 0 0 (MQ below (xQ G (some (.int rs.1)) z rs.2) args s rm_X11_findSquares.cells rm_X11_findSquares.slots (xA G)) (F0 m 45 ls []) := by
  intro n
  induction n with
  | zero => intro f a0 a1 a3 a6 H locs ls h Y hl; cases h
  | succ n ih => intro f a0 a1 a3 a6 H locs ls h Y hl; exact w_X11_findSquares_45 X hr hlocks hin rs k9 hk9 _ ih f a0 a1 a3 a6 _ _ _ h Y hl
set_option maxRecDepth 100000 in
set_option maxHeartbeats 4000000 in
theorem w_X11_findSquares_9 {p : Program} {l : Launch} {e : Env} {s : State} {m : MethodId} {args : Array Value} {below : List Frame} {meth : Method} {c : Code} {G : xG} {z : Nat} (X : xC G p m c s args RX11 cX11_findSquares 8) (hr : meth.sig.returnType = (some .boolean)) (hlocks : meth.locks = false) (hin : meth.name = yX11_findSquares.name) (rs : Int32 × xHp) (k9 : xHp → Nat → Int64 → Int32 → Option (Int32 × xHp)) (hk9 : ∀ (f : xHp) (a0 : Nat) (a1 : Int64) (a3 : Int32) (H : Heap) (locs : List Loc) (ls : Array Slot), k9 f a0 a1 a3 = some rs → xY G z f s H locs → lv_has ls 8 [(0, .ref a0), (1, .long a1), (3, .int a3)] → W p l e rm_X11_findSquares s m args below meth c H locs 0 0 (MQ below (xQ G (some (.int rs.1)) z rs.2) args s rm_X11_findSquares.cells rm_X11_findSquares.slots (xA G)) (F0 m 9 ls [])) (f : xHp) (a0 : Nat) (a1 : Int64) (a3 : Int32) (H : Heap) (locs : List Loc) (ls : Array Slot) (h : F_X11_findSquares_9 k9 f a0 a1 a3 = some rs) (Y : xY G z f s H locs) (hl : lv_has ls 8 [(0, .ref a0), (1, .long a1), (3, .int a3)]) : W p l e rm_X11_findSquares s m args below meth c H locs 0 0 (MQ below (xQ G (some (.int rs.1)) z rs.2) args s rm_X11_findSquares.cells rm_X11_findSquares.slots (xA G)) (F0 m 9 ls []) := by
  have hx := X.1.1
  have hb := X.1.2.1
  unfold F_X11_findSquares_9 at h
  refine lv_iload_n hx hb dX11_findSquares_9 rfl (lv_at hl 2 rfl) ?_
  refine lv_iconst (v := 3) hx hb dX11_findSquares_10 (by decide) ?_
  refine lv_icmp_ge (tgt := 269) hx hb dX11_findSquares_11 (by decide) (fun c1 => ?_) (fun c1 => ?_)
  · replace h := Eq.trans (if_pos c1).symm h
    refine lv_iconst (v := 1) hx hb dX11_findSquares_269 (by decide) ?_
    replace h := Option.some.inj h
    subst h
    exact q_retz (v := (1 : Int32)) X Y hr hlocks rfl (Nat.le_of_ble_eq_true rfl) (Nat.le_of_ble_eq_true rfl) dX11_findSquares_270
  · replace h := Eq.trans (if_neg c1).symm h
    refine lv_aload_n hx hb dX11_findSquares_14 rfl (lv_at hl 0 rfl) ?_
    replace h := xb h
    obtain ⟨v2, ev2, h⟩ := h
    refine q_getN X Y fl_X11_35 ev2 dX11_findSquares_15 ?_
    refine lv_iconst (v := 4) hx hb dX11_findSquares_18 (by decide) ?_
    refine lv_iload_n hx hb dX11_findSquares_19 rfl (lv_at hl 2 rfl) ?_
    refine lv_imul hx hb dX11_findSquares_20 ?_
    replace h := xb h
    obtain ⟨v3, ev3, h⟩ := h
    refine q_lald X Y ev3 dX11_findSquares_21 ?_
    refine lv_lstore (lv' := [(4, .long v3), (0, .ref a0), (1, .long a1), (3, .int a3)]) hx hb dX11_findSquares_22 hl (by decide) rfl (fun ls hl => ?_)
    refine lv_lload hx hb dX11_findSquares_24 (lv_at hl 0 rfl) ?_
    refine lv_lconst (v := 0) hx hb dX11_findSquares_26 (by decide) ?_
    refine q_lcmp_ge (tgt := 33) hx hb dX11_findSquares_27 dX11_findSquares_28 (by decide) (fun c4 => ?_) (fun c4 => ?_)
    · replace h := Eq.trans (if_pos c4).symm h
      refine lv_lload hx hb dX11_findSquares_33 (lv_at hl 0 rfl) ?_
      refine lv_lconst (v := 0) hx hb dX11_findSquares_35 (by decide) ?_
      refine q_lcmp_ne (tgt := 78) hx hb dX11_findSquares_36 dX11_findSquares_37 (by decide) (fun c5 => ?_) (fun c5 => ?_)
      · replace h := Eq.trans (if_neg c5).symm h
        refine lv_aload_n hx hb dX11_findSquares_78 rfl (lv_at hl 1 rfl) ?_
        replace h := xb h
        obtain ⟨v6, ev6, h⟩ := h
        refine q_getN X Y fl_X11_38 ev6 dX11_findSquares_79 ?_
        refine lv_iconst (v := 5) hx hb dX11_findSquares_82 (by decide) ?_
        refine lv_aload_n hx hb dX11_findSquares_83 rfl (lv_at hl 1 rfl) ?_
        replace h := xb h
        obtain ⟨v7, ev7, h⟩ := h
        refine q_getI X Y fl_X11_202 ev7 dX11_findSquares_84 ?_
        refine lv_imul hx hb dX11_findSquares_87 ?_
        refine lv_lconst (v := 1) hx hb dX11_findSquares_88 (by decide) ?_
        replace h := xb h
        obtain ⟨f8, ef8, h⟩ := h
        refine q_last X Y ef8 dX11_findSquares_89 (fun H locs Y => ?_)
        refine lv_aload_n hx hb dX11_findSquares_90 rfl (lv_at hl 1 rfl) ?_
        replace h := xb h
        obtain ⟨v9, ev9, h⟩ := h
        refine q_getN X Y fl_X11_38 ev9 dX11_findSquares_91 ?_
        refine lv_iconst (v := 5) hx hb dX11_findSquares_94 (by decide) ?_
        refine lv_aload_n hx hb dX11_findSquares_95 rfl (lv_at hl 1 rfl) ?_
        replace h := xb h
        obtain ⟨v10, ev10, h⟩ := h
        refine q_getI X Y fl_X11_202 ev10 dX11_findSquares_96 ?_
        refine lv_imul hx hb dX11_findSquares_99 ?_
        refine lv_iconst (v := 1) hx hb dX11_findSquares_100 (by decide) ?_
        refine lv_iadd hx hb dX11_findSquares_101 ?_
        refine lv_ldc2 (v := 2) hx hb X.1.2.2.2.1 (X.1.2.2.2.2 _ xw_923) dX11_findSquares_102 ?_
        refine lv_lload_n hx hb dX11_findSquares_105 rfl (lv_at hl 2 rfl) ?_
        refine lv_lmul hx hb dX11_findSquares_106 ?_
        refine lv_lload hx hb dX11_findSquares_107 (lv_at hl 0 rfl) ?_
        refine lv_lmul hx hb dX11_findSquares_109 ?_
        replace h := xb h
        obtain ⟨f11, ef11, h⟩ := h
        refine q_last X Y ef11 dX11_findSquares_110 (fun H locs Y => ?_)
        refine lv_iconst (v := 0) hx hb dX11_findSquares_111 (by decide) ?_
        refine lv_istore (lv' := [(6, .int (0 : Int32)), (4, .long v3), (0, .ref a0), (1, .long a1), (3, .int a3)]) hx hb dX11_findSquares_112 hl (by decide) rfl (fun ls hl => ?_)
        refine W.widen (k := 0) (n := 0) (Nat.le_of_ble_eq_true rfl) (Nat.le_of_ble_eq_true rfl) ?_
        exact lw_X11_findSquares_114 X hr hlocks hin rs k9 hk9 xfuel f11 a0 a1 a3 v3 (0 : Int32) _ _ _ h Y (lv_sub hl [2, 3, 4, 1, 0] rfl)
      · replace h := Eq.trans (if_pos c5).symm h
        refine lv_iload_n hx hb dX11_findSquares_40 rfl (lv_at hl 3 rfl) ?_
        refine lv_iconst (v := 1) hx hb dX11_findSquares_41 (by decide) ?_
        refine lv_iadd hx hb dX11_findSquares_42 ?_
        refine lv_istore (lv' := [(6, .int (a3 + (1 : Int32))), (4, .long v3), (0, .ref a0), (1, .long a1), (3, .int a3)]) hx hb dX11_findSquares_43 hl (by decide) rfl (fun ls hl => ?_)
        refine W.widen (k := 0) (n := 0) (Nat.le_of_ble_eq_true rfl) (Nat.le_of_ble_eq_true rfl) ?_
        exact lw_X11_findSquares_45 X hr hlocks hin rs k9 hk9 xfuel f a0 a1 a3 (a3 + (1 : Int32)) _ _ _ h Y (lv_sub hl [2, 3, 4, 0] rfl)
    · replace h := Eq.trans (if_neg c4).symm h
      refine lv_iconst (v := 0) hx hb dX11_findSquares_31 (by decide) ?_
      replace h := Option.some.inj h
      subst h
      exact q_retz (v := (0 : Int32)) X Y hr hlocks rfl (Nat.le_of_ble_eq_true rfl) (Nat.le_of_ble_eq_true rfl) dX11_findSquares_32
set_option maxRecDepth 100000 in
set_option maxHeartbeats 4000000 in
theorem lw_X11_findSquares_9 {p : Program} {l : Launch} {e : Env} {s : State} {m : MethodId} {args : Array Value} {below : List Frame} {meth : Method} {c : Code} {G : xG} {z : Nat} (X : xC G p m c s args RX11 cX11_findSquares 8) (hr : meth.sig.returnType = (some .boolean)) (hlocks : meth.locks = false) (hin : meth.name = yX11_findSquares.name) (rs : Int32 × xHp)  : ∀ (n : Nat) (f : xHp) (a0 : Nat) (a1 : Int64) (a3 : Int32) (H : Heap) (locs : List Loc) (ls : Array Slot), L_X11_findSquares_9  n f a0 a1 a3 = some rs → xY G z f s H locs → lv_has ls 8 [(0, .ref a0), (1, .long a1), (3, .int a3)] → W p l e rm_X11_findSquares s m args below meth c H locs 0 0 (MQ below (xQ G (some (.int rs.1)) z rs.2) args s rm_X11_findSquares.cells rm_X11_findSquares.slots (xA G)) (F0 m 9 ls []) := by
  intro n
  induction n with
  | zero => intro f a0 a1 a3 H locs ls h Y hl; cases h
  | succ n ih => intro f a0 a1 a3 H locs ls h Y hl; exact w_X11_findSquares_9 X hr hlocks hin rs _ ih f a0 a1 a3 _ _ _ h Y hl
set_option maxRecDepth 100000 in
set_option maxHeartbeats 4000000 in
theorem c_X11_findSquares (l : Launch) (G : xG) (z : Nat) (f : xHp) (h0 : Nat) (rs : Int32 × xHp) (h : F_X11_findSquares f h0 = some rs) : xM G l yX11_findSquares cX11_findSquares 8 (some .boolean) rm_X11_findSquares [.ref h0] z f (some (.int rs.1)) z rs.2 := by
  refine xM_of (by decide) (Nat.le_of_ble_eq_true rfl) ?_
  intro p e s m below meth c ls X hr hlocks hin Y hl
  have hl : lv_has ls 8 [(0, .ref h0)] := hl
  have hx := X.1.1
  have hb := X.1.2.1
  unfold F_X11_findSquares at h
  refine lv_aload_n hx hb dX11_findSquares_0 rfl (lv_at hl 0 rfl) ?_
  refine lv_iconst (v := 0) hx hb dX11_findSquares_1 (by decide) ?_
  replace h := xb h
  obtain ⟨f1, ef1, h⟩ := h
  refine q_put X Y fp_X11_202 rfl rfl ef1 dX11_findSquares_2 (fun H locs Y => ?_)
  refine lv_lconst (v := 1) hx hb dX11_findSquares_5 (by decide) ?_
  refine lv_lstore_n (lv' := [(1, .long (1 : Int64)), (0, .ref h0)]) hx hb dX11_findSquares_6 rfl hl (by decide) rfl (fun ls hl => ?_)
  refine lv_iconst (v := 0) hx hb dX11_findSquares_7 (by decide) ?_
  refine lv_istore_n (lv' := [(3, .int (0 : Int32)), (1, .long (1 : Int64)), (0, .ref h0)]) hx hb dX11_findSquares_8 rfl hl (by decide) rfl (fun ls hl => ?_)
  refine W.widen (k := 0) (n := 0) (Nat.le_of_ble_eq_true rfl) (Nat.le_of_ble_eq_true rfl) ?_
  exact lw_X11_findSquares_9 X hr hlocks hin rs  xfuel f1 h0 (1 : Int64) (0 : Int32) _ _ _ h Y (lv_sub hl [2, 1, 0] rfl)
/-! NeverBelowModel.newProof(III)I -/
abbrev rm_X11_newProof : Room := { frames := 0, cells := 0, slots := 0, locals := 0 }
def F_X11_newProof (f : xHp) (h0 : Nat) (p1 : Int32) (p2 : Int32) (p3 : Int32) : Option (Int32 × xHp) := Option.bind (hN f h0 [(10, 21)]) fun v1 => Option.bind (hI f h0 [(10, 20)]) fun v2 => Option.bind (hIst f v1 v2 p1) fun f3 => Option.bind (hN f3 h0 [(10, 22)]) fun v4 => Option.bind (hI f3 h0 [(10, 20)]) fun v5 => Option.bind (hIst f3 v4 v5 p2) fun f6 => Option.bind (hN f6 h0 [(10, 23)]) fun v7 => Option.bind (hI f6 h0 [(10, 20)]) fun v8 => Option.bind (hIst f6 v7 v8 p3) fun f9 => Option.bind (hN f9 h0 [(10, 24)]) fun v10 => Option.bind (hI f9 h0 [(10, 20)]) fun v11 => Option.bind (hIst f9 v10 v11 (0 : Int32)) fun f12 => Option.bind (hI f12 h0 [(10, 20)]) fun v13 => Option.bind (hPut f12 h0 [(10, 20)] (.int (v13 + (1 : Int32)))) fun f14 => Option.bind (hI f14 h0 [(10, 20)]) fun v15 => some ((v15 - (1 : Int32)), f14)
set_option maxRecDepth 100000 in
set_option maxHeartbeats 4000000 in
theorem c_X11_newProof (l : Launch) (G : xG) (z : Nat) (f : xHp) (h0 : Nat) (p1 : Int32) (p2 : Int32) (p3 : Int32) (rs : Int32 × xHp) (h : F_X11_newProof f h0 p1 p2 p3 = some rs) : xM G l yX11_newProof cX11_newProof 4 (some .int) rm_X11_newProof [.ref h0, .int p1, .int p2, .int p3] z f (some (.int rs.1)) z rs.2 := by
  refine xM_of (by decide) (Nat.le_of_ble_eq_true rfl) ?_
  intro p e s m below meth c ls X hr hlocks hin Y hl
  have hl : lv_has ls 4 [(0, .ref h0), (1, .int p1), (2, .int p2), (3, .int p3)] := hl
  have hx := X.1.1
  have hb := X.1.2.1
  unfold F_X11_newProof at h
  refine lv_aload_n hx hb dX11_newProof_0 rfl (lv_at hl 0 rfl) ?_
  replace h := xb h
  obtain ⟨v1, ev1, h⟩ := h
  refine q_getN X Y fl_X11_41 ev1 dX11_newProof_1 ?_
  refine lv_aload_n hx hb dX11_newProof_4 rfl (lv_at hl 0 rfl) ?_
  replace h := xb h
  obtain ⟨v2, ev2, h⟩ := h
  refine q_getI X Y fl_X11_205 ev2 dX11_newProof_5 ?_
  refine lv_iload_n hx hb dX11_newProof_8 rfl (lv_at hl 1 rfl) ?_
  replace h := xb h
  obtain ⟨f3, ef3, h⟩ := h
  refine q_iast X Y ef3 dX11_newProof_9 (fun H locs Y => ?_)
  refine lv_aload_n hx hb dX11_newProof_10 rfl (lv_at hl 0 rfl) ?_
  replace h := xb h
  obtain ⟨v4, ev4, h⟩ := h
  refine q_getN X Y fl_X11_44 ev4 dX11_newProof_11 ?_
  refine lv_aload_n hx hb dX11_newProof_14 rfl (lv_at hl 0 rfl) ?_
  replace h := xb h
  obtain ⟨v5, ev5, h⟩ := h
  refine q_getI X Y fl_X11_205 ev5 dX11_newProof_15 ?_
  refine lv_iload_n hx hb dX11_newProof_18 rfl (lv_at hl 2 rfl) ?_
  replace h := xb h
  obtain ⟨f6, ef6, h⟩ := h
  refine q_iast X Y ef6 dX11_newProof_19 (fun H locs Y => ?_)
  refine lv_aload_n hx hb dX11_newProof_20 rfl (lv_at hl 0 rfl) ?_
  replace h := xb h
  obtain ⟨v7, ev7, h⟩ := h
  refine q_getN X Y fl_X11_47 ev7 dX11_newProof_21 ?_
  refine lv_aload_n hx hb dX11_newProof_24 rfl (lv_at hl 0 rfl) ?_
  replace h := xb h
  obtain ⟨v8, ev8, h⟩ := h
  refine q_getI X Y fl_X11_205 ev8 dX11_newProof_25 ?_
  refine lv_iload_n hx hb dX11_newProof_28 rfl (lv_at hl 3 rfl) ?_
  replace h := xb h
  obtain ⟨f9, ef9, h⟩ := h
  refine q_iast X Y ef9 dX11_newProof_29 (fun H locs Y => ?_)
  refine lv_aload_n hx hb dX11_newProof_30 rfl (lv_at hl 0 rfl) ?_
  replace h := xb h
  obtain ⟨v10, ev10, h⟩ := h
  refine q_getN X Y fl_X11_50 ev10 dX11_newProof_31 ?_
  refine lv_aload_n hx hb dX11_newProof_34 rfl (lv_at hl 0 rfl) ?_
  replace h := xb h
  obtain ⟨v11, ev11, h⟩ := h
  refine q_getI X Y fl_X11_205 ev11 dX11_newProof_35 ?_
  refine lv_iconst (v := 0) hx hb dX11_newProof_38 (by decide) ?_
  replace h := xb h
  obtain ⟨f12, ef12, h⟩ := h
  refine q_iast X Y ef12 dX11_newProof_39 (fun H locs Y => ?_)
  refine lv_aload_n hx hb dX11_newProof_40 rfl (lv_at hl 0 rfl) ?_
  refine lv_dup hx hb dX11_newProof_41 rfl ?_
  replace h := xb h
  obtain ⟨v13, ev13, h⟩ := h
  refine q_getI X Y fl_X11_205 ev13 dX11_newProof_42 ?_
  refine lv_iconst (v := 1) hx hb dX11_newProof_45 (by decide) ?_
  refine lv_iadd hx hb dX11_newProof_46 ?_
  replace h := xb h
  obtain ⟨f14, ef14, h⟩ := h
  refine q_put X Y fp_X11_205 rfl rfl ef14 dX11_newProof_47 (fun H locs Y => ?_)
  refine lv_aload_n hx hb dX11_newProof_50 rfl (lv_at hl 0 rfl) ?_
  replace h := xb h
  obtain ⟨v15, ev15, h⟩ := h
  refine q_getI X Y fl_X11_205 ev15 dX11_newProof_51 ?_
  refine lv_iconst (v := 1) hx hb dX11_newProof_54 (by decide) ?_
  refine lv_isub hx hb dX11_newProof_55 ?_
  replace h := Option.some.inj h
  subst h
  exact q_reti X Y hr hlocks (Nat.le_of_ble_eq_true rfl) (Nat.le_of_ble_eq_true rfl) dX11_newProof_56
/-! NeverBelowModel.tellNumber(IJ)V -/
abbrev rm_X11_tellNumber : Room := { frames := 0, cells := 0, slots := 0, locals := 0 }
def F_X11_tellNumber (f : xHp) (h0 : Nat) (p1 : Int32) (p2 : Int64) : Option (xHp) := Option.bind (hN f h0 [(10, 25)]) fun v1 => Option.bind (hN f h0 [(10, 24)]) fun v2 => Option.bind (hIld f v2 p1) fun v3 => Option.bind (hJst f v1 (((160 : Int32) * p1) + v3) p2) fun f4 => Option.bind (hN f4 h0 [(10, 24)]) fun v5 => Option.bind (hIld f4 v5 p1) fun v6 => Option.bind (hIst f4 v5 p1 (v6 + (1 : Int32))) fun f7 => some f7
set_option maxRecDepth 100000 in
set_option maxHeartbeats 4000000 in
theorem c_X11_tellNumber (l : Launch) (G : xG) (z : Nat) (f : xHp) (h0 : Nat) (p1 : Int32) (p2 : Int64) (rs : xHp) (h : F_X11_tellNumber f h0 p1 p2 = some rs) : xM G l yX11_tellNumber cX11_tellNumber 4 none rm_X11_tellNumber [.ref h0, .int p1, .long p2] z f none z rs := by
  refine xM_of (by decide) (Nat.le_of_ble_eq_true rfl) ?_
  intro p e s m below meth c ls X hr hlocks hin Y hl
  have hl : lv_has ls 4 [(0, .ref h0), (1, .int p1), (2, .long p2)] := hl
  have hx := X.1.1
  have hb := X.1.2.1
  unfold F_X11_tellNumber at h
  refine lv_aload_n hx hb dX11_tellNumber_0 rfl (lv_at hl 0 rfl) ?_
  replace h := xb h
  obtain ⟨v1, ev1, h⟩ := h
  refine q_getN X Y fl_X11_53 ev1 dX11_tellNumber_1 ?_
  refine lv_sipush (v := 160) hx hb dX11_tellNumber_4 (by decide) ?_
  refine lv_iload_n hx hb dX11_tellNumber_7 rfl (lv_at hl 1 rfl) ?_
  refine lv_imul hx hb dX11_tellNumber_8 ?_
  refine lv_aload_n hx hb dX11_tellNumber_9 rfl (lv_at hl 0 rfl) ?_
  replace h := xb h
  obtain ⟨v2, ev2, h⟩ := h
  refine q_getN X Y fl_X11_50 ev2 dX11_tellNumber_10 ?_
  refine lv_iload_n hx hb dX11_tellNumber_13 rfl (lv_at hl 1 rfl) ?_
  replace h := xb h
  obtain ⟨v3, ev3, h⟩ := h
  refine q_iald X Y ev3 dX11_tellNumber_14 ?_
  refine lv_iadd hx hb dX11_tellNumber_15 ?_
  refine lv_lload_n hx hb dX11_tellNumber_16 rfl (lv_at hl 2 rfl) ?_
  replace h := xb h
  obtain ⟨f4, ef4, h⟩ := h
  refine q_last X Y ef4 dX11_tellNumber_17 (fun H locs Y => ?_)
  refine lv_aload_n hx hb dX11_tellNumber_18 rfl (lv_at hl 0 rfl) ?_
  replace h := xb h
  obtain ⟨v5, ev5, h⟩ := h
  refine q_getN X Y fl_X11_50 ev5 dX11_tellNumber_19 ?_
  refine lv_iload_n hx hb dX11_tellNumber_22 rfl (lv_at hl 1 rfl) ?_
  refine lv_dup2_11 hx hb dX11_tellNumber_23 rfl rfl ?_
  replace h := xb h
  obtain ⟨v6, ev6, h⟩ := h
  refine q_iald X Y ev6 dX11_tellNumber_24 ?_
  refine lv_iconst (v := 1) hx hb dX11_tellNumber_25 (by decide) ?_
  refine lv_iadd hx hb dX11_tellNumber_26 ?_
  replace h := xb h
  obtain ⟨f7, ef7, h⟩ := h
  refine q_iast X Y ef7 dX11_tellNumber_27 (fun H locs Y => ?_)
  replace h := Option.some.inj h
  subst h
  exact q_retv X Y hr hlocks (Nat.le_of_ble_eq_true rfl) (Nat.le_of_ble_eq_true rfl) dX11_tellNumber_28
/-! NeverBelowModel.tellSquares(I)V -/
abbrev rm_X11_tellSquares : Room := { frames := 1, cells := 0, slots := 0, locals := 23 }
def F_X11_tellSquares_2 (k2 : xHp → Nat → Int32 → Int32 → Option (xHp)) (f : xHp) (a0 : Nat) (a1 : Int32) (a2 : Int32) : Option (xHp) := Option.bind (hI f a0 [(10, 18)]) fun v1 => if ((5 : Int32) * v1) ≤ a2 then (some f) else (Option.bind (hN f a0 [(10, 19)]) fun v3 => Option.bind (hJld f v3 a2) fun v4 => if hKd f a0 = some 10 then (Option.bind (F_X11_tellNumber f a0 a1 v4) fun q6 => k2 q6 a0 a1 (a2 + 1)) else none)
def L_X11_tellSquares_2  : Nat → xHp → Nat → Int32 → Int32 → Option (xHp)
  | 0, _, _, _, _ => none
  | n + 1, f, a0, a1, a2 => F_X11_tellSquares_2 (L_X11_tellSquares_2  n) f a0 a1 a2
def F_X11_tellSquares (f : xHp) (h0 : Nat) (p1 : Int32) : Option (xHp) := L_X11_tellSquares_2 xfuel f h0 p1 (0 : Int32)
set_option maxRecDepth 100000 in
set_option maxHeartbeats 4000000 in
theorem w_X11_tellSquares_2 {p : Program} {l : Launch} {e : Env} {s : State} {m : MethodId} {args : Array Value} {below : List Frame} {meth : Method} {c : Code} {G : xG} {z : Nat} (X : xC G p m c s args RX11 cX11_tellSquares 3) (hr : meth.sig.returnType = none) (hlocks : meth.locks = false) (hin : meth.name = yX11_tellSquares.name) (rs : xHp) (k2 : xHp → Nat → Int32 → Int32 → Option (xHp)) (hk2 : ∀ (f : xHp) (a0 : Nat) (a1 : Int32) (a2 : Int32) (H : Heap) (locs : List Loc) (ls : Array Slot), k2 f a0 a1 a2 = some rs → xY G z f s H locs → lv_has ls 3 [(0, .ref a0), (1, .int a1), (2, .int a2)] → W p l e rm_X11_tellSquares s m args below meth c H locs 0 0 (MQ below (xQ G none z rs) args s rm_X11_tellSquares.cells rm_X11_tellSquares.slots (xA G)) (F0 m 2 ls [])) (f : xHp) (a0 : Nat) (a1 : Int32) (a2 : Int32) (H : Heap) (locs : List Loc) (ls : Array Slot) (h : F_X11_tellSquares_2 k2 f a0 a1 a2 = some rs) (Y : xY G z f s H locs) (hl : lv_has ls 3 [(0, .ref a0), (1, .int a1), (2, .int a2)]) : W p l e rm_X11_tellSquares s m args below meth c H locs 0 0 (MQ below (xQ G none z rs) args s rm_X11_tellSquares.cells rm_X11_tellSquares.slots (xA G)) (F0 m 2 ls []) := by
  have hx := X.1.1
  have hb := X.1.2.1
  unfold F_X11_tellSquares_2 at h
  refine lv_iload_n hx hb dX11_tellSquares_2 rfl (lv_at hl 2 rfl) ?_
  refine lv_iconst (v := 5) hx hb dX11_tellSquares_3 (by decide) ?_
  refine lv_aload_n hx hb dX11_tellSquares_4 rfl (lv_at hl 0 rfl) ?_
  replace h := xb h
  obtain ⟨v1, ev1, h⟩ := h
  refine q_getI X Y fl_X11_202 ev1 dX11_tellSquares_5 ?_
  refine lv_imul hx hb dX11_tellSquares_8 ?_
  refine lv_icmp_ge (tgt := 29) hx hb dX11_tellSquares_9 (by decide) (fun c2 => ?_) (fun c2 => ?_)
  · replace h := Eq.trans (if_pos c2).symm h
    replace h := Option.some.inj h
    subst h
    exact q_retv X Y hr hlocks (Nat.le_of_ble_eq_true rfl) (Nat.le_of_ble_eq_true rfl) dX11_tellSquares_29
  · replace h := Eq.trans (if_neg c2).symm h
    refine lv_aload_n hx hb dX11_tellSquares_12 rfl (lv_at hl 0 rfl) ?_
    refine lv_iload_n hx hb dX11_tellSquares_13 rfl (lv_at hl 1 rfl) ?_
    refine lv_aload_n hx hb dX11_tellSquares_14 rfl (lv_at hl 0 rfl) ?_
    replace h := xb h
    obtain ⟨v3, ev3, h⟩ := h
    refine q_getN X Y fl_X11_38 ev3 dX11_tellSquares_15 ?_
    refine lv_iload_n hx hb dX11_tellSquares_18 rfl (lv_at hl 2 rfl) ?_
    replace h := xb h
    obtain ⟨v4, ev4, h⟩ := h
    refine q_lald X Y ev4 dX11_tellSquares_19 ?_
    by_cases c5 : hKd f a0 = some 10
    · replace h := Eq.trans (if_pos c5).symm h
      replace h := xb h
      obtain ⟨q6, eq6, h⟩ := h
      refine q_callV X Y hl.1 (rest := []) (As := [.int a1, .long v4]) (c_X11_tellNumber l G z f a0 a1 v4 _ eq6) cd_X11_tellNumber lv_X11_208_10 c5 ⟨(Nat.le_of_ble_eq_true rfl), (Nat.le_of_ble_eq_true rfl)⟩ ⟨(Nat.le_of_ble_eq_true rfl), (Nat.le_of_ble_eq_true rfl)⟩ rfl rfl (Nat.le_of_ble_eq_true rfl) dX11_tellSquares_20 (fun H locs Y => ?_)
      refine W.eq (g2 := F0 m 23 ls []) rfl ?_
      refine lv_iinc (v := (a2 + 1)) (lv' := [(2, .int (a2 + 1)), (0, .ref a0), (1, .int a1)]) hx hb dX11_tellSquares_23 hl (k := 2) rfl rfl (by decide) rfl (fun ls hl => ?_)
      refine lv_goto (tgt := 2) hx hb dX11_tellSquares_26 (by decide) ?_
      refine W.widen (k := 0) (n := 0) (Nat.le_of_ble_eq_true rfl) (Nat.le_of_ble_eq_true rfl) ?_
      exact hk2 q6 a0 a1 (a2 + 1) _ _ _ h Y (lv_sub hl [1, 2, 0] rfl)
    replace h := Eq.trans (if_neg c5).symm h
    cases h
set_option maxRecDepth 100000 in
set_option maxHeartbeats 4000000 in
theorem lw_X11_tellSquares_2 {p : Program} {l : Launch} {e : Env} {s : State} {m : MethodId} {args : Array Value} {below : List Frame} {meth : Method} {c : Code} {G : xG} {z : Nat} (X : xC G p m c s args RX11 cX11_tellSquares 3) (hr : meth.sig.returnType = none) (hlocks : meth.locks = false) (hin : meth.name = yX11_tellSquares.name) (rs : xHp)  : ∀ (n : Nat) (f : xHp) (a0 : Nat) (a1 : Int32) (a2 : Int32) (H : Heap) (locs : List Loc) (ls : Array Slot), L_X11_tellSquares_2  n f a0 a1 a2 = some rs → xY G z f s H locs → lv_has ls 3 [(0, .ref a0), (1, .int a1), (2, .int a2)] → W p l e rm_X11_tellSquares s m args below meth c H locs 0 0 (MQ below (xQ G none z rs) args s rm_X11_tellSquares.cells rm_X11_tellSquares.slots (xA G)) (F0 m 2 ls []) := by
  intro n
  induction n with
  | zero => intro f a0 a1 a2 H locs ls h Y hl; cases h
  | succ n ih => intro f a0 a1 a2 H locs ls h Y hl; exact w_X11_tellSquares_2 X hr hlocks hin rs _ ih f a0 a1 a2 _ _ _ h Y hl
set_option maxRecDepth 100000 in
set_option maxHeartbeats 4000000 in
theorem c_X11_tellSquares (l : Launch) (G : xG) (z : Nat) (f : xHp) (h0 : Nat) (p1 : Int32) (rs : xHp) (h : F_X11_tellSquares f h0 p1 = some rs) : xM G l yX11_tellSquares cX11_tellSquares 3 none rm_X11_tellSquares [.ref h0, .int p1] z f none z rs := by
  refine xM_of (by decide) (Nat.le_of_ble_eq_true rfl) ?_
  intro p e s m below meth c ls X hr hlocks hin Y hl
  have hl : lv_has ls 3 [(0, .ref h0), (1, .int p1)] := hl
  have hx := X.1.1
  have hb := X.1.2.1
  unfold F_X11_tellSquares at h
  refine lv_iconst (v := 0) hx hb dX11_tellSquares_0 (by decide) ?_
  refine lv_istore_n (lv' := [(2, .int (0 : Int32)), (0, .ref h0), (1, .int p1)]) hx hb dX11_tellSquares_1 rfl hl (by decide) rfl (fun ls hl => ?_)
  refine W.widen (k := 0) (n := 0) (Nat.le_of_ble_eq_true rfl) (Nat.le_of_ble_eq_true rfl) ?_
  exact lw_X11_tellSquares_2 X hr hlocks hin rs  xfuel f h0 p1 (0 : Int32) _ _ _ h Y (lv_sub hl [1, 2, 0] rfl)
/-! NeverBelowModel.squares(I)I -/
abbrev rm_X11_squares : Room := { frames := 2, cells := 0, slots := 0, locals := 45 }
def F_X11_squares (f : xHp) (h0 : Nat) (p1 : Int32) : Option (Int32 × xHp) := if hKd f h0 = some 10 then (Option.bind (F_X11_isPoly f h0 p1) fun q2 => if q2 = 0 then (some ((-1 : Int32), f)) else (if hKd f h0 = some 10 then (Option.bind (F_X11_hasOther f h0 p1) fun q5 => if q5 = 0 then (if hKd f h0 = some 10 then (Option.bind (F_X11_termOf f h0 p1 (6 : Int32)) fun q8 => if hKd f h0 = some 10 then (Option.bind (F_X11_termOf f h0 p1 (4 : Int32)) fun q10 => if hKd f h0 = some 10 then (Option.bind (F_X11_termOf f h0 p1 (3 : Int32)) fun q12 => if hKd f h0 = some 10 then (Option.bind (F_X11_termOf f h0 p1 (2 : Int32)) fun q14 => if hKd f h0 = some 10 then (Option.bind (F_X11_termOf f h0 p1 (1 : Int32)) fun q16 => if hKd f h0 = some 10 then (Option.bind (F_X11_termOf f h0 p1 (0 : Int32)) fun q18 => if hKd f h0 = some 10 then (Option.bind (F_X11_layForm f h0 q8 q10 q12 q14 q16 q18) fun q20 => if hKd q20 h0 = some 10 then (Option.bind (F_X11_findSquares q20 h0) fun q22 => if q22.1 = 0 then (some ((-9 : Int32), q22.2)) else (Option.bind (hI q22.2 h0 [(10, 20)]) fun v24 => if v24 = (40 : Int32) then (some ((-4 : Int32), q22.2)) else (if hKd q22.2 h0 = some 10 then (Option.bind (F_X11_newProof q22.2 h0 (0 : Int32) p1 (-9 : Int32)) fun q27 => if hKd q27.2 h0 = some 10 then (Option.bind (F_X11_tellSquares q27.2 h0 q27.1) fun q29 => some (q27.1, q29)) else none) else none))) else none) else none) else none) else none) else none) else none) else none) else none) else (some ((-3 : Int32), f))) else none)) else none
set_option maxRecDepth 100000 in
set_option maxHeartbeats 4000000 in
theorem c_X11_squares (l : Launch) (G : xG) (z : Nat) (f : xHp) (h0 : Nat) (p1 : Int32) (rs : Int32 × xHp) (h : F_X11_squares f h0 p1 = some rs) : xM G l yX11_squares cX11_squares 3 (some .int) rm_X11_squares [.ref h0, .int p1] z f (some (.int rs.1)) z rs.2 := by
  refine xM_of (by decide) (Nat.le_of_ble_eq_true rfl) ?_
  intro p e s m below meth c ls X hr hlocks hin Y hl
  have hl : lv_has ls 3 [(0, .ref h0), (1, .int p1)] := hl
  have hx := X.1.1
  have hb := X.1.2.1
  unfold F_X11_squares at h
  refine lv_aload_n hx hb dX11_squares_0 rfl (lv_at hl 0 rfl) ?_
  refine lv_iload_n hx hb dX11_squares_1 rfl (lv_at hl 1 rfl) ?_
  by_cases c1 : hKd f h0 = some 10
  · replace h := Eq.trans (if_pos c1).symm h
    replace h := xb h
    obtain ⟨q2, eq2, h⟩ := h
    refine q_callV X Y hl.1 (rest := []) (As := [.int p1]) (c_X11_isPoly l G z f h0 p1 _ eq2) cd_X11_isPoly lv_X11_109_10 c1 ⟨(Nat.le_of_ble_eq_true rfl), (Nat.le_of_ble_eq_true rfl)⟩ ⟨(Nat.le_of_ble_eq_true rfl), (Nat.le_of_ble_eq_true rfl)⟩ rfl rfl (Nat.le_of_ble_eq_true rfl) dX11_squares_2 (fun H locs Y => ?_)
    refine W.eq (g2 := F0 m 5 ls [.int q2]) rfl ?_
    refine lv_if_ne (tgt := 10) hx hb dX11_squares_5 (by decide) (fun c3 => ?_) (fun c3 => ?_)
    · replace h := Eq.trans (if_neg c3).symm h
      refine lv_aload_n hx hb dX11_squares_10 rfl (lv_at hl 0 rfl) ?_
      refine lv_iload_n hx hb dX11_squares_11 rfl (lv_at hl 1 rfl) ?_
      by_cases c4 : hKd f h0 = some 10
      · replace h := Eq.trans (if_pos c4).symm h
        replace h := xb h
        obtain ⟨q5, eq5, h⟩ := h
        refine q_callV X Y hl.1 (rest := []) (As := [.int p1]) (c_X11_hasOther l G z f h0 p1 _ eq5) cd_X11_hasOther lv_X11_195_10 c4 ⟨(Nat.le_of_ble_eq_true rfl), (Nat.le_of_ble_eq_true rfl)⟩ ⟨(Nat.le_of_ble_eq_true rfl), (Nat.le_of_ble_eq_true rfl)⟩ rfl rfl (Nat.le_of_ble_eq_true rfl) dX11_squares_12 (fun H locs Y => ?_)
        refine W.eq (g2 := F0 m 15 ls [.int q5]) rfl ?_
        refine lv_if_eq (tgt := 21) hx hb dX11_squares_15 (by decide) (fun c6 => ?_) (fun c6 => ?_)
        · replace h := Eq.trans (if_pos c6).symm h
          refine lv_aload_n hx hb dX11_squares_21 rfl (lv_at hl 0 rfl) ?_
          refine lv_aload_n hx hb dX11_squares_22 rfl (lv_at hl 0 rfl) ?_
          refine lv_iload_n hx hb dX11_squares_23 rfl (lv_at hl 1 rfl) ?_
          refine lv_bipush (v := 6) hx hb dX11_squares_24 (by decide) ?_
          by_cases c7 : hKd f h0 = some 10
          · replace h := Eq.trans (if_pos c7).symm h
            replace h := xb h
            obtain ⟨q8, eq8, h⟩ := h
            refine q_callV X Y hl.1 (rest := [.ref h0]) (As := [.int p1, .int (6 : Int32)]) (c_X11_termOf l G z f h0 p1 (6 : Int32) _ eq8) cd_X11_termOf lv_X11_113_10 c7 ⟨(Nat.le_of_ble_eq_true rfl), (Nat.le_of_ble_eq_true rfl)⟩ ⟨(Nat.le_of_ble_eq_true rfl), (Nat.le_of_ble_eq_true rfl)⟩ rfl rfl (Nat.le_of_ble_eq_true rfl) dX11_squares_26 (fun H locs Y => ?_)
            refine W.eq (g2 := F0 m 29 ls [.long q8, .ref h0]) rfl ?_
            refine lv_aload_n hx hb dX11_squares_29 rfl (lv_at hl 0 rfl) ?_
            refine lv_iload_n hx hb dX11_squares_30 rfl (lv_at hl 1 rfl) ?_
            refine lv_iconst (v := 4) hx hb dX11_squares_31 (by decide) ?_
            by_cases c9 : hKd f h0 = some 10
            · replace h := Eq.trans (if_pos c9).symm h
              replace h := xb h
              obtain ⟨q10, eq10, h⟩ := h
              refine q_callV X Y hl.1 (rest := [.long q8, .ref h0]) (As := [.int p1, .int (4 : Int32)]) (c_X11_termOf l G z f h0 p1 (4 : Int32) _ eq10) cd_X11_termOf lv_X11_113_10 c9 ⟨(Nat.le_of_ble_eq_true rfl), (Nat.le_of_ble_eq_true rfl)⟩ ⟨(Nat.le_of_ble_eq_true rfl), (Nat.le_of_ble_eq_true rfl)⟩ rfl rfl (Nat.le_of_ble_eq_true rfl) dX11_squares_32 (fun H locs Y => ?_)
              refine W.eq (g2 := F0 m 35 ls [.long q10, .long q8, .ref h0]) rfl ?_
              refine lv_aload_n hx hb dX11_squares_35 rfl (lv_at hl 0 rfl) ?_
              refine lv_iload_n hx hb dX11_squares_36 rfl (lv_at hl 1 rfl) ?_
              refine lv_iconst (v := 3) hx hb dX11_squares_37 (by decide) ?_
              by_cases c11 : hKd f h0 = some 10
              · replace h := Eq.trans (if_pos c11).symm h
                replace h := xb h
                obtain ⟨q12, eq12, h⟩ := h
                refine q_callV X Y hl.1 (rest := [.long q10, .long q8, .ref h0]) (As := [.int p1, .int (3 : Int32)]) (c_X11_termOf l G z f h0 p1 (3 : Int32) _ eq12) cd_X11_termOf lv_X11_113_10 c11 ⟨(Nat.le_of_ble_eq_true rfl), (Nat.le_of_ble_eq_true rfl)⟩ ⟨(Nat.le_of_ble_eq_true rfl), (Nat.le_of_ble_eq_true rfl)⟩ rfl rfl (Nat.le_of_ble_eq_true rfl) dX11_squares_38 (fun H locs Y => ?_)
                refine W.eq (g2 := F0 m 41 ls [.long q12, .long q10, .long q8, .ref h0]) rfl ?_
                refine lv_aload_n hx hb dX11_squares_41 rfl (lv_at hl 0 rfl) ?_
                refine lv_iload_n hx hb dX11_squares_42 rfl (lv_at hl 1 rfl) ?_
                refine lv_iconst (v := 2) hx hb dX11_squares_43 (by decide) ?_
                by_cases c13 : hKd f h0 = some 10
                · replace h := Eq.trans (if_pos c13).symm h
                  replace h := xb h
                  obtain ⟨q14, eq14, h⟩ := h
                  refine q_callV X Y hl.1 (rest := [.long q12, .long q10, .long q8, .ref h0]) (As := [.int p1, .int (2 : Int32)]) (c_X11_termOf l G z f h0 p1 (2 : Int32) _ eq14) cd_X11_termOf lv_X11_113_10 c13 ⟨(Nat.le_of_ble_eq_true rfl), (Nat.le_of_ble_eq_true rfl)⟩ ⟨(Nat.le_of_ble_eq_true rfl), (Nat.le_of_ble_eq_true rfl)⟩ rfl rfl (Nat.le_of_ble_eq_true rfl) dX11_squares_44 (fun H locs Y => ?_)
                  refine W.eq (g2 := F0 m 47 ls [.long q14, .long q12, .long q10, .long q8, .ref h0]) rfl ?_
                  refine lv_aload_n hx hb dX11_squares_47 rfl (lv_at hl 0 rfl) ?_
                  refine lv_iload_n hx hb dX11_squares_48 rfl (lv_at hl 1 rfl) ?_
                  refine lv_iconst (v := 1) hx hb dX11_squares_49 (by decide) ?_
                  by_cases c15 : hKd f h0 = some 10
                  · replace h := Eq.trans (if_pos c15).symm h
                    replace h := xb h
                    obtain ⟨q16, eq16, h⟩ := h
                    refine q_callVW X Y hl.1 (rest := [.long q14, .long q12, .long q10, .long q8, .ref h0]) (As := [.int p1, .int (1 : Int32)]) (c_X11_termOf l G z f h0 p1 (1 : Int32) _ eq16) cd_X11_termOf lv_X11_113_10 c15 ⟨(Nat.le_of_ble_eq_true rfl), (Nat.le_of_ble_eq_true rfl)⟩ ⟨(Nat.le_of_ble_eq_true rfl), (Nat.le_of_ble_eq_true rfl)⟩ rfl rfl (Nat.le_of_ble_eq_true rfl) dX11_squares_50 (fun H locs Y => ?_)
                    refine W.eq (g2 := F0 m 53 ls [.long q16, .long q14, .long q12, .long q10, .long q8, .ref h0]) rfl ?_
                    refine lv_aload_n hx hb dX11_squares_53 rfl (lv_at hl 0 rfl) ?_
                    refine lv_iload_n hx hb dX11_squares_54 rfl (lv_at hl 1 rfl) ?_
                    refine lv_iconst (v := 0) hx hb dX11_squares_55 (by decide) ?_
                    by_cases c17 : hKd f h0 = some 10
                    · replace h := Eq.trans (if_pos c17).symm h
                      replace h := xb h
                      obtain ⟨q18, eq18, h⟩ := h
                      refine q_callVW X Y hl.1 (rest := [.long q16, .long q14, .long q12, .long q10, .long q8, .ref h0]) (As := [.int p1, .int (0 : Int32)]) (c_X11_termOf l G z f h0 p1 (0 : Int32) _ eq18) cd_X11_termOf lv_X11_113_10 c17 ⟨(Nat.le_of_ble_eq_true rfl), (Nat.le_of_ble_eq_true rfl)⟩ ⟨(Nat.le_of_ble_eq_true rfl), (Nat.le_of_ble_eq_true rfl)⟩ rfl rfl (Nat.le_of_ble_eq_true rfl) dX11_squares_56 (fun H locs Y => ?_)
                      refine W.eq (g2 := F0 m 59 ls [.long q18, .long q16, .long q14, .long q12, .long q10, .long q8, .ref h0]) rfl ?_
                      by_cases c19 : hKd f h0 = some 10
                      · replace h := Eq.trans (if_pos c19).symm h
                        replace h := xb h
                        obtain ⟨q20, eq20, h⟩ := h
                        refine q_callV X Y hl.1 (rest := []) (As := [.long q8, .long q10, .long q12, .long q14, .long q16, .long q18]) (c_X11_layForm l G z f h0 q8 q10 q12 q14 q16 q18 _ eq20) cd_X11_layForm lv_X11_198_10 c19 ⟨(Nat.le_of_ble_eq_true rfl), (Nat.le_of_ble_eq_true rfl)⟩ ⟨(Nat.le_of_ble_eq_true rfl), (Nat.le_of_ble_eq_true rfl)⟩ rfl rfl (Nat.le_of_ble_eq_true rfl) dX11_squares_59 (fun H locs Y => ?_)
                        refine W.eq (g2 := F0 m 62 ls []) rfl ?_
                        refine lv_aload_n hx hb dX11_squares_62 rfl (lv_at hl 0 rfl) ?_
                        by_cases c21 : hKd q20 h0 = some 10
                        · replace h := Eq.trans (if_pos c21).symm h
                          replace h := xb h
                          obtain ⟨q22, eq22, h⟩ := h
                          refine q_callV X Y hl.1 (rest := []) (As := []) (c_X11_findSquares l G z q20 h0 _ eq22) cd_X11_findSquares lv_X11_212_10 c21 ⟨(Nat.le_of_ble_eq_true rfl), (Nat.le_of_ble_eq_true rfl)⟩ ⟨(Nat.le_of_ble_eq_true rfl), (Nat.le_of_ble_eq_true rfl)⟩ rfl rfl (Nat.le_of_ble_eq_true rfl) dX11_squares_63 (fun H locs Y => ?_)
                          refine W.eq (g2 := F0 m 66 ls [.int q22.1]) rfl ?_
                          refine lv_if_ne (tgt := 72) hx hb dX11_squares_66 (by decide) (fun c23 => ?_) (fun c23 => ?_)
                          · replace h := Eq.trans (if_neg c23).symm h
                            refine lv_aload_n hx hb dX11_squares_72 rfl (lv_at hl 0 rfl) ?_
                            replace h := xb h
                            obtain ⟨v24, ev24, h⟩ := h
                            refine q_getI X Y fl_X11_205 ev24 dX11_squares_73 ?_
                            refine lv_bipush (v := 40) hx hb dX11_squares_76 (by decide) ?_
                            refine lv_icmp_ne (tgt := 84) hx hb dX11_squares_78 (by decide) (fun c25 => ?_) (fun c25 => ?_)
                            · replace h := Eq.trans (if_neg c25).symm h
                              refine lv_aload_n hx hb dX11_squares_84 rfl (lv_at hl 0 rfl) ?_
                              refine lv_iconst (v := 0) hx hb dX11_squares_85 (by decide) ?_
                              refine lv_iload_n hx hb dX11_squares_86 rfl (lv_at hl 1 rfl) ?_
                              refine lv_bipush (v := -9) hx hb dX11_squares_87 (by decide) ?_
                              by_cases c26 : hKd q22.2 h0 = some 10
                              · replace h := Eq.trans (if_pos c26).symm h
                                replace h := xb h
                                obtain ⟨q27, eq27, h⟩ := h
                                refine q_callV X Y hl.1 (rest := []) (As := [.int (0 : Int32), .int p1, .int (-9 : Int32)]) (c_X11_newProof l G z q22.2 h0 (0 : Int32) p1 (-9 : Int32) _ eq27) cd_X11_newProof lv_X11_216_10 c26 ⟨(Nat.le_of_ble_eq_true rfl), (Nat.le_of_ble_eq_true rfl)⟩ ⟨(Nat.le_of_ble_eq_true rfl), (Nat.le_of_ble_eq_true rfl)⟩ rfl rfl (Nat.le_of_ble_eq_true rfl) dX11_squares_89 (fun H locs Y => ?_)
                                refine W.eq (g2 := F0 m 92 ls [.int q27.1]) rfl ?_
                                refine lv_istore_n (lv' := [(2, .int q27.1), (0, .ref h0), (1, .int p1)]) hx hb dX11_squares_92 rfl hl (by decide) rfl (fun ls hl => ?_)
                                refine lv_aload_n hx hb dX11_squares_93 rfl (lv_at hl 1 rfl) ?_
                                refine lv_iload_n hx hb dX11_squares_94 rfl (lv_at hl 0 rfl) ?_
                                by_cases c28 : hKd q27.2 h0 = some 10
                                · replace h := Eq.trans (if_pos c28).symm h
                                  replace h := xb h
                                  obtain ⟨q29, eq29, h⟩ := h
                                  refine q_callV X Y hl.1 (rest := []) (As := [.int q27.1]) (c_X11_tellSquares l G z q27.2 h0 q27.1 _ eq29) cd_X11_tellSquares lv_X11_220_10 c28 ⟨(Nat.le_of_ble_eq_true rfl), (Nat.le_of_ble_eq_true rfl)⟩ ⟨(Nat.le_of_ble_eq_true rfl), (Nat.le_of_ble_eq_true rfl)⟩ rfl rfl (Nat.le_of_ble_eq_true rfl) dX11_squares_95 (fun H locs Y => ?_)
                                  refine W.eq (g2 := F0 m 98 ls []) rfl ?_
                                  refine lv_iload_n hx hb dX11_squares_98 rfl (lv_at hl 0 rfl) ?_
                                  replace h := Option.some.inj h
                                  subst h
                                  exact q_reti X Y hr hlocks (Nat.le_of_ble_eq_true rfl) (Nat.le_of_ble_eq_true rfl) dX11_squares_99
                                replace h := Eq.trans (if_neg c28).symm h
                                cases h
                              replace h := Eq.trans (if_neg c26).symm h
                              cases h
                            · replace h := Eq.trans (if_pos c25).symm h
                              refine lv_bipush (v := -4) hx hb dX11_squares_81 (by decide) ?_
                              replace h := Option.some.inj h
                              subst h
                              exact q_reti X Y hr hlocks (Nat.le_of_ble_eq_true rfl) (Nat.le_of_ble_eq_true rfl) dX11_squares_83
                          · replace h := Eq.trans (if_pos c23).symm h
                            refine lv_bipush (v := -9) hx hb dX11_squares_69 (by decide) ?_
                            replace h := Option.some.inj h
                            subst h
                            exact q_reti X Y hr hlocks (Nat.le_of_ble_eq_true rfl) (Nat.le_of_ble_eq_true rfl) dX11_squares_71
                        replace h := Eq.trans (if_neg c21).symm h
                        cases h
                      replace h := Eq.trans (if_neg c19).symm h
                      cases h
                    replace h := Eq.trans (if_neg c17).symm h
                    cases h
                  replace h := Eq.trans (if_neg c15).symm h
                  cases h
                replace h := Eq.trans (if_neg c13).symm h
                cases h
              replace h := Eq.trans (if_neg c11).symm h
              cases h
            replace h := Eq.trans (if_neg c9).symm h
            cases h
          replace h := Eq.trans (if_neg c7).symm h
          cases h
        · replace h := Eq.trans (if_neg c6).symm h
          refine lv_bipush (v := -3) hx hb dX11_squares_18 (by decide) ?_
          replace h := Option.some.inj h
          subst h
          exact q_reti X Y hr hlocks (Nat.le_of_ble_eq_true rfl) (Nat.le_of_ble_eq_true rfl) dX11_squares_20
      replace h := Eq.trans (if_neg c4).symm h
      cases h
    · replace h := Eq.trans (if_pos c3).symm h
      refine lv_iconst (v := -1) hx hb dX11_squares_8 (by decide) ?_
      replace h := Option.some.inj h
      subst h
      exact q_reti X Y hr hlocks (Nat.le_of_ble_eq_true rfl) (Nat.le_of_ble_eq_true rfl) dX11_squares_9
  replace h := Eq.trans (if_neg c1).symm h
  cases h
/-! NeverBelowModel.corners(II)I -/
abbrev rm_X11_corners : Room := { frames := 3, cells := 0, slots := 0, locals := 77 }
def F_X11_corners_70 (k70 : xHp → Nat → Int32 → Int32 → Int32 → Int32 → Option (Int32 × xHp)) (f : xHp) (a0 : Nat) (a1 : Int32) (a2 : Int32) (a3 : Int32) (a4 : Int32) : Option (Int32 × xHp) := if (9 : Int32) ≤ a4 then (some (a3, f)) else (if hKd f a0 = some 10 then (Option.bind (F_X11_boxCorner f a0 a1 a2 a4) fun q3 => if hKd f a0 = some 10 then (Option.bind (F_X11_tellNumber f a0 a3 q3) fun q5 => k70 q5 a0 a1 a2 a3 (a4 + 1)) else none) else none)
def L_X11_corners_70  : Nat → xHp → Nat → Int32 → Int32 → Int32 → Int32 → Option (Int32 × xHp)
  | 0, _, _, _, _, _, _ => none
  | n + 1, f, a0, a1, a2, a3, a4 => F_X11_corners_70 (L_X11_corners_70  n) f a0 a1 a2 a3 a4
def F_X11_corners_20 (k20 : xHp → Nat → Int32 → Int32 → Int32 → Option (Int32 × xHp)) (f : xHp) (a0 : Nat) (a1 : Int32) (a2 : Int32) (a3 : Int32) : Option (Int32 × xHp) := if (9 : Int32) ≤ a3 then (Option.bind (hI f a0 [(10, 20)]) fun v2 => if v2 = (40 : Int32) then (some ((-4 : Int32), f)) else (if hKd f a0 = some 10 then (Option.bind (F_X11_newProof f a0 (1 : Int32) a1 a2) fun q5 => L_X11_corners_70 xfuel q5.2 a0 a1 a2 q5.1 (0 : Int32)) else none)) else (if hKd f a0 = some 10 then (Option.bind (F_X11_boxCorner f a0 a1 a2 a3) fun q7 => if (0 : Int64) ≤ q7 then (k20 f a0 a1 a2 (a3 + 1)) else (some ((-9 : Int32), f))) else none)
def L_X11_corners_20  : Nat → xHp → Nat → Int32 → Int32 → Int32 → Option (Int32 × xHp)
  | 0, _, _, _, _, _ => none
  | n + 1, f, a0, a1, a2, a3 => F_X11_corners_20 (L_X11_corners_20  n) f a0 a1 a2 a3
def F_X11_corners (f : xHp) (h0 : Nat) (p1 : Int32) (p2 : Int32) : Option (Int32 × xHp) := if hKd f h0 = some 10 then (Option.bind (F_X11_isPoly f h0 p1) fun q2 => if q2 = 0 then (some ((-1 : Int32), f)) else (if hKd f h0 = some 10 then (Option.bind (F_X11_isBox f h0 p2) fun q5 => if q5 = 0 then (some ((-1 : Int32), f)) else (L_X11_corners_20 xfuel f h0 p1 p2 (0 : Int32))) else none)) else none
set_option maxRecDepth 100000 in
set_option maxHeartbeats 4000000 in
theorem w_X11_corners_70 {p : Program} {l : Launch} {e : Env} {s : State} {m : MethodId} {args : Array Value} {below : List Frame} {meth : Method} {c : Code} {G : xG} {z : Nat} (X : xC G p m c s args RX11 cX11_corners 5) (hr : meth.sig.returnType = (some .int)) (hlocks : meth.locks = false) (hin : meth.name = yX11_corners.name) (rs : Int32 × xHp) (k70 : xHp → Nat → Int32 → Int32 → Int32 → Int32 → Option (Int32 × xHp)) (hk70 : ∀ (f : xHp) (a0 : Nat) (a1 : Int32) (a2 : Int32) (a3 : Int32) (a4 : Int32) (H : Heap) (locs : List Loc) (ls : Array Slot), k70 f a0 a1 a2 a3 a4 = some rs → xY G z f s H locs → lv_has ls 5 [(0, .ref a0), (1, .int a1), (2, .int a2), (3, .int a3), (4, .int a4)] → W p l e rm_X11_corners s m args below meth c H locs 0 0 (MQ below (xQ G (some (.int rs.1)) z rs.2) args s rm_X11_corners.cells rm_X11_corners.slots (xA G)) (F0 m 70 ls [])) (f : xHp) (a0 : Nat) (a1 : Int32) (a2 : Int32) (a3 : Int32) (a4 : Int32) (H : Heap) (locs : List Loc) (ls : Array Slot) (h : F_X11_corners_70 k70 f a0 a1 a2 a3 a4 = some rs) (Y : xY G z f s H locs) (hl : lv_has ls 5 [(0, .ref a0), (1, .int a1), (2, .int a2), (3, .int a3), (4, .int a4)]) : W p l e rm_X11_corners s m args below meth c H locs 0 0 (MQ below (xQ G (some (.int rs.1)) z rs.2) args s rm_X11_corners.cells rm_X11_corners.slots (xA G)) (F0 m 70 ls []) := by
  have hx := X.1.1
  have hb := X.1.2.1
  unfold F_X11_corners_70 at h
  refine lv_iload hx hb dX11_corners_70 (lv_at hl 4 rfl) ?_
  refine lv_bipush (v := 9) hx hb dX11_corners_72 (by decide) ?_
  refine lv_icmp_ge (tgt := 96) hx hb dX11_corners_74 (by decide) (fun c1 => ?_) (fun c1 => ?_)
  · replace h := Eq.trans (if_pos c1).symm h
    refine lv_iload_n hx hb dX11_corners_96 rfl (lv_at hl 3 rfl) ?_
    replace h := Option.some.inj h
    subst h
    exact q_reti X Y hr hlocks (Nat.le_of_ble_eq_true rfl) (Nat.le_of_ble_eq_true rfl) dX11_corners_97
  · replace h := Eq.trans (if_neg c1).symm h
    refine lv_aload_n hx hb dX11_corners_77 rfl (lv_at hl 0 rfl) ?_
    refine lv_iload_n hx hb dX11_corners_78 rfl (lv_at hl 3 rfl) ?_
    refine lv_aload_n hx hb dX11_corners_79 rfl (lv_at hl 0 rfl) ?_
    refine lv_iload_n hx hb dX11_corners_80 rfl (lv_at hl 1 rfl) ?_
    refine lv_iload_n hx hb dX11_corners_81 rfl (lv_at hl 2 rfl) ?_
    refine lv_iload hx hb dX11_corners_82 (lv_at hl 4 rfl) ?_
    by_cases c2 : hKd f a0 = some 10
    · replace h := Eq.trans (if_pos c2).symm h
      replace h := xb h
      obtain ⟨q3, eq3, h⟩ := h
      refine q_callV X Y hl.1 (rest := [.int a3, .ref a0]) (As := [.int a1, .int a2, .int a4]) (c_X11_boxCorner l G z f a0 a1 a2 a4 _ eq3) cd_X11_boxCorner lv_X11_155_10 c2 ⟨(Nat.le_of_ble_eq_true rfl), (Nat.le_of_ble_eq_true rfl)⟩ ⟨(Nat.le_of_ble_eq_true rfl), (Nat.le_of_ble_eq_true rfl)⟩ rfl rfl (Nat.le_of_ble_eq_true rfl) dX11_corners_84 (fun H locs Y => ?_)
      refine W.eq (g2 := F0 m 87 ls [.long q3, .int a3, .ref a0]) rfl ?_
      by_cases c4 : hKd f a0 = some 10
      · replace h := Eq.trans (if_pos c4).symm h
        replace h := xb h
        obtain ⟨q5, eq5, h⟩ := h
        refine q_callV X Y hl.1 (rest := []) (As := [.int a3, .long q3]) (c_X11_tellNumber l G z f a0 a3 q3 _ eq5) cd_X11_tellNumber lv_X11_208_10 c4 ⟨(Nat.le_of_ble_eq_true rfl), (Nat.le_of_ble_eq_true rfl)⟩ ⟨(Nat.le_of_ble_eq_true rfl), (Nat.le_of_ble_eq_true rfl)⟩ rfl rfl (Nat.le_of_ble_eq_true rfl) dX11_corners_87 (fun H locs Y => ?_)
        refine W.eq (g2 := F0 m 90 ls []) rfl ?_
        refine lv_iinc (v := (a4 + 1)) (lv' := [(4, .int (a4 + 1)), (0, .ref a0), (1, .int a1), (2, .int a2), (3, .int a3)]) hx hb dX11_corners_90 hl (k := 4) rfl rfl (by decide) rfl (fun ls hl => ?_)
        refine lv_goto (tgt := 70) hx hb dX11_corners_93 (by decide) ?_
        refine W.widen (k := 0) (n := 0) (Nat.le_of_ble_eq_true rfl) (Nat.le_of_ble_eq_true rfl) ?_
        exact hk70 q5 a0 a1 a2 a3 (a4 + 1) _ _ _ h Y (lv_sub hl [1, 2, 3, 4, 0] rfl)
      replace h := Eq.trans (if_neg c4).symm h
      cases h
    replace h := Eq.trans (if_neg c2).symm h
    cases h
set_option maxRecDepth 100000 in
set_option maxHeartbeats 4000000 in
theorem lw_X11_corners_70 {p : Program} {l : Launch} {e : Env} {s : State} {m : MethodId} {args : Array Value} {below : List Frame} {meth : Method} {c : Code} {G : xG} {z : Nat} (X : xC G p m c s args RX11 cX11_corners 5) (hr : meth.sig.returnType = (some .int)) (hlocks : meth.locks = false) (hin : meth.name = yX11_corners.name) (rs : Int32 × xHp)  : ∀ (n : Nat) (f : xHp) (a0 : Nat) (a1 : Int32) (a2 : Int32) (a3 : Int32) (a4 : Int32) (H : Heap) (locs : List Loc) (ls : Array Slot), L_X11_corners_70  n f a0 a1 a2 a3 a4 = some rs → xY G z f s H locs → lv_has ls 5 [(0, .ref a0), (1, .int a1), (2, .int a2), (3, .int a3), (4, .int a4)] → W p l e rm_X11_corners s m args below meth c H locs 0 0 (MQ below (xQ G (some (.int rs.1)) z rs.2) args s rm_X11_corners.cells rm_X11_corners.slots (xA G)) (F0 m 70 ls []) := by
  intro n
  induction n with
  | zero => intro f a0 a1 a2 a3 a4 H locs ls h Y hl; cases h
  | succ n ih => intro f a0 a1 a2 a3 a4 H locs ls h Y hl; exact w_X11_corners_70 X hr hlocks hin rs _ ih f a0 a1 a2 a3 a4 _ _ _ h Y hl
set_option maxRecDepth 100000 in
set_option maxHeartbeats 4000000 in
theorem w_X11_corners_20 {p : Program} {l : Launch} {e : Env} {s : State} {m : MethodId} {args : Array Value} {below : List Frame} {meth : Method} {c : Code} {G : xG} {z : Nat} (X : xC G p m c s args RX11 cX11_corners 5) (hr : meth.sig.returnType = (some .int)) (hlocks : meth.locks = false) (hin : meth.name = yX11_corners.name) (rs : Int32 × xHp) (k20 : xHp → Nat → Int32 → Int32 → Int32 → Option (Int32 × xHp)) (hk20 : ∀ (f : xHp) (a0 : Nat) (a1 : Int32) (a2 : Int32) (a3 : Int32) (H : Heap) (locs : List Loc) (ls : Array Slot), k20 f a0 a1 a2 a3 = some rs → xY G z f s H locs → lv_has ls 5 [(0, .ref a0), (1, .int a1), (2, .int a2), (3, .int a3)] → W p l e rm_X11_corners s m args below meth c H locs 0 0 (MQ below (xQ G (some (.int rs.1)) z rs.2) args s rm_X11_corners.cells rm_X11_corners.slots (xA G)) (F0 m 20 ls [])) (f : xHp) (a0 : Nat) (a1 : Int32) (a2 : Int32) (a3 : Int32) (H : Heap) (locs : List Loc) (ls : Array Slot) (h : F_X11_corners_20 k20 f a0 a1 a2 a3 = some rs) (Y : xY G z f s H locs) (hl : lv_has ls 5 [(0, .ref a0), (1, .int a1), (2, .int a2), (3, .int a3)]) : W p l e rm_X11_corners s m args below meth c H locs 0 0 (MQ below (xQ G (some (.int rs.1)) z rs.2) args s rm_X11_corners.cells rm_X11_corners.slots (xA G)) (F0 m 20 ls []) := by
  have hx := X.1.1
  have hb := X.1.2.1
  unfold F_X11_corners_20 at h
  refine lv_iload_n hx hb dX11_corners_20 rfl (lv_at hl 3 rfl) ?_
  refine lv_bipush (v := 9) hx hb dX11_corners_21 (by decide) ?_
  refine lv_icmp_ge (tgt := 47) hx hb dX11_corners_23 (by decide) (fun c1 => ?_) (fun c1 => ?_)
  · replace h := Eq.trans (if_pos c1).symm h
    refine lv_aload_n hx hb dX11_corners_47 rfl (lv_at hl 0 rfl) ?_
    replace h := xb h
    obtain ⟨v2, ev2, h⟩ := h
    refine q_getI X Y fl_X11_205 ev2 dX11_corners_48 ?_
    refine lv_bipush (v := 40) hx hb dX11_corners_51 (by decide) ?_
    refine lv_icmp_ne (tgt := 59) hx hb dX11_corners_53 (by decide) (fun c3 => ?_) (fun c3 => ?_)
    · replace h := Eq.trans (if_neg c3).symm h
      refine lv_aload_n hx hb dX11_corners_59 rfl (lv_at hl 0 rfl) ?_
      refine lv_iconst (v := 1) hx hb dX11_corners_60 (by decide) ?_
      refine lv_iload_n hx hb dX11_corners_61 rfl (lv_at hl 1 rfl) ?_
      refine lv_iload_n hx hb dX11_corners_62 rfl (lv_at hl 2 rfl) ?_
      by_cases c4 : hKd f a0 = some 10
      · replace h := Eq.trans (if_pos c4).symm h
        replace h := xb h
        obtain ⟨q5, eq5, h⟩ := h
        refine q_callV X Y hl.1 (rest := []) (As := [.int (1 : Int32), .int a1, .int a2]) (c_X11_newProof l G z f a0 (1 : Int32) a1 a2 _ eq5) cd_X11_newProof lv_X11_216_10 c4 ⟨(Nat.le_of_ble_eq_true rfl), (Nat.le_of_ble_eq_true rfl)⟩ ⟨(Nat.le_of_ble_eq_true rfl), (Nat.le_of_ble_eq_true rfl)⟩ rfl rfl (Nat.le_of_ble_eq_true rfl) dX11_corners_63 (fun H locs Y => ?_)
        refine W.eq (g2 := F0 m 66 ls [.int q5.1]) rfl ?_
        refine lv_istore_n (lv' := [(3, .int q5.1), (0, .ref a0), (1, .int a1), (2, .int a2)]) hx hb dX11_corners_66 rfl hl (by decide) rfl (fun ls hl => ?_)
        refine lv_iconst (v := 0) hx hb dX11_corners_67 (by decide) ?_
        refine lv_istore (lv' := [(4, .int (0 : Int32)), (3, .int q5.1), (0, .ref a0), (1, .int a1), (2, .int a2)]) hx hb dX11_corners_68 hl (by decide) rfl (fun ls hl => ?_)
        refine W.widen (k := 0) (n := 0) (Nat.le_of_ble_eq_true rfl) (Nat.le_of_ble_eq_true rfl) ?_
        exact lw_X11_corners_70 X hr hlocks hin rs  xfuel q5.2 a0 a1 a2 q5.1 (0 : Int32) _ _ _ h Y (lv_sub hl [2, 3, 4, 1, 0] rfl)
      replace h := Eq.trans (if_neg c4).symm h
      cases h
    · replace h := Eq.trans (if_pos c3).symm h
      refine lv_bipush (v := -4) hx hb dX11_corners_56 (by decide) ?_
      replace h := Option.some.inj h
      subst h
      exact q_reti X Y hr hlocks (Nat.le_of_ble_eq_true rfl) (Nat.le_of_ble_eq_true rfl) dX11_corners_58
  · replace h := Eq.trans (if_neg c1).symm h
    refine lv_aload_n hx hb dX11_corners_26 rfl (lv_at hl 0 rfl) ?_
    refine lv_iload_n hx hb dX11_corners_27 rfl (lv_at hl 1 rfl) ?_
    refine lv_iload_n hx hb dX11_corners_28 rfl (lv_at hl 2 rfl) ?_
    refine lv_iload_n hx hb dX11_corners_29 rfl (lv_at hl 3 rfl) ?_
    by_cases c6 : hKd f a0 = some 10
    · replace h := Eq.trans (if_pos c6).symm h
      replace h := xb h
      obtain ⟨q7, eq7, h⟩ := h
      refine q_callV X Y hl.1 (rest := []) (As := [.int a1, .int a2, .int a3]) (c_X11_boxCorner l G z f a0 a1 a2 a3 _ eq7) cd_X11_boxCorner lv_X11_155_10 c6 ⟨(Nat.le_of_ble_eq_true rfl), (Nat.le_of_ble_eq_true rfl)⟩ ⟨(Nat.le_of_ble_eq_true rfl), (Nat.le_of_ble_eq_true rfl)⟩ rfl rfl (Nat.le_of_ble_eq_true rfl) dX11_corners_30 (fun H locs Y => ?_)
      refine W.eq (g2 := F0 m 33 ls [.long q7]) rfl ?_
      refine lv_lconst (v := 0) hx hb dX11_corners_33 (by decide) ?_
      refine q_lcmp_ge (tgt := 41) hx hb dX11_corners_34 dX11_corners_35 (by decide) (fun c8 => ?_) (fun c8 => ?_)
      · replace h := Eq.trans (if_pos c8).symm h
        refine lv_iinc (v := (a3 + 1)) (lv' := [(3, .int (a3 + 1)), (0, .ref a0), (1, .int a1), (2, .int a2)]) hx hb dX11_corners_41 hl (k := 3) rfl rfl (by decide) rfl (fun ls hl => ?_)
        refine lv_goto (tgt := 20) hx hb dX11_corners_44 (by decide) ?_
        refine W.widen (k := 0) (n := 0) (Nat.le_of_ble_eq_true rfl) (Nat.le_of_ble_eq_true rfl) ?_
        exact hk20 f a0 a1 a2 (a3 + 1) _ _ _ h Y (lv_sub hl [1, 2, 3, 0] rfl)
      · replace h := Eq.trans (if_neg c8).symm h
        refine lv_bipush (v := -9) hx hb dX11_corners_38 (by decide) ?_
        replace h := Option.some.inj h
        subst h
        exact q_reti X Y hr hlocks (Nat.le_of_ble_eq_true rfl) (Nat.le_of_ble_eq_true rfl) dX11_corners_40
    replace h := Eq.trans (if_neg c6).symm h
    cases h
set_option maxRecDepth 100000 in
set_option maxHeartbeats 4000000 in
theorem lw_X11_corners_20 {p : Program} {l : Launch} {e : Env} {s : State} {m : MethodId} {args : Array Value} {below : List Frame} {meth : Method} {c : Code} {G : xG} {z : Nat} (X : xC G p m c s args RX11 cX11_corners 5) (hr : meth.sig.returnType = (some .int)) (hlocks : meth.locks = false) (hin : meth.name = yX11_corners.name) (rs : Int32 × xHp)  : ∀ (n : Nat) (f : xHp) (a0 : Nat) (a1 : Int32) (a2 : Int32) (a3 : Int32) (H : Heap) (locs : List Loc) (ls : Array Slot), L_X11_corners_20  n f a0 a1 a2 a3 = some rs → xY G z f s H locs → lv_has ls 5 [(0, .ref a0), (1, .int a1), (2, .int a2), (3, .int a3)] → W p l e rm_X11_corners s m args below meth c H locs 0 0 (MQ below (xQ G (some (.int rs.1)) z rs.2) args s rm_X11_corners.cells rm_X11_corners.slots (xA G)) (F0 m 20 ls []) := by
  intro n
  induction n with
  | zero => intro f a0 a1 a2 a3 H locs ls h Y hl; cases h
  | succ n ih => intro f a0 a1 a2 a3 H locs ls h Y hl; exact w_X11_corners_20 X hr hlocks hin rs _ ih f a0 a1 a2 a3 _ _ _ h Y hl
set_option maxRecDepth 100000 in
set_option maxHeartbeats 4000000 in
theorem c_X11_corners (l : Launch) (G : xG) (z : Nat) (f : xHp) (h0 : Nat) (p1 : Int32) (p2 : Int32) (rs : Int32 × xHp) (h : F_X11_corners f h0 p1 p2 = some rs) : xM G l yX11_corners cX11_corners 5 (some .int) rm_X11_corners [.ref h0, .int p1, .int p2] z f (some (.int rs.1)) z rs.2 := by
  refine xM_of (by decide) (Nat.le_of_ble_eq_true rfl) ?_
  intro p e s m below meth c ls X hr hlocks hin Y hl
  have hl : lv_has ls 5 [(0, .ref h0), (1, .int p1), (2, .int p2)] := hl
  have hx := X.1.1
  have hb := X.1.2.1
  unfold F_X11_corners at h
  refine lv_aload_n hx hb dX11_corners_0 rfl (lv_at hl 0 rfl) ?_
  refine lv_iload_n hx hb dX11_corners_1 rfl (lv_at hl 1 rfl) ?_
  by_cases c1 : hKd f h0 = some 10
  · replace h := Eq.trans (if_pos c1).symm h
    replace h := xb h
    obtain ⟨q2, eq2, h⟩ := h
    refine q_callV X Y hl.1 (rest := []) (As := [.int p1]) (c_X11_isPoly l G z f h0 p1 _ eq2) cd_X11_isPoly lv_X11_109_10 c1 ⟨(Nat.le_of_ble_eq_true rfl), (Nat.le_of_ble_eq_true rfl)⟩ ⟨(Nat.le_of_ble_eq_true rfl), (Nat.le_of_ble_eq_true rfl)⟩ rfl rfl (Nat.le_of_ble_eq_true rfl) dX11_corners_2 (fun H locs Y => ?_)
    refine W.eq (g2 := F0 m 5 ls [.int q2]) rfl ?_
    refine lv_if_eq (tgt := 16) hx hb dX11_corners_5 (by decide) (fun c3 => ?_) (fun c3 => ?_)
    · replace h := Eq.trans (if_pos c3).symm h
      refine lv_iconst (v := -1) hx hb dX11_corners_16 (by decide) ?_
      replace h := Option.some.inj h
      subst h
      exact q_reti X Y hr hlocks (Nat.le_of_ble_eq_true rfl) (Nat.le_of_ble_eq_true rfl) dX11_corners_17
    · replace h := Eq.trans (if_neg c3).symm h
      refine lv_aload_n hx hb dX11_corners_8 rfl (lv_at hl 0 rfl) ?_
      refine lv_iload_n hx hb dX11_corners_9 rfl (lv_at hl 2 rfl) ?_
      by_cases c4 : hKd f h0 = some 10
      · replace h := Eq.trans (if_pos c4).symm h
        replace h := xb h
        obtain ⟨q5, eq5, h⟩ := h
        refine q_callV X Y hl.1 (rest := []) (As := [.int p2]) (c_X11_isBox l G z f h0 p2 _ eq5) cd_X11_isBox lv_X11_142_10 c4 ⟨(Nat.le_of_ble_eq_true rfl), (Nat.le_of_ble_eq_true rfl)⟩ ⟨(Nat.le_of_ble_eq_true rfl), (Nat.le_of_ble_eq_true rfl)⟩ rfl rfl (Nat.le_of_ble_eq_true rfl) dX11_corners_10 (fun H locs Y => ?_)
        refine W.eq (g2 := F0 m 13 ls [.int q5]) rfl ?_
        refine lv_if_ne (tgt := 18) hx hb dX11_corners_13 (by decide) (fun c6 => ?_) (fun c6 => ?_)
        · replace h := Eq.trans (if_neg c6).symm h
          refine lv_iconst (v := 0) hx hb dX11_corners_18 (by decide) ?_
          refine lv_istore_n (lv' := [(3, .int (0 : Int32)), (0, .ref h0), (1, .int p1), (2, .int p2)]) hx hb dX11_corners_19 rfl hl (by decide) rfl (fun ls hl => ?_)
          refine W.widen (k := 0) (n := 0) (Nat.le_of_ble_eq_true rfl) (Nat.le_of_ble_eq_true rfl) ?_
          exact lw_X11_corners_20 X hr hlocks hin rs  xfuel f h0 p1 p2 (0 : Int32) _ _ _ h Y (lv_sub hl [1, 2, 3, 0] rfl)
        · replace h := Eq.trans (if_pos c6).symm h
          refine lv_iconst (v := -1) hx hb dX11_corners_16 (by decide) ?_
          replace h := Option.some.inj h
          subst h
          exact q_reti X Y hr hlocks (Nat.le_of_ble_eq_true rfl) (Nat.le_of_ble_eq_true rfl) dX11_corners_17
      replace h := Eq.trans (if_neg c4).symm h
      cases h
  replace h := Eq.trans (if_neg c1).symm h
  cases h
/-! NeverBelowModel.proved()I -/
abbrev rm_X11_proved : Room := { frames := 1, cells := 0, slots := 0, locals := 23 }
def F_X11_proved_50 (k50 : xHp → Nat → Int32 → Int32 → Option (Int32 × xHp)) (f : xHp) (a0 : Nat) (a1 : Int32) (a2 : Int32) : Option (Int32 × xHp) := Option.bind (hI f a0 [(10, 12)]) fun v1 => if ((4 : Int32) * v1) ≤ a2 then (some (a1, f)) else (Option.bind (hN f a0 [(10, 13)]) fun v3 => Option.bind (hIld f v3 a2) fun v4 => if hKd f a0 = some 10 then (Option.bind (F_X11_tellNumber f a0 a1 v4.toInt64) fun q6 => k50 q6 a0 a1 (a2 + 1)) else none)
def L_X11_proved_50  : Nat → xHp → Nat → Int32 → Int32 → Option (Int32 × xHp)
  | 0, _, _, _, _ => none
  | n + 1, f, a0, a1, a2 => F_X11_proved_50 (L_X11_proved_50  n) f a0 a1 a2
def F_X11_proved (f : xHp) (h0 : Nat) : Option (Int32 × xHp) := Option.bind (hI f h0 [(10, 12)]) fun v1 => if v1 = 0 then (some ((-3 : Int32), f)) else (if hKd f h0 = some 10 then (Option.bind (F_X11_countParts f h0 (1 : Int32)) fun q4 => Option.bind (hI f h0 [(10, 12)]) fun v5 => if q4 = v5 then (Option.bind (hI f h0 [(10, 20)]) fun v7 => if v7 = (40 : Int32) then (some ((-4 : Int32), f)) else (Option.bind (hI f h0 [(10, 10)]) fun v9 => Option.bind (hI f h0 [(10, 11)]) fun v10 => if hKd f h0 = some 10 then (Option.bind (F_X11_newProof f h0 (2 : Int32) v9 v10) fun q12 => L_X11_proved_50 xfuel q12.2 h0 q12.1 (0 : Int32)) else none)) else (some ((-3 : Int32), f))) else none)
set_option maxRecDepth 100000 in
set_option maxHeartbeats 4000000 in
theorem w_X11_proved_50 {p : Program} {l : Launch} {e : Env} {s : State} {m : MethodId} {args : Array Value} {below : List Frame} {meth : Method} {c : Code} {G : xG} {z : Nat} (X : xC G p m c s args RX11 cX11_proved 3) (hr : meth.sig.returnType = (some .int)) (hlocks : meth.locks = false) (hin : meth.name = yX11_proved.name) (rs : Int32 × xHp) (k50 : xHp → Nat → Int32 → Int32 → Option (Int32 × xHp)) (hk50 : ∀ (f : xHp) (a0 : Nat) (a1 : Int32) (a2 : Int32) (H : Heap) (locs : List Loc) (ls : Array Slot), k50 f a0 a1 a2 = some rs → xY G z f s H locs → lv_has ls 3 [(0, .ref a0), (1, .int a1), (2, .int a2)] → W p l e rm_X11_proved s m args below meth c H locs 0 0 (MQ below (xQ G (some (.int rs.1)) z rs.2) args s rm_X11_proved.cells rm_X11_proved.slots (xA G)) (F0 m 50 ls [])) (f : xHp) (a0 : Nat) (a1 : Int32) (a2 : Int32) (H : Heap) (locs : List Loc) (ls : Array Slot) (h : F_X11_proved_50 k50 f a0 a1 a2 = some rs) (Y : xY G z f s H locs) (hl : lv_has ls 3 [(0, .ref a0), (1, .int a1), (2, .int a2)]) : W p l e rm_X11_proved s m args below meth c H locs 0 0 (MQ below (xQ G (some (.int rs.1)) z rs.2) args s rm_X11_proved.cells rm_X11_proved.slots (xA G)) (F0 m 50 ls []) := by
  have hx := X.1.1
  have hb := X.1.2.1
  unfold F_X11_proved_50 at h
  refine lv_iload_n hx hb dX11_proved_50 rfl (lv_at hl 2 rfl) ?_
  refine lv_iconst (v := 4) hx hb dX11_proved_51 (by decide) ?_
  refine lv_aload_n hx hb dX11_proved_52 rfl (lv_at hl 0 rfl) ?_
  replace h := xb h
  obtain ⟨v1, ev1, h⟩ := h
  refine q_getI X Y fl_X11_159 ev1 dX11_proved_53 ?_
  refine lv_imul hx hb dX11_proved_56 ?_
  refine lv_icmp_ge (tgt := 78) hx hb dX11_proved_57 (by decide) (fun c2 => ?_) (fun c2 => ?_)
  · replace h := Eq.trans (if_pos c2).symm h
    refine lv_iload_n hx hb dX11_proved_78 rfl (lv_at hl 1 rfl) ?_
    replace h := Option.some.inj h
    subst h
    exact q_reti X Y hr hlocks (Nat.le_of_ble_eq_true rfl) (Nat.le_of_ble_eq_true rfl) dX11_proved_79
  · replace h := Eq.trans (if_neg c2).symm h
    refine lv_aload_n hx hb dX11_proved_60 rfl (lv_at hl 0 rfl) ?_
    refine lv_iload_n hx hb dX11_proved_61 rfl (lv_at hl 1 rfl) ?_
    refine lv_aload_n hx hb dX11_proved_62 rfl (lv_at hl 0 rfl) ?_
    replace h := xb h
    obtain ⟨v3, ev3, h⟩ := h
    refine q_getN X Y fl_X11_29 ev3 dX11_proved_63 ?_
    refine lv_iload_n hx hb dX11_proved_66 rfl (lv_at hl 2 rfl) ?_
    replace h := xb h
    obtain ⟨v4, ev4, h⟩ := h
    refine q_iald X Y ev4 dX11_proved_67 ?_
    refine lv_i2l hx hb dX11_proved_68 rfl ?_
    by_cases c5 : hKd f a0 = some 10
    · replace h := Eq.trans (if_pos c5).symm h
      replace h := xb h
      obtain ⟨q6, eq6, h⟩ := h
      refine q_callV X Y hl.1 (rest := []) (As := [.int a1, .long v4.toInt64]) (c_X11_tellNumber l G z f a0 a1 v4.toInt64 _ eq6) cd_X11_tellNumber lv_X11_208_10 c5 ⟨(Nat.le_of_ble_eq_true rfl), (Nat.le_of_ble_eq_true rfl)⟩ ⟨(Nat.le_of_ble_eq_true rfl), (Nat.le_of_ble_eq_true rfl)⟩ rfl rfl (Nat.le_of_ble_eq_true rfl) dX11_proved_69 (fun H locs Y => ?_)
      refine W.eq (g2 := F0 m 72 ls []) rfl ?_
      refine lv_iinc (v := (a2 + 1)) (lv' := [(2, .int (a2 + 1)), (0, .ref a0), (1, .int a1)]) hx hb dX11_proved_72 hl (k := 2) rfl rfl (by decide) rfl (fun ls hl => ?_)
      refine lv_goto (tgt := 50) hx hb dX11_proved_75 (by decide) ?_
      refine W.widen (k := 0) (n := 0) (Nat.le_of_ble_eq_true rfl) (Nat.le_of_ble_eq_true rfl) ?_
      exact hk50 q6 a0 a1 (a2 + 1) _ _ _ h Y (lv_sub hl [1, 2, 0] rfl)
    replace h := Eq.trans (if_neg c5).symm h
    cases h
set_option maxRecDepth 100000 in
set_option maxHeartbeats 4000000 in
theorem lw_X11_proved_50 {p : Program} {l : Launch} {e : Env} {s : State} {m : MethodId} {args : Array Value} {below : List Frame} {meth : Method} {c : Code} {G : xG} {z : Nat} (X : xC G p m c s args RX11 cX11_proved 3) (hr : meth.sig.returnType = (some .int)) (hlocks : meth.locks = false) (hin : meth.name = yX11_proved.name) (rs : Int32 × xHp)  : ∀ (n : Nat) (f : xHp) (a0 : Nat) (a1 : Int32) (a2 : Int32) (H : Heap) (locs : List Loc) (ls : Array Slot), L_X11_proved_50  n f a0 a1 a2 = some rs → xY G z f s H locs → lv_has ls 3 [(0, .ref a0), (1, .int a1), (2, .int a2)] → W p l e rm_X11_proved s m args below meth c H locs 0 0 (MQ below (xQ G (some (.int rs.1)) z rs.2) args s rm_X11_proved.cells rm_X11_proved.slots (xA G)) (F0 m 50 ls []) := by
  intro n
  induction n with
  | zero => intro f a0 a1 a2 H locs ls h Y hl; cases h
  | succ n ih => intro f a0 a1 a2 H locs ls h Y hl; exact w_X11_proved_50 X hr hlocks hin rs _ ih f a0 a1 a2 _ _ _ h Y hl
set_option maxRecDepth 100000 in
set_option maxHeartbeats 4000000 in
theorem c_X11_proved (l : Launch) (G : xG) (z : Nat) (f : xHp) (h0 : Nat) (rs : Int32 × xHp) (h : F_X11_proved f h0 = some rs) : xM G l yX11_proved cX11_proved 3 (some .int) rm_X11_proved [.ref h0] z f (some (.int rs.1)) z rs.2 := by
  refine xM_of (by decide) (Nat.le_of_ble_eq_true rfl) ?_
  intro p e s m below meth c ls X hr hlocks hin Y hl
  have hl : lv_has ls 3 [(0, .ref h0)] := hl
  have hx := X.1.1
  have hb := X.1.2.1
  unfold F_X11_proved at h
  refine lv_aload_n hx hb dX11_proved_0 rfl (lv_at hl 0 rfl) ?_
  replace h := xb h
  obtain ⟨v1, ev1, h⟩ := h
  refine q_getI X Y fl_X11_159 ev1 dX11_proved_1 ?_
  refine lv_if_eq (tgt := 19) hx hb dX11_proved_4 (by decide) (fun c2 => ?_) (fun c2 => ?_)
  · replace h := Eq.trans (if_pos c2).symm h
    refine lv_bipush (v := -3) hx hb dX11_proved_19 (by decide) ?_
    replace h := Option.some.inj h
    subst h
    exact q_reti X Y hr hlocks (Nat.le_of_ble_eq_true rfl) (Nat.le_of_ble_eq_true rfl) dX11_proved_21
  · replace h := Eq.trans (if_neg c2).symm h
    refine lv_aload_n hx hb dX11_proved_7 rfl (lv_at hl 0 rfl) ?_
    refine lv_iconst (v := 1) hx hb dX11_proved_8 (by decide) ?_
    by_cases c3 : hKd f h0 = some 10
    · replace h := Eq.trans (if_pos c3).symm h
      replace h := xb h
      obtain ⟨q4, eq4, h⟩ := h
      refine q_callV X Y hl.1 (rest := []) (As := [.int (1 : Int32)]) (c_X11_countParts l G z f h0 (1 : Int32) _ eq4) cd_X11_countParts lv_X11_192_10 c3 ⟨(Nat.le_of_ble_eq_true rfl), (Nat.le_of_ble_eq_true rfl)⟩ ⟨(Nat.le_of_ble_eq_true rfl), (Nat.le_of_ble_eq_true rfl)⟩ rfl rfl (Nat.le_of_ble_eq_true rfl) dX11_proved_9 (fun H locs Y => ?_)
      refine W.eq (g2 := F0 m 12 ls [.int q4]) rfl ?_
      refine lv_aload_n hx hb dX11_proved_12 rfl (lv_at hl 0 rfl) ?_
      replace h := xb h
      obtain ⟨v5, ev5, h⟩ := h
      refine q_getI X Y fl_X11_159 ev5 dX11_proved_13 ?_
      refine lv_icmp_eq (tgt := 22) hx hb dX11_proved_16 (by decide) (fun c6 => ?_) (fun c6 => ?_)
      · replace h := Eq.trans (if_pos c6).symm h
        refine lv_aload_n hx hb dX11_proved_22 rfl (lv_at hl 0 rfl) ?_
        replace h := xb h
        obtain ⟨v7, ev7, h⟩ := h
        refine q_getI X Y fl_X11_205 ev7 dX11_proved_23 ?_
        refine lv_bipush (v := 40) hx hb dX11_proved_26 (by decide) ?_
        refine lv_icmp_ne (tgt := 34) hx hb dX11_proved_28 (by decide) (fun c8 => ?_) (fun c8 => ?_)
        · replace h := Eq.trans (if_neg c8).symm h
          refine lv_aload_n hx hb dX11_proved_34 rfl (lv_at hl 0 rfl) ?_
          refine lv_iconst (v := 2) hx hb dX11_proved_35 (by decide) ?_
          refine lv_aload_n hx hb dX11_proved_36 rfl (lv_at hl 0 rfl) ?_
          replace h := xb h
          obtain ⟨v9, ev9, h⟩ := h
          refine q_getI X Y fl_X11_162 ev9 dX11_proved_37 ?_
          refine lv_aload_n hx hb dX11_proved_40 rfl (lv_at hl 0 rfl) ?_
          replace h := xb h
          obtain ⟨v10, ev10, h⟩ := h
          refine q_getI X Y fl_X11_165 ev10 dX11_proved_41 ?_
          by_cases c11 : hKd f h0 = some 10
          · replace h := Eq.trans (if_pos c11).symm h
            replace h := xb h
            obtain ⟨q12, eq12, h⟩ := h
            refine q_callV X Y hl.1 (rest := []) (As := [.int (2 : Int32), .int v9, .int v10]) (c_X11_newProof l G z f h0 (2 : Int32) v9 v10 _ eq12) cd_X11_newProof lv_X11_216_10 c11 ⟨(Nat.le_of_ble_eq_true rfl), (Nat.le_of_ble_eq_true rfl)⟩ ⟨(Nat.le_of_ble_eq_true rfl), (Nat.le_of_ble_eq_true rfl)⟩ rfl rfl (Nat.le_of_ble_eq_true rfl) dX11_proved_44 (fun H locs Y => ?_)
            refine W.eq (g2 := F0 m 47 ls [.int q12.1]) rfl ?_
            refine lv_istore_n (lv' := [(1, .int q12.1), (0, .ref h0)]) hx hb dX11_proved_47 rfl hl (by decide) rfl (fun ls hl => ?_)
            refine lv_iconst (v := 0) hx hb dX11_proved_48 (by decide) ?_
            refine lv_istore_n (lv' := [(2, .int (0 : Int32)), (1, .int q12.1), (0, .ref h0)]) hx hb dX11_proved_49 rfl hl (by decide) rfl (fun ls hl => ?_)
            refine W.widen (k := 0) (n := 0) (Nat.le_of_ble_eq_true rfl) (Nat.le_of_ble_eq_true rfl) ?_
            exact lw_X11_proved_50 X hr hlocks hin rs  xfuel q12.2 h0 q12.1 (0 : Int32) _ _ _ h Y (lv_sub hl [2, 1, 0] rfl)
          replace h := Eq.trans (if_neg c11).symm h
          cases h
        · replace h := Eq.trans (if_pos c8).symm h
          refine lv_bipush (v := -4) hx hb dX11_proved_31 (by decide) ?_
          replace h := Option.some.inj h
          subst h
          exact q_reti X Y hr hlocks (Nat.le_of_ble_eq_true rfl) (Nat.le_of_ble_eq_true rfl) dX11_proved_33
      · replace h := Eq.trans (if_neg c6).symm h
        refine lv_bipush (v := -3) hx hb dX11_proved_19 (by decide) ?_
        replace h := Option.some.inj h
        subst h
        exact q_reti X Y hr hlocks (Nat.le_of_ble_eq_true rfl) (Nat.le_of_ble_eq_true rfl) dX11_proved_21
    replace h := Eq.trans (if_neg c3).symm h
    cases h
/-! NeverBelowModel.mayBe(JJ)Z -/
abbrev rm_X11_mayBe : Room := { frames := 1, cells := 0, slots := 0, locals := 25 }
def F_X11_mayBe (f : xHp) (p0 : Int64) (p2 : Int64) : Option (Int32) := if p2 = 0 then none else if (p0 - p0 / p2 * p2) = (0 : Int64) then (if p2 = 0 then none else Option.bind (F_X11_within f (p0 / p2) (-1000 : Int64) (1000 : Int64)) fun q4 => if q4 = 0 then (some (0 : Int32)) else (some (1 : Int32))) else (some (0 : Int32))
set_option maxRecDepth 100000 in
set_option maxHeartbeats 4000000 in
theorem c_X11_mayBe (l : Launch) (G : xG) (z : Nat) (f : xHp) (p0 : Int64) (p2 : Int64) (rs : Int32) (h : F_X11_mayBe f p0 p2 = some rs) : xM G l yX11_mayBe cX11_mayBe 4 (some .boolean) rm_X11_mayBe [.long p0, .long p2] z f (some (.int rs)) z f := by
  refine xM_of (by decide) (Nat.le_of_ble_eq_true rfl) ?_
  intro p e s m below meth c ls X hr hlocks hin Y hl
  have hl : lv_has ls 4 [(0, .long p0), (2, .long p2)] := hl
  have hx := X.1.1
  have hb := X.1.2.1
  unfold F_X11_mayBe at h
  refine lv_lload_n hx hb dX11_mayBe_0 rfl (lv_at hl 0 rfl) ?_
  refine lv_lload_n hx hb dX11_mayBe_1 rfl (lv_at hl 1 rfl) ?_
  by_cases c1 : p2 = 0
  · exact absurd (Eq.trans (if_pos c1).symm h) (by intro q; cases q)
  replace h := Eq.trans (if_neg c1).symm h
  refine lv_lrem hx hb dX11_mayBe_2 c1 ?_
  refine lv_lconst (v := 0) hx hb dX11_mayBe_3 (by decide) ?_
  refine q_lcmp_ne (tgt := 27) hx hb dX11_mayBe_4 dX11_mayBe_5 (by decide) (fun c2 => ?_) (fun c2 => ?_)
  · replace h := Eq.trans (if_neg c2).symm h
    refine lv_iconst (v := 0) hx hb dX11_mayBe_27 (by decide) ?_
    replace h := Option.some.inj h
    subst h
    exact q_retz (v := (0 : Int32)) X Y hr hlocks rfl (Nat.le_of_ble_eq_true rfl) (Nat.le_of_ble_eq_true rfl) dX11_mayBe_28
  · replace h := Eq.trans (if_pos c2).symm h
    refine lv_lload_n hx hb dX11_mayBe_8 rfl (lv_at hl 0 rfl) ?_
    refine lv_lload_n hx hb dX11_mayBe_9 rfl (lv_at hl 1 rfl) ?_
    by_cases c3 : p2 = 0
    · exact absurd (Eq.trans (if_pos c3).symm h) (by intro q; cases q)
    replace h := Eq.trans (if_neg c3).symm h
    refine lv_ldiv hx hb dX11_mayBe_10 c3 ?_
    refine lv_ldc2 (v := -1000) hx hb X.1.2.2.2.1 (X.1.2.2.2.2 _ xw_957) dX11_mayBe_11 ?_
    refine lv_ldc2 (v := 1000) hx hb X.1.2.2.2.1 (X.1.2.2.2.2 _ xw_958) dX11_mayBe_14 ?_
    replace h := xb h
    obtain ⟨q4, eq4, h⟩ := h
    refine q_callS X Y hl.1 (rest := []) (As := [.long (p0 / p2), .long (-1000 : Int64), .long (1000 : Int64)]) (c_X11_within l G z f (p0 / p2) (-1000 : Int64) (1000 : Int64) _ eq4) cd_X11_within ls_X11_82 ⟨(Nat.le_of_ble_eq_true rfl), (Nat.le_of_ble_eq_true rfl)⟩ ⟨(Nat.le_of_ble_eq_true rfl), (Nat.le_of_ble_eq_true rfl)⟩ rfl rfl (Nat.le_of_ble_eq_true rfl) dX11_mayBe_17 (fun H locs Y => ?_)
    refine W.eq (g2 := F0 m 20 ls [.int q4]) rfl ?_
    refine lv_if_eq (tgt := 27) hx hb dX11_mayBe_20 (by decide) (fun c5 => ?_) (fun c5 => ?_)
    · replace h := Eq.trans (if_pos c5).symm h
      refine lv_iconst (v := 0) hx hb dX11_mayBe_27 (by decide) ?_
      replace h := Option.some.inj h
      subst h
      exact q_retz (v := (0 : Int32)) X Y hr hlocks rfl (Nat.le_of_ble_eq_true rfl) (Nat.le_of_ble_eq_true rfl) dX11_mayBe_28
    · replace h := Eq.trans (if_neg c5).symm h
      refine lv_iconst (v := 1) hx hb dX11_mayBe_23 (by decide) ?_
      refine lv_goto (tgt := 28) hx hb dX11_mayBe_24 (by decide) ?_
      replace h := Option.some.inj h
      subst h
      exact q_retz (v := (1 : Int32)) X Y hr hlocks rfl (Nat.le_of_ble_eq_true rfl) (Nat.le_of_ble_eq_true rfl) dX11_mayBe_28

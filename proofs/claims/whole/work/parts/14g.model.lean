/-! NeverBelowModel.checkParts(I)I -/
abbrev rm_X11_checkParts : Room := { frames := 5, cells := 0, slots := 0, locals := 124 }
def F_X11_checkParts_322 (k322 : xHp → Nat → Int32 → Int32 → Option (Int32 × xHp)) (f : xHp) (a0 : Nat) (a7 : Int32) (a9 : Int32) : Option (Int32 × xHp) := if (41 : Int32) ≤ a9 then (if a7 = (-9 : Int32) then (some ((1 : Int32), f)) else (some (((-20 : Int32) - a7), f))) else (Option.bind (hN f a0 [(10, 14)]) fun v3 => Option.bind (hN f a0 [(10, 31)]) fun v4 => Option.bind (hIld f v4 a9) fun v5 => Option.bind (hIst f v3 a9 v5) fun f6 => k322 f6 a0 a7 (a9 + 1))
def L_X11_checkParts_322  : Nat → xHp → Nat → Int32 → Int32 → Option (Int32 × xHp)
  | 0, _, _, _, _ => none
  | n + 1, f, a0, a7, a9 => F_X11_checkParts_322 (L_X11_checkParts_322  n) f a0 a7 a9
def F_X11_checkParts_291 (k291 : xHp → Nat → Int32 → Int32 → Option (Int32 × xHp)) (f : xHp) (a0 : Nat) (a7 : Int32) (a9 : Int32) : Option (Int32 × xHp) := if (164 : Int32) ≤ a9 then (L_X11_checkParts_322 xfuel f a0 a7 (0 : Int32)) else (Option.bind (hN f a0 [(10, 13)]) fun v2 => Option.bind (hN f a0 [(10, 30)]) fun v3 => Option.bind (hIld f v3 a9) fun v4 => Option.bind (hIst f v2 a9 v4) fun f5 => k291 f5 a0 a7 (a9 + 1))
def L_X11_checkParts_291  : Nat → xHp → Nat → Int32 → Int32 → Option (Int32 × xHp)
  | 0, _, _, _, _ => none
  | n + 1, f, a0, a7, a9 => F_X11_checkParts_291 (L_X11_checkParts_291  n) f a0 a7 a9
def F_X11_checkParts_266  (f : xHp) (a0 : Nat) (a2 : Int32) (a3 : Int32) (a4 : Int32) (a5 : Int32) (a7 : Int32) : Option (Int32 × xHp) := Option.bind (hPut f a0 [(10, 12)] (.int a2)) fun f1 => Option.bind (hPut f1 a0 [(10, 10)] (.int a3)) fun f2 => Option.bind (hPut f2 a0 [(10, 15)] (.int a4)) fun f3 => Option.bind (hPut f3 a0 [(10, 16)] (.int a5)) fun f4 => L_X11_checkParts_291 xfuel f4 a0 a7 (0 : Int32)
def F_X11_checkParts_246  (f : xHp) (a0 : Nat) (a2 : Int32) (a3 : Int32) (a4 : Int32) (a5 : Int32) (a7 : Int32) (a8 : Int32) : Option (Int32 × xHp) := if a7 = (-9 : Int32) then (Option.bind (hI f a0 [(10, 12)]) fun v2 => if v2 ≤ a8 then (F_X11_checkParts_266 f a0 a2 a3 a4 a5 a7) else (F_X11_checkParts_266 f a0 a2 a3 a4 a5 a8)) else (F_X11_checkParts_266 f a0 a2 a3 a4 a5 a7)
def F_X11_checkParts_238 (k129 : xHp → Nat → Int32 → Int32 → Int32 → Int32 → Int32 → Int32 → Int32 → Int32 → Option (Int32 × xHp)) (f : xHp) (a0 : Nat) (a1 : Int32) (a2 : Int32) (a3 : Int32) (a4 : Int32) (a5 : Int32) (a8 : Int32) (a9 : Int32) (s0 : Int32) : Option (Int32 × xHp) := k129 f a0 a1 a2 a3 a4 a5 s0 a8 (a9 + 1)
def F_X11_checkParts_226 (k129 : xHp → Nat → Int32 → Int32 → Int32 → Int32 → Int32 → Int32 → Int32 → Int32 → Option (Int32 × xHp)) (f : xHp) (a0 : Nat) (a1 : Int32) (a2 : Int32) (a3 : Int32) (a4 : Int32) (a5 : Int32) (a8 : Int32) (a9 : Int32) (a10 : Int32) : Option (Int32 × xHp) := if a10 = 0 then (F_X11_checkParts_238 k129 f a0 a1 a2 a3 a4 a5 a8 a9 a9) else (F_X11_checkParts_238 k129 f a0 a1 a2 a3 a4 a5 a8 a9 (-9 : Int32))
def F_X11_checkParts_218 (k173 : xHp → Nat → Int32 → Int32 → Int32 → Int32 → Int32 → Int32 → Int32 → Int32 → Int32 → Option (Int32 × xHp)) (f : xHp) (a0 : Nat) (a1 : Int32) (a2 : Int32) (a3 : Int32) (a4 : Int32) (a5 : Int32) (a8 : Int32) (a9 : Int32) (a11 : Int32) (s0 : Int32) : Option (Int32 × xHp) := k173 f a0 a1 a2 a3 a4 a5 a8 a9 s0 (a11 + 1)
def F_X11_checkParts_173 (k129 : xHp → Nat → Int32 → Int32 → Int32 → Int32 → Int32 → Int32 → Int32 → Int32 → Option (Int32 × xHp)) (k173 : xHp → Nat → Int32 → Int32 → Int32 → Int32 → Int32 → Int32 → Int32 → Int32 → Int32 → Option (Int32 × xHp)) (f : xHp) (a0 : Nat) (a1 : Int32) (a2 : Int32) (a3 : Int32) (a4 : Int32) (a5 : Int32) (a8 : Int32) (a9 : Int32) (a10 : Int32) (a11 : Int32) : Option (Int32 × xHp) := if (4 : Int32) ≤ a11 then (F_X11_checkParts_226 k129 f a0 a1 a2 a3 a4 a5 a8 a9 a10) else (if a10 = 0 then (F_X11_checkParts_226 k129 f a0 a1 a2 a3 a4 a5 a8 a9 a10) else (if hKd f a0 = some 10 then (Option.bind (F_X11_proofNumber f a0 a1 (((4 : Int32) * a9) + a11)) fun q4 => Option.bind (hN f a0 [(10, 13)]) fun v5 => Option.bind (hIld f v5 (((4 : Int32) * a9) + a11)) fun v6 => if q4 = v6.toInt64 then (F_X11_checkParts_218 k173 f a0 a1 a2 a3 a4 a5 a8 a9 a11 (1 : Int32)) else (F_X11_checkParts_218 k173 f a0 a1 a2 a3 a4 a5 a8 a9 a11 (0 : Int32))) else none))
def L_X11_checkParts_173 (k129 : xHp → Nat → Int32 → Int32 → Int32 → Int32 → Int32 → Int32 → Int32 → Int32 → Option (Int32 × xHp)) : Nat → xHp → Nat → Int32 → Int32 → Int32 → Int32 → Int32 → Int32 → Int32 → Int32 → Int32 → Option (Int32 × xHp)
  | 0, _, _, _, _, _, _, _, _, _, _, _ => none
  | n + 1, f, a0, a1, a2, a3, a4, a5, a8, a9, a10, a11 => F_X11_checkParts_173 k129 (L_X11_checkParts_173 k129 n) f a0 a1 a2 a3 a4 a5 a8 a9 a10 a11
def F_X11_checkParts_168 (k129 : xHp → Nat → Int32 → Int32 → Int32 → Int32 → Int32 → Int32 → Int32 → Int32 → Option (Int32 × xHp)) (f : xHp) (a0 : Nat) (a1 : Int32) (a2 : Int32) (a3 : Int32) (a4 : Int32) (a5 : Int32) (a8 : Int32) (a9 : Int32) (s0 : Int32) : Option (Int32 × xHp) := L_X11_checkParts_173 k129 xfuel f a0 a1 a2 a3 a4 a5 a8 a9 s0 (0 : Int32)
def F_X11_checkParts_167 (k129 : xHp → Nat → Int32 → Int32 → Int32 → Int32 → Int32 → Int32 → Int32 → Int32 → Option (Int32 × xHp)) (f : xHp) (a0 : Nat) (a1 : Int32) (a2 : Int32) (a3 : Int32) (a4 : Int32) (a5 : Int32) (a8 : Int32) (a9 : Int32) : Option (Int32 × xHp) := F_X11_checkParts_168 k129 f a0 a1 a2 a3 a4 a5 a8 a9 (0 : Int32)
def F_X11_checkParts_129 (k129 : xHp → Nat → Int32 → Int32 → Int32 → Int32 → Int32 → Int32 → Int32 → Int32 → Option (Int32 × xHp)) (f : xHp) (a0 : Nat) (a1 : Int32) (a2 : Int32) (a3 : Int32) (a4 : Int32) (a5 : Int32) (a7 : Int32) (a8 : Int32) (a9 : Int32) : Option (Int32 × xHp) := if a8 ≤ a9 then (F_X11_checkParts_246 f a0 a2 a3 a4 a5 a7 a8) else (if a7 = (-9 : Int32) then (Option.bind (hI f a0 [(10, 12)]) fun v3 => if v3 ≤ a9 then (F_X11_checkParts_167 k129 f a0 a1 a2 a3 a4 a5 a8 a9) else (Option.bind (hN f a0 [(10, 14)]) fun v5 => Option.bind (hIld f v5 a9) fun v6 => if v6 = (1 : Int32) then (F_X11_checkParts_168 k129 f a0 a1 a2 a3 a4 a5 a8 a9 (1 : Int32)) else (F_X11_checkParts_167 k129 f a0 a1 a2 a3 a4 a5 a8 a9))) else (F_X11_checkParts_246 f a0 a2 a3 a4 a5 a7 a8))
def L_X11_checkParts_129  : Nat → xHp → Nat → Int32 → Int32 → Int32 → Int32 → Int32 → Int32 → Int32 → Int32 → Option (Int32 × xHp)
  | 0, _, _, _, _, _, _, _, _, _, _ => none
  | n + 1, f, a0, a1, a2, a3, a4, a5, a7, a8, a9 => F_X11_checkParts_129 (L_X11_checkParts_129  n) f a0 a1 a2 a3 a4 a5 a7 a8 a9
def F_X11_checkParts_56 (k56 : xHp → Nat → Int32 → Int32 → Int32 → Int32 → Int32 → Int32 → Option (Int32 × xHp)) (f : xHp) (a0 : Nat) (a1 : Int32) (a2 : Int32) (a3 : Int32) (a4 : Int32) (a5 : Int32) (a6 : Int32) : Option (Int32 × xHp) := if (41 : Int32) ≤ a6 then (Option.bind (hN f a0 [(10, 22)]) fun v2 => Option.bind (hIld f v2 a1) fun v3 => Option.bind (hPut f a0 [(10, 10)] (.int v3)) fun f4 => Option.bind (hN f4 a0 [(10, 23)]) fun v5 => Option.bind (hIld f4 v5 a1) fun v6 => if hKd f4 a0 = some 10 then (Option.bind (F_X11_beginParts f4 a0 v6) fun q8 => if hKd q8 a0 = some 10 then (Option.bind (F_X11_cover q8 a0 (500 : Int32)) fun q10 => Option.bind (hN q10.2 a0 [(10, 24)]) fun v11 => Option.bind (hIld q10.2 v11 a1) fun v12 => L_X11_checkParts_129 xfuel q10.2 a0 a1 a2 a3 a4 a5 (-9 : Int32) (v12 / (4 : Int32)) (0 : Int32)) else none) else none) else (Option.bind (hN f a0 [(10, 31)]) fun v13 => Option.bind (hN f a0 [(10, 14)]) fun v14 => Option.bind (hIld f v14 a6) fun v15 => Option.bind (hIst f v13 a6 v15) fun f16 => k56 f16 a0 a1 a2 a3 a4 a5 (a6 + 1))
def L_X11_checkParts_56  : Nat → xHp → Nat → Int32 → Int32 → Int32 → Int32 → Int32 → Int32 → Option (Int32 × xHp)
  | 0, _, _, _, _, _, _, _, _ => none
  | n + 1, f, a0, a1, a2, a3, a4, a5, a6 => F_X11_checkParts_56 (L_X11_checkParts_56  n) f a0 a1 a2 a3 a4 a5 a6
def F_X11_checkParts_25 (k25 : xHp → Nat → Int32 → Int32 → Int32 → Int32 → Int32 → Int32 → Option (Int32 × xHp)) (f : xHp) (a0 : Nat) (a1 : Int32) (a2 : Int32) (a3 : Int32) (a4 : Int32) (a5 : Int32) (a6 : Int32) : Option (Int32 × xHp) := if (164 : Int32) ≤ a6 then (L_X11_checkParts_56 xfuel f a0 a1 a2 a3 a4 a5 (0 : Int32)) else (Option.bind (hN f a0 [(10, 30)]) fun v2 => Option.bind (hN f a0 [(10, 13)]) fun v3 => Option.bind (hIld f v3 a6) fun v4 => Option.bind (hIst f v2 a6 v4) fun f5 => k25 f5 a0 a1 a2 a3 a4 a5 (a6 + 1))
def L_X11_checkParts_25  : Nat → xHp → Nat → Int32 → Int32 → Int32 → Int32 → Int32 → Int32 → Option (Int32 × xHp)
  | 0, _, _, _, _, _, _, _, _ => none
  | n + 1, f, a0, a1, a2, a3, a4, a5, a6 => F_X11_checkParts_25 (L_X11_checkParts_25  n) f a0 a1 a2 a3 a4 a5 a6
def F_X11_checkParts (f : xHp) (h0 : Nat) (p1 : Int32) : Option (Int32 × xHp) := Option.bind (hI f h0 [(10, 12)]) fun v1 => Option.bind (hI f h0 [(10, 10)]) fun v2 => Option.bind (hI f h0 [(10, 15)]) fun v3 => Option.bind (hI f h0 [(10, 16)]) fun v4 => L_X11_checkParts_25 xfuel f h0 p1 v1 v2 v3 v4 (0 : Int32)
set_option maxRecDepth 100000 in
set_option maxHeartbeats 4000000 in
theorem w_X11_checkParts_322 {p : Program} {l : Launch} {e : Env} {s : State} {m : MethodId} {args : Array Value} {below : List Frame} {meth : Method} {c : Code} {G : xG} {z : Nat} (X : xC G p m c s args RX11 cX11_checkParts 12) (hr : meth.sig.returnType = (some .int)) (hlocks : meth.locks = false) (hin : meth.name = yX11_checkParts.name) (rs : Int32 × xHp) (k322 : xHp → Nat → Int32 → Int32 → Option (Int32 × xHp)) (hk322 : ∀ (f : xHp) (a0 : Nat) (a7 : Int32) (a9 : Int32) (H : Heap) (locs : List Loc) (ls : Array Slot), k322 f a0 a7 a9 = some rs → xY G z f s H locs → lv_has ls 12 [(0, .ref a0), (7, .int a7), (9, .int a9)] → W p l e rm_X11_checkParts s m args below meth c H locs 0 0 (MQ below (xQ G (some (.int rs.1)) z rs.2) args s rm_X11_checkParts.cells rm_X11_checkParts.slots (xA G)) (F0 m 322 ls [])) (f : xHp) (a0 : Nat) (a7 : Int32) (a9 : Int32) (H : Heap) (locs : List Loc) (ls : Array Slot) (h : F_X11_checkParts_322 k322 f a0 a7 a9 = some rs) (Y : xY G z f s H locs) (hl : lv_has ls 12 [(0, .ref a0), (7, .int a7), (9, .int a9)]) : W p l e rm_X11_checkParts s m args below meth c H locs 0 0 (MQ below (xQ G (some (.int rs.1)) z rs.2) args s rm_X11_checkParts.cells rm_X11_checkParts.slots (xA G)) (F0 m 322 ls []) := by
  have hx := X.1.1
  have hb := X.1.2.1
  unfold F_X11_checkParts_322 at h
  refine lv_iload hx hb dX11_checkParts_322 (lv_at hl 2 rfl) ?_
  refine lv_bipush (v := 41) hx hb dX11_checkParts_324 (by decide) ?_
  refine lv_icmp_ge (tgt := 349) hx hb dX11_checkParts_326 (by decide) (fun c1 => ?_) (fun c1 => ?_)
  · replace h := Eq.trans (if_pos c1).symm h
    refine lv_iload hx hb dX11_checkParts_349 (lv_at hl 1 rfl) ?_
    refine lv_bipush (v := -9) hx hb dX11_checkParts_351 (by decide) ?_
    refine lv_icmp_ne (tgt := 360) hx hb dX11_checkParts_353 (by decide) (fun c2 => ?_) (fun c2 => ?_)
    · replace h := Eq.trans (if_neg c2).symm h
      refine lv_bipush (v := -20) hx hb dX11_checkParts_360 (by decide) ?_
      refine lv_iload hx hb dX11_checkParts_362 (lv_at hl 1 rfl) ?_
      refine lv_isub hx hb dX11_checkParts_364 ?_
      replace h := Option.some.inj h
      subst h
      exact q_reti X Y hr hlocks (Nat.le_of_ble_eq_true rfl) (Nat.le_of_ble_eq_true rfl) dX11_checkParts_365
    · replace h := Eq.trans (if_pos c2).symm h
      refine lv_iconst (v := 1) hx hb dX11_checkParts_356 (by decide) ?_
      refine lv_goto (tgt := 365) hx hb dX11_checkParts_357 (by decide) ?_
      replace h := Option.some.inj h
      subst h
      exact q_reti X Y hr hlocks (Nat.le_of_ble_eq_true rfl) (Nat.le_of_ble_eq_true rfl) dX11_checkParts_365
  · replace h := Eq.trans (if_neg c1).symm h
    refine lv_aload_n hx hb dX11_checkParts_329 rfl (lv_at hl 0 rfl) ?_
    replace h := xb h
    obtain ⟨v3, ev3, h⟩ := h
    refine q_getN X Y fl_X11_32 ev3 dX11_checkParts_330 ?_
    refine lv_iload hx hb dX11_checkParts_333 (lv_at hl 2 rfl) ?_
    refine lv_aload_n hx hb dX11_checkParts_335 rfl (lv_at hl 0 rfl) ?_
    replace h := xb h
    obtain ⟨v4, ev4, h⟩ := h
    refine q_getN X Y fl_X11_71 ev4 dX11_checkParts_336 ?_
    refine lv_iload hx hb dX11_checkParts_339 (lv_at hl 2 rfl) ?_
    replace h := xb h
    obtain ⟨v5, ev5, h⟩ := h
    refine q_iald X Y ev5 dX11_checkParts_341 ?_
    replace h := xb h
    obtain ⟨f6, ef6, h⟩ := h
    refine q_iast X Y ef6 dX11_checkParts_342 (fun H locs Y => ?_)
    refine lv_iinc (v := (a9 + 1)) (lv' := [(9, .int (a9 + 1)), (0, .ref a0), (7, .int a7)]) hx hb dX11_checkParts_343 hl (k := 2) rfl rfl (by decide) rfl (fun ls hl => ?_)
    refine lv_goto (tgt := 322) hx hb dX11_checkParts_346 (by decide) ?_
    refine W.widen (k := 0) (n := 0) (Nat.le_of_ble_eq_true rfl) (Nat.le_of_ble_eq_true rfl) ?_
    exact hk322 f6 a0 a7 (a9 + 1) _ _ _ h Y (lv_sub hl [1, 2, 0] rfl)
set_option maxRecDepth 100000 in
set_option maxHeartbeats 4000000 in
theorem lw_X11_checkParts_322 {p : Program} {l : Launch} {e : Env} {s : State} {m : MethodId} {args : Array Value} {below : List Frame} {meth : Method} {c : Code} {G : xG} {z : Nat} (X : xC G p m c s args RX11 cX11_checkParts 12) (hr : meth.sig.returnType = (some .int)) (hlocks : meth.locks = false) (hin : meth.name = yX11_checkParts.name) (rs : Int32 × xHp)  : ∀ (n : Nat) (f : xHp) (a0 : Nat) (a7 : Int32) (a9 : Int32) (H : Heap) (locs : List Loc) (ls : Array Slot), L_X11_checkParts_322  n f a0 a7 a9 = some rs → xY G z f s H locs → lv_has ls 12 [(0, .ref a0), (7, .int a7), (9, .int a9)] → W p l e rm_X11_checkParts s m args below meth c H locs 0 0 (MQ below (xQ G (some (.int rs.1)) z rs.2) args s rm_X11_checkParts.cells rm_X11_checkParts.slots (xA G)) (F0 m 322 ls []) := by
  intro n
  induction n with
  | zero => intro f a0 a7 a9 H locs ls h Y hl; cases h
  | succ n ih => intro f a0 a7 a9 H locs ls h Y hl; exact w_X11_checkParts_322 X hr hlocks hin rs _ ih f a0 a7 a9 _ _ _ h Y hl
set_option maxRecDepth 100000 in
set_option maxHeartbeats 4000000 in
theorem w_X11_checkParts_291 {p : Program} {l : Launch} {e : Env} {s : State} {m : MethodId} {args : Array Value} {below : List Frame} {meth : Method} {c : Code} {G : xG} {z : Nat} (X : xC G p m c s args RX11 cX11_checkParts 12) (hr : meth.sig.returnType = (some .int)) (hlocks : meth.locks = false) (hin : meth.name = yX11_checkParts.name) (rs : Int32 × xHp) (k291 : xHp → Nat → Int32 → Int32 → Option (Int32 × xHp)) (hk291 : ∀ (f : xHp) (a0 : Nat) (a7 : Int32) (a9 : Int32) (H : Heap) (locs : List Loc) (ls : Array Slot), k291 f a0 a7 a9 = some rs → xY G z f s H locs → lv_has ls 12 [(0, .ref a0), (7, .int a7), (9, .int a9)] → W p l e rm_X11_checkParts s m args below meth c H locs 0 0 (MQ below (xQ G (some (.int rs.1)) z rs.2) args s rm_X11_checkParts.cells rm_X11_checkParts.slots (xA G)) (F0 m 291 ls [])) (f : xHp) (a0 : Nat) (a7 : Int32) (a9 : Int32) (H : Heap) (locs : List Loc) (ls : Array Slot) (h : F_X11_checkParts_291 k291 f a0 a7 a9 = some rs) (Y : xY G z f s H locs) (hl : lv_has ls 12 [(0, .ref a0), (7, .int a7), (9, .int a9)]) : W p l e rm_X11_checkParts s m args below meth c H locs 0 0 (MQ below (xQ G (some (.int rs.1)) z rs.2) args s rm_X11_checkParts.cells rm_X11_checkParts.slots (xA G)) (F0 m 291 ls []) := by
  have hx := X.1.1
  have hb := X.1.2.1
  unfold F_X11_checkParts_291 at h
  refine lv_iload hx hb dX11_checkParts_291 (lv_at hl 2 rfl) ?_
  refine lv_sipush (v := 164) hx hb dX11_checkParts_293 (by decide) ?_
  refine lv_icmp_ge (tgt := 319) hx hb dX11_checkParts_296 (by decide) (fun c1 => ?_) (fun c1 => ?_)
  · replace h := Eq.trans (if_pos c1).symm h
    refine lv_iconst (v := 0) hx hb dX11_checkParts_319 (by decide) ?_
    refine lv_istore (lv' := [(9, .int (0 : Int32)), (0, .ref a0), (7, .int a7)]) hx hb dX11_checkParts_320 hl (by decide) rfl (fun ls hl => ?_)
    refine W.widen (k := 0) (n := 0) (Nat.le_of_ble_eq_true rfl) (Nat.le_of_ble_eq_true rfl) ?_
    exact lw_X11_checkParts_322 X hr hlocks hin rs  xfuel f a0 a7 (0 : Int32) _ _ _ h Y (lv_sub hl [1, 2, 0] rfl)
  · replace h := Eq.trans (if_neg c1).symm h
    refine lv_aload_n hx hb dX11_checkParts_299 rfl (lv_at hl 0 rfl) ?_
    replace h := xb h
    obtain ⟨v2, ev2, h⟩ := h
    refine q_getN X Y fl_X11_29 ev2 dX11_checkParts_300 ?_
    refine lv_iload hx hb dX11_checkParts_303 (lv_at hl 2 rfl) ?_
    refine lv_aload_n hx hb dX11_checkParts_305 rfl (lv_at hl 0 rfl) ?_
    replace h := xb h
    obtain ⟨v3, ev3, h⟩ := h
    refine q_getN X Y fl_X11_68 ev3 dX11_checkParts_306 ?_
    refine lv_iload hx hb dX11_checkParts_309 (lv_at hl 2 rfl) ?_
    replace h := xb h
    obtain ⟨v4, ev4, h⟩ := h
    refine q_iald X Y ev4 dX11_checkParts_311 ?_
    replace h := xb h
    obtain ⟨f5, ef5, h⟩ := h
    refine q_iast X Y ef5 dX11_checkParts_312 (fun H locs Y => ?_)
    refine lv_iinc (v := (a9 + 1)) (lv' := [(9, .int (a9 + 1)), (0, .ref a0), (7, .int a7)]) hx hb dX11_checkParts_313 hl (k := 2) rfl rfl (by decide) rfl (fun ls hl => ?_)
    refine lv_goto (tgt := 291) hx hb dX11_checkParts_316 (by decide) ?_
    refine W.widen (k := 0) (n := 0) (Nat.le_of_ble_eq_true rfl) (Nat.le_of_ble_eq_true rfl) ?_
    exact hk291 f5 a0 a7 (a9 + 1) _ _ _ h Y (lv_sub hl [1, 2, 0] rfl)
set_option maxRecDepth 100000 in
set_option maxHeartbeats 4000000 in
theorem lw_X11_checkParts_291 {p : Program} {l : Launch} {e : Env} {s : State} {m : MethodId} {args : Array Value} {below : List Frame} {meth : Method} {c : Code} {G : xG} {z : Nat} (X : xC G p m c s args RX11 cX11_checkParts 12) (hr : meth.sig.returnType = (some .int)) (hlocks : meth.locks = false) (hin : meth.name = yX11_checkParts.name) (rs : Int32 × xHp)  : ∀ (n : Nat) (f : xHp) (a0 : Nat) (a7 : Int32) (a9 : Int32) (H : Heap) (locs : List Loc) (ls : Array Slot), L_X11_checkParts_291  n f a0 a7 a9 = some rs → xY G z f s H locs → lv_has ls 12 [(0, .ref a0), (7, .int a7), (9, .int a9)] → W p l e rm_X11_checkParts s m args below meth c H locs 0 0 (MQ below (xQ G (some (.int rs.1)) z rs.2) args s rm_X11_checkParts.cells rm_X11_checkParts.slots (xA G)) (F0 m 291 ls []) := by
  intro n
  induction n with
  | zero => intro f a0 a7 a9 H locs ls h Y hl; cases h
  | succ n ih => intro f a0 a7 a9 H locs ls h Y hl; exact w_X11_checkParts_291 X hr hlocks hin rs _ ih f a0 a7 a9 _ _ _ h Y hl
set_option maxRecDepth 100000 in
set_option maxHeartbeats 4000000 in
theorem w_X11_checkParts_266 {p : Program} {l : Launch} {e : Env} {s : State} {m : MethodId} {args : Array Value} {below : List Frame} {meth : Method} {c : Code} {G : xG} {z : Nat} (X : xC G p m c s args RX11 cX11_checkParts 12) (hr : meth.sig.returnType = (some .int)) (hlocks : meth.locks = false) (hin : meth.name = yX11_checkParts.name) (rs : Int32 × xHp)  (f : xHp) (a0 : Nat) (a2 : Int32) (a3 : Int32) (a4 : Int32) (a5 : Int32) (a7 : Int32) (H : Heap) (locs : List Loc) (ls : Array Slot) (h : F_X11_checkParts_266  f a0 a2 a3 a4 a5 a7 = some rs) (Y : xY G z f s H locs) (hl : lv_has ls 12 [(0, .ref a0), (2, .int a2), (3, .int a3), (4, .int a4), (5, .int a5), (7, .int a7)]) : W p l e rm_X11_checkParts s m args below meth c H locs 0 0 (MQ below (xQ G (some (.int rs.1)) z rs.2) args s rm_X11_checkParts.cells rm_X11_checkParts.slots (xA G)) (F0 m 266 ls []) := by
  have hx := X.1.1
  have hb := X.1.2.1
  unfold F_X11_checkParts_266 at h
  refine lv_aload_n hx hb dX11_checkParts_266 rfl (lv_at hl 0 rfl) ?_
  refine lv_iload_n hx hb dX11_checkParts_267 rfl (lv_at hl 1 rfl) ?_
  replace h := xb h
  obtain ⟨f1, ef1, h⟩ := h
  refine q_put X Y fp_X11_159 rfl rfl ef1 dX11_checkParts_268 (fun H locs Y => ?_)
  refine lv_aload_n hx hb dX11_checkParts_271 rfl (lv_at hl 0 rfl) ?_
  refine lv_iload_n hx hb dX11_checkParts_272 rfl (lv_at hl 2 rfl) ?_
  replace h := xb h
  obtain ⟨f2, ef2, h⟩ := h
  refine q_put X Y fp_X11_162 rfl rfl ef2 dX11_checkParts_273 (fun H locs Y => ?_)
  refine lv_aload_n hx hb dX11_checkParts_276 rfl (lv_at hl 0 rfl) ?_
  refine lv_iload hx hb dX11_checkParts_277 (lv_at hl 3 rfl) ?_
  replace h := xb h
  obtain ⟨f3, ef3, h⟩ := h
  refine q_put X Y fp_X11_175 rfl rfl ef3 dX11_checkParts_279 (fun H locs Y => ?_)
  refine lv_aload_n hx hb dX11_checkParts_282 rfl (lv_at hl 0 rfl) ?_
  refine lv_iload hx hb dX11_checkParts_283 (lv_at hl 4 rfl) ?_
  replace h := xb h
  obtain ⟨f4, ef4, h⟩ := h
  refine q_put X Y fp_X11_178 rfl rfl ef4 dX11_checkParts_285 (fun H locs Y => ?_)
  refine lv_iconst (v := 0) hx hb dX11_checkParts_288 (by decide) ?_
  refine lv_istore (lv' := [(9, .int (0 : Int32)), (0, .ref a0), (2, .int a2), (3, .int a3), (4, .int a4), (5, .int a5), (7, .int a7)]) hx hb dX11_checkParts_289 hl (by decide) rfl (fun ls hl => ?_)
  refine W.widen (k := 0) (n := 0) (Nat.le_of_ble_eq_true rfl) (Nat.le_of_ble_eq_true rfl) ?_
  exact lw_X11_checkParts_291 X hr hlocks hin rs  xfuel f4 a0 a7 (0 : Int32) _ _ _ h Y (lv_sub hl [1, 6, 0] rfl)
set_option maxRecDepth 100000 in
set_option maxHeartbeats 4000000 in
theorem w_X11_checkParts_246 {p : Program} {l : Launch} {e : Env} {s : State} {m : MethodId} {args : Array Value} {below : List Frame} {meth : Method} {c : Code} {G : xG} {z : Nat} (X : xC G p m c s args RX11 cX11_checkParts 12) (hr : meth.sig.returnType = (some .int)) (hlocks : meth.locks = false) (hin : meth.name = yX11_checkParts.name) (rs : Int32 × xHp)  (f : xHp) (a0 : Nat) (a2 : Int32) (a3 : Int32) (a4 : Int32) (a5 : Int32) (a7 : Int32) (a8 : Int32) (H : Heap) (locs : List Loc) (ls : Array Slot) (h : F_X11_checkParts_246  f a0 a2 a3 a4 a5 a7 a8 = some rs) (Y : xY G z f s H locs) (hl : lv_has ls 12 [(0, .ref a0), (2, .int a2), (3, .int a3), (4, .int a4), (5, .int a5), (7, .int a7), (8, .int a8)]) : W p l e rm_X11_checkParts s m args below meth c H locs 0 0 (MQ below (xQ G (some (.int rs.1)) z rs.2) args s rm_X11_checkParts.cells rm_X11_checkParts.slots (xA G)) (F0 m 246 ls []) := by
  have hx := X.1.1
  have hb := X.1.2.1
  unfold F_X11_checkParts_246 at h
  refine lv_iload hx hb dX11_checkParts_246 (lv_at hl 5 rfl) ?_
  refine lv_bipush (v := -9) hx hb dX11_checkParts_248 (by decide) ?_
  refine lv_icmp_ne (tgt := 266) hx hb dX11_checkParts_250 (by decide) (fun c1 => ?_) (fun c1 => ?_)
  · replace h := Eq.trans (if_neg c1).symm h
    refine W.widen (k := 0) (n := 0) (Nat.le_of_ble_eq_true rfl) (Nat.le_of_ble_eq_true rfl) ?_
    exact w_X11_checkParts_266 X hr hlocks hin rs   f a0 a2 a3 a4 a5 a7 _ _ _ h Y (lv_sub hl [0, 1, 2, 3, 4, 5] rfl)
  · replace h := Eq.trans (if_pos c1).symm h
    refine lv_aload_n hx hb dX11_checkParts_253 rfl (lv_at hl 0 rfl) ?_
    replace h := xb h
    obtain ⟨v2, ev2, h⟩ := h
    refine q_getI X Y fl_X11_159 ev2 dX11_checkParts_254 ?_
    refine lv_iload hx hb dX11_checkParts_257 (lv_at hl 6 rfl) ?_
    refine lv_icmp_le (tgt := 266) hx hb dX11_checkParts_259 (by decide) (fun c3 => ?_) (fun c3 => ?_)
    · replace h := Eq.trans (if_pos c3).symm h
      refine W.widen (k := 0) (n := 0) (Nat.le_of_ble_eq_true rfl) (Nat.le_of_ble_eq_true rfl) ?_
      exact w_X11_checkParts_266 X hr hlocks hin rs   f a0 a2 a3 a4 a5 a7 _ _ _ h Y (lv_sub hl [0, 1, 2, 3, 4, 5] rfl)
    · replace h := Eq.trans (if_neg c3).symm h
      refine lv_iload hx hb dX11_checkParts_262 (lv_at hl 6 rfl) ?_
      refine lv_istore (lv' := [(7, .int a8), (0, .ref a0), (2, .int a2), (3, .int a3), (4, .int a4), (5, .int a5), (8, .int a8)]) hx hb dX11_checkParts_264 hl (by decide) rfl (fun ls hl => ?_)
      refine W.widen (k := 0) (n := 0) (Nat.le_of_ble_eq_true rfl) (Nat.le_of_ble_eq_true rfl) ?_
      exact w_X11_checkParts_266 X hr hlocks hin rs   f a0 a2 a3 a4 a5 a8 _ _ _ h Y (lv_sub hl [1, 2, 3, 4, 5, 0] rfl)
set_option maxRecDepth 100000 in
set_option maxHeartbeats 4000000 in
theorem w_X11_checkParts_238 {p : Program} {l : Launch} {e : Env} {s : State} {m : MethodId} {args : Array Value} {below : List Frame} {meth : Method} {c : Code} {G : xG} {z : Nat} (X : xC G p m c s args RX11 cX11_checkParts 12) (hr : meth.sig.returnType = (some .int)) (hlocks : meth.locks = false) (hin : meth.name = yX11_checkParts.name) (rs : Int32 × xHp) (k129 : xHp → Nat → Int32 → Int32 → Int32 → Int32 → Int32 → Int32 → Int32 → Int32 → Option (Int32 × xHp)) (hk129 : ∀ (f : xHp) (a0 : Nat) (a1 : Int32) (a2 : Int32) (a3 : Int32) (a4 : Int32) (a5 : Int32) (a7 : Int32) (a8 : Int32) (a9 : Int32) (H : Heap) (locs : List Loc) (ls : Array Slot), k129 f a0 a1 a2 a3 a4 a5 a7 a8 a9 = some rs → xY G z f s H locs → lv_has ls 12 [(0, .ref a0), (1, .int a1), (2, .int a2), (3, .int a3), (4, .int a4), (5, .int a5), (7, .int a7), (8, .int a8), (9, .int a9)] → W p l e rm_X11_checkParts s m args below meth c H locs 0 0 (MQ below (xQ G (some (.int rs.1)) z rs.2) args s rm_X11_checkParts.cells rm_X11_checkParts.slots (xA G)) (F0 m 129 ls [])) (f : xHp) (a0 : Nat) (a1 : Int32) (a2 : Int32) (a3 : Int32) (a4 : Int32) (a5 : Int32) (a8 : Int32) (a9 : Int32) (s0 : Int32) (H : Heap) (locs : List Loc) (ls : Array Slot) (h : F_X11_checkParts_238 k129 f a0 a1 a2 a3 a4 a5 a8 a9 s0 = some rs) (Y : xY G z f s H locs) (hl : lv_has ls 12 [(0, .ref a0), (1, .int a1), (2, .int a2), (3, .int a3), (4, .int a4), (5, .int a5), (8, .int a8), (9, .int a9)]) : W p l e rm_X11_checkParts s m args below meth c H locs 0 0 (MQ below (xQ G (some (.int rs.1)) z rs.2) args s rm_X11_checkParts.cells rm_X11_checkParts.slots (xA G)) (F0 m 238 ls [.int s0]) := by
  have hx := X.1.1
  have hb := X.1.2.1
  unfold F_X11_checkParts_238 at h
  refine lv_istore (lv' := [(7, .int s0), (0, .ref a0), (1, .int a1), (2, .int a2), (3, .int a3), (4, .int a4), (5, .int a5), (8, .int a8), (9, .int a9)]) hx hb dX11_checkParts_238 hl (by decide) rfl (fun ls hl => ?_)
  refine lv_iinc (v := (a9 + 1)) (lv' := [(9, .int (a9 + 1)), (7, .int s0), (0, .ref a0), (1, .int a1), (2, .int a2), (3, .int a3), (4, .int a4), (5, .int a5), (8, .int a8)]) hx hb dX11_checkParts_240 hl (k := 8) rfl rfl (by decide) rfl (fun ls hl => ?_)
  refine lv_goto (tgt := 129) hx hb dX11_checkParts_243 (by decide) ?_
  refine W.widen (k := 0) (n := 0) (Nat.le_of_ble_eq_true rfl) (Nat.le_of_ble_eq_true rfl) ?_
  exact hk129 f a0 a1 a2 a3 a4 a5 s0 a8 (a9 + 1) _ _ _ h Y (lv_sub hl [2, 3, 4, 5, 6, 7, 1, 8, 0] rfl)
set_option maxRecDepth 100000 in
set_option maxHeartbeats 4000000 in
theorem w_X11_checkParts_226 {p : Program} {l : Launch} {e : Env} {s : State} {m : MethodId} {args : Array Value} {below : List Frame} {meth : Method} {c : Code} {G : xG} {z : Nat} (X : xC G p m c s args RX11 cX11_checkParts 12) (hr : meth.sig.returnType = (some .int)) (hlocks : meth.locks = false) (hin : meth.name = yX11_checkParts.name) (rs : Int32 × xHp) (k129 : xHp → Nat → Int32 → Int32 → Int32 → Int32 → Int32 → Int32 → Int32 → Int32 → Option (Int32 × xHp)) (hk129 : ∀ (f : xHp) (a0 : Nat) (a1 : Int32) (a2 : Int32) (a3 : Int32) (a4 : Int32) (a5 : Int32) (a7 : Int32) (a8 : Int32) (a9 : Int32) (H : Heap) (locs : List Loc) (ls : Array Slot), k129 f a0 a1 a2 a3 a4 a5 a7 a8 a9 = some rs → xY G z f s H locs → lv_has ls 12 [(0, .ref a0), (1, .int a1), (2, .int a2), (3, .int a3), (4, .int a4), (5, .int a5), (7, .int a7), (8, .int a8), (9, .int a9)] → W p l e rm_X11_checkParts s m args below meth c H locs 0 0 (MQ below (xQ G (some (.int rs.1)) z rs.2) args s rm_X11_checkParts.cells rm_X11_checkParts.slots (xA G)) (F0 m 129 ls [])) (f : xHp) (a0 : Nat) (a1 : Int32) (a2 : Int32) (a3 : Int32) (a4 : Int32) (a5 : Int32) (a8 : Int32) (a9 : Int32) (a10 : Int32) (H : Heap) (locs : List Loc) (ls : Array Slot) (h : F_X11_checkParts_226 k129 f a0 a1 a2 a3 a4 a5 a8 a9 a10 = some rs) (Y : xY G z f s H locs) (hl : lv_has ls 12 [(0, .ref a0), (1, .int a1), (2, .int a2), (3, .int a3), (4, .int a4), (5, .int a5), (8, .int a8), (9, .int a9), (10, .int a10)]) : W p l e rm_X11_checkParts s m args below meth c H locs 0 0 (MQ below (xQ G (some (.int rs.1)) z rs.2) args s rm_X11_checkParts.cells rm_X11_checkParts.slots (xA G)) (F0 m 226 ls []) := by
  have hx := X.1.1
  have hb := X.1.2.1
  unfold F_X11_checkParts_226 at h
  refine lv_iload hx hb dX11_checkParts_226 (lv_at hl 8 rfl) ?_
  refine lv_if_eq (tgt := 236) hx hb dX11_checkParts_228 (by decide) (fun c1 => ?_) (fun c1 => ?_)
  · replace h := Eq.trans (if_pos c1).symm h
    refine lv_iload hx hb dX11_checkParts_236 (lv_at hl 7 rfl) ?_
    refine W.widen (k := 0) (n := 0) (Nat.le_of_ble_eq_true rfl) (Nat.le_of_ble_eq_true rfl) ?_
    exact w_X11_checkParts_238 X hr hlocks hin rs k129 hk129  f a0 a1 a2 a3 a4 a5 a8 a9 a9 _ _ _ h Y (lv_sub hl [0, 1, 2, 3, 4, 5, 6, 7] rfl)
  · replace h := Eq.trans (if_neg c1).symm h
    refine lv_bipush (v := -9) hx hb dX11_checkParts_231 (by decide) ?_
    refine lv_goto (tgt := 238) hx hb dX11_checkParts_233 (by decide) ?_
    refine W.widen (k := 0) (n := 0) (Nat.le_of_ble_eq_true rfl) (Nat.le_of_ble_eq_true rfl) ?_
    exact w_X11_checkParts_238 X hr hlocks hin rs k129 hk129  f a0 a1 a2 a3 a4 a5 a8 a9 (-9 : Int32) _ _ _ h Y (lv_sub hl [0, 1, 2, 3, 4, 5, 6, 7] rfl)
set_option maxRecDepth 100000 in
set_option maxHeartbeats 4000000 in
theorem w_X11_checkParts_218 {p : Program} {l : Launch} {e : Env} {s : State} {m : MethodId} {args : Array Value} {below : List Frame} {meth : Method} {c : Code} {G : xG} {z : Nat} (X : xC G p m c s args RX11 cX11_checkParts 12) (hr : meth.sig.returnType = (some .int)) (hlocks : meth.locks = false) (hin : meth.name = yX11_checkParts.name) (rs : Int32 × xHp) (k173 : xHp → Nat → Int32 → Int32 → Int32 → Int32 → Int32 → Int32 → Int32 → Int32 → Int32 → Option (Int32 × xHp)) (hk173 : ∀ (f : xHp) (a0 : Nat) (a1 : Int32) (a2 : Int32) (a3 : Int32) (a4 : Int32) (a5 : Int32) (a8 : Int32) (a9 : Int32) (a10 : Int32) (a11 : Int32) (H : Heap) (locs : List Loc) (ls : Array Slot), k173 f a0 a1 a2 a3 a4 a5 a8 a9 a10 a11 = some rs → xY G z f s H locs → lv_has ls 12 [(0, .ref a0), (1, .int a1), (2, .int a2), (3, .int a3), (4, .int a4), (5, .int a5), (8, .int a8), (9, .int a9), (10, .int a10), (11, .int a11)] → W p l e rm_X11_checkParts s m args below meth c H locs 0 0 (MQ below (xQ G (some (.int rs.1)) z rs.2) args s rm_X11_checkParts.cells rm_X11_checkParts.slots (xA G)) (F0 m 173 ls [])) (f : xHp) (a0 : Nat) (a1 : Int32) (a2 : Int32) (a3 : Int32) (a4 : Int32) (a5 : Int32) (a8 : Int32) (a9 : Int32) (a11 : Int32) (s0 : Int32) (H : Heap) (locs : List Loc) (ls : Array Slot) (h : F_X11_checkParts_218 k173 f a0 a1 a2 a3 a4 a5 a8 a9 a11 s0 = some rs) (Y : xY G z f s H locs) (hl : lv_has ls 12 [(0, .ref a0), (1, .int a1), (2, .int a2), (3, .int a3), (4, .int a4), (5, .int a5), (8, .int a8), (9, .int a9), (11, .int a11)]) : W p l e rm_X11_checkParts s m args below meth c H locs 0 0 (MQ below (xQ G (some (.int rs.1)) z rs.2) args s rm_X11_checkParts.cells rm_X11_checkParts.slots (xA G)) (F0 m 218 ls [.int s0]) := by
  have hx := X.1.1
  have hb := X.1.2.1
  unfold F_X11_checkParts_218 at h
  refine lv_istore (lv' := [(10, .int s0), (0, .ref a0), (1, .int a1), (2, .int a2), (3, .int a3), (4, .int a4), (5, .int a5), (8, .int a8), (9, .int a9), (11, .int a11)]) hx hb dX11_checkParts_218 hl (by decide) rfl (fun ls hl => ?_)
  refine lv_iinc (v := (a11 + 1)) (lv' := [(11, .int (a11 + 1)), (10, .int s0), (0, .ref a0), (1, .int a1), (2, .int a2), (3, .int a3), (4, .int a4), (5, .int a5), (8, .int a8), (9, .int a9)]) hx hb dX11_checkParts_220 hl (k := 9) rfl rfl (by decide) rfl (fun ls hl => ?_)
  refine lv_goto (tgt := 173) hx hb dX11_checkParts_223 (by decide) ?_
  refine W.widen (k := 0) (n := 0) (Nat.le_of_ble_eq_true rfl) (Nat.le_of_ble_eq_true rfl) ?_
  exact hk173 f a0 a1 a2 a3 a4 a5 a8 a9 s0 (a11 + 1) _ _ _ h Y (lv_sub hl [2, 3, 4, 5, 6, 7, 8, 9, 1, 0] rfl)
set_option maxRecDepth 100000 in
set_option maxHeartbeats 4000000 in
theorem w_X11_checkParts_173 {p : Program} {l : Launch} {e : Env} {s : State} {m : MethodId} {args : Array Value} {below : List Frame} {meth : Method} {c : Code} {G : xG} {z : Nat} (X : xC G p m c s args RX11 cX11_checkParts 12) (hr : meth.sig.returnType = (some .int)) (hlocks : meth.locks = false) (hin : meth.name = yX11_checkParts.name) (rs : Int32 × xHp) (k129 : xHp → Nat → Int32 → Int32 → Int32 → Int32 → Int32 → Int32 → Int32 → Int32 → Option (Int32 × xHp)) (hk129 : ∀ (f : xHp) (a0 : Nat) (a1 : Int32) (a2 : Int32) (a3 : Int32) (a4 : Int32) (a5 : Int32) (a7 : Int32) (a8 : Int32) (a9 : Int32) (H : Heap) (locs : List Loc) (ls : Array Slot), k129 f a0 a1 a2 a3 a4 a5 a7 a8 a9 = some rs → xY G z f s H locs → lv_has ls 12 [(0, .ref a0), (1, .int a1), (2, .int a2), (3, .int a3), (4, .int a4), (5, .int a5), (7, .int a7), (8, .int a8), (9, .int a9)] → W p l e rm_X11_checkParts s m args below meth c H locs 0 0 (MQ below (xQ G (some (.int rs.1)) z rs.2) args s rm_X11_checkParts.cells rm_X11_checkParts.slots (xA G)) (F0 m 129 ls [])) (k173 : xHp → Nat → Int32 → Int32 → Int32 → Int32 → Int32 → Int32 → Int32 → Int32 → Int32 → Option (Int32 × xHp)) (hk173 : ∀ (f : xHp) (a0 : Nat) (a1 : Int32) (a2 : Int32) (a3 : Int32) (a4 : Int32) (a5 : Int32) (a8 : Int32) (a9 : Int32) (a10 : Int32) (a11 : Int32) (H : Heap) (locs : List Loc) (ls : Array Slot), k173 f a0 a1 a2 a3 a4 a5 a8 a9 a10 a11 = some rs → xY G z f s H locs → lv_has ls 12 [(0, .ref a0), (1, .int a1), (2, .int a2), (3, .int a3), (4, .int a4), (5, .int a5), (8, .int a8), (9, .int a9), (10, .int a10), (11, .int a11)] → W p l e rm_X11_checkParts s m args below meth c H locs 0 0 (MQ below (xQ G (some (.int rs.1)) z rs.2) args s rm_X11_checkParts.cells rm_X11_checkParts.slots (xA G)) (F0 m 173 ls [])) (f : xHp) (a0 : Nat) (a1 : Int32) (a2 : Int32) (a3 : Int32) (a4 : Int32) (a5 : Int32) (a8 : Int32) (a9 : Int32) (a10 : Int32) (a11 : Int32) (H : Heap) (locs : List Loc) (ls : Array Slot) (h : F_X11_checkParts_173 k129 k173 f a0 a1 a2 a3 a4 a5 a8 a9 a10 a11 = some rs) (Y : xY G z f s H locs) (hl : lv_has ls 12 [(0, .ref a0), (1, .int a1), (2, .int a2), (3, .int a3), (4, .int a4), (5, .int a5), (8, .int a8), (9, .int a9), (10, .int a10), (11, .int a11)]) : W p l e rm_X11_checkParts s m args below meth c H locs 0 0 (MQ below (xQ G (some (.int rs.1)) z rs.2) args s rm_X11_checkParts.cells rm_X11_checkParts.slots (xA G)) (F0 m 173 ls []) := by
  have hx := X.1.1
  have hb := X.1.2.1
  unfold F_X11_checkParts_173 at h
  refine lv_iload hx hb dX11_checkParts_173 (lv_at hl 9 rfl) ?_
  refine lv_iconst (v := 4) hx hb dX11_checkParts_175 (by decide) ?_
  refine lv_icmp_ge (tgt := 226) hx hb dX11_checkParts_176 (by decide) (fun c1 => ?_) (fun c1 => ?_)
  · replace h := Eq.trans (if_pos c1).symm h
    refine W.widen (k := 0) (n := 0) (Nat.le_of_ble_eq_true rfl) (Nat.le_of_ble_eq_true rfl) ?_
    exact w_X11_checkParts_226 X hr hlocks hin rs k129 hk129  f a0 a1 a2 a3 a4 a5 a8 a9 a10 _ _ _ h Y (lv_sub hl [0, 1, 2, 3, 4, 5, 6, 7, 8] rfl)
  · replace h := Eq.trans (if_neg c1).symm h
    refine lv_iload hx hb dX11_checkParts_179 (lv_at hl 8 rfl) ?_
    refine lv_if_eq (tgt := 226) hx hb dX11_checkParts_181 (by decide) (fun c2 => ?_) (fun c2 => ?_)
    · replace h := Eq.trans (if_pos c2).symm h
      refine W.widen (k := 0) (n := 0) (Nat.le_of_ble_eq_true rfl) (Nat.le_of_ble_eq_true rfl) ?_
      exact w_X11_checkParts_226 X hr hlocks hin rs k129 hk129  f a0 a1 a2 a3 a4 a5 a8 a9 a10 _ _ _ h Y (lv_sub hl [0, 1, 2, 3, 4, 5, 6, 7, 8] rfl)
    · replace h := Eq.trans (if_neg c2).symm h
      refine lv_aload_n hx hb dX11_checkParts_184 rfl (lv_at hl 0 rfl) ?_
      refine lv_iload_n hx hb dX11_checkParts_185 rfl (lv_at hl 1 rfl) ?_
      refine lv_iconst (v := 4) hx hb dX11_checkParts_186 (by decide) ?_
      refine lv_iload hx hb dX11_checkParts_187 (lv_at hl 7 rfl) ?_
      refine lv_imul hx hb dX11_checkParts_189 ?_
      refine lv_iload hx hb dX11_checkParts_190 (lv_at hl 9 rfl) ?_
      refine lv_iadd hx hb dX11_checkParts_192 ?_
      by_cases c3 : hKd f a0 = some 10
      · replace h := Eq.trans (if_pos c3).symm h
        replace h := xb h
        obtain ⟨q4, eq4, h⟩ := h
        refine q_callV X Y hl.1 (rest := []) (As := [.int a1, .int (((4 : Int32) * a9) + a11)]) (c_X11_proofNumber l G z f a0 a1 (((4 : Int32) * a9) + a11) _ eq4) cd_X11_proofNumber lv_X11_239_10 c3 ⟨(Nat.le_of_ble_eq_true rfl), (Nat.le_of_ble_eq_true rfl)⟩ ⟨(Nat.le_of_ble_eq_true rfl), (Nat.le_of_ble_eq_true rfl)⟩ rfl rfl (Nat.le_of_ble_eq_true rfl) dX11_checkParts_193 (fun H locs Y => ?_)
        refine W.eq (g2 := F0 m 196 ls [.long q4]) rfl ?_
        refine lv_aload_n hx hb dX11_checkParts_196 rfl (lv_at hl 0 rfl) ?_
        replace h := xb h
        obtain ⟨v5, ev5, h⟩ := h
        refine q_getN X Y fl_X11_29 ev5 dX11_checkParts_197 ?_
        refine lv_iconst (v := 4) hx hb dX11_checkParts_200 (by decide) ?_
        refine lv_iload hx hb dX11_checkParts_201 (lv_at hl 7 rfl) ?_
        refine lv_imul hx hb dX11_checkParts_203 ?_
        refine lv_iload hx hb dX11_checkParts_204 (lv_at hl 9 rfl) ?_
        refine lv_iadd hx hb dX11_checkParts_206 ?_
        replace h := xb h
        obtain ⟨v6, ev6, h⟩ := h
        refine q_iald X Y ev6 dX11_checkParts_207 ?_
        refine lv_i2l hx hb dX11_checkParts_208 rfl ?_
        refine q_lcmp_ne (tgt := 217) hx hb dX11_checkParts_209 dX11_checkParts_210 (by decide) (fun c7 => ?_) (fun c7 => ?_)
        · replace h := Eq.trans (if_neg c7).symm h
          refine lv_iconst (v := 0) hx hb dX11_checkParts_217 (by decide) ?_
          refine W.widen (k := 0) (n := 0) (Nat.le_of_ble_eq_true rfl) (Nat.le_of_ble_eq_true rfl) ?_
          exact w_X11_checkParts_218 X hr hlocks hin rs k173 hk173  f a0 a1 a2 a3 a4 a5 a8 a9 a11 (0 : Int32) _ _ _ h Y (lv_sub hl [0, 1, 2, 3, 4, 5, 6, 7, 9] rfl)
        · replace h := Eq.trans (if_pos c7).symm h
          refine lv_iconst (v := 1) hx hb dX11_checkParts_213 (by decide) ?_
          refine lv_goto (tgt := 218) hx hb dX11_checkParts_214 (by decide) ?_
          refine W.widen (k := 0) (n := 0) (Nat.le_of_ble_eq_true rfl) (Nat.le_of_ble_eq_true rfl) ?_
          exact w_X11_checkParts_218 X hr hlocks hin rs k173 hk173  f a0 a1 a2 a3 a4 a5 a8 a9 a11 (1 : Int32) _ _ _ h Y (lv_sub hl [0, 1, 2, 3, 4, 5, 6, 7, 9] rfl)
      replace h := Eq.trans (if_neg c3).symm h
      cases h
set_option maxRecDepth 100000 in
set_option maxHeartbeats 4000000 in
theorem lw_X11_checkParts_173 {p : Program} {l : Launch} {e : Env} {s : State} {m : MethodId} {args : Array Value} {below : List Frame} {meth : Method} {c : Code} {G : xG} {z : Nat} (X : xC G p m c s args RX11 cX11_checkParts 12) (hr : meth.sig.returnType = (some .int)) (hlocks : meth.locks = false) (hin : meth.name = yX11_checkParts.name) (rs : Int32 × xHp) (k129 : xHp → Nat → Int32 → Int32 → Int32 → Int32 → Int32 → Int32 → Int32 → Int32 → Option (Int32 × xHp)) (hk129 : ∀ (f : xHp) (a0 : Nat) (a1 : Int32) (a2 : Int32) (a3 : Int32) (a4 : Int32) (a5 : Int32) (a7 : Int32) (a8 : Int32) (a9 : Int32) (H : Heap) (locs : List Loc) (ls : Array Slot), k129 f a0 a1 a2 a3 a4 a5 a7 a8 a9 = some rs → xY G z f s H locs → lv_has ls 12 [(0, .ref a0), (1, .int a1), (2, .int a2), (3, .int a3), (4, .int a4), (5, .int a5), (7, .int a7), (8, .int a8), (9, .int a9)] → W p l e rm_X11_checkParts s m args below meth c H locs 0 0 (MQ below (xQ G (some (.int rs.1)) z rs.2) args s rm_X11_checkParts.cells rm_X11_checkParts.slots (xA G)) (F0 m 129 ls [])) : ∀ (n : Nat) (f : xHp) (a0 : Nat) (a1 : Int32) (a2 : Int32) (a3 : Int32) (a4 : Int32) (a5 : Int32) (a8 : Int32) (a9 : Int32) (a10 : Int32) (a11 : Int32) (H : Heap) (locs : List Loc) (ls : Array Slot), L_X11_checkParts_173 k129 n f a0 a1 a2 a3 a4 a5 a8 a9 a10 a11 = some rs → xY G z f s H locs → lv_has ls 12 [(0, .ref a0), (1, .int a1), (2, .int a2), (3, .int a3), (4, .int a4), (5, .int a5), (8, .int a8), (9, .int a9), (10, .int a10), (11, .int a11)] → W p l e rm_X11_checkParts s m args below meth c H locs 0 0 (MQ below (xQ G (some (.int rs.1)) z rs.2) args s rm_X11_checkParts.cells rm_X11_checkParts.slots (xA G)) (F0 m 173 ls []) := by
  intro n
  induction n with
  | zero => intro f a0 a1 a2 a3 a4 a5 a8 a9 a10 a11 H locs ls h Y hl; cases h
  | succ n ih => intro f a0 a1 a2 a3 a4 a5 a8 a9 a10 a11 H locs ls h Y hl; exact w_X11_checkParts_173 X hr hlocks hin rs k129 hk129 _ ih f a0 a1 a2 a3 a4 a5 a8 a9 a10 a11 _ _ _ h Y hl
set_option maxRecDepth 100000 in
set_option maxHeartbeats 4000000 in
theorem w_X11_checkParts_168 {p : Program} {l : Launch} {e : Env} {s : State} {m : MethodId} {args : Array Value} {below : List Frame} {meth : Method} {c : Code} {G : xG} {z : Nat} (X : xC G p m c s args RX11 cX11_checkParts 12) (hr : meth.sig.returnType = (some .int)) (hlocks : meth.locks = false) (hin : meth.name = yX11_checkParts.name) (rs : Int32 × xHp) (k129 : xHp → Nat → Int32 → Int32 → Int32 → Int32 → Int32 → Int32 → Int32 → Int32 → Option (Int32 × xHp)) (hk129 : ∀ (f : xHp) (a0 : Nat) (a1 : Int32) (a2 : Int32) (a3 : Int32) (a4 : Int32) (a5 : Int32) (a7 : Int32) (a8 : Int32) (a9 : Int32) (H : Heap) (locs : List Loc) (ls : Array Slot), k129 f a0 a1 a2 a3 a4 a5 a7 a8 a9 = some rs → xY G z f s H locs → lv_has ls 12 [(0, .ref a0), (1, .int a1), (2, .int a2), (3, .int a3), (4, .int a4), (5, .int a5), (7, .int a7), (8, .int a8), (9, .int a9)] → W p l e rm_X11_checkParts s m args below meth c H locs 0 0 (MQ below (xQ G (some (.int rs.1)) z rs.2) args s rm_X11_checkParts.cells rm_X11_checkParts.slots (xA G)) (F0 m 129 ls [])) (f : xHp) (a0 : Nat) (a1 : Int32) (a2 : Int32) (a3 : Int32) (a4 : Int32) (a5 : Int32) (a8 : Int32) (a9 : Int32) (s0 : Int32) (H : Heap) (locs : List Loc) (ls : Array Slot) (h : F_X11_checkParts_168 k129 f a0 a1 a2 a3 a4 a5 a8 a9 s0 = some rs) (Y : xY G z f s H locs) (hl : lv_has ls 12 [(0, .ref a0), (1, .int a1), (2, .int a2), (3, .int a3), (4, .int a4), (5, .int a5), (8, .int a8), (9, .int a9)]) : W p l e rm_X11_checkParts s m args below meth c H locs 0 0 (MQ below (xQ G (some (.int rs.1)) z rs.2) args s rm_X11_checkParts.cells rm_X11_checkParts.slots (xA G)) (F0 m 168 ls [.int s0]) := by
  have hx := X.1.1
  have hb := X.1.2.1
  unfold F_X11_checkParts_168 at h
  refine lv_istore (lv' := [(10, .int s0), (0, .ref a0), (1, .int a1), (2, .int a2), (3, .int a3), (4, .int a4), (5, .int a5), (8, .int a8), (9, .int a9)]) hx hb dX11_checkParts_168 hl (by decide) rfl (fun ls hl => ?_)
  refine lv_iconst (v := 0) hx hb dX11_checkParts_170 (by decide) ?_
  refine lv_istore (lv' := [(11, .int (0 : Int32)), (10, .int s0), (0, .ref a0), (1, .int a1), (2, .int a2), (3, .int a3), (4, .int a4), (5, .int a5), (8, .int a8), (9, .int a9)]) hx hb dX11_checkParts_171 hl (by decide) rfl (fun ls hl => ?_)
  refine W.widen (k := 0) (n := 0) (Nat.le_of_ble_eq_true rfl) (Nat.le_of_ble_eq_true rfl) ?_
  exact lw_X11_checkParts_173 X hr hlocks hin rs k129 hk129 xfuel f a0 a1 a2 a3 a4 a5 a8 a9 s0 (0 : Int32) _ _ _ h Y (lv_sub hl [2, 3, 4, 5, 6, 7, 8, 9, 1, 0] rfl)
set_option maxRecDepth 100000 in
set_option maxHeartbeats 4000000 in
theorem w_X11_checkParts_167 {p : Program} {l : Launch} {e : Env} {s : State} {m : MethodId} {args : Array Value} {below : List Frame} {meth : Method} {c : Code} {G : xG} {z : Nat} (X : xC G p m c s args RX11 cX11_checkParts 12) (hr : meth.sig.returnType = (some .int)) (hlocks : meth.locks = false) (hin : meth.name = yX11_checkParts.name) (rs : Int32 × xHp) (k129 : xHp → Nat → Int32 → Int32 → Int32 → Int32 → Int32 → Int32 → Int32 → Int32 → Option (Int32 × xHp)) (hk129 : ∀ (f : xHp) (a0 : Nat) (a1 : Int32) (a2 : Int32) (a3 : Int32) (a4 : Int32) (a5 : Int32) (a7 : Int32) (a8 : Int32) (a9 : Int32) (H : Heap) (locs : List Loc) (ls : Array Slot), k129 f a0 a1 a2 a3 a4 a5 a7 a8 a9 = some rs → xY G z f s H locs → lv_has ls 12 [(0, .ref a0), (1, .int a1), (2, .int a2), (3, .int a3), (4, .int a4), (5, .int a5), (7, .int a7), (8, .int a8), (9, .int a9)] → W p l e rm_X11_checkParts s m args below meth c H locs 0 0 (MQ below (xQ G (some (.int rs.1)) z rs.2) args s rm_X11_checkParts.cells rm_X11_checkParts.slots (xA G)) (F0 m 129 ls [])) (f : xHp) (a0 : Nat) (a1 : Int32) (a2 : Int32) (a3 : Int32) (a4 : Int32) (a5 : Int32) (a8 : Int32) (a9 : Int32) (H : Heap) (locs : List Loc) (ls : Array Slot) (h : F_X11_checkParts_167 k129 f a0 a1 a2 a3 a4 a5 a8 a9 = some rs) (Y : xY G z f s H locs) (hl : lv_has ls 12 [(0, .ref a0), (1, .int a1), (2, .int a2), (3, .int a3), (4, .int a4), (5, .int a5), (8, .int a8), (9, .int a9)]) : W p l e rm_X11_checkParts s m args below meth c H locs 0 0 (MQ below (xQ G (some (.int rs.1)) z rs.2) args s rm_X11_checkParts.cells rm_X11_checkParts.slots (xA G)) (F0 m 167 ls []) := by
  have hx := X.1.1
  have hb := X.1.2.1
  unfold F_X11_checkParts_167 at h
  refine lv_iconst (v := 0) hx hb dX11_checkParts_167 (by decide) ?_
  refine W.widen (k := 0) (n := 0) (Nat.le_of_ble_eq_true rfl) (Nat.le_of_ble_eq_true rfl) ?_
  exact w_X11_checkParts_168 X hr hlocks hin rs k129 hk129  f a0 a1 a2 a3 a4 a5 a8 a9 (0 : Int32) _ _ _ h Y (lv_sub hl [0, 1, 2, 3, 4, 5, 6, 7] rfl)
set_option maxRecDepth 100000 in
set_option maxHeartbeats 4000000 in
theorem w_X11_checkParts_129 {p : Program} {l : Launch} {e : Env} {s : State} {m : MethodId} {args : Array Value} {below : List Frame} {meth : Method} {c : Code} {G : xG} {z : Nat} (X : xC G p m c s args RX11 cX11_checkParts 12) (hr : meth.sig.returnType = (some .int)) (hlocks : meth.locks = false) (hin : meth.name = yX11_checkParts.name) (rs : Int32 × xHp) (k129 : xHp → Nat → Int32 → Int32 → Int32 → Int32 → Int32 → Int32 → Int32 → Int32 → Option (Int32 × xHp)) (hk129 : ∀ (f : xHp) (a0 : Nat) (a1 : Int32) (a2 : Int32) (a3 : Int32) (a4 : Int32) (a5 : Int32) (a7 : Int32) (a8 : Int32) (a9 : Int32) (H : Heap) (locs : List Loc) (ls : Array Slot), k129 f a0 a1 a2 a3 a4 a5 a7 a8 a9 = some rs → xY G z f s H locs → lv_has ls 12 [(0, .ref a0), (1, .int a1), (2, .int a2), (3, .int a3), (4, .int a4), (5, .int a5), (7, .int a7), (8, .int a8), (9, .int a9)] → W p l e rm_X11_checkParts s m args below meth c H locs 0 0 (MQ below (xQ G (some (.int rs.1)) z rs.2) args s rm_X11_checkParts.cells rm_X11_checkParts.slots (xA G)) (F0 m 129 ls [])) (f : xHp) (a0 : Nat) (a1 : Int32) (a2 : Int32) (a3 : Int32) (a4 : Int32) (a5 : Int32) (a7 : Int32) (a8 : Int32) (a9 : Int32) (H : Heap) (locs : List Loc) (ls : Array Slot) (h : F_X11_checkParts_129 k129 f a0 a1 a2 a3 a4 a5 a7 a8 a9 = some rs) (Y : xY G z f s H locs) (hl : lv_has ls 12 [(0, .ref a0), (1, .int a1), (2, .int a2), (3, .int a3), (4, .int a4), (5, .int a5), (7, .int a7), (8, .int a8), (9, .int a9)]) : W p l e rm_X11_checkParts s m args below meth c H locs 0 0 (MQ below (xQ G (some (.int rs.1)) z rs.2) args s rm_X11_checkParts.cells rm_X11_checkParts.slots (xA G)) (F0 m 129 ls []) := by
  have hx := X.1.1
  have hb := X.1.2.1
  unfold F_X11_checkParts_129 at h
  refine lv_iload hx hb dX11_checkParts_129 (lv_at hl 8 rfl) ?_
  refine lv_iload hx hb dX11_checkParts_131 (lv_at hl 7 rfl) ?_
  refine lv_icmp_ge (tgt := 246) hx hb dX11_checkParts_133 (by decide) (fun c1 => ?_) (fun c1 => ?_)
  · replace h := Eq.trans (if_pos c1).symm h
    refine W.widen (k := 0) (n := 0) (Nat.le_of_ble_eq_true rfl) (Nat.le_of_ble_eq_true rfl) ?_
    exact w_X11_checkParts_246 X hr hlocks hin rs   f a0 a2 a3 a4 a5 a7 a8 _ _ _ h Y (lv_sub hl [0, 2, 3, 4, 5, 6, 7] rfl)
  · replace h := Eq.trans (if_neg c1).symm h
    refine lv_iload hx hb dX11_checkParts_136 (lv_at hl 6 rfl) ?_
    refine lv_bipush (v := -9) hx hb dX11_checkParts_138 (by decide) ?_
    refine lv_icmp_ne (tgt := 246) hx hb dX11_checkParts_140 (by decide) (fun c2 => ?_) (fun c2 => ?_)
    · replace h := Eq.trans (if_neg c2).symm h
      refine W.widen (k := 0) (n := 0) (Nat.le_of_ble_eq_true rfl) (Nat.le_of_ble_eq_true rfl) ?_
      exact w_X11_checkParts_246 X hr hlocks hin rs   f a0 a2 a3 a4 a5 a7 a8 _ _ _ h Y (lv_sub hl [0, 2, 3, 4, 5, 6, 7] rfl)
    · replace h := Eq.trans (if_pos c2).symm h
      refine lv_iload hx hb dX11_checkParts_143 (lv_at hl 8 rfl) ?_
      refine lv_aload_n hx hb dX11_checkParts_145 rfl (lv_at hl 0 rfl) ?_
      replace h := xb h
      obtain ⟨v3, ev3, h⟩ := h
      refine q_getI X Y fl_X11_159 ev3 dX11_checkParts_146 ?_
      refine lv_icmp_ge (tgt := 167) hx hb dX11_checkParts_149 (by decide) (fun c4 => ?_) (fun c4 => ?_)
      · replace h := Eq.trans (if_pos c4).symm h
        refine W.widen (k := 0) (n := 0) (Nat.le_of_ble_eq_true rfl) (Nat.le_of_ble_eq_true rfl) ?_
        exact w_X11_checkParts_167 X hr hlocks hin rs k129 hk129  f a0 a1 a2 a3 a4 a5 a8 a9 _ _ _ h Y (lv_sub hl [0, 1, 2, 3, 4, 5, 7, 8] rfl)
      · replace h := Eq.trans (if_neg c4).symm h
        refine lv_aload_n hx hb dX11_checkParts_152 rfl (lv_at hl 0 rfl) ?_
        replace h := xb h
        obtain ⟨v5, ev5, h⟩ := h
        refine q_getN X Y fl_X11_32 ev5 dX11_checkParts_153 ?_
        refine lv_iload hx hb dX11_checkParts_156 (lv_at hl 8 rfl) ?_
        replace h := xb h
        obtain ⟨v6, ev6, h⟩ := h
        refine q_iald X Y ev6 dX11_checkParts_158 ?_
        refine lv_iconst (v := 1) hx hb dX11_checkParts_159 (by decide) ?_
        refine lv_icmp_ne (tgt := 167) hx hb dX11_checkParts_160 (by decide) (fun c7 => ?_) (fun c7 => ?_)
        · replace h := Eq.trans (if_neg c7).symm h
          refine W.widen (k := 0) (n := 0) (Nat.le_of_ble_eq_true rfl) (Nat.le_of_ble_eq_true rfl) ?_
          exact w_X11_checkParts_167 X hr hlocks hin rs k129 hk129  f a0 a1 a2 a3 a4 a5 a8 a9 _ _ _ h Y (lv_sub hl [0, 1, 2, 3, 4, 5, 7, 8] rfl)
        · replace h := Eq.trans (if_pos c7).symm h
          refine lv_iconst (v := 1) hx hb dX11_checkParts_163 (by decide) ?_
          refine lv_goto (tgt := 168) hx hb dX11_checkParts_164 (by decide) ?_
          refine W.widen (k := 0) (n := 0) (Nat.le_of_ble_eq_true rfl) (Nat.le_of_ble_eq_true rfl) ?_
          exact w_X11_checkParts_168 X hr hlocks hin rs k129 hk129  f a0 a1 a2 a3 a4 a5 a8 a9 (1 : Int32) _ _ _ h Y (lv_sub hl [0, 1, 2, 3, 4, 5, 7, 8] rfl)
set_option maxRecDepth 100000 in
set_option maxHeartbeats 4000000 in
theorem lw_X11_checkParts_129 {p : Program} {l : Launch} {e : Env} {s : State} {m : MethodId} {args : Array Value} {below : List Frame} {meth : Method} {c : Code} {G : xG} {z : Nat} (X : xC G p m c s args RX11 cX11_checkParts 12) (hr : meth.sig.returnType = (some .int)) (hlocks : meth.locks = false) (hin : meth.name = yX11_checkParts.name) (rs : Int32 × xHp)  : ∀ (n : Nat) (f : xHp) (a0 : Nat) (a1 : Int32) (a2 : Int32) (a3 : Int32) (a4 : Int32) (a5 : Int32) (a7 : Int32) (a8 : Int32) (a9 : Int32) (H : Heap) (locs : List Loc) (ls : Array Slot), L_X11_checkParts_129  n f a0 a1 a2 a3 a4 a5 a7 a8 a9 = some rs → xY G z f s H locs → lv_has ls 12 [(0, .ref a0), (1, .int a1), (2, .int a2), (3, .int a3), (4, .int a4), (5, .int a5), (7, .int a7), (8, .int a8), (9, .int a9)] → W p l e rm_X11_checkParts s m args below meth c H locs 0 0 (MQ below (xQ G (some (.int rs.1)) z rs.2) args s rm_X11_checkParts.cells rm_X11_checkParts.slots (xA G)) (F0 m 129 ls []) := by
  intro n
  induction n with
  | zero => intro f a0 a1 a2 a3 a4 a5 a7 a8 a9 H locs ls h Y hl; cases h
  | succ n ih => intro f a0 a1 a2 a3 a4 a5 a7 a8 a9 H locs ls h Y hl; exact w_X11_checkParts_129 X hr hlocks hin rs _ ih f a0 a1 a2 a3 a4 a5 a7 a8 a9 _ _ _ h Y hl
set_option maxRecDepth 100000 in
set_option maxHeartbeats 4000000 in
theorem w_X11_checkParts_56 {p : Program} {l : Launch} {e : Env} {s : State} {m : MethodId} {args : Array Value} {below : List Frame} {meth : Method} {c : Code} {G : xG} {z : Nat} (X : xC G p m c s args RX11 cX11_checkParts 12) (hr : meth.sig.returnType = (some .int)) (hlocks : meth.locks = false) (hin : meth.name = yX11_checkParts.name) (rs : Int32 × xHp) (k56 : xHp → Nat → Int32 → Int32 → Int32 → Int32 → Int32 → Int32 → Option (Int32 × xHp)) (hk56 : ∀ (f : xHp) (a0 : Nat) (a1 : Int32) (a2 : Int32) (a3 : Int32) (a4 : Int32) (a5 : Int32) (a6 : Int32) (H : Heap) (locs : List Loc) (ls : Array Slot), k56 f a0 a1 a2 a3 a4 a5 a6 = some rs → xY G z f s H locs → lv_has ls 12 [(0, .ref a0), (1, .int a1), (2, .int a2), (3, .int a3), (4, .int a4), (5, .int a5), (6, .int a6)] → W p l e rm_X11_checkParts s m args below meth c H locs 0 0 (MQ below (xQ G (some (.int rs.1)) z rs.2) args s rm_X11_checkParts.cells rm_X11_checkParts.slots (xA G)) (F0 m 56 ls [])) (f : xHp) (a0 : Nat) (a1 : Int32) (a2 : Int32) (a3 : Int32) (a4 : Int32) (a5 : Int32) (a6 : Int32) (H : Heap) (locs : List Loc) (ls : Array Slot) (h : F_X11_checkParts_56 k56 f a0 a1 a2 a3 a4 a5 a6 = some rs) (Y : xY G z f s H locs) (hl : lv_has ls 12 [(0, .ref a0), (1, .int a1), (2, .int a2), (3, .int a3), (4, .int a4), (5, .int a5), (6, .int a6)]) : W p l e rm_X11_checkParts s m args below meth c H locs 0 0 (MQ below (xQ G (some (.int rs.1)) z rs.2) args s rm_X11_checkParts.cells rm_X11_checkParts.slots (xA G)) (F0 m 56 ls []) := by
  have hx := X.1.1
  have hb := X.1.2.1
  unfold F_X11_checkParts_56 at h
  refine lv_iload hx hb dX11_checkParts_56 (lv_at hl 6 rfl) ?_
  refine lv_bipush (v := 41) hx hb dX11_checkParts_58 (by decide) ?_
  refine lv_icmp_ge (tgt := 83) hx hb dX11_checkParts_60 (by decide) (fun c1 => ?_) (fun c1 => ?_)
  · replace h := Eq.trans (if_pos c1).symm h
    refine lv_aload_n hx hb dX11_checkParts_83 rfl (lv_at hl 0 rfl) ?_
    refine lv_aload_n hx hb dX11_checkParts_84 rfl (lv_at hl 0 rfl) ?_
    replace h := xb h
    obtain ⟨v2, ev2, h⟩ := h
    refine q_getN X Y fl_X11_44 ev2 dX11_checkParts_85 ?_
    refine lv_iload_n hx hb dX11_checkParts_88 rfl (lv_at hl 1 rfl) ?_
    replace h := xb h
    obtain ⟨v3, ev3, h⟩ := h
    refine q_iald X Y ev3 dX11_checkParts_89 ?_
    replace h := xb h
    obtain ⟨f4, ef4, h⟩ := h
    refine q_put X Y fp_X11_162 rfl rfl ef4 dX11_checkParts_90 (fun H locs Y => ?_)
    refine lv_aload_n hx hb dX11_checkParts_93 rfl (lv_at hl 0 rfl) ?_
    refine lv_aload_n hx hb dX11_checkParts_94 rfl (lv_at hl 0 rfl) ?_
    replace h := xb h
    obtain ⟨v5, ev5, h⟩ := h
    refine q_getN X Y fl_X11_47 ev5 dX11_checkParts_95 ?_
    refine lv_iload_n hx hb dX11_checkParts_98 rfl (lv_at hl 1 rfl) ?_
    replace h := xb h
    obtain ⟨v6, ev6, h⟩ := h
    refine q_iald X Y ev6 dX11_checkParts_99 ?_
    by_cases c7 : hKd f4 a0 = some 10
    · replace h := Eq.trans (if_pos c7).symm h
      replace h := xb h
      obtain ⟨q8, eq8, h⟩ := h
      refine q_callV X Y hl.1 (rest := []) (As := [.int v6]) (c_X11_beginParts l G z f4 a0 v6 _ eq8) cd_X11_beginParts lv_X11_168_10 c7 ⟨(Nat.le_of_ble_eq_true rfl), (Nat.le_of_ble_eq_true rfl)⟩ ⟨(Nat.le_of_ble_eq_true rfl), (Nat.le_of_ble_eq_true rfl)⟩ rfl rfl (Nat.le_of_ble_eq_true rfl) dX11_checkParts_100 (fun H locs Y => ?_)
      refine W.eq (g2 := F0 m 103 ls []) rfl ?_
      refine lv_aload_n hx hb dX11_checkParts_103 rfl (lv_at hl 0 rfl) ?_
      refine lv_sipush (v := 500) hx hb dX11_checkParts_104 (by decide) ?_
      by_cases c9 : hKd q8 a0 = some 10
      · replace h := Eq.trans (if_pos c9).symm h
        replace h := xb h
        obtain ⟨q10, eq10, h⟩ := h
        refine q_callV X Y hl.1 (rest := []) (As := [.int (500 : Int32)]) (c_X11_cover l G z q8 a0 (500 : Int32) _ eq10) cd_X11_cover lv_X11_274_10 c9 ⟨(Nat.le_of_ble_eq_true rfl), (Nat.le_of_ble_eq_true rfl)⟩ ⟨(Nat.le_of_ble_eq_true rfl), (Nat.le_of_ble_eq_true rfl)⟩ rfl rfl (Nat.le_of_ble_eq_true rfl) dX11_checkParts_107 (fun H locs Y => ?_)
        refine W.eq (g2 := F0 m 110 ls [.int q10.1]) rfl ?_
        refine lv_istore (lv' := [(6, .int q10.1), (0, .ref a0), (1, .int a1), (2, .int a2), (3, .int a3), (4, .int a4), (5, .int a5)]) hx hb dX11_checkParts_110 hl (by decide) rfl (fun ls hl => ?_)
        refine lv_bipush (v := -9) hx hb dX11_checkParts_112 (by decide) ?_
        refine lv_istore (lv' := [(7, .int (-9 : Int32)), (6, .int q10.1), (0, .ref a0), (1, .int a1), (2, .int a2), (3, .int a3), (4, .int a4), (5, .int a5)]) hx hb dX11_checkParts_114 hl (by decide) rfl (fun ls hl => ?_)
        refine lv_aload_n hx hb dX11_checkParts_116 rfl (lv_at hl 2 rfl) ?_
        replace h := xb h
        obtain ⟨v11, ev11, h⟩ := h
        refine q_getN X Y fl_X11_50 ev11 dX11_checkParts_117 ?_
        refine lv_iload_n hx hb dX11_checkParts_120 rfl (lv_at hl 3 rfl) ?_
        replace h := xb h
        obtain ⟨v12, ev12, h⟩ := h
        refine q_iald X Y ev12 dX11_checkParts_121 ?_
        refine lv_iconst (v := 4) hx hb dX11_checkParts_122 (by decide) ?_
        refine lv_idiv hx hb dX11_checkParts_123 (by decide) ?_
        refine lv_istore (lv' := [(8, .int (v12 / (4 : Int32))), (7, .int (-9 : Int32)), (6, .int q10.1), (0, .ref a0), (1, .int a1), (2, .int a2), (3, .int a3), (4, .int a4), (5, .int a5)]) hx hb dX11_checkParts_124 hl (by decide) rfl (fun ls hl => ?_)
        refine lv_iconst (v := 0) hx hb dX11_checkParts_126 (by decide) ?_
        refine lv_istore (lv' := [(9, .int (0 : Int32)), (8, .int (v12 / (4 : Int32))), (7, .int (-9 : Int32)), (6, .int q10.1), (0, .ref a0), (1, .int a1), (2, .int a2), (3, .int a3), (4, .int a4), (5, .int a5)]) hx hb dX11_checkParts_127 hl (by decide) rfl (fun ls hl => ?_)
        refine W.widen (k := 0) (n := 0) (Nat.le_of_ble_eq_true rfl) (Nat.le_of_ble_eq_true rfl) ?_
        exact lw_X11_checkParts_129 X hr hlocks hin rs  xfuel q10.2 a0 a1 a2 a3 a4 a5 (-9 : Int32) (v12 / (4 : Int32)) (0 : Int32) _ _ _ h Y (lv_sub hl [4, 5, 6, 7, 8, 9, 2, 1, 0] rfl)
      replace h := Eq.trans (if_neg c9).symm h
      cases h
    replace h := Eq.trans (if_neg c7).symm h
    cases h
  · replace h := Eq.trans (if_neg c1).symm h
    refine lv_aload_n hx hb dX11_checkParts_63 rfl (lv_at hl 0 rfl) ?_
    replace h := xb h
    obtain ⟨v13, ev13, h⟩ := h
    refine q_getN X Y fl_X11_71 ev13 dX11_checkParts_64 ?_
    refine lv_iload hx hb dX11_checkParts_67 (lv_at hl 6 rfl) ?_
    refine lv_aload_n hx hb dX11_checkParts_69 rfl (lv_at hl 0 rfl) ?_
    replace h := xb h
    obtain ⟨v14, ev14, h⟩ := h
    refine q_getN X Y fl_X11_32 ev14 dX11_checkParts_70 ?_
    refine lv_iload hx hb dX11_checkParts_73 (lv_at hl 6 rfl) ?_
    replace h := xb h
    obtain ⟨v15, ev15, h⟩ := h
    refine q_iald X Y ev15 dX11_checkParts_75 ?_
    replace h := xb h
    obtain ⟨f16, ef16, h⟩ := h
    refine q_iast X Y ef16 dX11_checkParts_76 (fun H locs Y => ?_)
    refine lv_iinc (v := (a6 + 1)) (lv' := [(6, .int (a6 + 1)), (0, .ref a0), (1, .int a1), (2, .int a2), (3, .int a3), (4, .int a4), (5, .int a5)]) hx hb dX11_checkParts_77 hl (k := 6) rfl rfl (by decide) rfl (fun ls hl => ?_)
    refine lv_goto (tgt := 56) hx hb dX11_checkParts_80 (by decide) ?_
    refine W.widen (k := 0) (n := 0) (Nat.le_of_ble_eq_true rfl) (Nat.le_of_ble_eq_true rfl) ?_
    exact hk56 f16 a0 a1 a2 a3 a4 a5 (a6 + 1) _ _ _ h Y (lv_sub hl [1, 2, 3, 4, 5, 6, 0] rfl)
set_option maxRecDepth 100000 in
set_option maxHeartbeats 4000000 in
theorem lw_X11_checkParts_56 {p : Program} {l : Launch} {e : Env} {s : State} {m : MethodId} {args : Array Value} {below : List Frame} {meth : Method} {c : Code} {G : xG} {z : Nat} (X : xC G p m c s args RX11 cX11_checkParts 12) (hr : meth.sig.returnType = (some .int)) (hlocks : meth.locks = false) (hin : meth.name = yX11_checkParts.name) (rs : Int32 × xHp)  : ∀ (n : Nat) (f : xHp) (a0 : Nat) (a1 : Int32) (a2 : Int32) (a3 : Int32) (a4 : Int32) (a5 : Int32) (a6 : Int32) (H : Heap) (locs : List Loc) (ls : Array Slot), L_X11_checkParts_56  n f a0 a1 a2 a3 a4 a5 a6 = some rs → xY G z f s H locs → lv_has ls 12 [(0, .ref a0), (1, .int a1), (2, .int a2), (3, .int a3), (4, .int a4), (5, .int a5), (6, .int a6)] → W p l e rm_X11_checkParts s m args below meth c H locs 0 0 (MQ below (xQ G (some (.int rs.1)) z rs.2) args s rm_X11_checkParts.cells rm_X11_checkParts.slots (xA G)) (F0 m 56 ls []) := by
  intro n
  induction n with
  | zero => intro f a0 a1 a2 a3 a4 a5 a6 H locs ls h Y hl; cases h
  | succ n ih => intro f a0 a1 a2 a3 a4 a5 a6 H locs ls h Y hl; exact w_X11_checkParts_56 X hr hlocks hin rs _ ih f a0 a1 a2 a3 a4 a5 a6 _ _ _ h Y hl
set_option maxRecDepth 100000 in
set_option maxHeartbeats 4000000 in
theorem w_X11_checkParts_25 {p : Program} {l : Launch} {e : Env} {s : State} {m : MethodId} {args : Array Value} {below : List Frame} {meth : Method} {c : Code} {G : xG} {z : Nat} (X : xC G p m c s args RX11 cX11_checkParts 12) (hr : meth.sig.returnType = (some .int)) (hlocks : meth.locks = false) (hin : meth.name = yX11_checkParts.name) (rs : Int32 × xHp) (k25 : xHp → Nat → Int32 → Int32 → Int32 → Int32 → Int32 → Int32 → Option (Int32 × xHp)) (hk25 : ∀ (f : xHp) (a0 : Nat) (a1 : Int32) (a2 : Int32) (a3 : Int32) (a4 : Int32) (a5 : Int32) (a6 : Int32) (H : Heap) (locs : List Loc) (ls : Array Slot), k25 f a0 a1 a2 a3 a4 a5 a6 = some rs → xY G z f s H locs → lv_has ls 12 [(0, .ref a0), (1, .int a1), (2, .int a2), (3, .int a3), (4, .int a4), (5, .int a5), (6, .int a6)] → W p l e rm_X11_checkParts s m args below meth c H locs 0 0 (MQ below (xQ G (some (.int rs.1)) z rs.2) args s rm_X11_checkParts.cells rm_X11_checkParts.slots (xA G)) (F0 m 25 ls [])) (f : xHp) (a0 : Nat) (a1 : Int32) (a2 : Int32) (a3 : Int32) (a4 : Int32) (a5 : Int32) (a6 : Int32) (H : Heap) (locs : List Loc) (ls : Array Slot) (h : F_X11_checkParts_25 k25 f a0 a1 a2 a3 a4 a5 a6 = some rs) (Y : xY G z f s H locs) (hl : lv_has ls 12 [(0, .ref a0), (1, .int a1), (2, .int a2), (3, .int a3), (4, .int a4), (5, .int a5), (6, .int a6)]) : W p l e rm_X11_checkParts s m args below meth c H locs 0 0 (MQ below (xQ G (some (.int rs.1)) z rs.2) args s rm_X11_checkParts.cells rm_X11_checkParts.slots (xA G)) (F0 m 25 ls []) := by
  have hx := X.1.1
  have hb := X.1.2.1
  unfold F_X11_checkParts_25 at h
  refine lv_iload hx hb dX11_checkParts_25 (lv_at hl 6 rfl) ?_
  refine lv_sipush (v := 164) hx hb dX11_checkParts_27 (by decide) ?_
  refine lv_icmp_ge (tgt := 53) hx hb dX11_checkParts_30 (by decide) (fun c1 => ?_) (fun c1 => ?_)
  · replace h := Eq.trans (if_pos c1).symm h
    refine lv_iconst (v := 0) hx hb dX11_checkParts_53 (by decide) ?_
    refine lv_istore (lv' := [(6, .int (0 : Int32)), (0, .ref a0), (1, .int a1), (2, .int a2), (3, .int a3), (4, .int a4), (5, .int a5)]) hx hb dX11_checkParts_54 hl (by decide) rfl (fun ls hl => ?_)
    refine W.widen (k := 0) (n := 0) (Nat.le_of_ble_eq_true rfl) (Nat.le_of_ble_eq_true rfl) ?_
    exact lw_X11_checkParts_56 X hr hlocks hin rs  xfuel f a0 a1 a2 a3 a4 a5 (0 : Int32) _ _ _ h Y (lv_sub hl [1, 2, 3, 4, 5, 6, 0] rfl)
  · replace h := Eq.trans (if_neg c1).symm h
    refine lv_aload_n hx hb dX11_checkParts_33 rfl (lv_at hl 0 rfl) ?_
    replace h := xb h
    obtain ⟨v2, ev2, h⟩ := h
    refine q_getN X Y fl_X11_68 ev2 dX11_checkParts_34 ?_
    refine lv_iload hx hb dX11_checkParts_37 (lv_at hl 6 rfl) ?_
    refine lv_aload_n hx hb dX11_checkParts_39 rfl (lv_at hl 0 rfl) ?_
    replace h := xb h
    obtain ⟨v3, ev3, h⟩ := h
    refine q_getN X Y fl_X11_29 ev3 dX11_checkParts_40 ?_
    refine lv_iload hx hb dX11_checkParts_43 (lv_at hl 6 rfl) ?_
    replace h := xb h
    obtain ⟨v4, ev4, h⟩ := h
    refine q_iald X Y ev4 dX11_checkParts_45 ?_
    replace h := xb h
    obtain ⟨f5, ef5, h⟩ := h
    refine q_iast X Y ef5 dX11_checkParts_46 (fun H locs Y => ?_)
    refine lv_iinc (v := (a6 + 1)) (lv' := [(6, .int (a6 + 1)), (0, .ref a0), (1, .int a1), (2, .int a2), (3, .int a3), (4, .int a4), (5, .int a5)]) hx hb dX11_checkParts_47 hl (k := 6) rfl rfl (by decide) rfl (fun ls hl => ?_)
    refine lv_goto (tgt := 25) hx hb dX11_checkParts_50 (by decide) ?_
    refine W.widen (k := 0) (n := 0) (Nat.le_of_ble_eq_true rfl) (Nat.le_of_ble_eq_true rfl) ?_
    exact hk25 f5 a0 a1 a2 a3 a4 a5 (a6 + 1) _ _ _ h Y (lv_sub hl [1, 2, 3, 4, 5, 6, 0] rfl)
set_option maxRecDepth 100000 in
set_option maxHeartbeats 4000000 in
theorem lw_X11_checkParts_25 {p : Program} {l : Launch} {e : Env} {s : State} {m : MethodId} {args : Array Value} {below : List Frame} {meth : Method} {c : Code} {G : xG} {z : Nat} (X : xC G p m c s args RX11 cX11_checkParts 12) (hr : meth.sig.returnType = (some .int)) (hlocks : meth.locks = false) (hin : meth.name = yX11_checkParts.name) (rs : Int32 × xHp)  : ∀ (n : Nat) (f : xHp) (a0 : Nat) (a1 : Int32) (a2 : Int32) (a3 : Int32) (a4 : Int32) (a5 : Int32) (a6 : Int32) (H : Heap) (locs : List Loc) (ls : Array Slot), L_X11_checkParts_25  n f a0 a1 a2 a3 a4 a5 a6 = some rs → xY G z f s H locs → lv_has ls 12 [(0, .ref a0), (1, .int a1), (2, .int a2), (3, .int a3), (4, .int a4), (5, .int a5), (6, .int a6)] → W p l e rm_X11_checkParts s m args below meth c H locs 0 0 (MQ below (xQ G (some (.int rs.1)) z rs.2) args s rm_X11_checkParts.cells rm_X11_checkParts.slots (xA G)) (F0 m 25 ls []) := by
  intro n
  induction n with
  | zero => intro f a0 a1 a2 a3 a4 a5 a6 H locs ls h Y hl; cases h
  | succ n ih => intro f a0 a1 a2 a3 a4 a5 a6 H locs ls h Y hl; exact w_X11_checkParts_25 X hr hlocks hin rs _ ih f a0 a1 a2 a3 a4 a5 a6 _ _ _ h Y hl
set_option maxRecDepth 100000 in
set_option maxHeartbeats 4000000 in
theorem c_X11_checkParts (l : Launch) (G : xG) (z : Nat) (f : xHp) (h0 : Nat) (p1 : Int32) (rs : Int32 × xHp) (h : F_X11_checkParts f h0 p1 = some rs) : xM G l yX11_checkParts cX11_checkParts 12 (some .int) rm_X11_checkParts [.ref h0, .int p1] z f (some (.int rs.1)) z rs.2 := by
  refine xM_of (by decide) (Nat.le_of_ble_eq_true rfl) ?_
  intro p e s m below meth c ls X hr hlocks hin Y hl
  have hl : lv_has ls 12 [(0, .ref h0), (1, .int p1)] := hl
  have hx := X.1.1
  have hb := X.1.2.1
  unfold F_X11_checkParts at h
  refine lv_aload_n hx hb dX11_checkParts_0 rfl (lv_at hl 0 rfl) ?_
  replace h := xb h
  obtain ⟨v1, ev1, h⟩ := h
  refine q_getI X Y fl_X11_159 ev1 dX11_checkParts_1 ?_
  refine lv_istore_n (lv' := [(2, .int v1), (0, .ref h0), (1, .int p1)]) hx hb dX11_checkParts_4 rfl hl (by decide) rfl (fun ls hl => ?_)
  refine lv_aload_n hx hb dX11_checkParts_5 rfl (lv_at hl 1 rfl) ?_
  replace h := xb h
  obtain ⟨v2, ev2, h⟩ := h
  refine q_getI X Y fl_X11_162 ev2 dX11_checkParts_6 ?_
  refine lv_istore_n (lv' := [(3, .int v2), (2, .int v1), (0, .ref h0), (1, .int p1)]) hx hb dX11_checkParts_9 rfl hl (by decide) rfl (fun ls hl => ?_)
  refine lv_aload_n hx hb dX11_checkParts_10 rfl (lv_at hl 2 rfl) ?_
  replace h := xb h
  obtain ⟨v3, ev3, h⟩ := h
  refine q_getI X Y fl_X11_175 ev3 dX11_checkParts_11 ?_
  refine lv_istore (lv' := [(4, .int v3), (3, .int v2), (2, .int v1), (0, .ref h0), (1, .int p1)]) hx hb dX11_checkParts_14 hl (by decide) rfl (fun ls hl => ?_)
  refine lv_aload_n hx hb dX11_checkParts_16 rfl (lv_at hl 3 rfl) ?_
  replace h := xb h
  obtain ⟨v4, ev4, h⟩ := h
  refine q_getI X Y fl_X11_178 ev4 dX11_checkParts_17 ?_
  refine lv_istore (lv' := [(5, .int v4), (4, .int v3), (3, .int v2), (2, .int v1), (0, .ref h0), (1, .int p1)]) hx hb dX11_checkParts_20 hl (by decide) rfl (fun ls hl => ?_)
  refine lv_iconst (v := 0) hx hb dX11_checkParts_22 (by decide) ?_
  refine lv_istore (lv' := [(6, .int (0 : Int32)), (5, .int v4), (4, .int v3), (3, .int v2), (2, .int v1), (0, .ref h0), (1, .int p1)]) hx hb dX11_checkParts_23 hl (by decide) rfl (fun ls hl => ?_)
  refine W.widen (k := 0) (n := 0) (Nat.le_of_ble_eq_true rfl) (Nat.le_of_ble_eq_true rfl) ?_
  exact lw_X11_checkParts_25 X hr hlocks hin rs  xfuel f h0 p1 v1 v2 v3 v4 (0 : Int32) _ _ _ h Y (lv_sub hl [5, 6, 4, 3, 2, 1, 0] rfl)
/-! NeverBelowModel.addProduct(Z)V -/
abbrev rm_X11_addProduct : Room := { frames := 0, cells := 0, slots := 0, locals := 0 }
def F_X11_addProduct_50 (k5 : xHp → Nat → Int32 → Int64 → Int32 → Option (xHp)) (f : xHp) (a0 : Nat) (a1 : Int32) (a4 : Int32) (s0 : Int64) (s1 : Int64) : Option (xHp) := Option.bind (hN f a0 [(10, 29)]) fun v1 => Option.bind (hJst f v1 a4 ((s1 + s0) &&& (4294967295 : Int64))) fun f2 => k5 f2 a0 a1 ((s1 + s0) >>> ((32 : Int32).toInt64 &&& 63)) (a4 + 1)
def F_X11_addProduct_5 (k5 : xHp → Nat → Int32 → Int64 → Int32 → Option (xHp)) (f : xHp) (a0 : Nat) (a1 : Int32) (a2 : Int64) (a4 : Int32) : Option (xHp) := if (24 : Int32) ≤ a4 then (some f) else (if a1 = 0 then (Option.bind (hN f a0 [(10, 29)]) fun v3 => Option.bind (hJld f v3 a4) fun v4 => Option.bind (hN f a0 [(10, 26)]) fun v5 => Option.bind (hJld f v5 a4) fun v6 => F_X11_addProduct_50 k5 f a0 a1 a4 (v4 + v6) a2) else (Option.bind (hN f a0 [(10, 29)]) fun v7 => Option.bind (hJld f v7 a4) fun v8 => Option.bind (hN f a0 [(10, 26)]) fun v9 => Option.bind (hJld f v9 a4) fun v10 => F_X11_addProduct_50 k5 f a0 a1 a4 (v8 - v10) a2))
def L_X11_addProduct_5  : Nat → xHp → Nat → Int32 → Int64 → Int32 → Option (xHp)
  | 0, _, _, _, _, _ => none
  | n + 1, f, a0, a1, a2, a4 => F_X11_addProduct_5 (L_X11_addProduct_5  n) f a0 a1 a2 a4
def F_X11_addProduct (f : xHp) (h0 : Nat) (p1 : Int32) : Option (xHp) := L_X11_addProduct_5 xfuel f h0 p1 (0 : Int64) (0 : Int32)
set_option maxRecDepth 100000 in
set_option maxHeartbeats 4000000 in
theorem w_X11_addProduct_50 {p : Program} {l : Launch} {e : Env} {s : State} {m : MethodId} {args : Array Value} {below : List Frame} {meth : Method} {c : Code} {G : xG} {z : Nat} (X : xC G p m c s args RX11 cX11_addProduct 5) (hr : meth.sig.returnType = none) (hlocks : meth.locks = false) (hin : meth.name = yX11_addProduct.name) (rs : xHp) (k5 : xHp → Nat → Int32 → Int64 → Int32 → Option (xHp)) (hk5 : ∀ (f : xHp) (a0 : Nat) (a1 : Int32) (a2 : Int64) (a4 : Int32) (H : Heap) (locs : List Loc) (ls : Array Slot), k5 f a0 a1 a2 a4 = some rs → xY G z f s H locs → lv_has ls 5 [(0, .ref a0), (1, .int a1), (2, .long a2), (4, .int a4)] → W p l e rm_X11_addProduct s m args below meth c H locs 0 0 (MQ below (xQ G none z rs) args s rm_X11_addProduct.cells rm_X11_addProduct.slots (xA G)) (F0 m 5 ls [])) (f : xHp) (a0 : Nat) (a1 : Int32) (a4 : Int32) (s0 : Int64) (s1 : Int64) (H : Heap) (locs : List Loc) (ls : Array Slot) (h : F_X11_addProduct_50 k5 f a0 a1 a4 s0 s1 = some rs) (Y : xY G z f s H locs) (hl : lv_has ls 5 [(0, .ref a0), (1, .int a1), (4, .int a4)]) : W p l e rm_X11_addProduct s m args below meth c H locs 0 0 (MQ below (xQ G none z rs) args s rm_X11_addProduct.cells rm_X11_addProduct.slots (xA G)) (F0 m 50 ls [.long s0, .long s1]) := by
  have hx := X.1.1
  have hb := X.1.2.1
  unfold F_X11_addProduct_50 at h
  refine lv_ladd hx hb dX11_addProduct_50 ?_
  refine lv_lstore_n (lv' := [(2, .long (s1 + s0)), (0, .ref a0), (1, .int a1), (4, .int a4)]) hx hb dX11_addProduct_51 rfl hl (by decide) rfl (fun ls hl => ?_)
  refine lv_aload_n hx hb dX11_addProduct_52 rfl (lv_at hl 1 rfl) ?_
  replace h := xb h
  obtain ⟨v1, ev1, h⟩ := h
  refine q_getN X Y fl_X11_65 ev1 dX11_addProduct_53 ?_
  refine lv_iload hx hb dX11_addProduct_56 (lv_at hl 3 rfl) ?_
  refine lv_lload_n hx hb dX11_addProduct_58 rfl (lv_at hl 0 rfl) ?_
  refine lv_ldc2 (v := 4294967295) hx hb X.1.2.2.2.1 (X.1.2.2.2.2 _ xw_1194) dX11_addProduct_59 ?_
  refine lv_land hx hb dX11_addProduct_62 ?_
  replace h := xb h
  obtain ⟨f2, ef2, h⟩ := h
  refine q_last X Y ef2 dX11_addProduct_63 (fun H locs Y => ?_)
  refine lv_lload_n hx hb dX11_addProduct_64 rfl (lv_at hl 0 rfl) ?_
  refine lv_bipush (v := 32) hx hb dX11_addProduct_65 (by decide) ?_
  refine lv_lshr hx hb dX11_addProduct_67 rfl ?_
  refine lv_lstore_n (lv' := [(2, .long ((s1 + s0) >>> ((32 : Int32).toInt64 &&& 63))), (0, .ref a0), (1, .int a1), (4, .int a4)]) hx hb dX11_addProduct_68 rfl hl (by decide) rfl (fun ls hl => ?_)
  refine lv_iinc (v := (a4 + 1)) (lv' := [(4, .int (a4 + 1)), (2, .long ((s1 + s0) >>> ((32 : Int32).toInt64 &&& 63))), (0, .ref a0), (1, .int a1)]) hx hb dX11_addProduct_69 hl (k := 3) rfl rfl (by decide) rfl (fun ls hl => ?_)
  refine lv_goto (tgt := 5) hx hb dX11_addProduct_72 (by decide) ?_
  refine W.widen (k := 0) (n := 0) (Nat.le_of_ble_eq_true rfl) (Nat.le_of_ble_eq_true rfl) ?_
  exact hk5 f2 a0 a1 ((s1 + s0) >>> ((32 : Int32).toInt64 &&& 63)) (a4 + 1) _ _ _ h Y (lv_sub hl [2, 3, 1, 0] rfl)
set_option maxRecDepth 100000 in
set_option maxHeartbeats 4000000 in
theorem w_X11_addProduct_5 {p : Program} {l : Launch} {e : Env} {s : State} {m : MethodId} {args : Array Value} {below : List Frame} {meth : Method} {c : Code} {G : xG} {z : Nat} (X : xC G p m c s args RX11 cX11_addProduct 5) (hr : meth.sig.returnType = none) (hlocks : meth.locks = false) (hin : meth.name = yX11_addProduct.name) (rs : xHp) (k5 : xHp → Nat → Int32 → Int64 → Int32 → Option (xHp)) (hk5 : ∀ (f : xHp) (a0 : Nat) (a1 : Int32) (a2 : Int64) (a4 : Int32) (H : Heap) (locs : List Loc) (ls : Array Slot), k5 f a0 a1 a2 a4 = some rs → xY G z f s H locs → lv_has ls 5 [(0, .ref a0), (1, .int a1), (2, .long a2), (4, .int a4)] → W p l e rm_X11_addProduct s m args below meth c H locs 0 0 (MQ below (xQ G none z rs) args s rm_X11_addProduct.cells rm_X11_addProduct.slots (xA G)) (F0 m 5 ls [])) (f : xHp) (a0 : Nat) (a1 : Int32) (a2 : Int64) (a4 : Int32) (H : Heap) (locs : List Loc) (ls : Array Slot) (h : F_X11_addProduct_5 k5 f a0 a1 a2 a4 = some rs) (Y : xY G z f s H locs) (hl : lv_has ls 5 [(0, .ref a0), (1, .int a1), (2, .long a2), (4, .int a4)]) : W p l e rm_X11_addProduct s m args below meth c H locs 0 0 (MQ below (xQ G none z rs) args s rm_X11_addProduct.cells rm_X11_addProduct.slots (xA G)) (F0 m 5 ls []) := by
  have hx := X.1.1
  have hb := X.1.2.1
  unfold F_X11_addProduct_5 at h
  refine lv_iload hx hb dX11_addProduct_5 (lv_at hl 3 rfl) ?_
  refine lv_bipush (v := 24) hx hb dX11_addProduct_7 (by decide) ?_
  refine lv_icmp_ge (tgt := 75) hx hb dX11_addProduct_9 (by decide) (fun c1 => ?_) (fun c1 => ?_)
  · replace h := Eq.trans (if_pos c1).symm h
    replace h := Option.some.inj h
    subst h
    exact q_retv X Y hr hlocks (Nat.le_of_ble_eq_true rfl) (Nat.le_of_ble_eq_true rfl) dX11_addProduct_75
  · replace h := Eq.trans (if_neg c1).symm h
    refine lv_lload_n hx hb dX11_addProduct_12 rfl (lv_at hl 2 rfl) ?_
    refine lv_iload_n hx hb dX11_addProduct_13 rfl (lv_at hl 1 rfl) ?_
    refine lv_if_eq (tgt := 35) hx hb dX11_addProduct_14 (by decide) (fun c2 => ?_) (fun c2 => ?_)
    · replace h := Eq.trans (if_pos c2).symm h
      refine lv_aload_n hx hb dX11_addProduct_35 rfl (lv_at hl 0 rfl) ?_
      replace h := xb h
      obtain ⟨v3, ev3, h⟩ := h
      refine q_getN X Y fl_X11_65 ev3 dX11_addProduct_36 ?_
      refine lv_iload hx hb dX11_addProduct_39 (lv_at hl 3 rfl) ?_
      replace h := xb h
      obtain ⟨v4, ev4, h⟩ := h
      refine q_lald X Y ev4 dX11_addProduct_41 ?_
      refine lv_aload_n hx hb dX11_addProduct_42 rfl (lv_at hl 0 rfl) ?_
      replace h := xb h
      obtain ⟨v5, ev5, h⟩ := h
      refine q_getN X Y fl_X11_56 ev5 dX11_addProduct_43 ?_
      refine lv_iload hx hb dX11_addProduct_46 (lv_at hl 3 rfl) ?_
      replace h := xb h
      obtain ⟨v6, ev6, h⟩ := h
      refine q_lald X Y ev6 dX11_addProduct_48 ?_
      refine lv_ladd hx hb dX11_addProduct_49 ?_
      refine W.widen (k := 0) (n := 0) (Nat.le_of_ble_eq_true rfl) (Nat.le_of_ble_eq_true rfl) ?_
      exact w_X11_addProduct_50 X hr hlocks hin rs k5 hk5  f a0 a1 a4 (v4 + v6) a2 _ _ _ h Y (lv_sub hl [0, 1, 3] rfl)
    · replace h := Eq.trans (if_neg c2).symm h
      refine lv_aload_n hx hb dX11_addProduct_17 rfl (lv_at hl 0 rfl) ?_
      replace h := xb h
      obtain ⟨v7, ev7, h⟩ := h
      refine q_getN X Y fl_X11_65 ev7 dX11_addProduct_18 ?_
      refine lv_iload hx hb dX11_addProduct_21 (lv_at hl 3 rfl) ?_
      replace h := xb h
      obtain ⟨v8, ev8, h⟩ := h
      refine q_lald X Y ev8 dX11_addProduct_23 ?_
      refine lv_aload_n hx hb dX11_addProduct_24 rfl (lv_at hl 0 rfl) ?_
      replace h := xb h
      obtain ⟨v9, ev9, h⟩ := h
      refine q_getN X Y fl_X11_56 ev9 dX11_addProduct_25 ?_
      refine lv_iload hx hb dX11_addProduct_28 (lv_at hl 3 rfl) ?_
      replace h := xb h
      obtain ⟨v10, ev10, h⟩ := h
      refine q_lald X Y ev10 dX11_addProduct_30 ?_
      refine lv_lsub hx hb dX11_addProduct_31 ?_
      refine lv_goto (tgt := 50) hx hb dX11_addProduct_32 (by decide) ?_
      refine W.widen (k := 0) (n := 0) (Nat.le_of_ble_eq_true rfl) (Nat.le_of_ble_eq_true rfl) ?_
      exact w_X11_addProduct_50 X hr hlocks hin rs k5 hk5  f a0 a1 a4 (v8 - v10) a2 _ _ _ h Y (lv_sub hl [0, 1, 3] rfl)
set_option maxRecDepth 100000 in
set_option maxHeartbeats 4000000 in
theorem lw_X11_addProduct_5 {p : Program} {l : Launch} {e : Env} {s : State} {m : MethodId} {args : Array Value} {below : List Frame} {meth : Method} {c : Code} {G : xG} {z : Nat} (X : xC G p m c s args RX11 cX11_addProduct 5) (hr : meth.sig.returnType = none) (hlocks : meth.locks = false) (hin : meth.name = yX11_addProduct.name) (rs : xHp)  : ∀ (n : Nat) (f : xHp) (a0 : Nat) (a1 : Int32) (a2 : Int64) (a4 : Int32) (H : Heap) (locs : List Loc) (ls : Array Slot), L_X11_addProduct_5  n f a0 a1 a2 a4 = some rs → xY G z f s H locs → lv_has ls 5 [(0, .ref a0), (1, .int a1), (2, .long a2), (4, .int a4)] → W p l e rm_X11_addProduct s m args below meth c H locs 0 0 (MQ below (xQ G none z rs) args s rm_X11_addProduct.cells rm_X11_addProduct.slots (xA G)) (F0 m 5 ls []) := by
  intro n
  induction n with
  | zero => intro f a0 a1 a2 a4 H locs ls h Y hl; cases h
  | succ n ih => intro f a0 a1 a2 a4 H locs ls h Y hl; exact w_X11_addProduct_5 X hr hlocks hin rs _ ih f a0 a1 a2 a4 _ _ _ h Y hl
set_option maxRecDepth 100000 in
set_option maxHeartbeats 4000000 in
theorem c_X11_addProduct (l : Launch) (G : xG) (z : Nat) (f : xHp) (h0 : Nat) (p1 : Int32) (rs : xHp) (h : F_X11_addProduct f h0 p1 = some rs) : xM G l yX11_addProduct cX11_addProduct 5 none rm_X11_addProduct [.ref h0, .int p1] z f none z rs := by
  refine xM_of (by decide) (Nat.le_of_ble_eq_true rfl) ?_
  intro p e s m below meth c ls X hr hlocks hin Y hl
  have hl : lv_has ls 5 [(0, .ref h0), (1, .int p1)] := hl
  have hx := X.1.1
  have hb := X.1.2.1
  unfold F_X11_addProduct at h
  refine lv_lconst (v := 0) hx hb dX11_addProduct_0 (by decide) ?_
  refine lv_lstore_n (lv' := [(2, .long (0 : Int64)), (0, .ref h0), (1, .int p1)]) hx hb dX11_addProduct_1 rfl hl (by decide) rfl (fun ls hl => ?_)
  refine lv_iconst (v := 0) hx hb dX11_addProduct_2 (by decide) ?_
  refine lv_istore (lv' := [(4, .int (0 : Int32)), (2, .long (0 : Int64)), (0, .ref h0), (1, .int p1)]) hx hb dX11_addProduct_3 hl (by decide) rfl (fun ls hl => ?_)
  refine W.widen (k := 0) (n := 0) (Nat.le_of_ble_eq_true rfl) (Nat.le_of_ble_eq_true rfl) ?_
  exact lw_X11_addProduct_5 X hr hlocks hin rs  xfuel f h0 p1 (0 : Int64) (0 : Int32) _ _ _ h Y (lv_sub hl [2, 3, 1, 0] rfl)
/-! NeverBelowModel.beginProduct(J)V -/
abbrev rm_X11_beginProduct : Room := { frames := 0, cells := 0, slots := 0, locals := 0 }
def F_X11_beginProduct_37 (k2 : xHp → Nat → Int64 → Int32 → Option (xHp)) (f : xHp) (a0 : Nat) (a1 : Int64) (a3 : Int32) (s0 : Int64) (s1 : Int32) (s2 : Nat) : Option (xHp) := Option.bind (hJst f s2 s1 (s0 &&& (4294967295 : Int64))) fun f1 => k2 f1 a0 a1 (a3 + 1)
def F_X11_beginProduct_2 (k2 : xHp → Nat → Int64 → Int32 → Option (xHp)) (f : xHp) (a0 : Nat) (a1 : Int64) (a3 : Int32) : Option (xHp) := if (24 : Int32) ≤ a3 then (some f) else (Option.bind (hN f a0 [(10, 26)]) fun v2 => if a3 = 0 then (F_X11_beginProduct_37 k2 f a0 a1 a3 a1 a3 v2) else (if a3 = (1 : Int32) then (F_X11_beginProduct_37 k2 f a0 a1 a3 (a1 >>> ((32 : Int32).toInt64 &&& 63)) a3 v2) else (F_X11_beginProduct_37 k2 f a0 a1 a3 (a1 >>> ((63 : Int32).toInt64 &&& 63)) a3 v2)))
def L_X11_beginProduct_2  : Nat → xHp → Nat → Int64 → Int32 → Option (xHp)
  | 0, _, _, _, _ => none
  | n + 1, f, a0, a1, a3 => F_X11_beginProduct_2 (L_X11_beginProduct_2  n) f a0 a1 a3
def F_X11_beginProduct (f : xHp) (h0 : Nat) (p1 : Int64) : Option (xHp) := L_X11_beginProduct_2 xfuel f h0 p1 (0 : Int32)
set_option maxRecDepth 100000 in
set_option maxHeartbeats 4000000 in
theorem w_X11_beginProduct_37 {p : Program} {l : Launch} {e : Env} {s : State} {m : MethodId} {args : Array Value} {below : List Frame} {meth : Method} {c : Code} {G : xG} {z : Nat} (X : xC G p m c s args RX11 cX11_beginProduct 4) (hr : meth.sig.returnType = none) (hlocks : meth.locks = false) (hin : meth.name = yX11_beginProduct.name) (rs : xHp) (k2 : xHp → Nat → Int64 → Int32 → Option (xHp)) (hk2 : ∀ (f : xHp) (a0 : Nat) (a1 : Int64) (a3 : Int32) (H : Heap) (locs : List Loc) (ls : Array Slot), k2 f a0 a1 a3 = some rs → xY G z f s H locs → lv_has ls 4 [(0, .ref a0), (1, .long a1), (3, .int a3)] → W p l e rm_X11_beginProduct s m args below meth c H locs 0 0 (MQ below (xQ G none z rs) args s rm_X11_beginProduct.cells rm_X11_beginProduct.slots (xA G)) (F0 m 2 ls [])) (f : xHp) (a0 : Nat) (a1 : Int64) (a3 : Int32) (s0 : Int64) (s1 : Int32) (s2 : Nat) (H : Heap) (locs : List Loc) (ls : Array Slot) (h : F_X11_beginProduct_37 k2 f a0 a1 a3 s0 s1 s2 = some rs) (Y : xY G z f s H locs) (hl : lv_has ls 4 [(0, .ref a0), (1, .long a1), (3, .int a3)]) : W p l e rm_X11_beginProduct s m args below meth c H locs 0 0 (MQ below (xQ G none z rs) args s rm_X11_beginProduct.cells rm_X11_beginProduct.slots (xA G)) (F0 m 37 ls [.long s0, .int s1, .ref s2]) := by
  have hx := X.1.1
  have hb := X.1.2.1
  unfold F_X11_beginProduct_37 at h
  refine lv_ldc2 (v := 4294967295) hx hb X.1.2.2.2.1 (X.1.2.2.2.2 _ xw_1194) dX11_beginProduct_37 ?_
  refine lv_land hx hb dX11_beginProduct_40 ?_
  replace h := xb h
  obtain ⟨f1, ef1, h⟩ := h
  refine q_last X Y ef1 dX11_beginProduct_41 (fun H locs Y => ?_)
  refine lv_iinc (v := (a3 + 1)) (lv' := [(3, .int (a3 + 1)), (0, .ref a0), (1, .long a1)]) hx hb dX11_beginProduct_42 hl (k := 2) rfl rfl (by decide) rfl (fun ls hl => ?_)
  refine lv_goto (tgt := 2) hx hb dX11_beginProduct_45 (by decide) ?_
  refine W.widen (k := 0) (n := 0) (Nat.le_of_ble_eq_true rfl) (Nat.le_of_ble_eq_true rfl) ?_
  exact hk2 f1 a0 a1 (a3 + 1) _ _ _ h Y (lv_sub hl [1, 2, 0] rfl)
set_option maxRecDepth 100000 in
set_option maxHeartbeats 4000000 in
theorem w_X11_beginProduct_2 {p : Program} {l : Launch} {e : Env} {s : State} {m : MethodId} {args : Array Value} {below : List Frame} {meth : Method} {c : Code} {G : xG} {z : Nat} (X : xC G p m c s args RX11 cX11_beginProduct 4) (hr : meth.sig.returnType = none) (hlocks : meth.locks = false) (hin : meth.name = yX11_beginProduct.name) (rs : xHp) (k2 : xHp → Nat → Int64 → Int32 → Option (xHp)) (hk2 : ∀ (f : xHp) (a0 : Nat) (a1 : Int64) (a3 : Int32) (H : Heap) (locs : List Loc) (ls : Array Slot), k2 f a0 a1 a3 = some rs → xY G z f s H locs → lv_has ls 4 [(0, .ref a0), (1, .long a1), (3, .int a3)] → W p l e rm_X11_beginProduct s m args below meth c H locs 0 0 (MQ below (xQ G none z rs) args s rm_X11_beginProduct.cells rm_X11_beginProduct.slots (xA G)) (F0 m 2 ls [])) (f : xHp) (a0 : Nat) (a1 : Int64) (a3 : Int32) (H : Heap) (locs : List Loc) (ls : Array Slot) (h : F_X11_beginProduct_2 k2 f a0 a1 a3 = some rs) (Y : xY G z f s H locs) (hl : lv_has ls 4 [(0, .ref a0), (1, .long a1), (3, .int a3)]) : W p l e rm_X11_beginProduct s m args below meth c H locs 0 0 (MQ below (xQ G none z rs) args s rm_X11_beginProduct.cells rm_X11_beginProduct.slots (xA G)) (F0 m 2 ls []) := by
  have hx := X.1.1
  have hb := X.1.2.1
  unfold F_X11_beginProduct_2 at h
  refine lv_iload_n hx hb dX11_beginProduct_2 rfl (lv_at hl 2 rfl) ?_
  refine lv_bipush (v := 24) hx hb dX11_beginProduct_3 (by decide) ?_
  refine lv_icmp_ge (tgt := 48) hx hb dX11_beginProduct_5 (by decide) (fun c1 => ?_) (fun c1 => ?_)
  · replace h := Eq.trans (if_pos c1).symm h
    replace h := Option.some.inj h
    subst h
    exact q_retv X Y hr hlocks (Nat.le_of_ble_eq_true rfl) (Nat.le_of_ble_eq_true rfl) dX11_beginProduct_48
  · replace h := Eq.trans (if_neg c1).symm h
    refine lv_aload_n hx hb dX11_beginProduct_8 rfl (lv_at hl 0 rfl) ?_
    replace h := xb h
    obtain ⟨v2, ev2, h⟩ := h
    refine q_getN X Y fl_X11_56 ev2 dX11_beginProduct_9 ?_
    refine lv_iload_n hx hb dX11_beginProduct_12 rfl (lv_at hl 2 rfl) ?_
    refine lv_iload_n hx hb dX11_beginProduct_13 rfl (lv_at hl 2 rfl) ?_
    refine lv_if_ne (tgt := 21) hx hb dX11_beginProduct_14 (by decide) (fun c3 => ?_) (fun c3 => ?_)
    · replace h := Eq.trans (if_neg c3).symm h
      refine lv_iload_n hx hb dX11_beginProduct_21 rfl (lv_at hl 2 rfl) ?_
      refine lv_iconst (v := 1) hx hb dX11_beginProduct_22 (by decide) ?_
      refine lv_icmp_ne (tgt := 33) hx hb dX11_beginProduct_23 (by decide) (fun c4 => ?_) (fun c4 => ?_)
      · replace h := Eq.trans (if_neg c4).symm h
        refine lv_lload_n hx hb dX11_beginProduct_33 rfl (lv_at hl 1 rfl) ?_
        refine lv_bipush (v := 63) hx hb dX11_beginProduct_34 (by decide) ?_
        refine lv_lshr hx hb dX11_beginProduct_36 rfl ?_
        refine W.widen (k := 0) (n := 0) (Nat.le_of_ble_eq_true rfl) (Nat.le_of_ble_eq_true rfl) ?_
        exact w_X11_beginProduct_37 X hr hlocks hin rs k2 hk2  f a0 a1 a3 (a1 >>> ((63 : Int32).toInt64 &&& 63)) a3 v2 _ _ _ h Y (lv_sub hl [0, 1, 2] rfl)
      · replace h := Eq.trans (if_pos c4).symm h
        refine lv_lload_n hx hb dX11_beginProduct_26 rfl (lv_at hl 1 rfl) ?_
        refine lv_bipush (v := 32) hx hb dX11_beginProduct_27 (by decide) ?_
        refine lv_lshr hx hb dX11_beginProduct_29 rfl ?_
        refine lv_goto (tgt := 37) hx hb dX11_beginProduct_30 (by decide) ?_
        refine W.widen (k := 0) (n := 0) (Nat.le_of_ble_eq_true rfl) (Nat.le_of_ble_eq_true rfl) ?_
        exact w_X11_beginProduct_37 X hr hlocks hin rs k2 hk2  f a0 a1 a3 (a1 >>> ((32 : Int32).toInt64 &&& 63)) a3 v2 _ _ _ h Y (lv_sub hl [0, 1, 2] rfl)
    · replace h := Eq.trans (if_pos c3).symm h
      refine lv_lload_n hx hb dX11_beginProduct_17 rfl (lv_at hl 1 rfl) ?_
      refine lv_goto (tgt := 37) hx hb dX11_beginProduct_18 (by decide) ?_
      refine W.widen (k := 0) (n := 0) (Nat.le_of_ble_eq_true rfl) (Nat.le_of_ble_eq_true rfl) ?_
      exact w_X11_beginProduct_37 X hr hlocks hin rs k2 hk2  f a0 a1 a3 a1 a3 v2 _ _ _ h Y (lv_sub hl [0, 1, 2] rfl)
set_option maxRecDepth 100000 in
set_option maxHeartbeats 4000000 in
theorem lw_X11_beginProduct_2 {p : Program} {l : Launch} {e : Env} {s : State} {m : MethodId} {args : Array Value} {below : List Frame} {meth : Method} {c : Code} {G : xG} {z : Nat} (X : xC G p m c s args RX11 cX11_beginProduct 4) (hr : meth.sig.returnType = none) (hlocks : meth.locks = false) (hin : meth.name = yX11_beginProduct.name) (rs : xHp)  : ∀ (n : Nat) (f : xHp) (a0 : Nat) (a1 : Int64) (a3 : Int32) (H : Heap) (locs : List Loc) (ls : Array Slot), L_X11_beginProduct_2  n f a0 a1 a3 = some rs → xY G z f s H locs → lv_has ls 4 [(0, .ref a0), (1, .long a1), (3, .int a3)] → W p l e rm_X11_beginProduct s m args below meth c H locs 0 0 (MQ below (xQ G none z rs) args s rm_X11_beginProduct.cells rm_X11_beginProduct.slots (xA G)) (F0 m 2 ls []) := by
  intro n
  induction n with
  | zero => intro f a0 a1 a3 H locs ls h Y hl; cases h
  | succ n ih => intro f a0 a1 a3 H locs ls h Y hl; exact w_X11_beginProduct_2 X hr hlocks hin rs _ ih f a0 a1 a3 _ _ _ h Y hl
set_option maxRecDepth 100000 in
set_option maxHeartbeats 4000000 in
theorem c_X11_beginProduct (l : Launch) (G : xG) (z : Nat) (f : xHp) (h0 : Nat) (p1 : Int64) (rs : xHp) (h : F_X11_beginProduct f h0 p1 = some rs) : xM G l yX11_beginProduct cX11_beginProduct 4 none rm_X11_beginProduct [.ref h0, .long p1] z f none z rs := by
  refine xM_of (by decide) (Nat.le_of_ble_eq_true rfl) ?_
  intro p e s m below meth c ls X hr hlocks hin Y hl
  have hl : lv_has ls 4 [(0, .ref h0), (1, .long p1)] := hl
  have hx := X.1.1
  have hb := X.1.2.1
  unfold F_X11_beginProduct at h
  refine lv_iconst (v := 0) hx hb dX11_beginProduct_0 (by decide) ?_
  refine lv_istore_n (lv' := [(3, .int (0 : Int32)), (0, .ref h0), (1, .long p1)]) hx hb dX11_beginProduct_1 rfl hl (by decide) rfl (fun ls hl => ?_)
  refine W.widen (k := 0) (n := 0) (Nat.le_of_ble_eq_true rfl) (Nat.le_of_ble_eq_true rfl) ?_
  exact lw_X11_beginProduct_2 X hr hlocks hin rs  xfuel f h0 p1 (0 : Int32) _ _ _ h Y (lv_sub hl [1, 2, 0] rfl)
/-! NeverBelowModel.firstOf(I)I -/
abbrev rm_X11_firstOf : Room := { frames := 0, cells := 0, slots := 0, locals := 0 }
def F_X11_firstOf_30 (f : xHp)    : Option (Int32) := some (1 : Int32)
def F_X11_firstOf_16 (f : xHp)    : Option (Int32) := some (0 : Int32)
def F_X11_firstOf (f : xHp) (p0 : Int32) : Option (Int32) := if p0 = (6 : Int32) then (F_X11_firstOf_16 f) else (if p0 = (4 : Int32) then (F_X11_firstOf_16 f) else (if p0 = (3 : Int32) then (F_X11_firstOf_16 f) else (if p0 = (2 : Int32) then (F_X11_firstOf_30 f) else (if p0 = (1 : Int32) then (F_X11_firstOf_30 f) else (some (2 : Int32))))))
set_option maxRecDepth 100000 in
set_option maxHeartbeats 4000000 in
theorem w_X11_firstOf_30 {p : Program} {l : Launch} {e : Env} {s : State} {m : MethodId} {args : Array Value} {below : List Frame} {meth : Method} {c : Code} {G : xG} {z : Nat} {f : xHp} (X : xC G p m c s args RX11 cX11_firstOf 1) (hr : meth.sig.returnType = (some .int)) (hlocks : meth.locks = false) (hin : meth.name = yX11_firstOf.name) (rs : Int32)   (H : Heap) (locs : List Loc) (ls : Array Slot) (h : F_X11_firstOf_30 f   = some rs) (Y : xY G z f s H locs) (hl : lv_has ls 1 []) : W p l e rm_X11_firstOf s m args below meth c H locs 0 0 (MQ below (xQ G (some (.int rs)) z f) args s rm_X11_firstOf.cells rm_X11_firstOf.slots (xA G)) (F0 m 30 ls []) := by
  have hx := X.1.1
  have hb := X.1.2.1
  unfold F_X11_firstOf_30 at h
  refine lv_iconst (v := 1) hx hb dX11_firstOf_30 (by decide) ?_
  refine lv_goto (tgt := 35) hx hb dX11_firstOf_31 (by decide) ?_
  replace h := Option.some.inj h
  subst h
  exact q_reti X Y hr hlocks (Nat.le_of_ble_eq_true rfl) (Nat.le_of_ble_eq_true rfl) dX11_firstOf_35
set_option maxRecDepth 100000 in
set_option maxHeartbeats 4000000 in
theorem w_X11_firstOf_16 {p : Program} {l : Launch} {e : Env} {s : State} {m : MethodId} {args : Array Value} {below : List Frame} {meth : Method} {c : Code} {G : xG} {z : Nat} {f : xHp} (X : xC G p m c s args RX11 cX11_firstOf 1) (hr : meth.sig.returnType = (some .int)) (hlocks : meth.locks = false) (hin : meth.name = yX11_firstOf.name) (rs : Int32)   (H : Heap) (locs : List Loc) (ls : Array Slot) (h : F_X11_firstOf_16 f   = some rs) (Y : xY G z f s H locs) (hl : lv_has ls 1 []) : W p l e rm_X11_firstOf s m args below meth c H locs 0 0 (MQ below (xQ G (some (.int rs)) z f) args s rm_X11_firstOf.cells rm_X11_firstOf.slots (xA G)) (F0 m 16 ls []) := by
  have hx := X.1.1
  have hb := X.1.2.1
  unfold F_X11_firstOf_16 at h
  refine lv_iconst (v := 0) hx hb dX11_firstOf_16 (by decide) ?_
  refine lv_goto (tgt := 35) hx hb dX11_firstOf_17 (by decide) ?_
  replace h := Option.some.inj h
  subst h
  exact q_reti X Y hr hlocks (Nat.le_of_ble_eq_true rfl) (Nat.le_of_ble_eq_true rfl) dX11_firstOf_35
set_option maxRecDepth 100000 in
set_option maxHeartbeats 4000000 in
theorem c_X11_firstOf (l : Launch) (G : xG) (z : Nat) (f : xHp) (p0 : Int32) (rs : Int32) (h : F_X11_firstOf f p0 = some rs) : xM G l yX11_firstOf cX11_firstOf 1 (some .int) rm_X11_firstOf [.int p0] z f (some (.int rs)) z f := by
  refine xM_of (by decide) (Nat.le_of_ble_eq_true rfl) ?_
  intro p e s m below meth c ls X hr hlocks hin Y hl
  have hl : lv_has ls 1 [(0, .int p0)] := hl
  have hx := X.1.1
  have hb := X.1.2.1
  unfold F_X11_firstOf at h
  refine lv_iload_n hx hb dX11_firstOf_0 rfl (lv_at hl 0 rfl) ?_
  refine lv_bipush (v := 6) hx hb dX11_firstOf_1 (by decide) ?_
  refine lv_icmp_eq (tgt := 16) hx hb dX11_firstOf_3 (by decide) (fun c1 => ?_) (fun c1 => ?_)
  · replace h := Eq.trans (if_pos c1).symm h
    refine W.widen (k := 0) (n := 0) (Nat.le_of_ble_eq_true rfl) (Nat.le_of_ble_eq_true rfl) ?_
    exact w_X11_firstOf_16 X hr hlocks hin rs    _ _ _ h Y (lv_sub hl [] rfl)
  · replace h := Eq.trans (if_neg c1).symm h
    refine lv_iload_n hx hb dX11_firstOf_6 rfl (lv_at hl 0 rfl) ?_
    refine lv_iconst (v := 4) hx hb dX11_firstOf_7 (by decide) ?_
    refine lv_icmp_eq (tgt := 16) hx hb dX11_firstOf_8 (by decide) (fun c2 => ?_) (fun c2 => ?_)
    · replace h := Eq.trans (if_pos c2).symm h
      refine W.widen (k := 0) (n := 0) (Nat.le_of_ble_eq_true rfl) (Nat.le_of_ble_eq_true rfl) ?_
      exact w_X11_firstOf_16 X hr hlocks hin rs    _ _ _ h Y (lv_sub hl [] rfl)
    · replace h := Eq.trans (if_neg c2).symm h
      refine lv_iload_n hx hb dX11_firstOf_11 rfl (lv_at hl 0 rfl) ?_
      refine lv_iconst (v := 3) hx hb dX11_firstOf_12 (by decide) ?_
      refine lv_icmp_ne (tgt := 20) hx hb dX11_firstOf_13 (by decide) (fun c3 => ?_) (fun c3 => ?_)
      · replace h := Eq.trans (if_neg c3).symm h
        refine lv_iload_n hx hb dX11_firstOf_20 rfl (lv_at hl 0 rfl) ?_
        refine lv_iconst (v := 2) hx hb dX11_firstOf_21 (by decide) ?_
        refine lv_icmp_eq (tgt := 30) hx hb dX11_firstOf_22 (by decide) (fun c4 => ?_) (fun c4 => ?_)
        · replace h := Eq.trans (if_pos c4).symm h
          refine W.widen (k := 0) (n := 0) (Nat.le_of_ble_eq_true rfl) (Nat.le_of_ble_eq_true rfl) ?_
          exact w_X11_firstOf_30 X hr hlocks hin rs    _ _ _ h Y (lv_sub hl [] rfl)
        · replace h := Eq.trans (if_neg c4).symm h
          refine lv_iload_n hx hb dX11_firstOf_25 rfl (lv_at hl 0 rfl) ?_
          refine lv_iconst (v := 1) hx hb dX11_firstOf_26 (by decide) ?_
          refine lv_icmp_ne (tgt := 34) hx hb dX11_firstOf_27 (by decide) (fun c5 => ?_) (fun c5 => ?_)
          · replace h := Eq.trans (if_neg c5).symm h
            refine lv_iconst (v := 2) hx hb dX11_firstOf_34 (by decide) ?_
            replace h := Option.some.inj h
            subst h
            exact q_reti X Y hr hlocks (Nat.le_of_ble_eq_true rfl) (Nat.le_of_ble_eq_true rfl) dX11_firstOf_35
          · replace h := Eq.trans (if_pos c5).symm h
            refine W.widen (k := 0) (n := 0) (Nat.le_of_ble_eq_true rfl) (Nat.le_of_ble_eq_true rfl) ?_
            exact w_X11_firstOf_30 X hr hlocks hin rs    _ _ _ h Y (lv_sub hl [] rfl)
      · replace h := Eq.trans (if_pos c3).symm h
        refine W.widen (k := 0) (n := 0) (Nat.le_of_ble_eq_true rfl) (Nat.le_of_ble_eq_true rfl) ?_
        exact w_X11_firstOf_16 X hr hlocks hin rs    _ _ _ h Y (lv_sub hl [] rfl)
/-! NeverBelowModel.isNought()Z -/
abbrev rm_X11_isNought : Room := { frames := 0, cells := 0, slots := 0, locals := 0 }
def F_X11_isNought_27 (f : xHp) (k4 : Nat → Int32 → Int32 → Option (Int32))  (a0 : Nat) (a2 : Int32) (s0 : Int32) (s1 : Int32) : Option (Int32) := k4 a0 (s1 &&& s0) (a2 + 1)
def F_X11_isNought_4 (f : xHp) (k4 : Nat → Int32 → Int32 → Option (Int32))  (a0 : Nat) (a1 : Int32) (a2 : Int32) : Option (Int32) := if (24 : Int32) ≤ a2 then (Option.bind (hZ a1) fun v2 => some v2) else (Option.bind (hN f a0 [(10, 29)]) fun v3 => Option.bind (hJld f v3 a2) fun v4 => if v4 = (0 : Int64) then (F_X11_isNought_27 f k4 a0 a2 (1 : Int32) a1) else (F_X11_isNought_27 f k4 a0 a2 (0 : Int32) a1))
def L_X11_isNought_4 (f : xHp)  : Nat → Nat → Int32 → Int32 → Option (Int32)
  | 0, _, _, _ => none
  | n + 1, a0, a1, a2 => F_X11_isNought_4 f (L_X11_isNought_4 f  n) a0 a1 a2
def F_X11_isNought (f : xHp) (h0 : Nat) : Option (Int32) := L_X11_isNought_4 f xfuel h0 (1 : Int32) (0 : Int32)
set_option maxRecDepth 100000 in
set_option maxHeartbeats 4000000 in
theorem w_X11_isNought_27 {p : Program} {l : Launch} {e : Env} {s : State} {m : MethodId} {args : Array Value} {below : List Frame} {meth : Method} {c : Code} {G : xG} {z : Nat} {f : xHp} (X : xC G p m c s args RX11 cX11_isNought 3) (hr : meth.sig.returnType = (some .boolean)) (hlocks : meth.locks = false) (hin : meth.name = yX11_isNought.name) (rs : Int32) (k4 : Nat → Int32 → Int32 → Option (Int32)) (hk4 : ∀ (a0 : Nat) (a1 : Int32) (a2 : Int32) (H : Heap) (locs : List Loc) (ls : Array Slot), k4 a0 a1 a2 = some rs → xY G z f s H locs → lv_has ls 3 [(0, .ref a0), (1, .int a1), (2, .int a2)] → W p l e rm_X11_isNought s m args below meth c H locs 0 0 (MQ below (xQ G (some (.int rs)) z f) args s rm_X11_isNought.cells rm_X11_isNought.slots (xA G)) (F0 m 4 ls [])) (a0 : Nat) (a2 : Int32) (s0 : Int32) (s1 : Int32) (H : Heap) (locs : List Loc) (ls : Array Slot) (h : F_X11_isNought_27 f k4 a0 a2 s0 s1 = some rs) (Y : xY G z f s H locs) (hl : lv_has ls 3 [(0, .ref a0), (2, .int a2)]) : W p l e rm_X11_isNought s m args below meth c H locs 0 0 (MQ below (xQ G (some (.int rs)) z f) args s rm_X11_isNought.cells rm_X11_isNought.slots (xA G)) (F0 m 27 ls [.int s0, .int s1]) := by
  have hx := X.1.1
  have hb := X.1.2.1
  unfold F_X11_isNought_27 at h
  refine lv_iand hx hb dX11_isNought_27 ?_
  refine lv_istore_n (lv' := [(1, .int (s1 &&& s0)), (0, .ref a0), (2, .int a2)]) hx hb dX11_isNought_28 rfl hl (by decide) rfl (fun ls hl => ?_)
  refine lv_iinc (v := (a2 + 1)) (lv' := [(2, .int (a2 + 1)), (1, .int (s1 &&& s0)), (0, .ref a0)]) hx hb dX11_isNought_29 hl (k := 2) rfl rfl (by decide) rfl (fun ls hl => ?_)
  refine lv_goto (tgt := 4) hx hb dX11_isNought_32 (by decide) ?_
  refine W.widen (k := 0) (n := 0) (Nat.le_of_ble_eq_true rfl) (Nat.le_of_ble_eq_true rfl) ?_
  exact hk4 a0 (s1 &&& s0) (a2 + 1) _ _ _ h Y (lv_sub hl [2, 1, 0] rfl)
set_option maxRecDepth 100000 in
set_option maxHeartbeats 4000000 in
theorem w_X11_isNought_4 {p : Program} {l : Launch} {e : Env} {s : State} {m : MethodId} {args : Array Value} {below : List Frame} {meth : Method} {c : Code} {G : xG} {z : Nat} {f : xHp} (X : xC G p m c s args RX11 cX11_isNought 3) (hr : meth.sig.returnType = (some .boolean)) (hlocks : meth.locks = false) (hin : meth.name = yX11_isNought.name) (rs : Int32) (k4 : Nat → Int32 → Int32 → Option (Int32)) (hk4 : ∀ (a0 : Nat) (a1 : Int32) (a2 : Int32) (H : Heap) (locs : List Loc) (ls : Array Slot), k4 a0 a1 a2 = some rs → xY G z f s H locs → lv_has ls 3 [(0, .ref a0), (1, .int a1), (2, .int a2)] → W p l e rm_X11_isNought s m args below meth c H locs 0 0 (MQ below (xQ G (some (.int rs)) z f) args s rm_X11_isNought.cells rm_X11_isNought.slots (xA G)) (F0 m 4 ls [])) (a0 : Nat) (a1 : Int32) (a2 : Int32) (H : Heap) (locs : List Loc) (ls : Array Slot) (h : F_X11_isNought_4 f k4 a0 a1 a2 = some rs) (Y : xY G z f s H locs) (hl : lv_has ls 3 [(0, .ref a0), (1, .int a1), (2, .int a2)]) : W p l e rm_X11_isNought s m args below meth c H locs 0 0 (MQ below (xQ G (some (.int rs)) z f) args s rm_X11_isNought.cells rm_X11_isNought.slots (xA G)) (F0 m 4 ls []) := by
  have hx := X.1.1
  have hb := X.1.2.1
  unfold F_X11_isNought_4 at h
  refine lv_iload_n hx hb dX11_isNought_4 rfl (lv_at hl 2 rfl) ?_
  refine lv_bipush (v := 24) hx hb dX11_isNought_5 (by decide) ?_
  refine lv_icmp_ge (tgt := 35) hx hb dX11_isNought_7 (by decide) (fun c1 => ?_) (fun c1 => ?_)
  · replace h := Eq.trans (if_pos c1).symm h
    refine lv_iload_n hx hb dX11_isNought_35 rfl (lv_at hl 1 rfl) ?_
    replace h := xb h
    obtain ⟨v2, ev2, h⟩ := h
    obtain ⟨ev2, kv2⟩ := hZ_of ev2
    rw [ev2] at h
    replace h := Option.some.inj h
    subst h
    exact q_retz (v := a1) X Y hr hlocks kv2 (Nat.le_of_ble_eq_true rfl) (Nat.le_of_ble_eq_true rfl) dX11_isNought_36
  · replace h := Eq.trans (if_neg c1).symm h
    refine lv_iload_n hx hb dX11_isNought_10 rfl (lv_at hl 1 rfl) ?_
    refine lv_aload_n hx hb dX11_isNought_11 rfl (lv_at hl 0 rfl) ?_
    replace h := xb h
    obtain ⟨v3, ev3, h⟩ := h
    refine q_getN X Y fl_X11_65 ev3 dX11_isNought_12 ?_
    refine lv_iload_n hx hb dX11_isNought_15 rfl (lv_at hl 2 rfl) ?_
    replace h := xb h
    obtain ⟨v4, ev4, h⟩ := h
    refine q_lald X Y ev4 dX11_isNought_16 ?_
    refine lv_lconst (v := 0) hx hb dX11_isNought_17 (by decide) ?_
    refine q_lcmp_ne (tgt := 26) hx hb dX11_isNought_18 dX11_isNought_19 (by decide) (fun c5 => ?_) (fun c5 => ?_)
    · replace h := Eq.trans (if_neg c5).symm h
      refine lv_iconst (v := 0) hx hb dX11_isNought_26 (by decide) ?_
      refine W.widen (k := 0) (n := 0) (Nat.le_of_ble_eq_true rfl) (Nat.le_of_ble_eq_true rfl) ?_
      exact w_X11_isNought_27 X hr hlocks hin rs k4 hk4  a0 a2 (0 : Int32) a1 _ _ _ h Y (lv_sub hl [0, 2] rfl)
    · replace h := Eq.trans (if_pos c5).symm h
      refine lv_iconst (v := 1) hx hb dX11_isNought_22 (by decide) ?_
      refine lv_goto (tgt := 27) hx hb dX11_isNought_23 (by decide) ?_
      refine W.widen (k := 0) (n := 0) (Nat.le_of_ble_eq_true rfl) (Nat.le_of_ble_eq_true rfl) ?_
      exact w_X11_isNought_27 X hr hlocks hin rs k4 hk4  a0 a2 (1 : Int32) a1 _ _ _ h Y (lv_sub hl [0, 2] rfl)
set_option maxRecDepth 100000 in
set_option maxHeartbeats 4000000 in
theorem lw_X11_isNought_4 {p : Program} {l : Launch} {e : Env} {s : State} {m : MethodId} {args : Array Value} {below : List Frame} {meth : Method} {c : Code} {G : xG} {z : Nat} {f : xHp} (X : xC G p m c s args RX11 cX11_isNought 3) (hr : meth.sig.returnType = (some .boolean)) (hlocks : meth.locks = false) (hin : meth.name = yX11_isNought.name) (rs : Int32)  : ∀ (n : Nat) (a0 : Nat) (a1 : Int32) (a2 : Int32) (H : Heap) (locs : List Loc) (ls : Array Slot), L_X11_isNought_4 f  n a0 a1 a2 = some rs → xY G z f s H locs → lv_has ls 3 [(0, .ref a0), (1, .int a1), (2, .int a2)] → W p l e rm_X11_isNought s m args below meth c H locs 0 0 (MQ below (xQ G (some (.int rs)) z f) args s rm_X11_isNought.cells rm_X11_isNought.slots (xA G)) (F0 m 4 ls []) := by
  intro n
  induction n with
  | zero => intro a0 a1 a2 H locs ls h Y hl; cases h
  | succ n ih => intro a0 a1 a2 H locs ls h Y hl; exact w_X11_isNought_4 X hr hlocks hin rs _ ih a0 a1 a2 _ _ _ h Y hl
set_option maxRecDepth 100000 in
set_option maxHeartbeats 4000000 in
theorem c_X11_isNought (l : Launch) (G : xG) (z : Nat) (f : xHp) (h0 : Nat) (rs : Int32) (h : F_X11_isNought f h0 = some rs) : xM G l yX11_isNought cX11_isNought 3 (some .boolean) rm_X11_isNought [.ref h0] z f (some (.int rs)) z f := by
  refine xM_of (by decide) (Nat.le_of_ble_eq_true rfl) ?_
  intro p e s m below meth c ls X hr hlocks hin Y hl
  have hl : lv_has ls 3 [(0, .ref h0)] := hl
  have hx := X.1.1
  have hb := X.1.2.1
  unfold F_X11_isNought at h
  refine lv_iconst (v := 1) hx hb dX11_isNought_0 (by decide) ?_
  refine lv_istore_n (lv' := [(1, .int (1 : Int32)), (0, .ref h0)]) hx hb dX11_isNought_1 rfl hl (by decide) rfl (fun ls hl => ?_)
  refine lv_iconst (v := 0) hx hb dX11_isNought_2 (by decide) ?_
  refine lv_istore_n (lv' := [(2, .int (0 : Int32)), (1, .int (1 : Int32)), (0, .ref h0)]) hx hb dX11_isNought_3 rfl hl (by decide) rfl (fun ls hl => ?_)
  refine W.widen (k := 0) (n := 0) (Nat.le_of_ble_eq_true rfl) (Nat.le_of_ble_eq_true rfl) ?_
  exact lw_X11_isNought_4 X hr hlocks hin rs  xfuel h0 (1 : Int32) (0 : Int32) _ _ _ h Y (lv_sub hl [2, 1, 0] rfl)
/-! NeverBelowModel.isOther(I)Z -/
abbrev rm_X11_isOther : Room := { frames := 0, cells := 0, slots := 0, locals := 0 }
def F_X11_isOther_17 (f : xHp)    : Option (Int32) := some (1 : Int32)
def F_X11_isOther (f : xHp) (p0 : Int32) : Option (Int32) := if p0 = (5 : Int32) then (F_X11_isOther_17 f) else (if p0 = (7 : Int32) then (F_X11_isOther_17 f) else (if p0 = (8 : Int32) then (F_X11_isOther_17 f) else (some (0 : Int32))))
set_option maxRecDepth 100000 in
set_option maxHeartbeats 4000000 in
theorem w_X11_isOther_17 {p : Program} {l : Launch} {e : Env} {s : State} {m : MethodId} {args : Array Value} {below : List Frame} {meth : Method} {c : Code} {G : xG} {z : Nat} {f : xHp} (X : xC G p m c s args RX11 cX11_isOther 1) (hr : meth.sig.returnType = (some .boolean)) (hlocks : meth.locks = false) (hin : meth.name = yX11_isOther.name) (rs : Int32)   (H : Heap) (locs : List Loc) (ls : Array Slot) (h : F_X11_isOther_17 f   = some rs) (Y : xY G z f s H locs) (hl : lv_has ls 1 []) : W p l e rm_X11_isOther s m args below meth c H locs 0 0 (MQ below (xQ G (some (.int rs)) z f) args s rm_X11_isOther.cells rm_X11_isOther.slots (xA G)) (F0 m 17 ls []) := by
  have hx := X.1.1
  have hb := X.1.2.1
  unfold F_X11_isOther_17 at h
  refine lv_iconst (v := 1) hx hb dX11_isOther_17 (by decide) ?_
  refine lv_goto (tgt := 22) hx hb dX11_isOther_18 (by decide) ?_
  replace h := Option.some.inj h
  subst h
  exact q_retz (v := (1 : Int32)) X Y hr hlocks rfl (Nat.le_of_ble_eq_true rfl) (Nat.le_of_ble_eq_true rfl) dX11_isOther_22
set_option maxRecDepth 100000 in
set_option maxHeartbeats 4000000 in
theorem c_X11_isOther (l : Launch) (G : xG) (z : Nat) (f : xHp) (p0 : Int32) (rs : Int32) (h : F_X11_isOther f p0 = some rs) : xM G l yX11_isOther cX11_isOther 1 (some .boolean) rm_X11_isOther [.int p0] z f (some (.int rs)) z f := by
  refine xM_of (by decide) (Nat.le_of_ble_eq_true rfl) ?_
  intro p e s m below meth c ls X hr hlocks hin Y hl
  have hl : lv_has ls 1 [(0, .int p0)] := hl
  have hx := X.1.1
  have hb := X.1.2.1
  unfold F_X11_isOther at h
  refine lv_iload_n hx hb dX11_isOther_0 rfl (lv_at hl 0 rfl) ?_
  refine lv_iconst (v := 5) hx hb dX11_isOther_1 (by decide) ?_
  refine lv_icmp_eq (tgt := 17) hx hb dX11_isOther_2 (by decide) (fun c1 => ?_) (fun c1 => ?_)
  · replace h := Eq.trans (if_pos c1).symm h
    refine W.widen (k := 0) (n := 0) (Nat.le_of_ble_eq_true rfl) (Nat.le_of_ble_eq_true rfl) ?_
    exact w_X11_isOther_17 X hr hlocks hin rs    _ _ _ h Y (lv_sub hl [] rfl)
  · replace h := Eq.trans (if_neg c1).symm h
    refine lv_iload_n hx hb dX11_isOther_5 rfl (lv_at hl 0 rfl) ?_
    refine lv_bipush (v := 7) hx hb dX11_isOther_6 (by decide) ?_
    refine lv_icmp_eq (tgt := 17) hx hb dX11_isOther_8 (by decide) (fun c2 => ?_) (fun c2 => ?_)
    · replace h := Eq.trans (if_pos c2).symm h
      refine W.widen (k := 0) (n := 0) (Nat.le_of_ble_eq_true rfl) (Nat.le_of_ble_eq_true rfl) ?_
      exact w_X11_isOther_17 X hr hlocks hin rs    _ _ _ h Y (lv_sub hl [] rfl)
    · replace h := Eq.trans (if_neg c2).symm h
      refine lv_iload_n hx hb dX11_isOther_11 rfl (lv_at hl 0 rfl) ?_
      refine lv_bipush (v := 8) hx hb dX11_isOther_12 (by decide) ?_
      refine lv_icmp_ne (tgt := 21) hx hb dX11_isOther_14 (by decide) (fun c3 => ?_) (fun c3 => ?_)
      · replace h := Eq.trans (if_neg c3).symm h
        refine lv_iconst (v := 0) hx hb dX11_isOther_21 (by decide) ?_
        replace h := Option.some.inj h
        subst h
        exact q_retz (v := (0 : Int32)) X Y hr hlocks rfl (Nat.le_of_ble_eq_true rfl) (Nat.le_of_ble_eq_true rfl) dX11_isOther_22
      · replace h := Eq.trans (if_pos c3).symm h
        refine W.widen (k := 0) (n := 0) (Nat.le_of_ble_eq_true rfl) (Nat.le_of_ble_eq_true rfl) ?_
        exact w_X11_isOther_17 X hr hlocks hin rs    _ _ _ h Y (lv_sub hl [] rfl)

/-! NeverBelow$CornersProof.firstWrong(LNeverBelow$Desk;)I -/
abbrev rm_X0_firstWrong : Room := { frames := 3, cells := 0, slots := 0, locals := 91 }
def F_X0_firstWrong_18 (k18 : xHp → Nat → Nat → Int32 → Option (Int32 × xHp)) (f : xHp) (a0 : Nat) (a1 : Nat) (a2 : Int32) : Option (Int32 × xHp) := if (9 : Int32) ≤ a2 then (some ((-1 : Int32), f)) else (Option.bind (hN f a0 [(0, 3), (3, 5)]) fun v2 => Option.bind (hJld f v2 a2) fun v3 => if v3 < (0 : Int64) then (some (a2, f)) else (Option.bind (hN f a0 [(0, 3), (3, 5)]) fun v5 => Option.bind (hJld f v5 a2) fun v6 => Option.bind (hN f a1 [(1, 0)]) fun v7 => Option.bind (hJld f v7 a2) fun v8 => if v6 = v8 then (k18 f a0 a1 (a2 + 1)) else (some (a2, f))))
def L_X0_firstWrong_18  : Nat → xHp → Nat → Nat → Int32 → Option (Int32 × xHp)
  | 0, _, _, _, _ => none
  | n + 1, f, a0, a1, a2 => F_X0_firstWrong_18 (L_X0_firstWrong_18  n) f a0 a1 a2
def F_X0_firstWrong (f : xHp) (h0 : Nat) (p1 : Nat) : Option (Int32 × xHp) := Option.bind (hN f h0 [(0, 1), (3, 3)]) fun v1 => Option.bind (hN f h0 [(0, 5), (3, 1)]) fun v2 => Option.bind (hN f p1 [(1, 0)]) fun v3 => if hKd f v1 = some 4 then (Option.bind (F_X4_cornersOn f v1 v2 (0 : Int32) v3) fun q5 => L_X0_firstWrong_18 xfuel q5 h0 p1 (0 : Int32)) else none
set_option maxRecDepth 100000 in
set_option maxHeartbeats 4000000 in
theorem w_X0_firstWrong_18 {p : Program} {l : Launch} {e : Env} {s : State} {m : MethodId} {args : Array Value} {below : List Frame} {meth : Method} {c : Code} {G : xG} {z : Nat} (X : xC G p m c s args RX0 cX0_firstWrong 3) (hr : meth.sig.returnType = (some .int)) (hlocks : meth.locks = false) (hin : meth.name = yX0_firstWrong.name) (rs : Int32 × xHp) (k18 : xHp → Nat → Nat → Int32 → Option (Int32 × xHp)) (hk18 : ∀ (f : xHp) (a0 : Nat) (a1 : Nat) (a2 : Int32) (H : Heap) (locs : List Loc) (ls : Array Slot), k18 f a0 a1 a2 = some rs → xY G z f s H locs → lv_has ls 3 [(0, .ref a0), (1, .ref a1), (2, .int a2)] → W p l e rm_X0_firstWrong s m args below meth c H locs 0 0 (MQ below (xQ G (some (.int rs.1)) z rs.2) args s rm_X0_firstWrong.cells rm_X0_firstWrong.slots (xA G)) (F0 m 18 ls [])) (f : xHp) (a0 : Nat) (a1 : Nat) (a2 : Int32) (H : Heap) (locs : List Loc) (ls : Array Slot) (h : F_X0_firstWrong_18 k18 f a0 a1 a2 = some rs) (Y : xY G z f s H locs) (hl : lv_has ls 3 [(0, .ref a0), (1, .ref a1), (2, .int a2)]) : W p l e rm_X0_firstWrong s m args below meth c H locs 0 0 (MQ below (xQ G (some (.int rs.1)) z rs.2) args s rm_X0_firstWrong.cells rm_X0_firstWrong.slots (xA G)) (F0 m 18 ls []) := by
  have hx := X.1.1
  have hb := X.1.2.1
  unfold F_X0_firstWrong_18 at h
  refine lv_iload_n hx hb dX0_firstWrong_18 rfl (lv_at hl 2 rfl) ?_
  refine lv_bipush (v := 9) hx hb dX0_firstWrong_19 (by decide) ?_
  refine lv_icmp_ge (tgt := 59) hx hb dX0_firstWrong_21 (by decide) (fun c1 => ?_) (fun c1 => ?_)
  · replace h := Eq.trans (if_pos c1).symm h
    refine lv_iconst (v := -1) hx hb dX0_firstWrong_59 (by decide) ?_
    replace h := Option.some.inj h
    subst h
    exact q_reti X Y hr hlocks (Nat.le_of_ble_eq_true rfl) (Nat.le_of_ble_eq_true rfl) dX0_firstWrong_60
  · replace h := Eq.trans (if_neg c1).symm h
    refine lv_aload_n hx hb dX0_firstWrong_24 rfl (lv_at hl 0 rfl) ?_
    replace h := xb h
    obtain ⟨v2, ev2, h⟩ := h
    refine q_getN X Y fl_X0_43 ev2 dX0_firstWrong_25 ?_
    refine lv_iload_n hx hb dX0_firstWrong_28 rfl (lv_at hl 2 rfl) ?_
    replace h := xb h
    obtain ⟨v3, ev3, h⟩ := h
    refine q_lald X Y ev3 dX0_firstWrong_29 ?_
    refine lv_lconst (v := 0) hx hb dX0_firstWrong_30 (by decide) ?_
    refine q_lcmp_lt (tgt := 51) hx hb dX0_firstWrong_31 dX0_firstWrong_32 (by decide) (fun c4 => ?_) (fun c4 => ?_)
    · replace h := Eq.trans (if_pos c4).symm h
      refine lv_iload_n hx hb dX0_firstWrong_51 rfl (lv_at hl 2 rfl) ?_
      replace h := Option.some.inj h
      subst h
      exact q_reti X Y hr hlocks (Nat.le_of_ble_eq_true rfl) (Nat.le_of_ble_eq_true rfl) dX0_firstWrong_52
    · replace h := Eq.trans (if_neg c4).symm h
      refine lv_aload_n hx hb dX0_firstWrong_35 rfl (lv_at hl 0 rfl) ?_
      replace h := xb h
      obtain ⟨v5, ev5, h⟩ := h
      refine q_getN X Y fl_X0_43 ev5 dX0_firstWrong_36 ?_
      refine lv_iload_n hx hb dX0_firstWrong_39 rfl (lv_at hl 2 rfl) ?_
      replace h := xb h
      obtain ⟨v6, ev6, h⟩ := h
      refine q_lald X Y ev6 dX0_firstWrong_40 ?_
      refine lv_aload_n hx hb dX0_firstWrong_41 rfl (lv_at hl 1 rfl) ?_
      replace h := xb h
      obtain ⟨v7, ev7, h⟩ := h
      refine q_getN X Y fl_X0_33 ev7 dX0_firstWrong_42 ?_
      refine lv_iload_n hx hb dX0_firstWrong_45 rfl (lv_at hl 2 rfl) ?_
      replace h := xb h
      obtain ⟨v8, ev8, h⟩ := h
      refine q_lald X Y ev8 dX0_firstWrong_46 ?_
      refine q_lcmp_eq (tgt := 53) hx hb dX0_firstWrong_47 dX0_firstWrong_48 (by decide) (fun c9 => ?_) (fun c9 => ?_)
      · replace h := Eq.trans (if_pos c9).symm h
        refine lv_iinc (v := (a2 + 1)) (lv' := [(2, .int (a2 + 1)), (0, .ref a0), (1, .ref a1)]) hx hb dX0_firstWrong_53 hl (k := 2) rfl rfl (by decide) rfl (fun ls hl => ?_)
        refine lv_goto (tgt := 18) hx hb dX0_firstWrong_56 (by decide) ?_
        refine W.widen (k := 0) (n := 0) (Nat.le_of_ble_eq_true rfl) (Nat.le_of_ble_eq_true rfl) ?_
        exact hk18 f a0 a1 (a2 + 1) _ _ _ h Y (lv_sub hl [1, 2, 0] rfl)
      · replace h := Eq.trans (if_neg c9).symm h
        refine lv_iload_n hx hb dX0_firstWrong_51 rfl (lv_at hl 2 rfl) ?_
        replace h := Option.some.inj h
        subst h
        exact q_reti X Y hr hlocks (Nat.le_of_ble_eq_true rfl) (Nat.le_of_ble_eq_true rfl) dX0_firstWrong_52
set_option maxRecDepth 100000 in
set_option maxHeartbeats 4000000 in
theorem lw_X0_firstWrong_18 {p : Program} {l : Launch} {e : Env} {s : State} {m : MethodId} {args : Array Value} {below : List Frame} {meth : Method} {c : Code} {G : xG} {z : Nat} (X : xC G p m c s args RX0 cX0_firstWrong 3) (hr : meth.sig.returnType = (some .int)) (hlocks : meth.locks = false) (hin : meth.name = yX0_firstWrong.name) (rs : Int32 × xHp)  : ∀ (n : Nat) (f : xHp) (a0 : Nat) (a1 : Nat) (a2 : Int32) (H : Heap) (locs : List Loc) (ls : Array Slot), L_X0_firstWrong_18  n f a0 a1 a2 = some rs → xY G z f s H locs → lv_has ls 3 [(0, .ref a0), (1, .ref a1), (2, .int a2)] → W p l e rm_X0_firstWrong s m args below meth c H locs 0 0 (MQ below (xQ G (some (.int rs.1)) z rs.2) args s rm_X0_firstWrong.cells rm_X0_firstWrong.slots (xA G)) (F0 m 18 ls []) := by
  intro n
  induction n with
  | zero => intro f a0 a1 a2 H locs ls h Y hl; cases h
  | succ n ih => intro f a0 a1 a2 H locs ls h Y hl; exact w_X0_firstWrong_18 X hr hlocks hin rs _ ih f a0 a1 a2 _ _ _ h Y hl
set_option maxRecDepth 100000 in
set_option maxHeartbeats 4000000 in
theorem c_X0_firstWrong (l : Launch) (G : xG) (z : Nat) (f : xHp) (h0 : Nat) (p1 : Nat) (rs : Int32 × xHp) (h : F_X0_firstWrong f h0 p1 = some rs) : xM G l yX0_firstWrong cX0_firstWrong 3 (some .int) rm_X0_firstWrong [.ref h0, .ref p1] z f (some (.int rs.1)) z rs.2 := by
  refine xM_of (by decide) (Nat.le_of_ble_eq_true rfl) ?_
  intro p e s m below meth c ls X hr hlocks hin Y hl
  have hl : lv_has ls 3 [(0, .ref h0), (1, .ref p1)] := hl
  have hx := X.1.1
  have hb := X.1.2.1
  unfold F_X0_firstWrong at h
  refine lv_aload_n hx hb dX0_firstWrong_0 rfl (lv_at hl 0 rfl) ?_
  replace h := xb h
  obtain ⟨v1, ev1, h⟩ := h
  refine q_getN X Y fl_X0_29 ev1 dX0_firstWrong_1 ?_
  refine lv_aload_n hx hb dX0_firstWrong_4 rfl (lv_at hl 0 rfl) ?_
  replace h := xb h
  obtain ⟨v2, ev2, h⟩ := h
  refine q_getN X Y fl_X0_15 ev2 dX0_firstWrong_5 ?_
  refine lv_iconst (v := 0) hx hb dX0_firstWrong_8 (by decide) ?_
  refine lv_aload_n hx hb dX0_firstWrong_9 rfl (lv_at hl 1 rfl) ?_
  replace h := xb h
  obtain ⟨v3, ev3, h⟩ := h
  refine q_getN X Y fl_X0_33 ev3 dX0_firstWrong_10 ?_
  by_cases c4 : hKd f v1 = some 4
  · replace h := Eq.trans (if_pos c4).symm h
    replace h := xb h
    obtain ⟨q5, eq5, h⟩ := h
    refine q_callV X Y hl.1 (rest := []) (As := [.ref v2, .int (0 : Int32), .ref v3]) (c_X4_cornersOn l G z f v1 v2 (0 : Int32) v3 _ eq5) cd_X4_cornersOn lv_X0_37_4 c4 ⟨(Nat.le_of_ble_eq_true rfl), (Nat.le_of_ble_eq_true rfl)⟩ ⟨(Nat.le_of_ble_eq_true rfl), (Nat.le_of_ble_eq_true rfl)⟩ rfl rfl (Nat.le_of_ble_eq_true rfl) dX0_firstWrong_13 (fun H locs Y => ?_)
    refine W.eq (g2 := F0 m 16 ls []) rfl ?_
    refine lv_iconst (v := 0) hx hb dX0_firstWrong_16 (by decide) ?_
    refine lv_istore_n (lv' := [(2, .int (0 : Int32)), (0, .ref h0), (1, .ref p1)]) hx hb dX0_firstWrong_17 rfl hl (by decide) rfl (fun ls hl => ?_)
    refine W.widen (k := 0) (n := 0) (Nat.le_of_ble_eq_true rfl) (Nat.le_of_ble_eq_true rfl) ?_
    exact lw_X0_firstWrong_18 X hr hlocks hin rs  xfuel q5 h0 p1 (0 : Int32) _ _ _ h Y (lv_sub hl [1, 2, 0] rfl)
  replace h := Eq.trans (if_neg c4).symm h
  cases h
/-! NeverBelow$PartsProof.firstWrong(LNeverBelow$Desk;)I -/
abbrev rm_X3_firstWrong : Room := { frames := 5, cells := 0, slots := 0, locals := 135 }
def F_X3_firstWrong_28 (k28 : xHp → Nat → Nat → Int32 → Option (Int32 × xHp)) (f : xHp) (a0 : Nat) (a2 : Nat) (a3 : Int32) : Option (Int32 × xHp) := Option.bind (hN f a0 [(3, 5)]) fun v1 => Option.bind (hLen f v1) fun v2 => if v2 ≤ a3 then (some ((-1 : Int32), f)) else (Option.bind (hN f a0 [(3, 5)]) fun v4 => Option.bind (hJld f v4 a3) fun v5 => Option.bind (hN f a2 [(2, 0)]) fun v6 => Option.bind (hIld f v6 a3) fun v7 => if v5 = v7.toInt64 then (k28 f a0 a2 (a3 + 1)) else (some ((a3 / (4 : Int32)), f)))
def L_X3_firstWrong_28  : Nat → xHp → Nat → Nat → Int32 → Option (Int32 × xHp)
  | 0, _, _, _, _ => none
  | n + 1, f, a0, a2, a3 => F_X3_firstWrong_28 (L_X3_firstWrong_28  n) f a0 a2 a3
def F_X3_firstWrong (f : xHp) (h0 : Nat) (p1 : Nat) : Option (Int32 × xHp) := Option.bind (hN f p1 [(1, 3)]) fun v1 => Option.bind (hN f h0 [(3, 3)]) fun v2 => Option.bind (hN f h0 [(3, 1)]) fun v3 => if hKd f v1 = some 2 then (Option.bind (F_X2_begin f v1 v2 v3 (0 : Int32)) fun q5 => if hKd q5 v1 = some 2 then (Option.bind (F_X2_steps q5 v1 (500 : Int32)) fun q7 => L_X3_firstWrong_28 xfuel q7.2 h0 v1 (0 : Int32)) else none) else none
set_option maxRecDepth 100000 in
set_option maxHeartbeats 4000000 in
theorem w_X3_firstWrong_28 {p : Program} {l : Launch} {e : Env} {s : State} {m : MethodId} {args : Array Value} {below : List Frame} {meth : Method} {c : Code} {G : xG} {z : Nat} (X : xC G p m c s args RX3 cX3_firstWrong 4) (hr : meth.sig.returnType = (some .int)) (hlocks : meth.locks = false) (hin : meth.name = yX3_firstWrong.name) (rs : Int32 × xHp) (k28 : xHp → Nat → Nat → Int32 → Option (Int32 × xHp)) (hk28 : ∀ (f : xHp) (a0 : Nat) (a2 : Nat) (a3 : Int32) (H : Heap) (locs : List Loc) (ls : Array Slot), k28 f a0 a2 a3 = some rs → xY G z f s H locs → lv_has ls 4 [(0, .ref a0), (2, .ref a2), (3, .int a3)] → W p l e rm_X3_firstWrong s m args below meth c H locs 0 0 (MQ below (xQ G (some (.int rs.1)) z rs.2) args s rm_X3_firstWrong.cells rm_X3_firstWrong.slots (xA G)) (F0 m 28 ls [])) (f : xHp) (a0 : Nat) (a2 : Nat) (a3 : Int32) (H : Heap) (locs : List Loc) (ls : Array Slot) (h : F_X3_firstWrong_28 k28 f a0 a2 a3 = some rs) (Y : xY G z f s H locs) (hl : lv_has ls 4 [(0, .ref a0), (2, .ref a2), (3, .int a3)]) : W p l e rm_X3_firstWrong s m args below meth c H locs 0 0 (MQ below (xQ G (some (.int rs.1)) z rs.2) args s rm_X3_firstWrong.cells rm_X3_firstWrong.slots (xA G)) (F0 m 28 ls []) := by
  have hx := X.1.1
  have hb := X.1.2.1
  unfold F_X3_firstWrong_28 at h
  refine lv_iload_n hx hb dX3_firstWrong_28 rfl (lv_at hl 2 rfl) ?_
  refine lv_aload_n hx hb dX3_firstWrong_29 rfl (lv_at hl 0 rfl) ?_
  replace h := xb h
  obtain ⟨v1, ev1, h⟩ := h
  refine q_getN X Y fl_X3_9 ev1 dX3_firstWrong_30 ?_
  replace h := xb h
  obtain ⟨v2, ev2, h⟩ := h
  refine q_alen X Y ev2 dX3_firstWrong_33 ?_
  refine lv_icmp_ge (tgt := 64) hx hb dX3_firstWrong_34 (by decide) (fun c3 => ?_) (fun c3 => ?_)
  · replace h := Eq.trans (if_pos c3).symm h
    refine lv_iconst (v := -1) hx hb dX3_firstWrong_64 (by decide) ?_
    replace h := Option.some.inj h
    subst h
    exact q_reti X Y hr hlocks (Nat.le_of_ble_eq_true rfl) (Nat.le_of_ble_eq_true rfl) dX3_firstWrong_65
  · replace h := Eq.trans (if_neg c3).symm h
    refine lv_aload_n hx hb dX3_firstWrong_37 rfl (lv_at hl 0 rfl) ?_
    replace h := xb h
    obtain ⟨v4, ev4, h⟩ := h
    refine q_getN X Y fl_X3_9 ev4 dX3_firstWrong_38 ?_
    refine lv_iload_n hx hb dX3_firstWrong_41 rfl (lv_at hl 2 rfl) ?_
    replace h := xb h
    obtain ⟨v5, ev5, h⟩ := h
    refine q_lald X Y ev5 dX3_firstWrong_42 ?_
    refine lv_aload_n hx hb dX3_firstWrong_43 rfl (lv_at hl 1 rfl) ?_
    replace h := xb h
    obtain ⟨v6, ev6, h⟩ := h
    refine q_getN X Y fl_X3_46 ev6 dX3_firstWrong_44 ?_
    refine lv_iload_n hx hb dX3_firstWrong_47 rfl (lv_at hl 2 rfl) ?_
    replace h := xb h
    obtain ⟨v7, ev7, h⟩ := h
    refine q_iald X Y ev7 dX3_firstWrong_48 ?_
    refine lv_i2l hx hb dX3_firstWrong_49 rfl ?_
    refine q_lcmp_eq (tgt := 58) hx hb dX3_firstWrong_50 dX3_firstWrong_51 (by decide) (fun c8 => ?_) (fun c8 => ?_)
    · replace h := Eq.trans (if_pos c8).symm h
      refine lv_iinc (v := (a3 + 1)) (lv' := [(3, .int (a3 + 1)), (0, .ref a0), (2, .ref a2)]) hx hb dX3_firstWrong_58 hl (k := 2) rfl rfl (by decide) rfl (fun ls hl => ?_)
      refine lv_goto (tgt := 28) hx hb dX3_firstWrong_61 (by decide) ?_
      refine W.widen (k := 0) (n := 0) (Nat.le_of_ble_eq_true rfl) (Nat.le_of_ble_eq_true rfl) ?_
      exact hk28 f a0 a2 (a3 + 1) _ _ _ h Y (lv_sub hl [1, 2, 0] rfl)
    · replace h := Eq.trans (if_neg c8).symm h
      refine lv_iload_n hx hb dX3_firstWrong_54 rfl (lv_at hl 2 rfl) ?_
      refine lv_iconst (v := 4) hx hb dX3_firstWrong_55 (by decide) ?_
      refine lv_idiv hx hb dX3_firstWrong_56 (by decide) ?_
      replace h := Option.some.inj h
      subst h
      exact q_reti X Y hr hlocks (Nat.le_of_ble_eq_true rfl) (Nat.le_of_ble_eq_true rfl) dX3_firstWrong_57
set_option maxRecDepth 100000 in
set_option maxHeartbeats 4000000 in
theorem lw_X3_firstWrong_28 {p : Program} {l : Launch} {e : Env} {s : State} {m : MethodId} {args : Array Value} {below : List Frame} {meth : Method} {c : Code} {G : xG} {z : Nat} (X : xC G p m c s args RX3 cX3_firstWrong 4) (hr : meth.sig.returnType = (some .int)) (hlocks : meth.locks = false) (hin : meth.name = yX3_firstWrong.name) (rs : Int32 × xHp)  : ∀ (n : Nat) (f : xHp) (a0 : Nat) (a2 : Nat) (a3 : Int32) (H : Heap) (locs : List Loc) (ls : Array Slot), L_X3_firstWrong_28  n f a0 a2 a3 = some rs → xY G z f s H locs → lv_has ls 4 [(0, .ref a0), (2, .ref a2), (3, .int a3)] → W p l e rm_X3_firstWrong s m args below meth c H locs 0 0 (MQ below (xQ G (some (.int rs.1)) z rs.2) args s rm_X3_firstWrong.cells rm_X3_firstWrong.slots (xA G)) (F0 m 28 ls []) := by
  intro n
  induction n with
  | zero => intro f a0 a2 a3 H locs ls h Y hl; cases h
  | succ n ih => intro f a0 a2 a3 H locs ls h Y hl; exact w_X3_firstWrong_28 X hr hlocks hin rs _ ih f a0 a2 a3 _ _ _ h Y hl
set_option maxRecDepth 100000 in
set_option maxHeartbeats 4000000 in
theorem c_X3_firstWrong (l : Launch) (G : xG) (z : Nat) (f : xHp) (h0 : Nat) (p1 : Nat) (rs : Int32 × xHp) (h : F_X3_firstWrong f h0 p1 = some rs) : xM G l yX3_firstWrong cX3_firstWrong 4 (some .int) rm_X3_firstWrong [.ref h0, .ref p1] z f (some (.int rs.1)) z rs.2 := by
  refine xM_of (by decide) (Nat.le_of_ble_eq_true rfl) ?_
  intro p e s m below meth c ls X hr hlocks hin Y hl
  have hl : lv_has ls 4 [(0, .ref h0), (1, .ref p1)] := hl
  have hx := X.1.1
  have hb := X.1.2.1
  unfold F_X3_firstWrong at h
  refine lv_aload_n hx hb dX3_firstWrong_0 rfl (lv_at hl 1 rfl) ?_
  replace h := xb h
  obtain ⟨v1, ev1, h⟩ := h
  refine q_getN X Y fl_X3_25 ev1 dX3_firstWrong_1 ?_
  refine lv_astore_n (lv' := [(2, .ref v1), (0, .ref h0), (1, .ref p1)]) hx hb dX3_firstWrong_4 rfl hl (by decide) rfl (fun ls hl => ?_)
  refine lv_aload_n hx hb dX3_firstWrong_5 rfl (lv_at hl 0 rfl) ?_
  refine lv_aload_n hx hb dX3_firstWrong_6 rfl (lv_at hl 1 rfl) ?_
  replace h := xb h
  obtain ⟨v2, ev2, h⟩ := h
  refine q_getN X Y fl_X3_29 ev2 dX3_firstWrong_7 ?_
  refine lv_aload_n hx hb dX3_firstWrong_10 rfl (lv_at hl 1 rfl) ?_
  replace h := xb h
  obtain ⟨v3, ev3, h⟩ := h
  refine q_getN X Y fl_X3_33 ev3 dX3_firstWrong_11 ?_
  refine lv_iconst (v := 0) hx hb dX3_firstWrong_14 (by decide) ?_
  by_cases c4 : hKd f v1 = some 2
  · replace h := Eq.trans (if_pos c4).symm h
    replace h := xb h
    obtain ⟨q5, eq5, h⟩ := h
    refine q_callV X Y hl.1 (rest := []) (As := [.ref v2, .ref v3, .int (0 : Int32)]) (c_X2_begin l G z f v1 v2 v3 (0 : Int32) _ eq5) cd_X2_begin lv_X3_37_2 c4 ⟨(Nat.le_of_ble_eq_true rfl), (Nat.le_of_ble_eq_true rfl)⟩ ⟨(Nat.le_of_ble_eq_true rfl), (Nat.le_of_ble_eq_true rfl)⟩ rfl rfl (Nat.le_of_ble_eq_true rfl) dX3_firstWrong_15 (fun H locs Y => ?_)
    refine W.eq (g2 := F0 m 18 ls []) rfl ?_
    refine lv_aload_n hx hb dX3_firstWrong_18 rfl (lv_at hl 0 rfl) ?_
    refine lv_sipush (v := 500) hx hb dX3_firstWrong_19 (by decide) ?_
    by_cases c6 : hKd q5 v1 = some 2
    · replace h := Eq.trans (if_pos c6).symm h
      replace h := xb h
      obtain ⟨q7, eq7, h⟩ := h
      refine q_callV X Y hl.1 (rest := []) (As := [.int (500 : Int32)]) (c_X2_steps l G z q5 v1 (500 : Int32) _ eq7) cd_X2_steps lv_X3_42_2 c6 ⟨(Nat.le_of_ble_eq_true rfl), (Nat.le_of_ble_eq_true rfl)⟩ ⟨(Nat.le_of_ble_eq_true rfl), (Nat.le_of_ble_eq_true rfl)⟩ rfl rfl (Nat.le_of_ble_eq_true rfl) dX3_firstWrong_22 (fun H locs Y => ?_)
      refine W.eq (g2 := F0 m 25 ls [.int q7.1]) rfl ?_
      refine lv_pop hx hb dX3_firstWrong_25 rfl ?_
      refine lv_iconst (v := 0) hx hb dX3_firstWrong_26 (by decide) ?_
      refine lv_istore_n (lv' := [(3, .int (0 : Int32)), (2, .ref v1), (0, .ref h0), (1, .ref p1)]) hx hb dX3_firstWrong_27 rfl hl (by decide) rfl (fun ls hl => ?_)
      refine W.widen (k := 0) (n := 0) (Nat.le_of_ble_eq_true rfl) (Nat.le_of_ble_eq_true rfl) ?_
      exact lw_X3_firstWrong_28 X hr hlocks hin rs  xfuel q7.2 h0 v1 (0 : Int32) _ _ _ h Y (lv_sub hl [2, 1, 0] rfl)
    replace h := Eq.trans (if_neg c6).symm h
    cases h
  replace h := Eq.trans (if_neg c4).symm h
  cases h
/-! NeverBelow$SquaresProof.isWeightAbove(I)Z -/
abbrev rm_X8_isWeightAbove : Room := { frames := 0, cells := 0, slots := 0, locals := 0 }
def F_X8_isWeightAbove (f : xHp) (h0 : Nat) (p1 : Int32) : Option (Int32) := Option.bind (hN f h0 [(6, 3), (7, 3)]) fun v1 => Option.bind (hJld f v1 p1) fun v2 => if v2 ≤ (0 : Int64) then (some (0 : Int32)) else (Option.bind (hN f h0 [(6, 3), (7, 3)]) fun v4 => Option.bind (hJld f v4 (p1 + (1 : Int32))) fun v5 => if v5 ≤ (0 : Int64) then (some (0 : Int32)) else (some (1 : Int32)))
set_option maxRecDepth 100000 in
set_option maxHeartbeats 4000000 in
theorem c_X8_isWeightAbove (l : Launch) (G : xG) (z : Nat) (f : xHp) (h0 : Nat) (p1 : Int32) (rs : Int32) (h : F_X8_isWeightAbove f h0 p1 = some rs) : xM G l yX8_isWeightAbove cX8_isWeightAbove 2 (some .boolean) rm_X8_isWeightAbove [.ref h0, .int p1] z f (some (.int rs)) z f := by
  refine xM_of (by decide) (Nat.le_of_ble_eq_true rfl) ?_
  intro p e s m below meth c ls X hr hlocks hin Y hl
  have hl : lv_has ls 2 [(0, .ref h0), (1, .int p1)] := hl
  have hx := X.1.1
  have hb := X.1.2.1
  unfold F_X8_isWeightAbove at h
  refine lv_aload_n hx hb dX8_isWeightAbove_0 rfl (lv_at hl 0 rfl) ?_
  replace h := xb h
  obtain ⟨v1, ev1, h⟩ := h
  refine q_getN X Y fl_X8_9 ev1 dX8_isWeightAbove_1 ?_
  refine lv_iload_n hx hb dX8_isWeightAbove_4 rfl (lv_at hl 1 rfl) ?_
  replace h := xb h
  obtain ⟨v2, ev2, h⟩ := h
  refine q_lald X Y ev2 dX8_isWeightAbove_5 ?_
  refine lv_lconst (v := 0) hx hb dX8_isWeightAbove_6 (by decide) ?_
  refine q_lcmp_le (tgt := 28) hx hb dX8_isWeightAbove_7 dX8_isWeightAbove_8 (by decide) (fun c3 => ?_) (fun c3 => ?_)
  · replace h := Eq.trans (if_pos c3).symm h
    refine lv_iconst (v := 0) hx hb dX8_isWeightAbove_28 (by decide) ?_
    replace h := Option.some.inj h
    subst h
    exact q_retz (v := (0 : Int32)) X Y hr hlocks rfl (Nat.le_of_ble_eq_true rfl) (Nat.le_of_ble_eq_true rfl) dX8_isWeightAbove_29
  · replace h := Eq.trans (if_neg c3).symm h
    refine lv_aload_n hx hb dX8_isWeightAbove_11 rfl (lv_at hl 0 rfl) ?_
    replace h := xb h
    obtain ⟨v4, ev4, h⟩ := h
    refine q_getN X Y fl_X8_9 ev4 dX8_isWeightAbove_12 ?_
    refine lv_iload_n hx hb dX8_isWeightAbove_15 rfl (lv_at hl 1 rfl) ?_
    refine lv_iconst (v := 1) hx hb dX8_isWeightAbove_16 (by decide) ?_
    refine lv_iadd hx hb dX8_isWeightAbove_17 ?_
    replace h := xb h
    obtain ⟨v5, ev5, h⟩ := h
    refine q_lald X Y ev5 dX8_isWeightAbove_18 ?_
    refine lv_lconst (v := 0) hx hb dX8_isWeightAbove_19 (by decide) ?_
    refine q_lcmp_le (tgt := 28) hx hb dX8_isWeightAbove_20 dX8_isWeightAbove_21 (by decide) (fun c6 => ?_) (fun c6 => ?_)
    · replace h := Eq.trans (if_pos c6).symm h
      refine lv_iconst (v := 0) hx hb dX8_isWeightAbove_28 (by decide) ?_
      replace h := Option.some.inj h
      subst h
      exact q_retz (v := (0 : Int32)) X Y hr hlocks rfl (Nat.le_of_ble_eq_true rfl) (Nat.le_of_ble_eq_true rfl) dX8_isWeightAbove_29
    · replace h := Eq.trans (if_neg c6).symm h
      refine lv_iconst (v := 1) hx hb dX8_isWeightAbove_24 (by decide) ?_
      refine lv_goto (tgt := 29) hx hb dX8_isWeightAbove_25 (by decide) ?_
      replace h := Option.some.inj h
      subst h
      exact q_retz (v := (1 : Int32)) X Y hr hlocks rfl (Nat.le_of_ble_eq_true rfl) (Nat.le_of_ble_eq_true rfl) dX8_isWeightAbove_29
/-! NeverBelow$SquaresProof.hasWeightsAbove()Z -/
abbrev rm_X8_hasWeightsAbove : Room := { frames := 2, cells := 0, slots := 0, locals := 40 }
def F_X8_hasWeightsAbove_2 (f : xHp) (k2 : Nat → Int32 → Option (Int32))  (a0 : Nat) (a1 : Int32) : Option (Int32) := if hKd f a0 = some 6 then (Option.bind (F_X7_pieces f a0) fun q2 => if q2 ≤ a1 then (some (1 : Int32)) else (if hKd f a0 = some 6 then (Option.bind (F_X8_isWeightAbove f a0 ((5 : Int32) * a1)) fun q5 => if q5 = 0 then (some (0 : Int32)) else (k2 a0 (a1 + 1))) else if hKd f a0 = some 7 then (Option.bind (F_X8_isWeightAbove f a0 ((5 : Int32) * a1)) fun q8 => if q8 = 0 then (some (0 : Int32)) else (k2 a0 (a1 + 1))) else none)) else if hKd f a0 = some 7 then (Option.bind (F_X8_pieces f a0) fun q11 => if q11 ≤ a1 then (some (1 : Int32)) else (if hKd f a0 = some 6 then (Option.bind (F_X8_isWeightAbove f a0 ((5 : Int32) * a1)) fun q14 => if q14 = 0 then (some (0 : Int32)) else (k2 a0 (a1 + 1))) else if hKd f a0 = some 7 then (Option.bind (F_X8_isWeightAbove f a0 ((5 : Int32) * a1)) fun q17 => if q17 = 0 then (some (0 : Int32)) else (k2 a0 (a1 + 1))) else none)) else none
def L_X8_hasWeightsAbove_2 (f : xHp)  : Nat → Nat → Int32 → Option (Int32)
  | 0, _, _ => none
  | n + 1, a0, a1 => F_X8_hasWeightsAbove_2 f (L_X8_hasWeightsAbove_2 f  n) a0 a1
def F_X8_hasWeightsAbove (f : xHp) (h0 : Nat) : Option (Int32) := L_X8_hasWeightsAbove_2 f xfuel h0 (0 : Int32)
set_option maxRecDepth 100000 in
set_option maxHeartbeats 4000000 in
theorem w_X8_hasWeightsAbove_2 {p : Program} {l : Launch} {e : Env} {s : State} {m : MethodId} {args : Array Value} {below : List Frame} {meth : Method} {c : Code} {G : xG} {z : Nat} {f : xHp} (X : xC G p m c s args RX8 cX8_hasWeightsAbove 2) (hr : meth.sig.returnType = (some .boolean)) (hlocks : meth.locks = false) (hin : meth.name = yX8_hasWeightsAbove.name) (rs : Int32) (k2 : Nat → Int32 → Option (Int32)) (hk2 : ∀ (a0 : Nat) (a1 : Int32) (H : Heap) (locs : List Loc) (ls : Array Slot), k2 a0 a1 = some rs → xY G z f s H locs → lv_has ls 2 [(0, .ref a0), (1, .int a1)] → W p l e rm_X8_hasWeightsAbove s m args below meth c H locs 0 0 (MQ below (xQ G (some (.int rs)) z f) args s rm_X8_hasWeightsAbove.cells rm_X8_hasWeightsAbove.slots (xA G)) (F0 m 2 ls [])) (a0 : Nat) (a1 : Int32) (H : Heap) (locs : List Loc) (ls : Array Slot) (h : F_X8_hasWeightsAbove_2 f k2 a0 a1 = some rs) (Y : xY G z f s H locs) (hl : lv_has ls 2 [(0, .ref a0), (1, .int a1)]) : W p l e rm_X8_hasWeightsAbove s m args below meth c H locs 0 0 (MQ below (xQ G (some (.int rs)) z f) args s rm_X8_hasWeightsAbove.cells rm_X8_hasWeightsAbove.slots (xA G)) (F0 m 2 ls []) := by
  have hx := X.1.1
  have hb := X.1.2.1
  unfold F_X8_hasWeightsAbove_2 at h
  refine lv_iload_n hx hb dX8_hasWeightsAbove_2 rfl (lv_at hl 1 rfl) ?_
  refine lv_aload_n hx hb dX8_hasWeightsAbove_3 rfl (lv_at hl 0 rfl) ?_
  by_cases c1 : hKd f a0 = some 6
  · replace h := Eq.trans (if_pos c1).symm h
    replace h := xb h
    obtain ⟨q2, eq2, h⟩ := h
    refine q_callU X Y hl.1 (rest := [.int a1]) (As := []) (c_X7_pieces l G z f a0 _ eq2) cd_X7_pieces lu_X8_32_6 c1 ⟨(Nat.le_of_ble_eq_true rfl), (Nat.le_of_ble_eq_true rfl)⟩ ⟨(Nat.le_of_ble_eq_true rfl), (Nat.le_of_ble_eq_true rfl)⟩ rfl rfl (Nat.le_of_ble_eq_true rfl) dX8_hasWeightsAbove_4 (fun H locs Y => ?_)
    refine W.eq (g2 := F0 m 7 ls [.int q2, .int a1]) rfl ?_
    refine lv_icmp_ge (tgt := 28) hx hb dX8_hasWeightsAbove_7 (by decide) (fun c3 => ?_) (fun c3 => ?_)
    · replace h := Eq.trans (if_pos c3).symm h
      refine lv_iconst (v := 1) hx hb dX8_hasWeightsAbove_28 (by decide) ?_
      replace h := Option.some.inj h
      subst h
      exact q_retz (v := (1 : Int32)) X Y hr hlocks rfl (Nat.le_of_ble_eq_true rfl) (Nat.le_of_ble_eq_true rfl) dX8_hasWeightsAbove_29
    · replace h := Eq.trans (if_neg c3).symm h
      refine lv_aload_n hx hb dX8_hasWeightsAbove_10 rfl (lv_at hl 0 rfl) ?_
      refine lv_iconst (v := 5) hx hb dX8_hasWeightsAbove_11 (by decide) ?_
      refine lv_iload_n hx hb dX8_hasWeightsAbove_12 rfl (lv_at hl 1 rfl) ?_
      refine lv_imul hx hb dX8_hasWeightsAbove_13 ?_
      by_cases c4 : hKd f a0 = some 6
      · replace h := Eq.trans (if_pos c4).symm h
        replace h := xb h
        obtain ⟨q5, eq5, h⟩ := h
        refine q_callU X Y hl.1 (rest := []) (As := [.int ((5 : Int32) * a1)]) (c_X8_isWeightAbove l G z f a0 ((5 : Int32) * a1) _ eq5) cd_X8_isWeightAbove lu_X8_36_6 c4 ⟨(Nat.le_of_ble_eq_true rfl), (Nat.le_of_ble_eq_true rfl)⟩ ⟨(Nat.le_of_ble_eq_true rfl), (Nat.le_of_ble_eq_true rfl)⟩ rfl rfl (Nat.le_of_ble_eq_true rfl) dX8_hasWeightsAbove_14 (fun H locs Y => ?_)
        refine W.eq (g2 := F0 m 17 ls [.int q5]) rfl ?_
        refine lv_if_ne (tgt := 22) hx hb dX8_hasWeightsAbove_17 (by decide) (fun c6 => ?_) (fun c6 => ?_)
        · replace h := Eq.trans (if_neg c6).symm h
          refine lv_iinc (v := (a1 + 1)) (lv' := [(1, .int (a1 + 1)), (0, .ref a0)]) hx hb dX8_hasWeightsAbove_22 hl (k := 1) rfl rfl (by decide) rfl (fun ls hl => ?_)
          refine lv_goto (tgt := 2) hx hb dX8_hasWeightsAbove_25 (by decide) ?_
          refine W.widen (k := 0) (n := 0) (Nat.le_of_ble_eq_true rfl) (Nat.le_of_ble_eq_true rfl) ?_
          exact hk2 a0 (a1 + 1) _ _ _ h Y (lv_sub hl [1, 0] rfl)
        · replace h := Eq.trans (if_pos c6).symm h
          refine lv_iconst (v := 0) hx hb dX8_hasWeightsAbove_20 (by decide) ?_
          replace h := Option.some.inj h
          subst h
          exact q_retz (v := (0 : Int32)) X Y hr hlocks rfl (Nat.le_of_ble_eq_true rfl) (Nat.le_of_ble_eq_true rfl) dX8_hasWeightsAbove_21
      replace h := Eq.trans (if_neg c4).symm h
      by_cases c7 : hKd f a0 = some 7
      · replace h := Eq.trans (if_pos c7).symm h
        replace h := xb h
        obtain ⟨q8, eq8, h⟩ := h
        refine q_callV X Y hl.1 (rest := []) (As := [.int ((5 : Int32) * a1)]) (c_X8_isWeightAbove l G z f a0 ((5 : Int32) * a1) _ eq8) cd_X8_isWeightAbove lv_X8_36_7 c7 ⟨(Nat.le_of_ble_eq_true rfl), (Nat.le_of_ble_eq_true rfl)⟩ ⟨(Nat.le_of_ble_eq_true rfl), (Nat.le_of_ble_eq_true rfl)⟩ rfl rfl (Nat.le_of_ble_eq_true rfl) dX8_hasWeightsAbove_14 (fun H locs Y => ?_)
        refine W.eq (g2 := F0 m 17 ls [.int q8]) rfl ?_
        refine lv_if_ne (tgt := 22) hx hb dX8_hasWeightsAbove_17 (by decide) (fun c9 => ?_) (fun c9 => ?_)
        · replace h := Eq.trans (if_neg c9).symm h
          refine lv_iinc (v := (a1 + 1)) (lv' := [(1, .int (a1 + 1)), (0, .ref a0)]) hx hb dX8_hasWeightsAbove_22 hl (k := 1) rfl rfl (by decide) rfl (fun ls hl => ?_)
          refine lv_goto (tgt := 2) hx hb dX8_hasWeightsAbove_25 (by decide) ?_
          refine W.widen (k := 0) (n := 0) (Nat.le_of_ble_eq_true rfl) (Nat.le_of_ble_eq_true rfl) ?_
          exact hk2 a0 (a1 + 1) _ _ _ h Y (lv_sub hl [1, 0] rfl)
        · replace h := Eq.trans (if_pos c9).symm h
          refine lv_iconst (v := 0) hx hb dX8_hasWeightsAbove_20 (by decide) ?_
          replace h := Option.some.inj h
          subst h
          exact q_retz (v := (0 : Int32)) X Y hr hlocks rfl (Nat.le_of_ble_eq_true rfl) (Nat.le_of_ble_eq_true rfl) dX8_hasWeightsAbove_21
      replace h := Eq.trans (if_neg c7).symm h
      cases h
  replace h := Eq.trans (if_neg c1).symm h
  by_cases c10 : hKd f a0 = some 7
  · replace h := Eq.trans (if_pos c10).symm h
    replace h := xb h
    obtain ⟨q11, eq11, h⟩ := h
    refine q_callV X Y hl.1 (rest := [.int a1]) (As := []) (c_X8_pieces l G z f a0 _ eq11) cd_X8_pieces lv_X8_32_7 c10 ⟨(Nat.le_of_ble_eq_true rfl), (Nat.le_of_ble_eq_true rfl)⟩ ⟨(Nat.le_of_ble_eq_true rfl), (Nat.le_of_ble_eq_true rfl)⟩ rfl rfl (Nat.le_of_ble_eq_true rfl) dX8_hasWeightsAbove_4 (fun H locs Y => ?_)
    refine W.eq (g2 := F0 m 7 ls [.int q11, .int a1]) rfl ?_
    refine lv_icmp_ge (tgt := 28) hx hb dX8_hasWeightsAbove_7 (by decide) (fun c12 => ?_) (fun c12 => ?_)
    · replace h := Eq.trans (if_pos c12).symm h
      refine lv_iconst (v := 1) hx hb dX8_hasWeightsAbove_28 (by decide) ?_
      replace h := Option.some.inj h
      subst h
      exact q_retz (v := (1 : Int32)) X Y hr hlocks rfl (Nat.le_of_ble_eq_true rfl) (Nat.le_of_ble_eq_true rfl) dX8_hasWeightsAbove_29
    · replace h := Eq.trans (if_neg c12).symm h
      refine lv_aload_n hx hb dX8_hasWeightsAbove_10 rfl (lv_at hl 0 rfl) ?_
      refine lv_iconst (v := 5) hx hb dX8_hasWeightsAbove_11 (by decide) ?_
      refine lv_iload_n hx hb dX8_hasWeightsAbove_12 rfl (lv_at hl 1 rfl) ?_
      refine lv_imul hx hb dX8_hasWeightsAbove_13 ?_
      by_cases c13 : hKd f a0 = some 6
      · replace h := Eq.trans (if_pos c13).symm h
        replace h := xb h
        obtain ⟨q14, eq14, h⟩ := h
        refine q_callU X Y hl.1 (rest := []) (As := [.int ((5 : Int32) * a1)]) (c_X8_isWeightAbove l G z f a0 ((5 : Int32) * a1) _ eq14) cd_X8_isWeightAbove lu_X8_36_6 c13 ⟨(Nat.le_of_ble_eq_true rfl), (Nat.le_of_ble_eq_true rfl)⟩ ⟨(Nat.le_of_ble_eq_true rfl), (Nat.le_of_ble_eq_true rfl)⟩ rfl rfl (Nat.le_of_ble_eq_true rfl) dX8_hasWeightsAbove_14 (fun H locs Y => ?_)
        refine W.eq (g2 := F0 m 17 ls [.int q14]) rfl ?_
        refine lv_if_ne (tgt := 22) hx hb dX8_hasWeightsAbove_17 (by decide) (fun c15 => ?_) (fun c15 => ?_)
        · replace h := Eq.trans (if_neg c15).symm h
          refine lv_iinc (v := (a1 + 1)) (lv' := [(1, .int (a1 + 1)), (0, .ref a0)]) hx hb dX8_hasWeightsAbove_22 hl (k := 1) rfl rfl (by decide) rfl (fun ls hl => ?_)
          refine lv_goto (tgt := 2) hx hb dX8_hasWeightsAbove_25 (by decide) ?_
          refine W.widen (k := 0) (n := 0) (Nat.le_of_ble_eq_true rfl) (Nat.le_of_ble_eq_true rfl) ?_
          exact hk2 a0 (a1 + 1) _ _ _ h Y (lv_sub hl [1, 0] rfl)
        · replace h := Eq.trans (if_pos c15).symm h
          refine lv_iconst (v := 0) hx hb dX8_hasWeightsAbove_20 (by decide) ?_
          replace h := Option.some.inj h
          subst h
          exact q_retz (v := (0 : Int32)) X Y hr hlocks rfl (Nat.le_of_ble_eq_true rfl) (Nat.le_of_ble_eq_true rfl) dX8_hasWeightsAbove_21
      replace h := Eq.trans (if_neg c13).symm h
      by_cases c16 : hKd f a0 = some 7
      · replace h := Eq.trans (if_pos c16).symm h
        replace h := xb h
        obtain ⟨q17, eq17, h⟩ := h
        refine q_callV X Y hl.1 (rest := []) (As := [.int ((5 : Int32) * a1)]) (c_X8_isWeightAbove l G z f a0 ((5 : Int32) * a1) _ eq17) cd_X8_isWeightAbove lv_X8_36_7 c16 ⟨(Nat.le_of_ble_eq_true rfl), (Nat.le_of_ble_eq_true rfl)⟩ ⟨(Nat.le_of_ble_eq_true rfl), (Nat.le_of_ble_eq_true rfl)⟩ rfl rfl (Nat.le_of_ble_eq_true rfl) dX8_hasWeightsAbove_14 (fun H locs Y => ?_)
        refine W.eq (g2 := F0 m 17 ls [.int q17]) rfl ?_
        refine lv_if_ne (tgt := 22) hx hb dX8_hasWeightsAbove_17 (by decide) (fun c18 => ?_) (fun c18 => ?_)
        · replace h := Eq.trans (if_neg c18).symm h
          refine lv_iinc (v := (a1 + 1)) (lv' := [(1, .int (a1 + 1)), (0, .ref a0)]) hx hb dX8_hasWeightsAbove_22 hl (k := 1) rfl rfl (by decide) rfl (fun ls hl => ?_)
          refine lv_goto (tgt := 2) hx hb dX8_hasWeightsAbove_25 (by decide) ?_
          refine W.widen (k := 0) (n := 0) (Nat.le_of_ble_eq_true rfl) (Nat.le_of_ble_eq_true rfl) ?_
          exact hk2 a0 (a1 + 1) _ _ _ h Y (lv_sub hl [1, 0] rfl)
        · replace h := Eq.trans (if_pos c18).symm h
          refine lv_iconst (v := 0) hx hb dX8_hasWeightsAbove_20 (by decide) ?_
          replace h := Option.some.inj h
          subst h
          exact q_retz (v := (0 : Int32)) X Y hr hlocks rfl (Nat.le_of_ble_eq_true rfl) (Nat.le_of_ble_eq_true rfl) dX8_hasWeightsAbove_21
      replace h := Eq.trans (if_neg c16).symm h
      cases h
  replace h := Eq.trans (if_neg c10).symm h
  cases h
set_option maxRecDepth 100000 in
set_option maxHeartbeats 4000000 in
theorem lw_X8_hasWeightsAbove_2 {p : Program} {l : Launch} {e : Env} {s : State} {m : MethodId} {args : Array Value} {below : List Frame} {meth : Method} {c : Code} {G : xG} {z : Nat} {f : xHp} (X : xC G p m c s args RX8 cX8_hasWeightsAbove 2) (hr : meth.sig.returnType = (some .boolean)) (hlocks : meth.locks = false) (hin : meth.name = yX8_hasWeightsAbove.name) (rs : Int32)  : ∀ (n : Nat) (a0 : Nat) (a1 : Int32) (H : Heap) (locs : List Loc) (ls : Array Slot), L_X8_hasWeightsAbove_2 f  n a0 a1 = some rs → xY G z f s H locs → lv_has ls 2 [(0, .ref a0), (1, .int a1)] → W p l e rm_X8_hasWeightsAbove s m args below meth c H locs 0 0 (MQ below (xQ G (some (.int rs)) z f) args s rm_X8_hasWeightsAbove.cells rm_X8_hasWeightsAbove.slots (xA G)) (F0 m 2 ls []) := by
  intro n
  induction n with
  | zero => intro a0 a1 H locs ls h Y hl; cases h
  | succ n ih => intro a0 a1 H locs ls h Y hl; exact w_X8_hasWeightsAbove_2 X hr hlocks hin rs _ ih a0 a1 _ _ _ h Y hl
set_option maxRecDepth 100000 in
set_option maxHeartbeats 4000000 in
theorem c_X8_hasWeightsAbove (l : Launch) (G : xG) (z : Nat) (f : xHp) (h0 : Nat) (rs : Int32) (h : F_X8_hasWeightsAbove f h0 = some rs) : xM G l yX8_hasWeightsAbove cX8_hasWeightsAbove 2 (some .boolean) rm_X8_hasWeightsAbove [.ref h0] z f (some (.int rs)) z f := by
  refine xM_of (by decide) (Nat.le_of_ble_eq_true rfl) ?_
  intro p e s m below meth c ls X hr hlocks hin Y hl
  have hl : lv_has ls 2 [(0, .ref h0)] := hl
  have hx := X.1.1
  have hb := X.1.2.1
  unfold F_X8_hasWeightsAbove at h
  refine lv_iconst (v := 0) hx hb dX8_hasWeightsAbove_0 (by decide) ?_
  refine lv_istore_n (lv' := [(1, .int (0 : Int32)), (0, .ref h0)]) hx hb dX8_hasWeightsAbove_1 rfl hl (by decide) rfl (fun ls hl => ?_)
  refine W.widen (k := 0) (n := 0) (Nat.le_of_ble_eq_true rfl) (Nat.le_of_ble_eq_true rfl) ?_
  exact lw_X8_hasWeightsAbove_2 X hr hlocks hin rs  xfuel h0 (0 : Int32) _ _ _ h Y (lv_sub hl [1, 0] rfl)
/-! NeverBelow$SpanProof.hasWeightsAbove()Z -/
abbrev rm_X7_hasWeightsAbove : Room := { frames := 3, cells := 0, slots := 0, locals := 61 }
def F_X7_hasWeightsAbove (f : xHp) (h0 : Nat) : Option (Int32) := if hKd f h0 = some 6 then (Option.bind (F_X8_hasWeightsAbove f h0) fun q2 => if q2 = 0 then (some (0 : Int32)) else (if hKd f h0 = some 6 then (Option.bind (F_X7_spanFrom f h0) fun q5 => if hKd f h0 = some 6 then (Option.bind (F_X8_isWeightAbove f h0 q5) fun q7 => if q7 = 0 then (some (0 : Int32)) else (some (1 : Int32))) else none) else none)) else none
set_option maxRecDepth 100000 in
set_option maxHeartbeats 4000000 in
theorem c_X7_hasWeightsAbove (l : Launch) (G : xG) (z : Nat) (f : xHp) (h0 : Nat) (rs : Int32) (h : F_X7_hasWeightsAbove f h0 = some rs) : xM G l yX7_hasWeightsAbove cX7_hasWeightsAbove 1 (some .boolean) rm_X7_hasWeightsAbove [.ref h0] z f (some (.int rs)) z f := by
  refine xM_of (by decide) (Nat.le_of_ble_eq_true rfl) ?_
  intro p e s m below meth c ls X hr hlocks hin Y hl
  have hl : lv_has ls 1 [(0, .ref h0)] := hl
  have hx := X.1.1
  have hb := X.1.2.1
  unfold F_X7_hasWeightsAbove at h
  refine lv_aload_n hx hb dX7_hasWeightsAbove_0 rfl (lv_at hl 0 rfl) ?_
  by_cases c1 : hKd f h0 = some 6
  · replace h := Eq.trans (if_pos c1).symm h
    replace h := xb h
    obtain ⟨q2, eq2, h⟩ := h
    refine q_callSU X Y hl.1 (rest := []) (As := []) (c_X8_hasWeightsAbove l G z f h0 _ eq2) cd_X8_hasWeightsAbove lsu_X7_29_6 c1 ⟨(Nat.le_of_ble_eq_true rfl), (Nat.le_of_ble_eq_true rfl)⟩ ⟨(Nat.le_of_ble_eq_true rfl), (Nat.le_of_ble_eq_true rfl)⟩ rfl rfl (Nat.le_of_ble_eq_true rfl) dX7_hasWeightsAbove_1 (fun H locs Y => ?_)
    refine W.eq (g2 := F0 m 4 ls [.int q2]) rfl ?_
    refine lv_if_eq (tgt := 22) hx hb dX7_hasWeightsAbove_4 (by decide) (fun c3 => ?_) (fun c3 => ?_)
    · replace h := Eq.trans (if_pos c3).symm h
      refine lv_iconst (v := 0) hx hb dX7_hasWeightsAbove_22 (by decide) ?_
      replace h := Option.some.inj h
      subst h
      exact q_retz (v := (0 : Int32)) X Y hr hlocks rfl (Nat.le_of_ble_eq_true rfl) (Nat.le_of_ble_eq_true rfl) dX7_hasWeightsAbove_23
    · replace h := Eq.trans (if_neg c3).symm h
      refine lv_aload_n hx hb dX7_hasWeightsAbove_7 rfl (lv_at hl 0 rfl) ?_
      refine lv_aload_n hx hb dX7_hasWeightsAbove_8 rfl (lv_at hl 0 rfl) ?_
      by_cases c4 : hKd f h0 = some 6
      · replace h := Eq.trans (if_pos c4).symm h
        replace h := xb h
        obtain ⟨q5, eq5, h⟩ := h
        refine q_callV X Y hl.1 (rest := [.ref h0]) (As := []) (c_X7_spanFrom l G z f h0 _ eq5) cd_X7_spanFrom lv_X7_15_6 c4 ⟨(Nat.le_of_ble_eq_true rfl), (Nat.le_of_ble_eq_true rfl)⟩ ⟨(Nat.le_of_ble_eq_true rfl), (Nat.le_of_ble_eq_true rfl)⟩ rfl rfl (Nat.le_of_ble_eq_true rfl) dX7_hasWeightsAbove_9 (fun H locs Y => ?_)
        refine W.eq (g2 := F0 m 12 ls [.int q5, .ref h0]) rfl ?_
        by_cases c6 : hKd f h0 = some 6
        · replace h := Eq.trans (if_pos c6).symm h
          replace h := xb h
          obtain ⟨q7, eq7, h⟩ := h
          refine q_callU X Y hl.1 (rest := []) (As := [.int q5]) (c_X8_isWeightAbove l G z f h0 q5 _ eq7) cd_X8_isWeightAbove lu_X7_33_6 c6 ⟨(Nat.le_of_ble_eq_true rfl), (Nat.le_of_ble_eq_true rfl)⟩ ⟨(Nat.le_of_ble_eq_true rfl), (Nat.le_of_ble_eq_true rfl)⟩ rfl rfl (Nat.le_of_ble_eq_true rfl) dX7_hasWeightsAbove_12 (fun H locs Y => ?_)
          refine W.eq (g2 := F0 m 15 ls [.int q7]) rfl ?_
          refine lv_if_eq (tgt := 22) hx hb dX7_hasWeightsAbove_15 (by decide) (fun c8 => ?_) (fun c8 => ?_)
          · replace h := Eq.trans (if_pos c8).symm h
            refine lv_iconst (v := 0) hx hb dX7_hasWeightsAbove_22 (by decide) ?_
            replace h := Option.some.inj h
            subst h
            exact q_retz (v := (0 : Int32)) X Y hr hlocks rfl (Nat.le_of_ble_eq_true rfl) (Nat.le_of_ble_eq_true rfl) dX7_hasWeightsAbove_23
          · replace h := Eq.trans (if_neg c8).symm h
            refine lv_iconst (v := 1) hx hb dX7_hasWeightsAbove_18 (by decide) ?_
            refine lv_goto (tgt := 23) hx hb dX7_hasWeightsAbove_19 (by decide) ?_
            replace h := Option.some.inj h
            subst h
            exact q_retz (v := (1 : Int32)) X Y hr hlocks rfl (Nat.le_of_ble_eq_true rfl) (Nat.le_of_ble_eq_true rfl) dX7_hasWeightsAbove_23
        replace h := Eq.trans (if_neg c6).symm h
        cases h
      replace h := Eq.trans (if_neg c4).symm h
      cases h
  replace h := Eq.trans (if_neg c1).symm h
  cases h
/-! NeverBelow$SpanProof.spanDivisor()J -/
abbrev rm_X7_spanDivisor : Room := { frames := 1, cells := 0, slots := 0, locals := 20 }
def F_X7_spanDivisor (f : xHp) (h0 : Nat) : Option (Int64) := Option.bind (hN f h0 [(6, 3)]) fun v1 => if hKd f h0 = some 6 then (Option.bind (F_X7_spanFrom f h0) fun q3 => Option.bind (hJld f v1 (q3 + (1 : Int32))) fun v4 => some ((65536 : Int64) * v4)) else none
set_option maxRecDepth 100000 in
set_option maxHeartbeats 4000000 in
theorem c_X7_spanDivisor (l : Launch) (G : xG) (z : Nat) (f : xHp) (h0 : Nat) (rs : Int64) (h : F_X7_spanDivisor f h0 = some rs) : xM G l yX7_spanDivisor cX7_spanDivisor 1 (some .long) rm_X7_spanDivisor [.ref h0] z f (some (.long rs)) z f := by
  refine xM_of (by decide) (Nat.le_of_ble_eq_true rfl) ?_
  intro p e s m below meth c ls X hr hlocks hin Y hl
  have hl : lv_has ls 1 [(0, .ref h0)] := hl
  have hx := X.1.1
  have hb := X.1.2.1
  unfold F_X7_spanDivisor at h
  refine lv_ldc2 (v := 65536) hx hb X.1.2.2.2.1 (X.1.2.2.2.2 _ xw_709) dX7_spanDivisor_0 ?_
  refine lv_aload_n hx hb dX7_spanDivisor_3 rfl (lv_at hl 0 rfl) ?_
  replace h := xb h
  obtain ⟨v1, ev1, h⟩ := h
  refine q_getN X Y fl_X7_9 ev1 dX7_spanDivisor_4 ?_
  refine lv_aload_n hx hb dX7_spanDivisor_7 rfl (lv_at hl 0 rfl) ?_
  by_cases c2 : hKd f h0 = some 6
  · replace h := Eq.trans (if_pos c2).symm h
    replace h := xb h
    obtain ⟨q3, eq3, h⟩ := h
    refine q_callV X Y hl.1 (rest := [.ref v1, .long (65536 : Int64)]) (As := []) (c_X7_spanFrom l G z f h0 _ eq3) cd_X7_spanFrom lv_X7_15_6 c2 ⟨(Nat.le_of_ble_eq_true rfl), (Nat.le_of_ble_eq_true rfl)⟩ ⟨(Nat.le_of_ble_eq_true rfl), (Nat.le_of_ble_eq_true rfl)⟩ rfl rfl (Nat.le_of_ble_eq_true rfl) dX7_spanDivisor_8 (fun H locs Y => ?_)
    refine W.eq (g2 := F0 m 11 ls [.int q3, .ref v1, .long (65536 : Int64)]) rfl ?_
    refine lv_iconst (v := 1) hx hb dX7_spanDivisor_11 (by decide) ?_
    refine lv_iadd hx hb dX7_spanDivisor_12 ?_
    replace h := xb h
    obtain ⟨v4, ev4, h⟩ := h
    refine q_lald X Y ev4 dX7_spanDivisor_13 ?_
    refine lv_lmul hx hb dX7_spanDivisor_14 ?_
    replace h := Option.some.inj h
    subst h
    exact q_retl X Y hr hlocks (Nat.le_of_ble_eq_true rfl) (Nat.le_of_ble_eq_true rfl) dX7_spanDivisor_15
  replace h := Eq.trans (if_neg c2).symm h
  cases h
/-! NeverBelow$SpanProof.spanTerm(I)J -/
abbrev rm_X7_spanTerm : Room := { frames := 1, cells := 0, slots := 0, locals := 20 }
def F_X7_spanTerm (f : xHp) (h0 : Nat) (p1 : Int32) : Option (Int64) := Option.bind (hN f h0 [(6, 3)]) fun v1 => if hKd f h0 = some 6 then (Option.bind (F_X7_spanFrom f h0) fun q3 => Option.bind (hJld f v1 (q3 + (2 : Int32))) fun v4 => Option.bind (hN f h0 [(6, 3)]) fun v5 => if hKd f h0 = some 6 then (Option.bind (F_X7_spanFrom f h0) fun q7 => Option.bind (hJld f v5 (q7 + (3 : Int32))) fun v8 => if p1 = 0 then some ((-v4) * v8) else if p1 = 3 then some ((256 : Int64) * (v4 + v8)) else if p1 = 6 then some (-65536 : Int64) else some (0 : Int64)) else none) else none
set_option maxRecDepth 100000 in
set_option maxHeartbeats 4000000 in
theorem c_X7_spanTerm (l : Launch) (G : xG) (z : Nat) (f : xHp) (h0 : Nat) (p1 : Int32) (rs : Int64) (h : F_X7_spanTerm f h0 p1 = some rs) : xM G l yX7_spanTerm cX7_spanTerm 6 (some .long) rm_X7_spanTerm [.ref h0, .int p1] z f (some (.long rs)) z f := by
  refine xM_of (by decide) (Nat.le_of_ble_eq_true rfl) ?_
  intro p e s m below meth c ls X hr hlocks hin Y hl
  have hl : lv_has ls 6 [(0, .ref h0), (1, .int p1)] := hl
  have hx := X.1.1
  have hb := X.1.2.1
  unfold F_X7_spanTerm at h
  refine lv_aload_n hx hb dX7_spanTerm_0 rfl (lv_at hl 0 rfl) ?_
  replace h := xb h
  obtain ⟨v1, ev1, h⟩ := h
  refine q_getN X Y fl_X7_9 ev1 dX7_spanTerm_1 ?_
  refine lv_aload_n hx hb dX7_spanTerm_4 rfl (lv_at hl 0 rfl) ?_
  by_cases c2 : hKd f h0 = some 6
  · replace h := Eq.trans (if_pos c2).symm h
    replace h := xb h
    obtain ⟨q3, eq3, h⟩ := h
    refine q_callV X Y hl.1 (rest := [.ref v1]) (As := []) (c_X7_spanFrom l G z f h0 _ eq3) cd_X7_spanFrom lv_X7_15_6 c2 ⟨(Nat.le_of_ble_eq_true rfl), (Nat.le_of_ble_eq_true rfl)⟩ ⟨(Nat.le_of_ble_eq_true rfl), (Nat.le_of_ble_eq_true rfl)⟩ rfl rfl (Nat.le_of_ble_eq_true rfl) dX7_spanTerm_5 (fun H locs Y => ?_)
    refine W.eq (g2 := F0 m 8 ls [.int q3, .ref v1]) rfl ?_
    refine lv_iconst (v := 2) hx hb dX7_spanTerm_8 (by decide) ?_
    refine lv_iadd hx hb dX7_spanTerm_9 ?_
    replace h := xb h
    obtain ⟨v4, ev4, h⟩ := h
    refine q_lald X Y ev4 dX7_spanTerm_10 ?_
    refine lv_lstore_n (lv' := [(2, .long v4), (0, .ref h0), (1, .int p1)]) hx hb dX7_spanTerm_11 rfl hl (by decide) rfl (fun ls hl => ?_)
    refine lv_aload_n hx hb dX7_spanTerm_12 rfl (lv_at hl 1 rfl) ?_
    replace h := xb h
    obtain ⟨v5, ev5, h⟩ := h
    refine q_getN X Y fl_X7_9 ev5 dX7_spanTerm_13 ?_
    refine lv_aload_n hx hb dX7_spanTerm_16 rfl (lv_at hl 1 rfl) ?_
    by_cases c6 : hKd f h0 = some 6
    · replace h := Eq.trans (if_pos c6).symm h
      replace h := xb h
      obtain ⟨q7, eq7, h⟩ := h
      refine q_callV X Y hl.1 (rest := [.ref v5]) (As := []) (c_X7_spanFrom l G z f h0 _ eq7) cd_X7_spanFrom lv_X7_15_6 c6 ⟨(Nat.le_of_ble_eq_true rfl), (Nat.le_of_ble_eq_true rfl)⟩ ⟨(Nat.le_of_ble_eq_true rfl), (Nat.le_of_ble_eq_true rfl)⟩ rfl rfl (Nat.le_of_ble_eq_true rfl) dX7_spanTerm_17 (fun H locs Y => ?_)
      refine W.eq (g2 := F0 m 20 ls [.int q7, .ref v5]) rfl ?_
      refine lv_iconst (v := 3) hx hb dX7_spanTerm_20 (by decide) ?_
      refine lv_iadd hx hb dX7_spanTerm_21 ?_
      replace h := xb h
      obtain ⟨v8, ev8, h⟩ := h
      refine q_lald X Y ev8 dX7_spanTerm_22 ?_
      refine lv_lstore (lv' := [(4, .long v8), (2, .long v4), (0, .ref h0), (1, .int p1)]) hx hb dX7_spanTerm_23 hl (by decide) rfl (fun ls hl => ?_)
      refine lv_iload_n hx hb dX7_spanTerm_25 rfl (lv_at hl 3 rfl) ?_
      by_cases c9 : p1 = 0
      · replace h := Eq.trans (if_pos c9).symm h
        refine lv_lookup (off := 34) (tgt := 60) hx hb dX7_spanTerm_26 (by decide) (by first | (rw [c9]; done) | (rw [c9]; rfl)) (by decide) ?_
        refine lv_lload_n hx hb dX7_spanTerm_60 rfl (lv_at hl 1 rfl) ?_
        refine lv_lneg hx hb dX7_spanTerm_61 ?_
        refine lv_lload hx hb dX7_spanTerm_62 (lv_at hl 0 rfl) ?_
        refine lv_lmul hx hb dX7_spanTerm_64 ?_
        replace h := Option.some.inj h
        subst h
        exact q_retl X Y hr hlocks (Nat.le_of_ble_eq_true rfl) (Nat.le_of_ble_eq_true rfl) dX7_spanTerm_65
      replace h := Eq.trans (if_neg c9).symm h
      by_cases c10 : p1 = 3
      · replace h := Eq.trans (if_pos c10).symm h
        refine lv_lookup (off := 40) (tgt := 66) hx hb dX7_spanTerm_26 (by decide) (by first | (rw [c10]; done) | (rw [c10]; rfl)) (by decide) ?_
        refine lv_ldc2 (v := 256) hx hb X.1.2.2.2.1 (X.1.2.2.2.2 _ xw_736) dX7_spanTerm_66 ?_
        refine lv_lload_n hx hb dX7_spanTerm_69 rfl (lv_at hl 1 rfl) ?_
        refine lv_lload hx hb dX7_spanTerm_70 (lv_at hl 0 rfl) ?_
        refine lv_ladd hx hb dX7_spanTerm_72 ?_
        refine lv_lmul hx hb dX7_spanTerm_73 ?_
        replace h := Option.some.inj h
        subst h
        exact q_retl X Y hr hlocks (Nat.le_of_ble_eq_true rfl) (Nat.le_of_ble_eq_true rfl) dX7_spanTerm_74
      replace h := Eq.trans (if_neg c10).symm h
      by_cases c11 : p1 = 6
      · replace h := Eq.trans (if_pos c11).symm h
        refine lv_lookup (off := 49) (tgt := 75) hx hb dX7_spanTerm_26 (by decide) (by first | (rw [c11]; done) | (rw [c11]; rfl)) (by decide) ?_
        refine lv_ldc2 (v := -65536) hx hb X.1.2.2.2.1 (X.1.2.2.2.2 _ xw_737) dX7_spanTerm_75 ?_
        replace h := Option.some.inj h
        subst h
        exact q_retl X Y hr hlocks (Nat.le_of_ble_eq_true rfl) (Nat.le_of_ble_eq_true rfl) dX7_spanTerm_78
      replace h := Eq.trans (if_neg c11).symm h
      refine lv_lookup (off := 53) (tgt := 79) hx hb dX7_spanTerm_26 (by decide) (by show Op.lookupswitch.offset [((0 : Int), (34 : Int)), ((3 : Int), (40 : Int)), ((6 : Int), (49 : Int))] _ _ = _; first | (rw [lv_osw c9 (by decide), lv_osw c10 (by decide), lv_osw c11 (by decide)]; done) | (rw [lv_osw c9 (by decide), lv_osw c10 (by decide), lv_osw c11 (by decide)]; rfl)) (by decide) ?_
      refine lv_lconst (v := 0) hx hb dX7_spanTerm_79 (by decide) ?_
      replace h := Option.some.inj h
      subst h
      exact q_retl X Y hr hlocks (Nat.le_of_ble_eq_true rfl) (Nat.le_of_ble_eq_true rfl) dX7_spanTerm_80
    replace h := Eq.trans (if_neg c6).symm h
    cases h
  replace h := Eq.trans (if_neg c2).symm h
  cases h
/-! NeverBelow$Whole.turnSign()V -/
abbrev rm_X9_turnSign : Room := { frames := 0, cells := 0, slots := 0, locals := 0 }
def F_X9_turnSign_4 (k4 : xHp → Nat → Int64 → Int32 → Option (xHp)) (f : xHp) (a0 : Nat) (a1 : Int64) (a3 : Int32) : Option (xHp) := Option.bind (hN f a0 [(8, 0)]) fun v1 => Option.bind (hLen f v1) fun v2 => if v2 ≤ a3 then (some f) else (Option.bind (hN f a0 [(8, 0)]) fun v4 => Option.bind (hIld f v4 a3) fun v5 => Option.bind (hN f a0 [(8, 0)]) fun v6 => Option.bind (hIst f v6 a3 (a1 + ((v5 ^^^ (-1 : Int32)).toInt64 &&& (4294967295 : Int64))).toInt32) fun f7 => k4 f7 a0 ((a1 + ((v5 ^^^ (-1 : Int32)).toInt64 &&& (4294967295 : Int64))).toUInt64 >>> ((32 : Int32).toInt64.toUInt64 &&& Int64.toUInt64 63)).toInt64 (a3 + 1))
def L_X9_turnSign_4  : Nat → xHp → Nat → Int64 → Int32 → Option (xHp)
  | 0, _, _, _, _ => none
  | n + 1, f, a0, a1, a3 => F_X9_turnSign_4 (L_X9_turnSign_4  n) f a0 a1 a3
def F_X9_turnSign (f : xHp) (h0 : Nat) : Option (xHp) := L_X9_turnSign_4 xfuel f h0 (1 : Int64) (0 : Int32)
set_option maxRecDepth 100000 in
set_option maxHeartbeats 4000000 in
theorem w_X9_turnSign_4 {p : Program} {l : Launch} {e : Env} {s : State} {m : MethodId} {args : Array Value} {below : List Frame} {meth : Method} {c : Code} {G : xG} {z : Nat} (X : xC G p m c s args RX9 cX9_turnSign 4) (hr : meth.sig.returnType = none) (hlocks : meth.locks = false) (hin : meth.name = yX9_turnSign.name) (rs : xHp) (k4 : xHp → Nat → Int64 → Int32 → Option (xHp)) (hk4 : ∀ (f : xHp) (a0 : Nat) (a1 : Int64) (a3 : Int32) (H : Heap) (locs : List Loc) (ls : Array Slot), k4 f a0 a1 a3 = some rs → xY G z f s H locs → lv_has ls 4 [(0, .ref a0), (1, .long a1), (3, .int a3)] → W p l e rm_X9_turnSign s m args below meth c H locs 0 0 (MQ below (xQ G none z rs) args s rm_X9_turnSign.cells rm_X9_turnSign.slots (xA G)) (F0 m 4 ls [])) (f : xHp) (a0 : Nat) (a1 : Int64) (a3 : Int32) (H : Heap) (locs : List Loc) (ls : Array Slot) (h : F_X9_turnSign_4 k4 f a0 a1 a3 = some rs) (Y : xY G z f s H locs) (hl : lv_has ls 4 [(0, .ref a0), (1, .long a1), (3, .int a3)]) : W p l e rm_X9_turnSign s m args below meth c H locs 0 0 (MQ below (xQ G none z rs) args s rm_X9_turnSign.cells rm_X9_turnSign.slots (xA G)) (F0 m 4 ls []) := by
  have hx := X.1.1
  have hb := X.1.2.1
  unfold F_X9_turnSign_4 at h
  refine lv_iload_n hx hb dX9_turnSign_4 rfl (lv_at hl 2 rfl) ?_
  refine lv_aload_n hx hb dX9_turnSign_5 rfl (lv_at hl 0 rfl) ?_
  replace h := xb h
  obtain ⟨v1, ev1, h⟩ := h
  refine q_getN X Y fl_X9_7 ev1 dX9_turnSign_6 ?_
  replace h := xb h
  obtain ⟨v2, ev2, h⟩ := h
  refine q_alen X Y ev2 dX9_turnSign_9 ?_
  refine lv_icmp_ge (tgt := 48) hx hb dX9_turnSign_10 (by decide) (fun c3 => ?_) (fun c3 => ?_)
  · replace h := Eq.trans (if_pos c3).symm h
    replace h := Option.some.inj h
    subst h
    exact q_retv X Y hr hlocks (Nat.le_of_ble_eq_true rfl) (Nat.le_of_ble_eq_true rfl) dX9_turnSign_48
  · replace h := Eq.trans (if_neg c3).symm h
    refine lv_lload_n hx hb dX9_turnSign_13 rfl (lv_at hl 1 rfl) ?_
    refine lv_aload_n hx hb dX9_turnSign_14 rfl (lv_at hl 0 rfl) ?_
    replace h := xb h
    obtain ⟨v4, ev4, h⟩ := h
    refine q_getN X Y fl_X9_7 ev4 dX9_turnSign_15 ?_
    refine lv_iload_n hx hb dX9_turnSign_18 rfl (lv_at hl 2 rfl) ?_
    replace h := xb h
    obtain ⟨v5, ev5, h⟩ := h
    refine q_iald X Y ev5 dX9_turnSign_19 ?_
    refine lv_iconst (v := -1) hx hb dX9_turnSign_20 (by decide) ?_
    refine lv_ixor hx hb dX9_turnSign_21 ?_
    refine lv_i2l hx hb dX9_turnSign_22 rfl ?_
    refine lv_ldc2 (v := 4294967295) hx hb X.1.2.2.2.1 (X.1.2.2.2.2 _ xw_697) dX9_turnSign_23 ?_
    refine lv_land hx hb dX9_turnSign_26 ?_
    refine lv_ladd hx hb dX9_turnSign_27 ?_
    refine lv_lstore_n (lv' := [(1, .long (a1 + ((v5 ^^^ (-1 : Int32)).toInt64 &&& (4294967295 : Int64)))), (0, .ref a0), (3, .int a3)]) hx hb dX9_turnSign_28 rfl hl (by decide) rfl (fun ls hl => ?_)
    refine lv_aload_n hx hb dX9_turnSign_29 rfl (lv_at hl 1 rfl) ?_
    replace h := xb h
    obtain ⟨v6, ev6, h⟩ := h
    refine q_getN X Y fl_X9_7 ev6 dX9_turnSign_30 ?_
    refine lv_iload_n hx hb dX9_turnSign_33 rfl (lv_at hl 2 rfl) ?_
    refine lv_lload_n hx hb dX9_turnSign_34 rfl (lv_at hl 0 rfl) ?_
    refine lv_l2i hx hb dX9_turnSign_35 rfl ?_
    replace h := xb h
    obtain ⟨f7, ef7, h⟩ := h
    refine q_iast X Y ef7 dX9_turnSign_36 (fun H locs Y => ?_)
    refine lv_lload_n hx hb dX9_turnSign_37 rfl (lv_at hl 0 rfl) ?_
    refine lv_bipush (v := 32) hx hb dX9_turnSign_38 (by decide) ?_
    refine lv_lushr hx hb dX9_turnSign_40 rfl ?_
    refine lv_lstore_n (lv' := [(1, .long ((a1 + ((v5 ^^^ (-1 : Int32)).toInt64 &&& (4294967295 : Int64))).toUInt64 >>> ((32 : Int32).toInt64.toUInt64 &&& Int64.toUInt64 63)).toInt64), (0, .ref a0), (3, .int a3)]) hx hb dX9_turnSign_41 rfl hl (by decide) rfl (fun ls hl => ?_)
    refine lv_iinc (v := (a3 + 1)) (lv' := [(3, .int (a3 + 1)), (1, .long ((a1 + ((v5 ^^^ (-1 : Int32)).toInt64 &&& (4294967295 : Int64))).toUInt64 >>> ((32 : Int32).toInt64.toUInt64 &&& Int64.toUInt64 63)).toInt64), (0, .ref a0)]) hx hb dX9_turnSign_42 hl (k := 2) rfl rfl (by decide) rfl (fun ls hl => ?_)
    refine lv_goto (tgt := 4) hx hb dX9_turnSign_45 (by decide) ?_
    refine W.widen (k := 0) (n := 0) (Nat.le_of_ble_eq_true rfl) (Nat.le_of_ble_eq_true rfl) ?_
    exact hk4 f7 a0 ((a1 + ((v5 ^^^ (-1 : Int32)).toInt64 &&& (4294967295 : Int64))).toUInt64 >>> ((32 : Int32).toInt64.toUInt64 &&& Int64.toUInt64 63)).toInt64 (a3 + 1) _ _ _ h Y (lv_sub hl [2, 1, 0] rfl)
set_option maxRecDepth 100000 in
set_option maxHeartbeats 4000000 in
theorem lw_X9_turnSign_4 {p : Program} {l : Launch} {e : Env} {s : State} {m : MethodId} {args : Array Value} {below : List Frame} {meth : Method} {c : Code} {G : xG} {z : Nat} (X : xC G p m c s args RX9 cX9_turnSign 4) (hr : meth.sig.returnType = none) (hlocks : meth.locks = false) (hin : meth.name = yX9_turnSign.name) (rs : xHp)  : ∀ (n : Nat) (f : xHp) (a0 : Nat) (a1 : Int64) (a3 : Int32) (H : Heap) (locs : List Loc) (ls : Array Slot), L_X9_turnSign_4  n f a0 a1 a3 = some rs → xY G z f s H locs → lv_has ls 4 [(0, .ref a0), (1, .long a1), (3, .int a3)] → W p l e rm_X9_turnSign s m args below meth c H locs 0 0 (MQ below (xQ G none z rs) args s rm_X9_turnSign.cells rm_X9_turnSign.slots (xA G)) (F0 m 4 ls []) := by
  intro n
  induction n with
  | zero => intro f a0 a1 a3 H locs ls h Y hl; cases h
  | succ n ih => intro f a0 a1 a3 H locs ls h Y hl; exact w_X9_turnSign_4 X hr hlocks hin rs _ ih f a0 a1 a3 _ _ _ h Y hl
set_option maxRecDepth 100000 in
set_option maxHeartbeats 4000000 in
theorem c_X9_turnSign (l : Launch) (G : xG) (z : Nat) (f : xHp) (h0 : Nat) (rs : xHp) (h : F_X9_turnSign f h0 = some rs) : xM G l yX9_turnSign cX9_turnSign 4 none rm_X9_turnSign [.ref h0] z f none z rs := by
  refine xM_of (by decide) (Nat.le_of_ble_eq_true rfl) ?_
  intro p e s m below meth c ls X hr hlocks hin Y hl
  have hl : lv_has ls 4 [(0, .ref h0)] := hl
  have hx := X.1.1
  have hb := X.1.2.1
  unfold F_X9_turnSign at h
  refine lv_lconst (v := 1) hx hb dX9_turnSign_0 (by decide) ?_
  refine lv_lstore_n (lv' := [(1, .long (1 : Int64)), (0, .ref h0)]) hx hb dX9_turnSign_1 rfl hl (by decide) rfl (fun ls hl => ?_)
  refine lv_iconst (v := 0) hx hb dX9_turnSign_2 (by decide) ?_
  refine lv_istore_n (lv' := [(3, .int (0 : Int32)), (1, .long (1 : Int64)), (0, .ref h0)]) hx hb dX9_turnSign_3 rfl hl (by decide) rfl (fun ls hl => ?_)
  refine W.widen (k := 0) (n := 0) (Nat.le_of_ble_eq_true rfl) (Nat.le_of_ble_eq_true rfl) ?_
  exact lw_X9_turnSign_4 X hr hlocks hin rs  xfuel f h0 (1 : Int64) (0 : Int32) _ _ _ h Y (lv_sub hl [2, 1, 0] rfl)
/-! NeverBelow$Whole.multiplyBy(J)V -/
abbrev rm_X9_multiplyBy : Room := { frames := 1, cells := 0, slots := 0, locals := 23 }
def F_X9_multiplyBy_30 (k30 : xHp → Nat → Int64 → Int64 → Int64 → Int64 → Int64 → Int64 → Int32 → Option (xHp)) (f : xHp) (a0 : Nat) (a1 : Int64) (a5 : Int64) (a7 : Int64) (a9 : Int64) (a11 : Int64) (a13 : Int64) (a15 : Int32) : Option (xHp) := Option.bind (hN f a0 [(8, 0)]) fun v1 => Option.bind (hLen f v1) fun v2 => if v2 ≤ a15 then (if (0 : Int64) ≤ a1 then (some f) else (if hKd f a0 = some 8 then (Option.bind (F_X9_turnSign f a0) fun q6 => some q6) else none)) else (Option.bind (hN f a0 [(8, 0)]) fun v7 => Option.bind (hIld f v7 a15) fun v8 => Option.bind (hN f a0 [(8, 0)]) fun v9 => Option.bind (hIst f v9 a15 (((a13 * a7) + ((((v8.toInt64 &&& (4294967295 : Int64)) * a5) + a9) &&& (4294967295 : Int64))) + a11).toInt32) fun f10 => k30 f10 a0 a1 a5 a7 ((((v8.toInt64 &&& (4294967295 : Int64)) * a5) + a9).toUInt64 >>> ((32 : Int32).toInt64.toUInt64 &&& Int64.toUInt64 63)).toInt64 ((((a13 * a7) + ((((v8.toInt64 &&& (4294967295 : Int64)) * a5) + a9) &&& (4294967295 : Int64))) + a11).toUInt64 >>> ((32 : Int32).toInt64.toUInt64 &&& Int64.toUInt64 63)).toInt64 (v8.toInt64 &&& (4294967295 : Int64)) (a15 + 1))
def L_X9_multiplyBy_30  : Nat → xHp → Nat → Int64 → Int64 → Int64 → Int64 → Int64 → Int64 → Int32 → Option (xHp)
  | 0, _, _, _, _, _, _, _, _, _ => none
  | n + 1, f, a0, a1, a5, a7, a9, a11, a13, a15 => F_X9_multiplyBy_30 (L_X9_multiplyBy_30  n) f a0 a1 a5 a7 a9 a11 a13 a15
def F_X9_multiplyBy (f : xHp) (h0 : Nat) (p1 : Int64) : Option (xHp) := Option.bind (F_J9_abs_067f4 f p1) fun q1 => L_X9_multiplyBy_30 xfuel f h0 p1 (q1 &&& (4294967295 : Int64)) (q1.toUInt64 >>> ((32 : Int32).toInt64.toUInt64 &&& Int64.toUInt64 63)).toInt64 (0 : Int64) (0 : Int64) (0 : Int64) (0 : Int32)
set_option maxRecDepth 100000 in
set_option maxHeartbeats 4000000 in
theorem w_X9_multiplyBy_30 {p : Program} {l : Launch} {e : Env} {s : State} {m : MethodId} {args : Array Value} {below : List Frame} {meth : Method} {c : Code} {G : xG} {z : Nat} (X : xC G p m c s args RX9 cX9_multiplyBy 22) (hr : meth.sig.returnType = none) (hlocks : meth.locks = false) (hin : meth.name = yX9_multiplyBy.name) (rs : xHp) (k30 : xHp → Nat → Int64 → Int64 → Int64 → Int64 → Int64 → Int64 → Int32 → Option (xHp)) (hk30 : ∀ (f : xHp) (a0 : Nat) (a1 : Int64) (a5 : Int64) (a7 : Int64) (a9 : Int64) (a11 : Int64) (a13 : Int64) (a15 : Int32) (H : Heap) (locs : List Loc) (ls : Array Slot), k30 f a0 a1 a5 a7 a9 a11 a13 a15 = some rs → xY G z f s H locs → lv_has ls 22 [(0, .ref a0), (1, .long a1), (5, .long a5), (7, .long a7), (9, .long a9), (11, .long a11), (13, .long a13), (15, .int a15)] → W p l e rm_X9_multiplyBy s m args below meth c H locs 0 0 (MQ below (xQ G none z rs) args s rm_X9_multiplyBy.cells rm_X9_multiplyBy.slots (xA G)) (F0 m 30 ls [])) (f : xHp) (a0 : Nat) (a1 : Int64) (a5 : Int64) (a7 : Int64) (a9 : Int64) (a11 : Int64) (a13 : Int64) (a15 : Int32) (H : Heap) (locs : List Loc) (ls : Array Slot) (h : F_X9_multiplyBy_30 k30 f a0 a1 a5 a7 a9 a11 a13 a15 = some rs) (Y : xY G z f s H locs) (hl : lv_has ls 22 [(0, .ref a0), (1, .long a1), (5, .long a5), (7, .long a7), (9, .long a9), (11, .long a11), (13, .long a13), (15, .int a15)]) : W p l e rm_X9_multiplyBy s m args below meth c H locs 0 0 (MQ below (xQ G none z rs) args s rm_X9_multiplyBy.cells rm_X9_multiplyBy.slots (xA G)) (F0 m 30 ls []) := by
  have hx := X.1.1
  have hb := X.1.2.1
  unfold F_X9_multiplyBy_30 at h
  refine lv_iload hx hb dX9_multiplyBy_30 (lv_at hl 7 rfl) ?_
  refine lv_aload_n hx hb dX9_multiplyBy_32 rfl (lv_at hl 0 rfl) ?_
  replace h := xb h
  obtain ⟨v1, ev1, h⟩ := h
  refine q_getN X Y fl_X9_7 ev1 dX9_multiplyBy_33 ?_
  replace h := xb h
  obtain ⟨v2, ev2, h⟩ := h
  refine q_alen X Y ev2 dX9_multiplyBy_36 ?_
  refine lv_icmp_ge (tgt := 115) hx hb dX9_multiplyBy_37 (by decide) (fun c3 => ?_) (fun c3 => ?_)
  · replace h := Eq.trans (if_pos c3).symm h
    refine lv_lload_n hx hb dX9_multiplyBy_115 rfl (lv_at hl 1 rfl) ?_
    refine lv_lconst (v := 0) hx hb dX9_multiplyBy_116 (by decide) ?_
    refine q_lcmp_ge (tgt := 125) hx hb dX9_multiplyBy_117 dX9_multiplyBy_118 (by decide) (fun c4 => ?_) (fun c4 => ?_)
    · replace h := Eq.trans (if_pos c4).symm h
      replace h := Option.some.inj h
      subst h
      exact q_retv X Y hr hlocks (Nat.le_of_ble_eq_true rfl) (Nat.le_of_ble_eq_true rfl) dX9_multiplyBy_125
    · replace h := Eq.trans (if_neg c4).symm h
      refine lv_aload_n hx hb dX9_multiplyBy_121 rfl (lv_at hl 0 rfl) ?_
      by_cases c5 : hKd f a0 = some 8
      · replace h := Eq.trans (if_pos c5).symm h
        replace h := xb h
        obtain ⟨q6, eq6, h⟩ := h
        refine q_callV X Y hl.1 (rest := []) (As := []) (c_X9_turnSign l G z f a0 _ eq6) cd_X9_turnSign lv_X9_27_8 c5 ⟨(Nat.le_of_ble_eq_true rfl), (Nat.le_of_ble_eq_true rfl)⟩ ⟨(Nat.le_of_ble_eq_true rfl), (Nat.le_of_ble_eq_true rfl)⟩ rfl rfl (Nat.le_of_ble_eq_true rfl) dX9_multiplyBy_122 (fun H locs Y => ?_)
        refine W.eq (g2 := F0 m 125 ls []) rfl ?_
        replace h := Option.some.inj h
        subst h
        exact q_retv X Y hr hlocks (Nat.le_of_ble_eq_true rfl) (Nat.le_of_ble_eq_true rfl) dX9_multiplyBy_125
      replace h := Eq.trans (if_neg c5).symm h
      cases h
  · replace h := Eq.trans (if_neg c3).symm h
    refine lv_aload_n hx hb dX9_multiplyBy_40 rfl (lv_at hl 0 rfl) ?_
    replace h := xb h
    obtain ⟨v7, ev7, h⟩ := h
    refine q_getN X Y fl_X9_7 ev7 dX9_multiplyBy_41 ?_
    refine lv_iload hx hb dX9_multiplyBy_44 (lv_at hl 7 rfl) ?_
    replace h := xb h
    obtain ⟨v8, ev8, h⟩ := h
    refine q_iald X Y ev8 dX9_multiplyBy_46 ?_
    refine lv_i2l hx hb dX9_multiplyBy_47 rfl ?_
    refine lv_ldc2 (v := 4294967295) hx hb X.1.2.2.2.1 (X.1.2.2.2.2 _ xw_697) dX9_multiplyBy_48 ?_
    refine lv_land hx hb dX9_multiplyBy_51 ?_
    refine lv_lstore (lv' := [(16, .long (v8.toInt64 &&& (4294967295 : Int64))), (0, .ref a0), (1, .long a1), (5, .long a5), (7, .long a7), (9, .long a9), (11, .long a11), (13, .long a13), (15, .int a15)]) hx hb dX9_multiplyBy_52 hl (by decide) rfl (fun ls hl => ?_)
    refine lv_lload hx hb dX9_multiplyBy_54 (lv_at hl 0 rfl) ?_
    refine lv_lload hx hb dX9_multiplyBy_56 (lv_at hl 3 rfl) ?_
    refine lv_lmul hx hb dX9_multiplyBy_58 ?_
    refine lv_lload hx hb dX9_multiplyBy_59 (lv_at hl 5 rfl) ?_
    refine lv_ladd hx hb dX9_multiplyBy_61 ?_
    refine lv_lstore (lv' := [(18, .long (((v8.toInt64 &&& (4294967295 : Int64)) * a5) + a9)), (16, .long (v8.toInt64 &&& (4294967295 : Int64))), (0, .ref a0), (1, .long a1), (5, .long a5), (7, .long a7), (9, .long a9), (11, .long a11), (13, .long a13), (15, .int a15)]) hx hb dX9_multiplyBy_62 hl (by decide) rfl (fun ls hl => ?_)
    refine lv_lload hx hb dX9_multiplyBy_64 (lv_at hl 8 rfl) ?_
    refine lv_lload hx hb dX9_multiplyBy_66 (lv_at hl 5 rfl) ?_
    refine lv_lmul hx hb dX9_multiplyBy_68 ?_
    refine lv_lload hx hb dX9_multiplyBy_69 (lv_at hl 0 rfl) ?_
    refine lv_ldc2 (v := 4294967295) hx hb X.1.2.2.2.1 (X.1.2.2.2.2 _ xw_697) dX9_multiplyBy_71 ?_
    refine lv_land hx hb dX9_multiplyBy_74 ?_
    refine lv_ladd hx hb dX9_multiplyBy_75 ?_
    refine lv_lload hx hb dX9_multiplyBy_76 (lv_at hl 7 rfl) ?_
    refine lv_ladd hx hb dX9_multiplyBy_78 ?_
    refine lv_lstore (lv' := [(20, .long (((a13 * a7) + ((((v8.toInt64 &&& (4294967295 : Int64)) * a5) + a9) &&& (4294967295 : Int64))) + a11)), (18, .long (((v8.toInt64 &&& (4294967295 : Int64)) * a5) + a9)), (16, .long (v8.toInt64 &&& (4294967295 : Int64))), (0, .ref a0), (1, .long a1), (5, .long a5), (7, .long a7), (9, .long a9), (11, .long a11), (13, .long a13), (15, .int a15)]) hx hb dX9_multiplyBy_79 hl (by decide) rfl (fun ls hl => ?_)
    refine lv_aload_n hx hb dX9_multiplyBy_81 rfl (lv_at hl 3 rfl) ?_
    replace h := xb h
    obtain ⟨v9, ev9, h⟩ := h
    refine q_getN X Y fl_X9_7 ev9 dX9_multiplyBy_82 ?_
    refine lv_iload hx hb dX9_multiplyBy_85 (lv_at hl 10 rfl) ?_
    refine lv_lload hx hb dX9_multiplyBy_87 (lv_at hl 0 rfl) ?_
    refine lv_l2i hx hb dX9_multiplyBy_89 rfl ?_
    replace h := xb h
    obtain ⟨f10, ef10, h⟩ := h
    refine q_iast X Y ef10 dX9_multiplyBy_90 (fun H locs Y => ?_)
    refine lv_lload hx hb dX9_multiplyBy_91 (lv_at hl 1 rfl) ?_
    refine lv_bipush (v := 32) hx hb dX9_multiplyBy_93 (by decide) ?_
    refine lv_lushr hx hb dX9_multiplyBy_95 rfl ?_
    refine lv_lstore (lv' := [(9, .long ((((v8.toInt64 &&& (4294967295 : Int64)) * a5) + a9).toUInt64 >>> ((32 : Int32).toInt64.toUInt64 &&& Int64.toUInt64 63)).toInt64), (20, .long (((a13 * a7) + ((((v8.toInt64 &&& (4294967295 : Int64)) * a5) + a9) &&& (4294967295 : Int64))) + a11)), (18, .long (((v8.toInt64 &&& (4294967295 : Int64)) * a5) + a9)), (16, .long (v8.toInt64 &&& (4294967295 : Int64))), (0, .ref a0), (1, .long a1), (5, .long a5), (7, .long a7), (11, .long a11), (13, .long a13), (15, .int a15)]) hx hb dX9_multiplyBy_96 hl (by decide) rfl (fun ls hl => ?_)
    refine lv_lload hx hb dX9_multiplyBy_98 (lv_at hl 1 rfl) ?_
    refine lv_bipush (v := 32) hx hb dX9_multiplyBy_100 (by decide) ?_
    refine lv_lushr hx hb dX9_multiplyBy_102 rfl ?_
    refine lv_lstore (lv' := [(11, .long ((((a13 * a7) + ((((v8.toInt64 &&& (4294967295 : Int64)) * a5) + a9) &&& (4294967295 : Int64))) + a11).toUInt64 >>> ((32 : Int32).toInt64.toUInt64 &&& Int64.toUInt64 63)).toInt64), (9, .long ((((v8.toInt64 &&& (4294967295 : Int64)) * a5) + a9).toUInt64 >>> ((32 : Int32).toInt64.toUInt64 &&& Int64.toUInt64 63)).toInt64), (20, .long (((a13 * a7) + ((((v8.toInt64 &&& (4294967295 : Int64)) * a5) + a9) &&& (4294967295 : Int64))) + a11)), (18, .long (((v8.toInt64 &&& (4294967295 : Int64)) * a5) + a9)), (16, .long (v8.toInt64 &&& (4294967295 : Int64))), (0, .ref a0), (1, .long a1), (5, .long a5), (7, .long a7), (13, .long a13), (15, .int a15)]) hx hb dX9_multiplyBy_103 hl (by decide) rfl (fun ls hl => ?_)
    refine lv_lload hx hb dX9_multiplyBy_105 (lv_at hl 4 rfl) ?_
    refine lv_lstore (lv' := [(13, .long (v8.toInt64 &&& (4294967295 : Int64))), (11, .long ((((a13 * a7) + ((((v8.toInt64 &&& (4294967295 : Int64)) * a5) + a9) &&& (4294967295 : Int64))) + a11).toUInt64 >>> ((32 : Int32).toInt64.toUInt64 &&& Int64.toUInt64 63)).toInt64), (9, .long ((((v8.toInt64 &&& (4294967295 : Int64)) * a5) + a9).toUInt64 >>> ((32 : Int32).toInt64.toUInt64 &&& Int64.toUInt64 63)).toInt64), (20, .long (((a13 * a7) + ((((v8.toInt64 &&& (4294967295 : Int64)) * a5) + a9) &&& (4294967295 : Int64))) + a11)), (18, .long (((v8.toInt64 &&& (4294967295 : Int64)) * a5) + a9)), (16, .long (v8.toInt64 &&& (4294967295 : Int64))), (0, .ref a0), (1, .long a1), (5, .long a5), (7, .long a7), (15, .int a15)]) hx hb dX9_multiplyBy_107 hl (by decide) rfl (fun ls hl => ?_)
    refine lv_iinc (v := (a15 + 1)) (lv' := [(15, .int (a15 + 1)), (13, .long (v8.toInt64 &&& (4294967295 : Int64))), (11, .long ((((a13 * a7) + ((((v8.toInt64 &&& (4294967295 : Int64)) * a5) + a9) &&& (4294967295 : Int64))) + a11).toUInt64 >>> ((32 : Int32).toInt64.toUInt64 &&& Int64.toUInt64 63)).toInt64), (9, .long ((((v8.toInt64 &&& (4294967295 : Int64)) * a5) + a9).toUInt64 >>> ((32 : Int32).toInt64.toUInt64 &&& Int64.toUInt64 63)).toInt64), (20, .long (((a13 * a7) + ((((v8.toInt64 &&& (4294967295 : Int64)) * a5) + a9) &&& (4294967295 : Int64))) + a11)), (18, .long (((v8.toInt64 &&& (4294967295 : Int64)) * a5) + a9)), (16, .long (v8.toInt64 &&& (4294967295 : Int64))), (0, .ref a0), (1, .long a1), (5, .long a5), (7, .long a7)]) hx hb dX9_multiplyBy_109 hl (k := 10) rfl rfl (by decide) rfl (fun ls hl => ?_)
    refine lv_goto (tgt := 30) hx hb dX9_multiplyBy_112 (by decide) ?_
    refine W.widen (k := 0) (n := 0) (Nat.le_of_ble_eq_true rfl) (Nat.le_of_ble_eq_true rfl) ?_
    exact hk30 f10 a0 a1 a5 a7 ((((v8.toInt64 &&& (4294967295 : Int64)) * a5) + a9).toUInt64 >>> ((32 : Int32).toInt64.toUInt64 &&& Int64.toUInt64 63)).toInt64 ((((a13 * a7) + ((((v8.toInt64 &&& (4294967295 : Int64)) * a5) + a9) &&& (4294967295 : Int64))) + a11).toUInt64 >>> ((32 : Int32).toInt64.toUInt64 &&& Int64.toUInt64 63)).toInt64 (v8.toInt64 &&& (4294967295 : Int64)) (a15 + 1) _ _ _ h Y (lv_sub hl [7, 8, 9, 10, 3, 2, 1, 0] rfl)
set_option maxRecDepth 100000 in
set_option maxHeartbeats 4000000 in
theorem lw_X9_multiplyBy_30 {p : Program} {l : Launch} {e : Env} {s : State} {m : MethodId} {args : Array Value} {below : List Frame} {meth : Method} {c : Code} {G : xG} {z : Nat} (X : xC G p m c s args RX9 cX9_multiplyBy 22) (hr : meth.sig.returnType = none) (hlocks : meth.locks = false) (hin : meth.name = yX9_multiplyBy.name) (rs : xHp)  : ∀ (n : Nat) (f : xHp) (a0 : Nat) (a1 : Int64) (a5 : Int64) (a7 : Int64) (a9 : Int64) (a11 : Int64) (a13 : Int64) (a15 : Int32) (H : Heap) (locs : List Loc) (ls : Array Slot), L_X9_multiplyBy_30  n f a0 a1 a5 a7 a9 a11 a13 a15 = some rs → xY G z f s H locs → lv_has ls 22 [(0, .ref a0), (1, .long a1), (5, .long a5), (7, .long a7), (9, .long a9), (11, .long a11), (13, .long a13), (15, .int a15)] → W p l e rm_X9_multiplyBy s m args below meth c H locs 0 0 (MQ below (xQ G none z rs) args s rm_X9_multiplyBy.cells rm_X9_multiplyBy.slots (xA G)) (F0 m 30 ls []) := by
  intro n
  induction n with
  | zero => intro f a0 a1 a5 a7 a9 a11 a13 a15 H locs ls h Y hl; cases h
  | succ n ih => intro f a0 a1 a5 a7 a9 a11 a13 a15 H locs ls h Y hl; exact w_X9_multiplyBy_30 X hr hlocks hin rs _ ih f a0 a1 a5 a7 a9 a11 a13 a15 _ _ _ h Y hl
set_option maxRecDepth 100000 in
set_option maxHeartbeats 4000000 in
theorem c_X9_multiplyBy (l : Launch) (G : xG) (z : Nat) (f : xHp) (h0 : Nat) (p1 : Int64) (rs : xHp) (h : F_X9_multiplyBy f h0 p1 = some rs) : xM G l yX9_multiplyBy cX9_multiplyBy 22 none rm_X9_multiplyBy [.ref h0, .long p1] z f none z rs := by
  refine xM_of (by decide) (Nat.le_of_ble_eq_true rfl) ?_
  intro p e s m below meth c ls X hr hlocks hin Y hl
  have hl : lv_has ls 22 [(0, .ref h0), (1, .long p1)] := hl
  have hx := X.1.1
  have hb := X.1.2.1
  unfold F_X9_multiplyBy at h
  refine lv_lload_n hx hb dX9_multiplyBy_0 rfl (lv_at hl 1 rfl) ?_
  replace h := xb h
  obtain ⟨q1, eq1, h⟩ := h
  refine q_callS X Y hl.1 (rest := []) (As := [.long p1]) (c_J9_abs_067f4 l G z f p1 _ eq1) cd_J9_abs_067f4 ls_X9_19 ⟨(Nat.le_of_ble_eq_true rfl), (Nat.le_of_ble_eq_true rfl)⟩ ⟨(Nat.le_of_ble_eq_true rfl), (Nat.le_of_ble_eq_true rfl)⟩ rfl rfl (Nat.le_of_ble_eq_true rfl) dX9_multiplyBy_1 (fun H locs Y => ?_)
  refine W.eq (g2 := F0 m 4 ls [.long q1]) rfl ?_
  refine lv_lstore_n (lv' := [(3, .long q1), (0, .ref h0), (1, .long p1)]) hx hb dX9_multiplyBy_4 rfl hl (by decide) rfl (fun ls hl => ?_)
  refine lv_lload_n hx hb dX9_multiplyBy_5 rfl (lv_at hl 0 rfl) ?_
  refine lv_ldc2 (v := 4294967295) hx hb X.1.2.2.2.1 (X.1.2.2.2.2 _ xw_697) dX9_multiplyBy_6 ?_
  refine lv_land hx hb dX9_multiplyBy_9 ?_
  refine lv_lstore (lv' := [(5, .long (q1 &&& (4294967295 : Int64))), (3, .long q1), (0, .ref h0), (1, .long p1)]) hx hb dX9_multiplyBy_10 hl (by decide) rfl (fun ls hl => ?_)
  refine lv_lload_n hx hb dX9_multiplyBy_12 rfl (lv_at hl 1 rfl) ?_
  refine lv_bipush (v := 32) hx hb dX9_multiplyBy_13 (by decide) ?_
  refine lv_lushr hx hb dX9_multiplyBy_15 rfl ?_
  refine lv_lstore (lv' := [(7, .long (q1.toUInt64 >>> ((32 : Int32).toInt64.toUInt64 &&& Int64.toUInt64 63)).toInt64), (5, .long (q1 &&& (4294967295 : Int64))), (3, .long q1), (0, .ref h0), (1, .long p1)]) hx hb dX9_multiplyBy_16 hl (by decide) rfl (fun ls hl => ?_)
  refine lv_lconst (v := 0) hx hb dX9_multiplyBy_18 (by decide) ?_
  refine lv_lstore (lv' := [(9, .long (0 : Int64)), (7, .long (q1.toUInt64 >>> ((32 : Int32).toInt64.toUInt64 &&& Int64.toUInt64 63)).toInt64), (5, .long (q1 &&& (4294967295 : Int64))), (3, .long q1), (0, .ref h0), (1, .long p1)]) hx hb dX9_multiplyBy_19 hl (by decide) rfl (fun ls hl => ?_)
  refine lv_lconst (v := 0) hx hb dX9_multiplyBy_21 (by decide) ?_
  refine lv_lstore (lv' := [(11, .long (0 : Int64)), (9, .long (0 : Int64)), (7, .long (q1.toUInt64 >>> ((32 : Int32).toInt64.toUInt64 &&& Int64.toUInt64 63)).toInt64), (5, .long (q1 &&& (4294967295 : Int64))), (3, .long q1), (0, .ref h0), (1, .long p1)]) hx hb dX9_multiplyBy_22 hl (by decide) rfl (fun ls hl => ?_)
  refine lv_lconst (v := 0) hx hb dX9_multiplyBy_24 (by decide) ?_
  refine lv_lstore (lv' := [(13, .long (0 : Int64)), (11, .long (0 : Int64)), (9, .long (0 : Int64)), (7, .long (q1.toUInt64 >>> ((32 : Int32).toInt64.toUInt64 &&& Int64.toUInt64 63)).toInt64), (5, .long (q1 &&& (4294967295 : Int64))), (3, .long q1), (0, .ref h0), (1, .long p1)]) hx hb dX9_multiplyBy_25 hl (by decide) rfl (fun ls hl => ?_)
  refine lv_iconst (v := 0) hx hb dX9_multiplyBy_27 (by decide) ?_
  refine lv_istore (lv' := [(15, .int (0 : Int32)), (13, .long (0 : Int64)), (11, .long (0 : Int64)), (9, .long (0 : Int64)), (7, .long (q1.toUInt64 >>> ((32 : Int32).toInt64.toUInt64 &&& Int64.toUInt64 63)).toInt64), (5, .long (q1 &&& (4294967295 : Int64))), (3, .long q1), (0, .ref h0), (1, .long p1)]) hx hb dX9_multiplyBy_28 hl (by decide) rfl (fun ls hl => ?_)
  refine W.widen (k := 0) (n := 0) (Nat.le_of_ble_eq_true rfl) (Nat.le_of_ble_eq_true rfl) ?_
  exact lw_X9_multiplyBy_30 X hr hlocks hin rs  xfuel f h0 p1 (q1 &&& (4294967295 : Int64)) (q1.toUInt64 >>> ((32 : Int32).toInt64.toUInt64 &&& Int64.toUInt64 63)).toInt64 (0 : Int64) (0 : Int64) (0 : Int64) (0 : Int32) _ _ _ h Y (lv_sub hl [7, 8, 5, 4, 3, 2, 1, 0] rfl)
/-! NeverBelow$SquaresProof.multiplyByOthers(LNeverBelow$Whole;I)V -/
abbrev rm_X8_multiplyByOthers : Room := { frames := 2, cells := 0, slots := 0, locals := 64 }
def F_X8_multiplyByOthers_29 (k2 : xHp → Nat → Nat → Int32 → Int32 → Option (xHp)) (f : xHp) (a0 : Nat) (a1 : Nat) (a2 : Int32) (a3 : Int32) : Option (xHp) := k2 f a0 a1 a2 (a3 + 1)
def F_X8_multiplyByOthers_2 (k2 : xHp → Nat → Nat → Int32 → Int32 → Option (xHp)) (f : xHp) (a0 : Nat) (a1 : Nat) (a2 : Int32) (a3 : Int32) : Option (xHp) := if hKd f a0 = some 6 then (Option.bind (F_X7_pieces f a0) fun q2 => if q2 ≤ a3 then (some f) else (if a3 = a2 then (F_X8_multiplyByOthers_29 k2 f a0 a1 a2 a3) else (Option.bind (hN f a0 [(6, 3), (7, 3)]) fun v5 => Option.bind (hJld f v5 (((5 : Int32) * a3) + (1 : Int32))) fun v6 => if hKd f a1 = some 8 then (Option.bind (F_X9_multiplyBy f a1 v6) fun q8 => F_X8_multiplyByOthers_29 k2 q8 a0 a1 a2 a3) else none))) else if hKd f a0 = some 7 then (Option.bind (F_X8_pieces f a0) fun q10 => if q10 ≤ a3 then (some f) else (if a3 = a2 then (F_X8_multiplyByOthers_29 k2 f a0 a1 a2 a3) else (Option.bind (hN f a0 [(6, 3), (7, 3)]) fun v13 => Option.bind (hJld f v13 (((5 : Int32) * a3) + (1 : Int32))) fun v14 => if hKd f a1 = some 8 then (Option.bind (F_X9_multiplyBy f a1 v14) fun q16 => F_X8_multiplyByOthers_29 k2 q16 a0 a1 a2 a3) else none))) else none
def L_X8_multiplyByOthers_2  : Nat → xHp → Nat → Nat → Int32 → Int32 → Option (xHp)
  | 0, _, _, _, _, _ => none
  | n + 1, f, a0, a1, a2, a3 => F_X8_multiplyByOthers_2 (L_X8_multiplyByOthers_2  n) f a0 a1 a2 a3
def F_X8_multiplyByOthers (f : xHp) (h0 : Nat) (p1 : Nat) (p2 : Int32) : Option (xHp) := L_X8_multiplyByOthers_2 xfuel f h0 p1 p2 (0 : Int32)
set_option maxRecDepth 100000 in
set_option maxHeartbeats 4000000 in
theorem w_X8_multiplyByOthers_29 {p : Program} {l : Launch} {e : Env} {s : State} {m : MethodId} {args : Array Value} {below : List Frame} {meth : Method} {c : Code} {G : xG} {z : Nat} (X : xC G p m c s args RX8 cX8_multiplyByOthers 4) (hr : meth.sig.returnType = none) (hlocks : meth.locks = false) (hin : meth.name = yX8_multiplyByOthers.name) (rs : xHp) (k2 : xHp → Nat → Nat → Int32 → Int32 → Option (xHp)) (hk2 : ∀ (f : xHp) (a0 : Nat) (a1 : Nat) (a2 : Int32) (a3 : Int32) (H : Heap) (locs : List Loc) (ls : Array Slot), k2 f a0 a1 a2 a3 = some rs → xY G z f s H locs → lv_has ls 4 [(0, .ref a0), (1, .ref a1), (2, .int a2), (3, .int a3)] → W p l e rm_X8_multiplyByOthers s m args below meth c H locs 0 0 (MQ below (xQ G none z rs) args s rm_X8_multiplyByOthers.cells rm_X8_multiplyByOthers.slots (xA G)) (F0 m 2 ls [])) (f : xHp) (a0 : Nat) (a1 : Nat) (a2 : Int32) (a3 : Int32) (H : Heap) (locs : List Loc) (ls : Array Slot) (h : F_X8_multiplyByOthers_29 k2 f a0 a1 a2 a3 = some rs) (Y : xY G z f s H locs) (hl : lv_has ls 4 [(0, .ref a0), (1, .ref a1), (2, .int a2), (3, .int a3)]) : W p l e rm_X8_multiplyByOthers s m args below meth c H locs 0 0 (MQ below (xQ G none z rs) args s rm_X8_multiplyByOthers.cells rm_X8_multiplyByOthers.slots (xA G)) (F0 m 29 ls []) := by
  have hx := X.1.1
  have hb := X.1.2.1
  unfold F_X8_multiplyByOthers_29 at h
  refine lv_iinc (v := (a3 + 1)) (lv' := [(3, .int (a3 + 1)), (0, .ref a0), (1, .ref a1), (2, .int a2)]) hx hb dX8_multiplyByOthers_29 hl (k := 3) rfl rfl (by decide) rfl (fun ls hl => ?_)
  refine lv_goto (tgt := 2) hx hb dX8_multiplyByOthers_32 (by decide) ?_
  refine W.widen (k := 0) (n := 0) (Nat.le_of_ble_eq_true rfl) (Nat.le_of_ble_eq_true rfl) ?_
  exact hk2 f a0 a1 a2 (a3 + 1) _ _ _ h Y (lv_sub hl [1, 2, 3, 0] rfl)
set_option maxRecDepth 100000 in
set_option maxHeartbeats 4000000 in
theorem w_X8_multiplyByOthers_2 {p : Program} {l : Launch} {e : Env} {s : State} {m : MethodId} {args : Array Value} {below : List Frame} {meth : Method} {c : Code} {G : xG} {z : Nat} (X : xC G p m c s args RX8 cX8_multiplyByOthers 4) (hr : meth.sig.returnType = none) (hlocks : meth.locks = false) (hin : meth.name = yX8_multiplyByOthers.name) (rs : xHp) (k2 : xHp → Nat → Nat → Int32 → Int32 → Option (xHp)) (hk2 : ∀ (f : xHp) (a0 : Nat) (a1 : Nat) (a2 : Int32) (a3 : Int32) (H : Heap) (locs : List Loc) (ls : Array Slot), k2 f a0 a1 a2 a3 = some rs → xY G z f s H locs → lv_has ls 4 [(0, .ref a0), (1, .ref a1), (2, .int a2), (3, .int a3)] → W p l e rm_X8_multiplyByOthers s m args below meth c H locs 0 0 (MQ below (xQ G none z rs) args s rm_X8_multiplyByOthers.cells rm_X8_multiplyByOthers.slots (xA G)) (F0 m 2 ls [])) (f : xHp) (a0 : Nat) (a1 : Nat) (a2 : Int32) (a3 : Int32) (H : Heap) (locs : List Loc) (ls : Array Slot) (h : F_X8_multiplyByOthers_2 k2 f a0 a1 a2 a3 = some rs) (Y : xY G z f s H locs) (hl : lv_has ls 4 [(0, .ref a0), (1, .ref a1), (2, .int a2), (3, .int a3)]) : W p l e rm_X8_multiplyByOthers s m args below meth c H locs 0 0 (MQ below (xQ G none z rs) args s rm_X8_multiplyByOthers.cells rm_X8_multiplyByOthers.slots (xA G)) (F0 m 2 ls []) := by
  have hx := X.1.1
  have hb := X.1.2.1
  unfold F_X8_multiplyByOthers_2 at h
  refine lv_iload_n hx hb dX8_multiplyByOthers_2 rfl (lv_at hl 3 rfl) ?_
  refine lv_aload_n hx hb dX8_multiplyByOthers_3 rfl (lv_at hl 0 rfl) ?_
  by_cases c1 : hKd f a0 = some 6
  · replace h := Eq.trans (if_pos c1).symm h
    replace h := xb h
    obtain ⟨q2, eq2, h⟩ := h
    refine q_callU X Y hl.1 (rest := [.int a3]) (As := []) (c_X7_pieces l G z f a0 _ eq2) cd_X7_pieces lu_X8_32_6 c1 ⟨(Nat.le_of_ble_eq_true rfl), (Nat.le_of_ble_eq_true rfl)⟩ ⟨(Nat.le_of_ble_eq_true rfl), (Nat.le_of_ble_eq_true rfl)⟩ rfl rfl (Nat.le_of_ble_eq_true rfl) dX8_multiplyByOthers_4 (fun H locs Y => ?_)
    refine W.eq (g2 := F0 m 7 ls [.int q2, .int a3]) rfl ?_
    refine lv_icmp_ge (tgt := 35) hx hb dX8_multiplyByOthers_7 (by decide) (fun c3 => ?_) (fun c3 => ?_)
    · replace h := Eq.trans (if_pos c3).symm h
      replace h := Option.some.inj h
      subst h
      exact q_retv X Y hr hlocks (Nat.le_of_ble_eq_true rfl) (Nat.le_of_ble_eq_true rfl) dX8_multiplyByOthers_35
    · replace h := Eq.trans (if_neg c3).symm h
      refine lv_iload_n hx hb dX8_multiplyByOthers_10 rfl (lv_at hl 3 rfl) ?_
      refine lv_iload_n hx hb dX8_multiplyByOthers_11 rfl (lv_at hl 2 rfl) ?_
      refine lv_icmp_eq (tgt := 29) hx hb dX8_multiplyByOthers_12 (by decide) (fun c4 => ?_) (fun c4 => ?_)
      · replace h := Eq.trans (if_pos c4).symm h
        refine W.widen (k := 0) (n := 0) (Nat.le_of_ble_eq_true rfl) (Nat.le_of_ble_eq_true rfl) ?_
        exact w_X8_multiplyByOthers_29 X hr hlocks hin rs k2 hk2  f a0 a1 a2 a3 _ _ _ h Y (lv_sub hl [0, 1, 2, 3] rfl)
      · replace h := Eq.trans (if_neg c4).symm h
        refine lv_aload_n hx hb dX8_multiplyByOthers_15 rfl (lv_at hl 1 rfl) ?_
        refine lv_aload_n hx hb dX8_multiplyByOthers_16 rfl (lv_at hl 0 rfl) ?_
        replace h := xb h
        obtain ⟨v5, ev5, h⟩ := h
        refine q_getN X Y fl_X8_9 ev5 dX8_multiplyByOthers_17 ?_
        refine lv_iconst (v := 5) hx hb dX8_multiplyByOthers_20 (by decide) ?_
        refine lv_iload_n hx hb dX8_multiplyByOthers_21 rfl (lv_at hl 3 rfl) ?_
        refine lv_imul hx hb dX8_multiplyByOthers_22 ?_
        refine lv_iconst (v := 1) hx hb dX8_multiplyByOthers_23 (by decide) ?_
        refine lv_iadd hx hb dX8_multiplyByOthers_24 ?_
        replace h := xb h
        obtain ⟨v6, ev6, h⟩ := h
        refine q_lald X Y ev6 dX8_multiplyByOthers_25 ?_
        by_cases c7 : hKd f a1 = some 8
        · replace h := Eq.trans (if_pos c7).symm h
          replace h := xb h
          obtain ⟨q8, eq8, h⟩ := h
          refine q_callV X Y hl.1 (rest := []) (As := [.long v6]) (c_X9_multiplyBy l G z f a1 v6 _ eq8) cd_X9_multiplyBy lv_X8_63_8 c7 ⟨(Nat.le_of_ble_eq_true rfl), (Nat.le_of_ble_eq_true rfl)⟩ ⟨(Nat.le_of_ble_eq_true rfl), (Nat.le_of_ble_eq_true rfl)⟩ rfl rfl (Nat.le_of_ble_eq_true rfl) dX8_multiplyByOthers_26 (fun H locs Y => ?_)
          refine W.eq (g2 := F0 m 29 ls []) rfl ?_
          refine W.widen (k := 0) (n := 0) (Nat.le_of_ble_eq_true rfl) (Nat.le_of_ble_eq_true rfl) ?_
          exact w_X8_multiplyByOthers_29 X hr hlocks hin rs k2 hk2  q8 a0 a1 a2 a3 _ _ _ h Y (lv_sub hl [0, 1, 2, 3] rfl)
        replace h := Eq.trans (if_neg c7).symm h
        cases h
  replace h := Eq.trans (if_neg c1).symm h
  by_cases c9 : hKd f a0 = some 7
  · replace h := Eq.trans (if_pos c9).symm h
    replace h := xb h
    obtain ⟨q10, eq10, h⟩ := h
    refine q_callV X Y hl.1 (rest := [.int a3]) (As := []) (c_X8_pieces l G z f a0 _ eq10) cd_X8_pieces lv_X8_32_7 c9 ⟨(Nat.le_of_ble_eq_true rfl), (Nat.le_of_ble_eq_true rfl)⟩ ⟨(Nat.le_of_ble_eq_true rfl), (Nat.le_of_ble_eq_true rfl)⟩ rfl rfl (Nat.le_of_ble_eq_true rfl) dX8_multiplyByOthers_4 (fun H locs Y => ?_)
    refine W.eq (g2 := F0 m 7 ls [.int q10, .int a3]) rfl ?_
    refine lv_icmp_ge (tgt := 35) hx hb dX8_multiplyByOthers_7 (by decide) (fun c11 => ?_) (fun c11 => ?_)
    · replace h := Eq.trans (if_pos c11).symm h
      replace h := Option.some.inj h
      subst h
      exact q_retv X Y hr hlocks (Nat.le_of_ble_eq_true rfl) (Nat.le_of_ble_eq_true rfl) dX8_multiplyByOthers_35
    · replace h := Eq.trans (if_neg c11).symm h
      refine lv_iload_n hx hb dX8_multiplyByOthers_10 rfl (lv_at hl 3 rfl) ?_
      refine lv_iload_n hx hb dX8_multiplyByOthers_11 rfl (lv_at hl 2 rfl) ?_
      refine lv_icmp_eq (tgt := 29) hx hb dX8_multiplyByOthers_12 (by decide) (fun c12 => ?_) (fun c12 => ?_)
      · replace h := Eq.trans (if_pos c12).symm h
        refine W.widen (k := 0) (n := 0) (Nat.le_of_ble_eq_true rfl) (Nat.le_of_ble_eq_true rfl) ?_
        exact w_X8_multiplyByOthers_29 X hr hlocks hin rs k2 hk2  f a0 a1 a2 a3 _ _ _ h Y (lv_sub hl [0, 1, 2, 3] rfl)
      · replace h := Eq.trans (if_neg c12).symm h
        refine lv_aload_n hx hb dX8_multiplyByOthers_15 rfl (lv_at hl 1 rfl) ?_
        refine lv_aload_n hx hb dX8_multiplyByOthers_16 rfl (lv_at hl 0 rfl) ?_
        replace h := xb h
        obtain ⟨v13, ev13, h⟩ := h
        refine q_getN X Y fl_X8_9 ev13 dX8_multiplyByOthers_17 ?_
        refine lv_iconst (v := 5) hx hb dX8_multiplyByOthers_20 (by decide) ?_
        refine lv_iload_n hx hb dX8_multiplyByOthers_21 rfl (lv_at hl 3 rfl) ?_
        refine lv_imul hx hb dX8_multiplyByOthers_22 ?_
        refine lv_iconst (v := 1) hx hb dX8_multiplyByOthers_23 (by decide) ?_
        refine lv_iadd hx hb dX8_multiplyByOthers_24 ?_
        replace h := xb h
        obtain ⟨v14, ev14, h⟩ := h
        refine q_lald X Y ev14 dX8_multiplyByOthers_25 ?_
        by_cases c15 : hKd f a1 = some 8
        · replace h := Eq.trans (if_pos c15).symm h
          replace h := xb h
          obtain ⟨q16, eq16, h⟩ := h
          refine q_callV X Y hl.1 (rest := []) (As := [.long v14]) (c_X9_multiplyBy l G z f a1 v14 _ eq16) cd_X9_multiplyBy lv_X8_63_8 c15 ⟨(Nat.le_of_ble_eq_true rfl), (Nat.le_of_ble_eq_true rfl)⟩ ⟨(Nat.le_of_ble_eq_true rfl), (Nat.le_of_ble_eq_true rfl)⟩ rfl rfl (Nat.le_of_ble_eq_true rfl) dX8_multiplyByOthers_26 (fun H locs Y => ?_)
          refine W.eq (g2 := F0 m 29 ls []) rfl ?_
          refine W.widen (k := 0) (n := 0) (Nat.le_of_ble_eq_true rfl) (Nat.le_of_ble_eq_true rfl) ?_
          exact w_X8_multiplyByOthers_29 X hr hlocks hin rs k2 hk2  q16 a0 a1 a2 a3 _ _ _ h Y (lv_sub hl [0, 1, 2, 3] rfl)
        replace h := Eq.trans (if_neg c15).symm h
        cases h
  replace h := Eq.trans (if_neg c9).symm h
  cases h
set_option maxRecDepth 100000 in
set_option maxHeartbeats 4000000 in
theorem lw_X8_multiplyByOthers_2 {p : Program} {l : Launch} {e : Env} {s : State} {m : MethodId} {args : Array Value} {below : List Frame} {meth : Method} {c : Code} {G : xG} {z : Nat} (X : xC G p m c s args RX8 cX8_multiplyByOthers 4) (hr : meth.sig.returnType = none) (hlocks : meth.locks = false) (hin : meth.name = yX8_multiplyByOthers.name) (rs : xHp)  : ∀ (n : Nat) (f : xHp) (a0 : Nat) (a1 : Nat) (a2 : Int32) (a3 : Int32) (H : Heap) (locs : List Loc) (ls : Array Slot), L_X8_multiplyByOthers_2  n f a0 a1 a2 a3 = some rs → xY G z f s H locs → lv_has ls 4 [(0, .ref a0), (1, .ref a1), (2, .int a2), (3, .int a3)] → W p l e rm_X8_multiplyByOthers s m args below meth c H locs 0 0 (MQ below (xQ G none z rs) args s rm_X8_multiplyByOthers.cells rm_X8_multiplyByOthers.slots (xA G)) (F0 m 2 ls []) := by
  intro n
  induction n with
  | zero => intro f a0 a1 a2 a3 H locs ls h Y hl; cases h
  | succ n ih => intro f a0 a1 a2 a3 H locs ls h Y hl; exact w_X8_multiplyByOthers_2 X hr hlocks hin rs _ ih f a0 a1 a2 a3 _ _ _ h Y hl
set_option maxRecDepth 100000 in
set_option maxHeartbeats 4000000 in
theorem c_X8_multiplyByOthers (l : Launch) (G : xG) (z : Nat) (f : xHp) (h0 : Nat) (p1 : Nat) (p2 : Int32) (rs : xHp) (h : F_X8_multiplyByOthers f h0 p1 p2 = some rs) : xM G l yX8_multiplyByOthers cX8_multiplyByOthers 4 none rm_X8_multiplyByOthers [.ref h0, .ref p1, .int p2] z f none z rs := by
  refine xM_of (by decide) (Nat.le_of_ble_eq_true rfl) ?_
  intro p e s m below meth c ls X hr hlocks hin Y hl
  have hl : lv_has ls 4 [(0, .ref h0), (1, .ref p1), (2, .int p2)] := hl
  have hx := X.1.1
  have hb := X.1.2.1
  unfold F_X8_multiplyByOthers at h
  refine lv_iconst (v := 0) hx hb dX8_multiplyByOthers_0 (by decide) ?_
  refine lv_istore_n (lv' := [(3, .int (0 : Int32)), (0, .ref h0), (1, .ref p1), (2, .int p2)]) hx hb dX8_multiplyByOthers_1 rfl hl (by decide) rfl (fun ls hl => ?_)
  refine W.widen (k := 0) (n := 0) (Nat.le_of_ble_eq_true rfl) (Nat.le_of_ble_eq_true rfl) ?_
  exact lw_X8_multiplyByOthers_2 X hr hlocks hin rs  xfuel f h0 p1 p2 (0 : Int32) _ _ _ h Y (lv_sub hl [1, 2, 3, 0] rfl)
/-! NeverBelow$Whole.become(J)V -/
abbrev rm_X9_become : Room := { frames := 2, cells := 0, slots := 0, locals := 46 }
def F_X9_become_40  (f : xHp) (s0 : Int32) (s1 : Int32) (s2 : Int32) (s3 : Nat) : Option (xHp) := Option.bind (F_J7_fill_fda19 f s3 s2 s1 s0) fun q1 => some q1
def F_X9_become (f : xHp) (h0 : Nat) (p1 : Int64) : Option (xHp) := Option.bind (hN f h0 [(8, 0)]) fun v1 => Option.bind (hIst f v1 (0 : Int32) p1.toInt32) fun f2 => Option.bind (hN f2 h0 [(8, 0)]) fun v3 => Option.bind (hIst f2 v3 (1 : Int32) (p1 >>> ((32 : Int32).toInt64 &&& 63)).toInt32) fun f4 => Option.bind (hN f4 h0 [(8, 0)]) fun v5 => Option.bind (hN f4 h0 [(8, 0)]) fun v6 => Option.bind (hLen f4 v6) fun v7 => if (0 : Int64) ≤ p1 then (F_X9_become_40 f4 (0 : Int32) v7 (2 : Int32) v5) else (F_X9_become_40 f4 (-1 : Int32) v7 (2 : Int32) v5)
set_option maxRecDepth 100000 in
set_option maxHeartbeats 4000000 in
theorem w_X9_become_40 {p : Program} {l : Launch} {e : Env} {s : State} {m : MethodId} {args : Array Value} {below : List Frame} {meth : Method} {c : Code} {G : xG} {z : Nat} (X : xC G p m c s args RX9 cX9_become 3) (hr : meth.sig.returnType = none) (hlocks : meth.locks = false) (hin : meth.name = yX9_become.name) (rs : xHp)  (f : xHp) (s0 : Int32) (s1 : Int32) (s2 : Int32) (s3 : Nat) (H : Heap) (locs : List Loc) (ls : Array Slot) (h : F_X9_become_40  f s0 s1 s2 s3 = some rs) (Y : xY G z f s H locs) (hl : lv_has ls 3 []) : W p l e rm_X9_become s m args below meth c H locs 0 0 (MQ below (xQ G none z rs) args s rm_X9_become.cells rm_X9_become.slots (xA G)) (F0 m 40 ls [.int s0, .int s1, .int s2, .ref s3]) := by
  have hx := X.1.1
  have hb := X.1.2.1
  unfold F_X9_become_40 at h
  replace h := xb h
  obtain ⟨q1, eq1, h⟩ := h
  refine q_callS X Y hl.1 (rest := []) (As := [.ref s3, .int s2, .int s1, .int s0]) (c_J7_fill_fda19 l G z f s3 s2 s1 s0 _ eq1) cd_J7_fill_fda19 ls_X9_13 ⟨(Nat.le_of_ble_eq_true rfl), (Nat.le_of_ble_eq_true rfl)⟩ ⟨(Nat.le_of_ble_eq_true rfl), (Nat.le_of_ble_eq_true rfl)⟩ rfl rfl (Nat.le_of_ble_eq_true rfl) dX9_become_40 (fun H locs Y => ?_)
  refine W.eq (g2 := F0 m 43 ls []) rfl ?_
  replace h := Option.some.inj h
  subst h
  exact q_retv X Y hr hlocks (Nat.le_of_ble_eq_true rfl) (Nat.le_of_ble_eq_true rfl) dX9_become_43
set_option maxRecDepth 100000 in
set_option maxHeartbeats 4000000 in
theorem c_X9_become (l : Launch) (G : xG) (z : Nat) (f : xHp) (h0 : Nat) (p1 : Int64) (rs : xHp) (h : F_X9_become f h0 p1 = some rs) : xM G l yX9_become cX9_become 3 none rm_X9_become [.ref h0, .long p1] z f none z rs := by
  refine xM_of (by decide) (Nat.le_of_ble_eq_true rfl) ?_
  intro p e s m below meth c ls X hr hlocks hin Y hl
  have hl : lv_has ls 3 [(0, .ref h0), (1, .long p1)] := hl
  have hx := X.1.1
  have hb := X.1.2.1
  unfold F_X9_become at h
  refine lv_aload_n hx hb dX9_become_0 rfl (lv_at hl 0 rfl) ?_
  replace h := xb h
  obtain ⟨v1, ev1, h⟩ := h
  refine q_getN X Y fl_X9_7 ev1 dX9_become_1 ?_
  refine lv_iconst (v := 0) hx hb dX9_become_4 (by decide) ?_
  refine lv_lload_n hx hb dX9_become_5 rfl (lv_at hl 1 rfl) ?_
  refine lv_l2i hx hb dX9_become_6 rfl ?_
  replace h := xb h
  obtain ⟨f2, ef2, h⟩ := h
  refine q_iast X Y ef2 dX9_become_7 (fun H locs Y => ?_)
  refine lv_aload_n hx hb dX9_become_8 rfl (lv_at hl 0 rfl) ?_
  replace h := xb h
  obtain ⟨v3, ev3, h⟩ := h
  refine q_getN X Y fl_X9_7 ev3 dX9_become_9 ?_
  refine lv_iconst (v := 1) hx hb dX9_become_12 (by decide) ?_
  refine lv_lload_n hx hb dX9_become_13 rfl (lv_at hl 1 rfl) ?_
  refine lv_bipush (v := 32) hx hb dX9_become_14 (by decide) ?_
  refine lv_lshr hx hb dX9_become_16 rfl ?_
  refine lv_l2i hx hb dX9_become_17 rfl ?_
  replace h := xb h
  obtain ⟨f4, ef4, h⟩ := h
  refine q_iast X Y ef4 dX9_become_18 (fun H locs Y => ?_)
  refine lv_aload_n hx hb dX9_become_19 rfl (lv_at hl 0 rfl) ?_
  replace h := xb h
  obtain ⟨v5, ev5, h⟩ := h
  refine q_getN X Y fl_X9_7 ev5 dX9_become_20 ?_
  refine lv_iconst (v := 2) hx hb dX9_become_23 (by decide) ?_
  refine lv_aload_n hx hb dX9_become_24 rfl (lv_at hl 0 rfl) ?_
  replace h := xb h
  obtain ⟨v6, ev6, h⟩ := h
  refine q_getN X Y fl_X9_7 ev6 dX9_become_25 ?_
  replace h := xb h
  obtain ⟨v7, ev7, h⟩ := h
  refine q_alen X Y ev7 dX9_become_28 ?_
  refine lv_lload_n hx hb dX9_become_29 rfl (lv_at hl 1 rfl) ?_
  refine lv_lconst (v := 0) hx hb dX9_become_30 (by decide) ?_
  refine q_lcmp_ge (tgt := 39) hx hb dX9_become_31 dX9_become_32 (by decide) (fun c8 => ?_) (fun c8 => ?_)
  · replace h := Eq.trans (if_pos c8).symm h
    refine lv_iconst (v := 0) hx hb dX9_become_39 (by decide) ?_
    refine W.widen (k := 0) (n := 0) (Nat.le_of_ble_eq_true rfl) (Nat.le_of_ble_eq_true rfl) ?_
    exact w_X9_become_40 X hr hlocks hin rs   f4 (0 : Int32) v7 (2 : Int32) v5 _ _ _ h Y (lv_sub hl [] rfl)
  · replace h := Eq.trans (if_neg c8).symm h
    refine lv_iconst (v := -1) hx hb dX9_become_35 (by decide) ?_
    refine lv_goto (tgt := 40) hx hb dX9_become_36 (by decide) ?_
    refine W.widen (k := 0) (n := 0) (Nat.le_of_ble_eq_true rfl) (Nat.le_of_ble_eq_true rfl) ?_
    exact w_X9_become_40 X hr hlocks hin rs   f4 (-1 : Int32) v7 (2 : Int32) v5 _ _ _ h Y (lv_sub hl [] rfl)
/-! NeverBelow$SpanProof.spanShare(ILNeverBelow$Whole;)V -/
abbrev rm_X7_spanShare : Room := { frames := 3, cells := 0, slots := 0, locals := 87 }
def F_X7_spanShare (f : xHp) (h0 : Nat) (p1 : Int32) (p2 : Nat) : Option (xHp) := Option.bind (hN f h0 [(6, 3)]) fun v1 => if hKd f h0 = some 6 then (Option.bind (F_X7_spanFrom f h0) fun q3 => Option.bind (hJld f v1 q3) fun v4 => if hKd f p2 = some 8 then (Option.bind (F_X9_become f p2 v4) fun q6 => if hKd q6 h0 = some 6 then (Option.bind (F_X7_spanTerm q6 h0 p1) fun q8 => if hKd q6 p2 = some 8 then (Option.bind (F_X9_multiplyBy q6 p2 q8) fun q10 => if hKd q10 h0 = some 6 then (Option.bind (F_X8_multiplyByOthers q10 h0 p2 (-1 : Int32)) fun q12 => some q12) else none) else none) else none) else none) else none
set_option maxRecDepth 100000 in
set_option maxHeartbeats 4000000 in
theorem c_X7_spanShare (l : Launch) (G : xG) (z : Nat) (f : xHp) (h0 : Nat) (p1 : Int32) (p2 : Nat) (rs : xHp) (h : F_X7_spanShare f h0 p1 p2 = some rs) : xM G l yX7_spanShare cX7_spanShare 3 none rm_X7_spanShare [.ref h0, .int p1, .ref p2] z f none z rs := by
  refine xM_of (by decide) (Nat.le_of_ble_eq_true rfl) ?_
  intro p e s m below meth c ls X hr hlocks hin Y hl
  have hl : lv_has ls 3 [(0, .ref h0), (1, .int p1), (2, .ref p2)] := hl
  have hx := X.1.1
  have hb := X.1.2.1
  unfold F_X7_spanShare at h
  refine lv_aload_n hx hb dX7_spanShare_0 rfl (lv_at hl 2 rfl) ?_
  refine lv_aload_n hx hb dX7_spanShare_1 rfl (lv_at hl 0 rfl) ?_
  replace h := xb h
  obtain ⟨v1, ev1, h⟩ := h
  refine q_getN X Y fl_X7_9 ev1 dX7_spanShare_2 ?_
  refine lv_aload_n hx hb dX7_spanShare_5 rfl (lv_at hl 0 rfl) ?_
  by_cases c2 : hKd f h0 = some 6
  · replace h := Eq.trans (if_pos c2).symm h
    replace h := xb h
    obtain ⟨q3, eq3, h⟩ := h
    refine q_callV X Y hl.1 (rest := [.ref v1, .ref p2]) (As := []) (c_X7_spanFrom l G z f h0 _ eq3) cd_X7_spanFrom lv_X7_15_6 c2 ⟨(Nat.le_of_ble_eq_true rfl), (Nat.le_of_ble_eq_true rfl)⟩ ⟨(Nat.le_of_ble_eq_true rfl), (Nat.le_of_ble_eq_true rfl)⟩ rfl rfl (Nat.le_of_ble_eq_true rfl) dX7_spanShare_6 (fun H locs Y => ?_)
    refine W.eq (g2 := F0 m 9 ls [.int q3, .ref v1, .ref p2]) rfl ?_
    replace h := xb h
    obtain ⟨v4, ev4, h⟩ := h
    refine q_lald X Y ev4 dX7_spanShare_9 ?_
    by_cases c5 : hKd f p2 = some 8
    · replace h := Eq.trans (if_pos c5).symm h
      replace h := xb h
      obtain ⟨q6, eq6, h⟩ := h
      refine q_callV X Y hl.1 (rest := []) (As := [.long v4]) (c_X9_become l G z f p2 v4 _ eq6) cd_X9_become lv_X7_39_8 c5 ⟨(Nat.le_of_ble_eq_true rfl), (Nat.le_of_ble_eq_true rfl)⟩ ⟨(Nat.le_of_ble_eq_true rfl), (Nat.le_of_ble_eq_true rfl)⟩ rfl rfl (Nat.le_of_ble_eq_true rfl) dX7_spanShare_10 (fun H locs Y => ?_)
      refine W.eq (g2 := F0 m 13 ls []) rfl ?_
      refine lv_aload_n hx hb dX7_spanShare_13 rfl (lv_at hl 2 rfl) ?_
      refine lv_aload_n hx hb dX7_spanShare_14 rfl (lv_at hl 0 rfl) ?_
      refine lv_iload_n hx hb dX7_spanShare_15 rfl (lv_at hl 1 rfl) ?_
      by_cases c7 : hKd q6 h0 = some 6
      · replace h := Eq.trans (if_pos c7).symm h
        replace h := xb h
        obtain ⟨q8, eq8, h⟩ := h
        refine q_callV X Y hl.1 (rest := [.ref p2]) (As := [.int p1]) (c_X7_spanTerm l G z q6 h0 p1 _ eq8) cd_X7_spanTerm lv_X7_45_6 c7 ⟨(Nat.le_of_ble_eq_true rfl), (Nat.le_of_ble_eq_true rfl)⟩ ⟨(Nat.le_of_ble_eq_true rfl), (Nat.le_of_ble_eq_true rfl)⟩ rfl rfl (Nat.le_of_ble_eq_true rfl) dX7_spanShare_16 (fun H locs Y => ?_)
        refine W.eq (g2 := F0 m 19 ls [.long q8, .ref p2]) rfl ?_
        by_cases c9 : hKd q6 p2 = some 8
        · replace h := Eq.trans (if_pos c9).symm h
          replace h := xb h
          obtain ⟨q10, eq10, h⟩ := h
          refine q_callV X Y hl.1 (rest := []) (As := [.long q8]) (c_X9_multiplyBy l G z q6 p2 q8 _ eq10) cd_X9_multiplyBy lv_X7_49_8 c9 ⟨(Nat.le_of_ble_eq_true rfl), (Nat.le_of_ble_eq_true rfl)⟩ ⟨(Nat.le_of_ble_eq_true rfl), (Nat.le_of_ble_eq_true rfl)⟩ rfl rfl (Nat.le_of_ble_eq_true rfl) dX7_spanShare_19 (fun H locs Y => ?_)
          refine W.eq (g2 := F0 m 22 ls []) rfl ?_
          refine lv_aload_n hx hb dX7_spanShare_22 rfl (lv_at hl 0 rfl) ?_
          refine lv_aload_n hx hb dX7_spanShare_23 rfl (lv_at hl 2 rfl) ?_
          refine lv_iconst (v := -1) hx hb dX7_spanShare_24 (by decide) ?_
          by_cases c11 : hKd q10 h0 = some 6
          · replace h := Eq.trans (if_pos c11).symm h
            replace h := xb h
            obtain ⟨q12, eq12, h⟩ := h
            refine q_callU X Y hl.1 (rest := []) (As := [.ref p2, .int (-1 : Int32)]) (c_X8_multiplyByOthers l G z q10 h0 p2 (-1 : Int32) _ eq12) cd_X8_multiplyByOthers lu_X7_52_6 c11 ⟨(Nat.le_of_ble_eq_true rfl), (Nat.le_of_ble_eq_true rfl)⟩ ⟨(Nat.le_of_ble_eq_true rfl), (Nat.le_of_ble_eq_true rfl)⟩ rfl rfl (Nat.le_of_ble_eq_true rfl) dX7_spanShare_25 (fun H locs Y => ?_)
            refine W.eq (g2 := F0 m 28 ls []) rfl ?_
            replace h := Option.some.inj h
            subst h
            exact q_retv X Y hr hlocks (Nat.le_of_ble_eq_true rfl) (Nat.le_of_ble_eq_true rfl) dX7_spanShare_28
          replace h := Eq.trans (if_neg c11).symm h
          cases h
        replace h := Eq.trans (if_neg c9).symm h
        cases h
      replace h := Eq.trans (if_neg c7).symm h
      cases h
    replace h := Eq.trans (if_neg c5).symm h
    cases h
  replace h := Eq.trans (if_neg c2).symm h
  cases h
/-! NeverBelow$SquaresProof.spanDivisor()J -/
abbrev rm_X8_spanDivisor : Room := { frames := 0, cells := 0, slots := 0, locals := 0 }
def F_X8_spanDivisor (f : xHp) (h0 : Nat) : Option (Int64) := some (1 : Int64)
set_option maxRecDepth 100000 in
set_option maxHeartbeats 4000000 in
theorem c_X8_spanDivisor (l : Launch) (G : xG) (z : Nat) (f : xHp) (h0 : Nat) (rs : Int64) (h : F_X8_spanDivisor f h0 = some rs) : xM G l yX8_spanDivisor cX8_spanDivisor 1 (some .long) rm_X8_spanDivisor [.ref h0] z f (some (.long rs)) z f := by
  refine xM_of (by decide) (Nat.le_of_ble_eq_true rfl) ?_
  intro p e s m below meth c ls X hr hlocks hin Y hl
  have hl : lv_has ls 1 [(0, .ref h0)] := hl
  have hx := X.1.1
  have hb := X.1.2.1
  unfold F_X8_spanDivisor at h
  refine lv_lconst (v := 1) hx hb dX8_spanDivisor_0 (by decide) ?_
  replace h := Option.some.inj h
  subst h
  exact q_retl X Y hr hlocks (Nat.le_of_ble_eq_true rfl) (Nat.le_of_ble_eq_true rfl) dX8_spanDivisor_1
/-! NeverBelow$SquaresProof.spanShare(ILNeverBelow$Whole;)V -/
abbrev rm_X8_spanShare : Room := { frames := 3, cells := 0, slots := 0, locals := 68 }
def F_X8_spanShare (f : xHp) (h0 : Nat) (p1 : Int32) (p2 : Nat) : Option (xHp) := if hKd f p2 = some 8 then (Option.bind (F_X9_become f p2 (0 : Int64)) fun q2 => some q2) else none
set_option maxRecDepth 100000 in
set_option maxHeartbeats 4000000 in
theorem c_X8_spanShare (l : Launch) (G : xG) (z : Nat) (f : xHp) (h0 : Nat) (p1 : Int32) (p2 : Nat) (rs : xHp) (h : F_X8_spanShare f h0 p1 p2 = some rs) : xM G l yX8_spanShare cX8_spanShare 3 none rm_X8_spanShare [.ref h0, .int p1, .ref p2] z f none z rs := by
  refine xM_of (by decide) (Nat.le_of_ble_eq_true rfl) ?_
  intro p e s m below meth c ls X hr hlocks hin Y hl
  have hl : lv_has ls 3 [(0, .ref h0), (1, .int p1), (2, .ref p2)] := hl
  have hx := X.1.1
  have hb := X.1.2.1
  unfold F_X8_spanShare at h
  refine lv_aload_n hx hb dX8_spanShare_0 rfl (lv_at hl 2 rfl) ?_
  refine lv_lconst (v := 0) hx hb dX8_spanShare_1 (by decide) ?_
  by_cases c1 : hKd f p2 = some 8
  · replace h := Eq.trans (if_pos c1).symm h
    replace h := xb h
    obtain ⟨q2, eq2, h⟩ := h
    refine q_callV X Y hl.1 (rest := []) (As := [.long (0 : Int64)]) (c_X9_become l G z f p2 (0 : Int64) _ eq2) cd_X9_become lv_X8_49_8 c1 ⟨(Nat.le_of_ble_eq_true rfl), (Nat.le_of_ble_eq_true rfl)⟩ ⟨(Nat.le_of_ble_eq_true rfl), (Nat.le_of_ble_eq_true rfl)⟩ rfl rfl (Nat.le_of_ble_eq_true rfl) dX8_spanShare_2 (fun H locs Y => ?_)
    refine W.eq (g2 := F0 m 5 ls []) rfl ?_
    replace h := Option.some.inj h
    subst h
    exact q_retv X Y hr hlocks (Nat.le_of_ble_eq_true rfl) (Nat.le_of_ble_eq_true rfl) dX8_spanShare_5
  replace h := Eq.trans (if_neg c1).symm h
  cases h
/-! NeverBelow$SquaresProof.squareShare(IILNeverBelow$Whole;)V -/
abbrev rm_X8_squareShare : Room := { frames := 3, cells := 0, slots := 0, locals := 87 }
def F_X8_squareShare_77  (f : xHp) (a0 : Nat) (a2 : Int32) (a3 : Nat) (s0 : Int64) (s1 : Nat) : Option (xHp) := if hKd f s1 = some 8 then (Option.bind (F_X9_multiplyBy f s1 s0) fun q2 => if hKd q2 a0 = some 6 then (Option.bind (F_X8_multiplyByOthers q2 a0 a3 a2) fun q4 => if hKd q4 a0 = some 6 then (Option.bind (F_X7_spanDivisor q4 a0) fun q6 => if hKd q4 a3 = some 8 then (Option.bind (F_X9_multiplyBy q4 a3 q6) fun q8 => some q8) else none) else if hKd q4 a0 = some 7 then (Option.bind (F_X8_spanDivisor q4 a0) fun q10 => if hKd q4 a3 = some 8 then (Option.bind (F_X9_multiplyBy q4 a3 q10) fun q12 => some q12) else none) else none) else if hKd q2 a0 = some 7 then (Option.bind (F_X8_multiplyByOthers q2 a0 a3 a2) fun q14 => if hKd q14 a0 = some 6 then (Option.bind (F_X7_spanDivisor q14 a0) fun q16 => if hKd q14 a3 = some 8 then (Option.bind (F_X9_multiplyBy q14 a3 q16) fun q18 => some q18) else none) else if hKd q14 a0 = some 7 then (Option.bind (F_X8_spanDivisor q14 a0) fun q20 => if hKd q14 a3 = some 8 then (Option.bind (F_X9_multiplyBy q14 a3 q20) fun q22 => some q22) else none) else none) else none) else none
def F_X8_squareShare (f : xHp) (h0 : Nat) (p1 : Int32) (p2 : Int32) (p3 : Nat) : Option (xHp) := Option.bind (hSt 2 p1) fun v1 => Option.bind (hSt 3 p1) fun v2 => Option.bind (hN f h0 [(6, 3), (7, 3)]) fun v3 => Option.bind (hJld f v3 ((5 : Int32) * p2)) fun v4 => if hKd f p3 = some 8 then (Option.bind (F_X9_become f p3 v4) fun q6 => Option.bind (hN q6 h0 [(6, 3), (7, 3)]) fun v7 => Option.bind (hJld q6 v7 ((((5 : Int32) * p2) + (2 : Int32)) + v1)) fun v8 => if hKd q6 p3 = some 8 then (Option.bind (F_X9_multiplyBy q6 p3 v8) fun q10 => Option.bind (hN q10 h0 [(6, 3), (7, 3)]) fun v11 => Option.bind (hJld q10 v11 ((((5 : Int32) * p2) + (2 : Int32)) + v2)) fun v12 => if hKd q10 p3 = some 8 then (Option.bind (F_X9_multiplyBy q10 p3 v12) fun q14 => if v1 = v2 then (F_X8_squareShare_77 q14 h0 p2 p3 (1 : Int64) p3) else (F_X8_squareShare_77 q14 h0 p2 p3 (2 : Int64) p3)) else none) else none) else none
set_option maxRecDepth 100000 in
set_option maxHeartbeats 4000000 in
theorem w_X8_squareShare_77 {p : Program} {l : Launch} {e : Env} {s : State} {m : MethodId} {args : Array Value} {below : List Frame} {meth : Method} {c : Code} {G : xG} {z : Nat} (X : xC G p m c s args RX8 cX8_squareShare 7) (hr : meth.sig.returnType = none) (hlocks : meth.locks = false) (hin : meth.name = yX8_squareShare.name) (rs : xHp)  (f : xHp) (a0 : Nat) (a2 : Int32) (a3 : Nat) (s0 : Int64) (s1 : Nat) (H : Heap) (locs : List Loc) (ls : Array Slot) (h : F_X8_squareShare_77  f a0 a2 a3 s0 s1 = some rs) (Y : xY G z f s H locs) (hl : lv_has ls 7 [(0, .ref a0), (2, .int a2), (3, .ref a3)]) : W p l e rm_X8_squareShare s m args below meth c H locs 0 0 (MQ below (xQ G none z rs) args s rm_X8_squareShare.cells rm_X8_squareShare.slots (xA G)) (F0 m 77 ls [.long s0, .ref s1]) := by
  have hx := X.1.1
  have hb := X.1.2.1
  unfold F_X8_squareShare_77 at h
  by_cases c1 : hKd f s1 = some 8
  · replace h := Eq.trans (if_pos c1).symm h
    replace h := xb h
    obtain ⟨q2, eq2, h⟩ := h
    refine q_callV X Y hl.1 (rest := []) (As := [.long s0]) (c_X9_multiplyBy l G z f s1 s0 _ eq2) cd_X9_multiplyBy lv_X8_63_8 c1 ⟨(Nat.le_of_ble_eq_true rfl), (Nat.le_of_ble_eq_true rfl)⟩ ⟨(Nat.le_of_ble_eq_true rfl), (Nat.le_of_ble_eq_true rfl)⟩ rfl rfl (Nat.le_of_ble_eq_true rfl) dX8_squareShare_77 (fun H locs Y => ?_)
    refine W.eq (g2 := F0 m 80 ls []) rfl ?_
    refine lv_aload_n hx hb dX8_squareShare_80 rfl (lv_at hl 0 rfl) ?_
    refine lv_aload_n hx hb dX8_squareShare_81 rfl (lv_at hl 2 rfl) ?_
    refine lv_iload_n hx hb dX8_squareShare_82 rfl (lv_at hl 1 rfl) ?_
    by_cases c3 : hKd q2 a0 = some 6
    · replace h := Eq.trans (if_pos c3).symm h
      replace h := xb h
      obtain ⟨q4, eq4, h⟩ := h
      refine q_callU X Y hl.1 (rest := []) (As := [.ref a3, .int a2]) (c_X8_multiplyByOthers l G z q2 a0 a3 a2 _ eq4) cd_X8_multiplyByOthers lu_X8_55_6 c3 ⟨(Nat.le_of_ble_eq_true rfl), (Nat.le_of_ble_eq_true rfl)⟩ ⟨(Nat.le_of_ble_eq_true rfl), (Nat.le_of_ble_eq_true rfl)⟩ rfl rfl (Nat.le_of_ble_eq_true rfl) dX8_squareShare_83 (fun H locs Y => ?_)
      refine W.eq (g2 := F0 m 86 ls []) rfl ?_
      refine lv_aload_n hx hb dX8_squareShare_86 rfl (lv_at hl 2 rfl) ?_
      refine lv_aload_n hx hb dX8_squareShare_87 rfl (lv_at hl 0 rfl) ?_
      by_cases c5 : hKd q4 a0 = some 6
      · replace h := Eq.trans (if_pos c5).symm h
        replace h := xb h
        obtain ⟨q6, eq6, h⟩ := h
        refine q_callU X Y hl.1 (rest := [.ref a3]) (As := []) (c_X7_spanDivisor l G z q4 a0 _ eq6) cd_X7_spanDivisor lu_X8_59_6 c5 ⟨(Nat.le_of_ble_eq_true rfl), (Nat.le_of_ble_eq_true rfl)⟩ ⟨(Nat.le_of_ble_eq_true rfl), (Nat.le_of_ble_eq_true rfl)⟩ rfl rfl (Nat.le_of_ble_eq_true rfl) dX8_squareShare_88 (fun H locs Y => ?_)
        refine W.eq (g2 := F0 m 91 ls [.long q6, .ref a3]) rfl ?_
        by_cases c7 : hKd q4 a3 = some 8
        · replace h := Eq.trans (if_pos c7).symm h
          replace h := xb h
          obtain ⟨q8, eq8, h⟩ := h
          refine q_callV X Y hl.1 (rest := []) (As := [.long q6]) (c_X9_multiplyBy l G z q4 a3 q6 _ eq8) cd_X9_multiplyBy lv_X8_63_8 c7 ⟨(Nat.le_of_ble_eq_true rfl), (Nat.le_of_ble_eq_true rfl)⟩ ⟨(Nat.le_of_ble_eq_true rfl), (Nat.le_of_ble_eq_true rfl)⟩ rfl rfl (Nat.le_of_ble_eq_true rfl) dX8_squareShare_91 (fun H locs Y => ?_)
          refine W.eq (g2 := F0 m 94 ls []) rfl ?_
          replace h := Option.some.inj h
          subst h
          exact q_retv X Y hr hlocks (Nat.le_of_ble_eq_true rfl) (Nat.le_of_ble_eq_true rfl) dX8_squareShare_94
        replace h := Eq.trans (if_neg c7).symm h
        cases h
      replace h := Eq.trans (if_neg c5).symm h
      by_cases c9 : hKd q4 a0 = some 7
      · replace h := Eq.trans (if_pos c9).symm h
        replace h := xb h
        obtain ⟨q10, eq10, h⟩ := h
        refine q_callV X Y hl.1 (rest := [.ref a3]) (As := []) (c_X8_spanDivisor l G z q4 a0 _ eq10) cd_X8_spanDivisor lv_X8_59_7 c9 ⟨(Nat.le_of_ble_eq_true rfl), (Nat.le_of_ble_eq_true rfl)⟩ ⟨(Nat.le_of_ble_eq_true rfl), (Nat.le_of_ble_eq_true rfl)⟩ rfl rfl (Nat.le_of_ble_eq_true rfl) dX8_squareShare_88 (fun H locs Y => ?_)
        refine W.eq (g2 := F0 m 91 ls [.long q10, .ref a3]) rfl ?_
        by_cases c11 : hKd q4 a3 = some 8
        · replace h := Eq.trans (if_pos c11).symm h
          replace h := xb h
          obtain ⟨q12, eq12, h⟩ := h
          refine q_callV X Y hl.1 (rest := []) (As := [.long q10]) (c_X9_multiplyBy l G z q4 a3 q10 _ eq12) cd_X9_multiplyBy lv_X8_63_8 c11 ⟨(Nat.le_of_ble_eq_true rfl), (Nat.le_of_ble_eq_true rfl)⟩ ⟨(Nat.le_of_ble_eq_true rfl), (Nat.le_of_ble_eq_true rfl)⟩ rfl rfl (Nat.le_of_ble_eq_true rfl) dX8_squareShare_91 (fun H locs Y => ?_)
          refine W.eq (g2 := F0 m 94 ls []) rfl ?_
          replace h := Option.some.inj h
          subst h
          exact q_retv X Y hr hlocks (Nat.le_of_ble_eq_true rfl) (Nat.le_of_ble_eq_true rfl) dX8_squareShare_94
        replace h := Eq.trans (if_neg c11).symm h
        cases h
      replace h := Eq.trans (if_neg c9).symm h
      cases h
    replace h := Eq.trans (if_neg c3).symm h
    by_cases c13 : hKd q2 a0 = some 7
    · replace h := Eq.trans (if_pos c13).symm h
      replace h := xb h
      obtain ⟨q14, eq14, h⟩ := h
      refine q_callV X Y hl.1 (rest := []) (As := [.ref a3, .int a2]) (c_X8_multiplyByOthers l G z q2 a0 a3 a2 _ eq14) cd_X8_multiplyByOthers lv_X8_55_7 c13 ⟨(Nat.le_of_ble_eq_true rfl), (Nat.le_of_ble_eq_true rfl)⟩ ⟨(Nat.le_of_ble_eq_true rfl), (Nat.le_of_ble_eq_true rfl)⟩ rfl rfl (Nat.le_of_ble_eq_true rfl) dX8_squareShare_83 (fun H locs Y => ?_)
      refine W.eq (g2 := F0 m 86 ls []) rfl ?_
      refine lv_aload_n hx hb dX8_squareShare_86 rfl (lv_at hl 2 rfl) ?_
      refine lv_aload_n hx hb dX8_squareShare_87 rfl (lv_at hl 0 rfl) ?_
      by_cases c15 : hKd q14 a0 = some 6
      · replace h := Eq.trans (if_pos c15).symm h
        replace h := xb h
        obtain ⟨q16, eq16, h⟩ := h
        refine q_callU X Y hl.1 (rest := [.ref a3]) (As := []) (c_X7_spanDivisor l G z q14 a0 _ eq16) cd_X7_spanDivisor lu_X8_59_6 c15 ⟨(Nat.le_of_ble_eq_true rfl), (Nat.le_of_ble_eq_true rfl)⟩ ⟨(Nat.le_of_ble_eq_true rfl), (Nat.le_of_ble_eq_true rfl)⟩ rfl rfl (Nat.le_of_ble_eq_true rfl) dX8_squareShare_88 (fun H locs Y => ?_)
        refine W.eq (g2 := F0 m 91 ls [.long q16, .ref a3]) rfl ?_
        by_cases c17 : hKd q14 a3 = some 8
        · replace h := Eq.trans (if_pos c17).symm h
          replace h := xb h
          obtain ⟨q18, eq18, h⟩ := h
          refine q_callV X Y hl.1 (rest := []) (As := [.long q16]) (c_X9_multiplyBy l G z q14 a3 q16 _ eq18) cd_X9_multiplyBy lv_X8_63_8 c17 ⟨(Nat.le_of_ble_eq_true rfl), (Nat.le_of_ble_eq_true rfl)⟩ ⟨(Nat.le_of_ble_eq_true rfl), (Nat.le_of_ble_eq_true rfl)⟩ rfl rfl (Nat.le_of_ble_eq_true rfl) dX8_squareShare_91 (fun H locs Y => ?_)
          refine W.eq (g2 := F0 m 94 ls []) rfl ?_
          replace h := Option.some.inj h
          subst h
          exact q_retv X Y hr hlocks (Nat.le_of_ble_eq_true rfl) (Nat.le_of_ble_eq_true rfl) dX8_squareShare_94
        replace h := Eq.trans (if_neg c17).symm h
        cases h
      replace h := Eq.trans (if_neg c15).symm h
      by_cases c19 : hKd q14 a0 = some 7
      · replace h := Eq.trans (if_pos c19).symm h
        replace h := xb h
        obtain ⟨q20, eq20, h⟩ := h
        refine q_callV X Y hl.1 (rest := [.ref a3]) (As := []) (c_X8_spanDivisor l G z q14 a0 _ eq20) cd_X8_spanDivisor lv_X8_59_7 c19 ⟨(Nat.le_of_ble_eq_true rfl), (Nat.le_of_ble_eq_true rfl)⟩ ⟨(Nat.le_of_ble_eq_true rfl), (Nat.le_of_ble_eq_true rfl)⟩ rfl rfl (Nat.le_of_ble_eq_true rfl) dX8_squareShare_88 (fun H locs Y => ?_)
        refine W.eq (g2 := F0 m 91 ls [.long q20, .ref a3]) rfl ?_
        by_cases c21 : hKd q14 a3 = some 8
        · replace h := Eq.trans (if_pos c21).symm h
          replace h := xb h
          obtain ⟨q22, eq22, h⟩ := h
          refine q_callV X Y hl.1 (rest := []) (As := [.long q20]) (c_X9_multiplyBy l G z q14 a3 q20 _ eq22) cd_X9_multiplyBy lv_X8_63_8 c21 ⟨(Nat.le_of_ble_eq_true rfl), (Nat.le_of_ble_eq_true rfl)⟩ ⟨(Nat.le_of_ble_eq_true rfl), (Nat.le_of_ble_eq_true rfl)⟩ rfl rfl (Nat.le_of_ble_eq_true rfl) dX8_squareShare_91 (fun H locs Y => ?_)
          refine W.eq (g2 := F0 m 94 ls []) rfl ?_
          replace h := Option.some.inj h
          subst h
          exact q_retv X Y hr hlocks (Nat.le_of_ble_eq_true rfl) (Nat.le_of_ble_eq_true rfl) dX8_squareShare_94
        replace h := Eq.trans (if_neg c21).symm h
        cases h
      replace h := Eq.trans (if_neg c19).symm h
      cases h
    replace h := Eq.trans (if_neg c13).symm h
    cases h
  replace h := Eq.trans (if_neg c1).symm h
  cases h
set_option maxRecDepth 100000 in
set_option maxHeartbeats 4000000 in
theorem c_X8_squareShare (l : Launch) (G : xG) (z : Nat) (f : xHp) (h0 : Nat) (p1 : Int32) (p2 : Int32) (p3 : Nat) (rs : xHp) (h : F_X8_squareShare f h0 p1 p2 p3 = some rs) : xM G l yX8_squareShare cX8_squareShare 7 none rm_X8_squareShare [.ref h0, .int p1, .int p2, .ref p3] z f none z rs := by
  refine xM_of (by decide) (Nat.le_of_ble_eq_true rfl) ?_
  intro p e s m below meth c ls X hr hlocks hin Y hl
  have hl : lv_has ls 7 [(0, .ref h0), (1, .int p1), (2, .int p2), (3, .ref p3)] := hl
  have hx := X.1.1
  have hb := X.1.2.1
  unfold F_X8_squareShare at h
  refine lv_iconst (v := 5) hx hb dX8_squareShare_0 (by decide) ?_
  refine lv_iload_n hx hb dX8_squareShare_1 rfl (lv_at hl 2 rfl) ?_
  refine lv_imul hx hb dX8_squareShare_2 ?_
  refine lv_istore (lv' := [(4, .int ((5 : Int32) * p2)), (0, .ref h0), (1, .int p1), (2, .int p2), (3, .ref p3)]) hx hb dX8_squareShare_3 hl (by decide) rfl (fun ls hl => ?_)
  refine q_sget (k := 2) X Y (by decide) xw_715 dX8_squareShare_5 ?_
  refine lv_iload_n hx hb dX8_squareShare_8 rfl (lv_at hl 2 rfl) ?_
  replace h := xb h
  obtain ⟨v1, ev1, h⟩ := h
  refine q_sld (k := 2) X Y (by decide) ev1 dX8_squareShare_9 ?_
  refine lv_istore (lv' := [(5, .int v1), (4, .int ((5 : Int32) * p2)), (0, .ref h0), (1, .int p1), (2, .int p2), (3, .ref p3)]) hx hb dX8_squareShare_10 hl (by decide) rfl (fun ls hl => ?_)
  refine q_sget (k := 3) X Y (by decide) xw_721 dX8_squareShare_12 ?_
  refine lv_iload_n hx hb dX8_squareShare_15 rfl (lv_at hl 3 rfl) ?_
  replace h := xb h
  obtain ⟨v2, ev2, h⟩ := h
  refine q_sld (k := 3) X Y (by decide) ev2 dX8_squareShare_16 ?_
  refine lv_istore (lv' := [(6, .int v2), (5, .int v1), (4, .int ((5 : Int32) * p2)), (0, .ref h0), (1, .int p1), (2, .int p2), (3, .ref p3)]) hx hb dX8_squareShare_17 hl (by decide) rfl (fun ls hl => ?_)
  refine lv_aload_n hx hb dX8_squareShare_19 rfl (lv_at hl 6 rfl) ?_
  refine lv_aload_n hx hb dX8_squareShare_20 rfl (lv_at hl 3 rfl) ?_
  replace h := xb h
  obtain ⟨v3, ev3, h⟩ := h
  refine q_getN X Y fl_X8_9 ev3 dX8_squareShare_21 ?_
  refine lv_iload hx hb dX8_squareShare_24 (lv_at hl 2 rfl) ?_
  replace h := xb h
  obtain ⟨v4, ev4, h⟩ := h
  refine q_lald X Y ev4 dX8_squareShare_26 ?_
  by_cases c5 : hKd f p3 = some 8
  · replace h := Eq.trans (if_pos c5).symm h
    replace h := xb h
    obtain ⟨q6, eq6, h⟩ := h
    refine q_callV X Y hl.1 (rest := []) (As := [.long v4]) (c_X9_become l G z f p3 v4 _ eq6) cd_X9_become lv_X8_49_8 c5 ⟨(Nat.le_of_ble_eq_true rfl), (Nat.le_of_ble_eq_true rfl)⟩ ⟨(Nat.le_of_ble_eq_true rfl), (Nat.le_of_ble_eq_true rfl)⟩ rfl rfl (Nat.le_of_ble_eq_true rfl) dX8_squareShare_27 (fun H locs Y => ?_)
    refine W.eq (g2 := F0 m 30 ls []) rfl ?_
    refine lv_aload_n hx hb dX8_squareShare_30 rfl (lv_at hl 6 rfl) ?_
    refine lv_aload_n hx hb dX8_squareShare_31 rfl (lv_at hl 3 rfl) ?_
    replace h := xb h
    obtain ⟨v7, ev7, h⟩ := h
    refine q_getN X Y fl_X8_9 ev7 dX8_squareShare_32 ?_
    refine lv_iload hx hb dX8_squareShare_35 (lv_at hl 2 rfl) ?_
    refine lv_iconst (v := 2) hx hb dX8_squareShare_37 (by decide) ?_
    refine lv_iadd hx hb dX8_squareShare_38 ?_
    refine lv_iload hx hb dX8_squareShare_39 (lv_at hl 1 rfl) ?_
    refine lv_iadd hx hb dX8_squareShare_41 ?_
    replace h := xb h
    obtain ⟨v8, ev8, h⟩ := h
    refine q_lald X Y ev8 dX8_squareShare_42 ?_
    by_cases c9 : hKd q6 p3 = some 8
    · replace h := Eq.trans (if_pos c9).symm h
      replace h := xb h
      obtain ⟨q10, eq10, h⟩ := h
      refine q_callV X Y hl.1 (rest := []) (As := [.long v8]) (c_X9_multiplyBy l G z q6 p3 v8 _ eq10) cd_X9_multiplyBy lv_X8_63_8 c9 ⟨(Nat.le_of_ble_eq_true rfl), (Nat.le_of_ble_eq_true rfl)⟩ ⟨(Nat.le_of_ble_eq_true rfl), (Nat.le_of_ble_eq_true rfl)⟩ rfl rfl (Nat.le_of_ble_eq_true rfl) dX8_squareShare_43 (fun H locs Y => ?_)
      refine W.eq (g2 := F0 m 46 ls []) rfl ?_
      refine lv_aload_n hx hb dX8_squareShare_46 rfl (lv_at hl 6 rfl) ?_
      refine lv_aload_n hx hb dX8_squareShare_47 rfl (lv_at hl 3 rfl) ?_
      replace h := xb h
      obtain ⟨v11, ev11, h⟩ := h
      refine q_getN X Y fl_X8_9 ev11 dX8_squareShare_48 ?_
      refine lv_iload hx hb dX8_squareShare_51 (lv_at hl 2 rfl) ?_
      refine lv_iconst (v := 2) hx hb dX8_squareShare_53 (by decide) ?_
      refine lv_iadd hx hb dX8_squareShare_54 ?_
      refine lv_iload hx hb dX8_squareShare_55 (lv_at hl 0 rfl) ?_
      refine lv_iadd hx hb dX8_squareShare_57 ?_
      replace h := xb h
      obtain ⟨v12, ev12, h⟩ := h
      refine q_lald X Y ev12 dX8_squareShare_58 ?_
      by_cases c13 : hKd q10 p3 = some 8
      · replace h := Eq.trans (if_pos c13).symm h
        replace h := xb h
        obtain ⟨q14, eq14, h⟩ := h
        refine q_callV X Y hl.1 (rest := []) (As := [.long v12]) (c_X9_multiplyBy l G z q10 p3 v12 _ eq14) cd_X9_multiplyBy lv_X8_63_8 c13 ⟨(Nat.le_of_ble_eq_true rfl), (Nat.le_of_ble_eq_true rfl)⟩ ⟨(Nat.le_of_ble_eq_true rfl), (Nat.le_of_ble_eq_true rfl)⟩ rfl rfl (Nat.le_of_ble_eq_true rfl) dX8_squareShare_59 (fun H locs Y => ?_)
        refine W.eq (g2 := F0 m 62 ls []) rfl ?_
        refine lv_aload_n hx hb dX8_squareShare_62 rfl (lv_at hl 6 rfl) ?_
        refine lv_iload hx hb dX8_squareShare_63 (lv_at hl 1 rfl) ?_
        refine lv_iload hx hb dX8_squareShare_65 (lv_at hl 0 rfl) ?_
        refine lv_icmp_ne (tgt := 74) hx hb dX8_squareShare_67 (by decide) (fun c15 => ?_) (fun c15 => ?_)
        · replace h := Eq.trans (if_neg c15).symm h
          refine lv_ldc2 (v := 2) hx hb X.1.2.2.2.1 (X.1.2.2.2.2 _ xw_723) dX8_squareShare_74 ?_
          refine W.widen (k := 0) (n := 0) (Nat.le_of_ble_eq_true rfl) (Nat.le_of_ble_eq_true rfl) ?_
          exact w_X8_squareShare_77 X hr hlocks hin rs   q14 h0 p2 p3 (2 : Int64) p3 _ _ _ h Y (lv_sub hl [3, 5, 6] rfl)
        · replace h := Eq.trans (if_pos c15).symm h
          refine lv_lconst (v := 1) hx hb dX8_squareShare_70 (by decide) ?_
          refine lv_goto (tgt := 77) hx hb dX8_squareShare_71 (by decide) ?_
          refine W.widen (k := 0) (n := 0) (Nat.le_of_ble_eq_true rfl) (Nat.le_of_ble_eq_true rfl) ?_
          exact w_X8_squareShare_77 X hr hlocks hin rs   q14 h0 p2 p3 (1 : Int64) p3 _ _ _ h Y (lv_sub hl [3, 5, 6] rfl)
      replace h := Eq.trans (if_neg c13).symm h
      cases h
    replace h := Eq.trans (if_neg c9).symm h
    cases h
  replace h := Eq.trans (if_neg c5).symm h
  cases h
/-! NeverBelow$Whole.isNought()Z -/
abbrev rm_X9_isNought : Room := { frames := 0, cells := 0, slots := 0, locals := 0 }
def F_X9_isNought_2 (f : xHp) (k2 : Nat → Int32 → Option (Int32))  (a0 : Nat) (a1 : Int32) : Option (Int32) := Option.bind (hN f a0 [(8, 0)]) fun v1 => Option.bind (hLen f v1) fun v2 => if v2 ≤ a1 then (some (1 : Int32)) else (Option.bind (hN f a0 [(8, 0)]) fun v4 => Option.bind (hIld f v4 a1) fun v5 => if v5 = 0 then (k2 a0 (a1 + 1)) else (some (0 : Int32)))
def L_X9_isNought_2 (f : xHp)  : Nat → Nat → Int32 → Option (Int32)
  | 0, _, _ => none
  | n + 1, a0, a1 => F_X9_isNought_2 f (L_X9_isNought_2 f  n) a0 a1
def F_X9_isNought (f : xHp) (h0 : Nat) : Option (Int32) := L_X9_isNought_2 f xfuel h0 (0 : Int32)
set_option maxRecDepth 100000 in
set_option maxHeartbeats 4000000 in
theorem w_X9_isNought_2 {p : Program} {l : Launch} {e : Env} {s : State} {m : MethodId} {args : Array Value} {below : List Frame} {meth : Method} {c : Code} {G : xG} {z : Nat} {f : xHp} (X : xC G p m c s args RX9 cX9_isNought 2) (hr : meth.sig.returnType = (some .boolean)) (hlocks : meth.locks = false) (hin : meth.name = yX9_isNought.name) (rs : Int32) (k2 : Nat → Int32 → Option (Int32)) (hk2 : ∀ (a0 : Nat) (a1 : Int32) (H : Heap) (locs : List Loc) (ls : Array Slot), k2 a0 a1 = some rs → xY G z f s H locs → lv_has ls 2 [(0, .ref a0), (1, .int a1)] → W p l e rm_X9_isNought s m args below meth c H locs 0 0 (MQ below (xQ G (some (.int rs)) z f) args s rm_X9_isNought.cells rm_X9_isNought.slots (xA G)) (F0 m 2 ls [])) (a0 : Nat) (a1 : Int32) (H : Heap) (locs : List Loc) (ls : Array Slot) (h : F_X9_isNought_2 f k2 a0 a1 = some rs) (Y : xY G z f s H locs) (hl : lv_has ls 2 [(0, .ref a0), (1, .int a1)]) : W p l e rm_X9_isNought s m args below meth c H locs 0 0 (MQ below (xQ G (some (.int rs)) z f) args s rm_X9_isNought.cells rm_X9_isNought.slots (xA G)) (F0 m 2 ls []) := by
  have hx := X.1.1
  have hb := X.1.2.1
  unfold F_X9_isNought_2 at h
  refine lv_iload_n hx hb dX9_isNought_2 rfl (lv_at hl 1 rfl) ?_
  refine lv_aload_n hx hb dX9_isNought_3 rfl (lv_at hl 0 rfl) ?_
  replace h := xb h
  obtain ⟨v1, ev1, h⟩ := h
  refine q_getN X Y fl_X9_7 ev1 dX9_isNought_4 ?_
  replace h := xb h
  obtain ⟨v2, ev2, h⟩ := h
  refine q_alen X Y ev2 dX9_isNought_7 ?_
  refine lv_icmp_ge (tgt := 28) hx hb dX9_isNought_8 (by decide) (fun c3 => ?_) (fun c3 => ?_)
  · replace h := Eq.trans (if_pos c3).symm h
    refine lv_iconst (v := 1) hx hb dX9_isNought_28 (by decide) ?_
    replace h := Option.some.inj h
    subst h
    exact q_retz (v := (1 : Int32)) X Y hr hlocks rfl (Nat.le_of_ble_eq_true rfl) (Nat.le_of_ble_eq_true rfl) dX9_isNought_29
  · replace h := Eq.trans (if_neg c3).symm h
    refine lv_aload_n hx hb dX9_isNought_11 rfl (lv_at hl 0 rfl) ?_
    replace h := xb h
    obtain ⟨v4, ev4, h⟩ := h
    refine q_getN X Y fl_X9_7 ev4 dX9_isNought_12 ?_
    refine lv_iload_n hx hb dX9_isNought_15 rfl (lv_at hl 1 rfl) ?_
    replace h := xb h
    obtain ⟨v5, ev5, h⟩ := h
    refine q_iald X Y ev5 dX9_isNought_16 ?_
    refine lv_if_eq (tgt := 22) hx hb dX9_isNought_17 (by decide) (fun c6 => ?_) (fun c6 => ?_)
    · replace h := Eq.trans (if_pos c6).symm h
      refine lv_iinc (v := (a1 + 1)) (lv' := [(1, .int (a1 + 1)), (0, .ref a0)]) hx hb dX9_isNought_22 hl (k := 1) rfl rfl (by decide) rfl (fun ls hl => ?_)
      refine lv_goto (tgt := 2) hx hb dX9_isNought_25 (by decide) ?_
      refine W.widen (k := 0) (n := 0) (Nat.le_of_ble_eq_true rfl) (Nat.le_of_ble_eq_true rfl) ?_
      exact hk2 a0 (a1 + 1) _ _ _ h Y (lv_sub hl [1, 0] rfl)
    · replace h := Eq.trans (if_neg c6).symm h
      refine lv_iconst (v := 0) hx hb dX9_isNought_20 (by decide) ?_
      replace h := Option.some.inj h
      subst h
      exact q_retz (v := (0 : Int32)) X Y hr hlocks rfl (Nat.le_of_ble_eq_true rfl) (Nat.le_of_ble_eq_true rfl) dX9_isNought_21
set_option maxRecDepth 100000 in
set_option maxHeartbeats 4000000 in
theorem lw_X9_isNought_2 {p : Program} {l : Launch} {e : Env} {s : State} {m : MethodId} {args : Array Value} {below : List Frame} {meth : Method} {c : Code} {G : xG} {z : Nat} {f : xHp} (X : xC G p m c s args RX9 cX9_isNought 2) (hr : meth.sig.returnType = (some .boolean)) (hlocks : meth.locks = false) (hin : meth.name = yX9_isNought.name) (rs : Int32)  : ∀ (n : Nat) (a0 : Nat) (a1 : Int32) (H : Heap) (locs : List Loc) (ls : Array Slot), L_X9_isNought_2 f  n a0 a1 = some rs → xY G z f s H locs → lv_has ls 2 [(0, .ref a0), (1, .int a1)] → W p l e rm_X9_isNought s m args below meth c H locs 0 0 (MQ below (xQ G (some (.int rs)) z f) args s rm_X9_isNought.cells rm_X9_isNought.slots (xA G)) (F0 m 2 ls []) := by
  intro n
  induction n with
  | zero => intro a0 a1 H locs ls h Y hl; cases h
  | succ n ih => intro a0 a1 H locs ls h Y hl; exact w_X9_isNought_2 X hr hlocks hin rs _ ih a0 a1 _ _ _ h Y hl
set_option maxRecDepth 100000 in
set_option maxHeartbeats 4000000 in
theorem c_X9_isNought (l : Launch) (G : xG) (z : Nat) (f : xHp) (h0 : Nat) (rs : Int32) (h : F_X9_isNought f h0 = some rs) : xM G l yX9_isNought cX9_isNought 2 (some .boolean) rm_X9_isNought [.ref h0] z f (some (.int rs)) z f := by
  refine xM_of (by decide) (Nat.le_of_ble_eq_true rfl) ?_
  intro p e s m below meth c ls X hr hlocks hin Y hl
  have hl : lv_has ls 2 [(0, .ref h0)] := hl
  have hx := X.1.1
  have hb := X.1.2.1
  unfold F_X9_isNought at h
  refine lv_iconst (v := 0) hx hb dX9_isNought_0 (by decide) ?_
  refine lv_istore_n (lv' := [(1, .int (0 : Int32)), (0, .ref h0)]) hx hb dX9_isNought_1 rfl hl (by decide) rfl (fun ls hl => ?_)
  refine W.widen (k := 0) (n := 0) (Nat.le_of_ble_eq_true rfl) (Nat.le_of_ble_eq_true rfl) ?_
  exact lw_X9_isNought_2 X hr hlocks hin rs  xfuel h0 (0 : Int32) _ _ _ h Y (lv_sub hl [1, 0] rfl)

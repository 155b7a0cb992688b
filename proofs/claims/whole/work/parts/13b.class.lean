/-! NeverBelow$Polynomial.multiplyInto(LNeverBelow$Polynomial;[J)Z -/
abbrev rm_X4_multiplyInto : Room := { frames := 0, cells := 1, slots := 25, locals := 0 }
def F_X4_multiplyInto_143 (k84 : Nat → xHp → Nat → Nat → Int32 → Int32 → Option (Int32 × Nat × xHp)) (z : Nat) (f : xHp) (a2 : Nat) (a3 : Nat) (a4 : Int32) (a5 : Int32) : Option (Int32 × Nat × xHp) := k84 z f a2 a3 a4 (a5 + 1)
def F_X4_multiplyInto_131 (k84 : Nat → xHp → Nat → Nat → Int32 → Int32 → Option (Int32 × Nat × xHp)) (z : Nat) (f : xHp) (a2 : Nat) (a3 : Nat) (a4 : Int32) (a5 : Int32) : Option (Int32 × Nat × xHp) := Option.bind (hJld f a3 a5) fun v1 => if v1 = (0 : Int64) then (F_X4_multiplyInto_143 k84 z f a2 a3 a4 a5) else (F_X4_multiplyInto_143 k84 z f a2 a3 (1 : Int32) a5)
def F_X4_multiplyInto_84 (k84 : Nat → xHp → Nat → Nat → Int32 → Int32 → Option (Int32 × Nat × xHp)) (z : Nat) (f : xHp) (a2 : Nat) (a3 : Nat) (a4 : Int32) (a5 : Int32) : Option (Int32 × Nat × xHp) := Option.bind (hLen f a3) fun v1 => if v1 ≤ a5 then (Option.bind (hZ a4) fun v3 => some (v3, z, f)) else (if (2 : Int32) < (a5 / (5 : Int32)) then (F_X4_multiplyInto_131 k84 z f a2 a3 a4 a5) else (if (2 : Int32) < (a5 - a5 / (5 : Int32) * (5 : Int32)) then (F_X4_multiplyInto_131 k84 z f a2 a3 a4 a5) else (Option.bind (hJld f a3 a5) fun v6 => Option.bind (hJst f a2 (((3 : Int32) * (a5 / (5 : Int32))) + (a5 - a5 / (5 : Int32) * (5 : Int32))) v6) fun f7 => F_X4_multiplyInto_143 k84 z f7 a2 a3 a4 a5)))
def L_X4_multiplyInto_84  : Nat → Nat → xHp → Nat → Nat → Int32 → Int32 → Option (Int32 × Nat × xHp)
  | 0, _, _, _, _, _, _ => none
  | n + 1, z, f, a2, a3, a4, a5 => F_X4_multiplyInto_84 (L_X4_multiplyInto_84  n) z f a2 a3 a4 a5
def F_X4_multiplyInto_18 (k8 : Nat → xHp → Nat → Nat → Nat → Nat → Int32 → Option (Int32 × Nat × xHp)) (k18 : Nat → xHp → Nat → Nat → Nat → Nat → Int32 → Int32 → Option (Int32 × Nat × xHp)) (z : Nat) (f : xHp) (a0 : Nat) (a1 : Nat) (a2 : Nat) (a3 : Nat) (a4 : Int32) (a5 : Int32) : Option (Int32 × Nat × xHp) := if (9 : Int32) ≤ a5 then (k8 z f a0 a1 a2 a3 (a4 + 1)) else (Option.bind (hJld f a3 ((((5 : Int32) * ((a4 / (3 : Int32)) + (a5 / (3 : Int32)))) + (a4 - a4 / (3 : Int32) * (3 : Int32))) + (a5 - a5 / (3 : Int32) * (3 : Int32)))) fun v2 => Option.bind (hN f a0 [(4, 0)]) fun v3 => Option.bind (hJld f v3 a4) fun v4 => Option.bind (hN f a1 [(4, 0)]) fun v5 => Option.bind (hJld f v5 a5) fun v6 => Option.bind (hJst f a3 ((((5 : Int32) * ((a4 / (3 : Int32)) + (a5 / (3 : Int32)))) + (a4 - a4 / (3 : Int32) * (3 : Int32))) + (a5 - a5 / (3 : Int32) * (3 : Int32))) (v2 + (v4 * v6))) fun f7 => k18 z f7 a0 a1 a2 a3 a4 (a5 + 1))
def L_X4_multiplyInto_18 (k8 : Nat → xHp → Nat → Nat → Nat → Nat → Int32 → Option (Int32 × Nat × xHp)) : Nat → Nat → xHp → Nat → Nat → Nat → Nat → Int32 → Int32 → Option (Int32 × Nat × xHp)
  | 0, _, _, _, _, _, _, _, _ => none
  | n + 1, z, f, a0, a1, a2, a3, a4, a5 => F_X4_multiplyInto_18 k8 (L_X4_multiplyInto_18 k8 n) z f a0 a1 a2 a3 a4 a5
def F_X4_multiplyInto_8 (k8 : Nat → xHp → Nat → Nat → Nat → Nat → Int32 → Option (Int32 × Nat × xHp)) (z : Nat) (f : xHp) (a0 : Nat) (a1 : Nat) (a2 : Nat) (a3 : Nat) (a4 : Int32) : Option (Int32 × Nat × xHp) := if (9 : Int32) ≤ a4 then (L_X4_multiplyInto_84 xfuel z f a2 a3 (0 : Int32) (0 : Int32)) else (L_X4_multiplyInto_18 k8 xfuel z f a0 a1 a2 a3 a4 (0 : Int32))
def L_X4_multiplyInto_8  : Nat → Nat → xHp → Nat → Nat → Nat → Nat → Int32 → Option (Int32 × Nat × xHp)
  | 0, _, _, _, _, _, _, _ => none
  | n + 1, z, f, a0, a1, a2, a3, a4 => F_X4_multiplyInto_8 (L_X4_multiplyInto_8  n) z f a0 a1 a2 a3 a4
def F_X4_multiplyInto (z : Nat) (f : xHp) (h0 : Nat) (p1 : Nat) (p2 : Nat) : Option (Int32 × Nat × xHp) := Option.bind (hNw (25 : Int32) 25) fun n1 => Option.bind (some (va_up f z (some (.inr (.inl (n1, fun _ => 0)))))) fun f2 => L_X4_multiplyInto_8 xfuel (z + 1) f2 h0 p1 p2 z (0 : Int32)
set_option maxRecDepth 100000 in
set_option maxHeartbeats 4000000 in
theorem w_X4_multiplyInto_143 {p : Program} {l : Launch} {e : Env} {s : State} {m : MethodId} {args : Array Value} {below : List Frame} {meth : Method} {c : Code} {G : xG} (X : xC G p m c s args RX4 cX4_multiplyInto 8) (hr : meth.sig.returnType = (some .boolean)) (hlocks : meth.locks = false) (hin : meth.name = yX4_multiplyInto.name) (rs : Int32 × Nat × xHp) (k84 : Nat → xHp → Nat → Nat → Int32 → Int32 → Option (Int32 × Nat × xHp)) (hk84 : ∀ (z : Nat) (f : xHp) (a2 : Nat) (a3 : Nat) (a4 : Int32) (a5 : Int32) (H : Heap) (locs : List Loc) (ls : Array Slot), k84 z f a2 a3 a4 a5 = some rs → xY G z f s H locs → lv_has ls 8 [(2, .ref a2), (3, .ref a3), (4, .int a4), (5, .int a5)] → W p l e rm_X4_multiplyInto s m args below meth c H locs 1 25 (MQ below (xQ G (some (.int rs.1)) rs.2.1 rs.2.2) args s rm_X4_multiplyInto.cells rm_X4_multiplyInto.slots (xA G)) (F0 m 84 ls [])) (z : Nat) (f : xHp) (a2 : Nat) (a3 : Nat) (a4 : Int32) (a5 : Int32) (H : Heap) (locs : List Loc) (ls : Array Slot) (h : F_X4_multiplyInto_143 k84 z f a2 a3 a4 a5 = some rs) (Y : xY G z f s H locs) (hl : lv_has ls 8 [(2, .ref a2), (3, .ref a3), (4, .int a4), (5, .int a5)]) : W p l e rm_X4_multiplyInto s m args below meth c H locs 1 25 (MQ below (xQ G (some (.int rs.1)) rs.2.1 rs.2.2) args s rm_X4_multiplyInto.cells rm_X4_multiplyInto.slots (xA G)) (F0 m 143 ls []) := by
  have hx := X.1.1
  have hb := X.1.2.1
  unfold F_X4_multiplyInto_143 at h
  refine lv_iinc (v := (a5 + 1)) (lv' := [(5, .int (a5 + 1)), (2, .ref a2), (3, .ref a3), (4, .int a4)]) hx hb dX4_multiplyInto_143 hl (k := 3) rfl rfl (by decide) rfl (fun ls hl => ?_)
  refine lv_goto (tgt := 84) hx hb dX4_multiplyInto_146 (by decide) ?_
  refine W.widen (k := 1) (n := 25) (Nat.le_of_ble_eq_true rfl) (Nat.le_of_ble_eq_true rfl) ?_
  exact hk84 z f a2 a3 a4 (a5 + 1) _ _ _ h Y (lv_sub hl [1, 2, 3, 0] rfl)
set_option maxRecDepth 100000 in
set_option maxHeartbeats 4000000 in
theorem w_X4_multiplyInto_131 {p : Program} {l : Launch} {e : Env} {s : State} {m : MethodId} {args : Array Value} {below : List Frame} {meth : Method} {c : Code} {G : xG} (X : xC G p m c s args RX4 cX4_multiplyInto 8) (hr : meth.sig.returnType = (some .boolean)) (hlocks : meth.locks = false) (hin : meth.name = yX4_multiplyInto.name) (rs : Int32 × Nat × xHp) (k84 : Nat → xHp → Nat → Nat → Int32 → Int32 → Option (Int32 × Nat × xHp)) (hk84 : ∀ (z : Nat) (f : xHp) (a2 : Nat) (a3 : Nat) (a4 : Int32) (a5 : Int32) (H : Heap) (locs : List Loc) (ls : Array Slot), k84 z f a2 a3 a4 a5 = some rs → xY G z f s H locs → lv_has ls 8 [(2, .ref a2), (3, .ref a3), (4, .int a4), (5, .int a5)] → W p l e rm_X4_multiplyInto s m args below meth c H locs 1 25 (MQ below (xQ G (some (.int rs.1)) rs.2.1 rs.2.2) args s rm_X4_multiplyInto.cells rm_X4_multiplyInto.slots (xA G)) (F0 m 84 ls [])) (z : Nat) (f : xHp) (a2 : Nat) (a3 : Nat) (a4 : Int32) (a5 : Int32) (H : Heap) (locs : List Loc) (ls : Array Slot) (h : F_X4_multiplyInto_131 k84 z f a2 a3 a4 a5 = some rs) (Y : xY G z f s H locs) (hl : lv_has ls 8 [(2, .ref a2), (3, .ref a3), (4, .int a4), (5, .int a5)]) : W p l e rm_X4_multiplyInto s m args below meth c H locs 1 25 (MQ below (xQ G (some (.int rs.1)) rs.2.1 rs.2.2) args s rm_X4_multiplyInto.cells rm_X4_multiplyInto.slots (xA G)) (F0 m 131 ls []) := by
  have hx := X.1.1
  have hb := X.1.2.1
  unfold F_X4_multiplyInto_131 at h
  refine lv_aload_n hx hb dX4_multiplyInto_131 rfl (lv_at hl 1 rfl) ?_
  refine lv_iload hx hb dX4_multiplyInto_132 (lv_at hl 3 rfl) ?_
  replace h := xb h
  obtain ⟨v1, ev1, h⟩ := h
  refine q_lald X Y ev1 dX4_multiplyInto_134 ?_
  refine lv_lconst (v := 0) hx hb dX4_multiplyInto_135 (by decide) ?_
  refine q_lcmp_eq (tgt := 143) hx hb dX4_multiplyInto_136 dX4_multiplyInto_137 (by decide) (fun c2 => ?_) (fun c2 => ?_)
  · replace h := Eq.trans (if_pos c2).symm h
    refine W.widen (k := 1) (n := 25) (Nat.le_of_ble_eq_true rfl) (Nat.le_of_ble_eq_true rfl) ?_
    exact w_X4_multiplyInto_143 X hr hlocks hin rs k84 hk84  z f a2 a3 a4 a5 _ _ _ h Y (lv_sub hl [0, 1, 2, 3] rfl)
  · replace h := Eq.trans (if_neg c2).symm h
    refine lv_iconst (v := 1) hx hb dX4_multiplyInto_140 (by decide) ?_
    refine lv_istore (lv' := [(4, .int (1 : Int32)), (2, .ref a2), (3, .ref a3), (5, .int a5)]) hx hb dX4_multiplyInto_141 hl (by decide) rfl (fun ls hl => ?_)
    refine W.widen (k := 1) (n := 25) (Nat.le_of_ble_eq_true rfl) (Nat.le_of_ble_eq_true rfl) ?_
    exact w_X4_multiplyInto_143 X hr hlocks hin rs k84 hk84  z f a2 a3 (1 : Int32) a5 _ _ _ h Y (lv_sub hl [1, 2, 0, 3] rfl)
set_option maxRecDepth 100000 in
set_option maxHeartbeats 4000000 in
theorem w_X4_multiplyInto_84 {p : Program} {l : Launch} {e : Env} {s : State} {m : MethodId} {args : Array Value} {below : List Frame} {meth : Method} {c : Code} {G : xG} (X : xC G p m c s args RX4 cX4_multiplyInto 8) (hr : meth.sig.returnType = (some .boolean)) (hlocks : meth.locks = false) (hin : meth.name = yX4_multiplyInto.name) (rs : Int32 × Nat × xHp) (k84 : Nat → xHp → Nat → Nat → Int32 → Int32 → Option (Int32 × Nat × xHp)) (hk84 : ∀ (z : Nat) (f : xHp) (a2 : Nat) (a3 : Nat) (a4 : Int32) (a5 : Int32) (H : Heap) (locs : List Loc) (ls : Array Slot), k84 z f a2 a3 a4 a5 = some rs → xY G z f s H locs → lv_has ls 8 [(2, .ref a2), (3, .ref a3), (4, .int a4), (5, .int a5)] → W p l e rm_X4_multiplyInto s m args below meth c H locs 1 25 (MQ below (xQ G (some (.int rs.1)) rs.2.1 rs.2.2) args s rm_X4_multiplyInto.cells rm_X4_multiplyInto.slots (xA G)) (F0 m 84 ls [])) (z : Nat) (f : xHp) (a2 : Nat) (a3 : Nat) (a4 : Int32) (a5 : Int32) (H : Heap) (locs : List Loc) (ls : Array Slot) (h : F_X4_multiplyInto_84 k84 z f a2 a3 a4 a5 = some rs) (Y : xY G z f s H locs) (hl : lv_has ls 8 [(2, .ref a2), (3, .ref a3), (4, .int a4), (5, .int a5)]) : W p l e rm_X4_multiplyInto s m args below meth c H locs 1 25 (MQ below (xQ G (some (.int rs.1)) rs.2.1 rs.2.2) args s rm_X4_multiplyInto.cells rm_X4_multiplyInto.slots (xA G)) (F0 m 84 ls []) := by
  have hx := X.1.1
  have hb := X.1.2.1
  unfold F_X4_multiplyInto_84 at h
  refine lv_iload hx hb dX4_multiplyInto_84 (lv_at hl 3 rfl) ?_
  refine lv_aload_n hx hb dX4_multiplyInto_86 rfl (lv_at hl 1 rfl) ?_
  replace h := xb h
  obtain ⟨v1, ev1, h⟩ := h
  refine q_alen X Y ev1 dX4_multiplyInto_87 ?_
  refine lv_icmp_ge (tgt := 149) hx hb dX4_multiplyInto_88 (by decide) (fun c2 => ?_) (fun c2 => ?_)
  · replace h := Eq.trans (if_pos c2).symm h
    refine lv_iload hx hb dX4_multiplyInto_149 (lv_at hl 2 rfl) ?_
    replace h := xb h
    obtain ⟨v3, ev3, h⟩ := h
    obtain ⟨ev3, kv3⟩ := hZ_of ev3
    rw [ev3] at h
    replace h := Option.some.inj h
    subst h
    exact q_retz (v := a4) X Y hr hlocks kv3 (Nat.le_of_ble_eq_true rfl) (Nat.le_of_ble_eq_true rfl) dX4_multiplyInto_151
  · replace h := Eq.trans (if_neg c2).symm h
    refine lv_iload hx hb dX4_multiplyInto_91 (lv_at hl 3 rfl) ?_
    refine lv_iconst (v := 5) hx hb dX4_multiplyInto_93 (by decide) ?_
    refine lv_idiv hx hb dX4_multiplyInto_94 (by decide) ?_
    refine lv_istore (lv' := [(6, .int (a5 / (5 : Int32))), (2, .ref a2), (3, .ref a3), (4, .int a4), (5, .int a5)]) hx hb dX4_multiplyInto_95 hl (by decide) rfl (fun ls hl => ?_)
    refine lv_iload hx hb dX4_multiplyInto_97 (lv_at hl 4 rfl) ?_
    refine lv_iconst (v := 5) hx hb dX4_multiplyInto_99 (by decide) ?_
    refine lv_irem hx hb dX4_multiplyInto_100 (by decide) ?_
    refine lv_istore (lv' := [(7, .int (a5 - a5 / (5 : Int32) * (5 : Int32))), (6, .int (a5 / (5 : Int32))), (2, .ref a2), (3, .ref a3), (4, .int a4), (5, .int a5)]) hx hb dX4_multiplyInto_101 hl (by decide) rfl (fun ls hl => ?_)
    refine lv_iload hx hb dX4_multiplyInto_103 (lv_at hl 1 rfl) ?_
    refine lv_iconst (v := 2) hx hb dX4_multiplyInto_105 (by decide) ?_
    refine lv_icmp_gt (tgt := 131) hx hb dX4_multiplyInto_106 (by decide) (fun c4 => ?_) (fun c4 => ?_)
    · replace h := Eq.trans (if_pos c4).symm h
      refine W.widen (k := 1) (n := 25) (Nat.le_of_ble_eq_true rfl) (Nat.le_of_ble_eq_true rfl) ?_
      exact w_X4_multiplyInto_131 X hr hlocks hin rs k84 hk84  z f a2 a3 a4 a5 _ _ _ h Y (lv_sub hl [2, 3, 4, 5] rfl)
    · replace h := Eq.trans (if_neg c4).symm h
      refine lv_iload hx hb dX4_multiplyInto_109 (lv_at hl 0 rfl) ?_
      refine lv_iconst (v := 2) hx hb dX4_multiplyInto_111 (by decide) ?_
      refine lv_icmp_gt (tgt := 131) hx hb dX4_multiplyInto_112 (by decide) (fun c5 => ?_) (fun c5 => ?_)
      · replace h := Eq.trans (if_pos c5).symm h
        refine W.widen (k := 1) (n := 25) (Nat.le_of_ble_eq_true rfl) (Nat.le_of_ble_eq_true rfl) ?_
        exact w_X4_multiplyInto_131 X hr hlocks hin rs k84 hk84  z f a2 a3 a4 a5 _ _ _ h Y (lv_sub hl [2, 3, 4, 5] rfl)
      · replace h := Eq.trans (if_neg c5).symm h
        refine lv_aload_n hx hb dX4_multiplyInto_115 rfl (lv_at hl 2 rfl) ?_
        refine lv_iconst (v := 3) hx hb dX4_multiplyInto_116 (by decide) ?_
        refine lv_iload hx hb dX4_multiplyInto_117 (lv_at hl 1 rfl) ?_
        refine lv_imul hx hb dX4_multiplyInto_119 ?_
        refine lv_iload hx hb dX4_multiplyInto_120 (lv_at hl 0 rfl) ?_
        refine lv_iadd hx hb dX4_multiplyInto_122 ?_
        refine lv_aload_n hx hb dX4_multiplyInto_123 rfl (lv_at hl 3 rfl) ?_
        refine lv_iload hx hb dX4_multiplyInto_124 (lv_at hl 5 rfl) ?_
        replace h := xb h
        obtain ⟨v6, ev6, h⟩ := h
        refine q_lald X Y ev6 dX4_multiplyInto_126 ?_
        replace h := xb h
        obtain ⟨f7, ef7, h⟩ := h
        refine q_last X Y ef7 dX4_multiplyInto_127 (fun H locs Y => ?_)
        refine lv_goto (tgt := 143) hx hb dX4_multiplyInto_128 (by decide) ?_
        refine W.widen (k := 1) (n := 25) (Nat.le_of_ble_eq_true rfl) (Nat.le_of_ble_eq_true rfl) ?_
        exact w_X4_multiplyInto_143 X hr hlocks hin rs k84 hk84  z f7 a2 a3 a4 a5 _ _ _ h Y (lv_sub hl [2, 3, 4, 5] rfl)
set_option maxRecDepth 100000 in
set_option maxHeartbeats 4000000 in
theorem lw_X4_multiplyInto_84 {p : Program} {l : Launch} {e : Env} {s : State} {m : MethodId} {args : Array Value} {below : List Frame} {meth : Method} {c : Code} {G : xG} (X : xC G p m c s args RX4 cX4_multiplyInto 8) (hr : meth.sig.returnType = (some .boolean)) (hlocks : meth.locks = false) (hin : meth.name = yX4_multiplyInto.name) (rs : Int32 × Nat × xHp)  : ∀ (n : Nat) (z : Nat) (f : xHp) (a2 : Nat) (a3 : Nat) (a4 : Int32) (a5 : Int32) (H : Heap) (locs : List Loc) (ls : Array Slot), L_X4_multiplyInto_84  n z f a2 a3 a4 a5 = some rs → xY G z f s H locs → lv_has ls 8 [(2, .ref a2), (3, .ref a3), (4, .int a4), (5, .int a5)] → W p l e rm_X4_multiplyInto s m args below meth c H locs 1 25 (MQ below (xQ G (some (.int rs.1)) rs.2.1 rs.2.2) args s rm_X4_multiplyInto.cells rm_X4_multiplyInto.slots (xA G)) (F0 m 84 ls []) := by
  intro n
  induction n with
  | zero => intro z f a2 a3 a4 a5 H locs ls h Y hl; cases h
  | succ n ih => intro z f a2 a3 a4 a5 H locs ls h Y hl; exact w_X4_multiplyInto_84 X hr hlocks hin rs _ ih z f a2 a3 a4 a5 _ _ _ h Y hl
set_option maxRecDepth 100000 in
set_option maxHeartbeats 4000000 in
theorem w_X4_multiplyInto_18 {p : Program} {l : Launch} {e : Env} {s : State} {m : MethodId} {args : Array Value} {below : List Frame} {meth : Method} {c : Code} {G : xG} (X : xC G p m c s args RX4 cX4_multiplyInto 8) (hr : meth.sig.returnType = (some .boolean)) (hlocks : meth.locks = false) (hin : meth.name = yX4_multiplyInto.name) (rs : Int32 × Nat × xHp) (k8 : Nat → xHp → Nat → Nat → Nat → Nat → Int32 → Option (Int32 × Nat × xHp)) (hk8 : ∀ (z : Nat) (f : xHp) (a0 : Nat) (a1 : Nat) (a2 : Nat) (a3 : Nat) (a4 : Int32) (H : Heap) (locs : List Loc) (ls : Array Slot), k8 z f a0 a1 a2 a3 a4 = some rs → xY G z f s H locs → lv_has ls 8 [(0, .ref a0), (1, .ref a1), (2, .ref a2), (3, .ref a3), (4, .int a4)] → W p l e rm_X4_multiplyInto s m args below meth c H locs 1 25 (MQ below (xQ G (some (.int rs.1)) rs.2.1 rs.2.2) args s rm_X4_multiplyInto.cells rm_X4_multiplyInto.slots (xA G)) (F0 m 8 ls [])) (k18 : Nat → xHp → Nat → Nat → Nat → Nat → Int32 → Int32 → Option (Int32 × Nat × xHp)) (hk18 : ∀ (z : Nat) (f : xHp) (a0 : Nat) (a1 : Nat) (a2 : Nat) (a3 : Nat) (a4 : Int32) (a5 : Int32) (H : Heap) (locs : List Loc) (ls : Array Slot), k18 z f a0 a1 a2 a3 a4 a5 = some rs → xY G z f s H locs → lv_has ls 8 [(0, .ref a0), (1, .ref a1), (2, .ref a2), (3, .ref a3), (4, .int a4), (5, .int a5)] → W p l e rm_X4_multiplyInto s m args below meth c H locs 1 25 (MQ below (xQ G (some (.int rs.1)) rs.2.1 rs.2.2) args s rm_X4_multiplyInto.cells rm_X4_multiplyInto.slots (xA G)) (F0 m 18 ls [])) (z : Nat) (f : xHp) (a0 : Nat) (a1 : Nat) (a2 : Nat) (a3 : Nat) (a4 : Int32) (a5 : Int32) (H : Heap) (locs : List Loc) (ls : Array Slot) (h : F_X4_multiplyInto_18 k8 k18 z f a0 a1 a2 a3 a4 a5 = some rs) (Y : xY G z f s H locs) (hl : lv_has ls 8 [(0, .ref a0), (1, .ref a1), (2, .ref a2), (3, .ref a3), (4, .int a4), (5, .int a5)]) : W p l e rm_X4_multiplyInto s m args below meth c H locs 1 25 (MQ below (xQ G (some (.int rs.1)) rs.2.1 rs.2.2) args s rm_X4_multiplyInto.cells rm_X4_multiplyInto.slots (xA G)) (F0 m 18 ls []) := by
  have hx := X.1.1
  have hb := X.1.2.1
  unfold F_X4_multiplyInto_18 at h
  refine lv_iload hx hb dX4_multiplyInto_18 (lv_at hl 5 rfl) ?_
  refine lv_bipush (v := 9) hx hb dX4_multiplyInto_20 (by decide) ?_
  refine lv_icmp_ge (tgt := 72) hx hb dX4_multiplyInto_22 (by decide) (fun c1 => ?_) (fun c1 => ?_)
  · replace h := Eq.trans (if_pos c1).symm h
    refine lv_iinc (v := (a4 + 1)) (lv' := [(4, .int (a4 + 1)), (0, .ref a0), (1, .ref a1), (2, .ref a2), (3, .ref a3), (5, .int a5)]) hx hb dX4_multiplyInto_72 hl (k := 4) rfl rfl (by decide) rfl (fun ls hl => ?_)
    refine lv_goto (tgt := 8) hx hb dX4_multiplyInto_75 (by decide) ?_
    refine W.widen (k := 1) (n := 25) (Nat.le_of_ble_eq_true rfl) (Nat.le_of_ble_eq_true rfl) ?_
    exact hk8 z f a0 a1 a2 a3 (a4 + 1) _ _ _ h Y (lv_sub hl [1, 2, 3, 4, 0] rfl)
  · replace h := Eq.trans (if_neg c1).symm h
    refine lv_aload_n hx hb dX4_multiplyInto_25 rfl (lv_at hl 3 rfl) ?_
    refine lv_iconst (v := 5) hx hb dX4_multiplyInto_26 (by decide) ?_
    refine lv_iload hx hb dX4_multiplyInto_27 (lv_at hl 4 rfl) ?_
    refine lv_iconst (v := 3) hx hb dX4_multiplyInto_29 (by decide) ?_
    refine lv_idiv hx hb dX4_multiplyInto_30 (by decide) ?_
    refine lv_iload hx hb dX4_multiplyInto_31 (lv_at hl 5 rfl) ?_
    refine lv_iconst (v := 3) hx hb dX4_multiplyInto_33 (by decide) ?_
    refine lv_idiv hx hb dX4_multiplyInto_34 (by decide) ?_
    refine lv_iadd hx hb dX4_multiplyInto_35 ?_
    refine lv_imul hx hb dX4_multiplyInto_36 ?_
    refine lv_iload hx hb dX4_multiplyInto_37 (lv_at hl 4 rfl) ?_
    refine lv_iconst (v := 3) hx hb dX4_multiplyInto_39 (by decide) ?_
    refine lv_irem hx hb dX4_multiplyInto_40 (by decide) ?_
    refine lv_iadd hx hb dX4_multiplyInto_41 ?_
    refine lv_iload hx hb dX4_multiplyInto_42 (lv_at hl 5 rfl) ?_
    refine lv_iconst (v := 3) hx hb dX4_multiplyInto_44 (by decide) ?_
    refine lv_irem hx hb dX4_multiplyInto_45 (by decide) ?_
    refine lv_iadd hx hb dX4_multiplyInto_46 ?_
    refine lv_dup2_11 hx hb dX4_multiplyInto_47 rfl rfl ?_
    replace h := xb h
    obtain ⟨v2, ev2, h⟩ := h
    refine q_lald X Y ev2 dX4_multiplyInto_48 ?_
    refine lv_aload_n hx hb dX4_multiplyInto_49 rfl (lv_at hl 0 rfl) ?_
    replace h := xb h
    obtain ⟨v3, ev3, h⟩ := h
    refine q_getN X Y fl_X4_9 ev3 dX4_multiplyInto_50 ?_
    refine lv_iload hx hb dX4_multiplyInto_53 (lv_at hl 4 rfl) ?_
    replace h := xb h
    obtain ⟨v4, ev4, h⟩ := h
    refine q_lald X Y ev4 dX4_multiplyInto_55 ?_
    refine lv_aload_n hx hb dX4_multiplyInto_56 rfl (lv_at hl 1 rfl) ?_
    replace h := xb h
    obtain ⟨v5, ev5, h⟩ := h
    refine q_getN X Y fl_X4_9 ev5 dX4_multiplyInto_57 ?_
    refine lv_iload hx hb dX4_multiplyInto_60 (lv_at hl 5 rfl) ?_
    replace h := xb h
    obtain ⟨v6, ev6, h⟩ := h
    refine q_lald X Y ev6 dX4_multiplyInto_62 ?_
    refine lv_lmul hx hb dX4_multiplyInto_63 ?_
    refine lv_ladd hx hb dX4_multiplyInto_64 ?_
    replace h := xb h
    obtain ⟨f7, ef7, h⟩ := h
    refine q_last X Y ef7 dX4_multiplyInto_65 (fun H locs Y => ?_)
    refine lv_iinc (v := (a5 + 1)) (lv' := [(5, .int (a5 + 1)), (0, .ref a0), (1, .ref a1), (2, .ref a2), (3, .ref a3), (4, .int a4)]) hx hb dX4_multiplyInto_66 hl (k := 5) rfl rfl (by decide) rfl (fun ls hl => ?_)
    refine lv_goto (tgt := 18) hx hb dX4_multiplyInto_69 (by decide) ?_
    refine W.widen (k := 1) (n := 25) (Nat.le_of_ble_eq_true rfl) (Nat.le_of_ble_eq_true rfl) ?_
    exact hk18 z f7 a0 a1 a2 a3 a4 (a5 + 1) _ _ _ h Y (lv_sub hl [1, 2, 3, 4, 5, 0] rfl)
set_option maxRecDepth 100000 in
set_option maxHeartbeats 4000000 in
theorem lw_X4_multiplyInto_18 {p : Program} {l : Launch} {e : Env} {s : State} {m : MethodId} {args : Array Value} {below : List Frame} {meth : Method} {c : Code} {G : xG} (X : xC G p m c s args RX4 cX4_multiplyInto 8) (hr : meth.sig.returnType = (some .boolean)) (hlocks : meth.locks = false) (hin : meth.name = yX4_multiplyInto.name) (rs : Int32 × Nat × xHp) (k8 : Nat → xHp → Nat → Nat → Nat → Nat → Int32 → Option (Int32 × Nat × xHp)) (hk8 : ∀ (z : Nat) (f : xHp) (a0 : Nat) (a1 : Nat) (a2 : Nat) (a3 : Nat) (a4 : Int32) (H : Heap) (locs : List Loc) (ls : Array Slot), k8 z f a0 a1 a2 a3 a4 = some rs → xY G z f s H locs → lv_has ls 8 [(0, .ref a0), (1, .ref a1), (2, .ref a2), (3, .ref a3), (4, .int a4)] → W p l e rm_X4_multiplyInto s m args below meth c H locs 1 25 (MQ below (xQ G (some (.int rs.1)) rs.2.1 rs.2.2) args s rm_X4_multiplyInto.cells rm_X4_multiplyInto.slots (xA G)) (F0 m 8 ls [])) : ∀ (n : Nat) (z : Nat) (f : xHp) (a0 : Nat) (a1 : Nat) (a2 : Nat) (a3 : Nat) (a4 : Int32) (a5 : Int32) (H : Heap) (locs : List Loc) (ls : Array Slot), L_X4_multiplyInto_18 k8 n z f a0 a1 a2 a3 a4 a5 = some rs → xY G z f s H locs → lv_has ls 8 [(0, .ref a0), (1, .ref a1), (2, .ref a2), (3, .ref a3), (4, .int a4), (5, .int a5)] → W p l e rm_X4_multiplyInto s m args below meth c H locs 1 25 (MQ below (xQ G (some (.int rs.1)) rs.2.1 rs.2.2) args s rm_X4_multiplyInto.cells rm_X4_multiplyInto.slots (xA G)) (F0 m 18 ls []) := by
  intro n
  induction n with
  | zero => intro z f a0 a1 a2 a3 a4 a5 H locs ls h Y hl; cases h
  | succ n ih => intro z f a0 a1 a2 a3 a4 a5 H locs ls h Y hl; exact w_X4_multiplyInto_18 X hr hlocks hin rs k8 hk8 _ ih z f a0 a1 a2 a3 a4 a5 _ _ _ h Y hl
set_option maxRecDepth 100000 in
set_option maxHeartbeats 4000000 in
theorem w_X4_multiplyInto_8 {p : Program} {l : Launch} {e : Env} {s : State} {m : MethodId} {args : Array Value} {below : List Frame} {meth : Method} {c : Code} {G : xG} (X : xC G p m c s args RX4 cX4_multiplyInto 8) (hr : meth.sig.returnType = (some .boolean)) (hlocks : meth.locks = false) (hin : meth.name = yX4_multiplyInto.name) (rs : Int32 × Nat × xHp) (k8 : Nat → xHp → Nat → Nat → Nat → Nat → Int32 → Option (Int32 × Nat × xHp)) (hk8 : ∀ (z : Nat) (f : xHp) (a0 : Nat) (a1 : Nat) (a2 : Nat) (a3 : Nat) (a4 : Int32) (H : Heap) (locs : List Loc) (ls : Array Slot), k8 z f a0 a1 a2 a3 a4 = some rs → xY G z f s H locs → lv_has ls 8 [(0, .ref a0), (1, .ref a1), (2, .ref a2), (3, .ref a3), (4, .int a4)] → W p l e rm_X4_multiplyInto s m args below meth c H locs 1 25 (MQ below (xQ G (some (.int rs.1)) rs.2.1 rs.2.2) args s rm_X4_multiplyInto.cells rm_X4_multiplyInto.slots (xA G)) (F0 m 8 ls [])) (z : Nat) (f : xHp) (a0 : Nat) (a1 : Nat) (a2 : Nat) (a3 : Nat) (a4 : Int32) (H : Heap) (locs : List Loc) (ls : Array Slot) (h : F_X4_multiplyInto_8 k8 z f a0 a1 a2 a3 a4 = some rs) (Y : xY G z f s H locs) (hl : lv_has ls 8 [(0, .ref a0), (1, .ref a1), (2, .ref a2), (3, .ref a3), (4, .int a4)]) : W p l e rm_X4_multiplyInto s m args below meth c H locs 1 25 (MQ below (xQ G (some (.int rs.1)) rs.2.1 rs.2.2) args s rm_X4_multiplyInto.cells rm_X4_multiplyInto.slots (xA G)) (F0 m 8 ls []) := by
  have hx := X.1.1
  have hb := X.1.2.1
  unfold F_X4_multiplyInto_8 at h
  refine lv_iload hx hb dX4_multiplyInto_8 (lv_at hl 4 rfl) ?_
  refine lv_bipush (v := 9) hx hb dX4_multiplyInto_10 (by decide) ?_
  refine lv_icmp_ge (tgt := 78) hx hb dX4_multiplyInto_12 (by decide) (fun c1 => ?_) (fun c1 => ?_)
  · replace h := Eq.trans (if_pos c1).symm h
    refine lv_iconst (v := 0) hx hb dX4_multiplyInto_78 (by decide) ?_
    refine lv_istore (lv' := [(4, .int (0 : Int32)), (0, .ref a0), (1, .ref a1), (2, .ref a2), (3, .ref a3)]) hx hb dX4_multiplyInto_79 hl (by decide) rfl (fun ls hl => ?_)
    refine lv_iconst (v := 0) hx hb dX4_multiplyInto_81 (by decide) ?_
    refine lv_istore (lv' := [(5, .int (0 : Int32)), (4, .int (0 : Int32)), (0, .ref a0), (1, .ref a1), (2, .ref a2), (3, .ref a3)]) hx hb dX4_multiplyInto_82 hl (by decide) rfl (fun ls hl => ?_)
    refine W.widen (k := 1) (n := 25) (Nat.le_of_ble_eq_true rfl) (Nat.le_of_ble_eq_true rfl) ?_
    exact lw_X4_multiplyInto_84 X hr hlocks hin rs  xfuel z f a2 a3 (0 : Int32) (0 : Int32) _ _ _ h Y (lv_sub hl [4, 5, 1, 0] rfl)
  · replace h := Eq.trans (if_neg c1).symm h
    refine lv_iconst (v := 0) hx hb dX4_multiplyInto_15 (by decide) ?_
    refine lv_istore (lv' := [(5, .int (0 : Int32)), (0, .ref a0), (1, .ref a1), (2, .ref a2), (3, .ref a3), (4, .int a4)]) hx hb dX4_multiplyInto_16 hl (by decide) rfl (fun ls hl => ?_)
    refine W.widen (k := 1) (n := 25) (Nat.le_of_ble_eq_true rfl) (Nat.le_of_ble_eq_true rfl) ?_
    exact lw_X4_multiplyInto_18 X hr hlocks hin rs k8 hk8 xfuel z f a0 a1 a2 a3 a4 (0 : Int32) _ _ _ h Y (lv_sub hl [1, 2, 3, 4, 5, 0] rfl)
set_option maxRecDepth 100000 in
set_option maxHeartbeats 4000000 in
theorem lw_X4_multiplyInto_8 {p : Program} {l : Launch} {e : Env} {s : State} {m : MethodId} {args : Array Value} {below : List Frame} {meth : Method} {c : Code} {G : xG} (X : xC G p m c s args RX4 cX4_multiplyInto 8) (hr : meth.sig.returnType = (some .boolean)) (hlocks : meth.locks = false) (hin : meth.name = yX4_multiplyInto.name) (rs : Int32 × Nat × xHp)  : ∀ (n : Nat) (z : Nat) (f : xHp) (a0 : Nat) (a1 : Nat) (a2 : Nat) (a3 : Nat) (a4 : Int32) (H : Heap) (locs : List Loc) (ls : Array Slot), L_X4_multiplyInto_8  n z f a0 a1 a2 a3 a4 = some rs → xY G z f s H locs → lv_has ls 8 [(0, .ref a0), (1, .ref a1), (2, .ref a2), (3, .ref a3), (4, .int a4)] → W p l e rm_X4_multiplyInto s m args below meth c H locs 1 25 (MQ below (xQ G (some (.int rs.1)) rs.2.1 rs.2.2) args s rm_X4_multiplyInto.cells rm_X4_multiplyInto.slots (xA G)) (F0 m 8 ls []) := by
  intro n
  induction n with
  | zero => intro z f a0 a1 a2 a3 a4 H locs ls h Y hl; cases h
  | succ n ih => intro z f a0 a1 a2 a3 a4 H locs ls h Y hl; exact w_X4_multiplyInto_8 X hr hlocks hin rs _ ih z f a0 a1 a2 a3 a4 _ _ _ h Y hl
set_option maxRecDepth 100000 in
set_option maxHeartbeats 4000000 in
theorem c_X4_multiplyInto (l : Launch) (G : xG) (z : Nat) (f : xHp) (h0 : Nat) (p1 : Nat) (p2 : Nat) (rs : Int32 × Nat × xHp) (h : F_X4_multiplyInto z f h0 p1 p2 = some rs) : xM G l yX4_multiplyInto cX4_multiplyInto 8 (some .boolean) rm_X4_multiplyInto [.ref h0, .ref p1, .ref p2] z f (some (.int rs.1)) rs.2.1 rs.2.2 := by
  refine xM_of (by decide) (Nat.le_of_ble_eq_true rfl) ?_
  intro p e s m below meth c ls X hr hlocks hin Y hl
  have hl : lv_has ls 8 [(0, .ref h0), (1, .ref p1), (2, .ref p2)] := hl
  have hx := X.1.1
  have hb := X.1.2.1
  unfold F_X4_multiplyInto at h
  refine lv_bipush (v := 25) hx hb dX4_multiplyInto_0 (by decide) ?_
  replace h := xb h
  obtain ⟨n1, en1, h⟩ := h
  replace h := xb h
  obtain ⟨f2, ef2, h⟩ := h
  have ef2 := Option.some.inj ef2
  refine q_newJ X Y en1 (by decide) xw_80 (Nat.le_of_ble_eq_true rfl) (Nat.le_of_ble_eq_true rfl) dX4_multiplyInto_2 (fun H Y => ?_)
  rw [ef2] at Y
  refine lv_astore_n (lv' := [(3, .ref z), (0, .ref h0), (1, .ref p1), (2, .ref p2)]) hx hb dX4_multiplyInto_4 rfl hl (by decide) rfl (fun ls hl => ?_)
  refine lv_iconst (v := 0) hx hb dX4_multiplyInto_5 (by decide) ?_
  refine lv_istore (lv' := [(4, .int (0 : Int32)), (3, .ref z), (0, .ref h0), (1, .ref p1), (2, .ref p2)]) hx hb dX4_multiplyInto_6 hl (by decide) rfl (fun ls hl => ?_)
  refine W.widen (k := 1) (n := 25) (Nat.le_of_ble_eq_true rfl) (Nat.le_of_ble_eq_true rfl) ?_
  exact lw_X4_multiplyInto_8 X hr hlocks hin rs  xfuel (z + 1) f2 h0 p1 p2 z (0 : Int32) _ _ _ h Y (lv_sub hl [2, 3, 4, 1, 0] rfl)
/-! NeverBelow.times(II)I -/
abbrev rm_X10_times : Room := { frames := 3, cells := 3, slots := 35, locals := 66 }
def F_X10_times (z : Nat) (f : xHp) (h0 : Nat) (p1 : Int32) (p2 : Int32) : Option (Int32 × Nat × xHp) := if hKd f h0 = some 9 then (Option.bind (F_X10_polynomialOf f h0 p1) fun q2 => if hKd f h0 = some 9 then (Option.bind (F_X10_polynomialOf f h0 p2) fun q4 => xnul q2 (some ((-1 : Int32), z, f)) (fun q6 => xnul q4 (some ((-1 : Int32), z, f)) (fun q8 => Option.bind (hNw (9 : Int32) 9) fun n9 => Option.bind (some (va_up f z (some (.inr (.inl (n9, fun _ => 0)))))) fun f10 => if hKd f10 q6 = some 4 then (Option.bind (F_X4_multiplyInto (z + 1) f10 q6 q8 z) fun q12 => Option.bind (F_X10_areCoefficients q12.2.2 z) fun q13 => if q13 = 0 then (some ((-2 : Int32), q12.2.1, q12.2.2)) else (if q12.1 = 0 then (if hKd q12.2.2 h0 = some 9 then (Option.bind (F_X10_keepPolynomial q12.2.1 q12.2.2 h0 z) fun q17 => some (q17.1, q17.2.1, q17.2.2)) else none) else (some ((-3 : Int32), q12.2.1, q12.2.2)))) else none))) else none) else none
set_option maxRecDepth 100000 in
set_option maxHeartbeats 4000000 in
theorem c_X10_times (l : Launch) (G : xG) (z : Nat) (f : xHp) (h0 : Nat) (p1 : Int32) (p2 : Int32) (rs : Int32 × Nat × xHp) (h : F_X10_times z f h0 p1 p2 = some rs) : xM G l yX10_times cX10_times 7 (some .int) rm_X10_times [.ref h0, .int p1, .int p2] z f (some (.int rs.1)) rs.2.1 rs.2.2 := by
  refine xM_of (by decide) (Nat.le_of_ble_eq_true rfl) ?_
  intro p e s m below meth c ls X hr hlocks hin Y hl
  have hl : lv_has ls 7 [(0, .ref h0), (1, .int p1), (2, .int p2)] := hl
  have hx := X.1.1
  have hb := X.1.2.1
  unfold F_X10_times at h
  refine lv_aload_n hx hb dX10_times_0 rfl (lv_at hl 0 rfl) ?_
  refine lv_iload_n hx hb dX10_times_1 rfl (lv_at hl 1 rfl) ?_
  by_cases c1 : hKd f h0 = some 9
  · replace h := Eq.trans (if_pos c1).symm h
    replace h := xb h
    obtain ⟨q2, eq2, h⟩ := h
    refine q_callV X Y hl.1 (rest := []) (As := [.int p1]) (c_X10_polynomialOf l G z f h0 p1 _ eq2) cd_X10_polynomialOf lv_X10_95_9 c1 ⟨(Nat.le_of_ble_eq_true rfl), (Nat.le_of_ble_eq_true rfl)⟩ ⟨(Nat.le_of_ble_eq_true rfl), (Nat.le_of_ble_eq_true rfl)⟩ rfl rfl (Nat.le_of_ble_eq_true rfl) dX10_times_2 (fun H locs Y => ?_)
    refine W.eq (g2 := F0 m 5 ls [va_rf q2]) rfl ?_
    refine q_astore_n (lv' := [(3, va_rf q2), (0, .ref h0), (1, .int p1), (2, .int p2)]) hx hb dX10_times_5 rfl hl (by decide) rfl (fun ls hl => ?_)
    refine lv_aload_n hx hb dX10_times_6 rfl (lv_at hl 1 rfl) ?_
    refine lv_iload_n hx hb dX10_times_7 rfl (lv_at hl 3 rfl) ?_
    by_cases c3 : hKd f h0 = some 9
    · replace h := Eq.trans (if_pos c3).symm h
      replace h := xb h
      obtain ⟨q4, eq4, h⟩ := h
      refine q_callV X Y hl.1 (rest := []) (As := [.int p2]) (c_X10_polynomialOf l G z f h0 p2 _ eq4) cd_X10_polynomialOf lv_X10_95_9 c3 ⟨(Nat.le_of_ble_eq_true rfl), (Nat.le_of_ble_eq_true rfl)⟩ ⟨(Nat.le_of_ble_eq_true rfl), (Nat.le_of_ble_eq_true rfl)⟩ rfl rfl (Nat.le_of_ble_eq_true rfl) dX10_times_8 (fun H locs Y => ?_)
      refine W.eq (g2 := F0 m 11 ls [va_rf q4]) rfl ?_
      refine q_astore (lv' := [(4, va_rf q4), (3, va_rf q2), (0, .ref h0), (1, .int p1), (2, .int p2)]) hx hb dX10_times_11 hl (by decide) (by cases q2 <;> rfl) (fun ls hl => ?_)
      refine q_aload_n hx hb dX10_times_13 rfl (lv_at hl 1 rfl) ?_
      refine q_ifnull (tgt := 22) hx hb dX10_times_14 (by decide) (fun c5 => ?_) (fun q6 eq6 => ?_)
      · replace h := xn0 h c5
        subst c5
        have hl : lv_has ls 7 [(4, va_rf q4), (3, .null), (0, .ref h0), (1, .int p1), (2, .int p2)] := hl
        refine lv_iconst (v := -1) hx hb dX10_times_22 (by decide) ?_
        replace h := Option.some.inj h
        subst h
        exact q_reti X Y hr hlocks (Nat.le_of_ble_eq_true rfl) (Nat.le_of_ble_eq_true rfl) dX10_times_23
      · replace h := xn1 h eq6
        subst eq6
        have hl : lv_has ls 7 [(4, va_rf q4), (3, .ref q6), (0, .ref h0), (1, .int p1), (2, .int p2)] := hl
        refine q_aload hx hb dX10_times_17 (lv_at hl 0 rfl) ?_
        refine q_ifnonnull (tgt := 24) hx hb dX10_times_19 (by decide) (fun c7 => ?_) (fun q8 eq8 => ?_)
        · replace h := xn0 h c7
          subst c7
          have hl : lv_has ls 7 [(4, .null), (3, .ref q6), (0, .ref h0), (1, .int p1), (2, .int p2)] := hl
          refine lv_iconst (v := -1) hx hb dX10_times_22 (by decide) ?_
          replace h := Option.some.inj h
          subst h
          exact q_reti X Y hr hlocks (Nat.le_of_ble_eq_true rfl) (Nat.le_of_ble_eq_true rfl) dX10_times_23
        · replace h := xn1 h eq8
          subst eq8
          have hl : lv_has ls 7 [(4, .ref q8), (3, .ref q6), (0, .ref h0), (1, .int p1), (2, .int p2)] := hl
          refine lv_bipush (v := 9) hx hb dX10_times_24 (by decide) ?_
          replace h := xb h
          obtain ⟨n9, en9, h⟩ := h
          replace h := xb h
          obtain ⟨f10, ef10, h⟩ := h
          have ef10 := Option.some.inj ef10
          refine q_newJ X Y en9 (by decide) xw_80 (Nat.le_of_ble_eq_true rfl) (Nat.le_of_ble_eq_true rfl) dX10_times_26 (fun H Y => ?_)
          rw [ef10] at Y
          refine lv_astore (lv' := [(5, .ref z), (4, .ref q8), (3, .ref q6), (0, .ref h0), (1, .int p1), (2, .int p2)]) hx hb dX10_times_28 hl (by decide) rfl (fun ls hl => ?_)
          refine lv_aload_n hx hb dX10_times_30 rfl (lv_at hl 2 rfl) ?_
          refine lv_aload hx hb dX10_times_31 (lv_at hl 1 rfl) ?_
          refine lv_aload hx hb dX10_times_33 (lv_at hl 0 rfl) ?_
          by_cases c11 : hKd f10 q6 = some 4
          · replace h := Eq.trans (if_pos c11).symm h
            replace h := xb h
            obtain ⟨q12, eq12, h⟩ := h
            refine q_callV X Y hl.1 (rest := []) (As := [.ref q8, .ref z]) (c_X4_multiplyInto l G (z + 1) f10 q6 q8 z _ eq12) cd_X4_multiplyInto lv_X10_108_4 c11 ⟨(Nat.le_of_ble_eq_true rfl), (Nat.le_of_ble_eq_true rfl)⟩ ⟨(Nat.le_of_ble_eq_true rfl), (Nat.le_of_ble_eq_true rfl)⟩ rfl rfl (Nat.le_of_ble_eq_true rfl) dX10_times_35 (fun H locs Y => ?_)
            refine W.eq (g2 := F0 m 38 ls [.int q12.1]) rfl ?_
            refine W.widen (k := 2) (n := 34) (Nat.le_of_ble_eq_true rfl) (Nat.le_of_ble_eq_true rfl) ?_
            refine lv_istore (lv' := [(6, .int q12.1), (5, .ref z), (4, .ref q8), (3, .ref q6), (0, .ref h0), (1, .int p1), (2, .int p2)]) hx hb dX10_times_38 hl (by decide) rfl (fun ls hl => ?_)
            refine lv_aload hx hb dX10_times_40 (lv_at hl 1 rfl) ?_
            replace h := xb h
            obtain ⟨q13, eq13, h⟩ := h
            refine q_callS X Y hl.1 (rest := []) (As := [.ref z]) (c_X10_areCoefficients l G q12.2.1 q12.2.2 z _ eq13) cd_X10_areCoefficients ls_X10_112 ⟨(Nat.le_of_ble_eq_true rfl), (Nat.le_of_ble_eq_true rfl)⟩ ⟨(Nat.le_of_ble_eq_true rfl), (Nat.le_of_ble_eq_true rfl)⟩ rfl rfl (Nat.le_of_ble_eq_true rfl) dX10_times_42 (fun H locs Y => ?_)
            refine W.eq (g2 := F0 m 45 ls [.int q13]) rfl ?_
            refine lv_if_ne (tgt := 51) hx hb dX10_times_45 (by decide) (fun c14 => ?_) (fun c14 => ?_)
            · replace h := Eq.trans (if_neg c14).symm h
              refine lv_iload hx hb dX10_times_51 (lv_at hl 0 rfl) ?_
              refine lv_if_eq (tgt := 61) hx hb dX10_times_53 (by decide) (fun c15 => ?_) (fun c15 => ?_)
              · replace h := Eq.trans (if_pos c15).symm h
                refine lv_aload_n hx hb dX10_times_61 rfl (lv_at hl 4 rfl) ?_
                refine lv_aload hx hb dX10_times_62 (lv_at hl 1 rfl) ?_
                by_cases c16 : hKd q12.2.2 h0 = some 9
                · replace h := Eq.trans (if_pos c16).symm h
                  replace h := xb h
                  obtain ⟨q17, eq17, h⟩ := h
                  refine q_callV X Y hl.1 (rest := []) (As := [.ref z]) (c_X10_keepPolynomial l G q12.2.1 q12.2.2 h0 z _ eq17) cd_X10_keepPolynomial lv_X10_91_9 c16 ⟨(Nat.le_of_ble_eq_true rfl), (Nat.le_of_ble_eq_true rfl)⟩ ⟨(Nat.le_of_ble_eq_true rfl), (Nat.le_of_ble_eq_true rfl)⟩ rfl rfl (Nat.le_of_ble_eq_true rfl) dX10_times_64 (fun H locs Y => ?_)
                  refine W.eq (g2 := F0 m 67 ls [.int q17.1]) rfl ?_
                  refine W.widen (k := 3) (n := 35) (Nat.le_of_ble_eq_true rfl) (Nat.le_of_ble_eq_true rfl) ?_
                  replace h := Option.some.inj h
                  subst h
                  exact q_reti X Y hr hlocks (Nat.le_of_ble_eq_true rfl) (Nat.le_of_ble_eq_true rfl) dX10_times_67
                replace h := Eq.trans (if_neg c16).symm h
                cases h
              · replace h := Eq.trans (if_neg c15).symm h
                refine lv_bipush (v := -3) hx hb dX10_times_56 (by decide) ?_
                refine lv_goto (tgt := 67) hx hb dX10_times_58 (by decide) ?_
                replace h := Option.some.inj h
                subst h
                exact q_reti X Y hr hlocks (Nat.le_of_ble_eq_true rfl) (Nat.le_of_ble_eq_true rfl) dX10_times_67
            · replace h := Eq.trans (if_pos c14).symm h
              refine lv_bipush (v := -2) hx hb dX10_times_48 (by decide) ?_
              replace h := Option.some.inj h
              subst h
              exact q_reti X Y hr hlocks (Nat.le_of_ble_eq_true rfl) (Nat.le_of_ble_eq_true rfl) dX10_times_50
          replace h := Eq.trans (if_neg c11).symm h
          cases h
    replace h := Eq.trans (if_neg c3).symm h
    cases h
  replace h := Eq.trans (if_neg c1).symm h
  cases h
/-! NeverBelow.isWhich(I)Z -/
abbrev rm_X10_isWhich : Room := { frames := 0, cells := 0, slots := 0, locals := 0 }
def F_X10_isWhich_9 (f : xHp)    : Option (Int32) := some (1 : Int32)
def F_X10_isWhich (f : xHp) (p0 : Int32) : Option (Int32) := if p0 = 0 then (F_X10_isWhich_9 f) else (if p0 = (1 : Int32) then (F_X10_isWhich_9 f) else (some (0 : Int32)))
set_option maxRecDepth 100000 in
set_option maxHeartbeats 4000000 in
theorem w_X10_isWhich_9 {p : Program} {l : Launch} {e : Env} {s : State} {m : MethodId} {args : Array Value} {below : List Frame} {meth : Method} {c : Code} {G : xG} {z : Nat} {f : xHp} (X : xC G p m c s args RX10 cX10_isWhich 1) (hr : meth.sig.returnType = (some .boolean)) (hlocks : meth.locks = false) (hin : meth.name = yX10_isWhich.name) (rs : Int32)   (H : Heap) (locs : List Loc) (ls : Array Slot) (h : F_X10_isWhich_9 f   = some rs) (Y : xY G z f s H locs) (hl : lv_has ls 1 []) : W p l e rm_X10_isWhich s m args below meth c H locs 0 0 (MQ below (xQ G (some (.int rs)) z f) args s rm_X10_isWhich.cells rm_X10_isWhich.slots (xA G)) (F0 m 9 ls []) := by
  have hx := X.1.1
  have hb := X.1.2.1
  unfold F_X10_isWhich_9 at h
  refine lv_iconst (v := 1) hx hb dX10_isWhich_9 (by decide) ?_
  refine lv_goto (tgt := 14) hx hb dX10_isWhich_10 (by decide) ?_
  replace h := Option.some.inj h
  subst h
  exact q_retz (v := (1 : Int32)) X Y hr hlocks rfl (Nat.le_of_ble_eq_true rfl) (Nat.le_of_ble_eq_true rfl) dX10_isWhich_14
set_option maxRecDepth 100000 in
set_option maxHeartbeats 4000000 in
theorem c_X10_isWhich (l : Launch) (G : xG) (z : Nat) (f : xHp) (p0 : Int32) (rs : Int32) (h : F_X10_isWhich f p0 = some rs) : xM G l yX10_isWhich cX10_isWhich 1 (some .boolean) rm_X10_isWhich [.int p0] z f (some (.int rs)) z f := by
  refine xM_of (by decide) (Nat.le_of_ble_eq_true rfl) ?_
  intro p e s m below meth c ls X hr hlocks hin Y hl
  have hl : lv_has ls 1 [(0, .int p0)] := hl
  have hx := X.1.1
  have hb := X.1.2.1
  unfold F_X10_isWhich at h
  refine lv_iload_n hx hb dX10_isWhich_0 rfl (lv_at hl 0 rfl) ?_
  refine lv_if_eq (tgt := 9) hx hb dX10_isWhich_1 (by decide) (fun c1 => ?_) (fun c1 => ?_)
  · replace h := Eq.trans (if_pos c1).symm h
    refine W.widen (k := 0) (n := 0) (Nat.le_of_ble_eq_true rfl) (Nat.le_of_ble_eq_true rfl) ?_
    exact w_X10_isWhich_9 X hr hlocks hin rs    _ _ _ h Y (lv_sub hl [] rfl)
  · replace h := Eq.trans (if_neg c1).symm h
    refine lv_iload_n hx hb dX10_isWhich_4 rfl (lv_at hl 0 rfl) ?_
    refine lv_iconst (v := 1) hx hb dX10_isWhich_5 (by decide) ?_
    refine lv_icmp_ne (tgt := 13) hx hb dX10_isWhich_6 (by decide) (fun c2 => ?_) (fun c2 => ?_)
    · replace h := Eq.trans (if_neg c2).symm h
      refine lv_iconst (v := 0) hx hb dX10_isWhich_13 (by decide) ?_
      replace h := Option.some.inj h
      subst h
      exact q_retz (v := (0 : Int32)) X Y hr hlocks rfl (Nat.le_of_ble_eq_true rfl) (Nat.le_of_ble_eq_true rfl) dX10_isWhich_14
    · replace h := Eq.trans (if_pos c2).symm h
      refine W.widen (k := 0) (n := 0) (Nat.le_of_ble_eq_true rfl) (Nat.le_of_ble_eq_true rfl) ?_
      exact w_X10_isWhich_9 X hr hlocks hin rs    _ _ _ h Y (lv_sub hl [] rfl)
/-! NeverBelow.slope(II)I -/
abbrev rm_X10_slope : Room := { frames := 3, cells := 2, slots := 10, locals := 66 }
def F_X10_slope_89 (k31 : Nat → xHp → Nat → Int32 → Nat → Nat → Int32 → Option (Int32 × Nat × xHp)) (z : Nat) (f : xHp) (a0 : Nat) (a2 : Int32) (a3 : Nat) (a4 : Nat) (a5 : Int32) : Option (Int32 × Nat × xHp) := k31 z f a0 a2 a3 a4 (a5 + 1)
def F_X10_slope_77 (k31 : Nat → xHp → Nat → Int32 → Nat → Nat → Int32 → Option (Int32 × Nat × xHp)) (z : Nat) (f : xHp) (a0 : Nat) (a2 : Int32) (a3 : Nat) (a4 : Nat) (a5 : Int32) (a6 : Int32) (s0 : Int32) (s1 : Nat) : Option (Int32 × Nat × xHp) := Option.bind (hN f a3 [(4, 0)]) fun v1 => Option.bind (hJld f v1 a5) fun v2 => Option.bind (hJst f s1 s0 (a6.toInt64 * v2)) fun f3 => F_X10_slope_89 k31 z f3 a0 a2 a3 a4 a5
def F_X10_slope_53 (k31 : Nat → xHp → Nat → Int32 → Nat → Nat → Int32 → Option (Int32 × Nat × xHp)) (z : Nat) (f : xHp) (a0 : Nat) (a2 : Int32) (a3 : Nat) (a4 : Nat) (a5 : Int32) (s0 : Int32) : Option (Int32 × Nat × xHp) := if s0 ≤ 0 then (F_X10_slope_89 k31 z f a0 a2 a3 a4 a5) else (if a2 = 0 then (F_X10_slope_77 k31 z f a0 a2 a3 a4 a5 s0 (a5 - (3 : Int32)) a4) else (F_X10_slope_77 k31 z f a0 a2 a3 a4 a5 s0 (a5 - (1 : Int32)) a4))
def F_X10_slope_31 (k31 : Nat → xHp → Nat → Int32 → Nat → Nat → Int32 → Option (Int32 × Nat × xHp)) (z : Nat) (f : xHp) (a0 : Nat) (a2 : Int32) (a3 : Nat) (a4 : Nat) (a5 : Int32) : Option (Int32 × Nat × xHp) := if (9 : Int32) ≤ a5 then (if hKd f a0 = some 9 then (Option.bind (F_X10_keepPolynomial z f a0 a4) fun q3 => some (q3.1, q3.2.1, q3.2.2)) else none) else (if a2 = 0 then (F_X10_slope_53 k31 z f a0 a2 a3 a4 a5 (a5 / (3 : Int32))) else (F_X10_slope_53 k31 z f a0 a2 a3 a4 a5 (a5 - a5 / (3 : Int32) * (3 : Int32))))
def L_X10_slope_31  : Nat → Nat → xHp → Nat → Int32 → Nat → Nat → Int32 → Option (Int32 × Nat × xHp)
  | 0, _, _, _, _, _, _, _ => none
  | n + 1, z, f, a0, a2, a3, a4, a5 => F_X10_slope_31 (L_X10_slope_31  n) z f a0 a2 a3 a4 a5
def F_X10_slope (z : Nat) (f : xHp) (h0 : Nat) (p1 : Int32) (p2 : Int32) : Option (Int32 × Nat × xHp) := if hKd f h0 = some 9 then (Option.bind (F_X10_polynomialOf f h0 p1) fun q2 => xnul q2 (some ((-1 : Int32), z, f)) (fun q4 => Option.bind (F_X10_isWhich f p2) fun q5 => if q5 = 0 then (some ((-2 : Int32), z, f)) else (Option.bind (hNw (9 : Int32) 9) fun n7 => Option.bind (some (va_up f z (some (.inr (.inl (n7, fun _ => 0)))))) fun f8 => L_X10_slope_31 xfuel (z + 1) f8 h0 p2 q4 z (0 : Int32)))) else none
set_option maxRecDepth 100000 in
set_option maxHeartbeats 4000000 in
theorem w_X10_slope_89 {p : Program} {l : Launch} {e : Env} {s : State} {m : MethodId} {args : Array Value} {below : List Frame} {meth : Method} {c : Code} {G : xG} (X : xC G p m c s args RX10 cX10_slope 7) (hr : meth.sig.returnType = (some .int)) (hlocks : meth.locks = false) (hin : meth.name = yX10_slope.name) (rs : Int32 × Nat × xHp) (k31 : Nat → xHp → Nat → Int32 → Nat → Nat → Int32 → Option (Int32 × Nat × xHp)) (hk31 : ∀ (z : Nat) (f : xHp) (a0 : Nat) (a2 : Int32) (a3 : Nat) (a4 : Nat) (a5 : Int32) (H : Heap) (locs : List Loc) (ls : Array Slot), k31 z f a0 a2 a3 a4 a5 = some rs → xY G z f s H locs → lv_has ls 7 [(0, .ref a0), (2, .int a2), (3, .ref a3), (4, .ref a4), (5, .int a5)] → W p l e rm_X10_slope s m args below meth c H locs 1 9 (MQ below (xQ G (some (.int rs.1)) rs.2.1 rs.2.2) args s rm_X10_slope.cells rm_X10_slope.slots (xA G)) (F0 m 31 ls [])) (z : Nat) (f : xHp) (a0 : Nat) (a2 : Int32) (a3 : Nat) (a4 : Nat) (a5 : Int32) (H : Heap) (locs : List Loc) (ls : Array Slot) (h : F_X10_slope_89 k31 z f a0 a2 a3 a4 a5 = some rs) (Y : xY G z f s H locs) (hl : lv_has ls 7 [(0, .ref a0), (2, .int a2), (3, .ref a3), (4, .ref a4), (5, .int a5)]) : W p l e rm_X10_slope s m args below meth c H locs 1 9 (MQ below (xQ G (some (.int rs.1)) rs.2.1 rs.2.2) args s rm_X10_slope.cells rm_X10_slope.slots (xA G)) (F0 m 89 ls []) := by
  have hx := X.1.1
  have hb := X.1.2.1
  unfold F_X10_slope_89 at h
  refine lv_iinc (v := (a5 + 1)) (lv' := [(5, .int (a5 + 1)), (0, .ref a0), (2, .int a2), (3, .ref a3), (4, .ref a4)]) hx hb dX10_slope_89 hl (k := 4) rfl rfl (by decide) rfl (fun ls hl => ?_)
  refine lv_goto (tgt := 31) hx hb dX10_slope_92 (by decide) ?_
  refine W.widen (k := 1) (n := 9) (Nat.le_of_ble_eq_true rfl) (Nat.le_of_ble_eq_true rfl) ?_
  exact hk31 z f a0 a2 a3 a4 (a5 + 1) _ _ _ h Y (lv_sub hl [1, 2, 3, 4, 0] rfl)
set_option maxRecDepth 100000 in
set_option maxHeartbeats 4000000 in
theorem w_X10_slope_77 {p : Program} {l : Launch} {e : Env} {s : State} {m : MethodId} {args : Array Value} {below : List Frame} {meth : Method} {c : Code} {G : xG} (X : xC G p m c s args RX10 cX10_slope 7) (hr : meth.sig.returnType = (some .int)) (hlocks : meth.locks = false) (hin : meth.name = yX10_slope.name) (rs : Int32 × Nat × xHp) (k31 : Nat → xHp → Nat → Int32 → Nat → Nat → Int32 → Option (Int32 × Nat × xHp)) (hk31 : ∀ (z : Nat) (f : xHp) (a0 : Nat) (a2 : Int32) (a3 : Nat) (a4 : Nat) (a5 : Int32) (H : Heap) (locs : List Loc) (ls : Array Slot), k31 z f a0 a2 a3 a4 a5 = some rs → xY G z f s H locs → lv_has ls 7 [(0, .ref a0), (2, .int a2), (3, .ref a3), (4, .ref a4), (5, .int a5)] → W p l e rm_X10_slope s m args below meth c H locs 1 9 (MQ below (xQ G (some (.int rs.1)) rs.2.1 rs.2.2) args s rm_X10_slope.cells rm_X10_slope.slots (xA G)) (F0 m 31 ls [])) (z : Nat) (f : xHp) (a0 : Nat) (a2 : Int32) (a3 : Nat) (a4 : Nat) (a5 : Int32) (a6 : Int32) (s0 : Int32) (s1 : Nat) (H : Heap) (locs : List Loc) (ls : Array Slot) (h : F_X10_slope_77 k31 z f a0 a2 a3 a4 a5 a6 s0 s1 = some rs) (Y : xY G z f s H locs) (hl : lv_has ls 7 [(0, .ref a0), (2, .int a2), (3, .ref a3), (4, .ref a4), (5, .int a5), (6, .int a6)]) : W p l e rm_X10_slope s m args below meth c H locs 1 9 (MQ below (xQ G (some (.int rs.1)) rs.2.1 rs.2.2) args s rm_X10_slope.cells rm_X10_slope.slots (xA G)) (F0 m 77 ls [.int s0, .ref s1]) := by
  have hx := X.1.1
  have hb := X.1.2.1
  unfold F_X10_slope_77 at h
  refine lv_iload hx hb dX10_slope_77 (lv_at hl 5 rfl) ?_
  refine lv_i2l hx hb dX10_slope_79 rfl ?_
  refine lv_aload_n hx hb dX10_slope_80 rfl (lv_at hl 2 rfl) ?_
  replace h := xb h
  obtain ⟨v1, ev1, h⟩ := h
  refine q_getN X Y fl_X10_105 ev1 dX10_slope_81 ?_
  refine lv_iload hx hb dX10_slope_84 (lv_at hl 4 rfl) ?_
  replace h := xb h
  obtain ⟨v2, ev2, h⟩ := h
  refine q_lald X Y ev2 dX10_slope_86 ?_
  refine lv_lmul hx hb dX10_slope_87 ?_
  replace h := xb h
  obtain ⟨f3, ef3, h⟩ := h
  refine q_last X Y ef3 dX10_slope_88 (fun H locs Y => ?_)
  refine W.widen (k := 1) (n := 9) (Nat.le_of_ble_eq_true rfl) (Nat.le_of_ble_eq_true rfl) ?_
  exact w_X10_slope_89 X hr hlocks hin rs k31 hk31  z f3 a0 a2 a3 a4 a5 _ _ _ h Y (lv_sub hl [0, 1, 2, 3, 4] rfl)
set_option maxRecDepth 100000 in
set_option maxHeartbeats 4000000 in
theorem w_X10_slope_53 {p : Program} {l : Launch} {e : Env} {s : State} {m : MethodId} {args : Array Value} {below : List Frame} {meth : Method} {c : Code} {G : xG} (X : xC G p m c s args RX10 cX10_slope 7) (hr : meth.sig.returnType = (some .int)) (hlocks : meth.locks = false) (hin : meth.name = yX10_slope.name) (rs : Int32 × Nat × xHp) (k31 : Nat → xHp → Nat → Int32 → Nat → Nat → Int32 → Option (Int32 × Nat × xHp)) (hk31 : ∀ (z : Nat) (f : xHp) (a0 : Nat) (a2 : Int32) (a3 : Nat) (a4 : Nat) (a5 : Int32) (H : Heap) (locs : List Loc) (ls : Array Slot), k31 z f a0 a2 a3 a4 a5 = some rs → xY G z f s H locs → lv_has ls 7 [(0, .ref a0), (2, .int a2), (3, .ref a3), (4, .ref a4), (5, .int a5)] → W p l e rm_X10_slope s m args below meth c H locs 1 9 (MQ below (xQ G (some (.int rs.1)) rs.2.1 rs.2.2) args s rm_X10_slope.cells rm_X10_slope.slots (xA G)) (F0 m 31 ls [])) (z : Nat) (f : xHp) (a0 : Nat) (a2 : Int32) (a3 : Nat) (a4 : Nat) (a5 : Int32) (s0 : Int32) (H : Heap) (locs : List Loc) (ls : Array Slot) (h : F_X10_slope_53 k31 z f a0 a2 a3 a4 a5 s0 = some rs) (Y : xY G z f s H locs) (hl : lv_has ls 7 [(0, .ref a0), (2, .int a2), (3, .ref a3), (4, .ref a4), (5, .int a5)]) : W p l e rm_X10_slope s m args below meth c H locs 1 9 (MQ below (xQ G (some (.int rs.1)) rs.2.1 rs.2.2) args s rm_X10_slope.cells rm_X10_slope.slots (xA G)) (F0 m 53 ls [.int s0]) := by
  have hx := X.1.1
  have hb := X.1.2.1
  unfold F_X10_slope_53 at h
  refine lv_istore (lv' := [(6, .int s0), (0, .ref a0), (2, .int a2), (3, .ref a3), (4, .ref a4), (5, .int a5)]) hx hb dX10_slope_53 hl (by decide) rfl (fun ls hl => ?_)
  refine lv_iload hx hb dX10_slope_55 (lv_at hl 0 rfl) ?_
  refine lv_if_le (tgt := 89) hx hb dX10_slope_57 (by decide) (fun c1 => ?_) (fun c1 => ?_)
  · replace h := Eq.trans (if_pos c1).symm h
    refine W.widen (k := 1) (n := 9) (Nat.le_of_ble_eq_true rfl) (Nat.le_of_ble_eq_true rfl) ?_
    exact w_X10_slope_89 X hr hlocks hin rs k31 hk31  z f a0 a2 a3 a4 a5 _ _ _ h Y (lv_sub hl [1, 2, 3, 4, 5] rfl)
  · replace h := Eq.trans (if_neg c1).symm h
    refine lv_aload hx hb dX10_slope_60 (lv_at hl 4 rfl) ?_
    refine lv_iload_n hx hb dX10_slope_62 rfl (lv_at hl 2 rfl) ?_
    refine lv_if_ne (tgt := 73) hx hb dX10_slope_63 (by decide) (fun c2 => ?_) (fun c2 => ?_)
    · replace h := Eq.trans (if_neg c2).symm h
      refine lv_iload hx hb dX10_slope_73 (lv_at hl 5 rfl) ?_
      refine lv_iconst (v := 1) hx hb dX10_slope_75 (by decide) ?_
      refine lv_isub hx hb dX10_slope_76 ?_
      refine W.widen (k := 1) (n := 9) (Nat.le_of_ble_eq_true rfl) (Nat.le_of_ble_eq_true rfl) ?_
      exact w_X10_slope_77 X hr hlocks hin rs k31 hk31  z f a0 a2 a3 a4 a5 s0 (a5 - (1 : Int32)) a4 _ _ _ h Y (lv_sub hl [1, 2, 3, 4, 5, 0] rfl)
    · replace h := Eq.trans (if_pos c2).symm h
      refine lv_iload hx hb dX10_slope_66 (lv_at hl 5 rfl) ?_
      refine lv_iconst (v := 3) hx hb dX10_slope_68 (by decide) ?_
      refine lv_isub hx hb dX10_slope_69 ?_
      refine lv_goto (tgt := 77) hx hb dX10_slope_70 (by decide) ?_
      refine W.widen (k := 1) (n := 9) (Nat.le_of_ble_eq_true rfl) (Nat.le_of_ble_eq_true rfl) ?_
      exact w_X10_slope_77 X hr hlocks hin rs k31 hk31  z f a0 a2 a3 a4 a5 s0 (a5 - (3 : Int32)) a4 _ _ _ h Y (lv_sub hl [1, 2, 3, 4, 5, 0] rfl)
set_option maxRecDepth 100000 in
set_option maxHeartbeats 4000000 in
theorem w_X10_slope_31 {p : Program} {l : Launch} {e : Env} {s : State} {m : MethodId} {args : Array Value} {below : List Frame} {meth : Method} {c : Code} {G : xG} (X : xC G p m c s args RX10 cX10_slope 7) (hr : meth.sig.returnType = (some .int)) (hlocks : meth.locks = false) (hin : meth.name = yX10_slope.name) (rs : Int32 × Nat × xHp) (k31 : Nat → xHp → Nat → Int32 → Nat → Nat → Int32 → Option (Int32 × Nat × xHp)) (hk31 : ∀ (z : Nat) (f : xHp) (a0 : Nat) (a2 : Int32) (a3 : Nat) (a4 : Nat) (a5 : Int32) (H : Heap) (locs : List Loc) (ls : Array Slot), k31 z f a0 a2 a3 a4 a5 = some rs → xY G z f s H locs → lv_has ls 7 [(0, .ref a0), (2, .int a2), (3, .ref a3), (4, .ref a4), (5, .int a5)] → W p l e rm_X10_slope s m args below meth c H locs 1 9 (MQ below (xQ G (some (.int rs.1)) rs.2.1 rs.2.2) args s rm_X10_slope.cells rm_X10_slope.slots (xA G)) (F0 m 31 ls [])) (z : Nat) (f : xHp) (a0 : Nat) (a2 : Int32) (a3 : Nat) (a4 : Nat) (a5 : Int32) (H : Heap) (locs : List Loc) (ls : Array Slot) (h : F_X10_slope_31 k31 z f a0 a2 a3 a4 a5 = some rs) (Y : xY G z f s H locs) (hl : lv_has ls 7 [(0, .ref a0), (2, .int a2), (3, .ref a3), (4, .ref a4), (5, .int a5)]) : W p l e rm_X10_slope s m args below meth c H locs 1 9 (MQ below (xQ G (some (.int rs.1)) rs.2.1 rs.2.2) args s rm_X10_slope.cells rm_X10_slope.slots (xA G)) (F0 m 31 ls []) := by
  have hx := X.1.1
  have hb := X.1.2.1
  unfold F_X10_slope_31 at h
  refine lv_iload hx hb dX10_slope_31 (lv_at hl 4 rfl) ?_
  refine lv_bipush (v := 9) hx hb dX10_slope_33 (by decide) ?_
  refine lv_icmp_ge (tgt := 95) hx hb dX10_slope_35 (by decide) (fun c1 => ?_) (fun c1 => ?_)
  · replace h := Eq.trans (if_pos c1).symm h
    refine lv_aload_n hx hb dX10_slope_95 rfl (lv_at hl 0 rfl) ?_
    refine lv_aload hx hb dX10_slope_96 (lv_at hl 3 rfl) ?_
    by_cases c2 : hKd f a0 = some 9
    · replace h := Eq.trans (if_pos c2).symm h
      replace h := xb h
      obtain ⟨q3, eq3, h⟩ := h
      refine q_callV X Y hl.1 (rest := []) (As := [.ref a4]) (c_X10_keepPolynomial l G z f a0 a4 _ eq3) cd_X10_keepPolynomial lv_X10_91_9 c2 ⟨(Nat.le_of_ble_eq_true rfl), (Nat.le_of_ble_eq_true rfl)⟩ ⟨(Nat.le_of_ble_eq_true rfl), (Nat.le_of_ble_eq_true rfl)⟩ rfl rfl (Nat.le_of_ble_eq_true rfl) dX10_slope_98 (fun H locs Y => ?_)
      refine W.eq (g2 := F0 m 101 ls [.int q3.1]) rfl ?_
      refine W.widen (k := 2) (n := 10) (Nat.le_of_ble_eq_true rfl) (Nat.le_of_ble_eq_true rfl) ?_
      replace h := Option.some.inj h
      subst h
      exact q_reti X Y hr hlocks (Nat.le_of_ble_eq_true rfl) (Nat.le_of_ble_eq_true rfl) dX10_slope_101
    replace h := Eq.trans (if_neg c2).symm h
    cases h
  · replace h := Eq.trans (if_neg c1).symm h
    refine lv_iload_n hx hb dX10_slope_38 rfl (lv_at hl 1 rfl) ?_
    refine lv_if_ne (tgt := 49) hx hb dX10_slope_39 (by decide) (fun c4 => ?_) (fun c4 => ?_)
    · replace h := Eq.trans (if_neg c4).symm h
      refine lv_iload hx hb dX10_slope_49 (lv_at hl 4 rfl) ?_
      refine lv_iconst (v := 3) hx hb dX10_slope_51 (by decide) ?_
      refine lv_irem hx hb dX10_slope_52 (by decide) ?_
      refine W.widen (k := 1) (n := 9) (Nat.le_of_ble_eq_true rfl) (Nat.le_of_ble_eq_true rfl) ?_
      exact w_X10_slope_53 X hr hlocks hin rs k31 hk31  z f a0 a2 a3 a4 a5 (a5 - a5 / (3 : Int32) * (3 : Int32)) _ _ _ h Y (lv_sub hl [0, 1, 2, 3, 4] rfl)
    · replace h := Eq.trans (if_pos c4).symm h
      refine lv_iload hx hb dX10_slope_42 (lv_at hl 4 rfl) ?_
      refine lv_iconst (v := 3) hx hb dX10_slope_44 (by decide) ?_
      refine lv_idiv hx hb dX10_slope_45 (by decide) ?_
      refine lv_goto (tgt := 53) hx hb dX10_slope_46 (by decide) ?_
      refine W.widen (k := 1) (n := 9) (Nat.le_of_ble_eq_true rfl) (Nat.le_of_ble_eq_true rfl) ?_
      exact w_X10_slope_53 X hr hlocks hin rs k31 hk31  z f a0 a2 a3 a4 a5 (a5 / (3 : Int32)) _ _ _ h Y (lv_sub hl [0, 1, 2, 3, 4] rfl)
set_option maxRecDepth 100000 in
set_option maxHeartbeats 4000000 in
theorem lw_X10_slope_31 {p : Program} {l : Launch} {e : Env} {s : State} {m : MethodId} {args : Array Value} {below : List Frame} {meth : Method} {c : Code} {G : xG} (X : xC G p m c s args RX10 cX10_slope 7) (hr : meth.sig.returnType = (some .int)) (hlocks : meth.locks = false) (hin : meth.name = yX10_slope.name) (rs : Int32 × Nat × xHp)  : ∀ (n : Nat) (z : Nat) (f : xHp) (a0 : Nat) (a2 : Int32) (a3 : Nat) (a4 : Nat) (a5 : Int32) (H : Heap) (locs : List Loc) (ls : Array Slot), L_X10_slope_31  n z f a0 a2 a3 a4 a5 = some rs → xY G z f s H locs → lv_has ls 7 [(0, .ref a0), (2, .int a2), (3, .ref a3), (4, .ref a4), (5, .int a5)] → W p l e rm_X10_slope s m args below meth c H locs 1 9 (MQ below (xQ G (some (.int rs.1)) rs.2.1 rs.2.2) args s rm_X10_slope.cells rm_X10_slope.slots (xA G)) (F0 m 31 ls []) := by
  intro n
  induction n with
  | zero => intro z f a0 a2 a3 a4 a5 H locs ls h Y hl; cases h
  | succ n ih => intro z f a0 a2 a3 a4 a5 H locs ls h Y hl; exact w_X10_slope_31 X hr hlocks hin rs _ ih z f a0 a2 a3 a4 a5 _ _ _ h Y hl
set_option maxRecDepth 100000 in
set_option maxHeartbeats 4000000 in
theorem c_X10_slope (l : Launch) (G : xG) (z : Nat) (f : xHp) (h0 : Nat) (p1 : Int32) (p2 : Int32) (rs : Int32 × Nat × xHp) (h : F_X10_slope z f h0 p1 p2 = some rs) : xM G l yX10_slope cX10_slope 7 (some .int) rm_X10_slope [.ref h0, .int p1, .int p2] z f (some (.int rs.1)) rs.2.1 rs.2.2 := by
  refine xM_of (by decide) (Nat.le_of_ble_eq_true rfl) ?_
  intro p e s m below meth c ls X hr hlocks hin Y hl
  have hl : lv_has ls 7 [(0, .ref h0), (1, .int p1), (2, .int p2)] := hl
  have hx := X.1.1
  have hb := X.1.2.1
  unfold F_X10_slope at h
  refine lv_aload_n hx hb dX10_slope_0 rfl (lv_at hl 0 rfl) ?_
  refine lv_iload_n hx hb dX10_slope_1 rfl (lv_at hl 1 rfl) ?_
  by_cases c1 : hKd f h0 = some 9
  · replace h := Eq.trans (if_pos c1).symm h
    replace h := xb h
    obtain ⟨q2, eq2, h⟩ := h
    refine q_callV X Y hl.1 (rest := []) (As := [.int p1]) (c_X10_polynomialOf l G z f h0 p1 _ eq2) cd_X10_polynomialOf lv_X10_95_9 c1 ⟨(Nat.le_of_ble_eq_true rfl), (Nat.le_of_ble_eq_true rfl)⟩ ⟨(Nat.le_of_ble_eq_true rfl), (Nat.le_of_ble_eq_true rfl)⟩ rfl rfl (Nat.le_of_ble_eq_true rfl) dX10_slope_2 (fun H locs Y => ?_)
    refine W.eq (g2 := F0 m 5 ls [va_rf q2]) rfl ?_
    refine q_astore_n (lv' := [(3, va_rf q2), (0, .ref h0), (1, .int p1), (2, .int p2)]) hx hb dX10_slope_5 rfl hl (by decide) rfl (fun ls hl => ?_)
    refine q_aload_n hx hb dX10_slope_6 rfl (lv_at hl 0 rfl) ?_
    refine q_ifnonnull (tgt := 12) hx hb dX10_slope_7 (by decide) (fun c3 => ?_) (fun q4 eq4 => ?_)
    · replace h := xn0 h c3
      subst c3
      have hl : lv_has ls 7 [(3, .null), (0, .ref h0), (1, .int p1), (2, .int p2)] := hl
      refine lv_iconst (v := -1) hx hb dX10_slope_10 (by decide) ?_
      replace h := Option.some.inj h
      subst h
      exact q_reti X Y hr hlocks (Nat.le_of_ble_eq_true rfl) (Nat.le_of_ble_eq_true rfl) dX10_slope_11
    · replace h := xn1 h eq4
      subst eq4
      have hl : lv_has ls 7 [(3, .ref q4), (0, .ref h0), (1, .int p1), (2, .int p2)] := hl
      refine lv_iload_n hx hb dX10_slope_12 rfl (lv_at hl 3 rfl) ?_
      replace h := xb h
      obtain ⟨q5, eq5, h⟩ := h
      refine q_callS X Y hl.1 (rest := []) (As := [.int p2]) (c_X10_isWhich l G z f p2 _ eq5) cd_X10_isWhich ls_X10_116 ⟨(Nat.le_of_ble_eq_true rfl), (Nat.le_of_ble_eq_true rfl)⟩ ⟨(Nat.le_of_ble_eq_true rfl), (Nat.le_of_ble_eq_true rfl)⟩ rfl rfl (Nat.le_of_ble_eq_true rfl) dX10_slope_13 (fun H locs Y => ?_)
      refine W.eq (g2 := F0 m 16 ls [.int q5]) rfl ?_
      refine lv_if_ne (tgt := 22) hx hb dX10_slope_16 (by decide) (fun c6 => ?_) (fun c6 => ?_)
      · replace h := Eq.trans (if_neg c6).symm h
        refine lv_bipush (v := 9) hx hb dX10_slope_22 (by decide) ?_
        replace h := xb h
        obtain ⟨n7, en7, h⟩ := h
        replace h := xb h
        obtain ⟨f8, ef8, h⟩ := h
        have ef8 := Option.some.inj ef8
        refine q_newJ X Y en7 (by decide) xw_80 (Nat.le_of_ble_eq_true rfl) (Nat.le_of_ble_eq_true rfl) dX10_slope_24 (fun H Y => ?_)
        rw [ef8] at Y
        refine lv_astore (lv' := [(4, .ref z), (3, .ref q4), (0, .ref h0), (1, .int p1), (2, .int p2)]) hx hb dX10_slope_26 hl (by decide) rfl (fun ls hl => ?_)
        refine lv_iconst (v := 0) hx hb dX10_slope_28 (by decide) ?_
        refine lv_istore (lv' := [(5, .int (0 : Int32)), (4, .ref z), (3, .ref q4), (0, .ref h0), (1, .int p1), (2, .int p2)]) hx hb dX10_slope_29 hl (by decide) rfl (fun ls hl => ?_)
        refine W.widen (k := 1) (n := 9) (Nat.le_of_ble_eq_true rfl) (Nat.le_of_ble_eq_true rfl) ?_
        exact lw_X10_slope_31 X hr hlocks hin rs  xfuel (z + 1) f8 h0 p2 q4 z (0 : Int32) _ _ _ h Y (lv_sub hl [3, 5, 2, 1, 0] rfl)
      · replace h := Eq.trans (if_pos c6).symm h
        refine lv_bipush (v := -2) hx hb dX10_slope_19 (by decide) ?_
        replace h := Option.some.inj h
        subst h
        exact q_reti X Y hr hlocks (Nat.le_of_ble_eq_true rfl) (Nat.le_of_ble_eq_true rfl) dX10_slope_21
  replace h := Eq.trans (if_neg c1).symm h
  cases h
/-! NeverBelow.isTerm(I)Z -/
abbrev rm_X10_isTerm : Room := { frames := 0, cells := 0, slots := 0, locals := 0 }
def F_X10_isTerm (f : xHp) (p0 : Int32) : Option (Int32) := if p0 < 0 then (some (0 : Int32)) else (if (9 : Int32) ≤ p0 then (some (0 : Int32)) else (some (1 : Int32)))
set_option maxRecDepth 100000 in
set_option maxHeartbeats 4000000 in
theorem c_X10_isTerm (l : Launch) (G : xG) (z : Nat) (f : xHp) (p0 : Int32) (rs : Int32) (h : F_X10_isTerm f p0 = some rs) : xM G l yX10_isTerm cX10_isTerm 1 (some .boolean) rm_X10_isTerm [.int p0] z f (some (.int rs)) z f := by
  refine xM_of (by decide) (Nat.le_of_ble_eq_true rfl) ?_
  intro p e s m below meth c ls X hr hlocks hin Y hl
  have hl : lv_has ls 1 [(0, .int p0)] := hl
  have hx := X.1.1
  have hb := X.1.2.1
  unfold F_X10_isTerm at h
  refine lv_iload_n hx hb dX10_isTerm_0 rfl (lv_at hl 0 rfl) ?_
  refine lv_if_lt (tgt := 14) hx hb dX10_isTerm_1 (by decide) (fun c1 => ?_) (fun c1 => ?_)
  · replace h := Eq.trans (if_pos c1).symm h
    refine lv_iconst (v := 0) hx hb dX10_isTerm_14 (by decide) ?_
    replace h := Option.some.inj h
    subst h
    exact q_retz (v := (0 : Int32)) X Y hr hlocks rfl (Nat.le_of_ble_eq_true rfl) (Nat.le_of_ble_eq_true rfl) dX10_isTerm_15
  · replace h := Eq.trans (if_neg c1).symm h
    refine lv_iload_n hx hb dX10_isTerm_4 rfl (lv_at hl 0 rfl) ?_
    refine lv_bipush (v := 9) hx hb dX10_isTerm_5 (by decide) ?_
    refine lv_icmp_ge (tgt := 14) hx hb dX10_isTerm_7 (by decide) (fun c2 => ?_) (fun c2 => ?_)
    · replace h := Eq.trans (if_pos c2).symm h
      refine lv_iconst (v := 0) hx hb dX10_isTerm_14 (by decide) ?_
      replace h := Option.some.inj h
      subst h
      exact q_retz (v := (0 : Int32)) X Y hr hlocks rfl (Nat.le_of_ble_eq_true rfl) (Nat.le_of_ble_eq_true rfl) dX10_isTerm_15
    · replace h := Eq.trans (if_neg c2).symm h
      refine lv_iconst (v := 1) hx hb dX10_isTerm_10 (by decide) ?_
      refine lv_goto (tgt := 15) hx hb dX10_isTerm_11 (by decide) ?_
      replace h := Option.some.inj h
      subst h
      exact q_retz (v := (1 : Int32)) X Y hr hlocks rfl (Nat.le_of_ble_eq_true rfl) (Nat.le_of_ble_eq_true rfl) dX10_isTerm_15
/-! NeverBelow.term(II)J -/
abbrev rm_X10_term : Room := { frames := 1, cells := 0, slots := 0, locals := 21 }
def F_X10_term_17 (f : xHp)    : Option (Int64) := some (-9223372036854775808 : Int64)
def F_X10_term (f : xHp) (h0 : Nat) (p1 : Int32) (p2 : Int32) : Option (Int64) := if hKd f h0 = some 9 then (Option.bind (F_X10_polynomialOf f h0 p1) fun q2 => xnul q2 (F_X10_term_17 f) (fun q4 => Option.bind (F_X10_isTerm f p2) fun q5 => if q5 = 0 then (F_X10_term_17 f) else (Option.bind (hN f q4 [(4, 0)]) fun v7 => Option.bind (hJld f v7 p2) fun v8 => some v8))) else none
set_option maxRecDepth 100000 in
set_option maxHeartbeats 4000000 in
theorem w_X10_term_17 {p : Program} {l : Launch} {e : Env} {s : State} {m : MethodId} {args : Array Value} {below : List Frame} {meth : Method} {c : Code} {G : xG} {z : Nat} {f : xHp} (X : xC G p m c s args RX10 cX10_term 4) (hr : meth.sig.returnType = (some .long)) (hlocks : meth.locks = false) (hin : meth.name = yX10_term.name) (rs : Int64)   (H : Heap) (locs : List Loc) (ls : Array Slot) (h : F_X10_term_17 f   = some rs) (Y : xY G z f s H locs) (hl : lv_has ls 4 []) : W p l e rm_X10_term s m args below meth c H locs 0 0 (MQ below (xQ G (some (.long rs)) z f) args s rm_X10_term.cells rm_X10_term.slots (xA G)) (F0 m 17 ls []) := by
  have hx := X.1.1
  have hb := X.1.2.1
  unfold F_X10_term_17 at h
  refine lv_ldc2 (v := -9223372036854775808) hx hb X.1.2.2.2.1 (X.1.2.2.2.2 _ xw_203) dX10_term_17 ?_
  refine lv_goto (tgt := 29) hx hb dX10_term_20 (by decide) ?_
  replace h := Option.some.inj h
  subst h
  exact q_retl X Y hr hlocks (Nat.le_of_ble_eq_true rfl) (Nat.le_of_ble_eq_true rfl) dX10_term_29
set_option maxRecDepth 100000 in
set_option maxHeartbeats 4000000 in
theorem c_X10_term (l : Launch) (G : xG) (z : Nat) (f : xHp) (h0 : Nat) (p1 : Int32) (p2 : Int32) (rs : Int64) (h : F_X10_term f h0 p1 p2 = some rs) : xM G l yX10_term cX10_term 4 (some .long) rm_X10_term [.ref h0, .int p1, .int p2] z f (some (.long rs)) z f := by
  refine xM_of (by decide) (Nat.le_of_ble_eq_true rfl) ?_
  intro p e s m below meth c ls X hr hlocks hin Y hl
  have hl : lv_has ls 4 [(0, .ref h0), (1, .int p1), (2, .int p2)] := hl
  have hx := X.1.1
  have hb := X.1.2.1
  unfold F_X10_term at h
  refine lv_aload_n hx hb dX10_term_0 rfl (lv_at hl 0 rfl) ?_
  refine lv_iload_n hx hb dX10_term_1 rfl (lv_at hl 1 rfl) ?_
  by_cases c1 : hKd f h0 = some 9
  · replace h := Eq.trans (if_pos c1).symm h
    replace h := xb h
    obtain ⟨q2, eq2, h⟩ := h
    refine q_callV X Y hl.1 (rest := []) (As := [.int p1]) (c_X10_polynomialOf l G z f h0 p1 _ eq2) cd_X10_polynomialOf lv_X10_95_9 c1 ⟨(Nat.le_of_ble_eq_true rfl), (Nat.le_of_ble_eq_true rfl)⟩ ⟨(Nat.le_of_ble_eq_true rfl), (Nat.le_of_ble_eq_true rfl)⟩ rfl rfl (Nat.le_of_ble_eq_true rfl) dX10_term_2 (fun H locs Y => ?_)
    refine W.eq (g2 := F0 m 5 ls [va_rf q2]) rfl ?_
    refine q_astore_n (lv' := [(3, va_rf q2), (0, .ref h0), (1, .int p1), (2, .int p2)]) hx hb dX10_term_5 rfl hl (by decide) rfl (fun ls hl => ?_)
    refine q_aload_n hx hb dX10_term_6 rfl (lv_at hl 0 rfl) ?_
    refine q_ifnull (tgt := 17) hx hb dX10_term_7 (by decide) (fun c3 => ?_) (fun q4 eq4 => ?_)
    · replace h := xn0 h c3
      subst c3
      have hl : lv_has ls 4 [(3, .null), (0, .ref h0), (1, .int p1), (2, .int p2)] := hl
      refine W.widen (k := 0) (n := 0) (Nat.le_of_ble_eq_true rfl) (Nat.le_of_ble_eq_true rfl) ?_
      exact w_X10_term_17 X hr hlocks hin rs    _ _ _ h Y (lv_sub hl [] rfl)
    · replace h := xn1 h eq4
      subst eq4
      have hl : lv_has ls 4 [(3, .ref q4), (0, .ref h0), (1, .int p1), (2, .int p2)] := hl
      refine lv_iload_n hx hb dX10_term_10 rfl (lv_at hl 3 rfl) ?_
      replace h := xb h
      obtain ⟨q5, eq5, h⟩ := h
      refine q_callS X Y hl.1 (rest := []) (As := [.int p2]) (c_X10_isTerm l G z f p2 _ eq5) cd_X10_isTerm ls_X10_119 ⟨(Nat.le_of_ble_eq_true rfl), (Nat.le_of_ble_eq_true rfl)⟩ ⟨(Nat.le_of_ble_eq_true rfl), (Nat.le_of_ble_eq_true rfl)⟩ rfl rfl (Nat.le_of_ble_eq_true rfl) dX10_term_11 (fun H locs Y => ?_)
      refine W.eq (g2 := F0 m 14 ls [.int q5]) rfl ?_
      refine lv_if_ne (tgt := 23) hx hb dX10_term_14 (by decide) (fun c6 => ?_) (fun c6 => ?_)
      · replace h := Eq.trans (if_neg c6).symm h
        refine lv_aload_n hx hb dX10_term_23 rfl (lv_at hl 0 rfl) ?_
        replace h := xb h
        obtain ⟨v7, ev7, h⟩ := h
        refine q_getN X Y fl_X10_105 ev7 dX10_term_24 ?_
        refine lv_iload_n hx hb dX10_term_27 rfl (lv_at hl 3 rfl) ?_
        replace h := xb h
        obtain ⟨v8, ev8, h⟩ := h
        refine q_lald X Y ev8 dX10_term_28 ?_
        replace h := Option.some.inj h
        subst h
        exact q_retl X Y hr hlocks (Nat.le_of_ble_eq_true rfl) (Nat.le_of_ble_eq_true rfl) dX10_term_29
      · replace h := Eq.trans (if_pos c6).symm h
        refine W.widen (k := 0) (n := 0) (Nat.le_of_ble_eq_true rfl) (Nat.le_of_ble_eq_true rfl) ?_
        exact w_X10_term_17 X hr hlocks hin rs    _ _ _ h Y (lv_sub hl [] rfl)
  replace h := Eq.trans (if_neg c1).symm h
  cases h
/-! NeverBelow$Polynomial.between(JJJJ)J -/
abbrev rm_X4_between : Room := { frames := 0, cells := 0, slots := 0, locals := 0 }
def F_X4_between (f : xHp) (h0 : Nat) (p1 : Int64) (p3 : Int64) (p5 : Int64) (p7 : Int64) : Option (Int64) := Option.bind (hN f h0 [(4, 0)]) fun v1 => Option.bind (hJld f v1 (0 : Int32)) fun v2 => Option.bind (hN f h0 [(4, 0)]) fun v3 => Option.bind (hJld f v3 (1 : Int32)) fun v4 => Option.bind (hN f h0 [(4, 0)]) fun v5 => Option.bind (hJld f v5 (2 : Int32)) fun v6 => Option.bind (hN f h0 [(4, 0)]) fun v7 => Option.bind (hJld f v7 (3 : Int32)) fun v8 => Option.bind (hN f h0 [(4, 0)]) fun v9 => Option.bind (hJld f v9 (4 : Int32)) fun v10 => Option.bind (hN f h0 [(4, 0)]) fun v11 => Option.bind (hJld f v11 (5 : Int32)) fun v12 => Option.bind (hN f h0 [(4, 0)]) fun v13 => Option.bind (hJld f v13 (6 : Int32)) fun v14 => Option.bind (hN f h0 [(4, 0)]) fun v15 => Option.bind (hJld f v15 (7 : Int32)) fun v16 => Option.bind (hN f h0 [(4, 0)]) fun v17 => Option.bind (hJld f v17 (8 : Int32)) fun v18 => some ((((((v2 * (131072 : Int64)) + (v4 * ((256 : Int64) * (p5 + p7)))) + (v6 * (((2 : Int64) * p5) * p7))) * (131072 : Int64)) + ((((v8 * (131072 : Int64)) + (v10 * ((256 : Int64) * (p5 + p7)))) + (v12 * (((2 : Int64) * p5) * p7))) * ((256 : Int64) * (p1 + p3)))) + ((((v14 * (131072 : Int64)) + (v16 * ((256 : Int64) * (p5 + p7)))) + (v18 * (((2 : Int64) * p5) * p7))) * (((2 : Int64) * p1) * p3)))
set_option maxRecDepth 100000 in
set_option maxHeartbeats 4000000 in
theorem c_X4_between (l : Launch) (G : xG) (z : Nat) (f : xHp) (h0 : Nat) (p1 : Int64) (p3 : Int64) (p5 : Int64) (p7 : Int64) (rs : Int64) (h : F_X4_between f h0 p1 p3 p5 p7 = some rs) : xM G l yX4_between cX4_between 19 (some .long) rm_X4_between [.ref h0, .long p1, .long p3, .long p5, .long p7] z f (some (.long rs)) z f := by
  refine xM_of (by decide) (Nat.le_of_ble_eq_true rfl) ?_
  intro p e s m below meth c ls X hr hlocks hin Y hl
  have hl : lv_has ls 19 [(0, .ref h0), (1, .long p1), (3, .long p3), (5, .long p5), (7, .long p7)] := hl
  have hx := X.1.1
  have hb := X.1.2.1
  unfold F_X4_between at h
  refine lv_ldc2 (v := 256) hx hb X.1.2.2.2.1 (X.1.2.2.2.2 _ xw_276) dX4_between_0 ?_
  refine lv_lload hx hb dX4_between_3 (lv_at hl 3 rfl) ?_
  refine lv_lload hx hb dX4_between_5 (lv_at hl 4 rfl) ?_
  refine lv_ladd hx hb dX4_between_7 ?_
  refine lv_lmul hx hb dX4_between_8 ?_
  refine lv_lstore (lv' := [(9, .long ((256 : Int64) * (p5 + p7))), (0, .ref h0), (1, .long p1), (3, .long p3), (5, .long p5), (7, .long p7)]) hx hb dX4_between_9 hl (by decide) rfl (fun ls hl => ?_)
  refine lv_ldc2 (v := 2) hx hb X.1.2.2.2.1 (X.1.2.2.2.2 _ xw_277) dX4_between_11 ?_
  refine lv_lload hx hb dX4_between_14 (lv_at hl 4 rfl) ?_
  refine lv_lmul hx hb dX4_between_16 ?_
  refine lv_lload hx hb dX4_between_17 (lv_at hl 5 rfl) ?_
  refine lv_lmul hx hb dX4_between_19 ?_
  refine lv_lstore (lv' := [(11, .long (((2 : Int64) * p5) * p7)), (9, .long ((256 : Int64) * (p5 + p7))), (0, .ref h0), (1, .long p1), (3, .long p3), (5, .long p5), (7, .long p7)]) hx hb dX4_between_20 hl (by decide) rfl (fun ls hl => ?_)
  refine lv_aload_n hx hb dX4_between_22 rfl (lv_at hl 2 rfl) ?_
  replace h := xb h
  obtain ⟨v1, ev1, h⟩ := h
  refine q_getN X Y fl_X4_9 ev1 dX4_between_23 ?_
  refine lv_iconst (v := 0) hx hb dX4_between_26 (by decide) ?_
  replace h := xb h
  obtain ⟨v2, ev2, h⟩ := h
  refine q_lald X Y ev2 dX4_between_27 ?_
  refine lv_ldc2 (v := 131072) hx hb X.1.2.2.2.1 (X.1.2.2.2.2 _ xw_278) dX4_between_28 ?_
  refine lv_lmul hx hb dX4_between_31 ?_
  refine lv_aload_n hx hb dX4_between_32 rfl (lv_at hl 2 rfl) ?_
  replace h := xb h
  obtain ⟨v3, ev3, h⟩ := h
  refine q_getN X Y fl_X4_9 ev3 dX4_between_33 ?_
  refine lv_iconst (v := 1) hx hb dX4_between_36 (by decide) ?_
  replace h := xb h
  obtain ⟨v4, ev4, h⟩ := h
  refine q_lald X Y ev4 dX4_between_37 ?_
  refine lv_lload hx hb dX4_between_38 (lv_at hl 1 rfl) ?_
  refine lv_lmul hx hb dX4_between_40 ?_
  refine lv_ladd hx hb dX4_between_41 ?_
  refine lv_aload_n hx hb dX4_between_42 rfl (lv_at hl 2 rfl) ?_
  replace h := xb h
  obtain ⟨v5, ev5, h⟩ := h
  refine q_getN X Y fl_X4_9 ev5 dX4_between_43 ?_
  refine lv_iconst (v := 2) hx hb dX4_between_46 (by decide) ?_
  replace h := xb h
  obtain ⟨v6, ev6, h⟩ := h
  refine q_lald X Y ev6 dX4_between_47 ?_
  refine lv_lload hx hb dX4_between_48 (lv_at hl 0 rfl) ?_
  refine lv_lmul hx hb dX4_between_50 ?_
  refine lv_ladd hx hb dX4_between_51 ?_
  refine lv_lstore (lv' := [(13, .long (((v2 * (131072 : Int64)) + (v4 * ((256 : Int64) * (p5 + p7)))) + (v6 * (((2 : Int64) * p5) * p7)))), (11, .long (((2 : Int64) * p5) * p7)), (9, .long ((256 : Int64) * (p5 + p7))), (0, .ref h0), (1, .long p1), (3, .long p3), (5, .long p5), (7, .long p7)]) hx hb dX4_between_52 hl (by decide) rfl (fun ls hl => ?_)
  refine lv_aload_n hx hb dX4_between_54 rfl (lv_at hl 3 rfl) ?_
  replace h := xb h
  obtain ⟨v7, ev7, h⟩ := h
  refine q_getN X Y fl_X4_9 ev7 dX4_between_55 ?_
  refine lv_iconst (v := 3) hx hb dX4_between_58 (by decide) ?_
  replace h := xb h
  obtain ⟨v8, ev8, h⟩ := h
  refine q_lald X Y ev8 dX4_between_59 ?_
  refine lv_ldc2 (v := 131072) hx hb X.1.2.2.2.1 (X.1.2.2.2.2 _ xw_278) dX4_between_60 ?_
  refine lv_lmul hx hb dX4_between_63 ?_
  refine lv_aload_n hx hb dX4_between_64 rfl (lv_at hl 3 rfl) ?_
  replace h := xb h
  obtain ⟨v9, ev9, h⟩ := h
  refine q_getN X Y fl_X4_9 ev9 dX4_between_65 ?_
  refine lv_iconst (v := 4) hx hb dX4_between_68 (by decide) ?_
  replace h := xb h
  obtain ⟨v10, ev10, h⟩ := h
  refine q_lald X Y ev10 dX4_between_69 ?_
  refine lv_lload hx hb dX4_between_70 (lv_at hl 2 rfl) ?_
  refine lv_lmul hx hb dX4_between_72 ?_
  refine lv_ladd hx hb dX4_between_73 ?_
  refine lv_aload_n hx hb dX4_between_74 rfl (lv_at hl 3 rfl) ?_
  replace h := xb h
  obtain ⟨v11, ev11, h⟩ := h
  refine q_getN X Y fl_X4_9 ev11 dX4_between_75 ?_
  refine lv_iconst (v := 5) hx hb dX4_between_78 (by decide) ?_
  replace h := xb h
  obtain ⟨v12, ev12, h⟩ := h
  refine q_lald X Y ev12 dX4_between_79 ?_
  refine lv_lload hx hb dX4_between_80 (lv_at hl 1 rfl) ?_
  refine lv_lmul hx hb dX4_between_82 ?_
  refine lv_ladd hx hb dX4_between_83 ?_
  refine lv_lstore (lv' := [(15, .long (((v8 * (131072 : Int64)) + (v10 * ((256 : Int64) * (p5 + p7)))) + (v12 * (((2 : Int64) * p5) * p7)))), (13, .long (((v2 * (131072 : Int64)) + (v4 * ((256 : Int64) * (p5 + p7)))) + (v6 * (((2 : Int64) * p5) * p7)))), (11, .long (((2 : Int64) * p5) * p7)), (9, .long ((256 : Int64) * (p5 + p7))), (0, .ref h0), (1, .long p1), (3, .long p3), (5, .long p5), (7, .long p7)]) hx hb dX4_between_84 hl (by decide) rfl (fun ls hl => ?_)
  refine lv_aload_n hx hb dX4_between_86 rfl (lv_at hl 4 rfl) ?_
  replace h := xb h
  obtain ⟨v13, ev13, h⟩ := h
  refine q_getN X Y fl_X4_9 ev13 dX4_between_87 ?_
  refine lv_bipush (v := 6) hx hb dX4_between_90 (by decide) ?_
  replace h := xb h
  obtain ⟨v14, ev14, h⟩ := h
  refine q_lald X Y ev14 dX4_between_92 ?_
  refine lv_ldc2 (v := 131072) hx hb X.1.2.2.2.1 (X.1.2.2.2.2 _ xw_278) dX4_between_93 ?_
  refine lv_lmul hx hb dX4_between_96 ?_
  refine lv_aload_n hx hb dX4_between_97 rfl (lv_at hl 4 rfl) ?_
  replace h := xb h
  obtain ⟨v15, ev15, h⟩ := h
  refine q_getN X Y fl_X4_9 ev15 dX4_between_98 ?_
  refine lv_bipush (v := 7) hx hb dX4_between_101 (by decide) ?_
  replace h := xb h
  obtain ⟨v16, ev16, h⟩ := h
  refine q_lald X Y ev16 dX4_between_103 ?_
  refine lv_lload hx hb dX4_between_104 (lv_at hl 3 rfl) ?_
  refine lv_lmul hx hb dX4_between_106 ?_
  refine lv_ladd hx hb dX4_between_107 ?_
  refine lv_aload_n hx hb dX4_between_108 rfl (lv_at hl 4 rfl) ?_
  replace h := xb h
  obtain ⟨v17, ev17, h⟩ := h
  refine q_getN X Y fl_X4_9 ev17 dX4_between_109 ?_
  refine lv_bipush (v := 8) hx hb dX4_between_112 (by decide) ?_
  replace h := xb h
  obtain ⟨v18, ev18, h⟩ := h
  refine q_lald X Y ev18 dX4_between_114 ?_
  refine lv_lload hx hb dX4_between_115 (lv_at hl 2 rfl) ?_
  refine lv_lmul hx hb dX4_between_117 ?_
  refine lv_ladd hx hb dX4_between_118 ?_
  refine lv_lstore (lv' := [(17, .long (((v14 * (131072 : Int64)) + (v16 * ((256 : Int64) * (p5 + p7)))) + (v18 * (((2 : Int64) * p5) * p7)))), (15, .long (((v8 * (131072 : Int64)) + (v10 * ((256 : Int64) * (p5 + p7)))) + (v12 * (((2 : Int64) * p5) * p7)))), (13, .long (((v2 * (131072 : Int64)) + (v4 * ((256 : Int64) * (p5 + p7)))) + (v6 * (((2 : Int64) * p5) * p7)))), (11, .long (((2 : Int64) * p5) * p7)), (9, .long ((256 : Int64) * (p5 + p7))), (0, .ref h0), (1, .long p1), (3, .long p3), (5, .long p5), (7, .long p7)]) hx hb dX4_between_119 hl (by decide) rfl (fun ls hl => ?_)
  refine lv_lload hx hb dX4_between_121 (lv_at hl 2 rfl) ?_
  refine lv_ldc2 (v := 131072) hx hb X.1.2.2.2.1 (X.1.2.2.2.2 _ xw_278) dX4_between_123 ?_
  refine lv_lmul hx hb dX4_between_126 ?_
  refine lv_lload hx hb dX4_between_127 (lv_at hl 1 rfl) ?_
  refine lv_ldc2 (v := 256) hx hb X.1.2.2.2.1 (X.1.2.2.2.2 _ xw_276) dX4_between_129 ?_
  refine lv_lload_n hx hb dX4_between_132 rfl (lv_at hl 6 rfl) ?_
  refine lv_lload_n hx hb dX4_between_133 rfl (lv_at hl 7 rfl) ?_
  refine lv_ladd hx hb dX4_between_134 ?_
  refine lv_lmul hx hb dX4_between_135 ?_
  refine lv_lmul hx hb dX4_between_136 ?_
  refine lv_ladd hx hb dX4_between_137 ?_
  refine lv_lload hx hb dX4_between_138 (lv_at hl 0 rfl) ?_
  refine lv_ldc2 (v := 2) hx hb X.1.2.2.2.1 (X.1.2.2.2.2 _ xw_277) dX4_between_140 ?_
  refine lv_lload_n hx hb dX4_between_143 rfl (lv_at hl 6 rfl) ?_
  refine lv_lmul hx hb dX4_between_144 ?_
  refine lv_lload_n hx hb dX4_between_145 rfl (lv_at hl 7 rfl) ?_
  refine lv_lmul hx hb dX4_between_146 ?_
  refine lv_lmul hx hb dX4_between_147 ?_
  refine lv_ladd hx hb dX4_between_148 ?_
  replace h := Option.some.inj h
  subst h
  exact q_retl X Y hr hlocks (Nat.le_of_ble_eq_true rfl) (Nat.le_of_ble_eq_true rfl) dX4_between_149
/-! NeverBelow.value(III)J -/
abbrev rm_X10_value : Room := { frames := 1, cells := 0, slots := 0, locals := 38 }
def F_X10_value_34 (f : xHp)    : Option (Int64) := some (-9223372036854775808 : Int64)
def F_X10_value (f : xHp) (h0 : Nat) (p1 : Int32) (p2 : Int32) (p3 : Int32) : Option (Int64) := if hKd f h0 = some 9 then (Option.bind (F_X10_polynomialOf f h0 p1) fun q2 => xnul q2 (F_X10_value_34 f) (fun q4 => Option.bind (F_X10_isWithin f p2.toInt64 (2048 : Int64)) fun q5 => if q5 = 0 then (F_X10_value_34 f) else (Option.bind (F_X10_isWithin f p3.toInt64 (2048 : Int64)) fun q7 => if q7 = 0 then (F_X10_value_34 f) else (if hKd f q4 = some 4 then (Option.bind (F_X4_between f q4 p2.toInt64 p2.toInt64 p3.toInt64 p3.toInt64) fun q10 => some (q10 / (4 : Int64))) else none)))) else none
set_option maxRecDepth 100000 in
set_option maxHeartbeats 4000000 in
theorem w_X10_value_34 {p : Program} {l : Launch} {e : Env} {s : State} {m : MethodId} {args : Array Value} {below : List Frame} {meth : Method} {c : Code} {G : xG} {z : Nat} {f : xHp} (X : xC G p m c s args RX10 cX10_value 5) (hr : meth.sig.returnType = (some .long)) (hlocks : meth.locks = false) (hin : meth.name = yX10_value.name) (rs : Int64)   (H : Heap) (locs : List Loc) (ls : Array Slot) (h : F_X10_value_34 f   = some rs) (Y : xY G z f s H locs) (hl : lv_has ls 5 []) : W p l e rm_X10_value s m args below meth c H locs 0 0 (MQ below (xQ G (some (.long rs)) z f) args s rm_X10_value.cells rm_X10_value.slots (xA G)) (F0 m 34 ls []) := by
  have hx := X.1.1
  have hb := X.1.2.1
  unfold F_X10_value_34 at h
  refine lv_ldc2 (v := -9223372036854775808) hx hb X.1.2.2.2.1 (X.1.2.2.2.2 _ xw_203) dX10_value_34 ?_
  replace h := Option.some.inj h
  subst h
  exact q_retl X Y hr hlocks (Nat.le_of_ble_eq_true rfl) (Nat.le_of_ble_eq_true rfl) dX10_value_37
set_option maxRecDepth 100000 in
set_option maxHeartbeats 4000000 in
theorem c_X10_value (l : Launch) (G : xG) (z : Nat) (f : xHp) (h0 : Nat) (p1 : Int32) (p2 : Int32) (p3 : Int32) (rs : Int64) (h : F_X10_value f h0 p1 p2 p3 = some rs) : xM G l yX10_value cX10_value 5 (some .long) rm_X10_value [.ref h0, .int p1, .int p2, .int p3] z f (some (.long rs)) z f := by
  refine xM_of (by decide) (Nat.le_of_ble_eq_true rfl) ?_
  intro p e s m below meth c ls X hr hlocks hin Y hl
  have hl : lv_has ls 5 [(0, .ref h0), (1, .int p1), (2, .int p2), (3, .int p3)] := hl
  have hx := X.1.1
  have hb := X.1.2.1
  unfold F_X10_value at h
  refine lv_aload_n hx hb dX10_value_0 rfl (lv_at hl 0 rfl) ?_
  refine lv_iload_n hx hb dX10_value_1 rfl (lv_at hl 1 rfl) ?_
  by_cases c1 : hKd f h0 = some 9
  · replace h := Eq.trans (if_pos c1).symm h
    replace h := xb h
    obtain ⟨q2, eq2, h⟩ := h
    refine q_callV X Y hl.1 (rest := []) (As := [.int p1]) (c_X10_polynomialOf l G z f h0 p1 _ eq2) cd_X10_polynomialOf lv_X10_95_9 c1 ⟨(Nat.le_of_ble_eq_true rfl), (Nat.le_of_ble_eq_true rfl)⟩ ⟨(Nat.le_of_ble_eq_true rfl), (Nat.le_of_ble_eq_true rfl)⟩ rfl rfl (Nat.le_of_ble_eq_true rfl) dX10_value_2 (fun H locs Y => ?_)
    refine W.eq (g2 := F0 m 5 ls [va_rf q2]) rfl ?_
    refine q_astore (lv' := [(4, va_rf q2), (0, .ref h0), (1, .int p1), (2, .int p2), (3, .int p3)]) hx hb dX10_value_5 hl (by decide) rfl (fun ls hl => ?_)
    refine q_aload hx hb dX10_value_7 (lv_at hl 0 rfl) ?_
    refine q_ifnull (tgt := 34) hx hb dX10_value_9 (by decide) (fun c3 => ?_) (fun q4 eq4 => ?_)
    · replace h := xn0 h c3
      subst c3
      have hl : lv_has ls 5 [(4, .null), (0, .ref h0), (1, .int p1), (2, .int p2), (3, .int p3)] := hl
      refine W.widen (k := 0) (n := 0) (Nat.le_of_ble_eq_true rfl) (Nat.le_of_ble_eq_true rfl) ?_
      exact w_X10_value_34 X hr hlocks hin rs    _ _ _ h Y (lv_sub hl [] rfl)
    · replace h := xn1 h eq4
      subst eq4
      have hl : lv_has ls 5 [(4, .ref q4), (0, .ref h0), (1, .int p1), (2, .int p2), (3, .int p3)] := hl
      refine lv_iload_n hx hb dX10_value_12 rfl (lv_at hl 3 rfl) ?_
      refine lv_i2l hx hb dX10_value_13 rfl ?_
      refine lv_ldc2 (v := 2048) hx hb X.1.2.2.2.1 (X.1.2.2.2.2 _ xw_271) dX10_value_14 ?_
      replace h := xb h
      obtain ⟨q5, eq5, h⟩ := h
      refine q_callS X Y hl.1 (rest := []) (As := [.long p2.toInt64, .long (2048 : Int64)]) (c_X10_isWithin l G z f p2.toInt64 (2048 : Int64) _ eq5) cd_X10_isWithin ls_X10_101 ⟨(Nat.le_of_ble_eq_true rfl), (Nat.le_of_ble_eq_true rfl)⟩ ⟨(Nat.le_of_ble_eq_true rfl), (Nat.le_of_ble_eq_true rfl)⟩ rfl rfl (Nat.le_of_ble_eq_true rfl) dX10_value_17 (fun H locs Y => ?_)
      refine W.eq (g2 := F0 m 20 ls [.int q5]) rfl ?_
      refine lv_if_eq (tgt := 34) hx hb dX10_value_20 (by decide) (fun c6 => ?_) (fun c6 => ?_)
      · replace h := Eq.trans (if_pos c6).symm h
        refine W.widen (k := 0) (n := 0) (Nat.le_of_ble_eq_true rfl) (Nat.le_of_ble_eq_true rfl) ?_
        exact w_X10_value_34 X hr hlocks hin rs    _ _ _ h Y (lv_sub hl [] rfl)
      · replace h := Eq.trans (if_neg c6).symm h
        refine lv_iload_n hx hb dX10_value_23 rfl (lv_at hl 4 rfl) ?_
        refine lv_i2l hx hb dX10_value_24 rfl ?_
        refine lv_ldc2 (v := 2048) hx hb X.1.2.2.2.1 (X.1.2.2.2.2 _ xw_271) dX10_value_25 ?_
        replace h := xb h
        obtain ⟨q7, eq7, h⟩ := h
        refine q_callS X Y hl.1 (rest := []) (As := [.long p3.toInt64, .long (2048 : Int64)]) (c_X10_isWithin l G z f p3.toInt64 (2048 : Int64) _ eq7) cd_X10_isWithin ls_X10_101 ⟨(Nat.le_of_ble_eq_true rfl), (Nat.le_of_ble_eq_true rfl)⟩ ⟨(Nat.le_of_ble_eq_true rfl), (Nat.le_of_ble_eq_true rfl)⟩ rfl rfl (Nat.le_of_ble_eq_true rfl) dX10_value_28 (fun H locs Y => ?_)
        refine W.eq (g2 := F0 m 31 ls [.int q7]) rfl ?_
        refine lv_if_ne (tgt := 38) hx hb dX10_value_31 (by decide) (fun c8 => ?_) (fun c8 => ?_)
        · replace h := Eq.trans (if_neg c8).symm h
          refine lv_aload hx hb dX10_value_38 (lv_at hl 0 rfl) ?_
          refine lv_iload_n hx hb dX10_value_40 rfl (lv_at hl 3 rfl) ?_
          refine lv_i2l hx hb dX10_value_41 rfl ?_
          refine lv_iload_n hx hb dX10_value_42 rfl (lv_at hl 3 rfl) ?_
          refine lv_i2l hx hb dX10_value_43 rfl ?_
          refine lv_iload_n hx hb dX10_value_44 rfl (lv_at hl 4 rfl) ?_
          refine lv_i2l hx hb dX10_value_45 rfl ?_
          refine lv_iload_n hx hb dX10_value_46 rfl (lv_at hl 4 rfl) ?_
          refine lv_i2l hx hb dX10_value_47 rfl ?_
          by_cases c9 : hKd f q4 = some 4
          · replace h := Eq.trans (if_pos c9).symm h
            replace h := xb h
            obtain ⟨q10, eq10, h⟩ := h
            refine q_callV X Y hl.1 (rest := []) (As := [.long p2.toInt64, .long p2.toInt64, .long p3.toInt64, .long p3.toInt64]) (c_X4_between l G z f q4 p2.toInt64 p2.toInt64 p3.toInt64 p3.toInt64 _ eq10) cd_X4_between lv_X10_124_4 c9 ⟨(Nat.le_of_ble_eq_true rfl), (Nat.le_of_ble_eq_true rfl)⟩ ⟨(Nat.le_of_ble_eq_true rfl), (Nat.le_of_ble_eq_true rfl)⟩ rfl rfl (Nat.le_of_ble_eq_true rfl) dX10_value_48 (fun H locs Y => ?_)
            refine W.eq (g2 := F0 m 51 ls [.long q10]) rfl ?_
            refine lv_ldc2 (v := 4) hx hb X.1.2.2.2.1 (X.1.2.2.2.2 _ xw_279) dX10_value_51 ?_
            refine lv_ldiv hx hb dX10_value_54 (by decide) ?_
            replace h := Option.some.inj h
            subst h
            exact q_retl X Y hr hlocks (Nat.le_of_ble_eq_true rfl) (Nat.le_of_ble_eq_true rfl) dX10_value_55
          replace h := Eq.trans (if_neg c9).symm h
          cases h
        · replace h := Eq.trans (if_pos c8).symm h
          refine W.widen (k := 0) (n := 0) (Nat.le_of_ble_eq_true rfl) (Nat.le_of_ble_eq_true rfl) ?_
          exact w_X10_value_34 X hr hlocks hin rs    _ _ _ h Y (lv_sub hl [] rfl)
  replace h := Eq.trans (if_neg c1).symm h
  cases h
/-! NeverBelow.same(II)I -/
abbrev rm_X10_same : Room := { frames := 1, cells := 0, slots := 0, locals := 21 }
def F_X10_same_27 (f : xHp) (k27 : Nat → Nat → Int32 → Option (Int32))  (a3 : Nat) (a4 : Nat) (a5 : Int32) : Option (Int32) := if (9 : Int32) ≤ a5 then (some (1 : Int32)) else (Option.bind (hN f a3 [(4, 0)]) fun v2 => Option.bind (hJld f v2 a5) fun v3 => Option.bind (hN f a4 [(4, 0)]) fun v4 => Option.bind (hJld f v4 a5) fun v5 => if v3 = v5 then (k27 a3 a4 (a5 + 1)) else (some (0 : Int32)))
def L_X10_same_27 (f : xHp)  : Nat → Nat → Nat → Int32 → Option (Int32)
  | 0, _, _, _ => none
  | n + 1, a3, a4, a5 => F_X10_same_27 f (L_X10_same_27 f  n) a3 a4 a5
def F_X10_same (f : xHp) (h0 : Nat) (p1 : Int32) (p2 : Int32) : Option (Int32) := if hKd f h0 = some 9 then (Option.bind (F_X10_polynomialOf f h0 p1) fun q2 => if hKd f h0 = some 9 then (Option.bind (F_X10_polynomialOf f h0 p2) fun q4 => xnul q2 (some (-1 : Int32)) (fun q6 => xnul q4 (some (-1 : Int32)) (fun q8 => L_X10_same_27 f xfuel q6 q8 (0 : Int32)))) else none) else none
set_option maxRecDepth 100000 in
set_option maxHeartbeats 4000000 in
theorem w_X10_same_27 {p : Program} {l : Launch} {e : Env} {s : State} {m : MethodId} {args : Array Value} {below : List Frame} {meth : Method} {c : Code} {G : xG} {z : Nat} {f : xHp} (X : xC G p m c s args RX10 cX10_same 6) (hr : meth.sig.returnType = (some .int)) (hlocks : meth.locks = false) (hin : meth.name = yX10_same.name) (rs : Int32) (k27 : Nat → Nat → Int32 → Option (Int32)) (hk27 : ∀ (a3 : Nat) (a4 : Nat) (a5 : Int32) (H : Heap) (locs : List Loc) (ls : Array Slot), k27 a3 a4 a5 = some rs → xY G z f s H locs → lv_has ls 6 [(3, .ref a3), (4, .ref a4), (5, .int a5)] → W p l e rm_X10_same s m args below meth c H locs 0 0 (MQ below (xQ G (some (.int rs)) z f) args s rm_X10_same.cells rm_X10_same.slots (xA G)) (F0 m 27 ls [])) (a3 : Nat) (a4 : Nat) (a5 : Int32) (H : Heap) (locs : List Loc) (ls : Array Slot) (h : F_X10_same_27 f k27 a3 a4 a5 = some rs) (Y : xY G z f s H locs) (hl : lv_has ls 6 [(3, .ref a3), (4, .ref a4), (5, .int a5)]) : W p l e rm_X10_same s m args below meth c H locs 0 0 (MQ below (xQ G (some (.int rs)) z f) args s rm_X10_same.cells rm_X10_same.slots (xA G)) (F0 m 27 ls []) := by
  have hx := X.1.1
  have hb := X.1.2.1
  unfold F_X10_same_27 at h
  refine lv_iload hx hb dX10_same_27 (lv_at hl 2 rfl) ?_
  refine lv_bipush (v := 9) hx hb dX10_same_29 (by decide) ?_
  refine lv_icmp_ge (tgt := 61) hx hb dX10_same_31 (by decide) (fun c1 => ?_) (fun c1 => ?_)
  · replace h := Eq.trans (if_pos c1).symm h
    refine lv_iconst (v := 1) hx hb dX10_same_61 (by decide) ?_
    replace h := Option.some.inj h
    subst h
    exact q_reti X Y hr hlocks (Nat.le_of_ble_eq_true rfl) (Nat.le_of_ble_eq_true rfl) dX10_same_62
  · replace h := Eq.trans (if_neg c1).symm h
    refine lv_aload_n hx hb dX10_same_34 rfl (lv_at hl 0 rfl) ?_
    replace h := xb h
    obtain ⟨v2, ev2, h⟩ := h
    refine q_getN X Y fl_X10_105 ev2 dX10_same_35 ?_
    refine lv_iload hx hb dX10_same_38 (lv_at hl 2 rfl) ?_
    replace h := xb h
    obtain ⟨v3, ev3, h⟩ := h
    refine q_lald X Y ev3 dX10_same_40 ?_
    refine lv_aload hx hb dX10_same_41 (lv_at hl 1 rfl) ?_
    replace h := xb h
    obtain ⟨v4, ev4, h⟩ := h
    refine q_getN X Y fl_X10_105 ev4 dX10_same_43 ?_
    refine lv_iload hx hb dX10_same_46 (lv_at hl 2 rfl) ?_
    replace h := xb h
    obtain ⟨v5, ev5, h⟩ := h
    refine q_lald X Y ev5 dX10_same_48 ?_
    refine q_lcmp_eq (tgt := 55) hx hb dX10_same_49 dX10_same_50 (by decide) (fun c6 => ?_) (fun c6 => ?_)
    · replace h := Eq.trans (if_pos c6).symm h
      refine lv_iinc (v := (a5 + 1)) (lv' := [(5, .int (a5 + 1)), (3, .ref a3), (4, .ref a4)]) hx hb dX10_same_55 hl (k := 2) rfl rfl (by decide) rfl (fun ls hl => ?_)
      refine lv_goto (tgt := 27) hx hb dX10_same_58 (by decide) ?_
      refine W.widen (k := 0) (n := 0) (Nat.le_of_ble_eq_true rfl) (Nat.le_of_ble_eq_true rfl) ?_
      exact hk27 a3 a4 (a5 + 1) _ _ _ h Y (lv_sub hl [1, 2, 0] rfl)
    · replace h := Eq.trans (if_neg c6).symm h
      refine lv_iconst (v := 0) hx hb dX10_same_53 (by decide) ?_
      replace h := Option.some.inj h
      subst h
      exact q_reti X Y hr hlocks (Nat.le_of_ble_eq_true rfl) (Nat.le_of_ble_eq_true rfl) dX10_same_54
set_option maxRecDepth 100000 in
set_option maxHeartbeats 4000000 in
theorem lw_X10_same_27 {p : Program} {l : Launch} {e : Env} {s : State} {m : MethodId} {args : Array Value} {below : List Frame} {meth : Method} {c : Code} {G : xG} {z : Nat} {f : xHp} (X : xC G p m c s args RX10 cX10_same 6) (hr : meth.sig.returnType = (some .int)) (hlocks : meth.locks = false) (hin : meth.name = yX10_same.name) (rs : Int32)  : ∀ (n : Nat) (a3 : Nat) (a4 : Nat) (a5 : Int32) (H : Heap) (locs : List Loc) (ls : Array Slot), L_X10_same_27 f  n a3 a4 a5 = some rs → xY G z f s H locs → lv_has ls 6 [(3, .ref a3), (4, .ref a4), (5, .int a5)] → W p l e rm_X10_same s m args below meth c H locs 0 0 (MQ below (xQ G (some (.int rs)) z f) args s rm_X10_same.cells rm_X10_same.slots (xA G)) (F0 m 27 ls []) := by
  intro n
  induction n with
  | zero => intro a3 a4 a5 H locs ls h Y hl; cases h
  | succ n ih => intro a3 a4 a5 H locs ls h Y hl; exact w_X10_same_27 X hr hlocks hin rs _ ih a3 a4 a5 _ _ _ h Y hl
set_option maxRecDepth 100000 in
set_option maxHeartbeats 4000000 in
theorem c_X10_same (l : Launch) (G : xG) (z : Nat) (f : xHp) (h0 : Nat) (p1 : Int32) (p2 : Int32) (rs : Int32) (h : F_X10_same f h0 p1 p2 = some rs) : xM G l yX10_same cX10_same 6 (some .int) rm_X10_same [.ref h0, .int p1, .int p2] z f (some (.int rs)) z f := by
  refine xM_of (by decide) (Nat.le_of_ble_eq_true rfl) ?_
  intro p e s m below meth c ls X hr hlocks hin Y hl
  have hl : lv_has ls 6 [(0, .ref h0), (1, .int p1), (2, .int p2)] := hl
  have hx := X.1.1
  have hb := X.1.2.1
  unfold F_X10_same at h
  refine lv_aload_n hx hb dX10_same_0 rfl (lv_at hl 0 rfl) ?_
  refine lv_iload_n hx hb dX10_same_1 rfl (lv_at hl 1 rfl) ?_
  by_cases c1 : hKd f h0 = some 9
  · replace h := Eq.trans (if_pos c1).symm h
    replace h := xb h
    obtain ⟨q2, eq2, h⟩ := h
    refine q_callV X Y hl.1 (rest := []) (As := [.int p1]) (c_X10_polynomialOf l G z f h0 p1 _ eq2) cd_X10_polynomialOf lv_X10_95_9 c1 ⟨(Nat.le_of_ble_eq_true rfl), (Nat.le_of_ble_eq_true rfl)⟩ ⟨(Nat.le_of_ble_eq_true rfl), (Nat.le_of_ble_eq_true rfl)⟩ rfl rfl (Nat.le_of_ble_eq_true rfl) dX10_same_2 (fun H locs Y => ?_)
    refine W.eq (g2 := F0 m 5 ls [va_rf q2]) rfl ?_
    refine q_astore_n (lv' := [(3, va_rf q2), (0, .ref h0), (1, .int p1), (2, .int p2)]) hx hb dX10_same_5 rfl hl (by decide) rfl (fun ls hl => ?_)
    refine lv_aload_n hx hb dX10_same_6 rfl (lv_at hl 1 rfl) ?_
    refine lv_iload_n hx hb dX10_same_7 rfl (lv_at hl 3 rfl) ?_
    by_cases c3 : hKd f h0 = some 9
    · replace h := Eq.trans (if_pos c3).symm h
      replace h := xb h
      obtain ⟨q4, eq4, h⟩ := h
      refine q_callV X Y hl.1 (rest := []) (As := [.int p2]) (c_X10_polynomialOf l G z f h0 p2 _ eq4) cd_X10_polynomialOf lv_X10_95_9 c3 ⟨(Nat.le_of_ble_eq_true rfl), (Nat.le_of_ble_eq_true rfl)⟩ ⟨(Nat.le_of_ble_eq_true rfl), (Nat.le_of_ble_eq_true rfl)⟩ rfl rfl (Nat.le_of_ble_eq_true rfl) dX10_same_8 (fun H locs Y => ?_)
      refine W.eq (g2 := F0 m 11 ls [va_rf q4]) rfl ?_
      refine q_astore (lv' := [(4, va_rf q4), (3, va_rf q2), (0, .ref h0), (1, .int p1), (2, .int p2)]) hx hb dX10_same_11 hl (by decide) (by cases q2 <;> rfl) (fun ls hl => ?_)
      refine q_aload_n hx hb dX10_same_13 rfl (lv_at hl 1 rfl) ?_
      refine q_ifnull (tgt := 22) hx hb dX10_same_14 (by decide) (fun c5 => ?_) (fun q6 eq6 => ?_)
      · replace h := xn0 h c5
        subst c5
        have hl : lv_has ls 6 [(4, va_rf q4), (3, .null), (0, .ref h0), (1, .int p1), (2, .int p2)] := hl
        refine lv_iconst (v := -1) hx hb dX10_same_22 (by decide) ?_
        replace h := Option.some.inj h
        subst h
        exact q_reti X Y hr hlocks (Nat.le_of_ble_eq_true rfl) (Nat.le_of_ble_eq_true rfl) dX10_same_23
      · replace h := xn1 h eq6
        subst eq6
        have hl : lv_has ls 6 [(4, va_rf q4), (3, .ref q6), (0, .ref h0), (1, .int p1), (2, .int p2)] := hl
        refine q_aload hx hb dX10_same_17 (lv_at hl 0 rfl) ?_
        refine q_ifnonnull (tgt := 24) hx hb dX10_same_19 (by decide) (fun c7 => ?_) (fun q8 eq8 => ?_)
        · replace h := xn0 h c7
          subst c7
          have hl : lv_has ls 6 [(4, .null), (3, .ref q6), (0, .ref h0), (1, .int p1), (2, .int p2)] := hl
          refine lv_iconst (v := -1) hx hb dX10_same_22 (by decide) ?_
          replace h := Option.some.inj h
          subst h
          exact q_reti X Y hr hlocks (Nat.le_of_ble_eq_true rfl) (Nat.le_of_ble_eq_true rfl) dX10_same_23
        · replace h := xn1 h eq8
          subst eq8
          have hl : lv_has ls 6 [(4, .ref q8), (3, .ref q6), (0, .ref h0), (1, .int p1), (2, .int p2)] := hl
          refine lv_iconst (v := 0) hx hb dX10_same_24 (by decide) ?_
          refine lv_istore (lv' := [(5, .int (0 : Int32)), (4, .ref q8), (3, .ref q6), (0, .ref h0), (1, .int p1), (2, .int p2)]) hx hb dX10_same_25 hl (by decide) rfl (fun ls hl => ?_)
          refine W.widen (k := 0) (n := 0) (Nat.le_of_ble_eq_true rfl) (Nat.le_of_ble_eq_true rfl) ?_
          exact lw_X10_same_27 X hr hlocks hin rs  xfuel q6 q8 (0 : Int32) _ _ _ h Y (lv_sub hl [2, 1, 0] rfl)
    replace h := Eq.trans (if_neg c3).symm h
    cases h
  replace h := Eq.trans (if_neg c1).symm h
  cases h
/-! NeverBelow.isRange(II)Z -/
abbrev rm_X10_isRange : Room := { frames := 1, cells := 0, slots := 0, locals := 23 }
def F_X10_isRange (f : xHp) (p0 : Int32) (p1 : Int32) : Option (Int32) := Option.bind (F_X10_isWithin f p0.toInt64 (2048 : Int64)) fun q1 => if q1 = 0 then (some (0 : Int32)) else (Option.bind (F_X10_isWithin f p1.toInt64 (2048 : Int64)) fun q3 => if q3 = 0 then (some (0 : Int32)) else (if p1 ≤ p0 then (some (0 : Int32)) else (some (1 : Int32))))
set_option maxRecDepth 100000 in
set_option maxHeartbeats 4000000 in
theorem c_X10_isRange (l : Launch) (G : xG) (z : Nat) (f : xHp) (p0 : Int32) (p1 : Int32) (rs : Int32) (h : F_X10_isRange f p0 p1 = some rs) : xM G l yX10_isRange cX10_isRange 2 (some .boolean) rm_X10_isRange [.int p0, .int p1] z f (some (.int rs)) z f := by
  refine xM_of (by decide) (Nat.le_of_ble_eq_true rfl) ?_
  intro p e s m below meth c ls X hr hlocks hin Y hl
  have hl : lv_has ls 2 [(0, .int p0), (1, .int p1)] := hl
  have hx := X.1.1
  have hb := X.1.2.1
  unfold F_X10_isRange at h
  refine lv_iload_n hx hb dX10_isRange_0 rfl (lv_at hl 0 rfl) ?_
  refine lv_i2l hx hb dX10_isRange_1 rfl ?_
  refine lv_ldc2 (v := 2048) hx hb X.1.2.2.2.1 (X.1.2.2.2.2 _ xw_271) dX10_isRange_2 ?_
  replace h := xb h
  obtain ⟨q1, eq1, h⟩ := h
  refine q_callS X Y hl.1 (rest := []) (As := [.long p0.toInt64, .long (2048 : Int64)]) (c_X10_isWithin l G z f p0.toInt64 (2048 : Int64) _ eq1) cd_X10_isWithin ls_X10_101 ⟨(Nat.le_of_ble_eq_true rfl), (Nat.le_of_ble_eq_true rfl)⟩ ⟨(Nat.le_of_ble_eq_true rfl), (Nat.le_of_ble_eq_true rfl)⟩ rfl rfl (Nat.le_of_ble_eq_true rfl) dX10_isRange_5 (fun H locs Y => ?_)
  refine W.eq (g2 := F0 m 8 ls [.int q1]) rfl ?_
  refine lv_if_eq (tgt := 31) hx hb dX10_isRange_8 (by decide) (fun c2 => ?_) (fun c2 => ?_)
  · replace h := Eq.trans (if_pos c2).symm h
    refine lv_iconst (v := 0) hx hb dX10_isRange_31 (by decide) ?_
    replace h := Option.some.inj h
    subst h
    exact q_retz (v := (0 : Int32)) X Y hr hlocks rfl (Nat.le_of_ble_eq_true rfl) (Nat.le_of_ble_eq_true rfl) dX10_isRange_32
  · replace h := Eq.trans (if_neg c2).symm h
    refine lv_iload_n hx hb dX10_isRange_11 rfl (lv_at hl 1 rfl) ?_
    refine lv_i2l hx hb dX10_isRange_12 rfl ?_
    refine lv_ldc2 (v := 2048) hx hb X.1.2.2.2.1 (X.1.2.2.2.2 _ xw_271) dX10_isRange_13 ?_
    replace h := xb h
    obtain ⟨q3, eq3, h⟩ := h
    refine q_callS X Y hl.1 (rest := []) (As := [.long p1.toInt64, .long (2048 : Int64)]) (c_X10_isWithin l G z f p1.toInt64 (2048 : Int64) _ eq3) cd_X10_isWithin ls_X10_101 ⟨(Nat.le_of_ble_eq_true rfl), (Nat.le_of_ble_eq_true rfl)⟩ ⟨(Nat.le_of_ble_eq_true rfl), (Nat.le_of_ble_eq_true rfl)⟩ rfl rfl (Nat.le_of_ble_eq_true rfl) dX10_isRange_16 (fun H locs Y => ?_)
    refine W.eq (g2 := F0 m 19 ls [.int q3]) rfl ?_
    refine lv_if_eq (tgt := 31) hx hb dX10_isRange_19 (by decide) (fun c4 => ?_) (fun c4 => ?_)
    · replace h := Eq.trans (if_pos c4).symm h
      refine lv_iconst (v := 0) hx hb dX10_isRange_31 (by decide) ?_
      replace h := Option.some.inj h
      subst h
      exact q_retz (v := (0 : Int32)) X Y hr hlocks rfl (Nat.le_of_ble_eq_true rfl) (Nat.le_of_ble_eq_true rfl) dX10_isRange_32
    · replace h := Eq.trans (if_neg c4).symm h
      refine lv_iload_n hx hb dX10_isRange_22 rfl (lv_at hl 0 rfl) ?_
      refine lv_iload_n hx hb dX10_isRange_23 rfl (lv_at hl 1 rfl) ?_
      refine lv_icmp_ge (tgt := 31) hx hb dX10_isRange_24 (by decide) (fun c5 => ?_) (fun c5 => ?_)
      · replace h := Eq.trans (if_pos c5).symm h
        refine lv_iconst (v := 0) hx hb dX10_isRange_31 (by decide) ?_
        replace h := Option.some.inj h
        subst h
        exact q_retz (v := (0 : Int32)) X Y hr hlocks rfl (Nat.le_of_ble_eq_true rfl) (Nat.le_of_ble_eq_true rfl) dX10_isRange_32
      · replace h := Eq.trans (if_neg c5).symm h
        refine lv_iconst (v := 1) hx hb dX10_isRange_27 (by decide) ?_
        refine lv_goto (tgt := 32) hx hb dX10_isRange_28 (by decide) ?_
        replace h := Option.some.inj h
        subst h
        exact q_retz (v := (1 : Int32)) X Y hr hlocks rfl (Nat.le_of_ble_eq_true rfl) (Nat.le_of_ble_eq_true rfl) dX10_isRange_32
/-! NeverBelow.box(IIII)I -/
abbrev rm_X10_box : Room := { frames := 2, cells := 0, slots := 0, locals := 44 }
def F_X10_box (f : xHp) (h0 : Nat) (p1 : Int32) (p2 : Int32) (p3 : Int32) (p4 : Int32) : Option (Int32 × xHp) := Option.bind (F_X10_isRange f p1 p2) fun q1 => if q1 = 0 then (some ((-2 : Int32), f)) else (Option.bind (F_X10_isRange f p3 p4) fun q3 => if q3 = 0 then (some ((-2 : Int32), f)) else (Option.bind (hI f h0 [(9, 7)]) fun v5 => if v5 < (30 : Int32) then (Option.bind (hI f h0 [(9, 7)]) fun v7 => Option.bind (hN f h0 [(9, 2)]) fun v8 => Option.bind (hIst f v8 ((4 : Int32) * v7) p1) fun f9 => Option.bind (hN f9 h0 [(9, 2)]) fun v10 => Option.bind (hIst f9 v10 (((4 : Int32) * v7) + (1 : Int32)) p2) fun f11 => Option.bind (hN f11 h0 [(9, 2)]) fun v12 => Option.bind (hIst f11 v12 (((4 : Int32) * v7) + (2 : Int32)) p3) fun f13 => Option.bind (hN f13 h0 [(9, 2)]) fun v14 => Option.bind (hIst f13 v14 (((4 : Int32) * v7) + (3 : Int32)) p4) fun f15 => Option.bind (hI f15 h0 [(9, 7)]) fun v16 => Option.bind (hPut f15 h0 [(9, 7)] (.int (v16 + (1 : Int32)))) fun f17 => some (v16, f17)) else (some ((-4 : Int32), f))))
set_option maxRecDepth 100000 in
set_option maxHeartbeats 4000000 in
theorem c_X10_box (l : Launch) (G : xG) (z : Nat) (f : xHp) (h0 : Nat) (p1 : Int32) (p2 : Int32) (p3 : Int32) (p4 : Int32) (rs : Int32 × xHp) (h : F_X10_box f h0 p1 p2 p3 p4 = some rs) : xM G l yX10_box cX10_box 6 (some .int) rm_X10_box [.ref h0, .int p1, .int p2, .int p3, .int p4] z f (some (.int rs.1)) z rs.2 := by
  refine xM_of (by decide) (Nat.le_of_ble_eq_true rfl) ?_
  intro p e s m below meth c ls X hr hlocks hin Y hl
  have hl : lv_has ls 6 [(0, .ref h0), (1, .int p1), (2, .int p2), (3, .int p3), (4, .int p4)] := hl
  have hx := X.1.1
  have hb := X.1.2.1
  unfold F_X10_box at h
  refine lv_iload_n hx hb dX10_box_0 rfl (lv_at hl 1 rfl) ?_
  refine lv_iload_n hx hb dX10_box_1 rfl (lv_at hl 2 rfl) ?_
  replace h := xb h
  obtain ⟨q1, eq1, h⟩ := h
  refine q_callS X Y hl.1 (rest := []) (As := [.int p1, .int p2]) (c_X10_isRange l G z f p1 p2 _ eq1) cd_X10_isRange ls_X10_130 ⟨(Nat.le_of_ble_eq_true rfl), (Nat.le_of_ble_eq_true rfl)⟩ ⟨(Nat.le_of_ble_eq_true rfl), (Nat.le_of_ble_eq_true rfl)⟩ rfl rfl (Nat.le_of_ble_eq_true rfl) dX10_box_2 (fun H locs Y => ?_)
  refine W.eq (g2 := F0 m 5 ls [.int q1]) rfl ?_
  refine lv_if_eq (tgt := 17) hx hb dX10_box_5 (by decide) (fun c2 => ?_) (fun c2 => ?_)
  · replace h := Eq.trans (if_pos c2).symm h
    refine lv_bipush (v := -2) hx hb dX10_box_17 (by decide) ?_
    replace h := Option.some.inj h
    subst h
    exact q_reti X Y hr hlocks (Nat.le_of_ble_eq_true rfl) (Nat.le_of_ble_eq_true rfl) dX10_box_19
  · replace h := Eq.trans (if_neg c2).symm h
    refine lv_iload_n hx hb dX10_box_8 rfl (lv_at hl 3 rfl) ?_
    refine lv_iload hx hb dX10_box_9 (lv_at hl 4 rfl) ?_
    replace h := xb h
    obtain ⟨q3, eq3, h⟩ := h
    refine q_callS X Y hl.1 (rest := []) (As := [.int p3, .int p4]) (c_X10_isRange l G z f p3 p4 _ eq3) cd_X10_isRange ls_X10_130 ⟨(Nat.le_of_ble_eq_true rfl), (Nat.le_of_ble_eq_true rfl)⟩ ⟨(Nat.le_of_ble_eq_true rfl), (Nat.le_of_ble_eq_true rfl)⟩ rfl rfl (Nat.le_of_ble_eq_true rfl) dX10_box_11 (fun H locs Y => ?_)
    refine W.eq (g2 := F0 m 14 ls [.int q3]) rfl ?_
    refine lv_if_ne (tgt := 20) hx hb dX10_box_14 (by decide) (fun c4 => ?_) (fun c4 => ?_)
    · replace h := Eq.trans (if_neg c4).symm h
      refine lv_aload_n hx hb dX10_box_20 rfl (lv_at hl 0 rfl) ?_
      replace h := xb h
      obtain ⟨v5, ev5, h⟩ := h
      refine q_getI X Y fl_X10_134 ev5 dX10_box_21 ?_
      refine lv_bipush (v := 30) hx hb dX10_box_24 (by decide) ?_
      refine lv_icmp_lt (tgt := 32) hx hb dX10_box_26 (by decide) (fun c6 => ?_) (fun c6 => ?_)
      · replace h := Eq.trans (if_pos c6).symm h
        refine lv_iconst (v := 4) hx hb dX10_box_32 (by decide) ?_
        refine lv_aload_n hx hb dX10_box_33 rfl (lv_at hl 0 rfl) ?_
        replace h := xb h
        obtain ⟨v7, ev7, h⟩ := h
        refine q_getI X Y fl_X10_134 ev7 dX10_box_34 ?_
        refine lv_imul hx hb dX10_box_37 ?_
        refine lv_istore (lv' := [(5, .int ((4 : Int32) * v7)), (0, .ref h0), (1, .int p1), (2, .int p2), (3, .int p3), (4, .int p4)]) hx hb dX10_box_38 hl (by decide) rfl (fun ls hl => ?_)
        refine lv_aload_n hx hb dX10_box_40 rfl (lv_at hl 1 rfl) ?_
        replace h := xb h
        obtain ⟨v8, ev8, h⟩ := h
        refine q_getN X Y fl_X10_23 ev8 dX10_box_41 ?_
        refine lv_iload hx hb dX10_box_44 (lv_at hl 0 rfl) ?_
        refine lv_iload_n hx hb dX10_box_46 rfl (lv_at hl 2 rfl) ?_
        replace h := xb h
        obtain ⟨f9, ef9, h⟩ := h
        refine q_iast X Y ef9 dX10_box_47 (fun H locs Y => ?_)
        refine lv_aload_n hx hb dX10_box_48 rfl (lv_at hl 1 rfl) ?_
        replace h := xb h
        obtain ⟨v10, ev10, h⟩ := h
        refine q_getN X Y fl_X10_23 ev10 dX10_box_49 ?_
        refine lv_iload hx hb dX10_box_52 (lv_at hl 0 rfl) ?_
        refine lv_iconst (v := 1) hx hb dX10_box_54 (by decide) ?_
        refine lv_iadd hx hb dX10_box_55 ?_
        refine lv_iload_n hx hb dX10_box_56 rfl (lv_at hl 3 rfl) ?_
        replace h := xb h
        obtain ⟨f11, ef11, h⟩ := h
        refine q_iast X Y ef11 dX10_box_57 (fun H locs Y => ?_)
        refine lv_aload_n hx hb dX10_box_58 rfl (lv_at hl 1 rfl) ?_
        replace h := xb h
        obtain ⟨v12, ev12, h⟩ := h
        refine q_getN X Y fl_X10_23 ev12 dX10_box_59 ?_
        refine lv_iload hx hb dX10_box_62 (lv_at hl 0 rfl) ?_
        refine lv_iconst (v := 2) hx hb dX10_box_64 (by decide) ?_
        refine lv_iadd hx hb dX10_box_65 ?_
        refine lv_iload_n hx hb dX10_box_66 rfl (lv_at hl 4 rfl) ?_
        replace h := xb h
        obtain ⟨f13, ef13, h⟩ := h
        refine q_iast X Y ef13 dX10_box_67 (fun H locs Y => ?_)
        refine lv_aload_n hx hb dX10_box_68 rfl (lv_at hl 1 rfl) ?_
        replace h := xb h
        obtain ⟨v14, ev14, h⟩ := h
        refine q_getN X Y fl_X10_23 ev14 dX10_box_69 ?_
        refine lv_iload hx hb dX10_box_72 (lv_at hl 0 rfl) ?_
        refine lv_iconst (v := 3) hx hb dX10_box_74 (by decide) ?_
        refine lv_iadd hx hb dX10_box_75 ?_
        refine lv_iload hx hb dX10_box_76 (lv_at hl 5 rfl) ?_
        replace h := xb h
        obtain ⟨f15, ef15, h⟩ := h
        refine q_iast X Y ef15 dX10_box_78 (fun H locs Y => ?_)
        refine lv_aload_n hx hb dX10_box_79 rfl (lv_at hl 1 rfl) ?_
        refine lv_dup hx hb dX10_box_80 rfl ?_
        replace h := xb h
        obtain ⟨v16, ev16, h⟩ := h
        refine q_getI X Y fl_X10_134 ev16 dX10_box_81 ?_
        refine lv_dup_x1 hx hb dX10_box_84 rfl rfl ?_
        refine lv_iconst (v := 1) hx hb dX10_box_85 (by decide) ?_
        refine lv_iadd hx hb dX10_box_86 ?_
        replace h := xb h
        obtain ⟨f17, ef17, h⟩ := h
        refine q_put X Y fp_X10_134 rfl rfl ef17 dX10_box_87 (fun H locs Y => ?_)
        replace h := Option.some.inj h
        subst h
        exact q_reti X Y hr hlocks (Nat.le_of_ble_eq_true rfl) (Nat.le_of_ble_eq_true rfl) dX10_box_90
      · replace h := Eq.trans (if_neg c6).symm h
        refine lv_bipush (v := -4) hx hb dX10_box_29 (by decide) ?_
        replace h := Option.some.inj h
        subst h
        exact q_reti X Y hr hlocks (Nat.le_of_ble_eq_true rfl) (Nat.le_of_ble_eq_true rfl) dX10_box_31
    · replace h := Eq.trans (if_pos c4).symm h
      refine lv_bipush (v := -2) hx hb dX10_box_17 (by decide) ?_
      replace h := Option.some.inj h
      subst h
      exact q_reti X Y hr hlocks (Nat.le_of_ble_eq_true rfl) (Nat.le_of_ble_eq_true rfl) dX10_box_19
/-! NeverBelow.isBox(I)Z -/
abbrev rm_X10_isBox : Room := { frames := 0, cells := 0, slots := 0, locals := 0 }
def F_X10_isBox (f : xHp) (h0 : Nat) (p1 : Int32) : Option (Int32) := if p1 < 0 then (some (0 : Int32)) else (Option.bind (hI f h0 [(9, 7)]) fun v2 => if v2 ≤ p1 then (some (0 : Int32)) else (some (1 : Int32)))
set_option maxRecDepth 100000 in
set_option maxHeartbeats 4000000 in
theorem c_X10_isBox (l : Launch) (G : xG) (z : Nat) (f : xHp) (h0 : Nat) (p1 : Int32) (rs : Int32) (h : F_X10_isBox f h0 p1 = some rs) : xM G l yX10_isBox cX10_isBox 2 (some .boolean) rm_X10_isBox [.ref h0, .int p1] z f (some (.int rs)) z f := by
  refine xM_of (by decide) (Nat.le_of_ble_eq_true rfl) ?_
  intro p e s m below meth c ls X hr hlocks hin Y hl
  have hl : lv_has ls 2 [(0, .ref h0), (1, .int p1)] := hl
  have hx := X.1.1
  have hb := X.1.2.1
  unfold F_X10_isBox at h
  refine lv_iload_n hx hb dX10_isBox_0 rfl (lv_at hl 1 rfl) ?_
  refine lv_if_lt (tgt := 16) hx hb dX10_isBox_1 (by decide) (fun c1 => ?_) (fun c1 => ?_)
  · replace h := Eq.trans (if_pos c1).symm h
    refine lv_iconst (v := 0) hx hb dX10_isBox_16 (by decide) ?_
    replace h := Option.some.inj h
    subst h
    exact q_retz (v := (0 : Int32)) X Y hr hlocks rfl (Nat.le_of_ble_eq_true rfl) (Nat.le_of_ble_eq_true rfl) dX10_isBox_17
  · replace h := Eq.trans (if_neg c1).symm h
    refine lv_iload_n hx hb dX10_isBox_4 rfl (lv_at hl 1 rfl) ?_
    refine lv_aload_n hx hb dX10_isBox_5 rfl (lv_at hl 0 rfl) ?_
    replace h := xb h
    obtain ⟨v2, ev2, h⟩ := h
    refine q_getI X Y fl_X10_134 ev2 dX10_isBox_6 ?_
    refine lv_icmp_ge (tgt := 16) hx hb dX10_isBox_9 (by decide) (fun c3 => ?_) (fun c3 => ?_)
    · replace h := Eq.trans (if_pos c3).symm h
      refine lv_iconst (v := 0) hx hb dX10_isBox_16 (by decide) ?_
      replace h := Option.some.inj h
      subst h
      exact q_retz (v := (0 : Int32)) X Y hr hlocks rfl (Nat.le_of_ble_eq_true rfl) (Nat.le_of_ble_eq_true rfl) dX10_isBox_17
    · replace h := Eq.trans (if_neg c3).symm h
      refine lv_iconst (v := 1) hx hb dX10_isBox_12 (by decide) ?_
      refine lv_goto (tgt := 17) hx hb dX10_isBox_13 (by decide) ?_
      replace h := Option.some.inj h
      subst h
      exact q_retz (v := (1 : Int32)) X Y hr hlocks rfl (Nat.le_of_ble_eq_true rfl) (Nat.le_of_ble_eq_true rfl) dX10_isBox_17
/-! NeverBelow.side(II)I -/
abbrev rm_X10_side : Room := { frames := 1, cells := 0, slots := 0, locals := 21 }
def F_X10_side_19 (f : xHp)    : Option (Int32) := some (-2 : Int32)
def F_X10_side (f : xHp) (h0 : Nat) (p1 : Int32) (p2 : Int32) : Option (Int32) := if hKd f h0 = some 9 then (Option.bind (F_X10_isBox f h0 p1) fun q2 => if q2 = 0 then (some (-1 : Int32)) else (if p2 < 0 then (F_X10_side_19 f) else (if p2 < (4 : Int32) then (Option.bind (hN f h0 [(9, 2)]) fun v6 => Option.bind (hIld f v6 (((4 : Int32) * p1) + p2)) fun v7 => some v7) else (F_X10_side_19 f)))) else none
set_option maxRecDepth 100000 in
set_option maxHeartbeats 4000000 in
theorem w_X10_side_19 {p : Program} {l : Launch} {e : Env} {s : State} {m : MethodId} {args : Array Value} {below : List Frame} {meth : Method} {c : Code} {G : xG} {z : Nat} {f : xHp} (X : xC G p m c s args RX10 cX10_side 3) (hr : meth.sig.returnType = (some .int)) (hlocks : meth.locks = false) (hin : meth.name = yX10_side.name) (rs : Int32)   (H : Heap) (locs : List Loc) (ls : Array Slot) (h : F_X10_side_19 f   = some rs) (Y : xY G z f s H locs) (hl : lv_has ls 3 []) : W p l e rm_X10_side s m args below meth c H locs 0 0 (MQ below (xQ G (some (.int rs)) z f) args s rm_X10_side.cells rm_X10_side.slots (xA G)) (F0 m 19 ls []) := by
  have hx := X.1.1
  have hb := X.1.2.1
  unfold F_X10_side_19 at h
  refine lv_bipush (v := -2) hx hb dX10_side_19 (by decide) ?_
  refine lv_goto (tgt := 34) hx hb dX10_side_21 (by decide) ?_
  replace h := Option.some.inj h
  subst h
  exact q_reti X Y hr hlocks (Nat.le_of_ble_eq_true rfl) (Nat.le_of_ble_eq_true rfl) dX10_side_34
set_option maxRecDepth 100000 in
set_option maxHeartbeats 4000000 in
theorem c_X10_side (l : Launch) (G : xG) (z : Nat) (f : xHp) (h0 : Nat) (p1 : Int32) (p2 : Int32) (rs : Int32) (h : F_X10_side f h0 p1 p2 = some rs) : xM G l yX10_side cX10_side 3 (some .int) rm_X10_side [.ref h0, .int p1, .int p2] z f (some (.int rs)) z f := by
  refine xM_of (by decide) (Nat.le_of_ble_eq_true rfl) ?_
  intro p e s m below meth c ls X hr hlocks hin Y hl
  have hl : lv_has ls 3 [(0, .ref h0), (1, .int p1), (2, .int p2)] := hl
  have hx := X.1.1
  have hb := X.1.2.1
  unfold F_X10_side at h
  refine lv_aload_n hx hb dX10_side_0 rfl (lv_at hl 0 rfl) ?_
  refine lv_iload_n hx hb dX10_side_1 rfl (lv_at hl 1 rfl) ?_
  by_cases c1 : hKd f h0 = some 9
  · replace h := Eq.trans (if_pos c1).symm h
    replace h := xb h
    obtain ⟨q2, eq2, h⟩ := h
    refine q_callV X Y hl.1 (rest := []) (As := [.int p1]) (c_X10_isBox l G z f h0 p1 _ eq2) cd_X10_isBox lv_X10_137_9 c1 ⟨(Nat.le_of_ble_eq_true rfl), (Nat.le_of_ble_eq_true rfl)⟩ ⟨(Nat.le_of_ble_eq_true rfl), (Nat.le_of_ble_eq_true rfl)⟩ rfl rfl (Nat.le_of_ble_eq_true rfl) dX10_side_2 (fun H locs Y => ?_)
    refine W.eq (g2 := F0 m 5 ls [.int q2]) rfl ?_
    refine lv_if_ne (tgt := 10) hx hb dX10_side_5 (by decide) (fun c3 => ?_) (fun c3 => ?_)
    · replace h := Eq.trans (if_neg c3).symm h
      refine lv_iload_n hx hb dX10_side_10 rfl (lv_at hl 2 rfl) ?_
      refine lv_if_lt (tgt := 19) hx hb dX10_side_11 (by decide) (fun c4 => ?_) (fun c4 => ?_)
      · replace h := Eq.trans (if_pos c4).symm h
        refine W.widen (k := 0) (n := 0) (Nat.le_of_ble_eq_true rfl) (Nat.le_of_ble_eq_true rfl) ?_
        exact w_X10_side_19 X hr hlocks hin rs    _ _ _ h Y (lv_sub hl [] rfl)
      · replace h := Eq.trans (if_neg c4).symm h
        refine lv_iload_n hx hb dX10_side_14 rfl (lv_at hl 2 rfl) ?_
        refine lv_iconst (v := 4) hx hb dX10_side_15 (by decide) ?_
        refine lv_icmp_lt (tgt := 24) hx hb dX10_side_16 (by decide) (fun c5 => ?_) (fun c5 => ?_)
        · replace h := Eq.trans (if_pos c5).symm h
          refine lv_aload_n hx hb dX10_side_24 rfl (lv_at hl 0 rfl) ?_
          replace h := xb h
          obtain ⟨v6, ev6, h⟩ := h
          refine q_getN X Y fl_X10_23 ev6 dX10_side_25 ?_
          refine lv_iconst (v := 4) hx hb dX10_side_28 (by decide) ?_
          refine lv_iload_n hx hb dX10_side_29 rfl (lv_at hl 1 rfl) ?_
          refine lv_imul hx hb dX10_side_30 ?_
          refine lv_iload_n hx hb dX10_side_31 rfl (lv_at hl 2 rfl) ?_
          refine lv_iadd hx hb dX10_side_32 ?_
          replace h := xb h
          obtain ⟨v7, ev7, h⟩ := h
          refine q_iald X Y ev7 dX10_side_33 ?_
          replace h := Option.some.inj h
          subst h
          exact q_reti X Y hr hlocks (Nat.le_of_ble_eq_true rfl) (Nat.le_of_ble_eq_true rfl) dX10_side_34
        · replace h := Eq.trans (if_neg c5).symm h
          refine W.widen (k := 0) (n := 0) (Nat.le_of_ble_eq_true rfl) (Nat.le_of_ble_eq_true rfl) ?_
          exact w_X10_side_19 X hr hlocks hin rs    _ _ _ h Y (lv_sub hl [] rfl)
    · replace h := Eq.trans (if_pos c3).symm h
      refine lv_iconst (v := -1) hx hb dX10_side_8 (by decide) ?_
      replace h := Option.some.inj h
      subst h
      exact q_reti X Y hr hlocks (Nat.le_of_ble_eq_true rfl) (Nat.le_of_ble_eq_true rfl) dX10_side_9
  replace h := Eq.trans (if_neg c1).symm h
  cases h
/-! NeverBelow$Polynomial.cornerOn([III)J -/
abbrev rm_X4_cornerOn : Room := { frames := 1, cells := 0, slots := 0, locals := 38 }
def F_X4_cornerOn_77 (f : xHp)   (a0 : Nat) (a6 : Int32) (a7 : Int32) (a8 : Int32) (s0 : Int32) (s1 : Nat) : Option (Int64) := Option.bind (hIld f s1 s0) fun v1 => if hKd f a0 = some 4 then (Option.bind (F_X4_between f a0 a6.toInt64 a7.toInt64 a8.toInt64 v1.toInt64) fun q3 => some q3) else none
def F_X4_cornerOn_59 (f : xHp)   (a0 : Nat) (a1 : Nat) (a2 : Int32) (a5 : Int32) (a6 : Int32) (a7 : Int32) (s0 : Int32) (s1 : Nat) : Option (Int64) := Option.bind (hIld f s1 s0) fun v1 => if a5 = 0 then (F_X4_cornerOn_77 f a0 a6 a7 v1 (a2 + (2 : Int32)) a1) else (F_X4_cornerOn_77 f a0 a6 a7 v1 (a2 + (3 : Int32)) a1)
def F_X4_cornerOn_40 (f : xHp)   (a0 : Nat) (a1 : Nat) (a2 : Int32) (a5 : Int32) (a6 : Int32) (s0 : Int32) (s1 : Nat) : Option (Int64) := Option.bind (hIld f s1 s0) fun v1 => if a5 = (2 : Int32) then (F_X4_cornerOn_59 f a0 a1 a2 a5 a6 v1 (a2 + (3 : Int32)) a1) else (F_X4_cornerOn_59 f a0 a1 a2 a5 a6 v1 (a2 + (2 : Int32)) a1)
def F_X4_cornerOn_24 (f : xHp)   (a0 : Nat) (a1 : Nat) (a2 : Int32) (a4 : Int32) (a5 : Int32) (s0 : Int32) (s1 : Nat) : Option (Int64) := Option.bind (hIld f s1 s0) fun v1 => if a4 = 0 then (F_X4_cornerOn_40 f a0 a1 a2 a5 v1 a2 a1) else (F_X4_cornerOn_40 f a0 a1 a2 a5 v1 (a2 + (1 : Int32)) a1)
def F_X4_cornerOn (f : xHp) (h0 : Nat) (p1 : Nat) (p2 : Int32) (p3 : Int32) : Option (Int64) := if (p3 / (3 : Int32)) = (2 : Int32) then (F_X4_cornerOn_24 f h0 p1 p2 (p3 / (3 : Int32)) (p3 - p3 / (3 : Int32) * (3 : Int32)) (p2 + (1 : Int32)) p1) else (F_X4_cornerOn_24 f h0 p1 p2 (p3 / (3 : Int32)) (p3 - p3 / (3 : Int32) * (3 : Int32)) p2 p1)
set_option maxRecDepth 100000 in
set_option maxHeartbeats 4000000 in
theorem w_X4_cornerOn_77 {p : Program} {l : Launch} {e : Env} {s : State} {m : MethodId} {args : Array Value} {below : List Frame} {meth : Method} {c : Code} {G : xG} {z : Nat} {f : xHp} (X : xC G p m c s args RX4 cX4_cornerOn 10) (hr : meth.sig.returnType = (some .long)) (hlocks : meth.locks = false) (hin : meth.name = yX4_cornerOn.name) (rs : Int64)  (a0 : Nat) (a6 : Int32) (a7 : Int32) (a8 : Int32) (s0 : Int32) (s1 : Nat) (H : Heap) (locs : List Loc) (ls : Array Slot) (h : F_X4_cornerOn_77 f  a0 a6 a7 a8 s0 s1 = some rs) (Y : xY G z f s H locs) (hl : lv_has ls 10 [(0, .ref a0), (6, .int a6), (7, .int a7), (8, .int a8)]) : W p l e rm_X4_cornerOn s m args below meth c H locs 0 0 (MQ below (xQ G (some (.long rs)) z f) args s rm_X4_cornerOn.cells rm_X4_cornerOn.slots (xA G)) (F0 m 77 ls [.int s0, .ref s1]) := by
  have hx := X.1.1
  have hb := X.1.2.1
  unfold F_X4_cornerOn_77 at h
  replace h := xb h
  obtain ⟨v1, ev1, h⟩ := h
  refine q_iald X Y ev1 dX4_cornerOn_77 ?_
  refine lv_istore (lv' := [(9, .int v1), (0, .ref a0), (6, .int a6), (7, .int a7), (8, .int a8)]) hx hb dX4_cornerOn_78 hl (by decide) rfl (fun ls hl => ?_)
  refine lv_aload_n hx hb dX4_cornerOn_80 rfl (lv_at hl 1 rfl) ?_
  refine lv_iload hx hb dX4_cornerOn_81 (lv_at hl 2 rfl) ?_
  refine lv_i2l hx hb dX4_cornerOn_83 rfl ?_
  refine lv_iload hx hb dX4_cornerOn_84 (lv_at hl 3 rfl) ?_
  refine lv_i2l hx hb dX4_cornerOn_86 rfl ?_
  refine lv_iload hx hb dX4_cornerOn_87 (lv_at hl 4 rfl) ?_
  refine lv_i2l hx hb dX4_cornerOn_89 rfl ?_
  refine lv_iload hx hb dX4_cornerOn_90 (lv_at hl 0 rfl) ?_
  refine lv_i2l hx hb dX4_cornerOn_92 rfl ?_
  by_cases c2 : hKd f a0 = some 4
  · replace h := Eq.trans (if_pos c2).symm h
    replace h := xb h
    obtain ⟨q3, eq3, h⟩ := h
    refine q_callV X Y hl.1 (rest := []) (As := [.long a6.toInt64, .long a7.toInt64, .long a8.toInt64, .long v1.toInt64]) (c_X4_between l G z f a0 a6.toInt64 a7.toInt64 a8.toInt64 v1.toInt64 _ eq3) cd_X4_between lv_X4_21_4 c2 ⟨(Nat.le_of_ble_eq_true rfl), (Nat.le_of_ble_eq_true rfl)⟩ ⟨(Nat.le_of_ble_eq_true rfl), (Nat.le_of_ble_eq_true rfl)⟩ rfl rfl (Nat.le_of_ble_eq_true rfl) dX4_cornerOn_93 (fun H locs Y => ?_)
    refine W.eq (g2 := F0 m 96 ls [.long q3]) rfl ?_
    replace h := Option.some.inj h
    subst h
    exact q_retl X Y hr hlocks (Nat.le_of_ble_eq_true rfl) (Nat.le_of_ble_eq_true rfl) dX4_cornerOn_96
  replace h := Eq.trans (if_neg c2).symm h
  cases h
set_option maxRecDepth 100000 in
set_option maxHeartbeats 4000000 in
theorem w_X4_cornerOn_59 {p : Program} {l : Launch} {e : Env} {s : State} {m : MethodId} {args : Array Value} {below : List Frame} {meth : Method} {c : Code} {G : xG} {z : Nat} {f : xHp} (X : xC G p m c s args RX4 cX4_cornerOn 10) (hr : meth.sig.returnType = (some .long)) (hlocks : meth.locks = false) (hin : meth.name = yX4_cornerOn.name) (rs : Int64)  (a0 : Nat) (a1 : Nat) (a2 : Int32) (a5 : Int32) (a6 : Int32) (a7 : Int32) (s0 : Int32) (s1 : Nat) (H : Heap) (locs : List Loc) (ls : Array Slot) (h : F_X4_cornerOn_59 f  a0 a1 a2 a5 a6 a7 s0 s1 = some rs) (Y : xY G z f s H locs) (hl : lv_has ls 10 [(0, .ref a0), (1, .ref a1), (2, .int a2), (5, .int a5), (6, .int a6), (7, .int a7)]) : W p l e rm_X4_cornerOn s m args below meth c H locs 0 0 (MQ below (xQ G (some (.long rs)) z f) args s rm_X4_cornerOn.cells rm_X4_cornerOn.slots (xA G)) (F0 m 59 ls [.int s0, .ref s1]) := by
  have hx := X.1.1
  have hb := X.1.2.1
  unfold F_X4_cornerOn_59 at h
  replace h := xb h
  obtain ⟨v1, ev1, h⟩ := h
  refine q_iald X Y ev1 dX4_cornerOn_59 ?_
  refine lv_istore (lv' := [(8, .int v1), (0, .ref a0), (1, .ref a1), (2, .int a2), (5, .int a5), (6, .int a6), (7, .int a7)]) hx hb dX4_cornerOn_60 hl (by decide) rfl (fun ls hl => ?_)
  refine lv_aload_n hx hb dX4_cornerOn_62 rfl (lv_at hl 2 rfl) ?_
  refine lv_iload hx hb dX4_cornerOn_63 (lv_at hl 4 rfl) ?_
  refine lv_if_ne (tgt := 74) hx hb dX4_cornerOn_65 (by decide) (fun c2 => ?_) (fun c2 => ?_)
  · replace h := Eq.trans (if_neg c2).symm h
    refine lv_iload_n hx hb dX4_cornerOn_74 rfl (lv_at hl 3 rfl) ?_
    refine lv_iconst (v := 3) hx hb dX4_cornerOn_75 (by decide) ?_
    refine lv_iadd hx hb dX4_cornerOn_76 ?_
    refine W.widen (k := 0) (n := 0) (Nat.le_of_ble_eq_true rfl) (Nat.le_of_ble_eq_true rfl) ?_
    exact w_X4_cornerOn_77 X hr hlocks hin rs   a0 a6 a7 v1 (a2 + (3 : Int32)) a1 _ _ _ h Y (lv_sub hl [1, 5, 6, 0] rfl)
  · replace h := Eq.trans (if_pos c2).symm h
    refine lv_iload_n hx hb dX4_cornerOn_68 rfl (lv_at hl 3 rfl) ?_
    refine lv_iconst (v := 2) hx hb dX4_cornerOn_69 (by decide) ?_
    refine lv_iadd hx hb dX4_cornerOn_70 ?_
    refine lv_goto (tgt := 77) hx hb dX4_cornerOn_71 (by decide) ?_
    refine W.widen (k := 0) (n := 0) (Nat.le_of_ble_eq_true rfl) (Nat.le_of_ble_eq_true rfl) ?_
    exact w_X4_cornerOn_77 X hr hlocks hin rs   a0 a6 a7 v1 (a2 + (2 : Int32)) a1 _ _ _ h Y (lv_sub hl [1, 5, 6, 0] rfl)
set_option maxRecDepth 100000 in
set_option maxHeartbeats 4000000 in
theorem w_X4_cornerOn_40 {p : Program} {l : Launch} {e : Env} {s : State} {m : MethodId} {args : Array Value} {below : List Frame} {meth : Method} {c : Code} {G : xG} {z : Nat} {f : xHp} (X : xC G p m c s args RX4 cX4_cornerOn 10) (hr : meth.sig.returnType = (some .long)) (hlocks : meth.locks = false) (hin : meth.name = yX4_cornerOn.name) (rs : Int64)  (a0 : Nat) (a1 : Nat) (a2 : Int32) (a5 : Int32) (a6 : Int32) (s0 : Int32) (s1 : Nat) (H : Heap) (locs : List Loc) (ls : Array Slot) (h : F_X4_cornerOn_40 f  a0 a1 a2 a5 a6 s0 s1 = some rs) (Y : xY G z f s H locs) (hl : lv_has ls 10 [(0, .ref a0), (1, .ref a1), (2, .int a2), (5, .int a5), (6, .int a6)]) : W p l e rm_X4_cornerOn s m args below meth c H locs 0 0 (MQ below (xQ G (some (.long rs)) z f) args s rm_X4_cornerOn.cells rm_X4_cornerOn.slots (xA G)) (F0 m 40 ls [.int s0, .ref s1]) := by
  have hx := X.1.1
  have hb := X.1.2.1
  unfold F_X4_cornerOn_40 at h
  replace h := xb h
  obtain ⟨v1, ev1, h⟩ := h
  refine q_iald X Y ev1 dX4_cornerOn_40 ?_
  refine lv_istore (lv' := [(7, .int v1), (0, .ref a0), (1, .ref a1), (2, .int a2), (5, .int a5), (6, .int a6)]) hx hb dX4_cornerOn_41 hl (by decide) rfl (fun ls hl => ?_)
  refine lv_aload_n hx hb dX4_cornerOn_43 rfl (lv_at hl 2 rfl) ?_
  refine lv_iload hx hb dX4_cornerOn_44 (lv_at hl 4 rfl) ?_
  refine lv_iconst (v := 2) hx hb dX4_cornerOn_46 (by decide) ?_
  refine lv_icmp_ne (tgt := 56) hx hb dX4_cornerOn_47 (by decide) (fun c2 => ?_) (fun c2 => ?_)
  · replace h := Eq.trans (if_neg c2).symm h
    refine lv_iload_n hx hb dX4_cornerOn_56 rfl (lv_at hl 3 rfl) ?_
    refine lv_iconst (v := 2) hx hb dX4_cornerOn_57 (by decide) ?_
    refine lv_iadd hx hb dX4_cornerOn_58 ?_
    refine W.widen (k := 0) (n := 0) (Nat.le_of_ble_eq_true rfl) (Nat.le_of_ble_eq_true rfl) ?_
    exact w_X4_cornerOn_59 X hr hlocks hin rs   a0 a1 a2 a5 a6 v1 (a2 + (2 : Int32)) a1 _ _ _ h Y (lv_sub hl [1, 2, 3, 4, 5, 0] rfl)
  · replace h := Eq.trans (if_pos c2).symm h
    refine lv_iload_n hx hb dX4_cornerOn_50 rfl (lv_at hl 3 rfl) ?_
    refine lv_iconst (v := 3) hx hb dX4_cornerOn_51 (by decide) ?_
    refine lv_iadd hx hb dX4_cornerOn_52 ?_
    refine lv_goto (tgt := 59) hx hb dX4_cornerOn_53 (by decide) ?_
    refine W.widen (k := 0) (n := 0) (Nat.le_of_ble_eq_true rfl) (Nat.le_of_ble_eq_true rfl) ?_
    exact w_X4_cornerOn_59 X hr hlocks hin rs   a0 a1 a2 a5 a6 v1 (a2 + (3 : Int32)) a1 _ _ _ h Y (lv_sub hl [1, 2, 3, 4, 5, 0] rfl)
set_option maxRecDepth 100000 in
set_option maxHeartbeats 4000000 in
theorem w_X4_cornerOn_24 {p : Program} {l : Launch} {e : Env} {s : State} {m : MethodId} {args : Array Value} {below : List Frame} {meth : Method} {c : Code} {G : xG} {z : Nat} {f : xHp} (X : xC G p m c s args RX4 cX4_cornerOn 10) (hr : meth.sig.returnType = (some .long)) (hlocks : meth.locks = false) (hin : meth.name = yX4_cornerOn.name) (rs : Int64)  (a0 : Nat) (a1 : Nat) (a2 : Int32) (a4 : Int32) (a5 : Int32) (s0 : Int32) (s1 : Nat) (H : Heap) (locs : List Loc) (ls : Array Slot) (h : F_X4_cornerOn_24 f  a0 a1 a2 a4 a5 s0 s1 = some rs) (Y : xY G z f s H locs) (hl : lv_has ls 10 [(0, .ref a0), (1, .ref a1), (2, .int a2), (4, .int a4), (5, .int a5)]) : W p l e rm_X4_cornerOn s m args below meth c H locs 0 0 (MQ below (xQ G (some (.long rs)) z f) args s rm_X4_cornerOn.cells rm_X4_cornerOn.slots (xA G)) (F0 m 24 ls [.int s0, .ref s1]) := by
  have hx := X.1.1
  have hb := X.1.2.1
  unfold F_X4_cornerOn_24 at h
  replace h := xb h
  obtain ⟨v1, ev1, h⟩ := h
  refine q_iald X Y ev1 dX4_cornerOn_24 ?_
  refine lv_istore (lv' := [(6, .int v1), (0, .ref a0), (1, .ref a1), (2, .int a2), (4, .int a4), (5, .int a5)]) hx hb dX4_cornerOn_25 hl (by decide) rfl (fun ls hl => ?_)
  refine lv_aload_n hx hb dX4_cornerOn_27 rfl (lv_at hl 2 rfl) ?_
  refine lv_iload hx hb dX4_cornerOn_28 (lv_at hl 4 rfl) ?_
  refine lv_if_ne (tgt := 37) hx hb dX4_cornerOn_30 (by decide) (fun c2 => ?_) (fun c2 => ?_)
  · replace h := Eq.trans (if_neg c2).symm h
    refine lv_iload_n hx hb dX4_cornerOn_37 rfl (lv_at hl 3 rfl) ?_
    refine lv_iconst (v := 1) hx hb dX4_cornerOn_38 (by decide) ?_
    refine lv_iadd hx hb dX4_cornerOn_39 ?_
    refine W.widen (k := 0) (n := 0) (Nat.le_of_ble_eq_true rfl) (Nat.le_of_ble_eq_true rfl) ?_
    exact w_X4_cornerOn_40 X hr hlocks hin rs   a0 a1 a2 a5 v1 (a2 + (1 : Int32)) a1 _ _ _ h Y (lv_sub hl [1, 2, 3, 5, 0] rfl)
  · replace h := Eq.trans (if_pos c2).symm h
    refine lv_iload_n hx hb dX4_cornerOn_33 rfl (lv_at hl 3 rfl) ?_
    refine lv_goto (tgt := 40) hx hb dX4_cornerOn_34 (by decide) ?_
    refine W.widen (k := 0) (n := 0) (Nat.le_of_ble_eq_true rfl) (Nat.le_of_ble_eq_true rfl) ?_
    exact w_X4_cornerOn_40 X hr hlocks hin rs   a0 a1 a2 a5 v1 a2 a1 _ _ _ h Y (lv_sub hl [1, 2, 3, 5, 0] rfl)
set_option maxRecDepth 100000 in
set_option maxHeartbeats 4000000 in
theorem c_X4_cornerOn (l : Launch) (G : xG) (z : Nat) (f : xHp) (h0 : Nat) (p1 : Nat) (p2 : Int32) (p3 : Int32) (rs : Int64) (h : F_X4_cornerOn f h0 p1 p2 p3 = some rs) : xM G l yX4_cornerOn cX4_cornerOn 10 (some .long) rm_X4_cornerOn [.ref h0, .ref p1, .int p2, .int p3] z f (some (.long rs)) z f := by
  refine xM_of (by decide) (Nat.le_of_ble_eq_true rfl) ?_
  intro p e s m below meth c ls X hr hlocks hin Y hl
  have hl : lv_has ls 10 [(0, .ref h0), (1, .ref p1), (2, .int p2), (3, .int p3)] := hl
  have hx := X.1.1
  have hb := X.1.2.1
  unfold F_X4_cornerOn at h
  refine lv_iload_n hx hb dX4_cornerOn_0 rfl (lv_at hl 3 rfl) ?_
  refine lv_iconst (v := 3) hx hb dX4_cornerOn_1 (by decide) ?_
  refine lv_idiv hx hb dX4_cornerOn_2 (by decide) ?_
  refine lv_istore (lv' := [(4, .int (p3 / (3 : Int32))), (0, .ref h0), (1, .ref p1), (2, .int p2), (3, .int p3)]) hx hb dX4_cornerOn_3 hl (by decide) rfl (fun ls hl => ?_)
  refine lv_iload_n hx hb dX4_cornerOn_5 rfl (lv_at hl 4 rfl) ?_
  refine lv_iconst (v := 3) hx hb dX4_cornerOn_6 (by decide) ?_
  refine lv_irem hx hb dX4_cornerOn_7 (by decide) ?_
  refine lv_istore (lv' := [(5, .int (p3 - p3 / (3 : Int32) * (3 : Int32))), (4, .int (p3 / (3 : Int32))), (0, .ref h0), (1, .ref p1), (2, .int p2), (3, .int p3)]) hx hb dX4_cornerOn_8 hl (by decide) rfl (fun ls hl => ?_)
  refine lv_aload_n hx hb dX4_cornerOn_10 rfl (lv_at hl 3 rfl) ?_
  refine lv_iload hx hb dX4_cornerOn_11 (lv_at hl 1 rfl) ?_
  refine lv_iconst (v := 2) hx hb dX4_cornerOn_13 (by decide) ?_
  refine lv_icmp_ne (tgt := 23) hx hb dX4_cornerOn_14 (by decide) (fun c1 => ?_) (fun c1 => ?_)
  · replace h := Eq.trans (if_neg c1).symm h
    refine lv_iload_n hx hb dX4_cornerOn_23 rfl (lv_at hl 4 rfl) ?_
    refine W.widen (k := 0) (n := 0) (Nat.le_of_ble_eq_true rfl) (Nat.le_of_ble_eq_true rfl) ?_
    exact w_X4_cornerOn_24 X hr hlocks hin rs   h0 p1 p2 (p3 / (3 : Int32)) (p3 - p3 / (3 : Int32) * (3 : Int32)) p2 p1 _ _ _ h Y (lv_sub hl [2, 3, 4, 1, 0] rfl)
  · replace h := Eq.trans (if_pos c1).symm h
    refine lv_iload_n hx hb dX4_cornerOn_17 rfl (lv_at hl 4 rfl) ?_
    refine lv_iconst (v := 1) hx hb dX4_cornerOn_18 (by decide) ?_
    refine lv_iadd hx hb dX4_cornerOn_19 ?_
    refine lv_goto (tgt := 24) hx hb dX4_cornerOn_20 (by decide) ?_
    refine W.widen (k := 0) (n := 0) (Nat.le_of_ble_eq_true rfl) (Nat.le_of_ble_eq_true rfl) ?_
    exact w_X4_cornerOn_24 X hr hlocks hin rs   h0 p1 p2 (p3 / (3 : Int32)) (p3 - p3 / (3 : Int32) * (3 : Int32)) (p2 + (1 : Int32)) p1 _ _ _ h Y (lv_sub hl [2, 3, 4, 1, 0] rfl)

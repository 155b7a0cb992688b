/-! NeverBelowModel.judged(I)I -/
abbrev rm_X11_judged : Room := { frames := 3, cells := 0, slots := 0, locals := 76 }
def F_X11_judged_186  (f : xHp) (a3 : Int32) (s0 : Int32) : Option (Int32 × xHp) := if a3 = 0 then (some ((0 : Int32), f)) else (if s0 = 0 then (some ((0 : Int32), f)) else (some ((2 : Int32), f)))
def F_X11_judged_154  (f : xHp) (a0 : Nat) (a1 : Int32) (s0 : Int32) : Option (Int32 × xHp) := Option.bind (hN f a0 [(10, 13)]) fun v1 => Option.bind (hIld f v1 (((4 : Int32) * a1) + (3 : Int32))) fun v2 => Option.bind (hN f a0 [(10, 13)]) fun v3 => Option.bind (hIld f v3 (((4 : Int32) * a1) + (2 : Int32))) fun v4 => if ((v2 - v4) - (v2 - v4) / (2 : Int32) * (2 : Int32)) = 0 then (F_X11_judged_186 f s0 (0 : Int32)) else (F_X11_judged_186 f s0 (1 : Int32))
def F_X11_judged_120 (k43 : xHp → Nat → Int32 → Int32 → Option (Int32 × xHp)) (f : xHp) (a0 : Nat) (a1 : Int32) (s0 : Int32) (s1 : Int32) : Option (Int32 × xHp) := k43 f a0 a1 (s1 + s0)
def F_X11_judged_102  (f : xHp) (s0 : Int32) (s1 : Int32) (s2 : Nat) (s3 : Nat) : Option (Int32 × xHp) := Option.bind (hIld f s2 (s1 + s0)) fun v1 => Option.bind (hPut f s3 [(10, 16)] (.int v1)) fun f2 => some ((3 : Int32), f2)
def F_X11_judged_78  (f : xHp) (a0 : Nat) (a1 : Int32) (a3 : Int32) (s0 : Int32) (s1 : Int32) (s2 : Nat) (s3 : Nat) : Option (Int32 × xHp) := Option.bind (hIld f s2 (s1 + s0)) fun v1 => Option.bind (hPut f s3 [(10, 15)] (.int v1)) fun f2 => Option.bind (hN f2 a0 [(10, 13)]) fun v3 => if (a3 - a3 / (3 : Int32) * (3 : Int32)) = 0 then (F_X11_judged_102 f2 (2 : Int32) ((4 : Int32) * a1) v3 a0) else (F_X11_judged_102 f2 (3 : Int32) ((4 : Int32) * a1) v3 a0)
def F_X11_judged_43 (k43 : xHp → Nat → Int32 → Int32 → Option (Int32 × xHp)) (f : xHp) (a0 : Nat) (a1 : Int32) (a3 : Int32) : Option (Int32 × xHp) := if (9 : Int32) ≤ a3 then (Option.bind (hN f a0 [(10, 13)]) fun v2 => Option.bind (hIld f v2 (((4 : Int32) * a1) + (1 : Int32))) fun v3 => Option.bind (hN f a0 [(10, 13)]) fun v4 => Option.bind (hIld f v4 ((4 : Int32) * a1)) fun v5 => if ((v3 - v5) - (v3 - v5) / (2 : Int32) * (2 : Int32)) = 0 then (F_X11_judged_154 f a0 a1 (0 : Int32)) else (F_X11_judged_154 f a0 a1 (1 : Int32))) else (if hKd f a0 = some 10 then (Option.bind (F_X11_partCorner f a0 a1 a3) fun q8 => if (0 : Int64) ≤ q8 then (if a3 = (2 : Int32) then (F_X11_judged_120 k43 f a0 a1 (4 : Int32) a3) else (F_X11_judged_120 k43 f a0 a1 (2 : Int32) a3)) else (Option.bind (hN f a0 [(10, 13)]) fun v11 => if (3 : Int32) ≤ a3 then (F_X11_judged_78 f a0 a1 a3 (1 : Int32) ((4 : Int32) * a1) v11 a0) else (F_X11_judged_78 f a0 a1 a3 (0 : Int32) ((4 : Int32) * a1) v11 a0))) else none)
def L_X11_judged_43  : Nat → xHp → Nat → Int32 → Int32 → Option (Int32 × xHp)
  | 0, _, _, _, _ => none
  | n + 1, f, a0, a1, a3 => F_X11_judged_43 (L_X11_judged_43  n) f a0 a1 a3
def F_X11_judged_27 (k4 : xHp → Nat → Int32 → Int32 → Int32 → Option (Int32 × xHp)) (f : xHp) (a0 : Nat) (a1 : Int32) (a3 : Int32) (s0 : Int32) (s1 : Int32) : Option (Int32 × xHp) := k4 f a0 a1 (s1 &&& s0) (a3 + 1)
def F_X11_judged_4 (k4 : xHp → Nat → Int32 → Int32 → Int32 → Option (Int32 × xHp)) (f : xHp) (a0 : Nat) (a1 : Int32) (a2 : Int32) (a3 : Int32) : Option (Int32 × xHp) := if (9 : Int32) ≤ a3 then (if a2 = 0 then (L_X11_judged_43 xfuel f a0 a1 (0 : Int32)) else (some ((1 : Int32), f))) else (if hKd f a0 = some 10 then (Option.bind (F_X11_partCorner f a0 a1 a3) fun q4 => if q4 < (0 : Int64) then (F_X11_judged_27 k4 f a0 a1 a3 (0 : Int32) a2) else (F_X11_judged_27 k4 f a0 a1 a3 (1 : Int32) a2)) else none)
def L_X11_judged_4  : Nat → xHp → Nat → Int32 → Int32 → Int32 → Option (Int32 × xHp)
  | 0, _, _, _, _, _ => none
  | n + 1, f, a0, a1, a2, a3 => F_X11_judged_4 (L_X11_judged_4  n) f a0 a1 a2 a3
def F_X11_judged (f : xHp) (h0 : Nat) (p1 : Int32) : Option (Int32 × xHp) := L_X11_judged_4 xfuel f h0 p1 (1 : Int32) (0 : Int32)
set_option maxRecDepth 100000 in
set_option maxHeartbeats 4000000 in
theorem w_X11_judged_186 {p : Program} {l : Launch} {e : Env} {s : State} {m : MethodId} {args : Array Value} {below : List Frame} {meth : Method} {c : Code} {G : xG} {z : Nat} (X : xC G p m c s args RX11 cX11_judged 5) (hr : meth.sig.returnType = (some .int)) (hlocks : meth.locks = false) (hin : meth.name = yX11_judged.name) (rs : Int32 × xHp)  (f : xHp) (a3 : Int32) (s0 : Int32) (H : Heap) (locs : List Loc) (ls : Array Slot) (h : F_X11_judged_186  f a3 s0 = some rs) (Y : xY G z f s H locs) (hl : lv_has ls 5 [(3, .int a3)]) : W p l e rm_X11_judged s m args below meth c H locs 0 0 (MQ below (xQ G (some (.int rs.1)) z rs.2) args s rm_X11_judged.cells rm_X11_judged.slots (xA G)) (F0 m 186 ls [.int s0]) := by
  have hx := X.1.1
  have hb := X.1.2.1
  unfold F_X11_judged_186 at h
  refine lv_istore (lv' := [(4, .int s0), (3, .int a3)]) hx hb dX11_judged_186 hl (by decide) rfl (fun ls hl => ?_)
  refine lv_iload_n hx hb dX11_judged_188 rfl (lv_at hl 1 rfl) ?_
  refine lv_if_eq (tgt := 201) hx hb dX11_judged_189 (by decide) (fun c1 => ?_) (fun c1 => ?_)
  · replace h := Eq.trans (if_pos c1).symm h
    refine lv_iconst (v := 0) hx hb dX11_judged_201 (by decide) ?_
    replace h := Option.some.inj h
    subst h
    exact q_reti X Y hr hlocks (Nat.le_of_ble_eq_true rfl) (Nat.le_of_ble_eq_true rfl) dX11_judged_202
  · replace h := Eq.trans (if_neg c1).symm h
    refine lv_iload hx hb dX11_judged_192 (lv_at hl 0 rfl) ?_
    refine lv_if_eq (tgt := 201) hx hb dX11_judged_194 (by decide) (fun c2 => ?_) (fun c2 => ?_)
    · replace h := Eq.trans (if_pos c2).symm h
      refine lv_iconst (v := 0) hx hb dX11_judged_201 (by decide) ?_
      replace h := Option.some.inj h
      subst h
      exact q_reti X Y hr hlocks (Nat.le_of_ble_eq_true rfl) (Nat.le_of_ble_eq_true rfl) dX11_judged_202
    · replace h := Eq.trans (if_neg c2).symm h
      refine lv_iconst (v := 2) hx hb dX11_judged_197 (by decide) ?_
      refine lv_goto (tgt := 202) hx hb dX11_judged_198 (by decide) ?_
      replace h := Option.some.inj h
      subst h
      exact q_reti X Y hr hlocks (Nat.le_of_ble_eq_true rfl) (Nat.le_of_ble_eq_true rfl) dX11_judged_202
set_option maxRecDepth 100000 in
set_option maxHeartbeats 4000000 in
theorem w_X11_judged_154 {p : Program} {l : Launch} {e : Env} {s : State} {m : MethodId} {args : Array Value} {below : List Frame} {meth : Method} {c : Code} {G : xG} {z : Nat} (X : xC G p m c s args RX11 cX11_judged 5) (hr : meth.sig.returnType = (some .int)) (hlocks : meth.locks = false) (hin : meth.name = yX11_judged.name) (rs : Int32 × xHp)  (f : xHp) (a0 : Nat) (a1 : Int32) (s0 : Int32) (H : Heap) (locs : List Loc) (ls : Array Slot) (h : F_X11_judged_154  f a0 a1 s0 = some rs) (Y : xY G z f s H locs) (hl : lv_has ls 5 [(0, .ref a0), (1, .int a1)]) : W p l e rm_X11_judged s m args below meth c H locs 0 0 (MQ below (xQ G (some (.int rs.1)) z rs.2) args s rm_X11_judged.cells rm_X11_judged.slots (xA G)) (F0 m 154 ls [.int s0]) := by
  have hx := X.1.1
  have hb := X.1.2.1
  unfold F_X11_judged_154 at h
  refine lv_istore_n (lv' := [(3, .int s0), (0, .ref a0), (1, .int a1)]) hx hb dX11_judged_154 rfl hl (by decide) rfl (fun ls hl => ?_)
  refine lv_aload_n hx hb dX11_judged_155 rfl (lv_at hl 1 rfl) ?_
  replace h := xb h
  obtain ⟨v1, ev1, h⟩ := h
  refine q_getN X Y fl_X11_29 ev1 dX11_judged_156 ?_
  refine lv_iconst (v := 4) hx hb dX11_judged_159 (by decide) ?_
  refine lv_iload_n hx hb dX11_judged_160 rfl (lv_at hl 2 rfl) ?_
  refine lv_imul hx hb dX11_judged_161 ?_
  refine lv_iconst (v := 3) hx hb dX11_judged_162 (by decide) ?_
  refine lv_iadd hx hb dX11_judged_163 ?_
  replace h := xb h
  obtain ⟨v2, ev2, h⟩ := h
  refine q_iald X Y ev2 dX11_judged_164 ?_
  refine lv_aload_n hx hb dX11_judged_165 rfl (lv_at hl 1 rfl) ?_
  replace h := xb h
  obtain ⟨v3, ev3, h⟩ := h
  refine q_getN X Y fl_X11_29 ev3 dX11_judged_166 ?_
  refine lv_iconst (v := 4) hx hb dX11_judged_169 (by decide) ?_
  refine lv_iload_n hx hb dX11_judged_170 rfl (lv_at hl 2 rfl) ?_
  refine lv_imul hx hb dX11_judged_171 ?_
  refine lv_iconst (v := 2) hx hb dX11_judged_172 (by decide) ?_
  refine lv_iadd hx hb dX11_judged_173 ?_
  replace h := xb h
  obtain ⟨v4, ev4, h⟩ := h
  refine q_iald X Y ev4 dX11_judged_174 ?_
  refine lv_isub hx hb dX11_judged_175 ?_
  refine lv_iconst (v := 2) hx hb dX11_judged_176 (by decide) ?_
  refine lv_irem hx hb dX11_judged_177 (by decide) ?_
  refine lv_if_eq (tgt := 185) hx hb dX11_judged_178 (by decide) (fun c5 => ?_) (fun c5 => ?_)
  · replace h := Eq.trans (if_pos c5).symm h
    refine lv_iconst (v := 0) hx hb dX11_judged_185 (by decide) ?_
    refine W.widen (k := 0) (n := 0) (Nat.le_of_ble_eq_true rfl) (Nat.le_of_ble_eq_true rfl) ?_
    exact w_X11_judged_186 X hr hlocks hin rs   f s0 (0 : Int32) _ _ _ h Y (lv_sub hl [0] rfl)
  · replace h := Eq.trans (if_neg c5).symm h
    refine lv_iconst (v := 1) hx hb dX11_judged_181 (by decide) ?_
    refine lv_goto (tgt := 186) hx hb dX11_judged_182 (by decide) ?_
    refine W.widen (k := 0) (n := 0) (Nat.le_of_ble_eq_true rfl) (Nat.le_of_ble_eq_true rfl) ?_
    exact w_X11_judged_186 X hr hlocks hin rs   f s0 (1 : Int32) _ _ _ h Y (lv_sub hl [0] rfl)
set_option maxRecDepth 100000 in
set_option maxHeartbeats 4000000 in
theorem w_X11_judged_120 {p : Program} {l : Launch} {e : Env} {s : State} {m : MethodId} {args : Array Value} {below : List Frame} {meth : Method} {c : Code} {G : xG} {z : Nat} (X : xC G p m c s args RX11 cX11_judged 5) (hr : meth.sig.returnType = (some .int)) (hlocks : meth.locks = false) (hin : meth.name = yX11_judged.name) (rs : Int32 × xHp) (k43 : xHp → Nat → Int32 → Int32 → Option (Int32 × xHp)) (hk43 : ∀ (f : xHp) (a0 : Nat) (a1 : Int32) (a3 : Int32) (H : Heap) (locs : List Loc) (ls : Array Slot), k43 f a0 a1 a3 = some rs → xY G z f s H locs → lv_has ls 5 [(0, .ref a0), (1, .int a1), (3, .int a3)] → W p l e rm_X11_judged s m args below meth c H locs 0 0 (MQ below (xQ G (some (.int rs.1)) z rs.2) args s rm_X11_judged.cells rm_X11_judged.slots (xA G)) (F0 m 43 ls [])) (f : xHp) (a0 : Nat) (a1 : Int32) (s0 : Int32) (s1 : Int32) (H : Heap) (locs : List Loc) (ls : Array Slot) (h : F_X11_judged_120 k43 f a0 a1 s0 s1 = some rs) (Y : xY G z f s H locs) (hl : lv_has ls 5 [(0, .ref a0), (1, .int a1)]) : W p l e rm_X11_judged s m args below meth c H locs 0 0 (MQ below (xQ G (some (.int rs.1)) z rs.2) args s rm_X11_judged.cells rm_X11_judged.slots (xA G)) (F0 m 120 ls [.int s0, .int s1]) := by
  have hx := X.1.1
  have hb := X.1.2.1
  unfold F_X11_judged_120 at h
  refine lv_iadd hx hb dX11_judged_120 ?_
  refine lv_istore_n (lv' := [(3, .int (s1 + s0)), (0, .ref a0), (1, .int a1)]) hx hb dX11_judged_121 rfl hl (by decide) rfl (fun ls hl => ?_)
  refine lv_goto (tgt := 43) hx hb dX11_judged_122 (by decide) ?_
  refine W.widen (k := 0) (n := 0) (Nat.le_of_ble_eq_true rfl) (Nat.le_of_ble_eq_true rfl) ?_
  exact hk43 f a0 a1 (s1 + s0) _ _ _ h Y (lv_sub hl [1, 2, 0] rfl)
set_option maxRecDepth 100000 in
set_option maxHeartbeats 4000000 in
theorem w_X11_judged_102 {p : Program} {l : Launch} {e : Env} {s : State} {m : MethodId} {args : Array Value} {below : List Frame} {meth : Method} {c : Code} {G : xG} {z : Nat} (X : xC G p m c s args RX11 cX11_judged 5) (hr : meth.sig.returnType = (some .int)) (hlocks : meth.locks = false) (hin : meth.name = yX11_judged.name) (rs : Int32 × xHp)  (f : xHp) (s0 : Int32) (s1 : Int32) (s2 : Nat) (s3 : Nat) (H : Heap) (locs : List Loc) (ls : Array Slot) (h : F_X11_judged_102  f s0 s1 s2 s3 = some rs) (Y : xY G z f s H locs) (hl : lv_has ls 5 []) : W p l e rm_X11_judged s m args below meth c H locs 0 0 (MQ below (xQ G (some (.int rs.1)) z rs.2) args s rm_X11_judged.cells rm_X11_judged.slots (xA G)) (F0 m 102 ls [.int s0, .int s1, .ref s2, .ref s3]) := by
  have hx := X.1.1
  have hb := X.1.2.1
  unfold F_X11_judged_102 at h
  refine lv_iadd hx hb dX11_judged_102 ?_
  replace h := xb h
  obtain ⟨v1, ev1, h⟩ := h
  refine q_iald X Y ev1 dX11_judged_103 ?_
  replace h := xb h
  obtain ⟨f2, ef2, h⟩ := h
  refine q_put X Y fp_X11_178 rfl rfl ef2 dX11_judged_104 (fun H locs Y => ?_)
  refine lv_iconst (v := 3) hx hb dX11_judged_107 (by decide) ?_
  replace h := Option.some.inj h
  subst h
  exact q_reti X Y hr hlocks (Nat.le_of_ble_eq_true rfl) (Nat.le_of_ble_eq_true rfl) dX11_judged_108
set_option maxRecDepth 100000 in
set_option maxHeartbeats 4000000 in
theorem w_X11_judged_78 {p : Program} {l : Launch} {e : Env} {s : State} {m : MethodId} {args : Array Value} {below : List Frame} {meth : Method} {c : Code} {G : xG} {z : Nat} (X : xC G p m c s args RX11 cX11_judged 5) (hr : meth.sig.returnType = (some .int)) (hlocks : meth.locks = false) (hin : meth.name = yX11_judged.name) (rs : Int32 × xHp)  (f : xHp) (a0 : Nat) (a1 : Int32) (a3 : Int32) (s0 : Int32) (s1 : Int32) (s2 : Nat) (s3 : Nat) (H : Heap) (locs : List Loc) (ls : Array Slot) (h : F_X11_judged_78  f a0 a1 a3 s0 s1 s2 s3 = some rs) (Y : xY G z f s H locs) (hl : lv_has ls 5 [(0, .ref a0), (1, .int a1), (3, .int a3)]) : W p l e rm_X11_judged s m args below meth c H locs 0 0 (MQ below (xQ G (some (.int rs.1)) z rs.2) args s rm_X11_judged.cells rm_X11_judged.slots (xA G)) (F0 m 78 ls [.int s0, .int s1, .ref s2, .ref s3]) := by
  have hx := X.1.1
  have hb := X.1.2.1
  unfold F_X11_judged_78 at h
  refine lv_iadd hx hb dX11_judged_78 ?_
  replace h := xb h
  obtain ⟨v1, ev1, h⟩ := h
  refine q_iald X Y ev1 dX11_judged_79 ?_
  replace h := xb h
  obtain ⟨f2, ef2, h⟩ := h
  refine q_put X Y fp_X11_175 rfl rfl ef2 dX11_judged_80 (fun H locs Y => ?_)
  refine lv_aload_n hx hb dX11_judged_83 rfl (lv_at hl 0 rfl) ?_
  refine lv_aload_n hx hb dX11_judged_84 rfl (lv_at hl 0 rfl) ?_
  replace h := xb h
  obtain ⟨v3, ev3, h⟩ := h
  refine q_getN X Y fl_X11_29 ev3 dX11_judged_85 ?_
  refine lv_iconst (v := 4) hx hb dX11_judged_88 (by decide) ?_
  refine lv_iload_n hx hb dX11_judged_89 rfl (lv_at hl 1 rfl) ?_
  refine lv_imul hx hb dX11_judged_90 ?_
  refine lv_iload_n hx hb dX11_judged_91 rfl (lv_at hl 2 rfl) ?_
  refine lv_iconst (v := 3) hx hb dX11_judged_92 (by decide) ?_
  refine lv_irem hx hb dX11_judged_93 (by decide) ?_
  refine lv_if_ne (tgt := 101) hx hb dX11_judged_94 (by decide) (fun c4 => ?_) (fun c4 => ?_)
  · replace h := Eq.trans (if_neg c4).symm h
    refine lv_iconst (v := 3) hx hb dX11_judged_101 (by decide) ?_
    refine W.widen (k := 0) (n := 0) (Nat.le_of_ble_eq_true rfl) (Nat.le_of_ble_eq_true rfl) ?_
    exact w_X11_judged_102 X hr hlocks hin rs   f2 (3 : Int32) ((4 : Int32) * a1) v3 a0 _ _ _ h Y (lv_sub hl [] rfl)
  · replace h := Eq.trans (if_pos c4).symm h
    refine lv_iconst (v := 2) hx hb dX11_judged_97 (by decide) ?_
    refine lv_goto (tgt := 102) hx hb dX11_judged_98 (by decide) ?_
    refine W.widen (k := 0) (n := 0) (Nat.le_of_ble_eq_true rfl) (Nat.le_of_ble_eq_true rfl) ?_
    exact w_X11_judged_102 X hr hlocks hin rs   f2 (2 : Int32) ((4 : Int32) * a1) v3 a0 _ _ _ h Y (lv_sub hl [] rfl)
set_option maxRecDepth 100000 in
set_option maxHeartbeats 4000000 in
theorem w_X11_judged_43 {p : Program} {l : Launch} {e : Env} {s : State} {m : MethodId} {args : Array Value} {below : List Frame} {meth : Method} {c : Code} {G : xG} {z : Nat} (X : xC G p m c s args RX11 cX11_judged 5) (hr : meth.sig.returnType = (some .int)) (hlocks : meth.locks = false) (hin : meth.name = yX11_judged.name) (rs : Int32 × xHp) (k43 : xHp → Nat → Int32 → Int32 → Option (Int32 × xHp)) (hk43 : ∀ (f : xHp) (a0 : Nat) (a1 : Int32) (a3 : Int32) (H : Heap) (locs : List Loc) (ls : Array Slot), k43 f a0 a1 a3 = some rs → xY G z f s H locs → lv_has ls 5 [(0, .ref a0), (1, .int a1), (3, .int a3)] → W p l e rm_X11_judged s m args below meth c H locs 0 0 (MQ below (xQ G (some (.int rs.1)) z rs.2) args s rm_X11_judged.cells rm_X11_judged.slots (xA G)) (F0 m 43 ls [])) (f : xHp) (a0 : Nat) (a1 : Int32) (a3 : Int32) (H : Heap) (locs : List Loc) (ls : Array Slot) (h : F_X11_judged_43 k43 f a0 a1 a3 = some rs) (Y : xY G z f s H locs) (hl : lv_has ls 5 [(0, .ref a0), (1, .int a1), (3, .int a3)]) : W p l e rm_X11_judged s m args below meth c H locs 0 0 (MQ below (xQ G (some (.int rs.1)) z rs.2) args s rm_X11_judged.cells rm_X11_judged.slots (xA G)) (F0 m 43 ls []) := by
  have hx := X.1.1
  have hb := X.1.2.1
  unfold F_X11_judged_43 at h
  refine lv_iload_n hx hb dX11_judged_43 rfl (lv_at hl 2 rfl) ?_
  refine lv_bipush (v := 9) hx hb dX11_judged_44 (by decide) ?_
  refine lv_icmp_ge (tgt := 125) hx hb dX11_judged_46 (by decide) (fun c1 => ?_) (fun c1 => ?_)
  · replace h := Eq.trans (if_pos c1).symm h
    refine lv_aload_n hx hb dX11_judged_125 rfl (lv_at hl 0 rfl) ?_
    replace h := xb h
    obtain ⟨v2, ev2, h⟩ := h
    refine q_getN X Y fl_X11_29 ev2 dX11_judged_126 ?_
    refine lv_iconst (v := 4) hx hb dX11_judged_129 (by decide) ?_
    refine lv_iload_n hx hb dX11_judged_130 rfl (lv_at hl 1 rfl) ?_
    refine lv_imul hx hb dX11_judged_131 ?_
    refine lv_iconst (v := 1) hx hb dX11_judged_132 (by decide) ?_
    refine lv_iadd hx hb dX11_judged_133 ?_
    replace h := xb h
    obtain ⟨v3, ev3, h⟩ := h
    refine q_iald X Y ev3 dX11_judged_134 ?_
    refine lv_aload_n hx hb dX11_judged_135 rfl (lv_at hl 0 rfl) ?_
    replace h := xb h
    obtain ⟨v4, ev4, h⟩ := h
    refine q_getN X Y fl_X11_29 ev4 dX11_judged_136 ?_
    refine lv_iconst (v := 4) hx hb dX11_judged_139 (by decide) ?_
    refine lv_iload_n hx hb dX11_judged_140 rfl (lv_at hl 1 rfl) ?_
    refine lv_imul hx hb dX11_judged_141 ?_
    replace h := xb h
    obtain ⟨v5, ev5, h⟩ := h
    refine q_iald X Y ev5 dX11_judged_142 ?_
    refine lv_isub hx hb dX11_judged_143 ?_
    refine lv_iconst (v := 2) hx hb dX11_judged_144 (by decide) ?_
    refine lv_irem hx hb dX11_judged_145 (by decide) ?_
    refine lv_if_eq (tgt := 153) hx hb dX11_judged_146 (by decide) (fun c6 => ?_) (fun c6 => ?_)
    · replace h := Eq.trans (if_pos c6).symm h
      refine lv_iconst (v := 0) hx hb dX11_judged_153 (by decide) ?_
      refine W.widen (k := 0) (n := 0) (Nat.le_of_ble_eq_true rfl) (Nat.le_of_ble_eq_true rfl) ?_
      exact w_X11_judged_154 X hr hlocks hin rs   f a0 a1 (0 : Int32) _ _ _ h Y (lv_sub hl [0, 1] rfl)
    · replace h := Eq.trans (if_neg c6).symm h
      refine lv_iconst (v := 1) hx hb dX11_judged_149 (by decide) ?_
      refine lv_goto (tgt := 154) hx hb dX11_judged_150 (by decide) ?_
      refine W.widen (k := 0) (n := 0) (Nat.le_of_ble_eq_true rfl) (Nat.le_of_ble_eq_true rfl) ?_
      exact w_X11_judged_154 X hr hlocks hin rs   f a0 a1 (1 : Int32) _ _ _ h Y (lv_sub hl [0, 1] rfl)
  · replace h := Eq.trans (if_neg c1).symm h
    refine lv_aload_n hx hb dX11_judged_49 rfl (lv_at hl 0 rfl) ?_
    refine lv_iload_n hx hb dX11_judged_50 rfl (lv_at hl 1 rfl) ?_
    refine lv_iload_n hx hb dX11_judged_51 rfl (lv_at hl 2 rfl) ?_
    by_cases c7 : hKd f a0 = some 10
    · replace h := Eq.trans (if_pos c7).symm h
      replace h := xb h
      obtain ⟨q8, eq8, h⟩ := h
      refine q_callV X Y hl.1 (rest := []) (As := [.int a1, .int a3]) (c_X11_partCorner l G z f a0 a1 a3 _ eq8) cd_X11_partCorner lv_X11_172_10 c7 ⟨(Nat.le_of_ble_eq_true rfl), (Nat.le_of_ble_eq_true rfl)⟩ ⟨(Nat.le_of_ble_eq_true rfl), (Nat.le_of_ble_eq_true rfl)⟩ rfl rfl (Nat.le_of_ble_eq_true rfl) dX11_judged_52 (fun H locs Y => ?_)
      refine W.eq (g2 := F0 m 55 ls [.long q8]) rfl ?_
      refine lv_lconst (v := 0) hx hb dX11_judged_55 (by decide) ?_
      refine q_lcmp_ge (tgt := 109) hx hb dX11_judged_56 dX11_judged_57 (by decide) (fun c9 => ?_) (fun c9 => ?_)
      · replace h := Eq.trans (if_pos c9).symm h
        refine lv_iload_n hx hb dX11_judged_109 rfl (lv_at hl 2 rfl) ?_
        refine lv_iload_n hx hb dX11_judged_110 rfl (lv_at hl 2 rfl) ?_
        refine lv_iconst (v := 2) hx hb dX11_judged_111 (by decide) ?_
        refine lv_icmp_ne (tgt := 119) hx hb dX11_judged_112 (by decide) (fun c10 => ?_) (fun c10 => ?_)
        · replace h := Eq.trans (if_neg c10).symm h
          refine lv_iconst (v := 2) hx hb dX11_judged_119 (by decide) ?_
          refine W.widen (k := 0) (n := 0) (Nat.le_of_ble_eq_true rfl) (Nat.le_of_ble_eq_true rfl) ?_
          exact w_X11_judged_120 X hr hlocks hin rs k43 hk43  f a0 a1 (2 : Int32) a3 _ _ _ h Y (lv_sub hl [0, 1] rfl)
        · replace h := Eq.trans (if_pos c10).symm h
          refine lv_iconst (v := 4) hx hb dX11_judged_115 (by decide) ?_
          refine lv_goto (tgt := 120) hx hb dX11_judged_116 (by decide) ?_
          refine W.widen (k := 0) (n := 0) (Nat.le_of_ble_eq_true rfl) (Nat.le_of_ble_eq_true rfl) ?_
          exact w_X11_judged_120 X hr hlocks hin rs k43 hk43  f a0 a1 (4 : Int32) a3 _ _ _ h Y (lv_sub hl [0, 1] rfl)
      · replace h := Eq.trans (if_neg c9).symm h
        refine lv_aload_n hx hb dX11_judged_60 rfl (lv_at hl 0 rfl) ?_
        refine lv_aload_n hx hb dX11_judged_61 rfl (lv_at hl 0 rfl) ?_
        replace h := xb h
        obtain ⟨v11, ev11, h⟩ := h
        refine q_getN X Y fl_X11_29 ev11 dX11_judged_62 ?_
        refine lv_iconst (v := 4) hx hb dX11_judged_65 (by decide) ?_
        refine lv_iload_n hx hb dX11_judged_66 rfl (lv_at hl 1 rfl) ?_
        refine lv_imul hx hb dX11_judged_67 ?_
        refine lv_iload_n hx hb dX11_judged_68 rfl (lv_at hl 2 rfl) ?_
        refine lv_iconst (v := 3) hx hb dX11_judged_69 (by decide) ?_
        refine lv_icmp_ge (tgt := 77) hx hb dX11_judged_70 (by decide) (fun c12 => ?_) (fun c12 => ?_)
        · replace h := Eq.trans (if_pos c12).symm h
          refine lv_iconst (v := 1) hx hb dX11_judged_77 (by decide) ?_
          refine W.widen (k := 0) (n := 0) (Nat.le_of_ble_eq_true rfl) (Nat.le_of_ble_eq_true rfl) ?_
          exact w_X11_judged_78 X hr hlocks hin rs   f a0 a1 a3 (1 : Int32) ((4 : Int32) * a1) v11 a0 _ _ _ h Y (lv_sub hl [0, 1, 2] rfl)
        · replace h := Eq.trans (if_neg c12).symm h
          refine lv_iconst (v := 0) hx hb dX11_judged_73 (by decide) ?_
          refine lv_goto (tgt := 78) hx hb dX11_judged_74 (by decide) ?_
          refine W.widen (k := 0) (n := 0) (Nat.le_of_ble_eq_true rfl) (Nat.le_of_ble_eq_true rfl) ?_
          exact w_X11_judged_78 X hr hlocks hin rs   f a0 a1 a3 (0 : Int32) ((4 : Int32) * a1) v11 a0 _ _ _ h Y (lv_sub hl [0, 1, 2] rfl)
    replace h := Eq.trans (if_neg c7).symm h
    cases h
set_option maxRecDepth 100000 in
set_option maxHeartbeats 4000000 in
theorem lw_X11_judged_43 {p : Program} {l : Launch} {e : Env} {s : State} {m : MethodId} {args : Array Value} {below : List Frame} {meth : Method} {c : Code} {G : xG} {z : Nat} (X : xC G p m c s args RX11 cX11_judged 5) (hr : meth.sig.returnType = (some .int)) (hlocks : meth.locks = false) (hin : meth.name = yX11_judged.name) (rs : Int32 × xHp)  : ∀ (n : Nat) (f : xHp) (a0 : Nat) (a1 : Int32) (a3 : Int32) (H : Heap) (locs : List Loc) (ls : Array Slot), L_X11_judged_43  n f a0 a1 a3 = some rs → xY G z f s H locs → lv_has ls 5 [(0, .ref a0), (1, .int a1), (3, .int a3)] → W p l e rm_X11_judged s m args below meth c H locs 0 0 (MQ below (xQ G (some (.int rs.1)) z rs.2) args s rm_X11_judged.cells rm_X11_judged.slots (xA G)) (F0 m 43 ls []) := by
  intro n
  induction n with
  | zero => intro f a0 a1 a3 H locs ls h Y hl; cases h
  | succ n ih => intro f a0 a1 a3 H locs ls h Y hl; exact w_X11_judged_43 X hr hlocks hin rs _ ih f a0 a1 a3 _ _ _ h Y hl
set_option maxRecDepth 100000 in
set_option maxHeartbeats 4000000 in
theorem w_X11_judged_27 {p : Program} {l : Launch} {e : Env} {s : State} {m : MethodId} {args : Array Value} {below : List Frame} {meth : Method} {c : Code} {G : xG} {z : Nat} (X : xC G p m c s args RX11 cX11_judged 5) (hr : meth.sig.returnType = (some .int)) (hlocks : meth.locks = false) (hin : meth.name = yX11_judged.name) (rs : Int32 × xHp) (k4 : xHp → Nat → Int32 → Int32 → Int32 → Option (Int32 × xHp)) (hk4 : ∀ (f : xHp) (a0 : Nat) (a1 : Int32) (a2 : Int32) (a3 : Int32) (H : Heap) (locs : List Loc) (ls : Array Slot), k4 f a0 a1 a2 a3 = some rs → xY G z f s H locs → lv_has ls 5 [(0, .ref a0), (1, .int a1), (2, .int a2), (3, .int a3)] → W p l e rm_X11_judged s m args below meth c H locs 0 0 (MQ below (xQ G (some (.int rs.1)) z rs.2) args s rm_X11_judged.cells rm_X11_judged.slots (xA G)) (F0 m 4 ls [])) (f : xHp) (a0 : Nat) (a1 : Int32) (a3 : Int32) (s0 : Int32) (s1 : Int32) (H : Heap) (locs : List Loc) (ls : Array Slot) (h : F_X11_judged_27 k4 f a0 a1 a3 s0 s1 = some rs) (Y : xY G z f s H locs) (hl : lv_has ls 5 [(0, .ref a0), (1, .int a1), (3, .int a3)]) : W p l e rm_X11_judged s m args below meth c H locs 0 0 (MQ below (xQ G (some (.int rs.1)) z rs.2) args s rm_X11_judged.cells rm_X11_judged.slots (xA G)) (F0 m 27 ls [.int s0, .int s1]) := by
  have hx := X.1.1
  have hb := X.1.2.1
  unfold F_X11_judged_27 at h
  refine lv_iand hx hb dX11_judged_27 ?_
  refine lv_istore_n (lv' := [(2, .int (s1 &&& s0)), (0, .ref a0), (1, .int a1), (3, .int a3)]) hx hb dX11_judged_28 rfl hl (by decide) rfl (fun ls hl => ?_)
  refine lv_iinc (v := (a3 + 1)) (lv' := [(3, .int (a3 + 1)), (2, .int (s1 &&& s0)), (0, .ref a0), (1, .int a1)]) hx hb dX11_judged_29 hl (k := 3) rfl rfl (by decide) rfl (fun ls hl => ?_)
  refine lv_goto (tgt := 4) hx hb dX11_judged_32 (by decide) ?_
  refine W.widen (k := 0) (n := 0) (Nat.le_of_ble_eq_true rfl) (Nat.le_of_ble_eq_true rfl) ?_
  exact hk4 f a0 a1 (s1 &&& s0) (a3 + 1) _ _ _ h Y (lv_sub hl [2, 3, 1, 0] rfl)
set_option maxRecDepth 100000 in
set_option maxHeartbeats 4000000 in
theorem w_X11_judged_4 {p : Program} {l : Launch} {e : Env} {s : State} {m : MethodId} {args : Array Value} {below : List Frame} {meth : Method} {c : Code} {G : xG} {z : Nat} (X : xC G p m c s args RX11 cX11_judged 5) (hr : meth.sig.returnType = (some .int)) (hlocks : meth.locks = false) (hin : meth.name = yX11_judged.name) (rs : Int32 × xHp) (k4 : xHp → Nat → Int32 → Int32 → Int32 → Option (Int32 × xHp)) (hk4 : ∀ (f : xHp) (a0 : Nat) (a1 : Int32) (a2 : Int32) (a3 : Int32) (H : Heap) (locs : List Loc) (ls : Array Slot), k4 f a0 a1 a2 a3 = some rs → xY G z f s H locs → lv_has ls 5 [(0, .ref a0), (1, .int a1), (2, .int a2), (3, .int a3)] → W p l e rm_X11_judged s m args below meth c H locs 0 0 (MQ below (xQ G (some (.int rs.1)) z rs.2) args s rm_X11_judged.cells rm_X11_judged.slots (xA G)) (F0 m 4 ls [])) (f : xHp) (a0 : Nat) (a1 : Int32) (a2 : Int32) (a3 : Int32) (H : Heap) (locs : List Loc) (ls : Array Slot) (h : F_X11_judged_4 k4 f a0 a1 a2 a3 = some rs) (Y : xY G z f s H locs) (hl : lv_has ls 5 [(0, .ref a0), (1, .int a1), (2, .int a2), (3, .int a3)]) : W p l e rm_X11_judged s m args below meth c H locs 0 0 (MQ below (xQ G (some (.int rs.1)) z rs.2) args s rm_X11_judged.cells rm_X11_judged.slots (xA G)) (F0 m 4 ls []) := by
  have hx := X.1.1
  have hb := X.1.2.1
  unfold F_X11_judged_4 at h
  refine lv_iload_n hx hb dX11_judged_4 rfl (lv_at hl 3 rfl) ?_
  refine lv_bipush (v := 9) hx hb dX11_judged_5 (by decide) ?_
  refine lv_icmp_ge (tgt := 35) hx hb dX11_judged_7 (by decide) (fun c1 => ?_) (fun c1 => ?_)
  · replace h := Eq.trans (if_pos c1).symm h
    refine lv_iload_n hx hb dX11_judged_35 rfl (lv_at hl 2 rfl) ?_
    refine lv_if_eq (tgt := 41) hx hb dX11_judged_36 (by decide) (fun c2 => ?_) (fun c2 => ?_)
    · replace h := Eq.trans (if_pos c2).symm h
      refine lv_iconst (v := 0) hx hb dX11_judged_41 (by decide) ?_
      refine lv_istore_n (lv' := [(3, .int (0 : Int32)), (0, .ref a0), (1, .int a1), (2, .int a2)]) hx hb dX11_judged_42 rfl hl (by decide) rfl (fun ls hl => ?_)
      refine W.widen (k := 0) (n := 0) (Nat.le_of_ble_eq_true rfl) (Nat.le_of_ble_eq_true rfl) ?_
      exact lw_X11_judged_43 X hr hlocks hin rs  xfuel f a0 a1 (0 : Int32) _ _ _ h Y (lv_sub hl [1, 2, 0] rfl)
    · replace h := Eq.trans (if_neg c2).symm h
      refine lv_iconst (v := 1) hx hb dX11_judged_39 (by decide) ?_
      replace h := Option.some.inj h
      subst h
      exact q_reti X Y hr hlocks (Nat.le_of_ble_eq_true rfl) (Nat.le_of_ble_eq_true rfl) dX11_judged_40
  · replace h := Eq.trans (if_neg c1).symm h
    refine lv_iload_n hx hb dX11_judged_10 rfl (lv_at hl 2 rfl) ?_
    refine lv_aload_n hx hb dX11_judged_11 rfl (lv_at hl 0 rfl) ?_
    refine lv_iload_n hx hb dX11_judged_12 rfl (lv_at hl 1 rfl) ?_
    refine lv_iload_n hx hb dX11_judged_13 rfl (lv_at hl 3 rfl) ?_
    by_cases c3 : hKd f a0 = some 10
    · replace h := Eq.trans (if_pos c3).symm h
      replace h := xb h
      obtain ⟨q4, eq4, h⟩ := h
      refine q_callV X Y hl.1 (rest := [.int a2]) (As := [.int a1, .int a3]) (c_X11_partCorner l G z f a0 a1 a3 _ eq4) cd_X11_partCorner lv_X11_172_10 c3 ⟨(Nat.le_of_ble_eq_true rfl), (Nat.le_of_ble_eq_true rfl)⟩ ⟨(Nat.le_of_ble_eq_true rfl), (Nat.le_of_ble_eq_true rfl)⟩ rfl rfl (Nat.le_of_ble_eq_true rfl) dX11_judged_14 (fun H locs Y => ?_)
      refine W.eq (g2 := F0 m 17 ls [.long q4, .int a2]) rfl ?_
      refine lv_lconst (v := 0) hx hb dX11_judged_17 (by decide) ?_
      refine q_lcmp_lt (tgt := 26) hx hb dX11_judged_18 dX11_judged_19 (by decide) (fun c5 => ?_) (fun c5 => ?_)
      · replace h := Eq.trans (if_pos c5).symm h
        refine lv_iconst (v := 0) hx hb dX11_judged_26 (by decide) ?_
        refine W.widen (k := 0) (n := 0) (Nat.le_of_ble_eq_true rfl) (Nat.le_of_ble_eq_true rfl) ?_
        exact w_X11_judged_27 X hr hlocks hin rs k4 hk4  f a0 a1 a3 (0 : Int32) a2 _ _ _ h Y (lv_sub hl [0, 1, 3] rfl)
      · replace h := Eq.trans (if_neg c5).symm h
        refine lv_iconst (v := 1) hx hb dX11_judged_22 (by decide) ?_
        refine lv_goto (tgt := 27) hx hb dX11_judged_23 (by decide) ?_
        refine W.widen (k := 0) (n := 0) (Nat.le_of_ble_eq_true rfl) (Nat.le_of_ble_eq_true rfl) ?_
        exact w_X11_judged_27 X hr hlocks hin rs k4 hk4  f a0 a1 a3 (1 : Int32) a2 _ _ _ h Y (lv_sub hl [0, 1, 3] rfl)
    replace h := Eq.trans (if_neg c3).symm h
    cases h
set_option maxRecDepth 100000 in
set_option maxHeartbeats 4000000 in
theorem lw_X11_judged_4 {p : Program} {l : Launch} {e : Env} {s : State} {m : MethodId} {args : Array Value} {below : List Frame} {meth : Method} {c : Code} {G : xG} {z : Nat} (X : xC G p m c s args RX11 cX11_judged 5) (hr : meth.sig.returnType = (some .int)) (hlocks : meth.locks = false) (hin : meth.name = yX11_judged.name) (rs : Int32 × xHp)  : ∀ (n : Nat) (f : xHp) (a0 : Nat) (a1 : Int32) (a2 : Int32) (a3 : Int32) (H : Heap) (locs : List Loc) (ls : Array Slot), L_X11_judged_4  n f a0 a1 a2 a3 = some rs → xY G z f s H locs → lv_has ls 5 [(0, .ref a0), (1, .int a1), (2, .int a2), (3, .int a3)] → W p l e rm_X11_judged s m args below meth c H locs 0 0 (MQ below (xQ G (some (.int rs.1)) z rs.2) args s rm_X11_judged.cells rm_X11_judged.slots (xA G)) (F0 m 4 ls []) := by
  intro n
  induction n with
  | zero => intro f a0 a1 a2 a3 H locs ls h Y hl; cases h
  | succ n ih => intro f a0 a1 a2 a3 H locs ls h Y hl; exact w_X11_judged_4 X hr hlocks hin rs _ ih f a0 a1 a2 a3 _ _ _ h Y hl
set_option maxRecDepth 100000 in
set_option maxHeartbeats 4000000 in
theorem c_X11_judged (l : Launch) (G : xG) (z : Nat) (f : xHp) (h0 : Nat) (p1 : Int32) (rs : Int32 × xHp) (h : F_X11_judged f h0 p1 = some rs) : xM G l yX11_judged cX11_judged 5 (some .int) rm_X11_judged [.ref h0, .int p1] z f (some (.int rs.1)) z rs.2 := by
  refine xM_of (by decide) (Nat.le_of_ble_eq_true rfl) ?_
  intro p e s m below meth c ls X hr hlocks hin Y hl
  have hl : lv_has ls 5 [(0, .ref h0), (1, .int p1)] := hl
  have hx := X.1.1
  have hb := X.1.2.1
  unfold F_X11_judged at h
  refine lv_iconst (v := 1) hx hb dX11_judged_0 (by decide) ?_
  refine lv_istore_n (lv' := [(2, .int (1 : Int32)), (0, .ref h0), (1, .int p1)]) hx hb dX11_judged_1 rfl hl (by decide) rfl (fun ls hl => ?_)
  refine lv_iconst (v := 0) hx hb dX11_judged_2 (by decide) ?_
  refine lv_istore_n (lv' := [(3, .int (0 : Int32)), (2, .int (1 : Int32)), (0, .ref h0), (1, .int p1)]) hx hb dX11_judged_3 rfl hl (by decide) rfl (fun ls hl => ?_)
  refine W.widen (k := 0) (n := 0) (Nat.le_of_ble_eq_true rfl) (Nat.le_of_ble_eq_true rfl) ?_
  exact lw_X11_judged_4 X hr hlocks hin rs  xfuel f h0 p1 (1 : Int32) (0 : Int32) _ _ _ h Y (lv_sub hl [2, 3, 1, 0] rfl)
/-! NeverBelowModel.cover(I)I -/
abbrev rm_X11_cover : Room := { frames := 4, cells := 0, slots := 0, locals := 100 }
def F_X11_cover_109 (k27 : xHp → Nat → Int32 → Int32 → Option (Int32 × xHp)) (f : xHp) (a0 : Nat) (a1 : Int32) (a2 : Int32) : Option (Int32 × xHp) := k27 f a0 a1 (a2 + 1)
def F_X11_cover_88 (k27 : xHp → Nat → Int32 → Int32 → Option (Int32 × xHp)) (f : xHp) (a0 : Nat) (a1 : Int32) (a2 : Int32) (a3 : Int32) (a4 : Int32) : Option (Int32 × xHp) := if a4 = 0 then (if hKd f a0 = some 10 then (Option.bind (F_X11_halve f a0 a3) fun q5 => F_X11_cover_109 k27 q5 a0 a1 a2) else none) else (Option.bind (hN f a0 [(10, 14)]) fun v2 => Option.bind (hIst f v2 a3 a4) fun f3 => F_X11_cover_109 k27 f3 a0 a1 a2)
def F_X11_cover_27 (k27 : xHp → Nat → Int32 → Int32 → Option (Int32 × xHp)) (f : xHp) (a0 : Nat) (a1 : Int32) (a2 : Int32) : Option (Int32 × xHp) := if a1 ≤ a2 then (some (a2, f)) else (if hKd f a0 = some 10 then (Option.bind (F_X11_firstPart f a0 (0 : Int32)) fun q3 => if q3 = (-9 : Int32) then (some (a2, f)) else (if hKd f a0 = some 10 then (Option.bind (F_X11_firstPart f a0 (3 : Int32)) fun q6 => if q6 = (-9 : Int32) then (if hKd f a0 = some 10 then (Option.bind (F_X11_judged f a0 q3) fun q9 => if q9.1 = 0 then (Option.bind (hI q9.2 a0 [(10, 12)]) fun v11 => if v11 = (40 : Int32) then (if a2 = 0 then (some ((-4 : Int32), q9.2)) else (some (a2, q9.2))) else (F_X11_cover_88 k27 q9.2 a0 a1 a2 q3 q9.1)) else (F_X11_cover_88 k27 q9.2 a0 a1 a2 q3 q9.1)) else none) else (some (a2, f))) else none)) else none)
def L_X11_cover_27  : Nat → xHp → Nat → Int32 → Int32 → Option (Int32 × xHp)
  | 0, _, _, _, _ => none
  | n + 1, f, a0, a1, a2 => F_X11_cover_27 (L_X11_cover_27  n) f a0 a1 a2
def F_X11_cover (f : xHp) (h0 : Nat) (p1 : Int32) : Option (Int32 × xHp) := Option.bind (F_X11_within f p1.toInt64 (0 : Int64) (500 : Int64)) fun q1 => if q1 = 0 then (some ((-2 : Int32), f)) else (Option.bind (hI f h0 [(10, 12)]) fun v3 => if v3 = 0 then (some ((-3 : Int32), f)) else (L_X11_cover_27 xfuel f h0 p1 (0 : Int32)))
set_option maxRecDepth 100000 in
set_option maxHeartbeats 4000000 in
theorem w_X11_cover_109 {p : Program} {l : Launch} {e : Env} {s : State} {m : MethodId} {args : Array Value} {below : List Frame} {meth : Method} {c : Code} {G : xG} {z : Nat} (X : xC G p m c s args RX11 cX11_cover 5) (hr : meth.sig.returnType = (some .int)) (hlocks : meth.locks = false) (hin : meth.name = yX11_cover.name) (rs : Int32 × xHp) (k27 : xHp → Nat → Int32 → Int32 → Option (Int32 × xHp)) (hk27 : ∀ (f : xHp) (a0 : Nat) (a1 : Int32) (a2 : Int32) (H : Heap) (locs : List Loc) (ls : Array Slot), k27 f a0 a1 a2 = some rs → xY G z f s H locs → lv_has ls 5 [(0, .ref a0), (1, .int a1), (2, .int a2)] → W p l e rm_X11_cover s m args below meth c H locs 0 0 (MQ below (xQ G (some (.int rs.1)) z rs.2) args s rm_X11_cover.cells rm_X11_cover.slots (xA G)) (F0 m 27 ls [])) (f : xHp) (a0 : Nat) (a1 : Int32) (a2 : Int32) (H : Heap) (locs : List Loc) (ls : Array Slot) (h : F_X11_cover_109 k27 f a0 a1 a2 = some rs) (Y : xY G z f s H locs) (hl : lv_has ls 5 [(0, .ref a0), (1, .int a1), (2, .int a2)]) : W p l e rm_X11_cover s m args below meth c H locs 0 0 (MQ below (xQ G (some (.int rs.1)) z rs.2) args s rm_X11_cover.cells rm_X11_cover.slots (xA G)) (F0 m 109 ls []) := by
  have hx := X.1.1
  have hb := X.1.2.1
  unfold F_X11_cover_109 at h
  refine lv_iinc (v := (a2 + 1)) (lv' := [(2, .int (a2 + 1)), (0, .ref a0), (1, .int a1)]) hx hb dX11_cover_109 hl (k := 2) rfl rfl (by decide) rfl (fun ls hl => ?_)
  refine lv_goto (tgt := 27) hx hb dX11_cover_112 (by decide) ?_
  refine W.widen (k := 0) (n := 0) (Nat.le_of_ble_eq_true rfl) (Nat.le_of_ble_eq_true rfl) ?_
  exact hk27 f a0 a1 (a2 + 1) _ _ _ h Y (lv_sub hl [1, 2, 0] rfl)
set_option maxRecDepth 100000 in
set_option maxHeartbeats 4000000 in
theorem w_X11_cover_88 {p : Program} {l : Launch} {e : Env} {s : State} {m : MethodId} {args : Array Value} {below : List Frame} {meth : Method} {c : Code} {G : xG} {z : Nat} (X : xC G p m c s args RX11 cX11_cover 5) (hr : meth.sig.returnType = (some .int)) (hlocks : meth.locks = false) (hin : meth.name = yX11_cover.name) (rs : Int32 × xHp) (k27 : xHp → Nat → Int32 → Int32 → Option (Int32 × xHp)) (hk27 : ∀ (f : xHp) (a0 : Nat) (a1 : Int32) (a2 : Int32) (H : Heap) (locs : List Loc) (ls : Array Slot), k27 f a0 a1 a2 = some rs → xY G z f s H locs → lv_has ls 5 [(0, .ref a0), (1, .int a1), (2, .int a2)] → W p l e rm_X11_cover s m args below meth c H locs 0 0 (MQ below (xQ G (some (.int rs.1)) z rs.2) args s rm_X11_cover.cells rm_X11_cover.slots (xA G)) (F0 m 27 ls [])) (f : xHp) (a0 : Nat) (a1 : Int32) (a2 : Int32) (a3 : Int32) (a4 : Int32) (H : Heap) (locs : List Loc) (ls : Array Slot) (h : F_X11_cover_88 k27 f a0 a1 a2 a3 a4 = some rs) (Y : xY G z f s H locs) (hl : lv_has ls 5 [(0, .ref a0), (1, .int a1), (2, .int a2), (3, .int a3), (4, .int a4)]) : W p l e rm_X11_cover s m args below meth c H locs 0 0 (MQ below (xQ G (some (.int rs.1)) z rs.2) args s rm_X11_cover.cells rm_X11_cover.slots (xA G)) (F0 m 88 ls []) := by
  have hx := X.1.1
  have hb := X.1.2.1
  unfold F_X11_cover_88 at h
  refine lv_iload hx hb dX11_cover_88 (lv_at hl 4 rfl) ?_
  refine lv_if_ne (tgt := 101) hx hb dX11_cover_90 (by decide) (fun c1 => ?_) (fun c1 => ?_)
  · replace h := Eq.trans (if_neg c1).symm h
    refine lv_aload_n hx hb dX11_cover_101 rfl (lv_at hl 0 rfl) ?_
    replace h := xb h
    obtain ⟨v2, ev2, h⟩ := h
    refine q_getN X Y fl_X11_32 ev2 dX11_cover_102 ?_
    refine lv_iload_n hx hb dX11_cover_105 rfl (lv_at hl 3 rfl) ?_
    refine lv_iload hx hb dX11_cover_106 (lv_at hl 4 rfl) ?_
    replace h := xb h
    obtain ⟨f3, ef3, h⟩ := h
    refine q_iast X Y ef3 dX11_cover_108 (fun H locs Y => ?_)
    refine W.widen (k := 0) (n := 0) (Nat.le_of_ble_eq_true rfl) (Nat.le_of_ble_eq_true rfl) ?_
    exact w_X11_cover_109 X hr hlocks hin rs k27 hk27  f3 a0 a1 a2 _ _ _ h Y (lv_sub hl [0, 1, 2] rfl)
  · replace h := Eq.trans (if_pos c1).symm h
    refine lv_aload_n hx hb dX11_cover_93 rfl (lv_at hl 0 rfl) ?_
    refine lv_iload_n hx hb dX11_cover_94 rfl (lv_at hl 3 rfl) ?_
    by_cases c4 : hKd f a0 = some 10
    · replace h := Eq.trans (if_pos c4).symm h
      replace h := xb h
      obtain ⟨q5, eq5, h⟩ := h
      refine q_callV X Y hl.1 (rest := []) (As := [.int a3]) (c_X11_halve l G z f a0 a3 _ eq5) cd_X11_halve lv_X11_189_10 c4 ⟨(Nat.le_of_ble_eq_true rfl), (Nat.le_of_ble_eq_true rfl)⟩ ⟨(Nat.le_of_ble_eq_true rfl), (Nat.le_of_ble_eq_true rfl)⟩ rfl rfl (Nat.le_of_ble_eq_true rfl) dX11_cover_95 (fun H locs Y => ?_)
      refine W.eq (g2 := F0 m 98 ls []) rfl ?_
      refine lv_goto (tgt := 109) hx hb dX11_cover_98 (by decide) ?_
      refine W.widen (k := 0) (n := 0) (Nat.le_of_ble_eq_true rfl) (Nat.le_of_ble_eq_true rfl) ?_
      exact w_X11_cover_109 X hr hlocks hin rs k27 hk27  q5 a0 a1 a2 _ _ _ h Y (lv_sub hl [0, 1, 2] rfl)
    replace h := Eq.trans (if_neg c4).symm h
    cases h
set_option maxRecDepth 100000 in
set_option maxHeartbeats 4000000 in
theorem w_X11_cover_27 {p : Program} {l : Launch} {e : Env} {s : State} {m : MethodId} {args : Array Value} {below : List Frame} {meth : Method} {c : Code} {G : xG} {z : Nat} (X : xC G p m c s args RX11 cX11_cover 5) (hr : meth.sig.returnType = (some .int)) (hlocks : meth.locks = false) (hin : meth.name = yX11_cover.name) (rs : Int32 × xHp) (k27 : xHp → Nat → Int32 → Int32 → Option (Int32 × xHp)) (hk27 : ∀ (f : xHp) (a0 : Nat) (a1 : Int32) (a2 : Int32) (H : Heap) (locs : List Loc) (ls : Array Slot), k27 f a0 a1 a2 = some rs → xY G z f s H locs → lv_has ls 5 [(0, .ref a0), (1, .int a1), (2, .int a2)] → W p l e rm_X11_cover s m args below meth c H locs 0 0 (MQ below (xQ G (some (.int rs.1)) z rs.2) args s rm_X11_cover.cells rm_X11_cover.slots (xA G)) (F0 m 27 ls [])) (f : xHp) (a0 : Nat) (a1 : Int32) (a2 : Int32) (H : Heap) (locs : List Loc) (ls : Array Slot) (h : F_X11_cover_27 k27 f a0 a1 a2 = some rs) (Y : xY G z f s H locs) (hl : lv_has ls 5 [(0, .ref a0), (1, .int a1), (2, .int a2)]) : W p l e rm_X11_cover s m args below meth c H locs 0 0 (MQ below (xQ G (some (.int rs.1)) z rs.2) args s rm_X11_cover.cells rm_X11_cover.slots (xA G)) (F0 m 27 ls []) := by
  have hx := X.1.1
  have hb := X.1.2.1
  unfold F_X11_cover_27 at h
  refine lv_iload_n hx hb dX11_cover_27 rfl (lv_at hl 2 rfl) ?_
  refine lv_iload_n hx hb dX11_cover_28 rfl (lv_at hl 1 rfl) ?_
  refine lv_icmp_ge (tgt := 115) hx hb dX11_cover_29 (by decide) (fun c1 => ?_) (fun c1 => ?_)
  · replace h := Eq.trans (if_pos c1).symm h
    refine lv_iload_n hx hb dX11_cover_115 rfl (lv_at hl 2 rfl) ?_
    replace h := Option.some.inj h
    subst h
    exact q_reti X Y hr hlocks (Nat.le_of_ble_eq_true rfl) (Nat.le_of_ble_eq_true rfl) dX11_cover_116
  · replace h := Eq.trans (if_neg c1).symm h
    refine lv_aload_n hx hb dX11_cover_32 rfl (lv_at hl 0 rfl) ?_
    refine lv_iconst (v := 0) hx hb dX11_cover_33 (by decide) ?_
    by_cases c2 : hKd f a0 = some 10
    · replace h := Eq.trans (if_pos c2).symm h
      replace h := xb h
      obtain ⟨q3, eq3, h⟩ := h
      refine q_callV X Y hl.1 (rest := []) (As := [.int (0 : Int32)]) (c_X11_firstPart l G z f a0 (0 : Int32) _ eq3) cd_X11_firstPart lv_X11_183_10 c2 ⟨(Nat.le_of_ble_eq_true rfl), (Nat.le_of_ble_eq_true rfl)⟩ ⟨(Nat.le_of_ble_eq_true rfl), (Nat.le_of_ble_eq_true rfl)⟩ rfl rfl (Nat.le_of_ble_eq_true rfl) dX11_cover_34 (fun H locs Y => ?_)
      refine W.eq (g2 := F0 m 37 ls [.int q3]) rfl ?_
      refine lv_istore_n (lv' := [(3, .int q3), (0, .ref a0), (1, .int a1), (2, .int a2)]) hx hb dX11_cover_37 rfl hl (by decide) rfl (fun ls hl => ?_)
      refine lv_iload_n hx hb dX11_cover_38 rfl (lv_at hl 0 rfl) ?_
      refine lv_bipush (v := -9) hx hb dX11_cover_39 (by decide) ?_
      refine lv_icmp_eq (tgt := 54) hx hb dX11_cover_41 (by decide) (fun c4 => ?_) (fun c4 => ?_)
      · replace h := Eq.trans (if_pos c4).symm h
        refine lv_iload_n hx hb dX11_cover_54 rfl (lv_at hl 3 rfl) ?_
        replace h := Option.some.inj h
        subst h
        exact q_reti X Y hr hlocks (Nat.le_of_ble_eq_true rfl) (Nat.le_of_ble_eq_true rfl) dX11_cover_55
      · replace h := Eq.trans (if_neg c4).symm h
        refine lv_aload_n hx hb dX11_cover_44 rfl (lv_at hl 1 rfl) ?_
        refine lv_iconst (v := 3) hx hb dX11_cover_45 (by decide) ?_
        by_cases c5 : hKd f a0 = some 10
        · replace h := Eq.trans (if_pos c5).symm h
          replace h := xb h
          obtain ⟨q6, eq6, h⟩ := h
          refine q_callV X Y hl.1 (rest := []) (As := [.int (3 : Int32)]) (c_X11_firstPart l G z f a0 (3 : Int32) _ eq6) cd_X11_firstPart lv_X11_183_10 c5 ⟨(Nat.le_of_ble_eq_true rfl), (Nat.le_of_ble_eq_true rfl)⟩ ⟨(Nat.le_of_ble_eq_true rfl), (Nat.le_of_ble_eq_true rfl)⟩ rfl rfl (Nat.le_of_ble_eq_true rfl) dX11_cover_46 (fun H locs Y => ?_)
          refine W.eq (g2 := F0 m 49 ls [.int q6]) rfl ?_
          refine lv_bipush (v := -9) hx hb dX11_cover_49 (by decide) ?_
          refine lv_icmp_eq (tgt := 56) hx hb dX11_cover_51 (by decide) (fun c7 => ?_) (fun c7 => ?_)
          · replace h := Eq.trans (if_pos c7).symm h
            refine lv_aload_n hx hb dX11_cover_56 rfl (lv_at hl 1 rfl) ?_
            refine lv_iload_n hx hb dX11_cover_57 rfl (lv_at hl 0 rfl) ?_
            by_cases c8 : hKd f a0 = some 10
            · replace h := Eq.trans (if_pos c8).symm h
              replace h := xb h
              obtain ⟨q9, eq9, h⟩ := h
              refine q_callV X Y hl.1 (rest := []) (As := [.int q3]) (c_X11_judged l G z f a0 q3 _ eq9) cd_X11_judged lv_X11_186_10 c8 ⟨(Nat.le_of_ble_eq_true rfl), (Nat.le_of_ble_eq_true rfl)⟩ ⟨(Nat.le_of_ble_eq_true rfl), (Nat.le_of_ble_eq_true rfl)⟩ rfl rfl (Nat.le_of_ble_eq_true rfl) dX11_cover_58 (fun H locs Y => ?_)
              refine W.eq (g2 := F0 m 61 ls [.int q9.1]) rfl ?_
              refine lv_istore (lv' := [(4, .int q9.1), (3, .int q3), (0, .ref a0), (1, .int a1), (2, .int a2)]) hx hb dX11_cover_61 hl (by decide) rfl (fun ls hl => ?_)
              refine lv_iload hx hb dX11_cover_63 (lv_at hl 0 rfl) ?_
              refine lv_if_ne (tgt := 88) hx hb dX11_cover_65 (by decide) (fun c10 => ?_) (fun c10 => ?_)
              · replace h := Eq.trans (if_neg c10).symm h
                refine W.widen (k := 0) (n := 0) (Nat.le_of_ble_eq_true rfl) (Nat.le_of_ble_eq_true rfl) ?_
                exact w_X11_cover_88 X hr hlocks hin rs k27 hk27  q9.2 a0 a1 a2 q3 q9.1 _ _ _ h Y (lv_sub hl [2, 3, 4, 1, 0] rfl)
              · replace h := Eq.trans (if_pos c10).symm h
                refine lv_aload_n hx hb dX11_cover_68 rfl (lv_at hl 2 rfl) ?_
                replace h := xb h
                obtain ⟨v11, ev11, h⟩ := h
                refine q_getI X Y fl_X11_159 ev11 dX11_cover_69 ?_
                refine lv_bipush (v := 40) hx hb dX11_cover_72 (by decide) ?_
                refine lv_icmp_ne (tgt := 88) hx hb dX11_cover_74 (by decide) (fun c12 => ?_) (fun c12 => ?_)
                · replace h := Eq.trans (if_neg c12).symm h
                  refine W.widen (k := 0) (n := 0) (Nat.le_of_ble_eq_true rfl) (Nat.le_of_ble_eq_true rfl) ?_
                  exact w_X11_cover_88 X hr hlocks hin rs k27 hk27  q9.2 a0 a1 a2 q3 q9.1 _ _ _ h Y (lv_sub hl [2, 3, 4, 1, 0] rfl)
                · replace h := Eq.trans (if_pos c12).symm h
                  refine lv_iload_n hx hb dX11_cover_77 rfl (lv_at hl 4 rfl) ?_
                  refine lv_if_ne (tgt := 86) hx hb dX11_cover_78 (by decide) (fun c13 => ?_) (fun c13 => ?_)
                  · replace h := Eq.trans (if_neg c13).symm h
                    refine lv_iload_n hx hb dX11_cover_86 rfl (lv_at hl 4 rfl) ?_
                    replace h := Option.some.inj h
                    subst h
                    exact q_reti X Y hr hlocks (Nat.le_of_ble_eq_true rfl) (Nat.le_of_ble_eq_true rfl) dX11_cover_87
                  · replace h := Eq.trans (if_pos c13).symm h
                    refine lv_bipush (v := -4) hx hb dX11_cover_81 (by decide) ?_
                    refine lv_goto (tgt := 87) hx hb dX11_cover_83 (by decide) ?_
                    replace h := Option.some.inj h
                    subst h
                    exact q_reti X Y hr hlocks (Nat.le_of_ble_eq_true rfl) (Nat.le_of_ble_eq_true rfl) dX11_cover_87
            replace h := Eq.trans (if_neg c8).symm h
            cases h
          · replace h := Eq.trans (if_neg c7).symm h
            refine lv_iload_n hx hb dX11_cover_54 rfl (lv_at hl 3 rfl) ?_
            replace h := Option.some.inj h
            subst h
            exact q_reti X Y hr hlocks (Nat.le_of_ble_eq_true rfl) (Nat.le_of_ble_eq_true rfl) dX11_cover_55
        replace h := Eq.trans (if_neg c5).symm h
        cases h
    replace h := Eq.trans (if_neg c2).symm h
    cases h
set_option maxRecDepth 100000 in
set_option maxHeartbeats 4000000 in
theorem lw_X11_cover_27 {p : Program} {l : Launch} {e : Env} {s : State} {m : MethodId} {args : Array Value} {below : List Frame} {meth : Method} {c : Code} {G : xG} {z : Nat} (X : xC G p m c s args RX11 cX11_cover 5) (hr : meth.sig.returnType = (some .int)) (hlocks : meth.locks = false) (hin : meth.name = yX11_cover.name) (rs : Int32 × xHp)  : ∀ (n : Nat) (f : xHp) (a0 : Nat) (a1 : Int32) (a2 : Int32) (H : Heap) (locs : List Loc) (ls : Array Slot), L_X11_cover_27  n f a0 a1 a2 = some rs → xY G z f s H locs → lv_has ls 5 [(0, .ref a0), (1, .int a1), (2, .int a2)] → W p l e rm_X11_cover s m args below meth c H locs 0 0 (MQ below (xQ G (some (.int rs.1)) z rs.2) args s rm_X11_cover.cells rm_X11_cover.slots (xA G)) (F0 m 27 ls []) := by
  intro n
  induction n with
  | zero => intro f a0 a1 a2 H locs ls h Y hl; cases h
  | succ n ih => intro f a0 a1 a2 H locs ls h Y hl; exact w_X11_cover_27 X hr hlocks hin rs _ ih f a0 a1 a2 _ _ _ h Y hl
set_option maxRecDepth 100000 in
set_option maxHeartbeats 4000000 in
theorem c_X11_cover (l : Launch) (G : xG) (z : Nat) (f : xHp) (h0 : Nat) (p1 : Int32) (rs : Int32 × xHp) (h : F_X11_cover f h0 p1 = some rs) : xM G l yX11_cover cX11_cover 5 (some .int) rm_X11_cover [.ref h0, .int p1] z f (some (.int rs.1)) z rs.2 := by
  refine xM_of (by decide) (Nat.le_of_ble_eq_true rfl) ?_
  intro p e s m below meth c ls X hr hlocks hin Y hl
  have hl : lv_has ls 5 [(0, .ref h0), (1, .int p1)] := hl
  have hx := X.1.1
  have hb := X.1.2.1
  unfold F_X11_cover at h
  refine lv_iload_n hx hb dX11_cover_0 rfl (lv_at hl 1 rfl) ?_
  refine lv_i2l hx hb dX11_cover_1 rfl ?_
  refine lv_lconst (v := 0) hx hb dX11_cover_2 (by decide) ?_
  refine lv_ldc2 (v := 500) hx hb X.1.2.2.2.1 (X.1.2.2.2.2 _ xw_1054) dX11_cover_3 ?_
  replace h := xb h
  obtain ⟨q1, eq1, h⟩ := h
  refine q_callS X Y hl.1 (rest := []) (As := [.long p1.toInt64, .long (0 : Int64), .long (500 : Int64)]) (c_X11_within l G z f p1.toInt64 (0 : Int64) (500 : Int64) _ eq1) cd_X11_within ls_X11_82 ⟨(Nat.le_of_ble_eq_true rfl), (Nat.le_of_ble_eq_true rfl)⟩ ⟨(Nat.le_of_ble_eq_true rfl), (Nat.le_of_ble_eq_true rfl)⟩ rfl rfl (Nat.le_of_ble_eq_true rfl) dX11_cover_6 (fun H locs Y => ?_)
  refine W.eq (g2 := F0 m 9 ls [.int q1]) rfl ?_
  refine lv_if_ne (tgt := 15) hx hb dX11_cover_9 (by decide) (fun c2 => ?_) (fun c2 => ?_)
  · replace h := Eq.trans (if_neg c2).symm h
    refine lv_aload_n hx hb dX11_cover_15 rfl (lv_at hl 0 rfl) ?_
    replace h := xb h
    obtain ⟨v3, ev3, h⟩ := h
    refine q_getI X Y fl_X11_159 ev3 dX11_cover_16 ?_
    refine lv_if_ne (tgt := 25) hx hb dX11_cover_19 (by decide) (fun c4 => ?_) (fun c4 => ?_)
    · replace h := Eq.trans (if_neg c4).symm h
      refine lv_iconst (v := 0) hx hb dX11_cover_25 (by decide) ?_
      refine lv_istore_n (lv' := [(2, .int (0 : Int32)), (0, .ref h0), (1, .int p1)]) hx hb dX11_cover_26 rfl hl (by decide) rfl (fun ls hl => ?_)
      refine W.widen (k := 0) (n := 0) (Nat.le_of_ble_eq_true rfl) (Nat.le_of_ble_eq_true rfl) ?_
      exact lw_X11_cover_27 X hr hlocks hin rs  xfuel f h0 p1 (0 : Int32) _ _ _ h Y (lv_sub hl [1, 2, 0] rfl)
    · replace h := Eq.trans (if_pos c4).symm h
      refine lv_bipush (v := -3) hx hb dX11_cover_22 (by decide) ?_
      replace h := Option.some.inj h
      subst h
      exact q_reti X Y hr hlocks (Nat.le_of_ble_eq_true rfl) (Nat.le_of_ble_eq_true rfl) dX11_cover_24
  · replace h := Eq.trans (if_pos c2).symm h
    refine lv_bipush (v := -2) hx hb dX11_cover_12 (by decide) ?_
    replace h := Option.some.inj h
    subst h
    exact q_reti X Y hr hlocks (Nat.le_of_ble_eq_true rfl) (Nat.le_of_ble_eq_true rfl) dX11_cover_14
/-! NeverBelowModel.countParts(I)I -/
abbrev rm_X11_countParts : Room := { frames := 0, cells := 0, slots := 0, locals := 0 }
def F_X11_countParts_28 (f : xHp) (k4 : Nat → Int32 → Int32 → Int32 → Option (Int32))  (a0 : Nat) (a1 : Int32) (a3 : Int32) (s0 : Int32) (s1 : Int32) : Option (Int32) := k4 a0 a1 (s1 + s0) (a3 + 1)
def F_X11_countParts_4 (f : xHp) (k4 : Nat → Int32 → Int32 → Int32 → Option (Int32))  (a0 : Nat) (a1 : Int32) (a2 : Int32) (a3 : Int32) : Option (Int32) := Option.bind (hI f a0 [(10, 12)]) fun v1 => if v1 ≤ a3 then (some a2) else (Option.bind (hN f a0 [(10, 14)]) fun v3 => Option.bind (hIld f v3 a3) fun v4 => if v4 = a1 then (F_X11_countParts_28 f k4 a0 a1 a3 (1 : Int32) a2) else (F_X11_countParts_28 f k4 a0 a1 a3 (0 : Int32) a2))
def L_X11_countParts_4 (f : xHp)  : Nat → Nat → Int32 → Int32 → Int32 → Option (Int32)
  | 0, _, _, _, _ => none
  | n + 1, a0, a1, a2, a3 => F_X11_countParts_4 f (L_X11_countParts_4 f  n) a0 a1 a2 a3
def F_X11_countParts (f : xHp) (h0 : Nat) (p1 : Int32) : Option (Int32) := L_X11_countParts_4 f xfuel h0 p1 (0 : Int32) (0 : Int32)
set_option maxRecDepth 100000 in
set_option maxHeartbeats 4000000 in
theorem w_X11_countParts_28 {p : Program} {l : Launch} {e : Env} {s : State} {m : MethodId} {args : Array Value} {below : List Frame} {meth : Method} {c : Code} {G : xG} {z : Nat} {f : xHp} (X : xC G p m c s args RX11 cX11_countParts 4) (hr : meth.sig.returnType = (some .int)) (hlocks : meth.locks = false) (hin : meth.name = yX11_countParts.name) (rs : Int32) (k4 : Nat → Int32 → Int32 → Int32 → Option (Int32)) (hk4 : ∀ (a0 : Nat) (a1 : Int32) (a2 : Int32) (a3 : Int32) (H : Heap) (locs : List Loc) (ls : Array Slot), k4 a0 a1 a2 a3 = some rs → xY G z f s H locs → lv_has ls 4 [(0, .ref a0), (1, .int a1), (2, .int a2), (3, .int a3)] → W p l e rm_X11_countParts s m args below meth c H locs 0 0 (MQ below (xQ G (some (.int rs)) z f) args s rm_X11_countParts.cells rm_X11_countParts.slots (xA G)) (F0 m 4 ls [])) (a0 : Nat) (a1 : Int32) (a3 : Int32) (s0 : Int32) (s1 : Int32) (H : Heap) (locs : List Loc) (ls : Array Slot) (h : F_X11_countParts_28 f k4 a0 a1 a3 s0 s1 = some rs) (Y : xY G z f s H locs) (hl : lv_has ls 4 [(0, .ref a0), (1, .int a1), (3, .int a3)]) : W p l e rm_X11_countParts s m args below meth c H locs 0 0 (MQ below (xQ G (some (.int rs)) z f) args s rm_X11_countParts.cells rm_X11_countParts.slots (xA G)) (F0 m 28 ls [.int s0, .int s1]) := by
  have hx := X.1.1
  have hb := X.1.2.1
  unfold F_X11_countParts_28 at h
  refine lv_iadd hx hb dX11_countParts_28 ?_
  refine lv_istore_n (lv' := [(2, .int (s1 + s0)), (0, .ref a0), (1, .int a1), (3, .int a3)]) hx hb dX11_countParts_29 rfl hl (by decide) rfl (fun ls hl => ?_)
  refine lv_iinc (v := (a3 + 1)) (lv' := [(3, .int (a3 + 1)), (2, .int (s1 + s0)), (0, .ref a0), (1, .int a1)]) hx hb dX11_countParts_30 hl (k := 3) rfl rfl (by decide) rfl (fun ls hl => ?_)
  refine lv_goto (tgt := 4) hx hb dX11_countParts_33 (by decide) ?_
  refine W.widen (k := 0) (n := 0) (Nat.le_of_ble_eq_true rfl) (Nat.le_of_ble_eq_true rfl) ?_
  exact hk4 a0 a1 (s1 + s0) (a3 + 1) _ _ _ h Y (lv_sub hl [2, 3, 1, 0] rfl)
set_option maxRecDepth 100000 in
set_option maxHeartbeats 4000000 in
theorem w_X11_countParts_4 {p : Program} {l : Launch} {e : Env} {s : State} {m : MethodId} {args : Array Value} {below : List Frame} {meth : Method} {c : Code} {G : xG} {z : Nat} {f : xHp} (X : xC G p m c s args RX11 cX11_countParts 4) (hr : meth.sig.returnType = (some .int)) (hlocks : meth.locks = false) (hin : meth.name = yX11_countParts.name) (rs : Int32) (k4 : Nat → Int32 → Int32 → Int32 → Option (Int32)) (hk4 : ∀ (a0 : Nat) (a1 : Int32) (a2 : Int32) (a3 : Int32) (H : Heap) (locs : List Loc) (ls : Array Slot), k4 a0 a1 a2 a3 = some rs → xY G z f s H locs → lv_has ls 4 [(0, .ref a0), (1, .int a1), (2, .int a2), (3, .int a3)] → W p l e rm_X11_countParts s m args below meth c H locs 0 0 (MQ below (xQ G (some (.int rs)) z f) args s rm_X11_countParts.cells rm_X11_countParts.slots (xA G)) (F0 m 4 ls [])) (a0 : Nat) (a1 : Int32) (a2 : Int32) (a3 : Int32) (H : Heap) (locs : List Loc) (ls : Array Slot) (h : F_X11_countParts_4 f k4 a0 a1 a2 a3 = some rs) (Y : xY G z f s H locs) (hl : lv_has ls 4 [(0, .ref a0), (1, .int a1), (2, .int a2), (3, .int a3)]) : W p l e rm_X11_countParts s m args below meth c H locs 0 0 (MQ below (xQ G (some (.int rs)) z f) args s rm_X11_countParts.cells rm_X11_countParts.slots (xA G)) (F0 m 4 ls []) := by
  have hx := X.1.1
  have hb := X.1.2.1
  unfold F_X11_countParts_4 at h
  refine lv_iload_n hx hb dX11_countParts_4 rfl (lv_at hl 3 rfl) ?_
  refine lv_aload_n hx hb dX11_countParts_5 rfl (lv_at hl 0 rfl) ?_
  replace h := xb h
  obtain ⟨v1, ev1, h⟩ := h
  refine q_getI X Y fl_X11_159 ev1 dX11_countParts_6 ?_
  refine lv_icmp_ge (tgt := 36) hx hb dX11_countParts_9 (by decide) (fun c2 => ?_) (fun c2 => ?_)
  · replace h := Eq.trans (if_pos c2).symm h
    refine lv_iload_n hx hb dX11_countParts_36 rfl (lv_at hl 2 rfl) ?_
    replace h := Option.some.inj h
    subst h
    exact q_reti X Y hr hlocks (Nat.le_of_ble_eq_true rfl) (Nat.le_of_ble_eq_true rfl) dX11_countParts_37
  · replace h := Eq.trans (if_neg c2).symm h
    refine lv_iload_n hx hb dX11_countParts_12 rfl (lv_at hl 2 rfl) ?_
    refine lv_aload_n hx hb dX11_countParts_13 rfl (lv_at hl 0 rfl) ?_
    replace h := xb h
    obtain ⟨v3, ev3, h⟩ := h
    refine q_getN X Y fl_X11_32 ev3 dX11_countParts_14 ?_
    refine lv_iload_n hx hb dX11_countParts_17 rfl (lv_at hl 3 rfl) ?_
    replace h := xb h
    obtain ⟨v4, ev4, h⟩ := h
    refine q_iald X Y ev4 dX11_countParts_18 ?_
    refine lv_iload_n hx hb dX11_countParts_19 rfl (lv_at hl 1 rfl) ?_
    refine lv_icmp_ne (tgt := 27) hx hb dX11_countParts_20 (by decide) (fun c5 => ?_) (fun c5 => ?_)
    · replace h := Eq.trans (if_neg c5).symm h
      refine lv_iconst (v := 0) hx hb dX11_countParts_27 (by decide) ?_
      refine W.widen (k := 0) (n := 0) (Nat.le_of_ble_eq_true rfl) (Nat.le_of_ble_eq_true rfl) ?_
      exact w_X11_countParts_28 X hr hlocks hin rs k4 hk4  a0 a1 a3 (0 : Int32) a2 _ _ _ h Y (lv_sub hl [0, 1, 3] rfl)
    · replace h := Eq.trans (if_pos c5).symm h
      refine lv_iconst (v := 1) hx hb dX11_countParts_23 (by decide) ?_
      refine lv_goto (tgt := 28) hx hb dX11_countParts_24 (by decide) ?_
      refine W.widen (k := 0) (n := 0) (Nat.le_of_ble_eq_true rfl) (Nat.le_of_ble_eq_true rfl) ?_
      exact w_X11_countParts_28 X hr hlocks hin rs k4 hk4  a0 a1 a3 (1 : Int32) a2 _ _ _ h Y (lv_sub hl [0, 1, 3] rfl)
set_option maxRecDepth 100000 in
set_option maxHeartbeats 4000000 in
theorem lw_X11_countParts_4 {p : Program} {l : Launch} {e : Env} {s : State} {m : MethodId} {args : Array Value} {below : List Frame} {meth : Method} {c : Code} {G : xG} {z : Nat} {f : xHp} (X : xC G p m c s args RX11 cX11_countParts 4) (hr : meth.sig.returnType = (some .int)) (hlocks : meth.locks = false) (hin : meth.name = yX11_countParts.name) (rs : Int32)  : ∀ (n : Nat) (a0 : Nat) (a1 : Int32) (a2 : Int32) (a3 : Int32) (H : Heap) (locs : List Loc) (ls : Array Slot), L_X11_countParts_4 f  n a0 a1 a2 a3 = some rs → xY G z f s H locs → lv_has ls 4 [(0, .ref a0), (1, .int a1), (2, .int a2), (3, .int a3)] → W p l e rm_X11_countParts s m args below meth c H locs 0 0 (MQ below (xQ G (some (.int rs)) z f) args s rm_X11_countParts.cells rm_X11_countParts.slots (xA G)) (F0 m 4 ls []) := by
  intro n
  induction n with
  | zero => intro a0 a1 a2 a3 H locs ls h Y hl; cases h
  | succ n ih => intro a0 a1 a2 a3 H locs ls h Y hl; exact w_X11_countParts_4 X hr hlocks hin rs _ ih a0 a1 a2 a3 _ _ _ h Y hl
set_option maxRecDepth 100000 in
set_option maxHeartbeats 4000000 in
theorem c_X11_countParts (l : Launch) (G : xG) (z : Nat) (f : xHp) (h0 : Nat) (p1 : Int32) (rs : Int32) (h : F_X11_countParts f h0 p1 = some rs) : xM G l yX11_countParts cX11_countParts 4 (some .int) rm_X11_countParts [.ref h0, .int p1] z f (some (.int rs)) z f := by
  refine xM_of (by decide) (Nat.le_of_ble_eq_true rfl) ?_
  intro p e s m below meth c ls X hr hlocks hin Y hl
  have hl : lv_has ls 4 [(0, .ref h0), (1, .int p1)] := hl
  have hx := X.1.1
  have hb := X.1.2.1
  unfold F_X11_countParts at h
  refine lv_iconst (v := 0) hx hb dX11_countParts_0 (by decide) ?_
  refine lv_istore_n (lv' := [(2, .int (0 : Int32)), (0, .ref h0), (1, .int p1)]) hx hb dX11_countParts_1 rfl hl (by decide) rfl (fun ls hl => ?_)
  refine lv_iconst (v := 0) hx hb dX11_countParts_2 (by decide) ?_
  refine lv_istore_n (lv' := [(3, .int (0 : Int32)), (2, .int (0 : Int32)), (0, .ref h0), (1, .int p1)]) hx hb dX11_countParts_3 rfl hl (by decide) rfl (fun ls hl => ?_)
  refine W.widen (k := 0) (n := 0) (Nat.le_of_ble_eq_true rfl) (Nat.le_of_ble_eq_true rfl) ?_
  exact lw_X11_countParts_4 X hr hlocks hin rs  xfuel h0 p1 (0 : Int32) (0 : Int32) _ _ _ h Y (lv_sub hl [2, 3, 1, 0] rfl)
/-! NeverBelowModel.open(I)I -/
abbrev rm_X11_open : Room := { frames := 1, cells := 0, slots := 0, locals := 23 }
def F_X11_open (f : xHp) (h0 : Nat) (p1 : Int32) : Option (Int32) := if p1 = 0 then Option.bind (hI f h0 [(10, 12)]) fun v2 => some v2 else if p1 = 1 then if hKd f h0 = some 10 then (Option.bind (F_X11_countParts f h0 (0 : Int32)) fun q5 => some q5) else none else if p1 = 2 then if hKd f h0 = some 10 then (Option.bind (F_X11_countParts f h0 (1 : Int32)) fun q8 => some q8) else none else if p1 = 3 then if hKd f h0 = some 10 then (Option.bind (F_X11_countParts f h0 (2 : Int32)) fun q11 => some q11) else none else if p1 = 4 then if hKd f h0 = some 10 then (Option.bind (F_X11_countParts f h0 (3 : Int32)) fun q14 => some q14) else none else some (-2 : Int32)
set_option maxRecDepth 100000 in
set_option maxHeartbeats 4000000 in
theorem c_X11_open (l : Launch) (G : xG) (z : Nat) (f : xHp) (h0 : Nat) (p1 : Int32) (rs : Int32) (h : F_X11_open f h0 p1 = some rs) : xM G l yX11_open cX11_open 2 (some .int) rm_X11_open [.ref h0, .int p1] z f (some (.int rs)) z f := by
  refine xM_of (by decide) (Nat.le_of_ble_eq_true rfl) ?_
  intro p e s m below meth c ls X hr hlocks hin Y hl
  have hl : lv_has ls 2 [(0, .ref h0), (1, .int p1)] := hl
  have hx := X.1.1
  have hb := X.1.2.1
  unfold F_X11_open at h
  refine lv_iload_n hx hb dX11_open_0 rfl (lv_at hl 1 rfl) ?_
  by_cases c1 : p1 = 0
  · replace h := Eq.trans (if_pos c1).symm h
    refine lv_tableIn (tgt := 36) hx hb dX11_open_1 (by rw [c1]; decide) (by rw [c1]; decide) (by rw [c1]; rfl) (by decide) ?_
    refine lv_aload_n hx hb dX11_open_36 rfl (lv_at hl 0 rfl) ?_
    replace h := xb h
    obtain ⟨v2, ev2, h⟩ := h
    refine q_getI X Y fl_X11_159 ev2 dX11_open_37 ?_
    replace h := Option.some.inj h
    subst h
    exact q_reti X Y hr hlocks (Nat.le_of_ble_eq_true rfl) (Nat.le_of_ble_eq_true rfl) dX11_open_40
  replace h := Eq.trans (if_neg c1).symm h
  by_cases c3 : p1 = 1
  · replace h := Eq.trans (if_pos c3).symm h
    refine lv_tableIn (tgt := 41) hx hb dX11_open_1 (by rw [c3]; decide) (by rw [c3]; decide) (by rw [c3]; rfl) (by decide) ?_
    refine lv_aload_n hx hb dX11_open_41 rfl (lv_at hl 0 rfl) ?_
    refine lv_iconst (v := 0) hx hb dX11_open_42 (by decide) ?_
    by_cases c4 : hKd f h0 = some 10
    · replace h := Eq.trans (if_pos c4).symm h
      replace h := xb h
      obtain ⟨q5, eq5, h⟩ := h
      refine q_callV X Y hl.1 (rest := []) (As := [.int (0 : Int32)]) (c_X11_countParts l G z f h0 (0 : Int32) _ eq5) cd_X11_countParts lv_X11_192_10 c4 ⟨(Nat.le_of_ble_eq_true rfl), (Nat.le_of_ble_eq_true rfl)⟩ ⟨(Nat.le_of_ble_eq_true rfl), (Nat.le_of_ble_eq_true rfl)⟩ rfl rfl (Nat.le_of_ble_eq_true rfl) dX11_open_43 (fun H locs Y => ?_)
      refine W.eq (g2 := F0 m 46 ls [.int q5]) rfl ?_
      replace h := Option.some.inj h
      subst h
      exact q_reti X Y hr hlocks (Nat.le_of_ble_eq_true rfl) (Nat.le_of_ble_eq_true rfl) dX11_open_46
    replace h := Eq.trans (if_neg c4).symm h
    cases h
  replace h := Eq.trans (if_neg c3).symm h
  by_cases c6 : p1 = 2
  · replace h := Eq.trans (if_pos c6).symm h
    refine lv_tableIn (tgt := 47) hx hb dX11_open_1 (by rw [c6]; decide) (by rw [c6]; decide) (by rw [c6]; rfl) (by decide) ?_
    refine lv_aload_n hx hb dX11_open_47 rfl (lv_at hl 0 rfl) ?_
    refine lv_iconst (v := 1) hx hb dX11_open_48 (by decide) ?_
    by_cases c7 : hKd f h0 = some 10
    · replace h := Eq.trans (if_pos c7).symm h
      replace h := xb h
      obtain ⟨q8, eq8, h⟩ := h
      refine q_callV X Y hl.1 (rest := []) (As := [.int (1 : Int32)]) (c_X11_countParts l G z f h0 (1 : Int32) _ eq8) cd_X11_countParts lv_X11_192_10 c7 ⟨(Nat.le_of_ble_eq_true rfl), (Nat.le_of_ble_eq_true rfl)⟩ ⟨(Nat.le_of_ble_eq_true rfl), (Nat.le_of_ble_eq_true rfl)⟩ rfl rfl (Nat.le_of_ble_eq_true rfl) dX11_open_49 (fun H locs Y => ?_)
      refine W.eq (g2 := F0 m 52 ls [.int q8]) rfl ?_
      replace h := Option.some.inj h
      subst h
      exact q_reti X Y hr hlocks (Nat.le_of_ble_eq_true rfl) (Nat.le_of_ble_eq_true rfl) dX11_open_52
    replace h := Eq.trans (if_neg c7).symm h
    cases h
  replace h := Eq.trans (if_neg c6).symm h
  by_cases c9 : p1 = 3
  · replace h := Eq.trans (if_pos c9).symm h
    refine lv_tableIn (tgt := 53) hx hb dX11_open_1 (by rw [c9]; decide) (by rw [c9]; decide) (by rw [c9]; rfl) (by decide) ?_
    refine lv_aload_n hx hb dX11_open_53 rfl (lv_at hl 0 rfl) ?_
    refine lv_iconst (v := 2) hx hb dX11_open_54 (by decide) ?_
    by_cases c10 : hKd f h0 = some 10
    · replace h := Eq.trans (if_pos c10).symm h
      replace h := xb h
      obtain ⟨q11, eq11, h⟩ := h
      refine q_callV X Y hl.1 (rest := []) (As := [.int (2 : Int32)]) (c_X11_countParts l G z f h0 (2 : Int32) _ eq11) cd_X11_countParts lv_X11_192_10 c10 ⟨(Nat.le_of_ble_eq_true rfl), (Nat.le_of_ble_eq_true rfl)⟩ ⟨(Nat.le_of_ble_eq_true rfl), (Nat.le_of_ble_eq_true rfl)⟩ rfl rfl (Nat.le_of_ble_eq_true rfl) dX11_open_55 (fun H locs Y => ?_)
      refine W.eq (g2 := F0 m 58 ls [.int q11]) rfl ?_
      replace h := Option.some.inj h
      subst h
      exact q_reti X Y hr hlocks (Nat.le_of_ble_eq_true rfl) (Nat.le_of_ble_eq_true rfl) dX11_open_58
    replace h := Eq.trans (if_neg c10).symm h
    cases h
  replace h := Eq.trans (if_neg c9).symm h
  by_cases c12 : p1 = 4
  · replace h := Eq.trans (if_pos c12).symm h
    refine lv_tableIn (tgt := 59) hx hb dX11_open_1 (by rw [c12]; decide) (by rw [c12]; decide) (by rw [c12]; rfl) (by decide) ?_
    refine lv_aload_n hx hb dX11_open_59 rfl (lv_at hl 0 rfl) ?_
    refine lv_iconst (v := 3) hx hb dX11_open_60 (by decide) ?_
    by_cases c13 : hKd f h0 = some 10
    · replace h := Eq.trans (if_pos c13).symm h
      replace h := xb h
      obtain ⟨q14, eq14, h⟩ := h
      refine q_callV X Y hl.1 (rest := []) (As := [.int (3 : Int32)]) (c_X11_countParts l G z f h0 (3 : Int32) _ eq14) cd_X11_countParts lv_X11_192_10 c13 ⟨(Nat.le_of_ble_eq_true rfl), (Nat.le_of_ble_eq_true rfl)⟩ ⟨(Nat.le_of_ble_eq_true rfl), (Nat.le_of_ble_eq_true rfl)⟩ rfl rfl (Nat.le_of_ble_eq_true rfl) dX11_open_61 (fun H locs Y => ?_)
      refine W.eq (g2 := F0 m 64 ls [.int q14]) rfl ?_
      replace h := Option.some.inj h
      subst h
      exact q_reti X Y hr hlocks (Nat.le_of_ble_eq_true rfl) (Nat.le_of_ble_eq_true rfl) dX11_open_64
    replace h := Eq.trans (if_neg c13).symm h
    cases h
  replace h := Eq.trans (if_neg c12).symm h
  have nc1 := xneI (k := 0) (by decide) c1
  have nc3 := xneI (k := 1) (by decide) c3
  have nc6 := xneI (k := 2) (by decide) c6
  have nc9 := xneI (k := 3) (by decide) c9
  have nc12 := xneI (k := 4) (by decide) c12
  refine lv_tableOut (tgt := 65) hx hb dX11_open_1 (by omega) (by decide) ?_
  refine lv_bipush (v := -2) hx hb dX11_open_65 (by decide) ?_
  replace h := Option.some.inj h
  subst h
  exact q_reti X Y hr hlocks (Nat.le_of_ble_eq_true rfl) (Nat.le_of_ble_eq_true rfl) dX11_open_67
/-! NeverBelowModel.partly(II)I -/
abbrev rm_X11_partly : Room := { frames := 1, cells := 0, slots := 0, locals := 25 }
def F_X11_partly (f : xHp) (h0 : Nat) (p1 : Int32) (p2 : Int32) : Option (Int32) := Option.bind (hI f h0 [(10, 12)]) fun v1 => Option.bind (F_X11_within f p1.toInt64 (0 : Int64) (v1.toInt64 - (1 : Int64))) fun q2 => if q2 = 0 then (some (-1 : Int32)) else (if p2 = (4 : Int32) then (Option.bind (hN f h0 [(10, 14)]) fun v9 => Option.bind (hIld f v9 p1) fun v10 => some v10) else (Option.bind (F_X11_within f p2.toInt64 (0 : Int64) (3 : Int64)) fun q5 => if q5 = 0 then (some (-2 : Int32)) else (Option.bind (hN f h0 [(10, 13)]) fun v7 => Option.bind (hIld f v7 (((4 : Int32) * p1) + p2)) fun v8 => some v8)))
set_option maxRecDepth 100000 in
set_option maxHeartbeats 4000000 in
theorem c_X11_partly (l : Launch) (G : xG) (z : Nat) (f : xHp) (h0 : Nat) (p1 : Int32) (p2 : Int32) (rs : Int32) (h : F_X11_partly f h0 p1 p2 = some rs) : xM G l yX11_partly cX11_partly 3 (some .int) rm_X11_partly [.ref h0, .int p1, .int p2] z f (some (.int rs)) z f := by
  refine xM_of (by decide) (Nat.le_of_ble_eq_true rfl) ?_
  intro p e s m below meth c ls X hr hlocks hin Y hl
  have hl : lv_has ls 3 [(0, .ref h0), (1, .int p1), (2, .int p2)] := hl
  have hx := X.1.1
  have hb := X.1.2.1
  unfold F_X11_partly at h
  refine lv_iload_n hx hb dX11_partly_0 rfl (lv_at hl 1 rfl) ?_
  refine lv_i2l hx hb dX11_partly_1 rfl ?_
  refine lv_lconst (v := 0) hx hb dX11_partly_2 (by decide) ?_
  refine lv_aload_n hx hb dX11_partly_3 rfl (lv_at hl 0 rfl) ?_
  replace h := xb h
  obtain ⟨v1, ev1, h⟩ := h
  refine q_getI X Y fl_X11_159 ev1 dX11_partly_4 ?_
  refine lv_i2l hx hb dX11_partly_7 rfl ?_
  refine lv_lconst (v := 1) hx hb dX11_partly_8 (by decide) ?_
  refine lv_lsub hx hb dX11_partly_9 ?_
  replace h := xb h
  obtain ⟨q2, eq2, h⟩ := h
  refine q_callS X Y hl.1 (rest := []) (As := [.long p1.toInt64, .long (0 : Int64), .long (v1.toInt64 - (1 : Int64))]) (c_X11_within l G z f p1.toInt64 (0 : Int64) (v1.toInt64 - (1 : Int64)) _ eq2) cd_X11_within ls_X11_82 ⟨(Nat.le_of_ble_eq_true rfl), (Nat.le_of_ble_eq_true rfl)⟩ ⟨(Nat.le_of_ble_eq_true rfl), (Nat.le_of_ble_eq_true rfl)⟩ rfl rfl (Nat.le_of_ble_eq_true rfl) dX11_partly_10 (fun H locs Y => ?_)
  refine W.eq (g2 := F0 m 13 ls [.int q2]) rfl ?_
  refine lv_if_ne (tgt := 18) hx hb dX11_partly_13 (by decide) (fun c3 => ?_) (fun c3 => ?_)
  · replace h := Eq.trans (if_neg c3).symm h
    refine lv_iload_n hx hb dX11_partly_18 rfl (lv_at hl 2 rfl) ?_
    refine lv_iconst (v := 4) hx hb dX11_partly_19 (by decide) ?_
    refine lv_icmp_ne (tgt := 30) hx hb dX11_partly_20 (by decide) (fun c4 => ?_) (fun c4 => ?_)
    · replace h := Eq.trans (if_neg c4).symm h
      refine lv_iload_n hx hb dX11_partly_30 rfl (lv_at hl 2 rfl) ?_
      refine lv_i2l hx hb dX11_partly_31 rfl ?_
      refine lv_lconst (v := 0) hx hb dX11_partly_32 (by decide) ?_
      refine lv_ldc2 (v := 3) hx hb X.1.2.2.2.1 (X.1.2.2.2.2 _ xw_919) dX11_partly_33 ?_
      replace h := xb h
      obtain ⟨q5, eq5, h⟩ := h
      refine q_callS X Y hl.1 (rest := []) (As := [.long p2.toInt64, .long (0 : Int64), .long (3 : Int64)]) (c_X11_within l G z f p2.toInt64 (0 : Int64) (3 : Int64) _ eq5) cd_X11_within ls_X11_82 ⟨(Nat.le_of_ble_eq_true rfl), (Nat.le_of_ble_eq_true rfl)⟩ ⟨(Nat.le_of_ble_eq_true rfl), (Nat.le_of_ble_eq_true rfl)⟩ rfl rfl (Nat.le_of_ble_eq_true rfl) dX11_partly_36 (fun H locs Y => ?_)
      refine W.eq (g2 := F0 m 39 ls [.int q5]) rfl ?_
      refine lv_if_eq (tgt := 55) hx hb dX11_partly_39 (by decide) (fun c6 => ?_) (fun c6 => ?_)
      · replace h := Eq.trans (if_pos c6).symm h
        refine lv_bipush (v := -2) hx hb dX11_partly_55 (by decide) ?_
        replace h := Option.some.inj h
        subst h
        exact q_reti X Y hr hlocks (Nat.le_of_ble_eq_true rfl) (Nat.le_of_ble_eq_true rfl) dX11_partly_57
      · replace h := Eq.trans (if_neg c6).symm h
        refine lv_aload_n hx hb dX11_partly_42 rfl (lv_at hl 0 rfl) ?_
        replace h := xb h
        obtain ⟨v7, ev7, h⟩ := h
        refine q_getN X Y fl_X11_29 ev7 dX11_partly_43 ?_
        refine lv_iconst (v := 4) hx hb dX11_partly_46 (by decide) ?_
        refine lv_iload_n hx hb dX11_partly_47 rfl (lv_at hl 1 rfl) ?_
        refine lv_imul hx hb dX11_partly_48 ?_
        refine lv_iload_n hx hb dX11_partly_49 rfl (lv_at hl 2 rfl) ?_
        refine lv_iadd hx hb dX11_partly_50 ?_
        replace h := xb h
        obtain ⟨v8, ev8, h⟩ := h
        refine q_iald X Y ev8 dX11_partly_51 ?_
        refine lv_goto (tgt := 57) hx hb dX11_partly_52 (by decide) ?_
        replace h := Option.some.inj h
        subst h
        exact q_reti X Y hr hlocks (Nat.le_of_ble_eq_true rfl) (Nat.le_of_ble_eq_true rfl) dX11_partly_57
    · replace h := Eq.trans (if_pos c4).symm h
      refine lv_aload_n hx hb dX11_partly_23 rfl (lv_at hl 0 rfl) ?_
      replace h := xb h
      obtain ⟨v9, ev9, h⟩ := h
      refine q_getN X Y fl_X11_32 ev9 dX11_partly_24 ?_
      refine lv_iload_n hx hb dX11_partly_27 rfl (lv_at hl 1 rfl) ?_
      replace h := xb h
      obtain ⟨v10, ev10, h⟩ := h
      refine q_iald X Y ev10 dX11_partly_28 ?_
      replace h := Option.some.inj h
      subst h
      exact q_reti X Y hr hlocks (Nat.le_of_ble_eq_true rfl) (Nat.le_of_ble_eq_true rfl) dX11_partly_29
  · replace h := Eq.trans (if_pos c3).symm h
    refine lv_iconst (v := -1) hx hb dX11_partly_16 (by decide) ?_
    replace h := Option.some.inj h
    subst h
    exact q_reti X Y hr hlocks (Nat.le_of_ble_eq_true rfl) (Nat.le_of_ble_eq_true rfl) dX11_partly_17
/-! NeverBelowModel.where(I)I -/
abbrev rm_X11_where : Room := { frames := 1, cells := 0, slots := 0, locals := 25 }
def F_X11_where (f : xHp) (h0 : Nat) (p1 : Int32) : Option (Int32) := Option.bind (F_X11_within f p1.toInt64 (0 : Int64) (1 : Int64)) fun q1 => if q1 = 0 then (some (-2 : Int32)) else (if hKd f h0 = some 10 then (Option.bind (F_X11_firstPart f h0 (3 : Int32)) fun q4 => if q4 = (-9 : Int32) then (some (-9 : Int32)) else (if p1 = 0 then (Option.bind (hI f h0 [(10, 15)]) fun v8 => some v8) else (Option.bind (hI f h0 [(10, 16)]) fun v7 => some v7))) else none)
set_option maxRecDepth 100000 in
set_option maxHeartbeats 4000000 in
theorem c_X11_where (l : Launch) (G : xG) (z : Nat) (f : xHp) (h0 : Nat) (p1 : Int32) (rs : Int32) (h : F_X11_where f h0 p1 = some rs) : xM G l yX11_where cX11_where 2 (some .int) rm_X11_where [.ref h0, .int p1] z f (some (.int rs)) z f := by
  refine xM_of (by decide) (Nat.le_of_ble_eq_true rfl) ?_
  intro p e s m below meth c ls X hr hlocks hin Y hl
  have hl : lv_has ls 2 [(0, .ref h0), (1, .int p1)] := hl
  have hx := X.1.1
  have hb := X.1.2.1
  unfold F_X11_where at h
  refine lv_iload_n hx hb dX11_where_0 rfl (lv_at hl 1 rfl) ?_
  refine lv_i2l hx hb dX11_where_1 rfl ?_
  refine lv_lconst (v := 0) hx hb dX11_where_2 (by decide) ?_
  refine lv_lconst (v := 1) hx hb dX11_where_3 (by decide) ?_
  replace h := xb h
  obtain ⟨q1, eq1, h⟩ := h
  refine q_callS X Y hl.1 (rest := []) (As := [.long p1.toInt64, .long (0 : Int64), .long (1 : Int64)]) (c_X11_within l G z f p1.toInt64 (0 : Int64) (1 : Int64) _ eq1) cd_X11_within ls_X11_82 ⟨(Nat.le_of_ble_eq_true rfl), (Nat.le_of_ble_eq_true rfl)⟩ ⟨(Nat.le_of_ble_eq_true rfl), (Nat.le_of_ble_eq_true rfl)⟩ rfl rfl (Nat.le_of_ble_eq_true rfl) dX11_where_4 (fun H locs Y => ?_)
  refine W.eq (g2 := F0 m 7 ls [.int q1]) rfl ?_
  refine lv_if_ne (tgt := 13) hx hb dX11_where_7 (by decide) (fun c2 => ?_) (fun c2 => ?_)
  · replace h := Eq.trans (if_neg c2).symm h
    refine lv_aload_n hx hb dX11_where_13 rfl (lv_at hl 0 rfl) ?_
    refine lv_iconst (v := 3) hx hb dX11_where_14 (by decide) ?_
    by_cases c3 : hKd f h0 = some 10
    · replace h := Eq.trans (if_pos c3).symm h
      replace h := xb h
      obtain ⟨q4, eq4, h⟩ := h
      refine q_callV X Y hl.1 (rest := []) (As := [.int (3 : Int32)]) (c_X11_firstPart l G z f h0 (3 : Int32) _ eq4) cd_X11_firstPart lv_X11_183_10 c3 ⟨(Nat.le_of_ble_eq_true rfl), (Nat.le_of_ble_eq_true rfl)⟩ ⟨(Nat.le_of_ble_eq_true rfl), (Nat.le_of_ble_eq_true rfl)⟩ rfl rfl (Nat.le_of_ble_eq_true rfl) dX11_where_15 (fun H locs Y => ?_)
      refine W.eq (g2 := F0 m 18 ls [.int q4]) rfl ?_
      refine lv_bipush (v := -9) hx hb dX11_where_18 (by decide) ?_
      refine lv_icmp_ne (tgt := 26) hx hb dX11_where_20 (by decide) (fun c5 => ?_) (fun c5 => ?_)
      · replace h := Eq.trans (if_neg c5).symm h
        refine lv_iload_n hx hb dX11_where_26 rfl (lv_at hl 1 rfl) ?_
        refine lv_if_ne (tgt := 37) hx hb dX11_where_27 (by decide) (fun c6 => ?_) (fun c6 => ?_)
        · replace h := Eq.trans (if_neg c6).symm h
          refine lv_aload_n hx hb dX11_where_37 rfl (lv_at hl 0 rfl) ?_
          replace h := xb h
          obtain ⟨v7, ev7, h⟩ := h
          refine q_getI X Y fl_X11_178 ev7 dX11_where_38 ?_
          replace h := Option.some.inj h
          subst h
          exact q_reti X Y hr hlocks (Nat.le_of_ble_eq_true rfl) (Nat.le_of_ble_eq_true rfl) dX11_where_41
        · replace h := Eq.trans (if_pos c6).symm h
          refine lv_aload_n hx hb dX11_where_30 rfl (lv_at hl 0 rfl) ?_
          replace h := xb h
          obtain ⟨v8, ev8, h⟩ := h
          refine q_getI X Y fl_X11_175 ev8 dX11_where_31 ?_
          refine lv_goto (tgt := 41) hx hb dX11_where_34 (by decide) ?_
          replace h := Option.some.inj h
          subst h
          exact q_reti X Y hr hlocks (Nat.le_of_ble_eq_true rfl) (Nat.le_of_ble_eq_true rfl) dX11_where_41
      · replace h := Eq.trans (if_pos c5).symm h
        refine lv_bipush (v := -9) hx hb dX11_where_23 (by decide) ?_
        replace h := Option.some.inj h
        subst h
        exact q_reti X Y hr hlocks (Nat.le_of_ble_eq_true rfl) (Nat.le_of_ble_eq_true rfl) dX11_where_25
    replace h := Eq.trans (if_neg c3).symm h
    cases h
  · replace h := Eq.trans (if_pos c2).symm h
    refine lv_bipush (v := -2) hx hb dX11_where_10 (by decide) ?_
    replace h := Option.some.inj h
    subst h
    exact q_reti X Y hr hlocks (Nat.le_of_ble_eq_true rfl) (Nat.le_of_ble_eq_true rfl) dX11_where_12
/-! NeverBelowModel.least()J -/
abbrev rm_X11_least : Room := { frames := 3, cells := 0, slots := 0, locals := 76 }
def F_X11_least_60 (f : xHp) (k31 : Nat → Int64 → Int32 → Int32 → Option (Int64))  (a0 : Nat) (a3 : Int32) (a4 : Int32) (s0 : Int64) : Option (Int64) := k31 a0 s0 a3 (a4 + 1)
def F_X11_least_31 (f : xHp) (k20 : Nat → Int64 → Int32 → Option (Int64)) (k31 : Nat → Int64 → Int32 → Int32 → Option (Int64))  (a0 : Nat) (a1 : Int64) (a3 : Int32) (a4 : Int32) : Option (Int64) := if (9 : Int32) ≤ a4 then (k20 a0 a1 (a3 + 1)) else (if hKd f a0 = some 10 then (Option.bind (F_X11_partCorner f a0 a3 a4) fun q3 => if a1 ≤ q3 then (F_X11_least_60 f k31 a0 a3 a4 a1) else (F_X11_least_60 f k31 a0 a3 a4 q3)) else none)
def L_X11_least_31 (f : xHp) (k20 : Nat → Int64 → Int32 → Option (Int64)) : Nat → Nat → Int64 → Int32 → Int32 → Option (Int64)
  | 0, _, _, _, _ => none
  | n + 1, a0, a1, a3, a4 => F_X11_least_31 f k20 (L_X11_least_31 f k20 n) a0 a1 a3 a4
def F_X11_least_20 (f : xHp) (k20 : Nat → Int64 → Int32 → Option (Int64))  (a0 : Nat) (a1 : Int64) (a3 : Int32) : Option (Int64) := Option.bind (hI f a0 [(10, 12)]) fun v1 => if v1 ≤ a3 then (some a1) else (L_X11_least_31 f k20 xfuel a0 a1 a3 (0 : Int32))
def L_X11_least_20 (f : xHp)  : Nat → Nat → Int64 → Int32 → Option (Int64)
  | 0, _, _, _ => none
  | n + 1, a0, a1, a3 => F_X11_least_20 f (L_X11_least_20 f  n) a0 a1 a3
def F_X11_least (f : xHp) (h0 : Nat) : Option (Int64) := Option.bind (hI f h0 [(10, 12)]) fun v1 => if v1 = 0 then (some (-9223372036854775808 : Int64)) else (if hKd f h0 = some 10 then (Option.bind (F_X11_partCorner f h0 (0 : Int32) (0 : Int32)) fun q4 => L_X11_least_20 f xfuel h0 q4 (0 : Int32)) else none)
set_option maxRecDepth 100000 in
set_option maxHeartbeats 4000000 in
theorem w_X11_least_60 {p : Program} {l : Launch} {e : Env} {s : State} {m : MethodId} {args : Array Value} {below : List Frame} {meth : Method} {c : Code} {G : xG} {z : Nat} {f : xHp} (X : xC G p m c s args RX11 cX11_least 7) (hr : meth.sig.returnType = (some .long)) (hlocks : meth.locks = false) (hin : meth.name = yX11_least.name) (rs : Int64) (k31 : Nat → Int64 → Int32 → Int32 → Option (Int64)) (hk31 : ∀ (a0 : Nat) (a1 : Int64) (a3 : Int32) (a4 : Int32) (H : Heap) (locs : List Loc) (ls : Array Slot), k31 a0 a1 a3 a4 = some rs → xY G z f s H locs → lv_has ls 7 [(0, .ref a0), (1, .long a1), (3, .int a3), (4, .int a4)] → W p l e rm_X11_least s m args below meth c H locs 0 0 (MQ below (xQ G (some (.long rs)) z f) args s rm_X11_least.cells rm_X11_least.slots (xA G)) (F0 m 31 ls [])) (a0 : Nat) (a3 : Int32) (a4 : Int32) (s0 : Int64) (H : Heap) (locs : List Loc) (ls : Array Slot) (h : F_X11_least_60 f k31 a0 a3 a4 s0 = some rs) (Y : xY G z f s H locs) (hl : lv_has ls 7 [(0, .ref a0), (3, .int a3), (4, .int a4)]) : W p l e rm_X11_least s m args below meth c H locs 0 0 (MQ below (xQ G (some (.long rs)) z f) args s rm_X11_least.cells rm_X11_least.slots (xA G)) (F0 m 60 ls [.long s0]) := by
  have hx := X.1.1
  have hb := X.1.2.1
  unfold F_X11_least_60 at h
  refine lv_lstore_n (lv' := [(1, .long s0), (0, .ref a0), (3, .int a3), (4, .int a4)]) hx hb dX11_least_60 rfl hl (by decide) rfl (fun ls hl => ?_)
  refine lv_iinc (v := (a4 + 1)) (lv' := [(4, .int (a4 + 1)), (1, .long s0), (0, .ref a0), (3, .int a3)]) hx hb dX11_least_61 hl (k := 3) rfl rfl (by decide) rfl (fun ls hl => ?_)
  refine lv_goto (tgt := 31) hx hb dX11_least_64 (by decide) ?_
  refine W.widen (k := 0) (n := 0) (Nat.le_of_ble_eq_true rfl) (Nat.le_of_ble_eq_true rfl) ?_
  exact hk31 a0 s0 a3 (a4 + 1) _ _ _ h Y (lv_sub hl [2, 1, 3, 0] rfl)
set_option maxRecDepth 100000 in
set_option maxHeartbeats 4000000 in
theorem w_X11_least_31 {p : Program} {l : Launch} {e : Env} {s : State} {m : MethodId} {args : Array Value} {below : List Frame} {meth : Method} {c : Code} {G : xG} {z : Nat} {f : xHp} (X : xC G p m c s args RX11 cX11_least 7) (hr : meth.sig.returnType = (some .long)) (hlocks : meth.locks = false) (hin : meth.name = yX11_least.name) (rs : Int64) (k20 : Nat → Int64 → Int32 → Option (Int64)) (hk20 : ∀ (a0 : Nat) (a1 : Int64) (a3 : Int32) (H : Heap) (locs : List Loc) (ls : Array Slot), k20 a0 a1 a3 = some rs → xY G z f s H locs → lv_has ls 7 [(0, .ref a0), (1, .long a1), (3, .int a3)] → W p l e rm_X11_least s m args below meth c H locs 0 0 (MQ below (xQ G (some (.long rs)) z f) args s rm_X11_least.cells rm_X11_least.slots (xA G)) (F0 m 20 ls [])) (k31 : Nat → Int64 → Int32 → Int32 → Option (Int64)) (hk31 : ∀ (a0 : Nat) (a1 : Int64) (a3 : Int32) (a4 : Int32) (H : Heap) (locs : List Loc) (ls : Array Slot), k31 a0 a1 a3 a4 = some rs → xY G z f s H locs → lv_has ls 7 [(0, .ref a0), (1, .long a1), (3, .int a3), (4, .int a4)] → W p l e rm_X11_least s m args below meth c H locs 0 0 (MQ below (xQ G (some (.long rs)) z f) args s rm_X11_least.cells rm_X11_least.slots (xA G)) (F0 m 31 ls [])) (a0 : Nat) (a1 : Int64) (a3 : Int32) (a4 : Int32) (H : Heap) (locs : List Loc) (ls : Array Slot) (h : F_X11_least_31 f k20 k31 a0 a1 a3 a4 = some rs) (Y : xY G z f s H locs) (hl : lv_has ls 7 [(0, .ref a0), (1, .long a1), (3, .int a3), (4, .int a4)]) : W p l e rm_X11_least s m args below meth c H locs 0 0 (MQ below (xQ G (some (.long rs)) z f) args s rm_X11_least.cells rm_X11_least.slots (xA G)) (F0 m 31 ls []) := by
  have hx := X.1.1
  have hb := X.1.2.1
  unfold F_X11_least_31 at h
  refine lv_iload hx hb dX11_least_31 (lv_at hl 3 rfl) ?_
  refine lv_bipush (v := 9) hx hb dX11_least_33 (by decide) ?_
  refine lv_icmp_ge (tgt := 67) hx hb dX11_least_35 (by decide) (fun c1 => ?_) (fun c1 => ?_)
  · replace h := Eq.trans (if_pos c1).symm h
    refine lv_iinc (v := (a3 + 1)) (lv' := [(3, .int (a3 + 1)), (0, .ref a0), (1, .long a1), (4, .int a4)]) hx hb dX11_least_67 hl (k := 2) rfl rfl (by decide) rfl (fun ls hl => ?_)
    refine lv_goto (tgt := 20) hx hb dX11_least_70 (by decide) ?_
    refine W.widen (k := 0) (n := 0) (Nat.le_of_ble_eq_true rfl) (Nat.le_of_ble_eq_true rfl) ?_
    exact hk20 a0 a1 (a3 + 1) _ _ _ h Y (lv_sub hl [1, 2, 0] rfl)
  · replace h := Eq.trans (if_neg c1).symm h
    refine lv_aload_n hx hb dX11_least_38 rfl (lv_at hl 0 rfl) ?_
    refine lv_iload_n hx hb dX11_least_39 rfl (lv_at hl 2 rfl) ?_
    refine lv_iload hx hb dX11_least_40 (lv_at hl 3 rfl) ?_
    by_cases c2 : hKd f a0 = some 10
    · replace h := Eq.trans (if_pos c2).symm h
      replace h := xb h
      obtain ⟨q3, eq3, h⟩ := h
      refine q_callV X Y hl.1 (rest := []) (As := [.int a3, .int a4]) (c_X11_partCorner l G z f a0 a3 a4 _ eq3) cd_X11_partCorner lv_X11_172_10 c2 ⟨(Nat.le_of_ble_eq_true rfl), (Nat.le_of_ble_eq_true rfl)⟩ ⟨(Nat.le_of_ble_eq_true rfl), (Nat.le_of_ble_eq_true rfl)⟩ rfl rfl (Nat.le_of_ble_eq_true rfl) dX11_least_42 (fun H locs Y => ?_)
      refine W.eq (g2 := F0 m 45 ls [.long q3]) rfl ?_
      refine lv_lstore (lv' := [(5, .long q3), (0, .ref a0), (1, .long a1), (3, .int a3), (4, .int a4)]) hx hb dX11_least_45 hl (by decide) rfl (fun ls hl => ?_)
      refine lv_lload hx hb dX11_least_47 (lv_at hl 0 rfl) ?_
      refine lv_lload_n hx hb dX11_least_49 rfl (lv_at hl 2 rfl) ?_
      refine q_lcmp_ge (tgt := 59) hx hb dX11_least_50 dX11_least_51 (by decide) (fun c4 => ?_) (fun c4 => ?_)
      · replace h := Eq.trans (if_pos c4).symm h
        refine lv_lload_n hx hb dX11_least_59 rfl (lv_at hl 2 rfl) ?_
        refine W.widen (k := 0) (n := 0) (Nat.le_of_ble_eq_true rfl) (Nat.le_of_ble_eq_true rfl) ?_
        exact w_X11_least_60 X hr hlocks hin rs k31 hk31  a0 a3 a4 a1 _ _ _ h Y (lv_sub hl [1, 3, 4] rfl)
      · replace h := Eq.trans (if_neg c4).symm h
        refine lv_lload hx hb dX11_least_54 (lv_at hl 0 rfl) ?_
        refine lv_goto (tgt := 60) hx hb dX11_least_56 (by decide) ?_
        refine W.widen (k := 0) (n := 0) (Nat.le_of_ble_eq_true rfl) (Nat.le_of_ble_eq_true rfl) ?_
        exact w_X11_least_60 X hr hlocks hin rs k31 hk31  a0 a3 a4 q3 _ _ _ h Y (lv_sub hl [1, 3, 4] rfl)
    replace h := Eq.trans (if_neg c2).symm h
    cases h
set_option maxRecDepth 100000 in
set_option maxHeartbeats 4000000 in
theorem lw_X11_least_31 {p : Program} {l : Launch} {e : Env} {s : State} {m : MethodId} {args : Array Value} {below : List Frame} {meth : Method} {c : Code} {G : xG} {z : Nat} {f : xHp} (X : xC G p m c s args RX11 cX11_least 7) (hr : meth.sig.returnType = (some .long)) (hlocks : meth.locks = false) (hin : meth.name = yX11_least.name) (rs : Int64) (k20 : Nat → Int64 → Int32 → Option (Int64)) (hk20 : ∀ (a0 : Nat) (a1 : Int64) (a3 : Int32) (H : Heap) (locs : List Loc) (ls : Array Slot), k20 a0 a1 a3 = some rs → xY G z f s H locs → lv_has ls 7 [(0, .ref a0), (1, .long a1), (3, .int a3)] → W p l e rm_X11_least s m args below meth c H locs 0 0 (MQ below (xQ G (some (.long rs)) z f) args s rm_X11_least.cells rm_X11_least.slots (xA G)) (F0 m 20 ls [])) : ∀ (n : Nat) (a0 : Nat) (a1 : Int64) (a3 : Int32) (a4 : Int32) (H : Heap) (locs : List Loc) (ls : Array Slot), L_X11_least_31 f k20 n a0 a1 a3 a4 = some rs → xY G z f s H locs → lv_has ls 7 [(0, .ref a0), (1, .long a1), (3, .int a3), (4, .int a4)] → W p l e rm_X11_least s m args below meth c H locs 0 0 (MQ below (xQ G (some (.long rs)) z f) args s rm_X11_least.cells rm_X11_least.slots (xA G)) (F0 m 31 ls []) := by
  intro n
  induction n with
  | zero => intro a0 a1 a3 a4 H locs ls h Y hl; cases h
  | succ n ih => intro a0 a1 a3 a4 H locs ls h Y hl; exact w_X11_least_31 X hr hlocks hin rs k20 hk20 _ ih a0 a1 a3 a4 _ _ _ h Y hl
set_option maxRecDepth 100000 in
set_option maxHeartbeats 4000000 in
theorem w_X11_least_20 {p : Program} {l : Launch} {e : Env} {s : State} {m : MethodId} {args : Array Value} {below : List Frame} {meth : Method} {c : Code} {G : xG} {z : Nat} {f : xHp} (X : xC G p m c s args RX11 cX11_least 7) (hr : meth.sig.returnType = (some .long)) (hlocks : meth.locks = false) (hin : meth.name = yX11_least.name) (rs : Int64) (k20 : Nat → Int64 → Int32 → Option (Int64)) (hk20 : ∀ (a0 : Nat) (a1 : Int64) (a3 : Int32) (H : Heap) (locs : List Loc) (ls : Array Slot), k20 a0 a1 a3 = some rs → xY G z f s H locs → lv_has ls 7 [(0, .ref a0), (1, .long a1), (3, .int a3)] → W p l e rm_X11_least s m args below meth c H locs 0 0 (MQ below (xQ G (some (.long rs)) z f) args s rm_X11_least.cells rm_X11_least.slots (xA G)) (F0 m 20 ls [])) (a0 : Nat) (a1 : Int64) (a3 : Int32) (H : Heap) (locs : List Loc) (ls : Array Slot) (h : F_X11_least_20 f k20 a0 a1 a3 = some rs) (Y : xY G z f s H locs) (hl : lv_has ls 7 [(0, .ref a0), (1, .long a1), (3, .int a3)]) : W p l e rm_X11_least s m args below meth c H locs 0 0 (MQ below (xQ G (some (.long rs)) z f) args s rm_X11_least.cells rm_X11_least.slots (xA G)) (F0 m 20 ls []) := by
  have hx := X.1.1
  have hb := X.1.2.1
  unfold F_X11_least_20 at h
  refine lv_iload_n hx hb dX11_least_20 rfl (lv_at hl 2 rfl) ?_
  refine lv_aload_n hx hb dX11_least_21 rfl (lv_at hl 0 rfl) ?_
  replace h := xb h
  obtain ⟨v1, ev1, h⟩ := h
  refine q_getI X Y fl_X11_159 ev1 dX11_least_22 ?_
  refine lv_icmp_ge (tgt := 73) hx hb dX11_least_25 (by decide) (fun c2 => ?_) (fun c2 => ?_)
  · replace h := Eq.trans (if_pos c2).symm h
    refine lv_lload_n hx hb dX11_least_73 rfl (lv_at hl 1 rfl) ?_
    replace h := Option.some.inj h
    subst h
    exact q_retl X Y hr hlocks (Nat.le_of_ble_eq_true rfl) (Nat.le_of_ble_eq_true rfl) dX11_least_74
  · replace h := Eq.trans (if_neg c2).symm h
    refine lv_iconst (v := 0) hx hb dX11_least_28 (by decide) ?_
    refine lv_istore (lv' := [(4, .int (0 : Int32)), (0, .ref a0), (1, .long a1), (3, .int a3)]) hx hb dX11_least_29 hl (by decide) rfl (fun ls hl => ?_)
    refine W.widen (k := 0) (n := 0) (Nat.le_of_ble_eq_true rfl) (Nat.le_of_ble_eq_true rfl) ?_
    exact lw_X11_least_31 X hr hlocks hin rs k20 hk20 xfuel a0 a1 a3 (0 : Int32) _ _ _ h Y (lv_sub hl [1, 2, 3, 0] rfl)
set_option maxRecDepth 100000 in
set_option maxHeartbeats 4000000 in
theorem lw_X11_least_20 {p : Program} {l : Launch} {e : Env} {s : State} {m : MethodId} {args : Array Value} {below : List Frame} {meth : Method} {c : Code} {G : xG} {z : Nat} {f : xHp} (X : xC G p m c s args RX11 cX11_least 7) (hr : meth.sig.returnType = (some .long)) (hlocks : meth.locks = false) (hin : meth.name = yX11_least.name) (rs : Int64)  : ∀ (n : Nat) (a0 : Nat) (a1 : Int64) (a3 : Int32) (H : Heap) (locs : List Loc) (ls : Array Slot), L_X11_least_20 f  n a0 a1 a3 = some rs → xY G z f s H locs → lv_has ls 7 [(0, .ref a0), (1, .long a1), (3, .int a3)] → W p l e rm_X11_least s m args below meth c H locs 0 0 (MQ below (xQ G (some (.long rs)) z f) args s rm_X11_least.cells rm_X11_least.slots (xA G)) (F0 m 20 ls []) := by
  intro n
  induction n with
  | zero => intro a0 a1 a3 H locs ls h Y hl; cases h
  | succ n ih => intro a0 a1 a3 H locs ls h Y hl; exact w_X11_least_20 X hr hlocks hin rs _ ih a0 a1 a3 _ _ _ h Y hl
set_option maxRecDepth 100000 in
set_option maxHeartbeats 4000000 in
theorem c_X11_least (l : Launch) (G : xG) (z : Nat) (f : xHp) (h0 : Nat) (rs : Int64) (h : F_X11_least f h0 = some rs) : xM G l yX11_least cX11_least 7 (some .long) rm_X11_least [.ref h0] z f (some (.long rs)) z f := by
  refine xM_of (by decide) (Nat.le_of_ble_eq_true rfl) ?_
  intro p e s m below meth c ls X hr hlocks hin Y hl
  have hl : lv_has ls 7 [(0, .ref h0)] := hl
  have hx := X.1.1
  have hb := X.1.2.1
  unfold F_X11_least at h
  refine lv_aload_n hx hb dX11_least_0 rfl (lv_at hl 0 rfl) ?_
  replace h := xb h
  obtain ⟨v1, ev1, h⟩ := h
  refine q_getI X Y fl_X11_159 ev1 dX11_least_1 ?_
  refine lv_if_ne (tgt := 11) hx hb dX11_least_4 (by decide) (fun c2 => ?_) (fun c2 => ?_)
  · replace h := Eq.trans (if_neg c2).symm h
    refine lv_aload_n hx hb dX11_least_11 rfl (lv_at hl 0 rfl) ?_
    refine lv_iconst (v := 0) hx hb dX11_least_12 (by decide) ?_
    refine lv_iconst (v := 0) hx hb dX11_least_13 (by decide) ?_
    by_cases c3 : hKd f h0 = some 10
    · replace h := Eq.trans (if_pos c3).symm h
      replace h := xb h
      obtain ⟨q4, eq4, h⟩ := h
      refine q_callV X Y hl.1 (rest := []) (As := [.int (0 : Int32), .int (0 : Int32)]) (c_X11_partCorner l G z f h0 (0 : Int32) (0 : Int32) _ eq4) cd_X11_partCorner lv_X11_172_10 c3 ⟨(Nat.le_of_ble_eq_true rfl), (Nat.le_of_ble_eq_true rfl)⟩ ⟨(Nat.le_of_ble_eq_true rfl), (Nat.le_of_ble_eq_true rfl)⟩ rfl rfl (Nat.le_of_ble_eq_true rfl) dX11_least_14 (fun H locs Y => ?_)
      refine W.eq (g2 := F0 m 17 ls [.long q4]) rfl ?_
      refine lv_lstore_n (lv' := [(1, .long q4), (0, .ref h0)]) hx hb dX11_least_17 rfl hl (by decide) rfl (fun ls hl => ?_)
      refine lv_iconst (v := 0) hx hb dX11_least_18 (by decide) ?_
      refine lv_istore_n (lv' := [(3, .int (0 : Int32)), (1, .long q4), (0, .ref h0)]) hx hb dX11_least_19 rfl hl (by decide) rfl (fun ls hl => ?_)
      refine W.widen (k := 0) (n := 0) (Nat.le_of_ble_eq_true rfl) (Nat.le_of_ble_eq_true rfl) ?_
      exact lw_X11_least_20 X hr hlocks hin rs  xfuel h0 q4 (0 : Int32) _ _ _ h Y (lv_sub hl [2, 1, 0] rfl)
    replace h := Eq.trans (if_neg c3).symm h
    cases h
  · replace h := Eq.trans (if_pos c2).symm h
    refine lv_ldc2 (v := -9223372036854775808) hx hb X.1.2.2.2.1 (X.1.2.2.2.2 _ xw_940) dX11_least_7 ?_
    replace h := Option.some.inj h
    subst h
    exact q_retl X Y hr hlocks (Nat.le_of_ble_eq_true rfl) (Nat.le_of_ble_eq_true rfl) dX11_least_10
/-! NeverBelowModel.hasOther(I)Z -/
abbrev rm_X11_hasOther : Room := { frames := 1, cells := 0, slots := 0, locals := 22 }
def F_X11_hasOther_35 (f : xHp)    : Option (Int32) := some (1 : Int32)
def F_X11_hasOther (f : xHp) (h0 : Nat) (p1 : Int32) : Option (Int32) := if hKd f h0 = some 10 then (Option.bind (F_X11_termOf f h0 p1 (5 : Int32)) fun q2 => if q2 = (0 : Int64) then (if hKd f h0 = some 10 then (Option.bind (F_X11_termOf f h0 p1 (7 : Int32)) fun q5 => if q5 = (0 : Int64) then (if hKd f h0 = some 10 then (Option.bind (F_X11_termOf f h0 p1 (8 : Int32)) fun q8 => if q8 = (0 : Int64) then (some (0 : Int32)) else (F_X11_hasOther_35 f)) else none) else (F_X11_hasOther_35 f)) else none) else (F_X11_hasOther_35 f)) else none
set_option maxRecDepth 100000 in
set_option maxHeartbeats 4000000 in
theorem w_X11_hasOther_35 {p : Program} {l : Launch} {e : Env} {s : State} {m : MethodId} {args : Array Value} {below : List Frame} {meth : Method} {c : Code} {G : xG} {z : Nat} {f : xHp} (X : xC G p m c s args RX11 cX11_hasOther 2) (hr : meth.sig.returnType = (some .boolean)) (hlocks : meth.locks = false) (hin : meth.name = yX11_hasOther.name) (rs : Int32)   (H : Heap) (locs : List Loc) (ls : Array Slot) (h : F_X11_hasOther_35 f   = some rs) (Y : xY G z f s H locs) (hl : lv_has ls 2 []) : W p l e rm_X11_hasOther s m args below meth c H locs 0 0 (MQ below (xQ G (some (.int rs)) z f) args s rm_X11_hasOther.cells rm_X11_hasOther.slots (xA G)) (F0 m 35 ls []) := by
  have hx := X.1.1
  have hb := X.1.2.1
  unfold F_X11_hasOther_35 at h
  refine lv_iconst (v := 1) hx hb dX11_hasOther_35 (by decide) ?_
  refine lv_goto (tgt := 40) hx hb dX11_hasOther_36 (by decide) ?_
  replace h := Option.some.inj h
  subst h
  exact q_retz (v := (1 : Int32)) X Y hr hlocks rfl (Nat.le_of_ble_eq_true rfl) (Nat.le_of_ble_eq_true rfl) dX11_hasOther_40
set_option maxRecDepth 100000 in
set_option maxHeartbeats 4000000 in
theorem c_X11_hasOther (l : Launch) (G : xG) (z : Nat) (f : xHp) (h0 : Nat) (p1 : Int32) (rs : Int32) (h : F_X11_hasOther f h0 p1 = some rs) : xM G l yX11_hasOther cX11_hasOther 2 (some .boolean) rm_X11_hasOther [.ref h0, .int p1] z f (some (.int rs)) z f := by
  refine xM_of (by decide) (Nat.le_of_ble_eq_true rfl) ?_
  intro p e s m below meth c ls X hr hlocks hin Y hl
  have hl : lv_has ls 2 [(0, .ref h0), (1, .int p1)] := hl
  have hx := X.1.1
  have hb := X.1.2.1
  unfold F_X11_hasOther at h
  refine lv_aload_n hx hb dX11_hasOther_0 rfl (lv_at hl 0 rfl) ?_
  refine lv_iload_n hx hb dX11_hasOther_1 rfl (lv_at hl 1 rfl) ?_
  refine lv_iconst (v := 5) hx hb dX11_hasOther_2 (by decide) ?_
  by_cases c1 : hKd f h0 = some 10
  · replace h := Eq.trans (if_pos c1).symm h
    replace h := xb h
    obtain ⟨q2, eq2, h⟩ := h
    refine q_callV X Y hl.1 (rest := []) (As := [.int p1, .int (5 : Int32)]) (c_X11_termOf l G z f h0 p1 (5 : Int32) _ eq2) cd_X11_termOf lv_X11_113_10 c1 ⟨(Nat.le_of_ble_eq_true rfl), (Nat.le_of_ble_eq_true rfl)⟩ ⟨(Nat.le_of_ble_eq_true rfl), (Nat.le_of_ble_eq_true rfl)⟩ rfl rfl (Nat.le_of_ble_eq_true rfl) dX11_hasOther_3 (fun H locs Y => ?_)
    refine W.eq (g2 := F0 m 6 ls [.long q2]) rfl ?_
    refine lv_lconst (v := 0) hx hb dX11_hasOther_6 (by decide) ?_
    refine q_lcmp_ne (tgt := 35) hx hb dX11_hasOther_7 dX11_hasOther_8 (by decide) (fun c3 => ?_) (fun c3 => ?_)
    · replace h := Eq.trans (if_neg c3).symm h
      refine W.widen (k := 0) (n := 0) (Nat.le_of_ble_eq_true rfl) (Nat.le_of_ble_eq_true rfl) ?_
      exact w_X11_hasOther_35 X hr hlocks hin rs    _ _ _ h Y (lv_sub hl [] rfl)
    · replace h := Eq.trans (if_pos c3).symm h
      refine lv_aload_n hx hb dX11_hasOther_11 rfl (lv_at hl 0 rfl) ?_
      refine lv_iload_n hx hb dX11_hasOther_12 rfl (lv_at hl 1 rfl) ?_
      refine lv_bipush (v := 7) hx hb dX11_hasOther_13 (by decide) ?_
      by_cases c4 : hKd f h0 = some 10
      · replace h := Eq.trans (if_pos c4).symm h
        replace h := xb h
        obtain ⟨q5, eq5, h⟩ := h
        refine q_callV X Y hl.1 (rest := []) (As := [.int p1, .int (7 : Int32)]) (c_X11_termOf l G z f h0 p1 (7 : Int32) _ eq5) cd_X11_termOf lv_X11_113_10 c4 ⟨(Nat.le_of_ble_eq_true rfl), (Nat.le_of_ble_eq_true rfl)⟩ ⟨(Nat.le_of_ble_eq_true rfl), (Nat.le_of_ble_eq_true rfl)⟩ rfl rfl (Nat.le_of_ble_eq_true rfl) dX11_hasOther_15 (fun H locs Y => ?_)
        refine W.eq (g2 := F0 m 18 ls [.long q5]) rfl ?_
        refine lv_lconst (v := 0) hx hb dX11_hasOther_18 (by decide) ?_
        refine q_lcmp_ne (tgt := 35) hx hb dX11_hasOther_19 dX11_hasOther_20 (by decide) (fun c6 => ?_) (fun c6 => ?_)
        · replace h := Eq.trans (if_neg c6).symm h
          refine W.widen (k := 0) (n := 0) (Nat.le_of_ble_eq_true rfl) (Nat.le_of_ble_eq_true rfl) ?_
          exact w_X11_hasOther_35 X hr hlocks hin rs    _ _ _ h Y (lv_sub hl [] rfl)
        · replace h := Eq.trans (if_pos c6).symm h
          refine lv_aload_n hx hb dX11_hasOther_23 rfl (lv_at hl 0 rfl) ?_
          refine lv_iload_n hx hb dX11_hasOther_24 rfl (lv_at hl 1 rfl) ?_
          refine lv_bipush (v := 8) hx hb dX11_hasOther_25 (by decide) ?_
          by_cases c7 : hKd f h0 = some 10
          · replace h := Eq.trans (if_pos c7).symm h
            replace h := xb h
            obtain ⟨q8, eq8, h⟩ := h
            refine q_callV X Y hl.1 (rest := []) (As := [.int p1, .int (8 : Int32)]) (c_X11_termOf l G z f h0 p1 (8 : Int32) _ eq8) cd_X11_termOf lv_X11_113_10 c7 ⟨(Nat.le_of_ble_eq_true rfl), (Nat.le_of_ble_eq_true rfl)⟩ ⟨(Nat.le_of_ble_eq_true rfl), (Nat.le_of_ble_eq_true rfl)⟩ rfl rfl (Nat.le_of_ble_eq_true rfl) dX11_hasOther_27 (fun H locs Y => ?_)
            refine W.eq (g2 := F0 m 30 ls [.long q8]) rfl ?_
            refine lv_lconst (v := 0) hx hb dX11_hasOther_30 (by decide) ?_
            refine q_lcmp_eq (tgt := 39) hx hb dX11_hasOther_31 dX11_hasOther_32 (by decide) (fun c9 => ?_) (fun c9 => ?_)
            · replace h := Eq.trans (if_pos c9).symm h
              refine lv_iconst (v := 0) hx hb dX11_hasOther_39 (by decide) ?_
              replace h := Option.some.inj h
              subst h
              exact q_retz (v := (0 : Int32)) X Y hr hlocks rfl (Nat.le_of_ble_eq_true rfl) (Nat.le_of_ble_eq_true rfl) dX11_hasOther_40
            · replace h := Eq.trans (if_neg c9).symm h
              refine W.widen (k := 0) (n := 0) (Nat.le_of_ble_eq_true rfl) (Nat.le_of_ble_eq_true rfl) ?_
              exact w_X11_hasOther_35 X hr hlocks hin rs    _ _ _ h Y (lv_sub hl [] rfl)
          replace h := Eq.trans (if_neg c7).symm h
          cases h
      replace h := Eq.trans (if_neg c4).symm h
      cases h
  replace h := Eq.trans (if_neg c1).symm h
  cases h
/-! NeverBelowModel.layForm(JJJJJJ)V -/
abbrev rm_X11_layForm : Room := { frames := 0, cells := 0, slots := 0, locals := 0 }
def F_X11_layForm (f : xHp) (h0 : Nat) (p1 : Int64) (p3 : Int64) (p5 : Int64) (p7 : Int64) (p9 : Int64) (p11 : Int64) : Option (xHp) := Option.bind (hN f h0 [(10, 17)]) fun v1 => Option.bind (hJst f v1 (0 : Int32) ((2 : Int64) * p1)) fun f2 => Option.bind (hN f2 h0 [(10, 17)]) fun v3 => Option.bind (hJst f2 v3 (1 : Int32) p3) fun f4 => Option.bind (hN f4 h0 [(10, 17)]) fun v5 => Option.bind (hJst f4 v5 (2 : Int32) p5) fun f6 => Option.bind (hN f6 h0 [(10, 17)]) fun v7 => Option.bind (hJst f6 v7 (3 : Int32) p3) fun f8 => Option.bind (hN f8 h0 [(10, 17)]) fun v9 => Option.bind (hJst f8 v9 (4 : Int32) ((2 : Int64) * p7)) fun f10 => Option.bind (hN f10 h0 [(10, 17)]) fun v11 => Option.bind (hJst f10 v11 (5 : Int32) p9) fun f12 => Option.bind (hN f12 h0 [(10, 17)]) fun v13 => Option.bind (hJst f12 v13 (6 : Int32) p5) fun f14 => Option.bind (hN f14 h0 [(10, 17)]) fun v15 => Option.bind (hJst f14 v15 (7 : Int32) p9) fun f16 => Option.bind (hN f16 h0 [(10, 17)]) fun v17 => Option.bind (hJst f16 v17 (8 : Int32) ((2 : Int64) * p11)) fun f18 => some f18
set_option maxRecDepth 100000 in
set_option maxHeartbeats 4000000 in
theorem c_X11_layForm (l : Launch) (G : xG) (z : Nat) (f : xHp) (h0 : Nat) (p1 : Int64) (p3 : Int64) (p5 : Int64) (p7 : Int64) (p9 : Int64) (p11 : Int64) (rs : xHp) (h : F_X11_layForm f h0 p1 p3 p5 p7 p9 p11 = some rs) : xM G l yX11_layForm cX11_layForm 13 none rm_X11_layForm [.ref h0, .long p1, .long p3, .long p5, .long p7, .long p9, .long p11] z f none z rs := by
  refine xM_of (by decide) (Nat.le_of_ble_eq_true rfl) ?_
  intro p e s m below meth c ls X hr hlocks hin Y hl
  have hl : lv_has ls 13 [(0, .ref h0), (1, .long p1), (3, .long p3), (5, .long p5), (7, .long p7), (9, .long p9), (11, .long p11)] := hl
  have hx := X.1.1
  have hb := X.1.2.1
  unfold F_X11_layForm at h
  refine lv_aload_n hx hb dX11_layForm_0 rfl (lv_at hl 0 rfl) ?_
  replace h := xb h
  obtain ⟨v1, ev1, h⟩ := h
  refine q_getN X Y fl_X11_35 ev1 dX11_layForm_1 ?_
  refine lv_iconst (v := 0) hx hb dX11_layForm_4 (by decide) ?_
  refine lv_ldc2 (v := 2) hx hb X.1.2.2.2.1 (X.1.2.2.2.2 _ xw_923) dX11_layForm_5 ?_
  refine lv_lload_n hx hb dX11_layForm_8 rfl (lv_at hl 1 rfl) ?_
  refine lv_lmul hx hb dX11_layForm_9 ?_
  replace h := xb h
  obtain ⟨f2, ef2, h⟩ := h
  refine q_last X Y ef2 dX11_layForm_10 (fun H locs Y => ?_)
  refine lv_aload_n hx hb dX11_layForm_11 rfl (lv_at hl 0 rfl) ?_
  replace h := xb h
  obtain ⟨v3, ev3, h⟩ := h
  refine q_getN X Y fl_X11_35 ev3 dX11_layForm_12 ?_
  refine lv_iconst (v := 1) hx hb dX11_layForm_15 (by decide) ?_
  refine lv_lload_n hx hb dX11_layForm_16 rfl (lv_at hl 2 rfl) ?_
  replace h := xb h
  obtain ⟨f4, ef4, h⟩ := h
  refine q_last X Y ef4 dX11_layForm_17 (fun H locs Y => ?_)
  refine lv_aload_n hx hb dX11_layForm_18 rfl (lv_at hl 0 rfl) ?_
  replace h := xb h
  obtain ⟨v5, ev5, h⟩ := h
  refine q_getN X Y fl_X11_35 ev5 dX11_layForm_19 ?_
  refine lv_iconst (v := 2) hx hb dX11_layForm_22 (by decide) ?_
  refine lv_lload hx hb dX11_layForm_23 (lv_at hl 3 rfl) ?_
  replace h := xb h
  obtain ⟨f6, ef6, h⟩ := h
  refine q_last X Y ef6 dX11_layForm_25 (fun H locs Y => ?_)
  refine lv_aload_n hx hb dX11_layForm_26 rfl (lv_at hl 0 rfl) ?_
  replace h := xb h
  obtain ⟨v7, ev7, h⟩ := h
  refine q_getN X Y fl_X11_35 ev7 dX11_layForm_27 ?_
  refine lv_iconst (v := 3) hx hb dX11_layForm_30 (by decide) ?_
  refine lv_lload_n hx hb dX11_layForm_31 rfl (lv_at hl 2 rfl) ?_
  replace h := xb h
  obtain ⟨f8, ef8, h⟩ := h
  refine q_last X Y ef8 dX11_layForm_32 (fun H locs Y => ?_)
  refine lv_aload_n hx hb dX11_layForm_33 rfl (lv_at hl 0 rfl) ?_
  replace h := xb h
  obtain ⟨v9, ev9, h⟩ := h
  refine q_getN X Y fl_X11_35 ev9 dX11_layForm_34 ?_
  refine lv_iconst (v := 4) hx hb dX11_layForm_37 (by decide) ?_
  refine lv_ldc2 (v := 2) hx hb X.1.2.2.2.1 (X.1.2.2.2.2 _ xw_923) dX11_layForm_38 ?_
  refine lv_lload hx hb dX11_layForm_41 (lv_at hl 4 rfl) ?_
  refine lv_lmul hx hb dX11_layForm_43 ?_
  replace h := xb h
  obtain ⟨f10, ef10, h⟩ := h
  refine q_last X Y ef10 dX11_layForm_44 (fun H locs Y => ?_)
  refine lv_aload_n hx hb dX11_layForm_45 rfl (lv_at hl 0 rfl) ?_
  replace h := xb h
  obtain ⟨v11, ev11, h⟩ := h
  refine q_getN X Y fl_X11_35 ev11 dX11_layForm_46 ?_
  refine lv_iconst (v := 5) hx hb dX11_layForm_49 (by decide) ?_
  refine lv_lload hx hb dX11_layForm_50 (lv_at hl 5 rfl) ?_
  replace h := xb h
  obtain ⟨f12, ef12, h⟩ := h
  refine q_last X Y ef12 dX11_layForm_52 (fun H locs Y => ?_)
  refine lv_aload_n hx hb dX11_layForm_53 rfl (lv_at hl 0 rfl) ?_
  replace h := xb h
  obtain ⟨v13, ev13, h⟩ := h
  refine q_getN X Y fl_X11_35 ev13 dX11_layForm_54 ?_
  refine lv_bipush (v := 6) hx hb dX11_layForm_57 (by decide) ?_
  refine lv_lload hx hb dX11_layForm_59 (lv_at hl 3 rfl) ?_
  replace h := xb h
  obtain ⟨f14, ef14, h⟩ := h
  refine q_last X Y ef14 dX11_layForm_61 (fun H locs Y => ?_)
  refine lv_aload_n hx hb dX11_layForm_62 rfl (lv_at hl 0 rfl) ?_
  replace h := xb h
  obtain ⟨v15, ev15, h⟩ := h
  refine q_getN X Y fl_X11_35 ev15 dX11_layForm_63 ?_
  refine lv_bipush (v := 7) hx hb dX11_layForm_66 (by decide) ?_
  refine lv_lload hx hb dX11_layForm_68 (lv_at hl 5 rfl) ?_
  replace h := xb h
  obtain ⟨f16, ef16, h⟩ := h
  refine q_last X Y ef16 dX11_layForm_70 (fun H locs Y => ?_)
  refine lv_aload_n hx hb dX11_layForm_71 rfl (lv_at hl 0 rfl) ?_
  replace h := xb h
  obtain ⟨v17, ev17, h⟩ := h
  refine q_getN X Y fl_X11_35 ev17 dX11_layForm_72 ?_
  refine lv_bipush (v := 8) hx hb dX11_layForm_75 (by decide) ?_
  refine lv_ldc2 (v := 2) hx hb X.1.2.2.2.1 (X.1.2.2.2.2 _ xw_923) dX11_layForm_77 ?_
  refine lv_lload hx hb dX11_layForm_80 (lv_at hl 6 rfl) ?_
  refine lv_lmul hx hb dX11_layForm_82 ?_
  replace h := xb h
  obtain ⟨f18, ef18, h⟩ := h
  refine q_last X Y ef18 dX11_layForm_83 (fun H locs Y => ?_)
  replace h := Option.some.inj h
  subst h
  exact q_retv X Y hr hlocks (Nat.le_of_ble_eq_true rfl) (Nat.le_of_ble_eq_true rfl) dX11_layForm_84
/-! NeverBelowModel.form(III)J -/
abbrev rm_X11_form : Room := { frames := 2, cells := 0, slots := 0, locals := 43 }
def F_X11_form_40  (f : xHp)  : Option (Int64 × xHp) := some ((-9223372036854775808 : Int64), f)
def F_X11_form (f : xHp) (h0 : Nat) (p1 : Int32) (p2 : Int32) (p3 : Int32) : Option (Int64 × xHp) := if hKd f h0 = some 10 then (Option.bind (F_X11_isPoly f h0 p1) fun q2 => if q2 = 0 then (F_X11_form_40 f) else (Option.bind (F_X11_within f p2.toInt64 (0 : Int64) (2 : Int64)) fun q4 => if q4 = 0 then (F_X11_form_40 f) else (Option.bind (F_X11_within f p3.toInt64 (0 : Int64) (2 : Int64)) fun q6 => if q6 = 0 then (F_X11_form_40 f) else (if hKd f h0 = some 10 then (Option.bind (F_X11_hasOther f h0 p1) fun q9 => if q9 = 0 then (if hKd f h0 = some 10 then (Option.bind (F_X11_termOf f h0 p1 (6 : Int32)) fun q12 => if hKd f h0 = some 10 then (Option.bind (F_X11_termOf f h0 p1 (4 : Int32)) fun q14 => if hKd f h0 = some 10 then (Option.bind (F_X11_termOf f h0 p1 (3 : Int32)) fun q16 => if hKd f h0 = some 10 then (Option.bind (F_X11_termOf f h0 p1 (2 : Int32)) fun q18 => if hKd f h0 = some 10 then (Option.bind (F_X11_termOf f h0 p1 (1 : Int32)) fun q20 => if hKd f h0 = some 10 then (Option.bind (F_X11_termOf f h0 p1 (0 : Int32)) fun q22 => if hKd f h0 = some 10 then (Option.bind (F_X11_layForm f h0 q12 q14 q16 q18 q20 q22) fun q24 => Option.bind (hN q24 h0 [(10, 17)]) fun v25 => Option.bind (hJld q24 v25 (((3 : Int32) * p2) + p3)) fun v26 => some (v26, q24)) else none) else none) else none) else none) else none) else none) else none) else (F_X11_form_40 f)) else none)))) else none
set_option maxRecDepth 100000 in
set_option maxHeartbeats 4000000 in
theorem w_X11_form_40 {p : Program} {l : Launch} {e : Env} {s : State} {m : MethodId} {args : Array Value} {below : List Frame} {meth : Method} {c : Code} {G : xG} {z : Nat} (X : xC G p m c s args RX11 cX11_form 4) (hr : meth.sig.returnType = (some .long)) (hlocks : meth.locks = false) (hin : meth.name = yX11_form.name) (rs : Int64 × xHp)  (f : xHp) (H : Heap) (locs : List Loc) (ls : Array Slot) (h : F_X11_form_40  f = some rs) (Y : xY G z f s H locs) (hl : lv_has ls 4 []) : W p l e rm_X11_form s m args below meth c H locs 0 0 (MQ below (xQ G (some (.long rs.1)) z rs.2) args s rm_X11_form.cells rm_X11_form.slots (xA G)) (F0 m 40 ls []) := by
  have hx := X.1.1
  have hb := X.1.2.1
  unfold F_X11_form_40 at h
  refine lv_ldc2 (v := -9223372036854775808) hx hb X.1.2.2.2.1 (X.1.2.2.2.2 _ xw_940) dX11_form_40 ?_
  replace h := Option.some.inj h
  subst h
  exact q_retl X Y hr hlocks (Nat.le_of_ble_eq_true rfl) (Nat.le_of_ble_eq_true rfl) dX11_form_43
set_option maxRecDepth 100000 in
set_option maxHeartbeats 4000000 in
theorem c_X11_form (l : Launch) (G : xG) (z : Nat) (f : xHp) (h0 : Nat) (p1 : Int32) (p2 : Int32) (p3 : Int32) (rs : Int64 × xHp) (h : F_X11_form f h0 p1 p2 p3 = some rs) : xM G l yX11_form cX11_form 4 (some .long) rm_X11_form [.ref h0, .int p1, .int p2, .int p3] z f (some (.long rs.1)) z rs.2 := by
  refine xM_of (by decide) (Nat.le_of_ble_eq_true rfl) ?_
  intro p e s m below meth c ls X hr hlocks hin Y hl
  have hl : lv_has ls 4 [(0, .ref h0), (1, .int p1), (2, .int p2), (3, .int p3)] := hl
  have hx := X.1.1
  have hb := X.1.2.1
  unfold F_X11_form at h
  refine lv_aload_n hx hb dX11_form_0 rfl (lv_at hl 0 rfl) ?_
  refine lv_iload_n hx hb dX11_form_1 rfl (lv_at hl 1 rfl) ?_
  by_cases c1 : hKd f h0 = some 10
  · replace h := Eq.trans (if_pos c1).symm h
    replace h := xb h
    obtain ⟨q2, eq2, h⟩ := h
    refine q_callV X Y hl.1 (rest := []) (As := [.int p1]) (c_X11_isPoly l G z f h0 p1 _ eq2) cd_X11_isPoly lv_X11_109_10 c1 ⟨(Nat.le_of_ble_eq_true rfl), (Nat.le_of_ble_eq_true rfl)⟩ ⟨(Nat.le_of_ble_eq_true rfl), (Nat.le_of_ble_eq_true rfl)⟩ rfl rfl (Nat.le_of_ble_eq_true rfl) dX11_form_2 (fun H locs Y => ?_)
    refine W.eq (g2 := F0 m 5 ls [.int q2]) rfl ?_
    refine lv_if_eq (tgt := 40) hx hb dX11_form_5 (by decide) (fun c3 => ?_) (fun c3 => ?_)
    · replace h := Eq.trans (if_pos c3).symm h
      refine W.widen (k := 0) (n := 0) (Nat.le_of_ble_eq_true rfl) (Nat.le_of_ble_eq_true rfl) ?_
      exact w_X11_form_40 X hr hlocks hin rs   f _ _ _ h Y (lv_sub hl [] rfl)
    · replace h := Eq.trans (if_neg c3).symm h
      refine lv_iload_n hx hb dX11_form_8 rfl (lv_at hl 2 rfl) ?_
      refine lv_i2l hx hb dX11_form_9 rfl ?_
      refine lv_lconst (v := 0) hx hb dX11_form_10 (by decide) ?_
      refine lv_ldc2 (v := 2) hx hb X.1.2.2.2.1 (X.1.2.2.2.2 _ xw_923) dX11_form_11 ?_
      replace h := xb h
      obtain ⟨q4, eq4, h⟩ := h
      refine q_callS X Y hl.1 (rest := []) (As := [.long p2.toInt64, .long (0 : Int64), .long (2 : Int64)]) (c_X11_within l G z f p2.toInt64 (0 : Int64) (2 : Int64) _ eq4) cd_X11_within ls_X11_82 ⟨(Nat.le_of_ble_eq_true rfl), (Nat.le_of_ble_eq_true rfl)⟩ ⟨(Nat.le_of_ble_eq_true rfl), (Nat.le_of_ble_eq_true rfl)⟩ rfl rfl (Nat.le_of_ble_eq_true rfl) dX11_form_14 (fun H locs Y => ?_)
      refine W.eq (g2 := F0 m 17 ls [.int q4]) rfl ?_
      refine lv_if_eq (tgt := 40) hx hb dX11_form_17 (by decide) (fun c5 => ?_) (fun c5 => ?_)
      · replace h := Eq.trans (if_pos c5).symm h
        refine W.widen (k := 0) (n := 0) (Nat.le_of_ble_eq_true rfl) (Nat.le_of_ble_eq_true rfl) ?_
        exact w_X11_form_40 X hr hlocks hin rs   f _ _ _ h Y (lv_sub hl [] rfl)
      · replace h := Eq.trans (if_neg c5).symm h
        refine lv_iload_n hx hb dX11_form_20 rfl (lv_at hl 3 rfl) ?_
        refine lv_i2l hx hb dX11_form_21 rfl ?_
        refine lv_lconst (v := 0) hx hb dX11_form_22 (by decide) ?_
        refine lv_ldc2 (v := 2) hx hb X.1.2.2.2.1 (X.1.2.2.2.2 _ xw_923) dX11_form_23 ?_
        replace h := xb h
        obtain ⟨q6, eq6, h⟩ := h
        refine q_callS X Y hl.1 (rest := []) (As := [.long p3.toInt64, .long (0 : Int64), .long (2 : Int64)]) (c_X11_within l G z f p3.toInt64 (0 : Int64) (2 : Int64) _ eq6) cd_X11_within ls_X11_82 ⟨(Nat.le_of_ble_eq_true rfl), (Nat.le_of_ble_eq_true rfl)⟩ ⟨(Nat.le_of_ble_eq_true rfl), (Nat.le_of_ble_eq_true rfl)⟩ rfl rfl (Nat.le_of_ble_eq_true rfl) dX11_form_26 (fun H locs Y => ?_)
        refine W.eq (g2 := F0 m 29 ls [.int q6]) rfl ?_
        refine lv_if_eq (tgt := 40) hx hb dX11_form_29 (by decide) (fun c7 => ?_) (fun c7 => ?_)
        · replace h := Eq.trans (if_pos c7).symm h
          refine W.widen (k := 0) (n := 0) (Nat.le_of_ble_eq_true rfl) (Nat.le_of_ble_eq_true rfl) ?_
          exact w_X11_form_40 X hr hlocks hin rs   f _ _ _ h Y (lv_sub hl [] rfl)
        · replace h := Eq.trans (if_neg c7).symm h
          refine lv_aload_n hx hb dX11_form_32 rfl (lv_at hl 0 rfl) ?_
          refine lv_iload_n hx hb dX11_form_33 rfl (lv_at hl 1 rfl) ?_
          by_cases c8 : hKd f h0 = some 10
          · replace h := Eq.trans (if_pos c8).symm h
            replace h := xb h
            obtain ⟨q9, eq9, h⟩ := h
            refine q_callV X Y hl.1 (rest := []) (As := [.int p1]) (c_X11_hasOther l G z f h0 p1 _ eq9) cd_X11_hasOther lv_X11_195_10 c8 ⟨(Nat.le_of_ble_eq_true rfl), (Nat.le_of_ble_eq_true rfl)⟩ ⟨(Nat.le_of_ble_eq_true rfl), (Nat.le_of_ble_eq_true rfl)⟩ rfl rfl (Nat.le_of_ble_eq_true rfl) dX11_form_34 (fun H locs Y => ?_)
            refine W.eq (g2 := F0 m 37 ls [.int q9]) rfl ?_
            refine lv_if_eq (tgt := 44) hx hb dX11_form_37 (by decide) (fun c10 => ?_) (fun c10 => ?_)
            · replace h := Eq.trans (if_pos c10).symm h
              refine lv_aload_n hx hb dX11_form_44 rfl (lv_at hl 0 rfl) ?_
              refine lv_aload_n hx hb dX11_form_45 rfl (lv_at hl 0 rfl) ?_
              refine lv_iload_n hx hb dX11_form_46 rfl (lv_at hl 1 rfl) ?_
              refine lv_bipush (v := 6) hx hb dX11_form_47 (by decide) ?_
              by_cases c11 : hKd f h0 = some 10
              · replace h := Eq.trans (if_pos c11).symm h
                replace h := xb h
                obtain ⟨q12, eq12, h⟩ := h
                refine q_callV X Y hl.1 (rest := [.ref h0]) (As := [.int p1, .int (6 : Int32)]) (c_X11_termOf l G z f h0 p1 (6 : Int32) _ eq12) cd_X11_termOf lv_X11_113_10 c11 ⟨(Nat.le_of_ble_eq_true rfl), (Nat.le_of_ble_eq_true rfl)⟩ ⟨(Nat.le_of_ble_eq_true rfl), (Nat.le_of_ble_eq_true rfl)⟩ rfl rfl (Nat.le_of_ble_eq_true rfl) dX11_form_49 (fun H locs Y => ?_)
                refine W.eq (g2 := F0 m 52 ls [.long q12, .ref h0]) rfl ?_
                refine lv_aload_n hx hb dX11_form_52 rfl (lv_at hl 0 rfl) ?_
                refine lv_iload_n hx hb dX11_form_53 rfl (lv_at hl 1 rfl) ?_
                refine lv_iconst (v := 4) hx hb dX11_form_54 (by decide) ?_
                by_cases c13 : hKd f h0 = some 10
                · replace h := Eq.trans (if_pos c13).symm h
                  replace h := xb h
                  obtain ⟨q14, eq14, h⟩ := h
                  refine q_callV X Y hl.1 (rest := [.long q12, .ref h0]) (As := [.int p1, .int (4 : Int32)]) (c_X11_termOf l G z f h0 p1 (4 : Int32) _ eq14) cd_X11_termOf lv_X11_113_10 c13 ⟨(Nat.le_of_ble_eq_true rfl), (Nat.le_of_ble_eq_true rfl)⟩ ⟨(Nat.le_of_ble_eq_true rfl), (Nat.le_of_ble_eq_true rfl)⟩ rfl rfl (Nat.le_of_ble_eq_true rfl) dX11_form_55 (fun H locs Y => ?_)
                  refine W.eq (g2 := F0 m 58 ls [.long q14, .long q12, .ref h0]) rfl ?_
                  refine lv_aload_n hx hb dX11_form_58 rfl (lv_at hl 0 rfl) ?_
                  refine lv_iload_n hx hb dX11_form_59 rfl (lv_at hl 1 rfl) ?_
                  refine lv_iconst (v := 3) hx hb dX11_form_60 (by decide) ?_
                  by_cases c15 : hKd f h0 = some 10
                  · replace h := Eq.trans (if_pos c15).symm h
                    replace h := xb h
                    obtain ⟨q16, eq16, h⟩ := h
                    refine q_callV X Y hl.1 (rest := [.long q14, .long q12, .ref h0]) (As := [.int p1, .int (3 : Int32)]) (c_X11_termOf l G z f h0 p1 (3 : Int32) _ eq16) cd_X11_termOf lv_X11_113_10 c15 ⟨(Nat.le_of_ble_eq_true rfl), (Nat.le_of_ble_eq_true rfl)⟩ ⟨(Nat.le_of_ble_eq_true rfl), (Nat.le_of_ble_eq_true rfl)⟩ rfl rfl (Nat.le_of_ble_eq_true rfl) dX11_form_61 (fun H locs Y => ?_)
                    refine W.eq (g2 := F0 m 64 ls [.long q16, .long q14, .long q12, .ref h0]) rfl ?_
                    refine lv_aload_n hx hb dX11_form_64 rfl (lv_at hl 0 rfl) ?_
                    refine lv_iload_n hx hb dX11_form_65 rfl (lv_at hl 1 rfl) ?_
                    refine lv_iconst (v := 2) hx hb dX11_form_66 (by decide) ?_
                    by_cases c17 : hKd f h0 = some 10
                    · replace h := Eq.trans (if_pos c17).symm h
                      replace h := xb h
                      obtain ⟨q18, eq18, h⟩ := h
                      refine q_callV X Y hl.1 (rest := [.long q16, .long q14, .long q12, .ref h0]) (As := [.int p1, .int (2 : Int32)]) (c_X11_termOf l G z f h0 p1 (2 : Int32) _ eq18) cd_X11_termOf lv_X11_113_10 c17 ⟨(Nat.le_of_ble_eq_true rfl), (Nat.le_of_ble_eq_true rfl)⟩ ⟨(Nat.le_of_ble_eq_true rfl), (Nat.le_of_ble_eq_true rfl)⟩ rfl rfl (Nat.le_of_ble_eq_true rfl) dX11_form_67 (fun H locs Y => ?_)
                      refine W.eq (g2 := F0 m 70 ls [.long q18, .long q16, .long q14, .long q12, .ref h0]) rfl ?_
                      refine lv_aload_n hx hb dX11_form_70 rfl (lv_at hl 0 rfl) ?_
                      refine lv_iload_n hx hb dX11_form_71 rfl (lv_at hl 1 rfl) ?_
                      refine lv_iconst (v := 1) hx hb dX11_form_72 (by decide) ?_
                      by_cases c19 : hKd f h0 = some 10
                      · replace h := Eq.trans (if_pos c19).symm h
                        replace h := xb h
                        obtain ⟨q20, eq20, h⟩ := h
                        refine q_callVW X Y hl.1 (rest := [.long q18, .long q16, .long q14, .long q12, .ref h0]) (As := [.int p1, .int (1 : Int32)]) (c_X11_termOf l G z f h0 p1 (1 : Int32) _ eq20) cd_X11_termOf lv_X11_113_10 c19 ⟨(Nat.le_of_ble_eq_true rfl), (Nat.le_of_ble_eq_true rfl)⟩ ⟨(Nat.le_of_ble_eq_true rfl), (Nat.le_of_ble_eq_true rfl)⟩ rfl rfl (Nat.le_of_ble_eq_true rfl) dX11_form_73 (fun H locs Y => ?_)
                        refine W.eq (g2 := F0 m 76 ls [.long q20, .long q18, .long q16, .long q14, .long q12, .ref h0]) rfl ?_
                        refine lv_aload_n hx hb dX11_form_76 rfl (lv_at hl 0 rfl) ?_
                        refine lv_iload_n hx hb dX11_form_77 rfl (lv_at hl 1 rfl) ?_
                        refine lv_iconst (v := 0) hx hb dX11_form_78 (by decide) ?_
                        by_cases c21 : hKd f h0 = some 10
                        · replace h := Eq.trans (if_pos c21).symm h
                          replace h := xb h
                          obtain ⟨q22, eq22, h⟩ := h
                          refine q_callVW X Y hl.1 (rest := [.long q20, .long q18, .long q16, .long q14, .long q12, .ref h0]) (As := [.int p1, .int (0 : Int32)]) (c_X11_termOf l G z f h0 p1 (0 : Int32) _ eq22) cd_X11_termOf lv_X11_113_10 c21 ⟨(Nat.le_of_ble_eq_true rfl), (Nat.le_of_ble_eq_true rfl)⟩ ⟨(Nat.le_of_ble_eq_true rfl), (Nat.le_of_ble_eq_true rfl)⟩ rfl rfl (Nat.le_of_ble_eq_true rfl) dX11_form_79 (fun H locs Y => ?_)
                          refine W.eq (g2 := F0 m 82 ls [.long q22, .long q20, .long q18, .long q16, .long q14, .long q12, .ref h0]) rfl ?_
                          by_cases c23 : hKd f h0 = some 10
                          · replace h := Eq.trans (if_pos c23).symm h
                            replace h := xb h
                            obtain ⟨q24, eq24, h⟩ := h
                            refine q_callV X Y hl.1 (rest := []) (As := [.long q12, .long q14, .long q16, .long q18, .long q20, .long q22]) (c_X11_layForm l G z f h0 q12 q14 q16 q18 q20 q22 _ eq24) cd_X11_layForm lv_X11_198_10 c23 ⟨(Nat.le_of_ble_eq_true rfl), (Nat.le_of_ble_eq_true rfl)⟩ ⟨(Nat.le_of_ble_eq_true rfl), (Nat.le_of_ble_eq_true rfl)⟩ rfl rfl (Nat.le_of_ble_eq_true rfl) dX11_form_82 (fun H locs Y => ?_)
                            refine W.eq (g2 := F0 m 85 ls []) rfl ?_
                            refine lv_aload_n hx hb dX11_form_85 rfl (lv_at hl 0 rfl) ?_
                            replace h := xb h
                            obtain ⟨v25, ev25, h⟩ := h
                            refine q_getN X Y fl_X11_35 ev25 dX11_form_86 ?_
                            refine lv_iconst (v := 3) hx hb dX11_form_89 (by decide) ?_
                            refine lv_iload_n hx hb dX11_form_90 rfl (lv_at hl 2 rfl) ?_
                            refine lv_imul hx hb dX11_form_91 ?_
                            refine lv_iload_n hx hb dX11_form_92 rfl (lv_at hl 3 rfl) ?_
                            refine lv_iadd hx hb dX11_form_93 ?_
                            replace h := xb h
                            obtain ⟨v26, ev26, h⟩ := h
                            refine q_lald X Y ev26 dX11_form_94 ?_
                            replace h := Option.some.inj h
                            subst h
                            exact q_retl X Y hr hlocks (Nat.le_of_ble_eq_true rfl) (Nat.le_of_ble_eq_true rfl) dX11_form_95
                          replace h := Eq.trans (if_neg c23).symm h
                          cases h
                        replace h := Eq.trans (if_neg c21).symm h
                        cases h
                      replace h := Eq.trans (if_neg c19).symm h
                      cases h
                    replace h := Eq.trans (if_neg c17).symm h
                    cases h
                  replace h := Eq.trans (if_neg c15).symm h
                  cases h
                replace h := Eq.trans (if_neg c13).symm h
                cases h
              replace h := Eq.trans (if_neg c11).symm h
              cases h
            · replace h := Eq.trans (if_neg c10).symm h
              refine W.widen (k := 0) (n := 0) (Nat.le_of_ble_eq_true rfl) (Nat.le_of_ble_eq_true rfl) ?_
              exact w_X11_form_40 X hr hlocks hin rs   f _ _ _ h Y (lv_sub hl [] rfl)
          replace h := Eq.trans (if_neg c8).symm h
          cases h
  replace h := Eq.trans (if_neg c1).symm h
  cases h

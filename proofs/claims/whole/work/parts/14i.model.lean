/-! NeverBelowModel.check(I)I -/
abbrev rm_X11_check : Room := { frames := 6, cells := 0, slots := 0, locals := 155 }
def F_X11_check_85  (f : xHp) (a2 : Int32) : Option (Int32 × xHp) := some (((-20 : Int32) - a2), f)
def F_X11_check_44 (k44 : xHp → Nat → Int32 → Int32 → Option (Int32 × xHp)) (f : xHp) (a0 : Nat) (a1 : Int32) (a2 : Int32) : Option (Int32 × xHp) := if (9 : Int32) ≤ a2 then (some ((1 : Int32), f)) else (if hKd f a0 = some 10 then (Option.bind (F_X11_proofNumber f a0 a1 a2) fun q3 => if q3 < (0 : Int64) then (F_X11_check_85 f a2) else (Option.bind (hN f a0 [(10, 22)]) fun v5 => Option.bind (hIld f v5 a1) fun v6 => Option.bind (hN f a0 [(10, 23)]) fun v7 => Option.bind (hIld f v7 a1) fun v8 => if hKd f a0 = some 10 then (Option.bind (F_X11_boxCorner f a0 v6 v8 a2) fun q10 => if q3 = q10 then (k44 f a0 a1 (a2 + 1)) else (F_X11_check_85 f a2)) else none)) else none)
def L_X11_check_44  : Nat → xHp → Nat → Int32 → Int32 → Option (Int32 × xHp)
  | 0, _, _, _, _ => none
  | n + 1, f, a0, a1, a2 => F_X11_check_44 (L_X11_check_44  n) f a0 a1 a2
def F_X11_check (f : xHp) (h0 : Nat) (p1 : Int32) : Option (Int32 × xHp) := if hKd f h0 = some 10 then (Option.bind (F_X11_isProof f h0 p1) fun q2 => if q2 = 0 then (some ((-1 : Int32), f)) else (Option.bind (hN f h0 [(10, 21)]) fun v4 => Option.bind (hIld f v4 p1) fun v5 => if v5 = (2 : Int32) then (if hKd f h0 = some 10 then (Option.bind (F_X11_checkParts f h0 p1) fun q13 => some (q13.1, q13.2)) else none) else (Option.bind (hN f h0 [(10, 21)]) fun v7 => Option.bind (hIld f v7 p1) fun v8 => if v8 = (1 : Int32) then (L_X11_check_44 xfuel f h0 p1 (0 : Int32)) else (if hKd f h0 = some 10 then (Option.bind (F_X11_checkSums f h0 p1) fun q11 => some (q11.1, q11.2)) else none)))) else none
set_option maxRecDepth 100000 in
set_option maxHeartbeats 4000000 in
theorem w_X11_check_85 {p : Program} {l : Launch} {e : Env} {s : State} {m : MethodId} {args : Array Value} {below : List Frame} {meth : Method} {c : Code} {G : xG} {z : Nat} (X : xC G p m c s args RX11 cX11_check 5) (hr : meth.sig.returnType = (some .int)) (hlocks : meth.locks = false) (hin : meth.name = yX11_check.name) (rs : Int32 × xHp)  (f : xHp) (a2 : Int32) (H : Heap) (locs : List Loc) (ls : Array Slot) (h : F_X11_check_85  f a2 = some rs) (Y : xY G z f s H locs) (hl : lv_has ls 5 [(2, .int a2)]) : W p l e rm_X11_check s m args below meth c H locs 0 0 (MQ below (xQ G (some (.int rs.1)) z rs.2) args s rm_X11_check.cells rm_X11_check.slots (xA G)) (F0 m 85 ls []) := by
  have hx := X.1.1
  have hb := X.1.2.1
  unfold F_X11_check_85 at h
  refine lv_bipush (v := -20) hx hb dX11_check_85 (by decide) ?_
  refine lv_iload_n hx hb dX11_check_87 rfl (lv_at hl 0 rfl) ?_
  refine lv_isub hx hb dX11_check_88 ?_
  replace h := Option.some.inj h
  subst h
  exact q_reti X Y hr hlocks (Nat.le_of_ble_eq_true rfl) (Nat.le_of_ble_eq_true rfl) dX11_check_89
set_option maxRecDepth 100000 in
set_option maxHeartbeats 4000000 in
theorem w_X11_check_44 {p : Program} {l : Launch} {e : Env} {s : State} {m : MethodId} {args : Array Value} {below : List Frame} {meth : Method} {c : Code} {G : xG} {z : Nat} (X : xC G p m c s args RX11 cX11_check 5) (hr : meth.sig.returnType = (some .int)) (hlocks : meth.locks = false) (hin : meth.name = yX11_check.name) (rs : Int32 × xHp) (k44 : xHp → Nat → Int32 → Int32 → Option (Int32 × xHp)) (hk44 : ∀ (f : xHp) (a0 : Nat) (a1 : Int32) (a2 : Int32) (H : Heap) (locs : List Loc) (ls : Array Slot), k44 f a0 a1 a2 = some rs → xY G z f s H locs → lv_has ls 5 [(0, .ref a0), (1, .int a1), (2, .int a2)] → W p l e rm_X11_check s m args below meth c H locs 0 0 (MQ below (xQ G (some (.int rs.1)) z rs.2) args s rm_X11_check.cells rm_X11_check.slots (xA G)) (F0 m 44 ls [])) (f : xHp) (a0 : Nat) (a1 : Int32) (a2 : Int32) (H : Heap) (locs : List Loc) (ls : Array Slot) (h : F_X11_check_44 k44 f a0 a1 a2 = some rs) (Y : xY G z f s H locs) (hl : lv_has ls 5 [(0, .ref a0), (1, .int a1), (2, .int a2)]) : W p l e rm_X11_check s m args below meth c H locs 0 0 (MQ below (xQ G (some (.int rs.1)) z rs.2) args s rm_X11_check.cells rm_X11_check.slots (xA G)) (F0 m 44 ls []) := by
  have hx := X.1.1
  have hb := X.1.2.1
  unfold F_X11_check_44 at h
  refine lv_iload_n hx hb dX11_check_44 rfl (lv_at hl 2 rfl) ?_
  refine lv_bipush (v := 9) hx hb dX11_check_45 (by decide) ?_
  refine lv_icmp_ge (tgt := 96) hx hb dX11_check_47 (by decide) (fun c1 => ?_) (fun c1 => ?_)
  · replace h := Eq.trans (if_pos c1).symm h
    refine lv_iconst (v := 1) hx hb dX11_check_96 (by decide) ?_
    replace h := Option.some.inj h
    subst h
    exact q_reti X Y hr hlocks (Nat.le_of_ble_eq_true rfl) (Nat.le_of_ble_eq_true rfl) dX11_check_97
  · replace h := Eq.trans (if_neg c1).symm h
    refine lv_aload_n hx hb dX11_check_50 rfl (lv_at hl 0 rfl) ?_
    refine lv_iload_n hx hb dX11_check_51 rfl (lv_at hl 1 rfl) ?_
    refine lv_iload_n hx hb dX11_check_52 rfl (lv_at hl 2 rfl) ?_
    by_cases c2 : hKd f a0 = some 10
    · replace h := Eq.trans (if_pos c2).symm h
      replace h := xb h
      obtain ⟨q3, eq3, h⟩ := h
      refine q_callV X Y hl.1 (rest := []) (As := [.int a1, .int a2]) (c_X11_proofNumber l G z f a0 a1 a2 _ eq3) cd_X11_proofNumber lv_X11_239_10 c2 ⟨(Nat.le_of_ble_eq_true rfl), (Nat.le_of_ble_eq_true rfl)⟩ ⟨(Nat.le_of_ble_eq_true rfl), (Nat.le_of_ble_eq_true rfl)⟩ rfl rfl (Nat.le_of_ble_eq_true rfl) dX11_check_53 (fun H locs Y => ?_)
      refine W.eq (g2 := F0 m 56 ls [.long q3]) rfl ?_
      refine lv_lstore_n (lv' := [(3, .long q3), (0, .ref a0), (1, .int a1), (2, .int a2)]) hx hb dX11_check_56 rfl hl (by decide) rfl (fun ls hl => ?_)
      refine lv_lload_n hx hb dX11_check_57 rfl (lv_at hl 0 rfl) ?_
      refine lv_lconst (v := 0) hx hb dX11_check_58 (by decide) ?_
      refine q_lcmp_lt (tgt := 85) hx hb dX11_check_59 dX11_check_60 (by decide) (fun c4 => ?_) (fun c4 => ?_)
      · replace h := Eq.trans (if_pos c4).symm h
        refine W.widen (k := 0) (n := 0) (Nat.le_of_ble_eq_true rfl) (Nat.le_of_ble_eq_true rfl) ?_
        exact w_X11_check_85 X hr hlocks hin rs   f a2 _ _ _ h Y (lv_sub hl [3] rfl)
      · replace h := Eq.trans (if_neg c4).symm h
        refine lv_lload_n hx hb dX11_check_63 rfl (lv_at hl 0 rfl) ?_
        refine lv_aload_n hx hb dX11_check_64 rfl (lv_at hl 1 rfl) ?_
        refine lv_aload_n hx hb dX11_check_65 rfl (lv_at hl 1 rfl) ?_
        replace h := xb h
        obtain ⟨v5, ev5, h⟩ := h
        refine q_getN X Y fl_X11_44 ev5 dX11_check_66 ?_
        refine lv_iload_n hx hb dX11_check_69 rfl (lv_at hl 2 rfl) ?_
        replace h := xb h
        obtain ⟨v6, ev6, h⟩ := h
        refine q_iald X Y ev6 dX11_check_70 ?_
        refine lv_aload_n hx hb dX11_check_71 rfl (lv_at hl 1 rfl) ?_
        replace h := xb h
        obtain ⟨v7, ev7, h⟩ := h
        refine q_getN X Y fl_X11_47 ev7 dX11_check_72 ?_
        refine lv_iload_n hx hb dX11_check_75 rfl (lv_at hl 2 rfl) ?_
        replace h := xb h
        obtain ⟨v8, ev8, h⟩ := h
        refine q_iald X Y ev8 dX11_check_76 ?_
        refine lv_iload_n hx hb dX11_check_77 rfl (lv_at hl 3 rfl) ?_
        by_cases c9 : hKd f a0 = some 10
        · replace h := Eq.trans (if_pos c9).symm h
          replace h := xb h
          obtain ⟨q10, eq10, h⟩ := h
          refine q_callV X Y hl.1 (rest := [.long q3]) (As := [.int v6, .int v8, .int a2]) (c_X11_boxCorner l G z f a0 v6 v8 a2 _ eq10) cd_X11_boxCorner lv_X11_155_10 c9 ⟨(Nat.le_of_ble_eq_true rfl), (Nat.le_of_ble_eq_true rfl)⟩ ⟨(Nat.le_of_ble_eq_true rfl), (Nat.le_of_ble_eq_true rfl)⟩ rfl rfl (Nat.le_of_ble_eq_true rfl) dX11_check_78 (fun H locs Y => ?_)
          refine W.eq (g2 := F0 m 81 ls [.long q10, .long q3]) rfl ?_
          refine q_lcmp_eq (tgt := 90) hx hb dX11_check_81 dX11_check_82 (by decide) (fun c11 => ?_) (fun c11 => ?_)
          · replace h := Eq.trans (if_pos c11).symm h
            refine lv_iinc (v := (a2 + 1)) (lv' := [(2, .int (a2 + 1)), (3, .long q3), (0, .ref a0), (1, .int a1)]) hx hb dX11_check_90 hl (k := 3) rfl rfl (by decide) rfl (fun ls hl => ?_)
            refine lv_goto (tgt := 44) hx hb dX11_check_93 (by decide) ?_
            refine W.widen (k := 0) (n := 0) (Nat.le_of_ble_eq_true rfl) (Nat.le_of_ble_eq_true rfl) ?_
            exact hk44 f a0 a1 (a2 + 1) _ _ _ h Y (lv_sub hl [2, 3, 0] rfl)
          · replace h := Eq.trans (if_neg c11).symm h
            refine W.widen (k := 0) (n := 0) (Nat.le_of_ble_eq_true rfl) (Nat.le_of_ble_eq_true rfl) ?_
            exact w_X11_check_85 X hr hlocks hin rs   f a2 _ _ _ h Y (lv_sub hl [3] rfl)
        replace h := Eq.trans (if_neg c9).symm h
        cases h
    replace h := Eq.trans (if_neg c2).symm h
    cases h
set_option maxRecDepth 100000 in
set_option maxHeartbeats 4000000 in
theorem lw_X11_check_44 {p : Program} {l : Launch} {e : Env} {s : State} {m : MethodId} {args : Array Value} {below : List Frame} {meth : Method} {c : Code} {G : xG} {z : Nat} (X : xC G p m c s args RX11 cX11_check 5) (hr : meth.sig.returnType = (some .int)) (hlocks : meth.locks = false) (hin : meth.name = yX11_check.name) (rs : Int32 × xHp)  : ∀ (n : Nat) (f : xHp) (a0 : Nat) (a1 : Int32) (a2 : Int32) (H : Heap) (locs : List Loc) (ls : Array Slot), L_X11_check_44  n f a0 a1 a2 = some rs → xY G z f s H locs → lv_has ls 5 [(0, .ref a0), (1, .int a1), (2, .int a2)] → W p l e rm_X11_check s m args below meth c H locs 0 0 (MQ below (xQ G (some (.int rs.1)) z rs.2) args s rm_X11_check.cells rm_X11_check.slots (xA G)) (F0 m 44 ls []) := by
  intro n
  induction n with
  | zero => intro f a0 a1 a2 H locs ls h Y hl; cases h
  | succ n ih => intro f a0 a1 a2 H locs ls h Y hl; exact w_X11_check_44 X hr hlocks hin rs _ ih f a0 a1 a2 _ _ _ h Y hl
set_option maxRecDepth 100000 in
set_option maxHeartbeats 4000000 in
theorem c_X11_check (l : Launch) (G : xG) (z : Nat) (f : xHp) (h0 : Nat) (p1 : Int32) (rs : Int32 × xHp) (h : F_X11_check f h0 p1 = some rs) : xM G l yX11_check cX11_check 5 (some .int) rm_X11_check [.ref h0, .int p1] z f (some (.int rs.1)) z rs.2 := by
  refine xM_of (by decide) (Nat.le_of_ble_eq_true rfl) ?_
  intro p e s m below meth c ls X hr hlocks hin Y hl
  have hl : lv_has ls 5 [(0, .ref h0), (1, .int p1)] := hl
  have hx := X.1.1
  have hb := X.1.2.1
  unfold F_X11_check at h
  refine lv_aload_n hx hb dX11_check_0 rfl (lv_at hl 0 rfl) ?_
  refine lv_iload_n hx hb dX11_check_1 rfl (lv_at hl 1 rfl) ?_
  by_cases c1 : hKd f h0 = some 10
  · replace h := Eq.trans (if_pos c1).symm h
    replace h := xb h
    obtain ⟨q2, eq2, h⟩ := h
    refine q_callV X Y hl.1 (rest := []) (As := [.int p1]) (c_X11_isProof l G z f h0 p1 _ eq2) cd_X11_isProof lv_X11_227_10 c1 ⟨(Nat.le_of_ble_eq_true rfl), (Nat.le_of_ble_eq_true rfl)⟩ ⟨(Nat.le_of_ble_eq_true rfl), (Nat.le_of_ble_eq_true rfl)⟩ rfl rfl (Nat.le_of_ble_eq_true rfl) dX11_check_2 (fun H locs Y => ?_)
    refine W.eq (g2 := F0 m 5 ls [.int q2]) rfl ?_
    refine lv_if_ne (tgt := 10) hx hb dX11_check_5 (by decide) (fun c3 => ?_) (fun c3 => ?_)
    · replace h := Eq.trans (if_neg c3).symm h
      refine lv_aload_n hx hb dX11_check_10 rfl (lv_at hl 0 rfl) ?_
      replace h := xb h
      obtain ⟨v4, ev4, h⟩ := h
      refine q_getN X Y fl_X11_41 ev4 dX11_check_11 ?_
      refine lv_iload_n hx hb dX11_check_14 rfl (lv_at hl 1 rfl) ?_
      replace h := xb h
      obtain ⟨v5, ev5, h⟩ := h
      refine q_iald X Y ev5 dX11_check_15 ?_
      refine lv_iconst (v := 2) hx hb dX11_check_16 (by decide) ?_
      refine lv_icmp_ne (tgt := 26) hx hb dX11_check_17 (by decide) (fun c6 => ?_) (fun c6 => ?_)
      · replace h := Eq.trans (if_neg c6).symm h
        refine lv_aload_n hx hb dX11_check_26 rfl (lv_at hl 0 rfl) ?_
        replace h := xb h
        obtain ⟨v7, ev7, h⟩ := h
        refine q_getN X Y fl_X11_41 ev7 dX11_check_27 ?_
        refine lv_iload_n hx hb dX11_check_30 rfl (lv_at hl 1 rfl) ?_
        replace h := xb h
        obtain ⟨v8, ev8, h⟩ := h
        refine q_iald X Y ev8 dX11_check_31 ?_
        refine lv_iconst (v := 1) hx hb dX11_check_32 (by decide) ?_
        refine lv_icmp_eq (tgt := 42) hx hb dX11_check_33 (by decide) (fun c9 => ?_) (fun c9 => ?_)
        · replace h := Eq.trans (if_pos c9).symm h
          refine lv_iconst (v := 0) hx hb dX11_check_42 (by decide) ?_
          refine lv_istore_n (lv' := [(2, .int (0 : Int32)), (0, .ref h0), (1, .int p1)]) hx hb dX11_check_43 rfl hl (by decide) rfl (fun ls hl => ?_)
          refine W.widen (k := 0) (n := 0) (Nat.le_of_ble_eq_true rfl) (Nat.le_of_ble_eq_true rfl) ?_
          exact lw_X11_check_44 X hr hlocks hin rs  xfuel f h0 p1 (0 : Int32) _ _ _ h Y (lv_sub hl [1, 2, 0] rfl)
        · replace h := Eq.trans (if_neg c9).symm h
          refine lv_aload_n hx hb dX11_check_36 rfl (lv_at hl 0 rfl) ?_
          refine lv_iload_n hx hb dX11_check_37 rfl (lv_at hl 1 rfl) ?_
          by_cases c10 : hKd f h0 = some 10
          · replace h := Eq.trans (if_pos c10).symm h
            replace h := xb h
            obtain ⟨q11, eq11, h⟩ := h
            refine q_callV X Y hl.1 (rest := []) (As := [.int p1]) (c_X11_checkSums l G z f h0 p1 _ eq11) cd_X11_checkSums lv_X11_280_10 c10 ⟨(Nat.le_of_ble_eq_true rfl), (Nat.le_of_ble_eq_true rfl)⟩ ⟨(Nat.le_of_ble_eq_true rfl), (Nat.le_of_ble_eq_true rfl)⟩ rfl rfl (Nat.le_of_ble_eq_true rfl) dX11_check_38 (fun H locs Y => ?_)
            refine W.eq (g2 := F0 m 41 ls [.int q11.1]) rfl ?_
            replace h := Option.some.inj h
            subst h
            exact q_reti X Y hr hlocks (Nat.le_of_ble_eq_true rfl) (Nat.le_of_ble_eq_true rfl) dX11_check_41
          replace h := Eq.trans (if_neg c10).symm h
          cases h
      · replace h := Eq.trans (if_pos c6).symm h
        refine lv_aload_n hx hb dX11_check_20 rfl (lv_at hl 0 rfl) ?_
        refine lv_iload_n hx hb dX11_check_21 rfl (lv_at hl 1 rfl) ?_
        by_cases c12 : hKd f h0 = some 10
        · replace h := Eq.trans (if_pos c12).symm h
          replace h := xb h
          obtain ⟨q13, eq13, h⟩ := h
          refine q_callV X Y hl.1 (rest := []) (As := [.int p1]) (c_X11_checkParts l G z f h0 p1 _ eq13) cd_X11_checkParts lv_X11_277_10 c12 ⟨(Nat.le_of_ble_eq_true rfl), (Nat.le_of_ble_eq_true rfl)⟩ ⟨(Nat.le_of_ble_eq_true rfl), (Nat.le_of_ble_eq_true rfl)⟩ rfl rfl (Nat.le_of_ble_eq_true rfl) dX11_check_22 (fun H locs Y => ?_)
          refine W.eq (g2 := F0 m 25 ls [.int q13.1]) rfl ?_
          replace h := Option.some.inj h
          subst h
          exact q_reti X Y hr hlocks (Nat.le_of_ble_eq_true rfl) (Nat.le_of_ble_eq_true rfl) dX11_check_25
        replace h := Eq.trans (if_neg c12).symm h
        cases h
    · replace h := Eq.trans (if_pos c3).symm h
      refine lv_iconst (v := -1) hx hb dX11_check_8 (by decide) ?_
      replace h := Option.some.inj h
      subst h
      exact q_reti X Y hr hlocks (Nat.le_of_ble_eq_true rfl) (Nat.le_of_ble_eq_true rfl) dX11_check_9
  replace h := Eq.trans (if_neg c1).symm h
  cases h
/-! NeverBelowModel.as(II)I -/
abbrev rm_X11_as : Room := { frames := 1, cells := 0, slots := 0, locals := 25 }
def F_X11_as_71  (f : xHp) (a0 : Nat) (s0 : Int32) : Option (Int32 × xHp) := if s0 = 0 then (if hKd f a0 = some 10 then (Option.bind (F_X11_fails f a0 (2 : Int32)) fun q3 => some (q3.1, q3.2)) else none) else (some ((1 : Int32), f))
def F_X11_as_70  (f : xHp) (a0 : Nat) : Option (Int32 × xHp) := F_X11_as_71 f a0 (0 : Int32)
def F_X11_as_66  (f : xHp) (a0 : Nat) : Option (Int32 × xHp) := F_X11_as_71 f a0 (1 : Int32)
def F_X11_as_56  (f : xHp) (a0 : Nat) (a2 : Int32) (a3 : Int32) : Option (Int32 × xHp) := if a2 = (1 : Int32) then (if a3 = (2 : Int32) then (F_X11_as_66 f a0) else (F_X11_as_70 f a0)) else (F_X11_as_70 f a0)
def F_X11_as (f : xHp) (h0 : Nat) (p1 : Int32) (p2 : Int32) : Option (Int32 × xHp) := Option.bind (hPut f h0 [(10, 0)] (.int (0 : Int32))) fun f1 => if hKd f1 h0 = some 10 then (Option.bind (F_X11_isProof f1 h0 p1) fun q3 => if q3 = 0 then (some ((-1 : Int32), f1)) else (Option.bind (F_X11_within f1 p2.toInt64 (0 : Int64) (4 : Int64)) fun q5 => if q5 = 0 then (some ((-2 : Int32), f1)) else (Option.bind (hN f1 h0 [(10, 21)]) fun v7 => Option.bind (hIld f1 v7 p1) fun v8 => if p2 = (4 : Int32) then (F_X11_as_66 f1 h0) else (if p2 = v8 then (F_X11_as_66 f1 h0) else (if p2 = 0 then (if v8 = (3 : Int32) then (F_X11_as_66 f1 h0) else (F_X11_as_56 f1 h0 p2 v8)) else (F_X11_as_56 f1 h0 p2 v8)))))) else none
set_option maxRecDepth 100000 in
set_option maxHeartbeats 4000000 in
theorem w_X11_as_71 {p : Program} {l : Launch} {e : Env} {s : State} {m : MethodId} {args : Array Value} {below : List Frame} {meth : Method} {c : Code} {G : xG} {z : Nat} (X : xC G p m c s args RX11 cX11_as 5) (hr : meth.sig.returnType = (some .int)) (hlocks : meth.locks = false) (hin : meth.name = yX11_as.name) (rs : Int32 × xHp)  (f : xHp) (a0 : Nat) (s0 : Int32) (H : Heap) (locs : List Loc) (ls : Array Slot) (h : F_X11_as_71  f a0 s0 = some rs) (Y : xY G z f s H locs) (hl : lv_has ls 5 [(0, .ref a0)]) : W p l e rm_X11_as s m args below meth c H locs 0 0 (MQ below (xQ G (some (.int rs.1)) z rs.2) args s rm_X11_as.cells rm_X11_as.slots (xA G)) (F0 m 71 ls [.int s0]) := by
  have hx := X.1.1
  have hb := X.1.2.1
  unfold F_X11_as_71 at h
  refine lv_istore (lv' := [(4, .int s0), (0, .ref a0)]) hx hb dX11_as_71 hl (by decide) rfl (fun ls hl => ?_)
  refine lv_iload hx hb dX11_as_73 (lv_at hl 0 rfl) ?_
  refine lv_if_eq (tgt := 82) hx hb dX11_as_75 (by decide) (fun c1 => ?_) (fun c1 => ?_)
  · replace h := Eq.trans (if_pos c1).symm h
    refine lv_aload_n hx hb dX11_as_82 rfl (lv_at hl 1 rfl) ?_
    refine lv_iconst (v := 2) hx hb dX11_as_83 (by decide) ?_
    by_cases c2 : hKd f a0 = some 10
    · replace h := Eq.trans (if_pos c2).symm h
      replace h := xb h
      obtain ⟨q3, eq3, h⟩ := h
      refine q_callV X Y hl.1 (rest := []) (As := [.int (2 : Int32)]) (c_X11_fails l G z f a0 (2 : Int32) _ eq3) cd_X11_fails lv_X11_88_10 c2 ⟨(Nat.le_of_ble_eq_true rfl), (Nat.le_of_ble_eq_true rfl)⟩ ⟨(Nat.le_of_ble_eq_true rfl), (Nat.le_of_ble_eq_true rfl)⟩ rfl rfl (Nat.le_of_ble_eq_true rfl) dX11_as_84 (fun H locs Y => ?_)
      refine W.eq (g2 := F0 m 87 ls [.int q3.1]) rfl ?_
      replace h := Option.some.inj h
      subst h
      exact q_reti X Y hr hlocks (Nat.le_of_ble_eq_true rfl) (Nat.le_of_ble_eq_true rfl) dX11_as_87
    replace h := Eq.trans (if_neg c2).symm h
    cases h
  · replace h := Eq.trans (if_neg c1).symm h
    refine lv_iconst (v := 1) hx hb dX11_as_78 (by decide) ?_
    refine lv_goto (tgt := 87) hx hb dX11_as_79 (by decide) ?_
    replace h := Option.some.inj h
    subst h
    exact q_reti X Y hr hlocks (Nat.le_of_ble_eq_true rfl) (Nat.le_of_ble_eq_true rfl) dX11_as_87
set_option maxRecDepth 100000 in
set_option maxHeartbeats 4000000 in
theorem w_X11_as_70 {p : Program} {l : Launch} {e : Env} {s : State} {m : MethodId} {args : Array Value} {below : List Frame} {meth : Method} {c : Code} {G : xG} {z : Nat} (X : xC G p m c s args RX11 cX11_as 5) (hr : meth.sig.returnType = (some .int)) (hlocks : meth.locks = false) (hin : meth.name = yX11_as.name) (rs : Int32 × xHp)  (f : xHp) (a0 : Nat) (H : Heap) (locs : List Loc) (ls : Array Slot) (h : F_X11_as_70  f a0 = some rs) (Y : xY G z f s H locs) (hl : lv_has ls 5 [(0, .ref a0)]) : W p l e rm_X11_as s m args below meth c H locs 0 0 (MQ below (xQ G (some (.int rs.1)) z rs.2) args s rm_X11_as.cells rm_X11_as.slots (xA G)) (F0 m 70 ls []) := by
  have hx := X.1.1
  have hb := X.1.2.1
  unfold F_X11_as_70 at h
  refine lv_iconst (v := 0) hx hb dX11_as_70 (by decide) ?_
  refine W.widen (k := 0) (n := 0) (Nat.le_of_ble_eq_true rfl) (Nat.le_of_ble_eq_true rfl) ?_
  exact w_X11_as_71 X hr hlocks hin rs   f a0 (0 : Int32) _ _ _ h Y (lv_sub hl [0] rfl)
set_option maxRecDepth 100000 in
set_option maxHeartbeats 4000000 in
theorem w_X11_as_66 {p : Program} {l : Launch} {e : Env} {s : State} {m : MethodId} {args : Array Value} {below : List Frame} {meth : Method} {c : Code} {G : xG} {z : Nat} (X : xC G p m c s args RX11 cX11_as 5) (hr : meth.sig.returnType = (some .int)) (hlocks : meth.locks = false) (hin : meth.name = yX11_as.name) (rs : Int32 × xHp)  (f : xHp) (a0 : Nat) (H : Heap) (locs : List Loc) (ls : Array Slot) (h : F_X11_as_66  f a0 = some rs) (Y : xY G z f s H locs) (hl : lv_has ls 5 [(0, .ref a0)]) : W p l e rm_X11_as s m args below meth c H locs 0 0 (MQ below (xQ G (some (.int rs.1)) z rs.2) args s rm_X11_as.cells rm_X11_as.slots (xA G)) (F0 m 66 ls []) := by
  have hx := X.1.1
  have hb := X.1.2.1
  unfold F_X11_as_66 at h
  refine lv_iconst (v := 1) hx hb dX11_as_66 (by decide) ?_
  refine lv_goto (tgt := 71) hx hb dX11_as_67 (by decide) ?_
  refine W.widen (k := 0) (n := 0) (Nat.le_of_ble_eq_true rfl) (Nat.le_of_ble_eq_true rfl) ?_
  exact w_X11_as_71 X hr hlocks hin rs   f a0 (1 : Int32) _ _ _ h Y (lv_sub hl [0] rfl)
set_option maxRecDepth 100000 in
set_option maxHeartbeats 4000000 in
theorem w_X11_as_56 {p : Program} {l : Launch} {e : Env} {s : State} {m : MethodId} {args : Array Value} {below : List Frame} {meth : Method} {c : Code} {G : xG} {z : Nat} (X : xC G p m c s args RX11 cX11_as 5) (hr : meth.sig.returnType = (some .int)) (hlocks : meth.locks = false) (hin : meth.name = yX11_as.name) (rs : Int32 × xHp)  (f : xHp) (a0 : Nat) (a2 : Int32) (a3 : Int32) (H : Heap) (locs : List Loc) (ls : Array Slot) (h : F_X11_as_56  f a0 a2 a3 = some rs) (Y : xY G z f s H locs) (hl : lv_has ls 5 [(0, .ref a0), (2, .int a2), (3, .int a3)]) : W p l e rm_X11_as s m args below meth c H locs 0 0 (MQ below (xQ G (some (.int rs.1)) z rs.2) args s rm_X11_as.cells rm_X11_as.slots (xA G)) (F0 m 56 ls []) := by
  have hx := X.1.1
  have hb := X.1.2.1
  unfold F_X11_as_56 at h
  refine lv_iload_n hx hb dX11_as_56 rfl (lv_at hl 1 rfl) ?_
  refine lv_iconst (v := 1) hx hb dX11_as_57 (by decide) ?_
  refine lv_icmp_ne (tgt := 70) hx hb dX11_as_58 (by decide) (fun c1 => ?_) (fun c1 => ?_)
  · replace h := Eq.trans (if_neg c1).symm h
    refine W.widen (k := 0) (n := 0) (Nat.le_of_ble_eq_true rfl) (Nat.le_of_ble_eq_true rfl) ?_
    exact w_X11_as_70 X hr hlocks hin rs   f a0 _ _ _ h Y (lv_sub hl [0] rfl)
  · replace h := Eq.trans (if_pos c1).symm h
    refine lv_iload_n hx hb dX11_as_61 rfl (lv_at hl 2 rfl) ?_
    refine lv_iconst (v := 2) hx hb dX11_as_62 (by decide) ?_
    refine lv_icmp_ne (tgt := 70) hx hb dX11_as_63 (by decide) (fun c2 => ?_) (fun c2 => ?_)
    · replace h := Eq.trans (if_neg c2).symm h
      refine W.widen (k := 0) (n := 0) (Nat.le_of_ble_eq_true rfl) (Nat.le_of_ble_eq_true rfl) ?_
      exact w_X11_as_70 X hr hlocks hin rs   f a0 _ _ _ h Y (lv_sub hl [0] rfl)
    · replace h := Eq.trans (if_pos c2).symm h
      refine W.widen (k := 0) (n := 0) (Nat.le_of_ble_eq_true rfl) (Nat.le_of_ble_eq_true rfl) ?_
      exact w_X11_as_66 X hr hlocks hin rs   f a0 _ _ _ h Y (lv_sub hl [0] rfl)
set_option maxRecDepth 100000 in
set_option maxHeartbeats 4000000 in
theorem c_X11_as (l : Launch) (G : xG) (z : Nat) (f : xHp) (h0 : Nat) (p1 : Int32) (p2 : Int32) (rs : Int32 × xHp) (h : F_X11_as f h0 p1 p2 = some rs) : xM G l yX11_as cX11_as 5 (some .int) rm_X11_as [.ref h0, .int p1, .int p2] z f (some (.int rs.1)) z rs.2 := by
  refine xM_of (by decide) (Nat.le_of_ble_eq_true rfl) ?_
  intro p e s m below meth c ls X hr hlocks hin Y hl
  have hl : lv_has ls 5 [(0, .ref h0), (1, .int p1), (2, .int p2)] := hl
  have hx := X.1.1
  have hb := X.1.2.1
  unfold F_X11_as at h
  refine lv_aload_n hx hb dX11_as_0 rfl (lv_at hl 0 rfl) ?_
  refine lv_iconst (v := 0) hx hb dX11_as_1 (by decide) ?_
  replace h := xb h
  obtain ⟨f1, ef1, h⟩ := h
  refine q_put X Y fp_X11_74 rfl rfl ef1 dX11_as_2 (fun H locs Y => ?_)
  refine lv_aload_n hx hb dX11_as_5 rfl (lv_at hl 0 rfl) ?_
  refine lv_iload_n hx hb dX11_as_6 rfl (lv_at hl 1 rfl) ?_
  by_cases c2 : hKd f1 h0 = some 10
  · replace h := Eq.trans (if_pos c2).symm h
    replace h := xb h
    obtain ⟨q3, eq3, h⟩ := h
    refine q_callV X Y hl.1 (rest := []) (As := [.int p1]) (c_X11_isProof l G z f1 h0 p1 _ eq3) cd_X11_isProof lv_X11_227_10 c2 ⟨(Nat.le_of_ble_eq_true rfl), (Nat.le_of_ble_eq_true rfl)⟩ ⟨(Nat.le_of_ble_eq_true rfl), (Nat.le_of_ble_eq_true rfl)⟩ rfl rfl (Nat.le_of_ble_eq_true rfl) dX11_as_7 (fun H locs Y => ?_)
    refine W.eq (g2 := F0 m 10 ls [.int q3]) rfl ?_
    refine lv_if_ne (tgt := 15) hx hb dX11_as_10 (by decide) (fun c4 => ?_) (fun c4 => ?_)
    · replace h := Eq.trans (if_neg c4).symm h
      refine lv_iload_n hx hb dX11_as_15 rfl (lv_at hl 2 rfl) ?_
      refine lv_i2l hx hb dX11_as_16 rfl ?_
      refine lv_lconst (v := 0) hx hb dX11_as_17 (by decide) ?_
      refine lv_ldc2 (v := 4) hx hb X.1.2.2.2.1 (X.1.2.2.2.2 _ xw_1216) dX11_as_18 ?_
      replace h := xb h
      obtain ⟨q5, eq5, h⟩ := h
      refine q_callS X Y hl.1 (rest := []) (As := [.long p2.toInt64, .long (0 : Int64), .long (4 : Int64)]) (c_X11_within l G z f1 p2.toInt64 (0 : Int64) (4 : Int64) _ eq5) cd_X11_within ls_X11_82 ⟨(Nat.le_of_ble_eq_true rfl), (Nat.le_of_ble_eq_true rfl)⟩ ⟨(Nat.le_of_ble_eq_true rfl), (Nat.le_of_ble_eq_true rfl)⟩ rfl rfl (Nat.le_of_ble_eq_true rfl) dX11_as_21 (fun H locs Y => ?_)
      refine W.eq (g2 := F0 m 24 ls [.int q5]) rfl ?_
      refine lv_if_ne (tgt := 30) hx hb dX11_as_24 (by decide) (fun c6 => ?_) (fun c6 => ?_)
      · replace h := Eq.trans (if_neg c6).symm h
        refine lv_aload_n hx hb dX11_as_30 rfl (lv_at hl 0 rfl) ?_
        replace h := xb h
        obtain ⟨v7, ev7, h⟩ := h
        refine q_getN X Y fl_X11_41 ev7 dX11_as_31 ?_
        refine lv_iload_n hx hb dX11_as_34 rfl (lv_at hl 1 rfl) ?_
        replace h := xb h
        obtain ⟨v8, ev8, h⟩ := h
        refine q_iald X Y ev8 dX11_as_35 ?_
        refine lv_istore_n (lv' := [(3, .int v8), (0, .ref h0), (1, .int p1), (2, .int p2)]) hx hb dX11_as_36 rfl hl (by decide) rfl (fun ls hl => ?_)
        refine lv_iload_n hx hb dX11_as_37 rfl (lv_at hl 3 rfl) ?_
        refine lv_iconst (v := 4) hx hb dX11_as_38 (by decide) ?_
        refine lv_icmp_eq (tgt := 66) hx hb dX11_as_39 (by decide) (fun c9 => ?_) (fun c9 => ?_)
        · replace h := Eq.trans (if_pos c9).symm h
          refine W.widen (k := 0) (n := 0) (Nat.le_of_ble_eq_true rfl) (Nat.le_of_ble_eq_true rfl) ?_
          exact w_X11_as_66 X hr hlocks hin rs   f1 h0 _ _ _ h Y (lv_sub hl [1] rfl)
        · replace h := Eq.trans (if_neg c9).symm h
          refine lv_iload_n hx hb dX11_as_42 rfl (lv_at hl 3 rfl) ?_
          refine lv_iload_n hx hb dX11_as_43 rfl (lv_at hl 0 rfl) ?_
          refine lv_icmp_eq (tgt := 66) hx hb dX11_as_44 (by decide) (fun c10 => ?_) (fun c10 => ?_)
          · replace h := Eq.trans (if_pos c10).symm h
            refine W.widen (k := 0) (n := 0) (Nat.le_of_ble_eq_true rfl) (Nat.le_of_ble_eq_true rfl) ?_
            exact w_X11_as_66 X hr hlocks hin rs   f1 h0 _ _ _ h Y (lv_sub hl [1] rfl)
          · replace h := Eq.trans (if_neg c10).symm h
            refine lv_iload_n hx hb dX11_as_47 rfl (lv_at hl 3 rfl) ?_
            refine lv_if_ne (tgt := 56) hx hb dX11_as_48 (by decide) (fun c11 => ?_) (fun c11 => ?_)
            · replace h := Eq.trans (if_neg c11).symm h
              refine W.widen (k := 0) (n := 0) (Nat.le_of_ble_eq_true rfl) (Nat.le_of_ble_eq_true rfl) ?_
              exact w_X11_as_56 X hr hlocks hin rs   f1 h0 p2 v8 _ _ _ h Y (lv_sub hl [1, 3, 0] rfl)
            · replace h := Eq.trans (if_pos c11).symm h
              refine lv_iload_n hx hb dX11_as_51 rfl (lv_at hl 0 rfl) ?_
              refine lv_iconst (v := 3) hx hb dX11_as_52 (by decide) ?_
              refine lv_icmp_eq (tgt := 66) hx hb dX11_as_53 (by decide) (fun c12 => ?_) (fun c12 => ?_)
              · replace h := Eq.trans (if_pos c12).symm h
                refine W.widen (k := 0) (n := 0) (Nat.le_of_ble_eq_true rfl) (Nat.le_of_ble_eq_true rfl) ?_
                exact w_X11_as_66 X hr hlocks hin rs   f1 h0 _ _ _ h Y (lv_sub hl [1] rfl)
              · replace h := Eq.trans (if_neg c12).symm h
                refine W.widen (k := 0) (n := 0) (Nat.le_of_ble_eq_true rfl) (Nat.le_of_ble_eq_true rfl) ?_
                exact w_X11_as_56 X hr hlocks hin rs   f1 h0 p2 v8 _ _ _ h Y (lv_sub hl [1, 3, 0] rfl)
      · replace h := Eq.trans (if_pos c6).symm h
        refine lv_bipush (v := -2) hx hb dX11_as_27 (by decide) ?_
        replace h := Option.some.inj h
        subst h
        exact q_reti X Y hr hlocks (Nat.le_of_ble_eq_true rfl) (Nat.le_of_ble_eq_true rfl) dX11_as_29
    · replace h := Eq.trans (if_pos c4).symm h
      refine lv_iconst (v := -1) hx hb dX11_as_13 (by decide) ?_
      replace h := Option.some.inj h
      subst h
      exact q_reti X Y hr hlocks (Nat.le_of_ble_eq_true rfl) (Nat.le_of_ble_eq_true rfl) dX11_as_14
  replace h := Eq.trans (if_neg c2).symm h
  cases h
/-! NeverBelowModel.begins(I)V -/
abbrev rm_X11_begins : Room := { frames := 0, cells := 0, slots := 0, locals := 0 }
def F_X11_begins (f : xHp) (h0 : Nat) (p1 : Int32) : Option (xHp) := Option.bind (hI f h0 [(10, 1)]) fun v1 => Option.bind (hPut f h0 [(10, 1)] (.int (((31 : Int32) * v1) + p1))) fun f2 => some f2
set_option maxRecDepth 100000 in
set_option maxHeartbeats 4000000 in
theorem c_X11_begins (l : Launch) (G : xG) (z : Nat) (f : xHp) (h0 : Nat) (p1 : Int32) (rs : xHp) (h : F_X11_begins f h0 p1 = some rs) : xM G l yX11_begins cX11_begins 2 none rm_X11_begins [.ref h0, .int p1] z f none z rs := by
  refine xM_of (by decide) (Nat.le_of_ble_eq_true rfl) ?_
  intro p e s m below meth c ls X hr hlocks hin Y hl
  have hl : lv_has ls 2 [(0, .ref h0), (1, .int p1)] := hl
  have hx := X.1.1
  have hb := X.1.2.1
  unfold F_X11_begins at h
  refine lv_aload_n hx hb dX11_begins_0 rfl (lv_at hl 0 rfl) ?_
  refine lv_bipush (v := 31) hx hb dX11_begins_1 (by decide) ?_
  refine lv_aload_n hx hb dX11_begins_3 rfl (lv_at hl 0 rfl) ?_
  replace h := xb h
  obtain ⟨v1, ev1, h⟩ := h
  refine q_getI X Y fl_X11_285 ev1 dX11_begins_4 ?_
  refine lv_imul hx hb dX11_begins_7 ?_
  refine lv_iload_n hx hb dX11_begins_8 rfl (lv_at hl 1 rfl) ?_
  refine lv_iadd hx hb dX11_begins_9 ?_
  replace h := xb h
  obtain ⟨f2, ef2, h⟩ := h
  refine q_put X Y fp_X11_285 rfl rfl ef2 dX11_begins_10 (fun H locs Y => ?_)
  replace h := Option.some.inj h
  subst h
  exact q_retv X Y hr hlocks (Nat.le_of_ble_eq_true rfl) (Nat.le_of_ble_eq_true rfl) dX11_begins_13
/-! NeverBelowModel.tell(I)I -/
abbrev rm_X11_tell : Room := { frames := 1, cells := 0, slots := 0, locals := 21 }
def F_X11_tell_88  (f : xHp) (a0 : Nat) (a2 : Int32) : Option (Int32 × xHp) := if hKd f a0 = some 10 then (Option.bind (F_X11_begins f a0 (4 : Int32)) fun q2 => if hKd q2 a0 = some 10 then (Option.bind (F_X11_begins q2 a0 (3 : Int32)) fun q4 => if hKd q4 a0 = some 10 then (Option.bind (F_X11_begins q4 a0 (1 : Int32)) fun q6 => some (a2, q6)) else none) else none) else none
def F_X11_tell (f : xHp) (h0 : Nat) (p1 : Int32) : Option (Int32 × xHp) := if hKd f h0 = some 10 then (Option.bind (F_X11_isProof f h0 p1) fun q2 => if q2 = 0 then (some ((-1 : Int32), f)) else (Option.bind (hN f h0 [(10, 24)]) fun v4 => Option.bind (hIld f v4 p1) fun v5 => Option.bind (hN f h0 [(10, 21)]) fun v6 => Option.bind (hIld f v6 p1) fun v7 => if v7 = 0 then if hKd f h0 = some 10 then (Option.bind (F_X11_begins f h0 (1 : Int32)) fun q10 => some (v5, q10)) else none else if v7 = 1 then if hKd f h0 = some 10 then (Option.bind (F_X11_begins f h0 (3 : Int32)) fun q13 => if hKd q13 h0 = some 10 then (Option.bind (F_X11_begins q13 h0 (1 : Int32)) fun q15 => some (((9 : Int32) + v5), q15)) else none) else none else if v7 = 2 then F_X11_tell_88 f h0 v5 else if v7 = 3 then if hKd f h0 = some 10 then (Option.bind (F_X11_begins f h0 (2 : Int32)) fun q19 => if hKd q19 h0 = some 10 then (Option.bind (F_X11_begins q19 h0 (1 : Int32)) fun q21 => some (((2 : Int32) * v5), q21)) else none) else none else F_X11_tell_88 f h0 v5)) else none
set_option maxRecDepth 100000 in
set_option maxHeartbeats 4000000 in
theorem w_X11_tell_88 {p : Program} {l : Launch} {e : Env} {s : State} {m : MethodId} {args : Array Value} {below : List Frame} {meth : Method} {c : Code} {G : xG} {z : Nat} (X : xC G p m c s args RX11 cX11_tell 3) (hr : meth.sig.returnType = (some .int)) (hlocks : meth.locks = false) (hin : meth.name = yX11_tell.name) (rs : Int32 × xHp)  (f : xHp) (a0 : Nat) (a2 : Int32) (H : Heap) (locs : List Loc) (ls : Array Slot) (h : F_X11_tell_88  f a0 a2 = some rs) (Y : xY G z f s H locs) (hl : lv_has ls 3 [(0, .ref a0), (2, .int a2)]) : W p l e rm_X11_tell s m args below meth c H locs 0 0 (MQ below (xQ G (some (.int rs.1)) z rs.2) args s rm_X11_tell.cells rm_X11_tell.slots (xA G)) (F0 m 88 ls []) := by
  have hx := X.1.1
  have hb := X.1.2.1
  unfold F_X11_tell_88 at h
  refine lv_aload_n hx hb dX11_tell_88 rfl (lv_at hl 0 rfl) ?_
  refine lv_iconst (v := 4) hx hb dX11_tell_89 (by decide) ?_
  by_cases c1 : hKd f a0 = some 10
  · replace h := Eq.trans (if_pos c1).symm h
    replace h := xb h
    obtain ⟨q2, eq2, h⟩ := h
    refine q_callV X Y hl.1 (rest := []) (As := [.int (4 : Int32)]) (c_X11_begins l G z f a0 (4 : Int32) _ eq2) cd_X11_begins lv_X11_288_10 c1 ⟨(Nat.le_of_ble_eq_true rfl), (Nat.le_of_ble_eq_true rfl)⟩ ⟨(Nat.le_of_ble_eq_true rfl), (Nat.le_of_ble_eq_true rfl)⟩ rfl rfl (Nat.le_of_ble_eq_true rfl) dX11_tell_90 (fun H locs Y => ?_)
    refine W.eq (g2 := F0 m 93 ls []) rfl ?_
    refine lv_aload_n hx hb dX11_tell_93 rfl (lv_at hl 0 rfl) ?_
    refine lv_iconst (v := 3) hx hb dX11_tell_94 (by decide) ?_
    by_cases c3 : hKd q2 a0 = some 10
    · replace h := Eq.trans (if_pos c3).symm h
      replace h := xb h
      obtain ⟨q4, eq4, h⟩ := h
      refine q_callV X Y hl.1 (rest := []) (As := [.int (3 : Int32)]) (c_X11_begins l G z q2 a0 (3 : Int32) _ eq4) cd_X11_begins lv_X11_288_10 c3 ⟨(Nat.le_of_ble_eq_true rfl), (Nat.le_of_ble_eq_true rfl)⟩ ⟨(Nat.le_of_ble_eq_true rfl), (Nat.le_of_ble_eq_true rfl)⟩ rfl rfl (Nat.le_of_ble_eq_true rfl) dX11_tell_95 (fun H locs Y => ?_)
      refine W.eq (g2 := F0 m 98 ls []) rfl ?_
      refine lv_aload_n hx hb dX11_tell_98 rfl (lv_at hl 0 rfl) ?_
      refine lv_iconst (v := 1) hx hb dX11_tell_99 (by decide) ?_
      by_cases c5 : hKd q4 a0 = some 10
      · replace h := Eq.trans (if_pos c5).symm h
        replace h := xb h
        obtain ⟨q6, eq6, h⟩ := h
        refine q_callV X Y hl.1 (rest := []) (As := [.int (1 : Int32)]) (c_X11_begins l G z q4 a0 (1 : Int32) _ eq6) cd_X11_begins lv_X11_288_10 c5 ⟨(Nat.le_of_ble_eq_true rfl), (Nat.le_of_ble_eq_true rfl)⟩ ⟨(Nat.le_of_ble_eq_true rfl), (Nat.le_of_ble_eq_true rfl)⟩ rfl rfl (Nat.le_of_ble_eq_true rfl) dX11_tell_100 (fun H locs Y => ?_)
        refine W.eq (g2 := F0 m 103 ls []) rfl ?_
        refine lv_iload_n hx hb dX11_tell_103 rfl (lv_at hl 1 rfl) ?_
        replace h := Option.some.inj h
        subst h
        exact q_reti X Y hr hlocks (Nat.le_of_ble_eq_true rfl) (Nat.le_of_ble_eq_true rfl) dX11_tell_104
      replace h := Eq.trans (if_neg c5).symm h
      cases h
    replace h := Eq.trans (if_neg c3).symm h
    cases h
  replace h := Eq.trans (if_neg c1).symm h
  cases h
set_option maxRecDepth 100000 in
set_option maxHeartbeats 4000000 in
theorem c_X11_tell (l : Launch) (G : xG) (z : Nat) (f : xHp) (h0 : Nat) (p1 : Int32) (rs : Int32 × xHp) (h : F_X11_tell f h0 p1 = some rs) : xM G l yX11_tell cX11_tell 3 (some .int) rm_X11_tell [.ref h0, .int p1] z f (some (.int rs.1)) z rs.2 := by
  refine xM_of (by decide) (Nat.le_of_ble_eq_true rfl) ?_
  intro p e s m below meth c ls X hr hlocks hin Y hl
  have hl : lv_has ls 3 [(0, .ref h0), (1, .int p1)] := hl
  have hx := X.1.1
  have hb := X.1.2.1
  unfold F_X11_tell at h
  refine lv_aload_n hx hb dX11_tell_0 rfl (lv_at hl 0 rfl) ?_
  refine lv_iload_n hx hb dX11_tell_1 rfl (lv_at hl 1 rfl) ?_
  by_cases c1 : hKd f h0 = some 10
  · replace h := Eq.trans (if_pos c1).symm h
    replace h := xb h
    obtain ⟨q2, eq2, h⟩ := h
    refine q_callV X Y hl.1 (rest := []) (As := [.int p1]) (c_X11_isProof l G z f h0 p1 _ eq2) cd_X11_isProof lv_X11_227_10 c1 ⟨(Nat.le_of_ble_eq_true rfl), (Nat.le_of_ble_eq_true rfl)⟩ ⟨(Nat.le_of_ble_eq_true rfl), (Nat.le_of_ble_eq_true rfl)⟩ rfl rfl (Nat.le_of_ble_eq_true rfl) dX11_tell_2 (fun H locs Y => ?_)
    refine W.eq (g2 := F0 m 5 ls [.int q2]) rfl ?_
    refine lv_if_ne (tgt := 10) hx hb dX11_tell_5 (by decide) (fun c3 => ?_) (fun c3 => ?_)
    · replace h := Eq.trans (if_neg c3).symm h
      refine lv_aload_n hx hb dX11_tell_10 rfl (lv_at hl 0 rfl) ?_
      replace h := xb h
      obtain ⟨v4, ev4, h⟩ := h
      refine q_getN X Y fl_X11_50 ev4 dX11_tell_11 ?_
      refine lv_iload_n hx hb dX11_tell_14 rfl (lv_at hl 1 rfl) ?_
      replace h := xb h
      obtain ⟨v5, ev5, h⟩ := h
      refine q_iald X Y ev5 dX11_tell_15 ?_
      refine lv_istore_n (lv' := [(2, .int v5), (0, .ref h0), (1, .int p1)]) hx hb dX11_tell_16 rfl hl (by decide) rfl (fun ls hl => ?_)
      refine lv_aload_n hx hb dX11_tell_17 rfl (lv_at hl 1 rfl) ?_
      replace h := xb h
      obtain ⟨v6, ev6, h⟩ := h
      refine q_getN X Y fl_X11_41 ev6 dX11_tell_18 ?_
      refine lv_iload_n hx hb dX11_tell_21 rfl (lv_at hl 2 rfl) ?_
      replace h := xb h
      obtain ⟨v7, ev7, h⟩ := h
      refine q_iald X Y ev7 dX11_tell_22 ?_
      by_cases c8 : v7 = 0
      · replace h := Eq.trans (if_pos c8).symm h
        refine lv_tableIn (tgt := 52) hx hb dX11_tell_23 (by rw [c8]; decide) (by rw [c8]; decide) (by rw [c8]; rfl) (by decide) ?_
        refine lv_aload_n hx hb dX11_tell_52 rfl (lv_at hl 1 rfl) ?_
        refine lv_iconst (v := 1) hx hb dX11_tell_53 (by decide) ?_
        by_cases c9 : hKd f h0 = some 10
        · replace h := Eq.trans (if_pos c9).symm h
          replace h := xb h
          obtain ⟨q10, eq10, h⟩ := h
          refine q_callV X Y hl.1 (rest := []) (As := [.int (1 : Int32)]) (c_X11_begins l G z f h0 (1 : Int32) _ eq10) cd_X11_begins lv_X11_288_10 c9 ⟨(Nat.le_of_ble_eq_true rfl), (Nat.le_of_ble_eq_true rfl)⟩ ⟨(Nat.le_of_ble_eq_true rfl), (Nat.le_of_ble_eq_true rfl)⟩ rfl rfl (Nat.le_of_ble_eq_true rfl) dX11_tell_54 (fun H locs Y => ?_)
          refine W.eq (g2 := F0 m 57 ls []) rfl ?_
          refine lv_iload_n hx hb dX11_tell_57 rfl (lv_at hl 0 rfl) ?_
          replace h := Option.some.inj h
          subst h
          exact q_reti X Y hr hlocks (Nat.le_of_ble_eq_true rfl) (Nat.le_of_ble_eq_true rfl) dX11_tell_58
        replace h := Eq.trans (if_neg c9).symm h
        cases h
      replace h := Eq.trans (if_neg c8).symm h
      by_cases c11 : v7 = 1
      · replace h := Eq.trans (if_pos c11).symm h
        refine lv_tableIn (tgt := 73) hx hb dX11_tell_23 (by rw [c11]; decide) (by rw [c11]; decide) (by rw [c11]; rfl) (by decide) ?_
        refine lv_aload_n hx hb dX11_tell_73 rfl (lv_at hl 1 rfl) ?_
        refine lv_iconst (v := 3) hx hb dX11_tell_74 (by decide) ?_
        by_cases c12 : hKd f h0 = some 10
        · replace h := Eq.trans (if_pos c12).symm h
          replace h := xb h
          obtain ⟨q13, eq13, h⟩ := h
          refine q_callV X Y hl.1 (rest := []) (As := [.int (3 : Int32)]) (c_X11_begins l G z f h0 (3 : Int32) _ eq13) cd_X11_begins lv_X11_288_10 c12 ⟨(Nat.le_of_ble_eq_true rfl), (Nat.le_of_ble_eq_true rfl)⟩ ⟨(Nat.le_of_ble_eq_true rfl), (Nat.le_of_ble_eq_true rfl)⟩ rfl rfl (Nat.le_of_ble_eq_true rfl) dX11_tell_75 (fun H locs Y => ?_)
          refine W.eq (g2 := F0 m 78 ls []) rfl ?_
          refine lv_aload_n hx hb dX11_tell_78 rfl (lv_at hl 1 rfl) ?_
          refine lv_iconst (v := 1) hx hb dX11_tell_79 (by decide) ?_
          by_cases c14 : hKd q13 h0 = some 10
          · replace h := Eq.trans (if_pos c14).symm h
            replace h := xb h
            obtain ⟨q15, eq15, h⟩ := h
            refine q_callV X Y hl.1 (rest := []) (As := [.int (1 : Int32)]) (c_X11_begins l G z q13 h0 (1 : Int32) _ eq15) cd_X11_begins lv_X11_288_10 c14 ⟨(Nat.le_of_ble_eq_true rfl), (Nat.le_of_ble_eq_true rfl)⟩ ⟨(Nat.le_of_ble_eq_true rfl), (Nat.le_of_ble_eq_true rfl)⟩ rfl rfl (Nat.le_of_ble_eq_true rfl) dX11_tell_80 (fun H locs Y => ?_)
            refine W.eq (g2 := F0 m 83 ls []) rfl ?_
            refine lv_bipush (v := 9) hx hb dX11_tell_83 (by decide) ?_
            refine lv_iload_n hx hb dX11_tell_85 rfl (lv_at hl 0 rfl) ?_
            refine lv_iadd hx hb dX11_tell_86 ?_
            replace h := Option.some.inj h
            subst h
            exact q_reti X Y hr hlocks (Nat.le_of_ble_eq_true rfl) (Nat.le_of_ble_eq_true rfl) dX11_tell_87
          replace h := Eq.trans (if_neg c14).symm h
          cases h
        replace h := Eq.trans (if_neg c12).symm h
        cases h
      replace h := Eq.trans (if_neg c11).symm h
      by_cases c16 : v7 = 2
      · replace h := Eq.trans (if_pos c16).symm h
        refine lv_tableIn (tgt := 88) hx hb dX11_tell_23 (by rw [c16]; decide) (by rw [c16]; decide) (by rw [c16]; rfl) (by decide) ?_
        refine W.widen (k := 0) (n := 0) (Nat.le_of_ble_eq_true rfl) (Nat.le_of_ble_eq_true rfl) ?_
        exact w_X11_tell_88 X hr hlocks hin rs   f h0 v5 _ _ _ h Y (lv_sub hl [1, 0] rfl)
      replace h := Eq.trans (if_neg c16).symm h
      by_cases c17 : v7 = 3
      · replace h := Eq.trans (if_pos c17).symm h
        refine lv_tableIn (tgt := 59) hx hb dX11_tell_23 (by rw [c17]; decide) (by rw [c17]; decide) (by rw [c17]; rfl) (by decide) ?_
        refine lv_aload_n hx hb dX11_tell_59 rfl (lv_at hl 1 rfl) ?_
        refine lv_iconst (v := 2) hx hb dX11_tell_60 (by decide) ?_
        by_cases c18 : hKd f h0 = some 10
        · replace h := Eq.trans (if_pos c18).symm h
          replace h := xb h
          obtain ⟨q19, eq19, h⟩ := h
          refine q_callV X Y hl.1 (rest := []) (As := [.int (2 : Int32)]) (c_X11_begins l G z f h0 (2 : Int32) _ eq19) cd_X11_begins lv_X11_288_10 c18 ⟨(Nat.le_of_ble_eq_true rfl), (Nat.le_of_ble_eq_true rfl)⟩ ⟨(Nat.le_of_ble_eq_true rfl), (Nat.le_of_ble_eq_true rfl)⟩ rfl rfl (Nat.le_of_ble_eq_true rfl) dX11_tell_61 (fun H locs Y => ?_)
          refine W.eq (g2 := F0 m 64 ls []) rfl ?_
          refine lv_aload_n hx hb dX11_tell_64 rfl (lv_at hl 1 rfl) ?_
          refine lv_iconst (v := 1) hx hb dX11_tell_65 (by decide) ?_
          by_cases c20 : hKd q19 h0 = some 10
          · replace h := Eq.trans (if_pos c20).symm h
            replace h := xb h
            obtain ⟨q21, eq21, h⟩ := h
            refine q_callV X Y hl.1 (rest := []) (As := [.int (1 : Int32)]) (c_X11_begins l G z q19 h0 (1 : Int32) _ eq21) cd_X11_begins lv_X11_288_10 c20 ⟨(Nat.le_of_ble_eq_true rfl), (Nat.le_of_ble_eq_true rfl)⟩ ⟨(Nat.le_of_ble_eq_true rfl), (Nat.le_of_ble_eq_true rfl)⟩ rfl rfl (Nat.le_of_ble_eq_true rfl) dX11_tell_66 (fun H locs Y => ?_)
            refine W.eq (g2 := F0 m 69 ls []) rfl ?_
            refine lv_iconst (v := 2) hx hb dX11_tell_69 (by decide) ?_
            refine lv_iload_n hx hb dX11_tell_70 rfl (lv_at hl 0 rfl) ?_
            refine lv_imul hx hb dX11_tell_71 ?_
            replace h := Option.some.inj h
            subst h
            exact q_reti X Y hr hlocks (Nat.le_of_ble_eq_true rfl) (Nat.le_of_ble_eq_true rfl) dX11_tell_72
          replace h := Eq.trans (if_neg c20).symm h
          cases h
        replace h := Eq.trans (if_neg c18).symm h
        cases h
      replace h := Eq.trans (if_neg c17).symm h
      have nc8 := xneI (k := 0) (by decide) c8
      have nc11 := xneI (k := 1) (by decide) c11
      have nc16 := xneI (k := 2) (by decide) c16
      have nc17 := xneI (k := 3) (by decide) c17
      refine lv_tableOut (tgt := 88) hx hb dX11_tell_23 (by omega) (by decide) ?_
      refine W.widen (k := 0) (n := 0) (Nat.le_of_ble_eq_true rfl) (Nat.le_of_ble_eq_true rfl) ?_
      exact w_X11_tell_88 X hr hlocks hin rs   f h0 v5 _ _ _ h Y (lv_sub hl [1, 0] rfl)
    · replace h := Eq.trans (if_pos c3).symm h
      refine lv_iconst (v := -1) hx hb dX11_tell_8 (by decide) ?_
      replace h := Option.some.inj h
      subst h
      exact q_reti X Y hr hlocks (Nat.le_of_ble_eq_true rfl) (Nat.le_of_ble_eq_true rfl) dX11_tell_9
  replace h := Eq.trans (if_neg c1).symm h
  cases h
/-! NeverBelowModel.cost(I)I -/
abbrev rm_X11_cost : Room := { frames := 1, cells := 0, slots := 0, locals := 21 }
def F_X11_cost_47  (f : xHp) (a0 : Nat) (a1 : Int32) (a2 : Int32) (s0 : Int32) (s1 : Nat) : Option (Int32 × xHp) := if hKd f s1 = some 10 then (Option.bind (F_X11_begins f s1 s0) fun q2 => if a2 = 0 then (Option.bind (hN q2 a0 [(10, 24)]) fun v4 => Option.bind (hIld q2 v4 a1) fun v5 => some (((100 : Int32) + v5), q2)) else (some ((7 : Int32), q2))) else none
def F_X11_cost_35  (f : xHp) (a0 : Nat) (a1 : Int32) (s0 : Int32) : Option (Int32 × xHp) := if s0 = 0 then (F_X11_cost_47 f a0 a1 s0 (5 : Int32) a0) else (F_X11_cost_47 f a0 a1 s0 (6 : Int32) a0)
def F_X11_cost_30  (f : xHp) (a0 : Nat) (a1 : Int32) : Option (Int32 × xHp) := F_X11_cost_35 f a0 a1 (1 : Int32)
def F_X11_cost (f : xHp) (h0 : Nat) (p1 : Int32) : Option (Int32 × xHp) := if hKd f h0 = some 10 then (Option.bind (F_X11_isProof f h0 p1) fun q2 => if q2 = 0 then (some ((-1 : Int32), f)) else (Option.bind (hN f h0 [(10, 21)]) fun v4 => Option.bind (hIld f v4 p1) fun v5 => if v5 = (1 : Int32) then (F_X11_cost_30 f h0 p1) else (Option.bind (hN f h0 [(10, 21)]) fun v7 => Option.bind (hIld f v7 p1) fun v8 => if v8 = (2 : Int32) then (F_X11_cost_30 f h0 p1) else (F_X11_cost_35 f h0 p1 (0 : Int32))))) else none
set_option maxRecDepth 100000 in
set_option maxHeartbeats 4000000 in
theorem w_X11_cost_47 {p : Program} {l : Launch} {e : Env} {s : State} {m : MethodId} {args : Array Value} {below : List Frame} {meth : Method} {c : Code} {G : xG} {z : Nat} (X : xC G p m c s args RX11 cX11_cost 3) (hr : meth.sig.returnType = (some .int)) (hlocks : meth.locks = false) (hin : meth.name = yX11_cost.name) (rs : Int32 × xHp)  (f : xHp) (a0 : Nat) (a1 : Int32) (a2 : Int32) (s0 : Int32) (s1 : Nat) (H : Heap) (locs : List Loc) (ls : Array Slot) (h : F_X11_cost_47  f a0 a1 a2 s0 s1 = some rs) (Y : xY G z f s H locs) (hl : lv_has ls 3 [(0, .ref a0), (1, .int a1), (2, .int a2)]) : W p l e rm_X11_cost s m args below meth c H locs 0 0 (MQ below (xQ G (some (.int rs.1)) z rs.2) args s rm_X11_cost.cells rm_X11_cost.slots (xA G)) (F0 m 47 ls [.int s0, .ref s1]) := by
  have hx := X.1.1
  have hb := X.1.2.1
  unfold F_X11_cost_47 at h
  by_cases c1 : hKd f s1 = some 10
  · replace h := Eq.trans (if_pos c1).symm h
    replace h := xb h
    obtain ⟨q2, eq2, h⟩ := h
    refine q_callV X Y hl.1 (rest := []) (As := [.int s0]) (c_X11_begins l G z f s1 s0 _ eq2) cd_X11_begins lv_X11_288_10 c1 ⟨(Nat.le_of_ble_eq_true rfl), (Nat.le_of_ble_eq_true rfl)⟩ ⟨(Nat.le_of_ble_eq_true rfl), (Nat.le_of_ble_eq_true rfl)⟩ rfl rfl (Nat.le_of_ble_eq_true rfl) dX11_cost_47 (fun H locs Y => ?_)
    refine W.eq (g2 := F0 m 50 ls []) rfl ?_
    refine lv_iload_n hx hb dX11_cost_50 rfl (lv_at hl 2 rfl) ?_
    refine lv_if_eq (tgt := 59) hx hb dX11_cost_51 (by decide) (fun c3 => ?_) (fun c3 => ?_)
    · replace h := Eq.trans (if_pos c3).symm h
      refine lv_bipush (v := 100) hx hb dX11_cost_59 (by decide) ?_
      refine lv_aload_n hx hb dX11_cost_61 rfl (lv_at hl 0 rfl) ?_
      replace h := xb h
      obtain ⟨v4, ev4, h⟩ := h
      refine q_getN X Y fl_X11_50 ev4 dX11_cost_62 ?_
      refine lv_iload_n hx hb dX11_cost_65 rfl (lv_at hl 1 rfl) ?_
      replace h := xb h
      obtain ⟨v5, ev5, h⟩ := h
      refine q_iald X Y ev5 dX11_cost_66 ?_
      refine lv_iadd hx hb dX11_cost_67 ?_
      replace h := Option.some.inj h
      subst h
      exact q_reti X Y hr hlocks (Nat.le_of_ble_eq_true rfl) (Nat.le_of_ble_eq_true rfl) dX11_cost_68
    · replace h := Eq.trans (if_neg c3).symm h
      refine lv_bipush (v := 7) hx hb dX11_cost_54 (by decide) ?_
      refine lv_goto (tgt := 68) hx hb dX11_cost_56 (by decide) ?_
      replace h := Option.some.inj h
      subst h
      exact q_reti X Y hr hlocks (Nat.le_of_ble_eq_true rfl) (Nat.le_of_ble_eq_true rfl) dX11_cost_68
  replace h := Eq.trans (if_neg c1).symm h
  cases h
set_option maxRecDepth 100000 in
set_option maxHeartbeats 4000000 in
theorem w_X11_cost_35 {p : Program} {l : Launch} {e : Env} {s : State} {m : MethodId} {args : Array Value} {below : List Frame} {meth : Method} {c : Code} {G : xG} {z : Nat} (X : xC G p m c s args RX11 cX11_cost 3) (hr : meth.sig.returnType = (some .int)) (hlocks : meth.locks = false) (hin : meth.name = yX11_cost.name) (rs : Int32 × xHp)  (f : xHp) (a0 : Nat) (a1 : Int32) (s0 : Int32) (H : Heap) (locs : List Loc) (ls : Array Slot) (h : F_X11_cost_35  f a0 a1 s0 = some rs) (Y : xY G z f s H locs) (hl : lv_has ls 3 [(0, .ref a0), (1, .int a1)]) : W p l e rm_X11_cost s m args below meth c H locs 0 0 (MQ below (xQ G (some (.int rs.1)) z rs.2) args s rm_X11_cost.cells rm_X11_cost.slots (xA G)) (F0 m 35 ls [.int s0]) := by
  have hx := X.1.1
  have hb := X.1.2.1
  unfold F_X11_cost_35 at h
  refine lv_istore_n (lv' := [(2, .int s0), (0, .ref a0), (1, .int a1)]) hx hb dX11_cost_35 rfl hl (by decide) rfl (fun ls hl => ?_)
  refine lv_aload_n hx hb dX11_cost_36 rfl (lv_at hl 1 rfl) ?_
  refine lv_iload_n hx hb dX11_cost_37 rfl (lv_at hl 0 rfl) ?_
  refine lv_if_eq (tgt := 46) hx hb dX11_cost_38 (by decide) (fun c1 => ?_) (fun c1 => ?_)
  · replace h := Eq.trans (if_pos c1).symm h
    refine lv_iconst (v := 5) hx hb dX11_cost_46 (by decide) ?_
    refine W.widen (k := 0) (n := 0) (Nat.le_of_ble_eq_true rfl) (Nat.le_of_ble_eq_true rfl) ?_
    exact w_X11_cost_47 X hr hlocks hin rs   f a0 a1 s0 (5 : Int32) a0 _ _ _ h Y (lv_sub hl [1, 2, 0] rfl)
  · replace h := Eq.trans (if_neg c1).symm h
    refine lv_bipush (v := 6) hx hb dX11_cost_41 (by decide) ?_
    refine lv_goto (tgt := 47) hx hb dX11_cost_43 (by decide) ?_
    refine W.widen (k := 0) (n := 0) (Nat.le_of_ble_eq_true rfl) (Nat.le_of_ble_eq_true rfl) ?_
    exact w_X11_cost_47 X hr hlocks hin rs   f a0 a1 s0 (6 : Int32) a0 _ _ _ h Y (lv_sub hl [1, 2, 0] rfl)
set_option maxRecDepth 100000 in
set_option maxHeartbeats 4000000 in
theorem w_X11_cost_30 {p : Program} {l : Launch} {e : Env} {s : State} {m : MethodId} {args : Array Value} {below : List Frame} {meth : Method} {c : Code} {G : xG} {z : Nat} (X : xC G p m c s args RX11 cX11_cost 3) (hr : meth.sig.returnType = (some .int)) (hlocks : meth.locks = false) (hin : meth.name = yX11_cost.name) (rs : Int32 × xHp)  (f : xHp) (a0 : Nat) (a1 : Int32) (H : Heap) (locs : List Loc) (ls : Array Slot) (h : F_X11_cost_30  f a0 a1 = some rs) (Y : xY G z f s H locs) (hl : lv_has ls 3 [(0, .ref a0), (1, .int a1)]) : W p l e rm_X11_cost s m args below meth c H locs 0 0 (MQ below (xQ G (some (.int rs.1)) z rs.2) args s rm_X11_cost.cells rm_X11_cost.slots (xA G)) (F0 m 30 ls []) := by
  have hx := X.1.1
  have hb := X.1.2.1
  unfold F_X11_cost_30 at h
  refine lv_iconst (v := 1) hx hb dX11_cost_30 (by decide) ?_
  refine lv_goto (tgt := 35) hx hb dX11_cost_31 (by decide) ?_
  refine W.widen (k := 0) (n := 0) (Nat.le_of_ble_eq_true rfl) (Nat.le_of_ble_eq_true rfl) ?_
  exact w_X11_cost_35 X hr hlocks hin rs   f a0 a1 (1 : Int32) _ _ _ h Y (lv_sub hl [0, 1] rfl)
set_option maxRecDepth 100000 in
set_option maxHeartbeats 4000000 in
theorem c_X11_cost (l : Launch) (G : xG) (z : Nat) (f : xHp) (h0 : Nat) (p1 : Int32) (rs : Int32 × xHp) (h : F_X11_cost f h0 p1 = some rs) : xM G l yX11_cost cX11_cost 3 (some .int) rm_X11_cost [.ref h0, .int p1] z f (some (.int rs.1)) z rs.2 := by
  refine xM_of (by decide) (Nat.le_of_ble_eq_true rfl) ?_
  intro p e s m below meth c ls X hr hlocks hin Y hl
  have hl : lv_has ls 3 [(0, .ref h0), (1, .int p1)] := hl
  have hx := X.1.1
  have hb := X.1.2.1
  unfold F_X11_cost at h
  refine lv_aload_n hx hb dX11_cost_0 rfl (lv_at hl 0 rfl) ?_
  refine lv_iload_n hx hb dX11_cost_1 rfl (lv_at hl 1 rfl) ?_
  by_cases c1 : hKd f h0 = some 10
  · replace h := Eq.trans (if_pos c1).symm h
    replace h := xb h
    obtain ⟨q2, eq2, h⟩ := h
    refine q_callV X Y hl.1 (rest := []) (As := [.int p1]) (c_X11_isProof l G z f h0 p1 _ eq2) cd_X11_isProof lv_X11_227_10 c1 ⟨(Nat.le_of_ble_eq_true rfl), (Nat.le_of_ble_eq_true rfl)⟩ ⟨(Nat.le_of_ble_eq_true rfl), (Nat.le_of_ble_eq_true rfl)⟩ rfl rfl (Nat.le_of_ble_eq_true rfl) dX11_cost_2 (fun H locs Y => ?_)
    refine W.eq (g2 := F0 m 5 ls [.int q2]) rfl ?_
    refine lv_if_ne (tgt := 10) hx hb dX11_cost_5 (by decide) (fun c3 => ?_) (fun c3 => ?_)
    · replace h := Eq.trans (if_neg c3).symm h
      refine lv_aload_n hx hb dX11_cost_10 rfl (lv_at hl 0 rfl) ?_
      replace h := xb h
      obtain ⟨v4, ev4, h⟩ := h
      refine q_getN X Y fl_X11_41 ev4 dX11_cost_11 ?_
      refine lv_iload_n hx hb dX11_cost_14 rfl (lv_at hl 1 rfl) ?_
      replace h := xb h
      obtain ⟨v5, ev5, h⟩ := h
      refine q_iald X Y ev5 dX11_cost_15 ?_
      refine lv_iconst (v := 1) hx hb dX11_cost_16 (by decide) ?_
      refine lv_icmp_eq (tgt := 30) hx hb dX11_cost_17 (by decide) (fun c6 => ?_) (fun c6 => ?_)
      · replace h := Eq.trans (if_pos c6).symm h
        refine W.widen (k := 0) (n := 0) (Nat.le_of_ble_eq_true rfl) (Nat.le_of_ble_eq_true rfl) ?_
        exact w_X11_cost_30 X hr hlocks hin rs   f h0 p1 _ _ _ h Y (lv_sub hl [0, 1] rfl)
      · replace h := Eq.trans (if_neg c6).symm h
        refine lv_aload_n hx hb dX11_cost_20 rfl (lv_at hl 0 rfl) ?_
        replace h := xb h
        obtain ⟨v7, ev7, h⟩ := h
        refine q_getN X Y fl_X11_41 ev7 dX11_cost_21 ?_
        refine lv_iload_n hx hb dX11_cost_24 rfl (lv_at hl 1 rfl) ?_
        replace h := xb h
        obtain ⟨v8, ev8, h⟩ := h
        refine q_iald X Y ev8 dX11_cost_25 ?_
        refine lv_iconst (v := 2) hx hb dX11_cost_26 (by decide) ?_
        refine lv_icmp_ne (tgt := 34) hx hb dX11_cost_27 (by decide) (fun c9 => ?_) (fun c9 => ?_)
        · replace h := Eq.trans (if_neg c9).symm h
          refine lv_iconst (v := 0) hx hb dX11_cost_34 (by decide) ?_
          refine W.widen (k := 0) (n := 0) (Nat.le_of_ble_eq_true rfl) (Nat.le_of_ble_eq_true rfl) ?_
          exact w_X11_cost_35 X hr hlocks hin rs   f h0 p1 (0 : Int32) _ _ _ h Y (lv_sub hl [0, 1] rfl)
        · replace h := Eq.trans (if_pos c9).symm h
          refine W.widen (k := 0) (n := 0) (Nat.le_of_ble_eq_true rfl) (Nat.le_of_ble_eq_true rfl) ?_
          exact w_X11_cost_30 X hr hlocks hin rs   f h0 p1 _ _ _ h Y (lv_sub hl [0, 1] rfl)
    · replace h := Eq.trans (if_pos c3).symm h
      refine lv_iconst (v := -1) hx hb dX11_cost_8 (by decide) ?_
      replace h := Option.some.inj h
      subst h
      exact q_reti X Y hr hlocks (Nat.le_of_ble_eq_true rfl) (Nat.le_of_ble_eq_true rfl) dX11_cost_9
  replace h := Eq.trans (if_neg c1).symm h
  cases h
/-! NeverBelowModel.trace()I -/
abbrev rm_X11_trace : Room := { frames := 0, cells := 0, slots := 0, locals := 0 }
def F_X11_trace (f : xHp) (h0 : Nat) : Option (Int32) := Option.bind (hI f h0 [(10, 1)]) fun v1 => some v1
set_option maxRecDepth 100000 in
set_option maxHeartbeats 4000000 in
theorem c_X11_trace (l : Launch) (G : xG) (z : Nat) (f : xHp) (h0 : Nat) (rs : Int32) (h : F_X11_trace f h0 = some rs) : xM G l yX11_trace cX11_trace 1 (some .int) rm_X11_trace [.ref h0] z f (some (.int rs)) z f := by
  refine xM_of (by decide) (Nat.le_of_ble_eq_true rfl) ?_
  intro p e s m below meth c ls X hr hlocks hin Y hl
  have hl : lv_has ls 1 [(0, .ref h0)] := hl
  have hx := X.1.1
  have hb := X.1.2.1
  unfold F_X11_trace at h
  refine lv_aload_n hx hb dX11_trace_0 rfl (lv_at hl 0 rfl) ?_
  replace h := xb h
  obtain ⟨v1, ev1, h⟩ := h
  refine q_getI X Y fl_X11_285 ev1 dX11_trace_1 ?_
  replace h := Option.some.inj h
  subst h
  exact q_reti X Y hr hlocks (Nat.le_of_ble_eq_true rfl) (Nat.le_of_ble_eq_true rfl) dX11_trace_4
/-! NeverBelowModel.fault()I -/
abbrev rm_X11_fault : Room := { frames := 0, cells := 0, slots := 0, locals := 0 }
def F_X11_fault (f : xHp) (h0 : Nat) : Option (Int32) := Option.bind (hI f h0 [(10, 0)]) fun v1 => some v1
set_option maxRecDepth 100000 in
set_option maxHeartbeats 4000000 in
theorem c_X11_fault (l : Launch) (G : xG) (z : Nat) (f : xHp) (h0 : Nat) (rs : Int32) (h : F_X11_fault f h0 = some rs) : xM G l yX11_fault cX11_fault 1 (some .int) rm_X11_fault [.ref h0] z f (some (.int rs)) z f := by
  refine xM_of (by decide) (Nat.le_of_ble_eq_true rfl) ?_
  intro p e s m below meth c ls X hr hlocks hin Y hl
  have hl : lv_has ls 1 [(0, .ref h0)] := hl
  have hx := X.1.1
  have hb := X.1.2.1
  unfold F_X11_fault at h
  refine lv_aload_n hx hb dX11_fault_0 rfl (lv_at hl 0 rfl) ?_
  replace h := xb h
  obtain ⟨v1, ev1, h⟩ := h
  refine q_getI X Y fl_X11_74 ev1 dX11_fault_1 ?_
  replace h := Option.some.inj h
  subst h
  exact q_reti X Y hr hlocks (Nat.le_of_ble_eq_true rfl) (Nat.le_of_ble_eq_true rfl) dX11_fault_4
/-! NeverBelowModel.told(I)I -/
abbrev rm_X11_told : Room := { frames := 0, cells := 0, slots := 0, locals := 0 }
def F_X11_told (f : xHp) (h0 : Nat) (p1 : Int32) : Option (Int32) := if p1 = 0 then (Option.bind (hI f h0 [(10, 5)]) fun v6 => some v6) else (if p1 = (1 : Int32) then (Option.bind (hI f h0 [(10, 8)]) fun v5 => some v5) else (if p1 = (2 : Int32) then (Option.bind (hI f h0 [(10, 20)]) fun v4 => some v4) else (some (-2 : Int32))))
set_option maxRecDepth 100000 in
set_option maxHeartbeats 4000000 in
theorem c_X11_told (l : Launch) (G : xG) (z : Nat) (f : xHp) (h0 : Nat) (p1 : Int32) (rs : Int32) (h : F_X11_told f h0 p1 = some rs) : xM G l yX11_told cX11_told 2 (some .int) rm_X11_told [.ref h0, .int p1] z f (some (.int rs)) z f := by
  refine xM_of (by decide) (Nat.le_of_ble_eq_true rfl) ?_
  intro p e s m below meth c ls X hr hlocks hin Y hl
  have hl : lv_has ls 2 [(0, .ref h0), (1, .int p1)] := hl
  have hx := X.1.1
  have hb := X.1.2.1
  unfold F_X11_told at h
  refine lv_iload_n hx hb dX11_told_0 rfl (lv_at hl 1 rfl) ?_
  refine lv_if_ne (tgt := 11) hx hb dX11_told_1 (by decide) (fun c1 => ?_) (fun c1 => ?_)
  · replace h := Eq.trans (if_neg c1).symm h
    refine lv_iload_n hx hb dX11_told_11 rfl (lv_at hl 1 rfl) ?_
    refine lv_iconst (v := 1) hx hb dX11_told_12 (by decide) ?_
    refine lv_icmp_ne (tgt := 23) hx hb dX11_told_13 (by decide) (fun c2 => ?_) (fun c2 => ?_)
    · replace h := Eq.trans (if_neg c2).symm h
      refine lv_iload_n hx hb dX11_told_23 rfl (lv_at hl 1 rfl) ?_
      refine lv_iconst (v := 2) hx hb dX11_told_24 (by decide) ?_
      refine lv_icmp_ne (tgt := 35) hx hb dX11_told_25 (by decide) (fun c3 => ?_) (fun c3 => ?_)
      · replace h := Eq.trans (if_neg c3).symm h
        refine lv_bipush (v := -2) hx hb dX11_told_35 (by decide) ?_
        replace h := Option.some.inj h
        subst h
        exact q_reti X Y hr hlocks (Nat.le_of_ble_eq_true rfl) (Nat.le_of_ble_eq_true rfl) dX11_told_37
      · replace h := Eq.trans (if_pos c3).symm h
        refine lv_aload_n hx hb dX11_told_28 rfl (lv_at hl 0 rfl) ?_
        replace h := xb h
        obtain ⟨v4, ev4, h⟩ := h
        refine q_getI X Y fl_X11_205 ev4 dX11_told_29 ?_
        refine lv_goto (tgt := 37) hx hb dX11_told_32 (by decide) ?_
        replace h := Option.some.inj h
        subst h
        exact q_reti X Y hr hlocks (Nat.le_of_ble_eq_true rfl) (Nat.le_of_ble_eq_true rfl) dX11_told_37
    · replace h := Eq.trans (if_pos c2).symm h
      refine lv_aload_n hx hb dX11_told_16 rfl (lv_at hl 0 rfl) ?_
      replace h := xb h
      obtain ⟨v5, ev5, h⟩ := h
      refine q_getI X Y fl_X11_131 ev5 dX11_told_17 ?_
      refine lv_goto (tgt := 37) hx hb dX11_told_20 (by decide) ?_
      replace h := Option.some.inj h
      subst h
      exact q_reti X Y hr hlocks (Nat.le_of_ble_eq_true rfl) (Nat.le_of_ble_eq_true rfl) dX11_told_37
  · replace h := Eq.trans (if_pos c1).symm h
    refine lv_aload_n hx hb dX11_told_4 rfl (lv_at hl 0 rfl) ?_
    replace h := xb h
    obtain ⟨v6, ev6, h⟩ := h
    refine q_getI X Y fl_X11_96 ev6 dX11_told_5 ?_
    refine lv_goto (tgt := 37) hx hb dX11_told_8 (by decide) ?_
    replace h := Option.some.inj h
    subst h
    exact q_reti X Y hr hlocks (Nat.le_of_ble_eq_true rfl) (Nat.le_of_ble_eq_true rfl) dX11_told_37

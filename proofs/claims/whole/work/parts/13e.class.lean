/-! NeverBelow.corners(II)I -/
abbrev rm_X10_corners : Room := { frames := 4, cells := 3, slots := 38, locals := 107 }
def F_X10_corners (z : Nat) (f : xHp) (h0 : Nat) (p1 : Int32) (p2 : Int32) : Option (Int32 × Nat × xHp) := if hKd f h0 = some 9 then (Option.bind (F_X10_polynomialOf f h0 p1) fun q2 => xnul q2 (some ((-1 : Int32), z, f)) (fun q4 => if hKd f h0 = some 9 then (Option.bind (F_X10_isBox f h0 p2) fun q6 => if q6 = 0 then (some ((-1 : Int32), z, f)) else (Option.bind (hN f h0 [(9, 2)]) fun v8 => Option.bind (hN f h0 [(9, 5)]) fun v9 => Option.bind (hN f v9 [(1, 0)]) fun v10 => if hKd f q4 = some 4 then (Option.bind (F_X4_cornersOn f q4 v8 ((4 : Int32) * p2) v10) fun q12 => Option.bind (hN q12 h0 [(9, 5)]) fun v13 => Option.bind (hN q12 v13 [(1, 0)]) fun v14 => Option.bind (F_X10_leastOf q12 v14) fun q15 => if (0 : Int64) ≤ q15 then (Option.bind (hN q12 h0 [(9, 5)]) fun v17 => Option.bind (hN q12 v17 [(1, 0)]) fun v18 => Option.bind (F_J7_copyOf_c38d5 z q12 v18 (9 : Int32)) fun q19 => Option.bind (some q19.1) fun o20 => Option.bind (some (va_up q19.2.2 q19.2.1 (some (.inr (.inr (.inr (0, [.int 0, .null, .int 0, .null, .int 0, .null]))))))) fun f21 => if hKd f21 h0 = some 9 then (Option.bind (F_X10_sidesOf (q19.2.1 + 1) f21 h0 p2) fun q23 => Option.bind (some q23.1) fun o24 => Option.bind (o24) fun q25 => Option.bind (o20) fun q26 => Option.bind (F_X0_init q23.2.2 q19.2.1 (1 : Int32) q4 p1 q26 p2 q25) fun q27 => if hKd q27 h0 = some 9 then (Option.bind (F_X10_keepProof q27 h0 q19.2.1) fun q29 => some (q29.1, q23.2.1, q29.2)) else none) else none) else (some ((-9 : Int32), z, q12))) else none)) else none)) else none
set_option maxRecDepth 100000 in
set_option maxHeartbeats 4000000 in
theorem c_X10_corners (l : Launch) (G : xG) (z : Nat) (f : xHp) (h0 : Nat) (p1 : Int32) (p2 : Int32) (rs : Int32 × Nat × xHp) (h : F_X10_corners z f h0 p1 p2 = some rs) : xM G l yX10_corners cX10_corners 5 (some .int) rm_X10_corners [.ref h0, .int p1, .int p2] z f (some (.int rs.1)) rs.2.1 rs.2.2 := by
  refine xM_of (by decide) (Nat.le_of_ble_eq_true rfl) ?_
  intro p e s m below meth c ls X hr hlocks hin Y hl
  have hl : lv_has ls 5 [(0, .ref h0), (1, .int p1), (2, .int p2)] := hl
  have hx := X.1.1
  have hb := X.1.2.1
  unfold F_X10_corners at h
  refine lv_aload_n hx hb dX10_corners_0 rfl (lv_at hl 0 rfl) ?_
  refine lv_iload_n hx hb dX10_corners_1 rfl (lv_at hl 1 rfl) ?_
  by_cases c1 : hKd f h0 = some 9
  · replace h := Eq.trans (if_pos c1).symm h
    replace h := xb h
    obtain ⟨q2, eq2, h⟩ := h
    refine q_callV X Y hl.1 (rest := []) (As := [.int p1]) (c_X10_polynomialOf l G z f h0 p1 _ eq2) cd_X10_polynomialOf lv_X10_95_9 c1 ⟨(Nat.le_of_ble_eq_true rfl), (Nat.le_of_ble_eq_true rfl)⟩ ⟨(Nat.le_of_ble_eq_true rfl), (Nat.le_of_ble_eq_true rfl)⟩ rfl rfl (Nat.le_of_ble_eq_true rfl) dX10_corners_2 (fun H locs Y => ?_)
    refine W.eq (g2 := F0 m 5 ls [va_rf q2]) rfl ?_
    refine q_astore_n (lv' := [(3, va_rf q2), (0, .ref h0), (1, .int p1), (2, .int p2)]) hx hb dX10_corners_5 rfl hl (by decide) rfl (fun ls hl => ?_)
    refine q_aload_n hx hb dX10_corners_6 rfl (lv_at hl 0 rfl) ?_
    refine q_ifnull (tgt := 18) hx hb dX10_corners_7 (by decide) (fun c3 => ?_) (fun q4 eq4 => ?_)
    · replace h := xn0 h c3
      subst c3
      have hl : lv_has ls 5 [(3, .null), (0, .ref h0), (1, .int p1), (2, .int p2)] := hl
      refine lv_iconst (v := -1) hx hb dX10_corners_18 (by decide) ?_
      replace h := Option.some.inj h
      subst h
      exact q_reti X Y hr hlocks (Nat.le_of_ble_eq_true rfl) (Nat.le_of_ble_eq_true rfl) dX10_corners_19
    · replace h := xn1 h eq4
      subst eq4
      have hl : lv_has ls 5 [(3, .ref q4), (0, .ref h0), (1, .int p1), (2, .int p2)] := hl
      refine lv_aload_n hx hb dX10_corners_10 rfl (lv_at hl 1 rfl) ?_
      refine lv_iload_n hx hb dX10_corners_11 rfl (lv_at hl 3 rfl) ?_
      by_cases c5 : hKd f h0 = some 9
      · replace h := Eq.trans (if_pos c5).symm h
        replace h := xb h
        obtain ⟨q6, eq6, h⟩ := h
        refine q_callV X Y hl.1 (rest := []) (As := [.int p2]) (c_X10_isBox l G z f h0 p2 _ eq6) cd_X10_isBox lv_X10_137_9 c5 ⟨(Nat.le_of_ble_eq_true rfl), (Nat.le_of_ble_eq_true rfl)⟩ ⟨(Nat.le_of_ble_eq_true rfl), (Nat.le_of_ble_eq_true rfl)⟩ rfl rfl (Nat.le_of_ble_eq_true rfl) dX10_corners_12 (fun H locs Y => ?_)
        refine W.eq (g2 := F0 m 15 ls [.int q6]) rfl ?_
        refine lv_if_ne (tgt := 20) hx hb dX10_corners_15 (by decide) (fun c7 => ?_) (fun c7 => ?_)
        · replace h := Eq.trans (if_neg c7).symm h
          refine lv_aload_n hx hb dX10_corners_20 rfl (lv_at hl 0 rfl) ?_
          refine lv_aload_n hx hb dX10_corners_21 rfl (lv_at hl 1 rfl) ?_
          replace h := xb h
          obtain ⟨v8, ev8, h⟩ := h
          refine q_getN X Y fl_X10_23 ev8 dX10_corners_22 ?_
          refine lv_iconst (v := 4) hx hb dX10_corners_25 (by decide) ?_
          refine lv_iload_n hx hb dX10_corners_26 rfl (lv_at hl 3 rfl) ?_
          refine lv_imul hx hb dX10_corners_27 ?_
          refine lv_aload_n hx hb dX10_corners_28 rfl (lv_at hl 1 rfl) ?_
          replace h := xb h
          obtain ⟨v9, ev9, h⟩ := h
          refine q_getN X Y fl_X10_43 ev9 dX10_corners_29 ?_
          replace h := xb h
          obtain ⟨v10, ev10, h⟩ := h
          refine q_getN X Y fl_X10_144 ev10 dX10_corners_32 ?_
          by_cases c11 : hKd f q4 = some 4
          · replace h := Eq.trans (if_pos c11).symm h
            replace h := xb h
            obtain ⟨q12, eq12, h⟩ := h
            refine q_callV X Y hl.1 (rest := []) (As := [.ref v8, .int ((4 : Int32) * p2), .ref v10]) (c_X4_cornersOn l G z f q4 v8 ((4 : Int32) * p2) v10 _ eq12) cd_X4_cornersOn lv_X10_147_4 c11 ⟨(Nat.le_of_ble_eq_true rfl), (Nat.le_of_ble_eq_true rfl)⟩ ⟨(Nat.le_of_ble_eq_true rfl), (Nat.le_of_ble_eq_true rfl)⟩ rfl rfl (Nat.le_of_ble_eq_true rfl) dX10_corners_35 (fun H locs Y => ?_)
            refine W.eq (g2 := F0 m 38 ls []) rfl ?_
            refine lv_aload_n hx hb dX10_corners_38 rfl (lv_at hl 1 rfl) ?_
            replace h := xb h
            obtain ⟨v13, ev13, h⟩ := h
            refine q_getN X Y fl_X10_43 ev13 dX10_corners_39 ?_
            replace h := xb h
            obtain ⟨v14, ev14, h⟩ := h
            refine q_getN X Y fl_X10_144 ev14 dX10_corners_42 ?_
            replace h := xb h
            obtain ⟨q15, eq15, h⟩ := h
            refine q_callS X Y hl.1 (rest := []) (As := [.ref v14]) (c_X10_leastOf l G z q12 v14 _ eq15) cd_X10_leastOf ls_X10_151 ⟨(Nat.le_of_ble_eq_true rfl), (Nat.le_of_ble_eq_true rfl)⟩ ⟨(Nat.le_of_ble_eq_true rfl), (Nat.le_of_ble_eq_true rfl)⟩ rfl rfl (Nat.le_of_ble_eq_true rfl) dX10_corners_45 (fun H locs Y => ?_)
            refine W.eq (g2 := F0 m 48 ls [.long q15]) rfl ?_
            refine lv_lconst (v := 0) hx hb dX10_corners_48 (by decide) ?_
            refine q_lcmp_ge (tgt := 56) hx hb dX10_corners_49 dX10_corners_50 (by decide) (fun c16 => ?_) (fun c16 => ?_)
            · replace h := Eq.trans (if_pos c16).symm h
              refine lv_aload_n hx hb dX10_corners_56 rfl (lv_at hl 1 rfl) ?_
              replace h := xb h
              obtain ⟨v17, ev17, h⟩ := h
              refine q_getN X Y fl_X10_43 ev17 dX10_corners_57 ?_
              replace h := xb h
              obtain ⟨v18, ev18, h⟩ := h
              refine q_getN X Y fl_X10_144 ev18 dX10_corners_60 ?_
              refine lv_bipush (v := 9) hx hb dX10_corners_63 (by decide) ?_
              replace h := xb h
              obtain ⟨q19, eq19, h⟩ := h
              refine q_callS X Y hl.1 (rest := []) (As := [.ref v18, .int (9 : Int32)]) (c_J7_copyOf_c38d5 l G z q12 v18 (9 : Int32) _ eq19) cd_J7_copyOf_c38d5 ls_X10_236 ⟨(Nat.le_of_ble_eq_true rfl), (Nat.le_of_ble_eq_true rfl)⟩ ⟨(Nat.le_of_ble_eq_true rfl), (Nat.le_of_ble_eq_true rfl)⟩ rfl rfl (Nat.le_of_ble_eq_true rfl) dX10_corners_65 (fun H locs Y => ?_)
              refine W.eq (g2 := F0 m 68 ls [va_rf q19.1]) rfl ?_
              replace h := xb h
              obtain ⟨o20, eo20, h⟩ := h
              have eo20 := Option.some.inj eo20
              rw [eo20]
              refine W.widen (k := 1) (n := 24) (Nat.le_of_ble_eq_true rfl) (Nat.le_of_ble_eq_true rfl) ?_
              refine q_astore (lv' := [(4, va_rf o20), (3, .ref q4), (0, .ref h0), (1, .int p1), (2, .int p2)]) hx hb dX10_corners_68 hl (by decide) rfl (fun ls hl => ?_)
              refine lv_aload_n hx hb dX10_corners_70 rfl (lv_at hl 2 rfl) ?_
              replace h := xb h
              obtain ⟨f21, ef21, h⟩ := h
              have ef21 := Option.some.inj ef21
              refine q_new X Y no_X10_242 (Nat.le_of_ble_eq_true rfl) (Nat.le_of_ble_eq_true rfl) dX10_corners_71 (fun H Y => ?_)
              rw [ef21] at Y
              refine lv_dup hx hb dX10_corners_74 rfl ?_
              refine lv_iconst (v := 1) hx hb dX10_corners_75 (by decide) ?_
              refine lv_aload_n hx hb dX10_corners_76 rfl (lv_at hl 1 rfl) ?_
              refine lv_iload_n hx hb dX10_corners_77 rfl (lv_at hl 3 rfl) ?_
              refine q_aload hx hb dX10_corners_78 (lv_at hl 0 rfl) ?_
              refine lv_iload_n hx hb dX10_corners_80 rfl (lv_at hl 4 rfl) ?_
              refine lv_aload_n hx hb dX10_corners_81 rfl (lv_at hl 2 rfl) ?_
              refine lv_iload_n hx hb dX10_corners_82 rfl (lv_at hl 4 rfl) ?_
              by_cases c22 : hKd f21 h0 = some 9
              · replace h := Eq.trans (if_pos c22).symm h
                replace h := xb h
                obtain ⟨q23, eq23, h⟩ := h
                refine q_callV X Y hl.1 (rest := [.int p2, va_rf o20, .int p1, .ref q4, .int (1 : Int32), .ref q19.2.1, .ref q19.2.1, .ref h0]) (As := [.int p2]) (c_X10_sidesOf l G (q19.2.1 + 1) f21 h0 p2 _ eq23) cd_X10_sidesOf lv_X10_244_9 c22 ⟨(Nat.le_of_ble_eq_true rfl), (Nat.le_of_ble_eq_true rfl)⟩ ⟨(Nat.le_of_ble_eq_true rfl), (Nat.le_of_ble_eq_true rfl)⟩ rfl rfl (by cases o20 <;> exact Nat.le_of_ble_eq_true rfl) dX10_corners_83 (fun H locs Y => ?_)
                refine W.eq (g2 := F0 m 86 ls [va_rf q23.1, .int p2, va_rf o20, .int p1, .ref q4, .int (1 : Int32), .ref q19.2.1, .ref q19.2.1, .ref h0]) rfl ?_
                replace h := xb h
                obtain ⟨o24, eo24, h⟩ := h
                have eo24 := Option.some.inj eo24
                rw [eo24]
                refine W.widen (k := 3) (n := 38) (Nat.le_of_ble_eq_true rfl) (Nat.le_of_ble_eq_true rfl) ?_
                replace h := xb h
                obtain ⟨q25, eq25, h⟩ := h
                subst eq25
                refine W.eq (g2 := F0 m 86 ls [.ref q25, .int p2, va_rf o20, .int p1, .ref q4, .int (1 : Int32), .ref q19.2.1, .ref q19.2.1, .ref h0]) rfl ?_
                replace h := xb h
                obtain ⟨q26, eq26, h⟩ := h
                subst eq26
                have hl : lv_has ls 5 [(4, .ref q26), (3, .ref q4), (0, .ref h0), (1, .int p1), (2, .int p2)] := hl
                refine W.eq (g2 := F0 m 86 ls [.ref q25, .int p2, .ref q26, .int p1, .ref q4, .int (1 : Int32), .ref q19.2.1, .ref q19.2.1, .ref h0]) rfl ?_
                replace h := xb h
                obtain ⟨q27, eq27, h⟩ := h
                refine q_callI X Y hl.1 (rest := [.ref q19.2.1, .ref h0]) (As := [.int (1 : Int32), .ref q4, .int p1, .ref q26, .int p2, .ref q25]) (c_X0_init l G q23.2.1 q23.2.2 q19.2.1 (1 : Int32) q4 p1 q26 p2 q25 _ eq27) cd_X0_init li_X10_248 ⟨(Nat.le_of_ble_eq_true rfl), (Nat.le_of_ble_eq_true rfl)⟩ ⟨(Nat.le_of_ble_eq_true rfl), (Nat.le_of_ble_eq_true rfl)⟩ rfl rfl (Nat.le_of_ble_eq_true rfl) dX10_corners_86 (fun H locs Y => ?_)
                refine W.eq (g2 := F0 m 89 ls [.ref q19.2.1, .ref h0]) rfl ?_
                by_cases c28 : hKd q27 h0 = some 9
                · replace h := Eq.trans (if_pos c28).symm h
                  replace h := xb h
                  obtain ⟨q29, eq29, h⟩ := h
                  refine q_callV X Y hl.1 (rest := []) (As := [.ref q19.2.1]) (c_X10_keepProof l G q23.2.1 q27 h0 q19.2.1 _ eq29) cd_X10_keepProof lv_X10_232_9 c28 ⟨(Nat.le_of_ble_eq_true rfl), (Nat.le_of_ble_eq_true rfl)⟩ ⟨(Nat.le_of_ble_eq_true rfl), (Nat.le_of_ble_eq_true rfl)⟩ rfl rfl (Nat.le_of_ble_eq_true rfl) dX10_corners_89 (fun H locs Y => ?_)
                  refine W.eq (g2 := F0 m 92 ls [.int q29.1]) rfl ?_
                  replace h := Option.some.inj h
                  subst h
                  exact q_reti X Y hr hlocks (Nat.le_of_ble_eq_true rfl) (Nat.le_of_ble_eq_true rfl) dX10_corners_92
                replace h := Eq.trans (if_neg c28).symm h
                cases h
              replace h := Eq.trans (if_neg c22).symm h
              cases h
            · replace h := Eq.trans (if_neg c16).symm h
              refine lv_bipush (v := -9) hx hb dX10_corners_53 (by decide) ?_
              replace h := Option.some.inj h
              subst h
              exact q_reti X Y hr hlocks (Nat.le_of_ble_eq_true rfl) (Nat.le_of_ble_eq_true rfl) dX10_corners_55
          replace h := Eq.trans (if_neg c11).symm h
          cases h
        · replace h := Eq.trans (if_pos c7).symm h
          refine lv_iconst (v := -1) hx hb dX10_corners_18 (by decide) ?_
          replace h := Option.some.inj h
          subst h
          exact q_reti X Y hr hlocks (Nat.le_of_ble_eq_true rfl) (Nat.le_of_ble_eq_true rfl) dX10_corners_19
      replace h := Eq.trans (if_neg c5).symm h
      cases h
  replace h := Eq.trans (if_neg c1).symm h
  cases h
/-! NeverBelow$PartsProof.<init>(LNeverBelow$Polynomial;I[JI[I)V -/
abbrev rm_X3_init : Room := { frames := 3, cells := 0, slots := 0, locals := 74 }
def F_X3_init (f : xHp) (h0 : Nat) (p1 : Nat) (p2 : Int32) (p3 : Nat) (p4 : Int32) (p5 : Nat) : Option (xHp) := Option.bind (F_X0_init f h0 (2 : Int32) p1 p2 p3 p4 p5) fun q1 => some q1
set_option maxRecDepth 100000 in
set_option maxHeartbeats 4000000 in
theorem c_X3_init (l : Launch) (G : xG) (z : Nat) (f : xHp) (h0 : Nat) (p1 : Nat) (p2 : Int32) (p3 : Nat) (p4 : Int32) (p5 : Nat) (rs : xHp) (h : F_X3_init f h0 p1 p2 p3 p4 p5 = some rs) : xM G l yX3_init cX3_init 6 none rm_X3_init [.ref h0, .ref p1, .int p2, .ref p3, .int p4, .ref p5] z f none z rs := by
  refine xM_of (by decide) (Nat.le_of_ble_eq_true rfl) ?_
  intro p e s m below meth c ls X hr hlocks hin Y hl
  have hl : lv_has ls 6 [(0, .ref h0), (1, .ref p1), (2, .int p2), (3, .ref p3), (4, .int p4), (5, .ref p5)] := hl
  have hx := X.1.1
  have hb := X.1.2.1
  unfold F_X3_init at h
  refine lv_aload_n hx hb dX3_init_0 rfl (lv_at hl 0 rfl) ?_
  refine lv_iconst (v := 2) hx hb dX3_init_1 (by decide) ?_
  refine lv_aload_n hx hb dX3_init_2 rfl (lv_at hl 1 rfl) ?_
  refine lv_iload_n hx hb dX3_init_3 rfl (lv_at hl 2 rfl) ?_
  refine lv_aload_n hx hb dX3_init_4 rfl (lv_at hl 3 rfl) ?_
  refine lv_iload hx hb dX3_init_5 (lv_at hl 4 rfl) ?_
  refine lv_aload hx hb dX3_init_7 (lv_at hl 5 rfl) ?_
  replace h := xb h
  obtain ⟨q1, eq1, h⟩ := h
  refine q_callI X Y hl.1 (rest := []) (As := [.int (2 : Int32), .ref p1, .int p2, .ref p3, .int p4, .ref p5]) (c_X0_init l G z f h0 (2 : Int32) p1 p2 p3 p4 p5 _ eq1) cd_X0_init li_X3_3 ⟨(Nat.le_of_ble_eq_true rfl), (Nat.le_of_ble_eq_true rfl)⟩ ⟨(Nat.le_of_ble_eq_true rfl), (Nat.le_of_ble_eq_true rfl)⟩ rfl rfl (Nat.le_of_ble_eq_true rfl) dX3_init_9 (fun H locs Y => ?_)
  refine W.eq (g2 := F0 m 12 ls []) rfl ?_
  replace h := Option.some.inj h
  subst h
  exact q_retv X Y hr hlocks (Nat.le_of_ble_eq_true rfl) (Nat.le_of_ble_eq_true rfl) dX3_init_12
/-! NeverBelow.proved()I -/
abbrev rm_X10_proved : Room := { frames := 4, cells := 3, slots := 174, locals := 107 }
def F_X10_proved_45 (k45 : Nat → xHp → Nat → Nat → Int32 → Option (Int32 × Nat × xHp)) (z : Nat) (f : xHp) (a0 : Nat) (a1 : Nat) (a2 : Int32) : Option (Int32 × Nat × xHp) := Option.bind (hLen f a1) fun v1 => if v1 ≤ a2 then (Option.bind (hN f a0 [(9, 4)]) fun v3 => Option.bind (hI f v3 [(2, 5)]) fun v4 => Option.bind (some (va_up f z (some (.inr (.inr (.inr (3, [.int 0, .null, .int 0, .null, .int 0, .null]))))))) fun f5 => Option.bind (hN f5 a0 [(9, 4)]) fun v6 => Option.bind (hR f5 v6 [(2, 3)]) fun v7 => Option.bind (hN f5 a0 [(9, 4)]) fun v8 => Option.bind (hI f5 v8 [(2, 4)]) fun v9 => if hKd f5 a0 = some 9 then (Option.bind (F_X10_sidesOf (z + 1) f5 a0 v4) fun q11 => Option.bind (some q11.1) fun o12 => Option.bind (o12) fun q13 => Option.bind (v7) fun q14 => Option.bind (F_X3_init q11.2.2 z q14 v9 a1 v4 q13) fun q15 => if hKd q15 a0 = some 9 then (Option.bind (F_X10_keepProof q15 a0 z) fun q17 => some (q17.1, q11.2.1, q17.2)) else none) else none) else (Option.bind (hN f a0 [(9, 4)]) fun v18 => Option.bind (hN f v18 [(2, 0)]) fun v19 => Option.bind (hIld f v19 a2) fun v20 => Option.bind (hJst f a1 a2 v20.toInt64) fun f21 => k45 z f21 a0 a1 (a2 + 1))
def L_X10_proved_45  : Nat → Nat → xHp → Nat → Nat → Int32 → Option (Int32 × Nat × xHp)
  | 0, _, _, _, _, _ => none
  | n + 1, z, f, a0, a1, a2 => F_X10_proved_45 (L_X10_proved_45  n) z f a0 a1 a2
def F_X10_proved (z : Nat) (f : xHp) (h0 : Nat) : Option (Int32 × Nat × xHp) := Option.bind (hN f h0 [(9, 4)]) fun v1 => Option.bind (hR f v1 [(2, 3)]) fun v2 => xnul v2 (some ((-3 : Int32), z, f)) (fun q4 => Option.bind (hN f h0 [(9, 4)]) fun v5 => if hKd f v5 = some 2 then (Option.bind (F_X2_countOf f v5 (1 : Int32)) fun q7 => Option.bind (hN f h0 [(9, 4)]) fun v8 => Option.bind (hI f v8 [(2, 6)]) fun v9 => if q7 = v9 then (Option.bind (hN f h0 [(9, 4)]) fun v11 => Option.bind (hI f v11 [(2, 6)]) fun v12 => Option.bind (hNw ((4 : Int32) * v12) 160) fun n13 => Option.bind (some (va_up f z (some (.inr (.inl (n13, fun _ => 0)))))) fun f14 => L_X10_proved_45 xfuel (z + 1) f14 h0 z (0 : Int32)) else (some ((-3 : Int32), z, f))) else none)
set_option maxRecDepth 100000 in
set_option maxHeartbeats 4000000 in
theorem w_X10_proved_45 {p : Program} {l : Launch} {e : Env} {s : State} {m : MethodId} {args : Array Value} {below : List Frame} {meth : Method} {c : Code} {G : xG} (X : xC G p m c s args RX10 cX10_proved 3) (hr : meth.sig.returnType = (some .int)) (hlocks : meth.locks = false) (hin : meth.name = yX10_proved.name) (rs : Int32 × Nat × xHp) (k45 : Nat → xHp → Nat → Nat → Int32 → Option (Int32 × Nat × xHp)) (hk45 : ∀ (z : Nat) (f : xHp) (a0 : Nat) (a1 : Nat) (a2 : Int32) (H : Heap) (locs : List Loc) (ls : Array Slot), k45 z f a0 a1 a2 = some rs → xY G z f s H locs → lv_has ls 3 [(0, .ref a0), (1, .ref a1), (2, .int a2)] → W p l e rm_X10_proved s m args below meth c H locs 1 160 (MQ below (xQ G (some (.int rs.1)) rs.2.1 rs.2.2) args s rm_X10_proved.cells rm_X10_proved.slots (xA G)) (F0 m 45 ls [])) (z : Nat) (f : xHp) (a0 : Nat) (a1 : Nat) (a2 : Int32) (H : Heap) (locs : List Loc) (ls : Array Slot) (h : F_X10_proved_45 k45 z f a0 a1 a2 = some rs) (Y : xY G z f s H locs) (hl : lv_has ls 3 [(0, .ref a0), (1, .ref a1), (2, .int a2)]) : W p l e rm_X10_proved s m args below meth c H locs 1 160 (MQ below (xQ G (some (.int rs.1)) rs.2.1 rs.2.2) args s rm_X10_proved.cells rm_X10_proved.slots (xA G)) (F0 m 45 ls []) := by
  have hx := X.1.1
  have hb := X.1.2.1
  unfold F_X10_proved_45 at h
  refine lv_iload_n hx hb dX10_proved_45 rfl (lv_at hl 2 rfl) ?_
  refine lv_aload_n hx hb dX10_proved_46 rfl (lv_at hl 1 rfl) ?_
  replace h := xb h
  obtain ⟨v1, ev1, h⟩ := h
  refine q_alen X Y ev1 dX10_proved_47 ?_
  refine lv_icmp_ge (tgt := 70) hx hb dX10_proved_48 (by decide) (fun c2 => ?_) (fun c2 => ?_)
  · replace h := Eq.trans (if_pos c2).symm h
    refine lv_aload_n hx hb dX10_proved_70 rfl (lv_at hl 0 rfl) ?_
    replace h := xb h
    obtain ⟨v3, ev3, h⟩ := h
    refine q_getN X Y fl_X10_36 ev3 dX10_proved_71 ?_
    replace h := xb h
    obtain ⟨v4, ev4, h⟩ := h
    refine q_getI X Y fl_X10_176 ev4 dX10_proved_74 ?_
    refine lv_istore_n (lv' := [(2, .int v4), (0, .ref a0), (1, .ref a1)]) hx hb dX10_proved_77 rfl hl (by decide) rfl (fun ls hl => ?_)
    refine lv_aload_n hx hb dX10_proved_78 rfl (lv_at hl 1 rfl) ?_
    replace h := xb h
    obtain ⟨f5, ef5, h⟩ := h
    have ef5 := Option.some.inj ef5
    refine q_new X Y no_X10_251 (Nat.le_of_ble_eq_true rfl) (Nat.le_of_ble_eq_true rfl) dX10_proved_79 (fun H Y => ?_)
    rw [ef5] at Y
    refine lv_dup hx hb dX10_proved_82 rfl ?_
    refine lv_aload_n hx hb dX10_proved_83 rfl (lv_at hl 1 rfl) ?_
    replace h := xb h
    obtain ⟨v6, ev6, h⟩ := h
    refine q_getN X Y fl_X10_36 ev6 dX10_proved_84 ?_
    replace h := xb h
    obtain ⟨v7, ev7, h⟩ := h
    refine q_getR X Y fl_X10_179 ev7 dX10_proved_87 ?_
    refine lv_aload_n hx hb dX10_proved_90 rfl (lv_at hl 1 rfl) ?_
    replace h := xb h
    obtain ⟨v8, ev8, h⟩ := h
    refine q_getN X Y fl_X10_36 ev8 dX10_proved_91 ?_
    replace h := xb h
    obtain ⟨v9, ev9, h⟩ := h
    refine q_getI X Y fl_X10_173 ev9 dX10_proved_94 ?_
    refine lv_aload_n hx hb dX10_proved_97 rfl (lv_at hl 2 rfl) ?_
    refine lv_iload_n hx hb dX10_proved_98 rfl (lv_at hl 0 rfl) ?_
    refine lv_aload_n hx hb dX10_proved_99 rfl (lv_at hl 1 rfl) ?_
    refine lv_iload_n hx hb dX10_proved_100 rfl (lv_at hl 0 rfl) ?_
    by_cases c10 : hKd f5 a0 = some 9
    · replace h := Eq.trans (if_pos c10).symm h
      replace h := xb h
      obtain ⟨q11, eq11, h⟩ := h
      refine q_callV X Y hl.1 (rest := [.int v4, .ref a1, .int v9, va_rf v7, .ref z, .ref z, .ref a0]) (As := [.int v4]) (c_X10_sidesOf l G (z + 1) f5 a0 v4 _ eq11) cd_X10_sidesOf lv_X10_244_9 c10 ⟨(Nat.le_of_ble_eq_true rfl), (Nat.le_of_ble_eq_true rfl)⟩ ⟨(Nat.le_of_ble_eq_true rfl), (Nat.le_of_ble_eq_true rfl)⟩ rfl rfl (by cases v7 <;> exact Nat.le_of_ble_eq_true rfl) dX10_proved_101 (fun H locs Y => ?_)
      refine W.eq (g2 := F0 m 104 ls [va_rf q11.1, .int v4, .ref a1, .int v9, va_rf v7, .ref z, .ref z, .ref a0]) rfl ?_
      replace h := xb h
      obtain ⟨o12, eo12, h⟩ := h
      have eo12 := Option.some.inj eo12
      rw [eo12]
      refine W.widen (k := 3) (n := 174) (Nat.le_of_ble_eq_true rfl) (Nat.le_of_ble_eq_true rfl) ?_
      replace h := xb h
      obtain ⟨q13, eq13, h⟩ := h
      subst eq13
      refine W.eq (g2 := F0 m 104 ls [.ref q13, .int v4, .ref a1, .int v9, va_rf v7, .ref z, .ref z, .ref a0]) rfl ?_
      replace h := xb h
      obtain ⟨q14, eq14, h⟩ := h
      subst eq14
      refine W.eq (g2 := F0 m 104 ls [.ref q13, .int v4, .ref a1, .int v9, .ref q14, .ref z, .ref z, .ref a0]) rfl ?_
      replace h := xb h
      obtain ⟨q15, eq15, h⟩ := h
      refine q_callI X Y hl.1 (rest := [.ref z, .ref a0]) (As := [.ref q14, .int v9, .ref a1, .int v4, .ref q13]) (c_X3_init l G q11.2.1 q11.2.2 z q14 v9 a1 v4 q13 _ eq15) cd_X3_init li_X10_253 ⟨(Nat.le_of_ble_eq_true rfl), (Nat.le_of_ble_eq_true rfl)⟩ ⟨(Nat.le_of_ble_eq_true rfl), (Nat.le_of_ble_eq_true rfl)⟩ rfl rfl (Nat.le_of_ble_eq_true rfl) dX10_proved_104 (fun H locs Y => ?_)
      refine W.eq (g2 := F0 m 107 ls [.ref z, .ref a0]) rfl ?_
      by_cases c16 : hKd q15 a0 = some 9
      · replace h := Eq.trans (if_pos c16).symm h
        replace h := xb h
        obtain ⟨q17, eq17, h⟩ := h
        refine q_callV X Y hl.1 (rest := []) (As := [.ref z]) (c_X10_keepProof l G q11.2.1 q15 a0 z _ eq17) cd_X10_keepProof lv_X10_232_9 c16 ⟨(Nat.le_of_ble_eq_true rfl), (Nat.le_of_ble_eq_true rfl)⟩ ⟨(Nat.le_of_ble_eq_true rfl), (Nat.le_of_ble_eq_true rfl)⟩ rfl rfl (Nat.le_of_ble_eq_true rfl) dX10_proved_107 (fun H locs Y => ?_)
        refine W.eq (g2 := F0 m 110 ls [.int q17.1]) rfl ?_
        replace h := Option.some.inj h
        subst h
        exact q_reti X Y hr hlocks (Nat.le_of_ble_eq_true rfl) (Nat.le_of_ble_eq_true rfl) dX10_proved_110
      replace h := Eq.trans (if_neg c16).symm h
      cases h
    replace h := Eq.trans (if_neg c10).symm h
    cases h
  · replace h := Eq.trans (if_neg c2).symm h
    refine lv_aload_n hx hb dX10_proved_51 rfl (lv_at hl 1 rfl) ?_
    refine lv_iload_n hx hb dX10_proved_52 rfl (lv_at hl 2 rfl) ?_
    refine lv_aload_n hx hb dX10_proved_53 rfl (lv_at hl 0 rfl) ?_
    replace h := xb h
    obtain ⟨v18, ev18, h⟩ := h
    refine q_getN X Y fl_X10_36 ev18 dX10_proved_54 ?_
    replace h := xb h
    obtain ⟨v19, ev19, h⟩ := h
    refine q_getN X Y fl_X10_199 ev19 dX10_proved_57 ?_
    refine lv_iload_n hx hb dX10_proved_60 rfl (lv_at hl 2 rfl) ?_
    replace h := xb h
    obtain ⟨v20, ev20, h⟩ := h
    refine q_iald X Y ev20 dX10_proved_61 ?_
    refine lv_i2l hx hb dX10_proved_62 rfl ?_
    replace h := xb h
    obtain ⟨f21, ef21, h⟩ := h
    refine q_last X Y ef21 dX10_proved_63 (fun H locs Y => ?_)
    refine lv_iinc (v := (a2 + 1)) (lv' := [(2, .int (a2 + 1)), (0, .ref a0), (1, .ref a1)]) hx hb dX10_proved_64 hl (k := 2) rfl rfl (by decide) rfl (fun ls hl => ?_)
    refine lv_goto (tgt := 45) hx hb dX10_proved_67 (by decide) ?_
    refine W.widen (k := 1) (n := 160) (Nat.le_of_ble_eq_true rfl) (Nat.le_of_ble_eq_true rfl) ?_
    exact hk45 z f21 a0 a1 (a2 + 1) _ _ _ h Y (lv_sub hl [1, 2, 0] rfl)
set_option maxRecDepth 100000 in
set_option maxHeartbeats 4000000 in
theorem lw_X10_proved_45 {p : Program} {l : Launch} {e : Env} {s : State} {m : MethodId} {args : Array Value} {below : List Frame} {meth : Method} {c : Code} {G : xG} (X : xC G p m c s args RX10 cX10_proved 3) (hr : meth.sig.returnType = (some .int)) (hlocks : meth.locks = false) (hin : meth.name = yX10_proved.name) (rs : Int32 × Nat × xHp)  : ∀ (n : Nat) (z : Nat) (f : xHp) (a0 : Nat) (a1 : Nat) (a2 : Int32) (H : Heap) (locs : List Loc) (ls : Array Slot), L_X10_proved_45  n z f a0 a1 a2 = some rs → xY G z f s H locs → lv_has ls 3 [(0, .ref a0), (1, .ref a1), (2, .int a2)] → W p l e rm_X10_proved s m args below meth c H locs 1 160 (MQ below (xQ G (some (.int rs.1)) rs.2.1 rs.2.2) args s rm_X10_proved.cells rm_X10_proved.slots (xA G)) (F0 m 45 ls []) := by
  intro n
  induction n with
  | zero => intro z f a0 a1 a2 H locs ls h Y hl; cases h
  | succ n ih => intro z f a0 a1 a2 H locs ls h Y hl; exact w_X10_proved_45 X hr hlocks hin rs _ ih z f a0 a1 a2 _ _ _ h Y hl
set_option maxRecDepth 100000 in
set_option maxHeartbeats 4000000 in
theorem c_X10_proved (l : Launch) (G : xG) (z : Nat) (f : xHp) (h0 : Nat) (rs : Int32 × Nat × xHp) (h : F_X10_proved z f h0 = some rs) : xM G l yX10_proved cX10_proved 3 (some .int) rm_X10_proved [.ref h0] z f (some (.int rs.1)) rs.2.1 rs.2.2 := by
  refine xM_of (by decide) (Nat.le_of_ble_eq_true rfl) ?_
  intro p e s m below meth c ls X hr hlocks hin Y hl
  have hl : lv_has ls 3 [(0, .ref h0)] := hl
  have hx := X.1.1
  have hb := X.1.2.1
  unfold F_X10_proved at h
  refine lv_aload_n hx hb dX10_proved_0 rfl (lv_at hl 0 rfl) ?_
  replace h := xb h
  obtain ⟨v1, ev1, h⟩ := h
  refine q_getN X Y fl_X10_36 ev1 dX10_proved_1 ?_
  replace h := xb h
  obtain ⟨v2, ev2, h⟩ := h
  refine q_getR X Y fl_X10_179 ev2 dX10_proved_4 ?_
  refine q_ifnull (tgt := 28) hx hb dX10_proved_7 (by decide) (fun c3 => ?_) (fun q4 eq4 => ?_)
  · replace h := xn0 h c3
    subst c3
    refine lv_bipush (v := -3) hx hb dX10_proved_28 (by decide) ?_
    replace h := Option.some.inj h
    subst h
    exact q_reti X Y hr hlocks (Nat.le_of_ble_eq_true rfl) (Nat.le_of_ble_eq_true rfl) dX10_proved_30
  · replace h := xn1 h eq4
    subst eq4
    refine lv_aload_n hx hb dX10_proved_10 rfl (lv_at hl 0 rfl) ?_
    replace h := xb h
    obtain ⟨v5, ev5, h⟩ := h
    refine q_getN X Y fl_X10_36 ev5 dX10_proved_11 ?_
    refine lv_iconst (v := 1) hx hb dX10_proved_14 (by decide) ?_
    by_cases c6 : hKd f v5 = some 2
    · replace h := Eq.trans (if_pos c6).symm h
      replace h := xb h
      obtain ⟨q7, eq7, h⟩ := h
      refine q_callV X Y hl.1 (rest := []) (As := [.int (1 : Int32)]) (c_X2_countOf l G z f v5 (1 : Int32) _ eq7) cd_X2_countOf lv_X10_193_2 c6 ⟨(Nat.le_of_ble_eq_true rfl), (Nat.le_of_ble_eq_true rfl)⟩ ⟨(Nat.le_of_ble_eq_true rfl), (Nat.le_of_ble_eq_true rfl)⟩ rfl rfl (Nat.le_of_ble_eq_true rfl) dX10_proved_15 (fun H locs Y => ?_)
      refine W.eq (g2 := F0 m 18 ls [.int q7]) rfl ?_
      refine lv_aload_n hx hb dX10_proved_18 rfl (lv_at hl 0 rfl) ?_
      replace h := xb h
      obtain ⟨v8, ev8, h⟩ := h
      refine q_getN X Y fl_X10_36 ev8 dX10_proved_19 ?_
      replace h := xb h
      obtain ⟨v9, ev9, h⟩ := h
      refine q_getI X Y fl_X10_190 ev9 dX10_proved_22 ?_
      refine lv_icmp_eq (tgt := 31) hx hb dX10_proved_25 (by decide) (fun c10 => ?_) (fun c10 => ?_)
      · replace h := Eq.trans (if_pos c10).symm h
        refine lv_iconst (v := 4) hx hb dX10_proved_31 (by decide) ?_
        refine lv_aload_n hx hb dX10_proved_32 rfl (lv_at hl 0 rfl) ?_
        replace h := xb h
        obtain ⟨v11, ev11, h⟩ := h
        refine q_getN X Y fl_X10_36 ev11 dX10_proved_33 ?_
        replace h := xb h
        obtain ⟨v12, ev12, h⟩ := h
        refine q_getI X Y fl_X10_190 ev12 dX10_proved_36 ?_
        refine lv_imul hx hb dX10_proved_39 ?_
        replace h := xb h
        obtain ⟨n13, en13, h⟩ := h
        replace h := xb h
        obtain ⟨f14, ef14, h⟩ := h
        have ef14 := Option.some.inj ef14
        refine q_newJ X Y en13 (by decide) xw_80 (Nat.le_of_ble_eq_true rfl) (Nat.le_of_ble_eq_true rfl) dX10_proved_40 (fun H Y => ?_)
        rw [ef14] at Y
        refine lv_astore_n (lv' := [(1, .ref z), (0, .ref h0)]) hx hb dX10_proved_42 rfl hl (by decide) rfl (fun ls hl => ?_)
        refine lv_iconst (v := 0) hx hb dX10_proved_43 (by decide) ?_
        refine lv_istore_n (lv' := [(2, .int (0 : Int32)), (1, .ref z), (0, .ref h0)]) hx hb dX10_proved_44 rfl hl (by decide) rfl (fun ls hl => ?_)
        refine W.widen (k := 1) (n := 160) (Nat.le_of_ble_eq_true rfl) (Nat.le_of_ble_eq_true rfl) ?_
        exact lw_X10_proved_45 X hr hlocks hin rs  xfuel (z + 1) f14 h0 z (0 : Int32) _ _ _ h Y (lv_sub hl [2, 1, 0] rfl)
      · replace h := Eq.trans (if_neg c10).symm h
        refine lv_bipush (v := -3) hx hb dX10_proved_28 (by decide) ?_
        replace h := Option.some.inj h
        subst h
        exact q_reti X Y hr hlocks (Nat.le_of_ble_eq_true rfl) (Nat.le_of_ble_eq_true rfl) dX10_proved_30
    replace h := Eq.trans (if_neg c6).symm h
    cases h
/-! NeverBelow.isWeight(I)Z -/
abbrev rm_X10_isWeight : Room := { frames := 0, cells := 0, slots := 0, locals := 0 }
def F_X10_isWeight (f : xHp) (p0 : Int32) : Option (Int32) := if p0 < (1 : Int32) then (some (0 : Int32)) else (if (1000 : Int32) < p0 then (some (0 : Int32)) else (some (1 : Int32)))
set_option maxRecDepth 100000 in
set_option maxHeartbeats 4000000 in
theorem c_X10_isWeight (l : Launch) (G : xG) (z : Nat) (f : xHp) (p0 : Int32) (rs : Int32) (h : F_X10_isWeight f p0 = some rs) : xM G l yX10_isWeight cX10_isWeight 1 (some .boolean) rm_X10_isWeight [.int p0] z f (some (.int rs)) z f := by
  refine xM_of (by decide) (Nat.le_of_ble_eq_true rfl) ?_
  intro p e s m below meth c ls X hr hlocks hin Y hl
  have hl : lv_has ls 1 [(0, .int p0)] := hl
  have hx := X.1.1
  have hb := X.1.2.1
  unfold F_X10_isWeight at h
  refine lv_iload_n hx hb dX10_isWeight_0 rfl (lv_at hl 0 rfl) ?_
  refine lv_iconst (v := 1) hx hb dX10_isWeight_1 (by decide) ?_
  refine lv_icmp_lt (tgt := 16) hx hb dX10_isWeight_2 (by decide) (fun c1 => ?_) (fun c1 => ?_)
  · replace h := Eq.trans (if_pos c1).symm h
    refine lv_iconst (v := 0) hx hb dX10_isWeight_16 (by decide) ?_
    replace h := Option.some.inj h
    subst h
    exact q_retz (v := (0 : Int32)) X Y hr hlocks rfl (Nat.le_of_ble_eq_true rfl) (Nat.le_of_ble_eq_true rfl) dX10_isWeight_17
  · replace h := Eq.trans (if_neg c1).symm h
    refine lv_iload_n hx hb dX10_isWeight_5 rfl (lv_at hl 0 rfl) ?_
    refine lv_sipush (v := 1000) hx hb dX10_isWeight_6 (by decide) ?_
    refine lv_icmp_gt (tgt := 16) hx hb dX10_isWeight_9 (by decide) (fun c2 => ?_) (fun c2 => ?_)
    · replace h := Eq.trans (if_pos c2).symm h
      refine lv_iconst (v := 0) hx hb dX10_isWeight_16 (by decide) ?_
      replace h := Option.some.inj h
      subst h
      exact q_retz (v := (0 : Int32)) X Y hr hlocks rfl (Nat.le_of_ble_eq_true rfl) (Nat.le_of_ble_eq_true rfl) dX10_isWeight_17
    · replace h := Eq.trans (if_neg c2).symm h
      refine lv_iconst (v := 1) hx hb dX10_isWeight_12 (by decide) ?_
      refine lv_goto (tgt := 17) hx hb dX10_isWeight_13 (by decide) ?_
      replace h := Option.some.inj h
      subst h
      exact q_retz (v := (1 : Int32)) X Y hr hlocks rfl (Nat.le_of_ble_eq_true rfl) (Nat.le_of_ble_eq_true rfl) dX10_isWeight_17
/-! NeverBelow$Polynomial.lessSpan(JJJJ)LNeverBelow$Polynomial; -/
abbrev rm_X4_lessSpan : Room := { frames := 2, cells := 2, slots := 25, locals := 62 }
def F_X4_lessSpan_58  (z : Nat) (f : xHp)  : Option (Option Nat × Nat × xHp) := some (none, z, f)
def F_X4_lessSpan (z : Nat) (f : xHp) (h0 : Nat) (p1 : Int64) (p3 : Int64) (p5 : Int64) (p7 : Int64) : Option (Option Nat × Nat × xHp) := if p3 ≤ (0 : Int64) then (F_X4_lessSpan_58 z f) else (if p3 = 0 then none else if (p1 - p1 / p3 * p3) = (0 : Int64) then (if ((256 : Int64) * p3) = 0 then none else if ((p1 * (p5 + p7)) - (p1 * (p5 + p7)) / ((256 : Int64) * p3) * ((256 : Int64) * p3)) = (0 : Int64) then (if ((65536 : Int64) * p3) = 0 then none else if (((p1 * p5) * p7) - ((p1 * p5) * p7) / ((65536 : Int64) * p3) * ((65536 : Int64) * p3)) = (0 : Int64) then (Option.bind (hN f h0 [(4, 0)]) fun v8 => Option.bind (F_J7_copyOf_c38d5 z f v8 (9 : Int32)) fun q9 => Option.bind (some q9.1) fun o10 => Option.bind (o10) fun q11 => Option.bind (hJld q9.2.2 q11 (6 : Int32)) fun v12 => if p3 = 0 then none else Option.bind (hJst q9.2.2 q11 (6 : Int32) (v12 + (p1 / p3))) fun f14 => Option.bind (hJld f14 q11 (3 : Int32)) fun v15 => if ((256 : Int64) * p3) = 0 then none else Option.bind (hJst f14 q11 (3 : Int32) (v15 - ((p1 * (p5 + p7)) / ((256 : Int64) * p3)))) fun f17 => Option.bind (hJld f17 q11 (0 : Int32)) fun v18 => if ((65536 : Int64) * p3) = 0 then none else Option.bind (hJst f17 q11 (0 : Int32) (v18 + (((p1 * p5) * p7) / ((65536 : Int64) * p3)))) fun f20 => Option.bind (F_X10_areCoefficients f20 q11) fun q21 => if q21 = 0 then (some (none, q9.2.1, f20)) else (Option.bind (some (va_up f20 q9.2.1 (some (.inr (.inr (.inr (4, [.null]))))))) fun f23 => Option.bind (F_X4_init f23 q9.2.1 q11) fun q24 => some ((some q9.2.1), (q9.2.1 + 1), q24))) else (F_X4_lessSpan_58 z f)) else (F_X4_lessSpan_58 z f)) else (F_X4_lessSpan_58 z f))
set_option maxRecDepth 100000 in
set_option maxHeartbeats 4000000 in
theorem w_X4_lessSpan_58 {p : Program} {l : Launch} {e : Env} {s : State} {m : MethodId} {args : Array Value} {below : List Frame} {meth : Method} {c : Code} {G : xG} (X : xC G p m c s args RX4 cX4_lessSpan 14) (hr : meth.sig.returnType = (some (.object "NeverBelow$Polynomial"))) (hlocks : meth.locks = false) (hin : meth.name = yX4_lessSpan.name) (rs : Option Nat × Nat × xHp)  (z : Nat) (f : xHp) (H : Heap) (locs : List Loc) (ls : Array Slot) (h : F_X4_lessSpan_58  z f = some rs) (Y : xY G z f s H locs) (hl : lv_has ls 14 []) : W p l e rm_X4_lessSpan s m args below meth c H locs 0 0 (MQ below (xQ G (some (va_rf rs.1)) rs.2.1 rs.2.2) args s rm_X4_lessSpan.cells rm_X4_lessSpan.slots (xA G)) (F0 m 58 ls []) := by
  have hx := X.1.1
  have hb := X.1.2.1
  unfold F_X4_lessSpan_58 at h
  refine lv_null hx hb dX4_lessSpan_58 ?_
  replace h := Option.some.inj h
  subst h
  exact q_reta X Y hr (by first | exact Or.inl ⟨_, rfl⟩ | exact Or.inr ⟨_, rfl⟩) hlocks (Nat.le_of_ble_eq_true rfl) (Nat.le_of_ble_eq_true rfl) dX4_lessSpan_59
set_option maxRecDepth 100000 in
set_option maxHeartbeats 4000000 in
theorem c_X4_lessSpan (l : Launch) (G : xG) (z : Nat) (f : xHp) (h0 : Nat) (p1 : Int64) (p3 : Int64) (p5 : Int64) (p7 : Int64) (rs : Option Nat × Nat × xHp) (h : F_X4_lessSpan z f h0 p1 p3 p5 p7 = some rs) : xM G l yX4_lessSpan cX4_lessSpan 14 (some (.object "NeverBelow$Polynomial")) rm_X4_lessSpan [.ref h0, .long p1, .long p3, .long p5, .long p7] z f (some (va_rf rs.1)) rs.2.1 rs.2.2 := by
  refine xM_of (by decide) (Nat.le_of_ble_eq_true rfl) ?_
  intro p e s m below meth c ls X hr hlocks hin Y hl
  have hl : lv_has ls 14 [(0, .ref h0), (1, .long p1), (3, .long p3), (5, .long p5), (7, .long p7)] := hl
  have hx := X.1.1
  have hb := X.1.2.1
  unfold F_X4_lessSpan at h
  refine lv_ldc2 (v := 256) hx hb X.1.2.2.2.1 (X.1.2.2.2.2 _ xw_276) dX4_lessSpan_0 ?_
  refine lv_lload_n hx hb dX4_lessSpan_3 rfl (lv_at hl 2 rfl) ?_
  refine lv_lmul hx hb dX4_lessSpan_4 ?_
  refine lv_lstore (lv' := [(9, .long ((256 : Int64) * p3)), (0, .ref h0), (1, .long p1), (3, .long p3), (5, .long p5), (7, .long p7)]) hx hb dX4_lessSpan_5 hl (by decide) rfl (fun ls hl => ?_)
  refine lv_ldc2 (v := 65536) hx hb X.1.2.2.2.1 (X.1.2.2.2.2 _ xw_565) dX4_lessSpan_7 ?_
  refine lv_lload_n hx hb dX4_lessSpan_10 rfl (lv_at hl 3 rfl) ?_
  refine lv_lmul hx hb dX4_lessSpan_11 ?_
  refine lv_lstore (lv' := [(11, .long ((65536 : Int64) * p3)), (9, .long ((256 : Int64) * p3)), (0, .ref h0), (1, .long p1), (3, .long p3), (5, .long p5), (7, .long p7)]) hx hb dX4_lessSpan_12 hl (by decide) rfl (fun ls hl => ?_)
  refine lv_lload_n hx hb dX4_lessSpan_14 rfl (lv_at hl 4 rfl) ?_
  refine lv_lconst (v := 0) hx hb dX4_lessSpan_15 (by decide) ?_
  refine q_lcmp_le (tgt := 58) hx hb dX4_lessSpan_16 dX4_lessSpan_17 (by decide) (fun c1 => ?_) (fun c1 => ?_)
  · replace h := Eq.trans (if_pos c1).symm h
    refine W.widen (k := 0) (n := 0) (Nat.le_of_ble_eq_true rfl) (Nat.le_of_ble_eq_true rfl) ?_
    exact w_X4_lessSpan_58 X hr hlocks hin rs   z f _ _ _ h Y (lv_sub hl [] rfl)
  · replace h := Eq.trans (if_neg c1).symm h
    refine lv_lload_n hx hb dX4_lessSpan_20 rfl (lv_at hl 3 rfl) ?_
    refine lv_lload_n hx hb dX4_lessSpan_21 rfl (lv_at hl 4 rfl) ?_
    by_cases c2 : p3 = 0
    · exact absurd (Eq.trans (if_pos c2).symm h) (by intro q; cases q)
    replace h := Eq.trans (if_neg c2).symm h
    refine lv_lrem hx hb dX4_lessSpan_22 c2 ?_
    refine lv_lconst (v := 0) hx hb dX4_lessSpan_23 (by decide) ?_
    refine q_lcmp_ne (tgt := 58) hx hb dX4_lessSpan_24 dX4_lessSpan_25 (by decide) (fun c3 => ?_) (fun c3 => ?_)
    · replace h := Eq.trans (if_neg c3).symm h
      refine W.widen (k := 0) (n := 0) (Nat.le_of_ble_eq_true rfl) (Nat.le_of_ble_eq_true rfl) ?_
      exact w_X4_lessSpan_58 X hr hlocks hin rs   z f _ _ _ h Y (lv_sub hl [] rfl)
    · replace h := Eq.trans (if_pos c3).symm h
      refine lv_lload_n hx hb dX4_lessSpan_28 rfl (lv_at hl 3 rfl) ?_
      refine lv_lload hx hb dX4_lessSpan_29 (lv_at hl 5 rfl) ?_
      refine lv_lload hx hb dX4_lessSpan_31 (lv_at hl 6 rfl) ?_
      refine lv_ladd hx hb dX4_lessSpan_33 ?_
      refine lv_lmul hx hb dX4_lessSpan_34 ?_
      refine lv_lload hx hb dX4_lessSpan_35 (lv_at hl 1 rfl) ?_
      by_cases c4 : ((256 : Int64) * p3) = 0
      · exact absurd (Eq.trans (if_pos c4).symm h) (by intro q; cases q)
      replace h := Eq.trans (if_neg c4).symm h
      refine lv_lrem hx hb dX4_lessSpan_37 c4 ?_
      refine lv_lconst (v := 0) hx hb dX4_lessSpan_38 (by decide) ?_
      refine q_lcmp_ne (tgt := 58) hx hb dX4_lessSpan_39 dX4_lessSpan_40 (by decide) (fun c5 => ?_) (fun c5 => ?_)
      · replace h := Eq.trans (if_neg c5).symm h
        refine W.widen (k := 0) (n := 0) (Nat.le_of_ble_eq_true rfl) (Nat.le_of_ble_eq_true rfl) ?_
        exact w_X4_lessSpan_58 X hr hlocks hin rs   z f _ _ _ h Y (lv_sub hl [] rfl)
      · replace h := Eq.trans (if_pos c5).symm h
        refine lv_lload_n hx hb dX4_lessSpan_43 rfl (lv_at hl 3 rfl) ?_
        refine lv_lload hx hb dX4_lessSpan_44 (lv_at hl 5 rfl) ?_
        refine lv_lmul hx hb dX4_lessSpan_46 ?_
        refine lv_lload hx hb dX4_lessSpan_47 (lv_at hl 6 rfl) ?_
        refine lv_lmul hx hb dX4_lessSpan_49 ?_
        refine lv_lload hx hb dX4_lessSpan_50 (lv_at hl 0 rfl) ?_
        by_cases c6 : ((65536 : Int64) * p3) = 0
        · exact absurd (Eq.trans (if_pos c6).symm h) (by intro q; cases q)
        replace h := Eq.trans (if_neg c6).symm h
        refine lv_lrem hx hb dX4_lessSpan_52 c6 ?_
        refine lv_lconst (v := 0) hx hb dX4_lessSpan_53 (by decide) ?_
        refine q_lcmp_eq (tgt := 60) hx hb dX4_lessSpan_54 dX4_lessSpan_55 (by decide) (fun c7 => ?_) (fun c7 => ?_)
        · replace h := Eq.trans (if_pos c7).symm h
          refine lv_aload_n hx hb dX4_lessSpan_60 rfl (lv_at hl 2 rfl) ?_
          replace h := xb h
          obtain ⟨v8, ev8, h⟩ := h
          refine q_getN X Y fl_X4_9 ev8 dX4_lessSpan_61 ?_
          refine lv_bipush (v := 9) hx hb dX4_lessSpan_64 (by decide) ?_
          replace h := xb h
          obtain ⟨q9, eq9, h⟩ := h
          refine q_callS X Y hl.1 (rest := []) (As := [.ref v8, .int (9 : Int32)]) (c_J7_copyOf_c38d5 l G z f v8 (9 : Int32) _ eq9) cd_J7_copyOf_c38d5 ls_X4_35 ⟨(Nat.le_of_ble_eq_true rfl), (Nat.le_of_ble_eq_true rfl)⟩ ⟨(Nat.le_of_ble_eq_true rfl), (Nat.le_of_ble_eq_true rfl)⟩ rfl rfl (Nat.le_of_ble_eq_true rfl) dX4_lessSpan_66 (fun H locs Y => ?_)
          refine W.eq (g2 := F0 m 69 ls [va_rf q9.1]) rfl ?_
          replace h := xb h
          obtain ⟨o10, eo10, h⟩ := h
          have eo10 := Option.some.inj eo10
          rw [eo10]
          refine W.widen (k := 1) (n := 24) (Nat.le_of_ble_eq_true rfl) (Nat.le_of_ble_eq_true rfl) ?_
          refine q_astore (lv' := [(13, va_rf o10), (11, .long ((65536 : Int64) * p3)), (9, .long ((256 : Int64) * p3)), (0, .ref h0), (1, .long p1), (3, .long p3), (5, .long p5), (7, .long p7)]) hx hb dX4_lessSpan_69 hl (by decide) rfl (fun ls hl => ?_)
          refine q_aload hx hb dX4_lessSpan_71 (lv_at hl 0 rfl) ?_
          refine lv_bipush (v := 6) hx hb dX4_lessSpan_73 (by decide) ?_
          refine lv_dup2_11 hx hb dX4_lessSpan_75 rfl (by cases o10 <;> rfl) ?_
          replace h := xb h
          obtain ⟨q11, eq11, h⟩ := h
          subst eq11
          have hl : lv_has ls 14 [(13, .ref q11), (11, .long ((65536 : Int64) * p3)), (9, .long ((256 : Int64) * p3)), (0, .ref h0), (1, .long p1), (3, .long p3), (5, .long p5), (7, .long p7)] := hl
          refine W.eq (g2 := F0 m 76 ls [.int (6 : Int32), .ref q11, .int (6 : Int32), .ref q11]) rfl ?_
          replace h := xb h
          obtain ⟨v12, ev12, h⟩ := h
          refine q_lald X Y ev12 dX4_lessSpan_76 ?_
          refine lv_lload_n hx hb dX4_lessSpan_77 rfl (lv_at hl 4 rfl) ?_
          refine lv_lload_n hx hb dX4_lessSpan_78 rfl (lv_at hl 5 rfl) ?_
          by_cases c13 : p3 = 0
          · exact absurd (Eq.trans (if_pos c13).symm h) (by intro q; cases q)
          replace h := Eq.trans (if_neg c13).symm h
          refine lv_ldiv hx hb dX4_lessSpan_79 c13 ?_
          refine lv_ladd hx hb dX4_lessSpan_80 ?_
          replace h := xb h
          obtain ⟨f14, ef14, h⟩ := h
          refine q_last X Y ef14 dX4_lessSpan_81 (fun H locs Y => ?_)
          refine lv_aload hx hb dX4_lessSpan_82 (lv_at hl 0 rfl) ?_
          refine lv_iconst (v := 3) hx hb dX4_lessSpan_84 (by decide) ?_
          refine lv_dup2_11 hx hb dX4_lessSpan_85 rfl rfl ?_
          replace h := xb h
          obtain ⟨v15, ev15, h⟩ := h
          refine q_lald X Y ev15 dX4_lessSpan_86 ?_
          refine lv_lload_n hx hb dX4_lessSpan_87 rfl (lv_at hl 4 rfl) ?_
          refine lv_lload hx hb dX4_lessSpan_88 (lv_at hl 6 rfl) ?_
          refine lv_lload hx hb dX4_lessSpan_90 (lv_at hl 7 rfl) ?_
          refine lv_ladd hx hb dX4_lessSpan_92 ?_
          refine lv_lmul hx hb dX4_lessSpan_93 ?_
          refine lv_lload hx hb dX4_lessSpan_94 (lv_at hl 2 rfl) ?_
          by_cases c16 : ((256 : Int64) * p3) = 0
          · exact absurd (Eq.trans (if_pos c16).symm h) (by intro q; cases q)
          replace h := Eq.trans (if_neg c16).symm h
          refine lv_ldiv hx hb dX4_lessSpan_96 c16 ?_
          refine lv_lsub hx hb dX4_lessSpan_97 ?_
          replace h := xb h
          obtain ⟨f17, ef17, h⟩ := h
          refine q_last X Y ef17 dX4_lessSpan_98 (fun H locs Y => ?_)
          refine lv_aload hx hb dX4_lessSpan_99 (lv_at hl 0 rfl) ?_
          refine lv_iconst (v := 0) hx hb dX4_lessSpan_101 (by decide) ?_
          refine lv_dup2_11 hx hb dX4_lessSpan_102 rfl rfl ?_
          replace h := xb h
          obtain ⟨v18, ev18, h⟩ := h
          refine q_lald X Y ev18 dX4_lessSpan_103 ?_
          refine lv_lload_n hx hb dX4_lessSpan_104 rfl (lv_at hl 4 rfl) ?_
          refine lv_lload hx hb dX4_lessSpan_105 (lv_at hl 6 rfl) ?_
          refine lv_lmul hx hb dX4_lessSpan_107 ?_
          refine lv_lload hx hb dX4_lessSpan_108 (lv_at hl 7 rfl) ?_
          refine lv_lmul hx hb dX4_lessSpan_110 ?_
          refine lv_lload hx hb dX4_lessSpan_111 (lv_at hl 1 rfl) ?_
          by_cases c19 : ((65536 : Int64) * p3) = 0
          · exact absurd (Eq.trans (if_pos c19).symm h) (by intro q; cases q)
          replace h := Eq.trans (if_neg c19).symm h
          refine lv_ldiv hx hb dX4_lessSpan_113 c19 ?_
          refine lv_ladd hx hb dX4_lessSpan_114 ?_
          replace h := xb h
          obtain ⟨f20, ef20, h⟩ := h
          refine q_last X Y ef20 dX4_lessSpan_115 (fun H locs Y => ?_)
          refine lv_aload hx hb dX4_lessSpan_116 (lv_at hl 0 rfl) ?_
          replace h := xb h
          obtain ⟨q21, eq21, h⟩ := h
          refine q_callSN X Y hl.1 (rest := []) (As := [.ref q11]) (c_X10_areCoefficients l G q9.2.1 f20 q11 _ eq21) cd_X10_areCoefficients ls_X4_41 ⟨(Nat.le_of_ble_eq_true rfl), (Nat.le_of_ble_eq_true rfl)⟩ ⟨(Nat.le_of_ble_eq_true rfl), (Nat.le_of_ble_eq_true rfl)⟩ rfl rfl (Nat.le_of_ble_eq_true rfl) dX4_lessSpan_118 (fun H locs Y => ?_)
          refine W.eq (g2 := F0 m 121 ls [.int q21]) rfl ?_
          refine lv_if_eq (tgt := 136) hx hb dX4_lessSpan_121 (by decide) (fun c22 => ?_) (fun c22 => ?_)
          · replace h := Eq.trans (if_pos c22).symm h
            refine lv_null hx hb dX4_lessSpan_136 ?_
            replace h := Option.some.inj h
            subst h
            exact q_reta X Y hr (by first | exact Or.inl ⟨_, rfl⟩ | exact Or.inr ⟨_, rfl⟩) hlocks (Nat.le_of_ble_eq_true rfl) (Nat.le_of_ble_eq_true rfl) dX4_lessSpan_137
          · replace h := Eq.trans (if_neg c22).symm h
            replace h := xb h
            obtain ⟨f23, ef23, h⟩ := h
            have ef23 := Option.some.inj ef23
            refine q_new X Y no_X4_10 (Nat.le_of_ble_eq_true rfl) (Nat.le_of_ble_eq_true rfl) dX4_lessSpan_124 (fun H Y => ?_)
            rw [ef23] at Y
            refine lv_dup hx hb dX4_lessSpan_127 rfl ?_
            refine lv_aload hx hb dX4_lessSpan_128 (lv_at hl 0 rfl) ?_
            replace h := xb h
            obtain ⟨q24, eq24, h⟩ := h
            refine q_callI X Y hl.1 (rest := [.ref q9.2.1]) (As := [.ref q11]) (c_X4_init l G (q9.2.1 + 1) f23 q9.2.1 q11 _ eq24) cd_X4_init li_X4_45 ⟨(Nat.le_of_ble_eq_true rfl), (Nat.le_of_ble_eq_true rfl)⟩ ⟨(Nat.le_of_ble_eq_true rfl), (Nat.le_of_ble_eq_true rfl)⟩ rfl rfl (Nat.le_of_ble_eq_true rfl) dX4_lessSpan_130 (fun H locs Y => ?_)
            refine W.eq (g2 := F0 m 133 ls [.ref q9.2.1]) rfl ?_
            refine lv_goto (tgt := 137) hx hb dX4_lessSpan_133 (by decide) ?_
            replace h := Option.some.inj h
            subst h
            exact q_reta X Y hr (by first | exact Or.inl ⟨_, rfl⟩ | exact Or.inr ⟨_, rfl⟩) hlocks (Nat.le_of_ble_eq_true rfl) (Nat.le_of_ble_eq_true rfl) dX4_lessSpan_137
        · replace h := Eq.trans (if_neg c7).symm h
          refine W.widen (k := 0) (n := 0) (Nat.le_of_ble_eq_true rfl) (Nat.le_of_ble_eq_true rfl) ?_
          exact w_X4_lessSpan_58 X hr hlocks hin rs   z f _ _ _ h Y (lv_sub hl [] rfl)
/-! NeverBelow$SpanProof.<init>(LNeverBelow$Polynomial;I[J)V -/
abbrev rm_X7_init : Room := { frames := 3, cells := 0, slots := 0, locals := 72 }
def F_X7_init (f : xHp) (h0 : Nat) (p1 : Nat) (p2 : Int32) (p3 : Nat) : Option (xHp) := Option.bind (F_X8_init f h0 (3 : Int32) p1 p2 p3) fun q1 => some q1
set_option maxRecDepth 100000 in
set_option maxHeartbeats 4000000 in
theorem c_X7_init (l : Launch) (G : xG) (z : Nat) (f : xHp) (h0 : Nat) (p1 : Nat) (p2 : Int32) (p3 : Nat) (rs : xHp) (h : F_X7_init f h0 p1 p2 p3 = some rs) : xM G l yX7_init cX7_init 4 none rm_X7_init [.ref h0, .ref p1, .int p2, .ref p3] z f none z rs := by
  refine xM_of (by decide) (Nat.le_of_ble_eq_true rfl) ?_
  intro p e s m below meth c ls X hr hlocks hin Y hl
  have hl : lv_has ls 4 [(0, .ref h0), (1, .ref p1), (2, .int p2), (3, .ref p3)] := hl
  have hx := X.1.1
  have hb := X.1.2.1
  unfold F_X7_init at h
  refine lv_aload_n hx hb dX7_init_0 rfl (lv_at hl 0 rfl) ?_
  refine lv_iconst (v := 3) hx hb dX7_init_1 (by decide) ?_
  refine lv_aload_n hx hb dX7_init_2 rfl (lv_at hl 1 rfl) ?_
  refine lv_iload_n hx hb dX7_init_3 rfl (lv_at hl 2 rfl) ?_
  refine lv_aload_n hx hb dX7_init_4 rfl (lv_at hl 3 rfl) ?_
  replace h := xb h
  obtain ⟨q1, eq1, h⟩ := h
  refine q_callI X Y hl.1 (rest := []) (As := [.int (3 : Int32), .ref p1, .int p2, .ref p3]) (c_X8_init l G z f h0 (3 : Int32) p1 p2 p3 _ eq1) cd_X8_init li_X7_3 ⟨(Nat.le_of_ble_eq_true rfl), (Nat.le_of_ble_eq_true rfl)⟩ ⟨(Nat.le_of_ble_eq_true rfl), (Nat.le_of_ble_eq_true rfl)⟩ rfl rfl (Nat.le_of_ble_eq_true rfl) dX7_init_5 (fun H locs Y => ?_)
  refine W.eq (g2 := F0 m 8 ls []) rfl ?_
  replace h := Option.some.inj h
  subst h
  exact q_retv X Y hr hlocks (Nat.le_of_ble_eq_true rfl) (Nat.le_of_ble_eq_true rfl) dX7_init_8
/-! NeverBelow.span(IIIII)I -/
abbrev rm_X10_span : Room := { frames := 4, cells := 6, slots := 77, locals := 95 }
def F_X10_span_68  (z : Nat) (f : xHp) (a0 : Nat) (a1 : Int32) (a2 : Int32) (a3 : Int32) (a4 : Int32) (a5 : Int32) (a6 : Nat) (s0 : Option Nat) : Option (Int32 × Nat × xHp) := xnul s0 (some ((-3 : Int32), z, f)) (fun q2 => if hKd f q2 = some 4 then (Option.bind (F_X4_squareNumbers z f q2 (4 : Int32)) fun q4 => Option.bind (some q4.1) fun o5 => xnul o5 (some ((-9 : Int32), q4.2.1, q4.2.2)) (fun q7 => Option.bind (hLen q4.2.2 q7) fun v8 => Option.bind (hJst q4.2.2 q7 (v8 - (4 : Int32)) a2.toInt64) fun f9 => Option.bind (hJst f9 q7 ((v8 - (4 : Int32)) + (1 : Int32)) a3.toInt64) fun f10 => Option.bind (hJst f10 q7 ((v8 - (4 : Int32)) + (2 : Int32)) a4.toInt64) fun f11 => Option.bind (hJst f11 q7 ((v8 - (4 : Int32)) + (3 : Int32)) a5.toInt64) fun f12 => Option.bind (some (va_up f12 q4.2.1 (some (.inr (.inr (.inr (6, [.int 0, .null, .int 0, .null]))))))) fun f13 => Option.bind (F_X7_init f13 q4.2.1 a6 a1 q7) fun q14 => if hKd q14 a0 = some 9 then (Option.bind (F_X10_keepProof q14 a0 q4.2.1) fun q16 => some (q16.1, (q4.2.1 + 1), q16.2)) else none)) else none)
def F_X10_span (z : Nat) (f : xHp) (h0 : Nat) (p1 : Int32) (p2 : Int32) (p3 : Int32) (p4 : Int32) (p5 : Int32) : Option (Int32 × Nat × xHp) := if hKd f h0 = some 9 then (Option.bind (F_X10_polynomialOf f h0 p1) fun q2 => xnul q2 (some ((-1 : Int32), z, f)) (fun q4 => Option.bind (F_X10_isWeight f p2) fun q5 => if q5 = 0 then (some ((-2 : Int32), z, f)) else (Option.bind (F_X10_isWeight f p3) fun q7 => if q7 = 0 then (some ((-2 : Int32), z, f)) else (Option.bind (F_X10_isRange f p4 p5) fun q9 => if q9 = 0 then (some ((-2 : Int32), z, f)) else (if hKd f q4 = some 4 then (Option.bind (F_X4_isForm f q4) fun q12 => if q12 = 0 then (F_X10_span_68 z f h0 p1 p2 p3 p4 p5 q4 none) else (if hKd f q4 = some 4 then (Option.bind (F_X4_lessSpan z f q4 p2.toInt64 p3.toInt64 p4.toInt64 p5.toInt64) fun q15 => Option.bind (some q15.1) fun o16 => F_X10_span_68 q15.2.1 q15.2.2 h0 p1 p2 p3 p4 p5 q4 o16) else none)) else none))))) else none
set_option maxRecDepth 100000 in
set_option maxHeartbeats 4000000 in
theorem w_X10_span_68 {p : Program} {l : Launch} {e : Env} {s : State} {m : MethodId} {args : Array Value} {below : List Frame} {meth : Method} {c : Code} {G : xG} (X : xC G p m c s args RX10 cX10_span 10) (hr : meth.sig.returnType = (some .int)) (hlocks : meth.locks = false) (hin : meth.name = yX10_span.name) (rs : Int32 × Nat × xHp)  (z : Nat) (f : xHp) (a0 : Nat) (a1 : Int32) (a2 : Int32) (a3 : Int32) (a4 : Int32) (a5 : Int32) (a6 : Nat) (s0 : Option Nat) (H : Heap) (locs : List Loc) (ls : Array Slot) (h : F_X10_span_68  z f a0 a1 a2 a3 a4 a5 a6 s0 = some rs) (Y : xY G z f s H locs) (hl : lv_has ls 10 [(0, .ref a0), (1, .int a1), (2, .int a2), (3, .int a3), (4, .int a4), (5, .int a5), (6, .ref a6)]) : W p l e rm_X10_span s m args below meth c H locs 2 25 (MQ below (xQ G (some (.int rs.1)) rs.2.1 rs.2.2) args s rm_X10_span.cells rm_X10_span.slots (xA G)) (F0 m 68 ls [va_rf s0]) := by
  have hx := X.1.1
  have hb := X.1.2.1
  unfold F_X10_span_68 at h
  refine q_astore (lv' := [(7, va_rf s0), (0, .ref a0), (1, .int a1), (2, .int a2), (3, .int a3), (4, .int a4), (5, .int a5), (6, .ref a6)]) hx hb dX10_span_68 hl (by decide) rfl (fun ls hl => ?_)
  refine q_aload hx hb dX10_span_70 (lv_at hl 0 rfl) ?_
  refine q_ifnonnull (tgt := 78) hx hb dX10_span_72 (by decide) (fun c1 => ?_) (fun q2 eq2 => ?_)
  · replace h := xn0 h c1
    subst c1
    have hl : lv_has ls 10 [(7, .null), (0, .ref a0), (1, .int a1), (2, .int a2), (3, .int a3), (4, .int a4), (5, .int a5), (6, .ref a6)] := hl
    refine lv_bipush (v := -3) hx hb dX10_span_75 (by decide) ?_
    replace h := Option.some.inj h
    subst h
    exact q_reti X Y hr hlocks (Nat.le_of_ble_eq_true rfl) (Nat.le_of_ble_eq_true rfl) dX10_span_77
  · replace h := xn1 h eq2
    subst eq2
    have hl : lv_has ls 10 [(7, .ref q2), (0, .ref a0), (1, .int a1), (2, .int a2), (3, .int a3), (4, .int a4), (5, .int a5), (6, .ref a6)] := hl
    refine lv_aload hx hb dX10_span_78 (lv_at hl 0 rfl) ?_
    refine lv_iconst (v := 4) hx hb dX10_span_80 (by decide) ?_
    by_cases c3 : hKd f q2 = some 4
    · replace h := Eq.trans (if_pos c3).symm h
      replace h := xb h
      obtain ⟨q4, eq4, h⟩ := h
      refine q_callV X Y hl.1 (rest := []) (As := [.int (4 : Int32)]) (c_X4_squareNumbers l G z f q2 (4 : Int32) _ eq4) cd_X4_squareNumbers lv_X10_223_4 c3 ⟨(Nat.le_of_ble_eq_true rfl), (Nat.le_of_ble_eq_true rfl)⟩ ⟨(Nat.le_of_ble_eq_true rfl), (Nat.le_of_ble_eq_true rfl)⟩ rfl rfl (Nat.le_of_ble_eq_true rfl) dX10_span_81 (fun H locs Y => ?_)
      refine W.eq (g2 := F0 m 84 ls [va_rf q4.1]) rfl ?_
      replace h := xb h
      obtain ⟨o5, eo5, h⟩ := h
      have eo5 := Option.some.inj eo5
      rw [eo5]
      refine W.widen (k := 5) (n := 73) (Nat.le_of_ble_eq_true rfl) (Nat.le_of_ble_eq_true rfl) ?_
      refine q_astore (lv' := [(8, va_rf o5), (7, .ref q2), (0, .ref a0), (1, .int a1), (2, .int a2), (3, .int a3), (4, .int a4), (5, .int a5), (6, .ref a6)]) hx hb dX10_span_84 hl (by decide) rfl (fun ls hl => ?_)
      refine q_aload hx hb dX10_span_86 (lv_at hl 0 rfl) ?_
      refine q_ifnonnull (tgt := 94) hx hb dX10_span_88 (by decide) (fun c6 => ?_) (fun q7 eq7 => ?_)
      · replace h := xn0 h c6
        subst c6
        have hl : lv_has ls 10 [(8, .null), (7, .ref q2), (0, .ref a0), (1, .int a1), (2, .int a2), (3, .int a3), (4, .int a4), (5, .int a5), (6, .ref a6)] := hl
        refine lv_bipush (v := -9) hx hb dX10_span_91 (by decide) ?_
        replace h := Option.some.inj h
        subst h
        exact q_reti X Y hr hlocks (Nat.le_of_ble_eq_true rfl) (Nat.le_of_ble_eq_true rfl) dX10_span_93
      · replace h := xn1 h eq7
        subst eq7
        have hl : lv_has ls 10 [(8, .ref q7), (7, .ref q2), (0, .ref a0), (1, .int a1), (2, .int a2), (3, .int a3), (4, .int a4), (5, .int a5), (6, .ref a6)] := hl
        refine lv_aload hx hb dX10_span_94 (lv_at hl 0 rfl) ?_
        replace h := xb h
        obtain ⟨v8, ev8, h⟩ := h
        refine q_alen X Y ev8 dX10_span_96 ?_
        refine lv_iconst (v := 4) hx hb dX10_span_97 (by decide) ?_
        refine lv_isub hx hb dX10_span_98 ?_
        refine lv_istore (lv' := [(9, .int (v8 - (4 : Int32))), (8, .ref q7), (7, .ref q2), (0, .ref a0), (1, .int a1), (2, .int a2), (3, .int a3), (4, .int a4), (5, .int a5), (6, .ref a6)]) hx hb dX10_span_99 hl (by decide) rfl (fun ls hl => ?_)
        refine lv_aload hx hb dX10_span_101 (lv_at hl 1 rfl) ?_
        refine lv_iload hx hb dX10_span_103 (lv_at hl 0 rfl) ?_
        refine lv_iload_n hx hb dX10_span_105 rfl (lv_at hl 5 rfl) ?_
        refine lv_i2l hx hb dX10_span_106 rfl ?_
        replace h := xb h
        obtain ⟨f9, ef9, h⟩ := h
        refine q_last X Y ef9 dX10_span_107 (fun H locs Y => ?_)
        refine lv_aload hx hb dX10_span_108 (lv_at hl 1 rfl) ?_
        refine lv_iload hx hb dX10_span_110 (lv_at hl 0 rfl) ?_
        refine lv_iconst (v := 1) hx hb dX10_span_112 (by decide) ?_
        refine lv_iadd hx hb dX10_span_113 ?_
        refine lv_iload_n hx hb dX10_span_114 rfl (lv_at hl 6 rfl) ?_
        refine lv_i2l hx hb dX10_span_115 rfl ?_
        replace h := xb h
        obtain ⟨f10, ef10, h⟩ := h
        refine q_last X Y ef10 dX10_span_116 (fun H locs Y => ?_)
        refine lv_aload hx hb dX10_span_117 (lv_at hl 1 rfl) ?_
        refine lv_iload hx hb dX10_span_119 (lv_at hl 0 rfl) ?_
        refine lv_iconst (v := 2) hx hb dX10_span_121 (by decide) ?_
        refine lv_iadd hx hb dX10_span_122 ?_
        refine lv_iload hx hb dX10_span_123 (lv_at hl 7 rfl) ?_
        refine lv_i2l hx hb dX10_span_125 rfl ?_
        replace h := xb h
        obtain ⟨f11, ef11, h⟩ := h
        refine q_last X Y ef11 dX10_span_126 (fun H locs Y => ?_)
        refine lv_aload hx hb dX10_span_127 (lv_at hl 1 rfl) ?_
        refine lv_iload hx hb dX10_span_129 (lv_at hl 0 rfl) ?_
        refine lv_iconst (v := 3) hx hb dX10_span_131 (by decide) ?_
        refine lv_iadd hx hb dX10_span_132 ?_
        refine lv_iload hx hb dX10_span_133 (lv_at hl 8 rfl) ?_
        refine lv_i2l hx hb dX10_span_135 rfl ?_
        replace h := xb h
        obtain ⟨f12, ef12, h⟩ := h
        refine q_last X Y ef12 dX10_span_136 (fun H locs Y => ?_)
        refine lv_aload_n hx hb dX10_span_137 rfl (lv_at hl 3 rfl) ?_
        replace h := xb h
        obtain ⟨f13, ef13, h⟩ := h
        have ef13 := Option.some.inj ef13
        refine q_new X Y no_X10_263 (Nat.le_of_ble_eq_true rfl) (Nat.le_of_ble_eq_true rfl) dX10_span_138 (fun H Y => ?_)
        rw [ef13] at Y
        refine lv_dup hx hb dX10_span_141 rfl ?_
        refine lv_aload hx hb dX10_span_142 (lv_at hl 9 rfl) ?_
        refine lv_iload_n hx hb dX10_span_144 rfl (lv_at hl 4 rfl) ?_
        refine lv_aload hx hb dX10_span_145 (lv_at hl 1 rfl) ?_
        replace h := xb h
        obtain ⟨q14, eq14, h⟩ := h
        refine q_callI X Y hl.1 (rest := [.ref q4.2.1, .ref a0]) (As := [.ref a6, .int a1, .ref q7]) (c_X7_init l G (q4.2.1 + 1) f13 q4.2.1 a6 a1 q7 _ eq14) cd_X7_init li_X10_265 ⟨(Nat.le_of_ble_eq_true rfl), (Nat.le_of_ble_eq_true rfl)⟩ ⟨(Nat.le_of_ble_eq_true rfl), (Nat.le_of_ble_eq_true rfl)⟩ rfl rfl (Nat.le_of_ble_eq_true rfl) dX10_span_147 (fun H locs Y => ?_)
        refine W.eq (g2 := F0 m 150 ls [.ref q4.2.1, .ref a0]) rfl ?_
        by_cases c15 : hKd q14 a0 = some 9
        · replace h := Eq.trans (if_pos c15).symm h
          replace h := xb h
          obtain ⟨q16, eq16, h⟩ := h
          refine q_callV X Y hl.1 (rest := []) (As := [.ref q4.2.1]) (c_X10_keepProof l G (q4.2.1 + 1) q14 a0 q4.2.1 _ eq16) cd_X10_keepProof lv_X10_232_9 c15 ⟨(Nat.le_of_ble_eq_true rfl), (Nat.le_of_ble_eq_true rfl)⟩ ⟨(Nat.le_of_ble_eq_true rfl), (Nat.le_of_ble_eq_true rfl)⟩ rfl rfl (Nat.le_of_ble_eq_true rfl) dX10_span_150 (fun H locs Y => ?_)
          refine W.eq (g2 := F0 m 153 ls [.int q16.1]) rfl ?_
          replace h := Option.some.inj h
          subst h
          exact q_reti X Y hr hlocks (Nat.le_of_ble_eq_true rfl) (Nat.le_of_ble_eq_true rfl) dX10_span_153
        replace h := Eq.trans (if_neg c15).symm h
        cases h
    replace h := Eq.trans (if_neg c3).symm h
    cases h
set_option maxRecDepth 100000 in
set_option maxHeartbeats 4000000 in
theorem c_X10_span (l : Launch) (G : xG) (z : Nat) (f : xHp) (h0 : Nat) (p1 : Int32) (p2 : Int32) (p3 : Int32) (p4 : Int32) (p5 : Int32) (rs : Int32 × Nat × xHp) (h : F_X10_span z f h0 p1 p2 p3 p4 p5 = some rs) : xM G l yX10_span cX10_span 10 (some .int) rm_X10_span [.ref h0, .int p1, .int p2, .int p3, .int p4, .int p5] z f (some (.int rs.1)) rs.2.1 rs.2.2 := by
  refine xM_of (by decide) (Nat.le_of_ble_eq_true rfl) ?_
  intro p e s m below meth c ls X hr hlocks hin Y hl
  have hl : lv_has ls 10 [(0, .ref h0), (1, .int p1), (2, .int p2), (3, .int p3), (4, .int p4), (5, .int p5)] := hl
  have hx := X.1.1
  have hb := X.1.2.1
  unfold F_X10_span at h
  refine lv_aload_n hx hb dX10_span_0 rfl (lv_at hl 0 rfl) ?_
  refine lv_iload_n hx hb dX10_span_1 rfl (lv_at hl 1 rfl) ?_
  by_cases c1 : hKd f h0 = some 9
  · replace h := Eq.trans (if_pos c1).symm h
    replace h := xb h
    obtain ⟨q2, eq2, h⟩ := h
    refine q_callV X Y hl.1 (rest := []) (As := [.int p1]) (c_X10_polynomialOf l G z f h0 p1 _ eq2) cd_X10_polynomialOf lv_X10_95_9 c1 ⟨(Nat.le_of_ble_eq_true rfl), (Nat.le_of_ble_eq_true rfl)⟩ ⟨(Nat.le_of_ble_eq_true rfl), (Nat.le_of_ble_eq_true rfl)⟩ rfl rfl (Nat.le_of_ble_eq_true rfl) dX10_span_2 (fun H locs Y => ?_)
    refine W.eq (g2 := F0 m 5 ls [va_rf q2]) rfl ?_
    refine q_astore (lv' := [(6, va_rf q2), (0, .ref h0), (1, .int p1), (2, .int p2), (3, .int p3), (4, .int p4), (5, .int p5)]) hx hb dX10_span_5 hl (by decide) rfl (fun ls hl => ?_)
    refine q_aload hx hb dX10_span_7 (lv_at hl 0 rfl) ?_
    refine q_ifnonnull (tgt := 14) hx hb dX10_span_9 (by decide) (fun c3 => ?_) (fun q4 eq4 => ?_)
    · replace h := xn0 h c3
      subst c3
      have hl : lv_has ls 10 [(6, .null), (0, .ref h0), (1, .int p1), (2, .int p2), (3, .int p3), (4, .int p4), (5, .int p5)] := hl
      refine lv_iconst (v := -1) hx hb dX10_span_12 (by decide) ?_
      replace h := Option.some.inj h
      subst h
      exact q_reti X Y hr hlocks (Nat.le_of_ble_eq_true rfl) (Nat.le_of_ble_eq_true rfl) dX10_span_13
    · replace h := xn1 h eq4
      subst eq4
      have hl : lv_has ls 10 [(6, .ref q4), (0, .ref h0), (1, .int p1), (2, .int p2), (3, .int p3), (4, .int p4), (5, .int p5)] := hl
      refine lv_iload_n hx hb dX10_span_14 rfl (lv_at hl 3 rfl) ?_
      replace h := xb h
      obtain ⟨q5, eq5, h⟩ := h
      refine q_callS X Y hl.1 (rest := []) (As := [.int p2]) (c_X10_isWeight l G z f p2 _ eq5) cd_X10_isWeight ls_X10_256 ⟨(Nat.le_of_ble_eq_true rfl), (Nat.le_of_ble_eq_true rfl)⟩ ⟨(Nat.le_of_ble_eq_true rfl), (Nat.le_of_ble_eq_true rfl)⟩ rfl rfl (Nat.le_of_ble_eq_true rfl) dX10_span_15 (fun H locs Y => ?_)
      refine W.eq (g2 := F0 m 18 ls [.int q5]) rfl ?_
      refine lv_if_eq (tgt := 38) hx hb dX10_span_18 (by decide) (fun c6 => ?_) (fun c6 => ?_)
      · replace h := Eq.trans (if_pos c6).symm h
        refine lv_bipush (v := -2) hx hb dX10_span_38 (by decide) ?_
        replace h := Option.some.inj h
        subst h
        exact q_reti X Y hr hlocks (Nat.le_of_ble_eq_true rfl) (Nat.le_of_ble_eq_true rfl) dX10_span_40
      · replace h := Eq.trans (if_neg c6).symm h
        refine lv_iload_n hx hb dX10_span_21 rfl (lv_at hl 4 rfl) ?_
        replace h := xb h
        obtain ⟨q7, eq7, h⟩ := h
        refine q_callS X Y hl.1 (rest := []) (As := [.int p3]) (c_X10_isWeight l G z f p3 _ eq7) cd_X10_isWeight ls_X10_256 ⟨(Nat.le_of_ble_eq_true rfl), (Nat.le_of_ble_eq_true rfl)⟩ ⟨(Nat.le_of_ble_eq_true rfl), (Nat.le_of_ble_eq_true rfl)⟩ rfl rfl (Nat.le_of_ble_eq_true rfl) dX10_span_22 (fun H locs Y => ?_)
        refine W.eq (g2 := F0 m 25 ls [.int q7]) rfl ?_
        refine lv_if_eq (tgt := 38) hx hb dX10_span_25 (by decide) (fun c8 => ?_) (fun c8 => ?_)
        · replace h := Eq.trans (if_pos c8).symm h
          refine lv_bipush (v := -2) hx hb dX10_span_38 (by decide) ?_
          replace h := Option.some.inj h
          subst h
          exact q_reti X Y hr hlocks (Nat.le_of_ble_eq_true rfl) (Nat.le_of_ble_eq_true rfl) dX10_span_40
        · replace h := Eq.trans (if_neg c8).symm h
          refine lv_iload hx hb dX10_span_28 (lv_at hl 5 rfl) ?_
          refine lv_iload hx hb dX10_span_30 (lv_at hl 6 rfl) ?_
          replace h := xb h
          obtain ⟨q9, eq9, h⟩ := h
          refine q_callS X Y hl.1 (rest := []) (As := [.int p4, .int p5]) (c_X10_isRange l G z f p4 p5 _ eq9) cd_X10_isRange ls_X10_130 ⟨(Nat.le_of_ble_eq_true rfl), (Nat.le_of_ble_eq_true rfl)⟩ ⟨(Nat.le_of_ble_eq_true rfl), (Nat.le_of_ble_eq_true rfl)⟩ rfl rfl (Nat.le_of_ble_eq_true rfl) dX10_span_32 (fun H locs Y => ?_)
          refine W.eq (g2 := F0 m 35 ls [.int q9]) rfl ?_
          refine lv_if_ne (tgt := 41) hx hb dX10_span_35 (by decide) (fun c10 => ?_) (fun c10 => ?_)
          · replace h := Eq.trans (if_neg c10).symm h
            refine lv_aload hx hb dX10_span_41 (lv_at hl 0 rfl) ?_
            by_cases c11 : hKd f q4 = some 4
            · replace h := Eq.trans (if_pos c11).symm h
              replace h := xb h
              obtain ⟨q12, eq12, h⟩ := h
              refine q_callV X Y hl.1 (rest := []) (As := []) (c_X4_isForm l G z f q4 _ eq12) cd_X4_isForm lv_X10_215_4 c11 ⟨(Nat.le_of_ble_eq_true rfl), (Nat.le_of_ble_eq_true rfl)⟩ ⟨(Nat.le_of_ble_eq_true rfl), (Nat.le_of_ble_eq_true rfl)⟩ rfl rfl (Nat.le_of_ble_eq_true rfl) dX10_span_43 (fun H locs Y => ?_)
              refine W.eq (g2 := F0 m 46 ls [.int q12]) rfl ?_
              refine lv_if_eq (tgt := 67) hx hb dX10_span_46 (by decide) (fun c13 => ?_) (fun c13 => ?_)
              · replace h := Eq.trans (if_pos c13).symm h
                refine lv_null hx hb dX10_span_67 ?_
                refine W.widen (k := 2) (n := 25) (Nat.le_of_ble_eq_true rfl) (Nat.le_of_ble_eq_true rfl) ?_
                exact w_X10_span_68 X hr hlocks hin rs   z f h0 p1 p2 p3 p4 p5 q4 none _ _ _ h Y (lv_sub hl [1, 2, 3, 4, 5, 6, 0] rfl)
              · replace h := Eq.trans (if_neg c13).symm h
                refine lv_aload hx hb dX10_span_49 (lv_at hl 0 rfl) ?_
                refine lv_iload_n hx hb dX10_span_51 rfl (lv_at hl 3 rfl) ?_
                refine lv_i2l hx hb dX10_span_52 rfl ?_
                refine lv_iload_n hx hb dX10_span_53 rfl (lv_at hl 4 rfl) ?_
                refine lv_i2l hx hb dX10_span_54 rfl ?_
                refine lv_iload hx hb dX10_span_55 (lv_at hl 5 rfl) ?_
                refine lv_i2l hx hb dX10_span_57 rfl ?_
                refine lv_iload hx hb dX10_span_58 (lv_at hl 6 rfl) ?_
                refine lv_i2l hx hb dX10_span_60 rfl ?_
                by_cases c14 : hKd f q4 = some 4
                · replace h := Eq.trans (if_pos c14).symm h
                  replace h := xb h
                  obtain ⟨q15, eq15, h⟩ := h
                  refine q_callV X Y hl.1 (rest := []) (As := [.long p2.toInt64, .long p3.toInt64, .long p4.toInt64, .long p5.toInt64]) (c_X4_lessSpan l G z f q4 p2.toInt64 p3.toInt64 p4.toInt64 p5.toInt64 _ eq15) cd_X4_lessSpan lv_X10_259_4 c14 ⟨(Nat.le_of_ble_eq_true rfl), (Nat.le_of_ble_eq_true rfl)⟩ ⟨(Nat.le_of_ble_eq_true rfl), (Nat.le_of_ble_eq_true rfl)⟩ rfl rfl (Nat.le_of_ble_eq_true rfl) dX10_span_61 (fun H locs Y => ?_)
                  refine W.eq (g2 := F0 m 64 ls [va_rf q15.1]) rfl ?_
                  replace h := xb h
                  obtain ⟨o16, eo16, h⟩ := h
                  have eo16 := Option.some.inj eo16
                  rw [eo16]
                  refine W.widen (k := 2) (n := 25) (Nat.le_of_ble_eq_true rfl) (Nat.le_of_ble_eq_true rfl) ?_
                  refine lv_goto (tgt := 68) hx hb dX10_span_64 (by decide) ?_
                  refine W.widen (k := 2) (n := 25) (Nat.le_of_ble_eq_true rfl) (Nat.le_of_ble_eq_true rfl) ?_
                  exact w_X10_span_68 X hr hlocks hin rs   q15.2.1 q15.2.2 h0 p1 p2 p3 p4 p5 q4 o16 _ _ _ h Y (lv_sub hl [1, 2, 3, 4, 5, 6, 0] rfl)
                replace h := Eq.trans (if_neg c14).symm h
                cases h
            replace h := Eq.trans (if_neg c11).symm h
            cases h
          · replace h := Eq.trans (if_pos c10).symm h
            refine lv_bipush (v := -2) hx hb dX10_span_38 (by decide) ?_
            replace h := Option.some.inj h
            subst h
            exact q_reti X Y hr hlocks (Nat.le_of_ble_eq_true rfl) (Nat.le_of_ble_eq_true rfl) dX10_span_40
  replace h := Eq.trans (if_neg c1).symm h
  cases h
/-! NeverBelow.proofOf(I)LNeverBelow$Proof; -/
abbrev rm_X10_proofOf : Room := { frames := 0, cells := 0, slots := 0, locals := 0 }
def F_X10_proofOf_21 (f : xHp)    : Option (Option Nat) := some none
def F_X10_proofOf (f : xHp) (h0 : Nat) (p1 : Int32) : Option (Option Nat) := if p1 < 0 then (F_X10_proofOf_21 f) else (Option.bind (hI f h0 [(9, 8)]) fun v2 => if v2 ≤ p1 then (F_X10_proofOf_21 f) else (Option.bind (hN f h0 [(9, 3)]) fun v4 => Option.bind (hRld f v4 p1) fun v5 => some v5))
set_option maxRecDepth 100000 in
set_option maxHeartbeats 4000000 in
theorem w_X10_proofOf_21 {p : Program} {l : Launch} {e : Env} {s : State} {m : MethodId} {args : Array Value} {below : List Frame} {meth : Method} {c : Code} {G : xG} {z : Nat} {f : xHp} (X : xC G p m c s args RX10 cX10_proofOf 2) (hr : meth.sig.returnType = (some (.object "NeverBelow$Proof"))) (hlocks : meth.locks = false) (hin : meth.name = yX10_proofOf.name) (rs : Option Nat)   (H : Heap) (locs : List Loc) (ls : Array Slot) (h : F_X10_proofOf_21 f   = some rs) (Y : xY G z f s H locs) (hl : lv_has ls 2 []) : W p l e rm_X10_proofOf s m args below meth c H locs 0 0 (MQ below (xQ G (some (va_rf rs)) z f) args s rm_X10_proofOf.cells rm_X10_proofOf.slots (xA G)) (F0 m 21 ls []) := by
  have hx := X.1.1
  have hb := X.1.2.1
  unfold F_X10_proofOf_21 at h
  refine lv_null hx hb dX10_proofOf_21 ?_
  replace h := Option.some.inj h
  subst h
  exact q_reta X Y hr (by first | exact Or.inl ⟨_, rfl⟩ | exact Or.inr ⟨_, rfl⟩) hlocks (Nat.le_of_ble_eq_true rfl) (Nat.le_of_ble_eq_true rfl) dX10_proofOf_22
set_option maxRecDepth 100000 in
set_option maxHeartbeats 4000000 in
theorem c_X10_proofOf (l : Launch) (G : xG) (z : Nat) (f : xHp) (h0 : Nat) (p1 : Int32) (rs : Option Nat) (h : F_X10_proofOf f h0 p1 = some rs) : xM G l yX10_proofOf cX10_proofOf 2 (some (.object "NeverBelow$Proof")) rm_X10_proofOf [.ref h0, .int p1] z f (some (va_rf rs)) z f := by
  refine xM_of (by decide) (Nat.le_of_ble_eq_true rfl) ?_
  intro p e s m below meth c ls X hr hlocks hin Y hl
  have hl : lv_has ls 2 [(0, .ref h0), (1, .int p1)] := hl
  have hx := X.1.1
  have hb := X.1.2.1
  unfold F_X10_proofOf at h
  refine lv_iload_n hx hb dX10_proofOf_0 rfl (lv_at hl 1 rfl) ?_
  refine lv_if_lt (tgt := 21) hx hb dX10_proofOf_1 (by decide) (fun c1 => ?_) (fun c1 => ?_)
  · replace h := Eq.trans (if_pos c1).symm h
    refine W.widen (k := 0) (n := 0) (Nat.le_of_ble_eq_true rfl) (Nat.le_of_ble_eq_true rfl) ?_
    exact w_X10_proofOf_21 X hr hlocks hin rs    _ _ _ h Y (lv_sub hl [] rfl)
  · replace h := Eq.trans (if_neg c1).symm h
    refine lv_iload_n hx hb dX10_proofOf_4 rfl (lv_at hl 1 rfl) ?_
    refine lv_aload_n hx hb dX10_proofOf_5 rfl (lv_at hl 0 rfl) ?_
    replace h := xb h
    obtain ⟨v2, ev2, h⟩ := h
    refine q_getI X Y fl_X10_308 ev2 dX10_proofOf_6 ?_
    refine lv_icmp_ge (tgt := 21) hx hb dX10_proofOf_9 (by decide) (fun c3 => ?_) (fun c3 => ?_)
    · replace h := Eq.trans (if_pos c3).symm h
      refine W.widen (k := 0) (n := 0) (Nat.le_of_ble_eq_true rfl) (Nat.le_of_ble_eq_true rfl) ?_
      exact w_X10_proofOf_21 X hr hlocks hin rs    _ _ _ h Y (lv_sub hl [] rfl)
    · replace h := Eq.trans (if_neg c3).symm h
      refine lv_aload_n hx hb dX10_proofOf_12 rfl (lv_at hl 0 rfl) ?_
      replace h := xb h
      obtain ⟨v4, ev4, h⟩ := h
      refine q_getN X Y fl_X10_29 ev4 dX10_proofOf_13 ?_
      refine lv_iload_n hx hb dX10_proofOf_16 rfl (lv_at hl 1 rfl) ?_
      replace h := xb h
      obtain ⟨v5, ev5, h⟩ := h
      refine q_aald X Y ev5 dX10_proofOf_17 ?_
      refine lv_goto (tgt := 22) hx hb dX10_proofOf_18 (by decide) ?_
      replace h := Option.some.inj h
      subst h
      exact q_reta X Y hr (by first | exact Or.inl ⟨_, rfl⟩ | exact Or.inr ⟨_, rfl⟩) hlocks (Nat.le_of_ble_eq_true rfl) (Nat.le_of_ble_eq_true rfl) dX10_proofOf_22
/-! NeverBelow$CornersProof.boxNumber()I -/
abbrev rm_X0_boxNumber : Room := { frames := 0, cells := 0, slots := 0, locals := 0 }
def F_X0_boxNumber (f : xHp) (h0 : Nat) : Option (Int32) := Option.bind (hI f h0 [(0, 4), (3, 0)]) fun v1 => some v1
set_option maxRecDepth 100000 in
set_option maxHeartbeats 4000000 in
theorem c_X0_boxNumber (l : Launch) (G : xG) (z : Nat) (f : xHp) (h0 : Nat) (rs : Int32) (h : F_X0_boxNumber f h0 = some rs) : xM G l yX0_boxNumber cX0_boxNumber 1 (some .int) rm_X0_boxNumber [.ref h0] z f (some (.int rs)) z f := by
  refine xM_of (by decide) (Nat.le_of_ble_eq_true rfl) ?_
  intro p e s m below meth c ls X hr hlocks hin Y hl
  have hl : lv_has ls 1 [(0, .ref h0)] := hl
  have hx := X.1.1
  have hb := X.1.2.1
  unfold F_X0_boxNumber at h
  refine lv_aload_n hx hb dX0_boxNumber_0 rfl (lv_at hl 0 rfl) ?_
  replace h := xb h
  obtain ⟨v1, ev1, h⟩ := h
  refine q_getI X Y fl_X0_9 ev1 dX0_boxNumber_1 ?_
  replace h := Option.some.inj h
  subst h
  exact q_reti X Y hr hlocks (Nat.le_of_ble_eq_true rfl) (Nat.le_of_ble_eq_true rfl) dX0_boxNumber_4
/-! NeverBelow$CornersProof.pieces()I -/
abbrev rm_X0_pieces : Room := { frames := 0, cells := 0, slots := 0, locals := 0 }
def F_X0_pieces (f : xHp) (h0 : Nat) : Option (Int32) := some (0 : Int32)
set_option maxRecDepth 100000 in
set_option maxHeartbeats 4000000 in
theorem c_X0_pieces (l : Launch) (G : xG) (z : Nat) (f : xHp) (h0 : Nat) (rs : Int32) (h : F_X0_pieces f h0 = some rs) : xM G l yX0_pieces cX0_pieces 1 (some .int) rm_X0_pieces [.ref h0] z f (some (.int rs)) z f := by
  refine xM_of (by decide) (Nat.le_of_ble_eq_true rfl) ?_
  intro p e s m below meth c ls X hr hlocks hin Y hl
  have hl : lv_has ls 1 [(0, .ref h0)] := hl
  have hx := X.1.1
  have hb := X.1.2.1
  unfold F_X0_pieces at h
  refine lv_iconst (v := 0) hx hb dX0_pieces_0 (by decide) ?_
  replace h := Option.some.inj h
  subst h
  exact q_reti X Y hr hlocks (Nat.le_of_ble_eq_true rfl) (Nat.le_of_ble_eq_true rfl) dX0_pieces_1
/-! NeverBelow$PartsProof.pieces()I -/
abbrev rm_X3_pieces : Room := { frames := 0, cells := 0, slots := 0, locals := 0 }
def F_X3_pieces (f : xHp) (h0 : Nat) : Option (Int32) := Option.bind (hN f h0 [(3, 5)]) fun v1 => Option.bind (hLen f v1) fun v2 => some (v2 / (4 : Int32))
set_option maxRecDepth 100000 in
set_option maxHeartbeats 4000000 in
theorem c_X3_pieces (l : Launch) (G : xG) (z : Nat) (f : xHp) (h0 : Nat) (rs : Int32) (h : F_X3_pieces f h0 = some rs) : xM G l yX3_pieces cX3_pieces 1 (some .int) rm_X3_pieces [.ref h0] z f (some (.int rs)) z f := by
  refine xM_of (by decide) (Nat.le_of_ble_eq_true rfl) ?_
  intro p e s m below meth c ls X hr hlocks hin Y hl
  have hl : lv_has ls 1 [(0, .ref h0)] := hl
  have hx := X.1.1
  have hb := X.1.2.1
  unfold F_X3_pieces at h
  refine lv_aload_n hx hb dX3_pieces_0 rfl (lv_at hl 0 rfl) ?_
  replace h := xb h
  obtain ⟨v1, ev1, h⟩ := h
  refine q_getN X Y fl_X3_9 ev1 dX3_pieces_1 ?_
  replace h := xb h
  obtain ⟨v2, ev2, h⟩ := h
  refine q_alen X Y ev2 dX3_pieces_4 ?_
  refine lv_iconst (v := 4) hx hb dX3_pieces_5 (by decide) ?_
  refine lv_idiv hx hb dX3_pieces_6 (by decide) ?_
  replace h := Option.some.inj h
  subst h
  exact q_reti X Y hr hlocks (Nat.le_of_ble_eq_true rfl) (Nat.le_of_ble_eq_true rfl) dX3_pieces_7
/-! NeverBelow$Proof.boxNumber()I -/
abbrev rm_X5_boxNumber : Room := { frames := 0, cells := 0, slots := 0, locals := 0 }
def F_X5_boxNumber (f : xHp) (h0 : Nat) : Option (Int32) := some (-9 : Int32)
set_option maxRecDepth 100000 in
set_option maxHeartbeats 4000000 in
theorem c_X5_boxNumber (l : Launch) (G : xG) (z : Nat) (f : xHp) (h0 : Nat) (rs : Int32) (h : F_X5_boxNumber f h0 = some rs) : xM G l yX5_boxNumber cX5_boxNumber 1 (some .int) rm_X5_boxNumber [.ref h0] z f (some (.int rs)) z f := by
  refine xM_of (by decide) (Nat.le_of_ble_eq_true rfl) ?_
  intro p e s m below meth c ls X hr hlocks hin Y hl
  have hl : lv_has ls 1 [(0, .ref h0)] := hl
  have hx := X.1.1
  have hb := X.1.2.1
  unfold F_X5_boxNumber at h
  refine lv_bipush (v := -9) hx hb dX5_boxNumber_0 (by decide) ?_
  replace h := Option.some.inj h
  subst h
  exact q_reti X Y hr hlocks (Nat.le_of_ble_eq_true rfl) (Nat.le_of_ble_eq_true rfl) dX5_boxNumber_2
/-! NeverBelow$SpanProof.spanFrom()I -/
abbrev rm_X7_spanFrom : Room := { frames := 0, cells := 0, slots := 0, locals := 0 }
def F_X7_spanFrom (f : xHp) (h0 : Nat) : Option (Int32) := Option.bind (hN f h0 [(6, 3)]) fun v1 => Option.bind (hLen f v1) fun v2 => some (v2 - (4 : Int32))
set_option maxRecDepth 100000 in
set_option maxHeartbeats 4000000 in
theorem c_X7_spanFrom (l : Launch) (G : xG) (z : Nat) (f : xHp) (h0 : Nat) (rs : Int32) (h : F_X7_spanFrom f h0 = some rs) : xM G l yX7_spanFrom cX7_spanFrom 1 (some .int) rm_X7_spanFrom [.ref h0] z f (some (.int rs)) z f := by
  refine xM_of (by decide) (Nat.le_of_ble_eq_true rfl) ?_
  intro p e s m below meth c ls X hr hlocks hin Y hl
  have hl : lv_has ls 1 [(0, .ref h0)] := hl
  have hx := X.1.1
  have hb := X.1.2.1
  unfold F_X7_spanFrom at h
  refine lv_aload_n hx hb dX7_spanFrom_0 rfl (lv_at hl 0 rfl) ?_
  replace h := xb h
  obtain ⟨v1, ev1, h⟩ := h
  refine q_getN X Y fl_X7_9 ev1 dX7_spanFrom_1 ?_
  replace h := xb h
  obtain ⟨v2, ev2, h⟩ := h
  refine q_alen X Y ev2 dX7_spanFrom_4 ?_
  refine lv_iconst (v := 4) hx hb dX7_spanFrom_5 (by decide) ?_
  refine lv_isub hx hb dX7_spanFrom_6 ?_
  replace h := Option.some.inj h
  subst h
  exact q_reti X Y hr hlocks (Nat.le_of_ble_eq_true rfl) (Nat.le_of_ble_eq_true rfl) dX7_spanFrom_7
/-! NeverBelow$SpanProof.pieces()I -/
abbrev rm_X7_pieces : Room := { frames := 1, cells := 0, slots := 0, locals := 20 }
def F_X7_pieces (f : xHp) (h0 : Nat) : Option (Int32) := if hKd f h0 = some 6 then (Option.bind (F_X7_spanFrom f h0) fun q2 => some (q2 / (5 : Int32))) else none
set_option maxRecDepth 100000 in
set_option maxHeartbeats 4000000 in
theorem c_X7_pieces (l : Launch) (G : xG) (z : Nat) (f : xHp) (h0 : Nat) (rs : Int32) (h : F_X7_pieces f h0 = some rs) : xM G l yX7_pieces cX7_pieces 1 (some .int) rm_X7_pieces [.ref h0] z f (some (.int rs)) z f := by
  refine xM_of (by decide) (Nat.le_of_ble_eq_true rfl) ?_
  intro p e s m below meth c ls X hr hlocks hin Y hl
  have hl : lv_has ls 1 [(0, .ref h0)] := hl
  have hx := X.1.1
  have hb := X.1.2.1
  unfold F_X7_pieces at h
  refine lv_aload_n hx hb dX7_pieces_0 rfl (lv_at hl 0 rfl) ?_
  by_cases c1 : hKd f h0 = some 6
  · replace h := Eq.trans (if_pos c1).symm h
    replace h := xb h
    obtain ⟨q2, eq2, h⟩ := h
    refine q_callV X Y hl.1 (rest := []) (As := []) (c_X7_spanFrom l G z f h0 _ eq2) cd_X7_spanFrom lv_X7_15_6 c1 ⟨(Nat.le_of_ble_eq_true rfl), (Nat.le_of_ble_eq_true rfl)⟩ ⟨(Nat.le_of_ble_eq_true rfl), (Nat.le_of_ble_eq_true rfl)⟩ rfl rfl (Nat.le_of_ble_eq_true rfl) dX7_pieces_1 (fun H locs Y => ?_)
    refine W.eq (g2 := F0 m 4 ls [.int q2]) rfl ?_
    refine lv_iconst (v := 5) hx hb dX7_pieces_4 (by decide) ?_
    refine lv_idiv hx hb dX7_pieces_5 (by decide) ?_
    replace h := Option.some.inj h
    subst h
    exact q_reti X Y hr hlocks (Nat.le_of_ble_eq_true rfl) (Nat.le_of_ble_eq_true rfl) dX7_pieces_6
  replace h := Eq.trans (if_neg c1).symm h
  cases h
/-! NeverBelow$SquaresProof.pieces()I -/
abbrev rm_X8_pieces : Room := { frames := 0, cells := 0, slots := 0, locals := 0 }
def F_X8_pieces (f : xHp) (h0 : Nat) : Option (Int32) := Option.bind (hN f h0 [(6, 3), (7, 3)]) fun v1 => Option.bind (hLen f v1) fun v2 => some (v2 / (5 : Int32))
set_option maxRecDepth 100000 in
set_option maxHeartbeats 4000000 in
theorem c_X8_pieces (l : Launch) (G : xG) (z : Nat) (f : xHp) (h0 : Nat) (rs : Int32) (h : F_X8_pieces f h0 = some rs) : xM G l yX8_pieces cX8_pieces 1 (some .int) rm_X8_pieces [.ref h0] z f (some (.int rs)) z f := by
  refine xM_of (by decide) (Nat.le_of_ble_eq_true rfl) ?_
  intro p e s m below meth c ls X hr hlocks hin Y hl
  have hl : lv_has ls 1 [(0, .ref h0)] := hl
  have hx := X.1.1
  have hb := X.1.2.1
  unfold F_X8_pieces at h
  refine lv_aload_n hx hb dX8_pieces_0 rfl (lv_at hl 0 rfl) ?_
  replace h := xb h
  obtain ⟨v1, ev1, h⟩ := h
  refine q_getN X Y fl_X8_9 ev1 dX8_pieces_1 ?_
  replace h := xb h
  obtain ⟨v2, ev2, h⟩ := h
  refine q_alen X Y ev2 dX8_pieces_4 ?_
  refine lv_iconst (v := 5) hx hb dX8_pieces_5 (by decide) ?_
  refine lv_idiv hx hb dX8_pieces_6 (by decide) ?_
  replace h := Option.some.inj h
  subst h
  exact q_reti X Y hr hlocks (Nat.le_of_ble_eq_true rfl) (Nat.le_of_ble_eq_true rfl) dX8_pieces_7
/-! NeverBelow.proof(II)I -/
abbrev rm_X10_proof : Room := { frames := 2, cells := 0, slots := 0, locals := 40 }
def F_X10_proof (f : xHp) (h0 : Nat) (p1 : Int32) (p2 : Int32) : Option (Int32) := if hKd f h0 = some 9 then (Option.bind (F_X10_proofOf f h0 p1) fun q2 => xnul q2 (some (-1 : Int32)) (fun q4 => if p2 = 0 then Option.bind (hI f q4 [(0, 0), (3, 2), (6, 0), (7, 0)]) fun v6 => some v6 else if p2 = 1 then Option.bind (hI f q4 [(0, 2), (3, 4), (6, 2), (7, 2)]) fun v8 => some v8 else if p2 = 2 then Option.bind (hN f q4 [(0, 3), (3, 5), (6, 3), (7, 3)]) fun v10 => Option.bind (hLen f v10) fun v11 => some v11 else if p2 = 3 then if hKd f q4 = some 0 then (Option.bind (F_X0_pieces f q4) fun q14 => some q14) else if hKd f q4 = some 3 then (Option.bind (F_X3_pieces f q4) fun q16 => some q16) else if hKd f q4 = some 6 then (Option.bind (F_X7_pieces f q4) fun q18 => some q18) else if hKd f q4 = some 7 then (Option.bind (F_X8_pieces f q4) fun q20 => some q20) else none else if p2 = 4 then if hKd f q4 = some 0 then (Option.bind (F_X0_boxNumber f q4) fun q23 => some q23) else if hKd f q4 = some 3 then (Option.bind (F_X0_boxNumber f q4) fun q25 => some q25) else if hKd f q4 = some 6 then (Option.bind (F_X5_boxNumber f q4) fun q27 => some q27) else if hKd f q4 = some 7 then (Option.bind (F_X5_boxNumber f q4) fun q29 => some q29) else none else some (-2 : Int32))) else none
set_option maxRecDepth 100000 in
set_option maxHeartbeats 4000000 in
theorem c_X10_proof (l : Launch) (G : xG) (z : Nat) (f : xHp) (h0 : Nat) (p1 : Int32) (p2 : Int32) (rs : Int32) (h : F_X10_proof f h0 p1 p2 = some rs) : xM G l yX10_proof cX10_proof 4 (some .int) rm_X10_proof [.ref h0, .int p1, .int p2] z f (some (.int rs)) z f := by
  refine xM_of (by decide) (Nat.le_of_ble_eq_true rfl) ?_
  intro p e s m below meth c ls X hr hlocks hin Y hl
  have hl : lv_has ls 4 [(0, .ref h0), (1, .int p1), (2, .int p2)] := hl
  have hx := X.1.1
  have hb := X.1.2.1
  unfold F_X10_proof at h
  refine lv_aload_n hx hb dX10_proof_0 rfl (lv_at hl 0 rfl) ?_
  refine lv_iload_n hx hb dX10_proof_1 rfl (lv_at hl 1 rfl) ?_
  by_cases c1 : hKd f h0 = some 9
  · replace h := Eq.trans (if_pos c1).symm h
    replace h := xb h
    obtain ⟨q2, eq2, h⟩ := h
    refine q_callV X Y hl.1 (rest := []) (As := [.int p1]) (c_X10_proofOf l G z f h0 p1 _ eq2) cd_X10_proofOf lv_X10_268_9 c1 ⟨(Nat.le_of_ble_eq_true rfl), (Nat.le_of_ble_eq_true rfl)⟩ ⟨(Nat.le_of_ble_eq_true rfl), (Nat.le_of_ble_eq_true rfl)⟩ rfl rfl (Nat.le_of_ble_eq_true rfl) dX10_proof_2 (fun H locs Y => ?_)
    refine W.eq (g2 := F0 m 5 ls [va_rf q2]) rfl ?_
    refine q_astore_n (lv' := [(3, va_rf q2), (0, .ref h0), (1, .int p1), (2, .int p2)]) hx hb dX10_proof_5 rfl hl (by decide) rfl (fun ls hl => ?_)
    refine q_aload_n hx hb dX10_proof_6 rfl (lv_at hl 0 rfl) ?_
    refine q_ifnonnull (tgt := 12) hx hb dX10_proof_7 (by decide) (fun c3 => ?_) (fun q4 eq4 => ?_)
    · replace h := xn0 h c3
      subst c3
      have hl : lv_has ls 4 [(3, .null), (0, .ref h0), (1, .int p1), (2, .int p2)] := hl
      refine lv_iconst (v := -1) hx hb dX10_proof_10 (by decide) ?_
      replace h := Option.some.inj h
      subst h
      exact q_reti X Y hr hlocks (Nat.le_of_ble_eq_true rfl) (Nat.le_of_ble_eq_true rfl) dX10_proof_11
    · replace h := xn1 h eq4
      subst eq4
      have hl : lv_has ls 4 [(3, .ref q4), (0, .ref h0), (1, .int p1), (2, .int p2)] := hl
      refine lv_iload_n hx hb dX10_proof_12 rfl (lv_at hl 3 rfl) ?_
      by_cases c5 : p2 = 0
      · replace h := Eq.trans (if_pos c5).symm h
        refine lv_tableIn (tgt := 48) hx hb dX10_proof_13 (by rw [c5]; decide) (by rw [c5]; decide) (by rw [c5]; rfl) (by decide) ?_
        refine lv_aload_n hx hb dX10_proof_48 rfl (lv_at hl 0 rfl) ?_
        replace h := xb h
        obtain ⟨v6, ev6, h⟩ := h
        refine q_getI X Y fl_X10_272 ev6 dX10_proof_49 ?_
        replace h := Option.some.inj h
        subst h
        exact q_reti X Y hr hlocks (Nat.le_of_ble_eq_true rfl) (Nat.le_of_ble_eq_true rfl) dX10_proof_52
      replace h := Eq.trans (if_neg c5).symm h
      by_cases c7 : p2 = 1
      · replace h := Eq.trans (if_pos c7).symm h
        refine lv_tableIn (tgt := 53) hx hb dX10_proof_13 (by rw [c7]; decide) (by rw [c7]; decide) (by rw [c7]; rfl) (by decide) ?_
        refine lv_aload_n hx hb dX10_proof_53 rfl (lv_at hl 0 rfl) ?_
        replace h := xb h
        obtain ⟨v8, ev8, h⟩ := h
        refine q_getI X Y fl_X10_275 ev8 dX10_proof_54 ?_
        replace h := Option.some.inj h
        subst h
        exact q_reti X Y hr hlocks (Nat.le_of_ble_eq_true rfl) (Nat.le_of_ble_eq_true rfl) dX10_proof_57
      replace h := Eq.trans (if_neg c7).symm h
      by_cases c9 : p2 = 2
      · replace h := Eq.trans (if_pos c9).symm h
        refine lv_tableIn (tgt := 58) hx hb dX10_proof_13 (by rw [c9]; decide) (by rw [c9]; decide) (by rw [c9]; rfl) (by decide) ?_
        refine lv_aload_n hx hb dX10_proof_58 rfl (lv_at hl 0 rfl) ?_
        replace h := xb h
        obtain ⟨v10, ev10, h⟩ := h
        refine q_getN X Y fl_X10_276 ev10 dX10_proof_59 ?_
        replace h := xb h
        obtain ⟨v11, ev11, h⟩ := h
        refine q_alen X Y ev11 dX10_proof_62 ?_
        replace h := Option.some.inj h
        subst h
        exact q_reti X Y hr hlocks (Nat.le_of_ble_eq_true rfl) (Nat.le_of_ble_eq_true rfl) dX10_proof_63
      replace h := Eq.trans (if_neg c9).symm h
      by_cases c12 : p2 = 3
      · replace h := Eq.trans (if_pos c12).symm h
        refine lv_tableIn (tgt := 64) hx hb dX10_proof_13 (by rw [c12]; decide) (by rw [c12]; decide) (by rw [c12]; rfl) (by decide) ?_
        refine lv_aload_n hx hb dX10_proof_64 rfl (lv_at hl 0 rfl) ?_
        by_cases c13 : hKd f q4 = some 0
        · replace h := Eq.trans (if_pos c13).symm h
          replace h := xb h
          obtain ⟨q14, eq14, h⟩ := h
          refine q_callU X Y hl.1 (rest := []) (As := []) (c_X0_pieces l G z f q4 _ eq14) cd_X0_pieces lu_X10_279_0 c13 ⟨(Nat.le_of_ble_eq_true rfl), (Nat.le_of_ble_eq_true rfl)⟩ ⟨(Nat.le_of_ble_eq_true rfl), (Nat.le_of_ble_eq_true rfl)⟩ rfl rfl (Nat.le_of_ble_eq_true rfl) dX10_proof_65 (fun H locs Y => ?_)
          refine W.eq (g2 := F0 m 68 ls [.int q14]) rfl ?_
          replace h := Option.some.inj h
          subst h
          exact q_reti X Y hr hlocks (Nat.le_of_ble_eq_true rfl) (Nat.le_of_ble_eq_true rfl) dX10_proof_68
        replace h := Eq.trans (if_neg c13).symm h
        by_cases c15 : hKd f q4 = some 3
        · replace h := Eq.trans (if_pos c15).symm h
          replace h := xb h
          obtain ⟨q16, eq16, h⟩ := h
          refine q_callU X Y hl.1 (rest := []) (As := []) (c_X3_pieces l G z f q4 _ eq16) cd_X3_pieces lu_X10_279_3 c15 ⟨(Nat.le_of_ble_eq_true rfl), (Nat.le_of_ble_eq_true rfl)⟩ ⟨(Nat.le_of_ble_eq_true rfl), (Nat.le_of_ble_eq_true rfl)⟩ rfl rfl (Nat.le_of_ble_eq_true rfl) dX10_proof_65 (fun H locs Y => ?_)
          refine W.eq (g2 := F0 m 68 ls [.int q16]) rfl ?_
          replace h := Option.some.inj h
          subst h
          exact q_reti X Y hr hlocks (Nat.le_of_ble_eq_true rfl) (Nat.le_of_ble_eq_true rfl) dX10_proof_68
        replace h := Eq.trans (if_neg c15).symm h
        by_cases c17 : hKd f q4 = some 6
        · replace h := Eq.trans (if_pos c17).symm h
          replace h := xb h
          obtain ⟨q18, eq18, h⟩ := h
          refine q_callU X Y hl.1 (rest := []) (As := []) (c_X7_pieces l G z f q4 _ eq18) cd_X7_pieces lu_X10_279_6 c17 ⟨(Nat.le_of_ble_eq_true rfl), (Nat.le_of_ble_eq_true rfl)⟩ ⟨(Nat.le_of_ble_eq_true rfl), (Nat.le_of_ble_eq_true rfl)⟩ rfl rfl (Nat.le_of_ble_eq_true rfl) dX10_proof_65 (fun H locs Y => ?_)
          refine W.eq (g2 := F0 m 68 ls [.int q18]) rfl ?_
          replace h := Option.some.inj h
          subst h
          exact q_reti X Y hr hlocks (Nat.le_of_ble_eq_true rfl) (Nat.le_of_ble_eq_true rfl) dX10_proof_68
        replace h := Eq.trans (if_neg c17).symm h
        by_cases c19 : hKd f q4 = some 7
        · replace h := Eq.trans (if_pos c19).symm h
          replace h := xb h
          obtain ⟨q20, eq20, h⟩ := h
          refine q_callU X Y hl.1 (rest := []) (As := []) (c_X8_pieces l G z f q4 _ eq20) cd_X8_pieces lu_X10_279_7 c19 ⟨(Nat.le_of_ble_eq_true rfl), (Nat.le_of_ble_eq_true rfl)⟩ ⟨(Nat.le_of_ble_eq_true rfl), (Nat.le_of_ble_eq_true rfl)⟩ rfl rfl (Nat.le_of_ble_eq_true rfl) dX10_proof_65 (fun H locs Y => ?_)
          refine W.eq (g2 := F0 m 68 ls [.int q20]) rfl ?_
          replace h := Option.some.inj h
          subst h
          exact q_reti X Y hr hlocks (Nat.le_of_ble_eq_true rfl) (Nat.le_of_ble_eq_true rfl) dX10_proof_68
        replace h := Eq.trans (if_neg c19).symm h
        cases h
      replace h := Eq.trans (if_neg c12).symm h
      by_cases c21 : p2 = 4
      · replace h := Eq.trans (if_pos c21).symm h
        refine lv_tableIn (tgt := 69) hx hb dX10_proof_13 (by rw [c21]; decide) (by rw [c21]; decide) (by rw [c21]; rfl) (by decide) ?_
        refine lv_aload_n hx hb dX10_proof_69 rfl (lv_at hl 0 rfl) ?_
        by_cases c22 : hKd f q4 = some 0
        · replace h := Eq.trans (if_pos c22).symm h
          replace h := xb h
          obtain ⟨q23, eq23, h⟩ := h
          refine q_callU X Y hl.1 (rest := []) (As := []) (c_X0_boxNumber l G z f q4 _ eq23) cd_X0_boxNumber lu_X10_283_0 c22 ⟨(Nat.le_of_ble_eq_true rfl), (Nat.le_of_ble_eq_true rfl)⟩ ⟨(Nat.le_of_ble_eq_true rfl), (Nat.le_of_ble_eq_true rfl)⟩ rfl rfl (Nat.le_of_ble_eq_true rfl) dX10_proof_70 (fun H locs Y => ?_)
          refine W.eq (g2 := F0 m 73 ls [.int q23]) rfl ?_
          replace h := Option.some.inj h
          subst h
          exact q_reti X Y hr hlocks (Nat.le_of_ble_eq_true rfl) (Nat.le_of_ble_eq_true rfl) dX10_proof_73
        replace h := Eq.trans (if_neg c22).symm h
        by_cases c24 : hKd f q4 = some 3
        · replace h := Eq.trans (if_pos c24).symm h
          replace h := xb h
          obtain ⟨q25, eq25, h⟩ := h
          refine q_callU X Y hl.1 (rest := []) (As := []) (c_X0_boxNumber l G z f q4 _ eq25) cd_X0_boxNumber lu_X10_283_3 c24 ⟨(Nat.le_of_ble_eq_true rfl), (Nat.le_of_ble_eq_true rfl)⟩ ⟨(Nat.le_of_ble_eq_true rfl), (Nat.le_of_ble_eq_true rfl)⟩ rfl rfl (Nat.le_of_ble_eq_true rfl) dX10_proof_70 (fun H locs Y => ?_)
          refine W.eq (g2 := F0 m 73 ls [.int q25]) rfl ?_
          replace h := Option.some.inj h
          subst h
          exact q_reti X Y hr hlocks (Nat.le_of_ble_eq_true rfl) (Nat.le_of_ble_eq_true rfl) dX10_proof_73
        replace h := Eq.trans (if_neg c24).symm h
        by_cases c26 : hKd f q4 = some 6
        · replace h := Eq.trans (if_pos c26).symm h
          replace h := xb h
          obtain ⟨q27, eq27, h⟩ := h
          refine q_callU X Y hl.1 (rest := []) (As := []) (c_X5_boxNumber l G z f q4 _ eq27) cd_X5_boxNumber lu_X10_283_6 c26 ⟨(Nat.le_of_ble_eq_true rfl), (Nat.le_of_ble_eq_true rfl)⟩ ⟨(Nat.le_of_ble_eq_true rfl), (Nat.le_of_ble_eq_true rfl)⟩ rfl rfl (Nat.le_of_ble_eq_true rfl) dX10_proof_70 (fun H locs Y => ?_)
          refine W.eq (g2 := F0 m 73 ls [.int q27]) rfl ?_
          replace h := Option.some.inj h
          subst h
          exact q_reti X Y hr hlocks (Nat.le_of_ble_eq_true rfl) (Nat.le_of_ble_eq_true rfl) dX10_proof_73
        replace h := Eq.trans (if_neg c26).symm h
        by_cases c28 : hKd f q4 = some 7
        · replace h := Eq.trans (if_pos c28).symm h
          replace h := xb h
          obtain ⟨q29, eq29, h⟩ := h
          refine q_callU X Y hl.1 (rest := []) (As := []) (c_X5_boxNumber l G z f q4 _ eq29) cd_X5_boxNumber lu_X10_283_7 c28 ⟨(Nat.le_of_ble_eq_true rfl), (Nat.le_of_ble_eq_true rfl)⟩ ⟨(Nat.le_of_ble_eq_true rfl), (Nat.le_of_ble_eq_true rfl)⟩ rfl rfl (Nat.le_of_ble_eq_true rfl) dX10_proof_70 (fun H locs Y => ?_)
          refine W.eq (g2 := F0 m 73 ls [.int q29]) rfl ?_
          replace h := Option.some.inj h
          subst h
          exact q_reti X Y hr hlocks (Nat.le_of_ble_eq_true rfl) (Nat.le_of_ble_eq_true rfl) dX10_proof_73
        replace h := Eq.trans (if_neg c28).symm h
        cases h
      replace h := Eq.trans (if_neg c21).symm h
      have nc5 := xneI (k := 0) (by decide) c5
      have nc7 := xneI (k := 1) (by decide) c7
      have nc9 := xneI (k := 2) (by decide) c9
      have nc12 := xneI (k := 3) (by decide) c12
      have nc21 := xneI (k := 4) (by decide) c21
      refine lv_tableOut (tgt := 74) hx hb dX10_proof_13 (by omega) (by decide) ?_
      refine lv_bipush (v := -2) hx hb dX10_proof_74 (by decide) ?_
      replace h := Option.some.inj h
      subst h
      exact q_reti X Y hr hlocks (Nat.le_of_ble_eq_true rfl) (Nat.le_of_ble_eq_true rfl) dX10_proof_76
  replace h := Eq.trans (if_neg c1).symm h
  cases h
/-! NeverBelow$Proof.has(I)Z -/
abbrev rm_X5_has : Room := { frames := 0, cells := 0, slots := 0, locals := 0 }
def F_X5_has (f : xHp) (h0 : Nat) (p1 : Int32) : Option (Int32) := if p1 < 0 then (some (0 : Int32)) else (Option.bind (hN f h0 [(0, 3), (3, 5), (6, 3), (7, 3)]) fun v2 => Option.bind (hLen f v2) fun v3 => if v3 ≤ p1 then (some (0 : Int32)) else (some (1 : Int32)))
set_option maxRecDepth 100000 in
set_option maxHeartbeats 4000000 in
theorem c_X5_has (l : Launch) (G : xG) (z : Nat) (f : xHp) (h0 : Nat) (p1 : Int32) (rs : Int32) (h : F_X5_has f h0 p1 = some rs) : xM G l yX5_has cX5_has 2 (some .boolean) rm_X5_has [.ref h0, .int p1] z f (some (.int rs)) z f := by
  refine xM_of (by decide) (Nat.le_of_ble_eq_true rfl) ?_
  intro p e s m below meth c ls X hr hlocks hin Y hl
  have hl : lv_has ls 2 [(0, .ref h0), (1, .int p1)] := hl
  have hx := X.1.1
  have hb := X.1.2.1
  unfold F_X5_has at h
  refine lv_iload_n hx hb dX5_has_0 rfl (lv_at hl 1 rfl) ?_
  refine lv_if_lt (tgt := 17) hx hb dX5_has_1 (by decide) (fun c1 => ?_) (fun c1 => ?_)
  · replace h := Eq.trans (if_pos c1).symm h
    refine lv_iconst (v := 0) hx hb dX5_has_17 (by decide) ?_
    replace h := Option.some.inj h
    subst h
    exact q_retz (v := (0 : Int32)) X Y hr hlocks rfl (Nat.le_of_ble_eq_true rfl) (Nat.le_of_ble_eq_true rfl) dX5_has_18
  · replace h := Eq.trans (if_neg c1).symm h
    refine lv_iload_n hx hb dX5_has_4 rfl (lv_at hl 1 rfl) ?_
    refine lv_aload_n hx hb dX5_has_5 rfl (lv_at hl 0 rfl) ?_
    replace h := xb h
    obtain ⟨v2, ev2, h⟩ := h
    refine q_getN X Y fl_X5_22 ev2 dX5_has_6 ?_
    replace h := xb h
    obtain ⟨v3, ev3, h⟩ := h
    refine q_alen X Y ev3 dX5_has_9 ?_
    refine lv_icmp_ge (tgt := 17) hx hb dX5_has_10 (by decide) (fun c4 => ?_) (fun c4 => ?_)
    · replace h := Eq.trans (if_pos c4).symm h
      refine lv_iconst (v := 0) hx hb dX5_has_17 (by decide) ?_
      replace h := Option.some.inj h
      subst h
      exact q_retz (v := (0 : Int32)) X Y hr hlocks rfl (Nat.le_of_ble_eq_true rfl) (Nat.le_of_ble_eq_true rfl) dX5_has_18
    · replace h := Eq.trans (if_neg c4).symm h
      refine lv_iconst (v := 1) hx hb dX5_has_13 (by decide) ?_
      refine lv_goto (tgt := 18) hx hb dX5_has_14 (by decide) ?_
      replace h := Option.some.inj h
      subst h
      exact q_retz (v := (1 : Int32)) X Y hr hlocks rfl (Nat.le_of_ble_eq_true rfl) (Nat.le_of_ble_eq_true rfl) dX5_has_18
/-! NeverBelow.number(II)J -/
abbrev rm_X10_number : Room := { frames := 1, cells := 0, slots := 0, locals := 21 }
def F_X10_number_18 (f : xHp)    : Option (Int64) := some (-9223372036854775808 : Int64)
def F_X10_number (f : xHp) (h0 : Nat) (p1 : Int32) (p2 : Int32) : Option (Int64) := if hKd f h0 = some 9 then (Option.bind (F_X10_proofOf f h0 p1) fun q2 => xnul q2 (F_X10_number_18 f) (fun q4 => if hKd f q4 = some 0 then (Option.bind (F_X5_has f q4 p2) fun q6 => if q6 = 0 then (F_X10_number_18 f) else (Option.bind (hN f q4 [(0, 3), (3, 5), (6, 3), (7, 3)]) fun v8 => Option.bind (hJld f v8 p2) fun v9 => some v9)) else if hKd f q4 = some 3 then (Option.bind (F_X5_has f q4 p2) fun q11 => if q11 = 0 then (F_X10_number_18 f) else (Option.bind (hN f q4 [(0, 3), (3, 5), (6, 3), (7, 3)]) fun v13 => Option.bind (hJld f v13 p2) fun v14 => some v14)) else if hKd f q4 = some 6 then (Option.bind (F_X5_has f q4 p2) fun q16 => if q16 = 0 then (F_X10_number_18 f) else (Option.bind (hN f q4 [(0, 3), (3, 5), (6, 3), (7, 3)]) fun v18 => Option.bind (hJld f v18 p2) fun v19 => some v19)) else if hKd f q4 = some 7 then (Option.bind (F_X5_has f q4 p2) fun q21 => if q21 = 0 then (F_X10_number_18 f) else (Option.bind (hN f q4 [(0, 3), (3, 5), (6, 3), (7, 3)]) fun v23 => Option.bind (hJld f v23 p2) fun v24 => some v24)) else none)) else none
set_option maxRecDepth 100000 in
set_option maxHeartbeats 4000000 in
theorem w_X10_number_18 {p : Program} {l : Launch} {e : Env} {s : State} {m : MethodId} {args : Array Value} {below : List Frame} {meth : Method} {c : Code} {G : xG} {z : Nat} {f : xHp} (X : xC G p m c s args RX10 cX10_number 4) (hr : meth.sig.returnType = (some .long)) (hlocks : meth.locks = false) (hin : meth.name = yX10_number.name) (rs : Int64)   (H : Heap) (locs : List Loc) (ls : Array Slot) (h : F_X10_number_18 f   = some rs) (Y : xY G z f s H locs) (hl : lv_has ls 4 []) : W p l e rm_X10_number s m args below meth c H locs 0 0 (MQ below (xQ G (some (.long rs)) z f) args s rm_X10_number.cells rm_X10_number.slots (xA G)) (F0 m 18 ls []) := by
  have hx := X.1.1
  have hb := X.1.2.1
  unfold F_X10_number_18 at h
  refine lv_ldc2 (v := -9223372036854775808) hx hb X.1.2.2.2.1 (X.1.2.2.2.2 _ xw_203) dX10_number_18 ?_
  refine lv_goto (tgt := 30) hx hb dX10_number_21 (by decide) ?_
  replace h := Option.some.inj h
  subst h
  exact q_retl X Y hr hlocks (Nat.le_of_ble_eq_true rfl) (Nat.le_of_ble_eq_true rfl) dX10_number_30
set_option maxRecDepth 100000 in
set_option maxHeartbeats 4000000 in
theorem c_X10_number (l : Launch) (G : xG) (z : Nat) (f : xHp) (h0 : Nat) (p1 : Int32) (p2 : Int32) (rs : Int64) (h : F_X10_number f h0 p1 p2 = some rs) : xM G l yX10_number cX10_number 4 (some .long) rm_X10_number [.ref h0, .int p1, .int p2] z f (some (.long rs)) z f := by
  refine xM_of (by decide) (Nat.le_of_ble_eq_true rfl) ?_
  intro p e s m below meth c ls X hr hlocks hin Y hl
  have hl : lv_has ls 4 [(0, .ref h0), (1, .int p1), (2, .int p2)] := hl
  have hx := X.1.1
  have hb := X.1.2.1
  unfold F_X10_number at h
  refine lv_aload_n hx hb dX10_number_0 rfl (lv_at hl 0 rfl) ?_
  refine lv_iload_n hx hb dX10_number_1 rfl (lv_at hl 1 rfl) ?_
  by_cases c1 : hKd f h0 = some 9
  · replace h := Eq.trans (if_pos c1).symm h
    replace h := xb h
    obtain ⟨q2, eq2, h⟩ := h
    refine q_callV X Y hl.1 (rest := []) (As := [.int p1]) (c_X10_proofOf l G z f h0 p1 _ eq2) cd_X10_proofOf lv_X10_268_9 c1 ⟨(Nat.le_of_ble_eq_true rfl), (Nat.le_of_ble_eq_true rfl)⟩ ⟨(Nat.le_of_ble_eq_true rfl), (Nat.le_of_ble_eq_true rfl)⟩ rfl rfl (Nat.le_of_ble_eq_true rfl) dX10_number_2 (fun H locs Y => ?_)
    refine W.eq (g2 := F0 m 5 ls [va_rf q2]) rfl ?_
    refine q_astore_n (lv' := [(3, va_rf q2), (0, .ref h0), (1, .int p1), (2, .int p2)]) hx hb dX10_number_5 rfl hl (by decide) rfl (fun ls hl => ?_)
    refine q_aload_n hx hb dX10_number_6 rfl (lv_at hl 0 rfl) ?_
    refine q_ifnull (tgt := 18) hx hb dX10_number_7 (by decide) (fun c3 => ?_) (fun q4 eq4 => ?_)
    · replace h := xn0 h c3
      subst c3
      have hl : lv_has ls 4 [(3, .null), (0, .ref h0), (1, .int p1), (2, .int p2)] := hl
      refine W.widen (k := 0) (n := 0) (Nat.le_of_ble_eq_true rfl) (Nat.le_of_ble_eq_true rfl) ?_
      exact w_X10_number_18 X hr hlocks hin rs    _ _ _ h Y (lv_sub hl [] rfl)
    · replace h := xn1 h eq4
      subst eq4
      have hl : lv_has ls 4 [(3, .ref q4), (0, .ref h0), (1, .int p1), (2, .int p2)] := hl
      refine lv_aload_n hx hb dX10_number_10 rfl (lv_at hl 0 rfl) ?_
      refine lv_iload_n hx hb dX10_number_11 rfl (lv_at hl 3 rfl) ?_
      by_cases c5 : hKd f q4 = some 0
      · replace h := Eq.trans (if_pos c5).symm h
        replace h := xb h
        obtain ⟨q6, eq6, h⟩ := h
        refine q_callU X Y hl.1 (rest := []) (As := [.int p2]) (c_X5_has l G z f q4 p2 _ eq6) cd_X5_has lu_X10_285_0 c5 ⟨(Nat.le_of_ble_eq_true rfl), (Nat.le_of_ble_eq_true rfl)⟩ ⟨(Nat.le_of_ble_eq_true rfl), (Nat.le_of_ble_eq_true rfl)⟩ rfl rfl (Nat.le_of_ble_eq_true rfl) dX10_number_12 (fun H locs Y => ?_)
        refine W.eq (g2 := F0 m 15 ls [.int q6]) rfl ?_
        refine lv_if_ne (tgt := 24) hx hb dX10_number_15 (by decide) (fun c7 => ?_) (fun c7 => ?_)
        · replace h := Eq.trans (if_neg c7).symm h
          refine lv_aload_n hx hb dX10_number_24 rfl (lv_at hl 0 rfl) ?_
          replace h := xb h
          obtain ⟨v8, ev8, h⟩ := h
          refine q_getN X Y fl_X10_276 ev8 dX10_number_25 ?_
          refine lv_iload_n hx hb dX10_number_28 rfl (lv_at hl 3 rfl) ?_
          replace h := xb h
          obtain ⟨v9, ev9, h⟩ := h
          refine q_lald X Y ev9 dX10_number_29 ?_
          replace h := Option.some.inj h
          subst h
          exact q_retl X Y hr hlocks (Nat.le_of_ble_eq_true rfl) (Nat.le_of_ble_eq_true rfl) dX10_number_30
        · replace h := Eq.trans (if_pos c7).symm h
          refine W.widen (k := 0) (n := 0) (Nat.le_of_ble_eq_true rfl) (Nat.le_of_ble_eq_true rfl) ?_
          exact w_X10_number_18 X hr hlocks hin rs    _ _ _ h Y (lv_sub hl [] rfl)
      replace h := Eq.trans (if_neg c5).symm h
      by_cases c10 : hKd f q4 = some 3
      · replace h := Eq.trans (if_pos c10).symm h
        replace h := xb h
        obtain ⟨q11, eq11, h⟩ := h
        refine q_callU X Y hl.1 (rest := []) (As := [.int p2]) (c_X5_has l G z f q4 p2 _ eq11) cd_X5_has lu_X10_285_3 c10 ⟨(Nat.le_of_ble_eq_true rfl), (Nat.le_of_ble_eq_true rfl)⟩ ⟨(Nat.le_of_ble_eq_true rfl), (Nat.le_of_ble_eq_true rfl)⟩ rfl rfl (Nat.le_of_ble_eq_true rfl) dX10_number_12 (fun H locs Y => ?_)
        refine W.eq (g2 := F0 m 15 ls [.int q11]) rfl ?_
        refine lv_if_ne (tgt := 24) hx hb dX10_number_15 (by decide) (fun c12 => ?_) (fun c12 => ?_)
        · replace h := Eq.trans (if_neg c12).symm h
          refine lv_aload_n hx hb dX10_number_24 rfl (lv_at hl 0 rfl) ?_
          replace h := xb h
          obtain ⟨v13, ev13, h⟩ := h
          refine q_getN X Y fl_X10_276 ev13 dX10_number_25 ?_
          refine lv_iload_n hx hb dX10_number_28 rfl (lv_at hl 3 rfl) ?_
          replace h := xb h
          obtain ⟨v14, ev14, h⟩ := h
          refine q_lald X Y ev14 dX10_number_29 ?_
          replace h := Option.some.inj h
          subst h
          exact q_retl X Y hr hlocks (Nat.le_of_ble_eq_true rfl) (Nat.le_of_ble_eq_true rfl) dX10_number_30
        · replace h := Eq.trans (if_pos c12).symm h
          refine W.widen (k := 0) (n := 0) (Nat.le_of_ble_eq_true rfl) (Nat.le_of_ble_eq_true rfl) ?_
          exact w_X10_number_18 X hr hlocks hin rs    _ _ _ h Y (lv_sub hl [] rfl)
      replace h := Eq.trans (if_neg c10).symm h
      by_cases c15 : hKd f q4 = some 6
      · replace h := Eq.trans (if_pos c15).symm h
        replace h := xb h
        obtain ⟨q16, eq16, h⟩ := h
        refine q_callU X Y hl.1 (rest := []) (As := [.int p2]) (c_X5_has l G z f q4 p2 _ eq16) cd_X5_has lu_X10_285_6 c15 ⟨(Nat.le_of_ble_eq_true rfl), (Nat.le_of_ble_eq_true rfl)⟩ ⟨(Nat.le_of_ble_eq_true rfl), (Nat.le_of_ble_eq_true rfl)⟩ rfl rfl (Nat.le_of_ble_eq_true rfl) dX10_number_12 (fun H locs Y => ?_)
        refine W.eq (g2 := F0 m 15 ls [.int q16]) rfl ?_
        refine lv_if_ne (tgt := 24) hx hb dX10_number_15 (by decide) (fun c17 => ?_) (fun c17 => ?_)
        · replace h := Eq.trans (if_neg c17).symm h
          refine lv_aload_n hx hb dX10_number_24 rfl (lv_at hl 0 rfl) ?_
          replace h := xb h
          obtain ⟨v18, ev18, h⟩ := h
          refine q_getN X Y fl_X10_276 ev18 dX10_number_25 ?_
          refine lv_iload_n hx hb dX10_number_28 rfl (lv_at hl 3 rfl) ?_
          replace h := xb h
          obtain ⟨v19, ev19, h⟩ := h
          refine q_lald X Y ev19 dX10_number_29 ?_
          replace h := Option.some.inj h
          subst h
          exact q_retl X Y hr hlocks (Nat.le_of_ble_eq_true rfl) (Nat.le_of_ble_eq_true rfl) dX10_number_30
        · replace h := Eq.trans (if_pos c17).symm h
          refine W.widen (k := 0) (n := 0) (Nat.le_of_ble_eq_true rfl) (Nat.le_of_ble_eq_true rfl) ?_
          exact w_X10_number_18 X hr hlocks hin rs    _ _ _ h Y (lv_sub hl [] rfl)
      replace h := Eq.trans (if_neg c15).symm h
      by_cases c20 : hKd f q4 = some 7
      · replace h := Eq.trans (if_pos c20).symm h
        replace h := xb h
        obtain ⟨q21, eq21, h⟩ := h
        refine q_callU X Y hl.1 (rest := []) (As := [.int p2]) (c_X5_has l G z f q4 p2 _ eq21) cd_X5_has lu_X10_285_7 c20 ⟨(Nat.le_of_ble_eq_true rfl), (Nat.le_of_ble_eq_true rfl)⟩ ⟨(Nat.le_of_ble_eq_true rfl), (Nat.le_of_ble_eq_true rfl)⟩ rfl rfl (Nat.le_of_ble_eq_true rfl) dX10_number_12 (fun H locs Y => ?_)
        refine W.eq (g2 := F0 m 15 ls [.int q21]) rfl ?_
        refine lv_if_ne (tgt := 24) hx hb dX10_number_15 (by decide) (fun c22 => ?_) (fun c22 => ?_)
        · replace h := Eq.trans (if_neg c22).symm h
          refine lv_aload_n hx hb dX10_number_24 rfl (lv_at hl 0 rfl) ?_
          replace h := xb h
          obtain ⟨v23, ev23, h⟩ := h
          refine q_getN X Y fl_X10_276 ev23 dX10_number_25 ?_
          refine lv_iload_n hx hb dX10_number_28 rfl (lv_at hl 3 rfl) ?_
          replace h := xb h
          obtain ⟨v24, ev24, h⟩ := h
          refine q_lald X Y ev24 dX10_number_29 ?_
          replace h := Option.some.inj h
          subst h
          exact q_retl X Y hr hlocks (Nat.le_of_ble_eq_true rfl) (Nat.le_of_ble_eq_true rfl) dX10_number_30
        · replace h := Eq.trans (if_pos c22).symm h
          refine W.widen (k := 0) (n := 0) (Nat.le_of_ble_eq_true rfl) (Nat.le_of_ble_eq_true rfl) ?_
          exact w_X10_number_18 X hr hlocks hin rs    _ _ _ h Y (lv_sub hl [] rfl)
      replace h := Eq.trans (if_neg c20).symm h
      cases h
  replace h := Eq.trans (if_neg c1).symm h
  cases h
/-! NeverBelow.forge(IIJ)I -/
abbrev rm_X10_forge : Room := { frames := 1, cells := 0, slots := 0, locals := 23 }
def F_X10_forge_45  (f : xHp) (a2 : Int32) (a3 : Int64) (a5 : Nat) : Option (Int32 × xHp) := Option.bind (hN f a5 [(0, 3), (3, 5), (6, 3), (7, 3)]) fun v1 => Option.bind (hJst f v1 a2 a3) fun f2 => some ((1 : Int32), f2)
def F_X10_forge (f : xHp) (h0 : Nat) (p1 : Int32) (p2 : Int32) (p3 : Int64) : Option (Int32 × xHp) := if hKd f h0 = some 9 then (Option.bind (F_X10_proofOf f h0 p1) fun q2 => xnul q2 (some ((-1 : Int32), f)) (fun q4 => if hKd f q4 = some 0 then (Option.bind (F_X5_has f q4 p2) fun q6 => if q6 = 0 then (some ((-1 : Int32), f)) else (Option.bind (hI f q4 [(0, 0), (3, 2), (6, 0), (7, 0)]) fun v8 => if v8 = (1 : Int32) then (F_X10_forge_45 f p2 p3 q4) else (Option.bind (F_X10_isWithin f p3 (1000000000 : Int64)) fun q10 => if q10 = 0 then (some ((-2 : Int32), f)) else (F_X10_forge_45 f p2 p3 q4)))) else if hKd f q4 = some 3 then (Option.bind (F_X5_has f q4 p2) fun q13 => if q13 = 0 then (some ((-1 : Int32), f)) else (Option.bind (hI f q4 [(0, 0), (3, 2), (6, 0), (7, 0)]) fun v15 => if v15 = (1 : Int32) then (F_X10_forge_45 f p2 p3 q4) else (Option.bind (F_X10_isWithin f p3 (1000000000 : Int64)) fun q17 => if q17 = 0 then (some ((-2 : Int32), f)) else (F_X10_forge_45 f p2 p3 q4)))) else if hKd f q4 = some 6 then (Option.bind (F_X5_has f q4 p2) fun q20 => if q20 = 0 then (some ((-1 : Int32), f)) else (Option.bind (hI f q4 [(0, 0), (3, 2), (6, 0), (7, 0)]) fun v22 => if v22 = (1 : Int32) then (F_X10_forge_45 f p2 p3 q4) else (Option.bind (F_X10_isWithin f p3 (1000000000 : Int64)) fun q24 => if q24 = 0 then (some ((-2 : Int32), f)) else (F_X10_forge_45 f p2 p3 q4)))) else if hKd f q4 = some 7 then (Option.bind (F_X5_has f q4 p2) fun q27 => if q27 = 0 then (some ((-1 : Int32), f)) else (Option.bind (hI f q4 [(0, 0), (3, 2), (6, 0), (7, 0)]) fun v29 => if v29 = (1 : Int32) then (F_X10_forge_45 f p2 p3 q4) else (Option.bind (F_X10_isWithin f p3 (1000000000 : Int64)) fun q31 => if q31 = 0 then (some ((-2 : Int32), f)) else (F_X10_forge_45 f p2 p3 q4)))) else none)) else none
set_option maxRecDepth 100000 in
set_option maxHeartbeats 4000000 in
theorem w_X10_forge_45 {p : Program} {l : Launch} {e : Env} {s : State} {m : MethodId} {args : Array Value} {below : List Frame} {meth : Method} {c : Code} {G : xG} {z : Nat} (X : xC G p m c s args RX10 cX10_forge 6) (hr : meth.sig.returnType = (some .int)) (hlocks : meth.locks = false) (hin : meth.name = yX10_forge.name) (rs : Int32 × xHp)  (f : xHp) (a2 : Int32) (a3 : Int64) (a5 : Nat) (H : Heap) (locs : List Loc) (ls : Array Slot) (h : F_X10_forge_45  f a2 a3 a5 = some rs) (Y : xY G z f s H locs) (hl : lv_has ls 6 [(2, .int a2), (3, .long a3), (5, .ref a5)]) : W p l e rm_X10_forge s m args below meth c H locs 0 0 (MQ below (xQ G (some (.int rs.1)) z rs.2) args s rm_X10_forge.cells rm_X10_forge.slots (xA G)) (F0 m 45 ls []) := by
  have hx := X.1.1
  have hb := X.1.2.1
  unfold F_X10_forge_45 at h
  refine lv_aload hx hb dX10_forge_45 (lv_at hl 2 rfl) ?_
  replace h := xb h
  obtain ⟨v1, ev1, h⟩ := h
  refine q_getN X Y fl_X10_276 ev1 dX10_forge_47 ?_
  refine lv_iload_n hx hb dX10_forge_50 rfl (lv_at hl 0 rfl) ?_
  refine lv_lload_n hx hb dX10_forge_51 rfl (lv_at hl 1 rfl) ?_
  replace h := xb h
  obtain ⟨f2, ef2, h⟩ := h
  refine q_last X Y ef2 dX10_forge_52 (fun H locs Y => ?_)
  refine lv_iconst (v := 1) hx hb dX10_forge_53 (by decide) ?_
  replace h := Option.some.inj h
  subst h
  exact q_reti X Y hr hlocks (Nat.le_of_ble_eq_true rfl) (Nat.le_of_ble_eq_true rfl) dX10_forge_54
set_option maxRecDepth 100000 in
set_option maxHeartbeats 4000000 in
theorem c_X10_forge (l : Launch) (G : xG) (z : Nat) (f : xHp) (h0 : Nat) (p1 : Int32) (p2 : Int32) (p3 : Int64) (rs : Int32 × xHp) (h : F_X10_forge f h0 p1 p2 p3 = some rs) : xM G l yX10_forge cX10_forge 6 (some .int) rm_X10_forge [.ref h0, .int p1, .int p2, .long p3] z f (some (.int rs.1)) z rs.2 := by
  refine xM_of (by decide) (Nat.le_of_ble_eq_true rfl) ?_
  intro p e s m below meth c ls X hr hlocks hin Y hl
  have hl : lv_has ls 6 [(0, .ref h0), (1, .int p1), (2, .int p2), (3, .long p3)] := hl
  have hx := X.1.1
  have hb := X.1.2.1
  unfold F_X10_forge at h
  refine lv_aload_n hx hb dX10_forge_0 rfl (lv_at hl 0 rfl) ?_
  refine lv_iload_n hx hb dX10_forge_1 rfl (lv_at hl 1 rfl) ?_
  by_cases c1 : hKd f h0 = some 9
  · replace h := Eq.trans (if_pos c1).symm h
    replace h := xb h
    obtain ⟨q2, eq2, h⟩ := h
    refine q_callV X Y hl.1 (rest := []) (As := [.int p1]) (c_X10_proofOf l G z f h0 p1 _ eq2) cd_X10_proofOf lv_X10_268_9 c1 ⟨(Nat.le_of_ble_eq_true rfl), (Nat.le_of_ble_eq_true rfl)⟩ ⟨(Nat.le_of_ble_eq_true rfl), (Nat.le_of_ble_eq_true rfl)⟩ rfl rfl (Nat.le_of_ble_eq_true rfl) dX10_forge_2 (fun H locs Y => ?_)
    refine W.eq (g2 := F0 m 5 ls [va_rf q2]) rfl ?_
    refine q_astore (lv' := [(5, va_rf q2), (0, .ref h0), (1, .int p1), (2, .int p2), (3, .long p3)]) hx hb dX10_forge_5 hl (by decide) rfl (fun ls hl => ?_)
    refine q_aload hx hb dX10_forge_7 (lv_at hl 0 rfl) ?_
    refine q_ifnull (tgt := 21) hx hb dX10_forge_9 (by decide) (fun c3 => ?_) (fun q4 eq4 => ?_)
    · replace h := xn0 h c3
      subst c3
      have hl : lv_has ls 6 [(5, .null), (0, .ref h0), (1, .int p1), (2, .int p2), (3, .long p3)] := hl
      refine lv_iconst (v := -1) hx hb dX10_forge_21 (by decide) ?_
      replace h := Option.some.inj h
      subst h
      exact q_reti X Y hr hlocks (Nat.le_of_ble_eq_true rfl) (Nat.le_of_ble_eq_true rfl) dX10_forge_22
    · replace h := xn1 h eq4
      subst eq4
      have hl : lv_has ls 6 [(5, .ref q4), (0, .ref h0), (1, .int p1), (2, .int p2), (3, .long p3)] := hl
      refine lv_aload hx hb dX10_forge_12 (lv_at hl 0 rfl) ?_
      refine lv_iload_n hx hb dX10_forge_14 rfl (lv_at hl 3 rfl) ?_
      by_cases c5 : hKd f q4 = some 0
      · replace h := Eq.trans (if_pos c5).symm h
        replace h := xb h
        obtain ⟨q6, eq6, h⟩ := h
        refine q_callU X Y hl.1 (rest := []) (As := [.int p2]) (c_X5_has l G z f q4 p2 _ eq6) cd_X5_has lu_X10_285_0 c5 ⟨(Nat.le_of_ble_eq_true rfl), (Nat.le_of_ble_eq_true rfl)⟩ ⟨(Nat.le_of_ble_eq_true rfl), (Nat.le_of_ble_eq_true rfl)⟩ rfl rfl (Nat.le_of_ble_eq_true rfl) dX10_forge_15 (fun H locs Y => ?_)
        refine W.eq (g2 := F0 m 18 ls [.int q6]) rfl ?_
        refine lv_if_ne (tgt := 23) hx hb dX10_forge_18 (by decide) (fun c7 => ?_) (fun c7 => ?_)
        · replace h := Eq.trans (if_neg c7).symm h
          refine lv_aload hx hb dX10_forge_23 (lv_at hl 0 rfl) ?_
          replace h := xb h
          obtain ⟨v8, ev8, h⟩ := h
          refine q_getI X Y fl_X10_272 ev8 dX10_forge_25 ?_
          refine lv_iconst (v := 1) hx hb dX10_forge_28 (by decide) ?_
          refine lv_icmp_eq (tgt := 45) hx hb dX10_forge_29 (by decide) (fun c9 => ?_) (fun c9 => ?_)
          · replace h := Eq.trans (if_pos c9).symm h
            refine W.widen (k := 0) (n := 0) (Nat.le_of_ble_eq_true rfl) (Nat.le_of_ble_eq_true rfl) ?_
            exact w_X10_forge_45 X hr hlocks hin rs   f p2 p3 q4 _ _ _ h Y (lv_sub hl [3, 4, 0] rfl)
          · replace h := Eq.trans (if_neg c9).symm h
            refine lv_lload_n hx hb dX10_forge_32 rfl (lv_at hl 4 rfl) ?_
            refine lv_ldc2 (v := 1000000000) hx hb X.1.2.2.2.1 (X.1.2.2.2.2 _ xw_633) dX10_forge_33 ?_
            replace h := xb h
            obtain ⟨q10, eq10, h⟩ := h
            refine q_callS X Y hl.1 (rest := []) (As := [.long p3, .long (1000000000 : Int64)]) (c_X10_isWithin l G z f p3 (1000000000 : Int64) _ eq10) cd_X10_isWithin ls_X10_101 ⟨(Nat.le_of_ble_eq_true rfl), (Nat.le_of_ble_eq_true rfl)⟩ ⟨(Nat.le_of_ble_eq_true rfl), (Nat.le_of_ble_eq_true rfl)⟩ rfl rfl (Nat.le_of_ble_eq_true rfl) dX10_forge_36 (fun H locs Y => ?_)
            refine W.eq (g2 := F0 m 39 ls [.int q10]) rfl ?_
            refine lv_if_ne (tgt := 45) hx hb dX10_forge_39 (by decide) (fun c11 => ?_) (fun c11 => ?_)
            · replace h := Eq.trans (if_neg c11).symm h
              refine W.widen (k := 0) (n := 0) (Nat.le_of_ble_eq_true rfl) (Nat.le_of_ble_eq_true rfl) ?_
              exact w_X10_forge_45 X hr hlocks hin rs   f p2 p3 q4 _ _ _ h Y (lv_sub hl [3, 4, 0] rfl)
            · replace h := Eq.trans (if_pos c11).symm h
              refine lv_bipush (v := -2) hx hb dX10_forge_42 (by decide) ?_
              replace h := Option.some.inj h
              subst h
              exact q_reti X Y hr hlocks (Nat.le_of_ble_eq_true rfl) (Nat.le_of_ble_eq_true rfl) dX10_forge_44
        · replace h := Eq.trans (if_pos c7).symm h
          refine lv_iconst (v := -1) hx hb dX10_forge_21 (by decide) ?_
          replace h := Option.some.inj h
          subst h
          exact q_reti X Y hr hlocks (Nat.le_of_ble_eq_true rfl) (Nat.le_of_ble_eq_true rfl) dX10_forge_22
      replace h := Eq.trans (if_neg c5).symm h
      by_cases c12 : hKd f q4 = some 3
      · replace h := Eq.trans (if_pos c12).symm h
        replace h := xb h
        obtain ⟨q13, eq13, h⟩ := h
        refine q_callU X Y hl.1 (rest := []) (As := [.int p2]) (c_X5_has l G z f q4 p2 _ eq13) cd_X5_has lu_X10_285_3 c12 ⟨(Nat.le_of_ble_eq_true rfl), (Nat.le_of_ble_eq_true rfl)⟩ ⟨(Nat.le_of_ble_eq_true rfl), (Nat.le_of_ble_eq_true rfl)⟩ rfl rfl (Nat.le_of_ble_eq_true rfl) dX10_forge_15 (fun H locs Y => ?_)
        refine W.eq (g2 := F0 m 18 ls [.int q13]) rfl ?_
        refine lv_if_ne (tgt := 23) hx hb dX10_forge_18 (by decide) (fun c14 => ?_) (fun c14 => ?_)
        · replace h := Eq.trans (if_neg c14).symm h
          refine lv_aload hx hb dX10_forge_23 (lv_at hl 0 rfl) ?_
          replace h := xb h
          obtain ⟨v15, ev15, h⟩ := h
          refine q_getI X Y fl_X10_272 ev15 dX10_forge_25 ?_
          refine lv_iconst (v := 1) hx hb dX10_forge_28 (by decide) ?_
          refine lv_icmp_eq (tgt := 45) hx hb dX10_forge_29 (by decide) (fun c16 => ?_) (fun c16 => ?_)
          · replace h := Eq.trans (if_pos c16).symm h
            refine W.widen (k := 0) (n := 0) (Nat.le_of_ble_eq_true rfl) (Nat.le_of_ble_eq_true rfl) ?_
            exact w_X10_forge_45 X hr hlocks hin rs   f p2 p3 q4 _ _ _ h Y (lv_sub hl [3, 4, 0] rfl)
          · replace h := Eq.trans (if_neg c16).symm h
            refine lv_lload_n hx hb dX10_forge_32 rfl (lv_at hl 4 rfl) ?_
            refine lv_ldc2 (v := 1000000000) hx hb X.1.2.2.2.1 (X.1.2.2.2.2 _ xw_633) dX10_forge_33 ?_
            replace h := xb h
            obtain ⟨q17, eq17, h⟩ := h
            refine q_callS X Y hl.1 (rest := []) (As := [.long p3, .long (1000000000 : Int64)]) (c_X10_isWithin l G z f p3 (1000000000 : Int64) _ eq17) cd_X10_isWithin ls_X10_101 ⟨(Nat.le_of_ble_eq_true rfl), (Nat.le_of_ble_eq_true rfl)⟩ ⟨(Nat.le_of_ble_eq_true rfl), (Nat.le_of_ble_eq_true rfl)⟩ rfl rfl (Nat.le_of_ble_eq_true rfl) dX10_forge_36 (fun H locs Y => ?_)
            refine W.eq (g2 := F0 m 39 ls [.int q17]) rfl ?_
            refine lv_if_ne (tgt := 45) hx hb dX10_forge_39 (by decide) (fun c18 => ?_) (fun c18 => ?_)
            · replace h := Eq.trans (if_neg c18).symm h
              refine W.widen (k := 0) (n := 0) (Nat.le_of_ble_eq_true rfl) (Nat.le_of_ble_eq_true rfl) ?_
              exact w_X10_forge_45 X hr hlocks hin rs   f p2 p3 q4 _ _ _ h Y (lv_sub hl [3, 4, 0] rfl)
            · replace h := Eq.trans (if_pos c18).symm h
              refine lv_bipush (v := -2) hx hb dX10_forge_42 (by decide) ?_
              replace h := Option.some.inj h
              subst h
              exact q_reti X Y hr hlocks (Nat.le_of_ble_eq_true rfl) (Nat.le_of_ble_eq_true rfl) dX10_forge_44
        · replace h := Eq.trans (if_pos c14).symm h
          refine lv_iconst (v := -1) hx hb dX10_forge_21 (by decide) ?_
          replace h := Option.some.inj h
          subst h
          exact q_reti X Y hr hlocks (Nat.le_of_ble_eq_true rfl) (Nat.le_of_ble_eq_true rfl) dX10_forge_22
      replace h := Eq.trans (if_neg c12).symm h
      by_cases c19 : hKd f q4 = some 6
      · replace h := Eq.trans (if_pos c19).symm h
        replace h := xb h
        obtain ⟨q20, eq20, h⟩ := h
        refine q_callU X Y hl.1 (rest := []) (As := [.int p2]) (c_X5_has l G z f q4 p2 _ eq20) cd_X5_has lu_X10_285_6 c19 ⟨(Nat.le_of_ble_eq_true rfl), (Nat.le_of_ble_eq_true rfl)⟩ ⟨(Nat.le_of_ble_eq_true rfl), (Nat.le_of_ble_eq_true rfl)⟩ rfl rfl (Nat.le_of_ble_eq_true rfl) dX10_forge_15 (fun H locs Y => ?_)
        refine W.eq (g2 := F0 m 18 ls [.int q20]) rfl ?_
        refine lv_if_ne (tgt := 23) hx hb dX10_forge_18 (by decide) (fun c21 => ?_) (fun c21 => ?_)
        · replace h := Eq.trans (if_neg c21).symm h
          refine lv_aload hx hb dX10_forge_23 (lv_at hl 0 rfl) ?_
          replace h := xb h
          obtain ⟨v22, ev22, h⟩ := h
          refine q_getI X Y fl_X10_272 ev22 dX10_forge_25 ?_
          refine lv_iconst (v := 1) hx hb dX10_forge_28 (by decide) ?_
          refine lv_icmp_eq (tgt := 45) hx hb dX10_forge_29 (by decide) (fun c23 => ?_) (fun c23 => ?_)
          · replace h := Eq.trans (if_pos c23).symm h
            refine W.widen (k := 0) (n := 0) (Nat.le_of_ble_eq_true rfl) (Nat.le_of_ble_eq_true rfl) ?_
            exact w_X10_forge_45 X hr hlocks hin rs   f p2 p3 q4 _ _ _ h Y (lv_sub hl [3, 4, 0] rfl)
          · replace h := Eq.trans (if_neg c23).symm h
            refine lv_lload_n hx hb dX10_forge_32 rfl (lv_at hl 4 rfl) ?_
            refine lv_ldc2 (v := 1000000000) hx hb X.1.2.2.2.1 (X.1.2.2.2.2 _ xw_633) dX10_forge_33 ?_
            replace h := xb h
            obtain ⟨q24, eq24, h⟩ := h
            refine q_callS X Y hl.1 (rest := []) (As := [.long p3, .long (1000000000 : Int64)]) (c_X10_isWithin l G z f p3 (1000000000 : Int64) _ eq24) cd_X10_isWithin ls_X10_101 ⟨(Nat.le_of_ble_eq_true rfl), (Nat.le_of_ble_eq_true rfl)⟩ ⟨(Nat.le_of_ble_eq_true rfl), (Nat.le_of_ble_eq_true rfl)⟩ rfl rfl (Nat.le_of_ble_eq_true rfl) dX10_forge_36 (fun H locs Y => ?_)
            refine W.eq (g2 := F0 m 39 ls [.int q24]) rfl ?_
            refine lv_if_ne (tgt := 45) hx hb dX10_forge_39 (by decide) (fun c25 => ?_) (fun c25 => ?_)
            · replace h := Eq.trans (if_neg c25).symm h
              refine W.widen (k := 0) (n := 0) (Nat.le_of_ble_eq_true rfl) (Nat.le_of_ble_eq_true rfl) ?_
              exact w_X10_forge_45 X hr hlocks hin rs   f p2 p3 q4 _ _ _ h Y (lv_sub hl [3, 4, 0] rfl)
            · replace h := Eq.trans (if_pos c25).symm h
              refine lv_bipush (v := -2) hx hb dX10_forge_42 (by decide) ?_
              replace h := Option.some.inj h
              subst h
              exact q_reti X Y hr hlocks (Nat.le_of_ble_eq_true rfl) (Nat.le_of_ble_eq_true rfl) dX10_forge_44
        · replace h := Eq.trans (if_pos c21).symm h
          refine lv_iconst (v := -1) hx hb dX10_forge_21 (by decide) ?_
          replace h := Option.some.inj h
          subst h
          exact q_reti X Y hr hlocks (Nat.le_of_ble_eq_true rfl) (Nat.le_of_ble_eq_true rfl) dX10_forge_22
      replace h := Eq.trans (if_neg c19).symm h
      by_cases c26 : hKd f q4 = some 7
      · replace h := Eq.trans (if_pos c26).symm h
        replace h := xb h
        obtain ⟨q27, eq27, h⟩ := h
        refine q_callU X Y hl.1 (rest := []) (As := [.int p2]) (c_X5_has l G z f q4 p2 _ eq27) cd_X5_has lu_X10_285_7 c26 ⟨(Nat.le_of_ble_eq_true rfl), (Nat.le_of_ble_eq_true rfl)⟩ ⟨(Nat.le_of_ble_eq_true rfl), (Nat.le_of_ble_eq_true rfl)⟩ rfl rfl (Nat.le_of_ble_eq_true rfl) dX10_forge_15 (fun H locs Y => ?_)
        refine W.eq (g2 := F0 m 18 ls [.int q27]) rfl ?_
        refine lv_if_ne (tgt := 23) hx hb dX10_forge_18 (by decide) (fun c28 => ?_) (fun c28 => ?_)
        · replace h := Eq.trans (if_neg c28).symm h
          refine lv_aload hx hb dX10_forge_23 (lv_at hl 0 rfl) ?_
          replace h := xb h
          obtain ⟨v29, ev29, h⟩ := h
          refine q_getI X Y fl_X10_272 ev29 dX10_forge_25 ?_
          refine lv_iconst (v := 1) hx hb dX10_forge_28 (by decide) ?_
          refine lv_icmp_eq (tgt := 45) hx hb dX10_forge_29 (by decide) (fun c30 => ?_) (fun c30 => ?_)
          · replace h := Eq.trans (if_pos c30).symm h
            refine W.widen (k := 0) (n := 0) (Nat.le_of_ble_eq_true rfl) (Nat.le_of_ble_eq_true rfl) ?_
            exact w_X10_forge_45 X hr hlocks hin rs   f p2 p3 q4 _ _ _ h Y (lv_sub hl [3, 4, 0] rfl)
          · replace h := Eq.trans (if_neg c30).symm h
            refine lv_lload_n hx hb dX10_forge_32 rfl (lv_at hl 4 rfl) ?_
            refine lv_ldc2 (v := 1000000000) hx hb X.1.2.2.2.1 (X.1.2.2.2.2 _ xw_633) dX10_forge_33 ?_
            replace h := xb h
            obtain ⟨q31, eq31, h⟩ := h
            refine q_callS X Y hl.1 (rest := []) (As := [.long p3, .long (1000000000 : Int64)]) (c_X10_isWithin l G z f p3 (1000000000 : Int64) _ eq31) cd_X10_isWithin ls_X10_101 ⟨(Nat.le_of_ble_eq_true rfl), (Nat.le_of_ble_eq_true rfl)⟩ ⟨(Nat.le_of_ble_eq_true rfl), (Nat.le_of_ble_eq_true rfl)⟩ rfl rfl (Nat.le_of_ble_eq_true rfl) dX10_forge_36 (fun H locs Y => ?_)
            refine W.eq (g2 := F0 m 39 ls [.int q31]) rfl ?_
            refine lv_if_ne (tgt := 45) hx hb dX10_forge_39 (by decide) (fun c32 => ?_) (fun c32 => ?_)
            · replace h := Eq.trans (if_neg c32).symm h
              refine W.widen (k := 0) (n := 0) (Nat.le_of_ble_eq_true rfl) (Nat.le_of_ble_eq_true rfl) ?_
              exact w_X10_forge_45 X hr hlocks hin rs   f p2 p3 q4 _ _ _ h Y (lv_sub hl [3, 4, 0] rfl)
            · replace h := Eq.trans (if_pos c32).symm h
              refine lv_bipush (v := -2) hx hb dX10_forge_42 (by decide) ?_
              replace h := Option.some.inj h
              subst h
              exact q_reti X Y hr hlocks (Nat.le_of_ble_eq_true rfl) (Nat.le_of_ble_eq_true rfl) dX10_forge_44
        · replace h := Eq.trans (if_pos c28).symm h
          refine lv_iconst (v := -1) hx hb dX10_forge_21 (by decide) ?_
          replace h := Option.some.inj h
          subst h
          exact q_reti X Y hr hlocks (Nat.le_of_ble_eq_true rfl) (Nat.le_of_ble_eq_true rfl) dX10_forge_22
      replace h := Eq.trans (if_neg c26).symm h
      cases h
  replace h := Eq.trans (if_neg c1).symm h
  cases h

/-! NeverBelowModel.span(IIIII)I -/
abbrev rm_X11_span : Room := { frames := 2, cells := 0, slots := 0, locals := 48 }
def F_X11_span (f : xHp) (h0 : Nat) (p1 : Int32) (p2 : Int32) (p3 : Int32) (p4 : Int32) (p5 : Int32) : Option (Int32 × xHp) := if hKd f h0 = some 10 then (Option.bind (F_X11_isPoly f h0 p1) fun q2 => if q2 = 0 then (some ((-1 : Int32), f)) else (Option.bind (F_X11_within f p2.toInt64 (1 : Int64) (1000 : Int64)) fun q4 => if q4 = 0 then (some ((-2 : Int32), f)) else (Option.bind (F_X11_within f p3.toInt64 (1 : Int64) (1000 : Int64)) fun q6 => if q6 = 0 then (some ((-2 : Int32), f)) else (Option.bind (F_X11_isRange f p4 p5) fun q8 => if q8 = 0 then (some ((-2 : Int32), f)) else (if hKd f h0 = some 10 then (Option.bind (F_X11_hasOther f h0 p1) fun q11 => if q11 = 0 then (if hKd f h0 = some 10 then (Option.bind (F_X11_termOf f h0 p1 (6 : Int32)) fun q14 => if hKd f h0 = some 10 then (Option.bind (F_X11_termOf f h0 p1 (3 : Int32)) fun q16 => if hKd f h0 = some 10 then (Option.bind (F_X11_termOf f h0 p1 (0 : Int32)) fun q18 => Option.bind (F_X11_mayBe f ((q14 * p3.toInt64) + p2.toInt64) p3.toInt64) fun q19 => if q19 = 0 then (some ((-3 : Int32), f)) else (Option.bind (F_X11_mayBe f (((q16 * p3.toInt64) * (256 : Int64)) - (p2.toInt64 * (p4 + p5).toInt64)) ((256 : Int64) * p3.toInt64)) fun q21 => if q21 = 0 then (some ((-3 : Int32), f)) else (Option.bind (F_X11_mayBe f (((q18 * p3.toInt64) * (65536 : Int64)) + ((p2.toInt64 * p4.toInt64) * p5.toInt64)) ((65536 : Int64) * p3.toInt64)) fun q23 => if q23 = 0 then (some ((-3 : Int32), f)) else (if p3.toInt64 = 0 then none else if hKd f h0 = some 10 then (Option.bind (F_X11_termOf f h0 p1 (4 : Int32)) fun q27 => if ((256 : Int64) * p3.toInt64) = 0 then none else if hKd f h0 = some 10 then (Option.bind (F_X11_termOf f h0 p1 (2 : Int32)) fun q30 => if hKd f h0 = some 10 then (Option.bind (F_X11_termOf f h0 p1 (1 : Int32)) fun q32 => if ((65536 : Int64) * p3.toInt64) = 0 then none else if hKd f h0 = some 10 then (Option.bind (F_X11_layForm f h0 (((q14 * p3.toInt64) + p2.toInt64) / p3.toInt64) q27 ((((q16 * p3.toInt64) * (256 : Int64)) - (p2.toInt64 * (p4 + p5).toInt64)) / ((256 : Int64) * p3.toInt64)) q30 q32 ((((q18 * p3.toInt64) * (65536 : Int64)) + ((p2.toInt64 * p4.toInt64) * p5.toInt64)) / ((65536 : Int64) * p3.toInt64))) fun q35 => if hKd q35 h0 = some 10 then (Option.bind (F_X11_findSquares q35 h0) fun q37 => if q37.1 = 0 then (some ((-9 : Int32), q37.2)) else (Option.bind (hI q37.2 h0 [(10, 20)]) fun v39 => if v39 = (40 : Int32) then (some ((-4 : Int32), q37.2)) else (if hKd q37.2 h0 = some 10 then (Option.bind (F_X11_newProof q37.2 h0 (3 : Int32) p1 (-9 : Int32)) fun q42 => if hKd q42.2 h0 = some 10 then (Option.bind (F_X11_tellSquares q42.2 h0 q42.1) fun q44 => if hKd q44 h0 = some 10 then (Option.bind (F_X11_tellNumber q44 h0 q42.1 p2.toInt64) fun q46 => if hKd q46 h0 = some 10 then (Option.bind (F_X11_tellNumber q46 h0 q42.1 p3.toInt64) fun q48 => if hKd q48 h0 = some 10 then (Option.bind (F_X11_tellNumber q48 h0 q42.1 p4.toInt64) fun q50 => if hKd q50 h0 = some 10 then (Option.bind (F_X11_tellNumber q50 h0 q42.1 p5.toInt64) fun q52 => some (q42.1, q52)) else none) else none) else none) else none) else none) else none))) else none) else none) else none) else none) else none)))) else none) else none) else none) else (some ((-3 : Int32), f))) else none))))) else none
set_option maxRecDepth 100000 in
set_option maxHeartbeats 4000000 in
theorem c_X11_span (l : Launch) (G : xG) (z : Nat) (f : xHp) (h0 : Nat) (p1 : Int32) (p2 : Int32) (p3 : Int32) (p4 : Int32) (p5 : Int32) (rs : Int32 × xHp) (h : F_X11_span f h0 p1 p2 p3 p4 p5 = some rs) : xM G l yX11_span cX11_span 13 (some .int) rm_X11_span [.ref h0, .int p1, .int p2, .int p3, .int p4, .int p5] z f (some (.int rs.1)) z rs.2 := by
  refine xM_of (by decide) (Nat.le_of_ble_eq_true rfl) ?_
  intro p e s m below meth c ls X hr hlocks hin Y hl
  have hl : lv_has ls 13 [(0, .ref h0), (1, .int p1), (2, .int p2), (3, .int p3), (4, .int p4), (5, .int p5)] := hl
  have hx := X.1.1
  have hb := X.1.2.1
  unfold F_X11_span at h
  refine lv_aload_n hx hb dX11_span_0 rfl (lv_at hl 0 rfl) ?_
  refine lv_iload_n hx hb dX11_span_1 rfl (lv_at hl 1 rfl) ?_
  by_cases c1 : hKd f h0 = some 10
  · replace h := Eq.trans (if_pos c1).symm h
    replace h := xb h
    obtain ⟨q2, eq2, h⟩ := h
    refine q_callV X Y hl.1 (rest := []) (As := [.int p1]) (c_X11_isPoly l G z f h0 p1 _ eq2) cd_X11_isPoly lv_X11_109_10 c1 ⟨(Nat.le_of_ble_eq_true rfl), (Nat.le_of_ble_eq_true rfl)⟩ ⟨(Nat.le_of_ble_eq_true rfl), (Nat.le_of_ble_eq_true rfl)⟩ rfl rfl (Nat.le_of_ble_eq_true rfl) dX11_span_2 (fun H locs Y => ?_)
    refine W.eq (g2 := F0 m 5 ls [.int q2]) rfl ?_
    refine lv_if_ne (tgt := 10) hx hb dX11_span_5 (by decide) (fun c3 => ?_) (fun c3 => ?_)
    · replace h := Eq.trans (if_neg c3).symm h
      refine lv_iload_n hx hb dX11_span_10 rfl (lv_at hl 2 rfl) ?_
      refine lv_i2l hx hb dX11_span_11 rfl ?_
      refine lv_lconst (v := 1) hx hb dX11_span_12 (by decide) ?_
      refine lv_ldc2 (v := 1000) hx hb X.1.2.2.2.1 (X.1.2.2.2.2 _ xw_958) dX11_span_13 ?_
      replace h := xb h
      obtain ⟨q4, eq4, h⟩ := h
      refine q_callS X Y hl.1 (rest := []) (As := [.long p2.toInt64, .long (1 : Int64), .long (1000 : Int64)]) (c_X11_within l G z f p2.toInt64 (1 : Int64) (1000 : Int64) _ eq4) cd_X11_within ls_X11_82 ⟨(Nat.le_of_ble_eq_true rfl), (Nat.le_of_ble_eq_true rfl)⟩ ⟨(Nat.le_of_ble_eq_true rfl), (Nat.le_of_ble_eq_true rfl)⟩ rfl rfl (Nat.le_of_ble_eq_true rfl) dX11_span_16 (fun H locs Y => ?_)
      refine W.eq (g2 := F0 m 19 ls [.int q4]) rfl ?_
      refine lv_if_eq (tgt := 44) hx hb dX11_span_19 (by decide) (fun c5 => ?_) (fun c5 => ?_)
      · replace h := Eq.trans (if_pos c5).symm h
        refine lv_bipush (v := -2) hx hb dX11_span_44 (by decide) ?_
        replace h := Option.some.inj h
        subst h
        exact q_reti X Y hr hlocks (Nat.le_of_ble_eq_true rfl) (Nat.le_of_ble_eq_true rfl) dX11_span_46
      · replace h := Eq.trans (if_neg c5).symm h
        refine lv_iload_n hx hb dX11_span_22 rfl (lv_at hl 3 rfl) ?_
        refine lv_i2l hx hb dX11_span_23 rfl ?_
        refine lv_lconst (v := 1) hx hb dX11_span_24 (by decide) ?_
        refine lv_ldc2 (v := 1000) hx hb X.1.2.2.2.1 (X.1.2.2.2.2 _ xw_958) dX11_span_25 ?_
        replace h := xb h
        obtain ⟨q6, eq6, h⟩ := h
        refine q_callS X Y hl.1 (rest := []) (As := [.long p3.toInt64, .long (1 : Int64), .long (1000 : Int64)]) (c_X11_within l G z f p3.toInt64 (1 : Int64) (1000 : Int64) _ eq6) cd_X11_within ls_X11_82 ⟨(Nat.le_of_ble_eq_true rfl), (Nat.le_of_ble_eq_true rfl)⟩ ⟨(Nat.le_of_ble_eq_true rfl), (Nat.le_of_ble_eq_true rfl)⟩ rfl rfl (Nat.le_of_ble_eq_true rfl) dX11_span_28 (fun H locs Y => ?_)
        refine W.eq (g2 := F0 m 31 ls [.int q6]) rfl ?_
        refine lv_if_eq (tgt := 44) hx hb dX11_span_31 (by decide) (fun c7 => ?_) (fun c7 => ?_)
        · replace h := Eq.trans (if_pos c7).symm h
          refine lv_bipush (v := -2) hx hb dX11_span_44 (by decide) ?_
          replace h := Option.some.inj h
          subst h
          exact q_reti X Y hr hlocks (Nat.le_of_ble_eq_true rfl) (Nat.le_of_ble_eq_true rfl) dX11_span_46
        · replace h := Eq.trans (if_neg c7).symm h
          refine lv_iload hx hb dX11_span_34 (lv_at hl 4 rfl) ?_
          refine lv_iload hx hb dX11_span_36 (lv_at hl 5 rfl) ?_
          replace h := xb h
          obtain ⟨q8, eq8, h⟩ := h
          refine q_callS X Y hl.1 (rest := []) (As := [.int p4, .int p5]) (c_X11_isRange l G z f p4 p5 _ eq8) cd_X11_isRange ls_X11_134 ⟨(Nat.le_of_ble_eq_true rfl), (Nat.le_of_ble_eq_true rfl)⟩ ⟨(Nat.le_of_ble_eq_true rfl), (Nat.le_of_ble_eq_true rfl)⟩ rfl rfl (Nat.le_of_ble_eq_true rfl) dX11_span_38 (fun H locs Y => ?_)
          refine W.eq (g2 := F0 m 41 ls [.int q8]) rfl ?_
          refine lv_if_ne (tgt := 47) hx hb dX11_span_41 (by decide) (fun c9 => ?_) (fun c9 => ?_)
          · replace h := Eq.trans (if_neg c9).symm h
            refine lv_aload_n hx hb dX11_span_47 rfl (lv_at hl 0 rfl) ?_
            refine lv_iload_n hx hb dX11_span_48 rfl (lv_at hl 1 rfl) ?_
            by_cases c10 : hKd f h0 = some 10
            · replace h := Eq.trans (if_pos c10).symm h
              replace h := xb h
              obtain ⟨q11, eq11, h⟩ := h
              refine q_callV X Y hl.1 (rest := []) (As := [.int p1]) (c_X11_hasOther l G z f h0 p1 _ eq11) cd_X11_hasOther lv_X11_195_10 c10 ⟨(Nat.le_of_ble_eq_true rfl), (Nat.le_of_ble_eq_true rfl)⟩ ⟨(Nat.le_of_ble_eq_true rfl), (Nat.le_of_ble_eq_true rfl)⟩ rfl rfl (Nat.le_of_ble_eq_true rfl) dX11_span_49 (fun H locs Y => ?_)
              refine W.eq (g2 := F0 m 52 ls [.int q11]) rfl ?_
              refine lv_if_eq (tgt := 58) hx hb dX11_span_52 (by decide) (fun c12 => ?_) (fun c12 => ?_)
              · replace h := Eq.trans (if_pos c12).symm h
                refine lv_aload_n hx hb dX11_span_58 rfl (lv_at hl 0 rfl) ?_
                refine lv_iload_n hx hb dX11_span_59 rfl (lv_at hl 1 rfl) ?_
                refine lv_bipush (v := 6) hx hb dX11_span_60 (by decide) ?_
                by_cases c13 : hKd f h0 = some 10
                · replace h := Eq.trans (if_pos c13).symm h
                  replace h := xb h
                  obtain ⟨q14, eq14, h⟩ := h
                  refine q_callV X Y hl.1 (rest := []) (As := [.int p1, .int (6 : Int32)]) (c_X11_termOf l G z f h0 p1 (6 : Int32) _ eq14) cd_X11_termOf lv_X11_113_10 c13 ⟨(Nat.le_of_ble_eq_true rfl), (Nat.le_of_ble_eq_true rfl)⟩ ⟨(Nat.le_of_ble_eq_true rfl), (Nat.le_of_ble_eq_true rfl)⟩ rfl rfl (Nat.le_of_ble_eq_true rfl) dX11_span_62 (fun H locs Y => ?_)
                  refine W.eq (g2 := F0 m 65 ls [.long q14]) rfl ?_
                  refine lv_iload_n hx hb dX11_span_65 rfl (lv_at hl 3 rfl) ?_
                  refine lv_i2l hx hb dX11_span_66 rfl ?_
                  refine lv_lmul hx hb dX11_span_67 ?_
                  refine lv_iload_n hx hb dX11_span_68 rfl (lv_at hl 2 rfl) ?_
                  refine lv_i2l hx hb dX11_span_69 rfl ?_
                  refine lv_ladd hx hb dX11_span_70 ?_
                  refine lv_lstore (lv' := [(6, .long ((q14 * p3.toInt64) + p2.toInt64)), (0, .ref h0), (1, .int p1), (2, .int p2), (3, .int p3), (4, .int p4), (5, .int p5)]) hx hb dX11_span_71 hl (by decide) rfl (fun ls hl => ?_)
                  refine lv_aload_n hx hb dX11_span_73 rfl (lv_at hl 1 rfl) ?_
                  refine lv_iload_n hx hb dX11_span_74 rfl (lv_at hl 2 rfl) ?_
                  refine lv_iconst (v := 3) hx hb dX11_span_75 (by decide) ?_
                  by_cases c15 : hKd f h0 = some 10
                  · replace h := Eq.trans (if_pos c15).symm h
                    replace h := xb h
                    obtain ⟨q16, eq16, h⟩ := h
                    refine q_callV X Y hl.1 (rest := []) (As := [.int p1, .int (3 : Int32)]) (c_X11_termOf l G z f h0 p1 (3 : Int32) _ eq16) cd_X11_termOf lv_X11_113_10 c15 ⟨(Nat.le_of_ble_eq_true rfl), (Nat.le_of_ble_eq_true rfl)⟩ ⟨(Nat.le_of_ble_eq_true rfl), (Nat.le_of_ble_eq_true rfl)⟩ rfl rfl (Nat.le_of_ble_eq_true rfl) dX11_span_76 (fun H locs Y => ?_)
                    refine W.eq (g2 := F0 m 79 ls [.long q16]) rfl ?_
                    refine lv_iload_n hx hb dX11_span_79 rfl (lv_at hl 4 rfl) ?_
                    refine lv_i2l hx hb dX11_span_80 rfl ?_
                    refine lv_lmul hx hb dX11_span_81 ?_
                    refine lv_ldc2 (v := 256) hx hb X.1.2.2.2.1 (X.1.2.2.2.2 _ xw_994) dX11_span_82 ?_
                    refine lv_lmul hx hb dX11_span_85 ?_
                    refine lv_iload_n hx hb dX11_span_86 rfl (lv_at hl 3 rfl) ?_
                    refine lv_i2l hx hb dX11_span_87 rfl ?_
                    refine lv_iload hx hb dX11_span_88 (lv_at hl 5 rfl) ?_
                    refine lv_iload hx hb dX11_span_90 (lv_at hl 6 rfl) ?_
                    refine lv_iadd hx hb dX11_span_92 ?_
                    refine lv_i2l hx hb dX11_span_93 rfl ?_
                    refine lv_lmul hx hb dX11_span_94 ?_
                    refine lv_lsub hx hb dX11_span_95 ?_
                    refine lv_lstore (lv' := [(8, .long (((q16 * p3.toInt64) * (256 : Int64)) - (p2.toInt64 * (p4 + p5).toInt64))), (6, .long ((q14 * p3.toInt64) + p2.toInt64)), (0, .ref h0), (1, .int p1), (2, .int p2), (3, .int p3), (4, .int p4), (5, .int p5)]) hx hb dX11_span_96 hl (by decide) rfl (fun ls hl => ?_)
                    refine lv_aload_n hx hb dX11_span_98 rfl (lv_at hl 2 rfl) ?_
                    refine lv_iload_n hx hb dX11_span_99 rfl (lv_at hl 3 rfl) ?_
                    refine lv_iconst (v := 0) hx hb dX11_span_100 (by decide) ?_
                    by_cases c17 : hKd f h0 = some 10
                    · replace h := Eq.trans (if_pos c17).symm h
                      replace h := xb h
                      obtain ⟨q18, eq18, h⟩ := h
                      refine q_callV X Y hl.1 (rest := []) (As := [.int p1, .int (0 : Int32)]) (c_X11_termOf l G z f h0 p1 (0 : Int32) _ eq18) cd_X11_termOf lv_X11_113_10 c17 ⟨(Nat.le_of_ble_eq_true rfl), (Nat.le_of_ble_eq_true rfl)⟩ ⟨(Nat.le_of_ble_eq_true rfl), (Nat.le_of_ble_eq_true rfl)⟩ rfl rfl (Nat.le_of_ble_eq_true rfl) dX11_span_101 (fun H locs Y => ?_)
                      refine W.eq (g2 := F0 m 104 ls [.long q18]) rfl ?_
                      refine lv_iload_n hx hb dX11_span_104 rfl (lv_at hl 5 rfl) ?_
                      refine lv_i2l hx hb dX11_span_105 rfl ?_
                      refine lv_lmul hx hb dX11_span_106 ?_
                      refine lv_ldc2 (v := 65536) hx hb X.1.2.2.2.1 (X.1.2.2.2.2 _ xw_993) dX11_span_107 ?_
                      refine lv_lmul hx hb dX11_span_110 ?_
                      refine lv_iload_n hx hb dX11_span_111 rfl (lv_at hl 4 rfl) ?_
                      refine lv_i2l hx hb dX11_span_112 rfl ?_
                      refine lv_iload hx hb dX11_span_113 (lv_at hl 6 rfl) ?_
                      refine lv_i2l hx hb dX11_span_115 rfl ?_
                      refine lv_lmul hx hb dX11_span_116 ?_
                      refine lv_iload hx hb dX11_span_117 (lv_at hl 7 rfl) ?_
                      refine lv_i2l hx hb dX11_span_119 rfl ?_
                      refine lv_lmul hx hb dX11_span_120 ?_
                      refine lv_ladd hx hb dX11_span_121 ?_
                      refine lv_lstore (lv' := [(10, .long (((q18 * p3.toInt64) * (65536 : Int64)) + ((p2.toInt64 * p4.toInt64) * p5.toInt64))), (8, .long (((q16 * p3.toInt64) * (256 : Int64)) - (p2.toInt64 * (p4 + p5).toInt64))), (6, .long ((q14 * p3.toInt64) + p2.toInt64)), (0, .ref h0), (1, .int p1), (2, .int p2), (3, .int p3), (4, .int p4), (5, .int p5)]) hx hb dX11_span_122 hl (by decide) rfl (fun ls hl => ?_)
                      refine lv_lload hx hb dX11_span_124 (lv_at hl 2 rfl) ?_
                      refine lv_iload_n hx hb dX11_span_126 rfl (lv_at hl 6 rfl) ?_
                      refine lv_i2l hx hb dX11_span_127 rfl ?_
                      replace h := xb h
                      obtain ⟨q19, eq19, h⟩ := h
                      refine q_callS X Y hl.1 (rest := []) (As := [.long ((q14 * p3.toInt64) + p2.toInt64), .long p3.toInt64]) (c_X11_mayBe l G z f ((q14 * p3.toInt64) + p2.toInt64) p3.toInt64 _ eq19) cd_X11_mayBe ls_X11_223 ⟨(Nat.le_of_ble_eq_true rfl), (Nat.le_of_ble_eq_true rfl)⟩ ⟨(Nat.le_of_ble_eq_true rfl), (Nat.le_of_ble_eq_true rfl)⟩ rfl rfl (Nat.le_of_ble_eq_true rfl) dX11_span_128 (fun H locs Y => ?_)
                      refine W.eq (g2 := F0 m 131 ls [.int q19]) rfl ?_
                      refine lv_if_eq (tgt := 162) hx hb dX11_span_131 (by decide) (fun c20 => ?_) (fun c20 => ?_)
                      · replace h := Eq.trans (if_pos c20).symm h
                        refine lv_bipush (v := -3) hx hb dX11_span_162 (by decide) ?_
                        replace h := Option.some.inj h
                        subst h
                        exact q_reti X Y hr hlocks (Nat.le_of_ble_eq_true rfl) (Nat.le_of_ble_eq_true rfl) dX11_span_164
                      · replace h := Eq.trans (if_neg c20).symm h
                        refine lv_lload hx hb dX11_span_134 (lv_at hl 1 rfl) ?_
                        refine lv_ldc2 (v := 256) hx hb X.1.2.2.2.1 (X.1.2.2.2.2 _ xw_994) dX11_span_136 ?_
                        refine lv_iload_n hx hb dX11_span_139 rfl (lv_at hl 6 rfl) ?_
                        refine lv_i2l hx hb dX11_span_140 rfl ?_
                        refine lv_lmul hx hb dX11_span_141 ?_
                        replace h := xb h
                        obtain ⟨q21, eq21, h⟩ := h
                        refine q_callS X Y hl.1 (rest := []) (As := [.long (((q16 * p3.toInt64) * (256 : Int64)) - (p2.toInt64 * (p4 + p5).toInt64)), .long ((256 : Int64) * p3.toInt64)]) (c_X11_mayBe l G z f (((q16 * p3.toInt64) * (256 : Int64)) - (p2.toInt64 * (p4 + p5).toInt64)) ((256 : Int64) * p3.toInt64) _ eq21) cd_X11_mayBe ls_X11_223 ⟨(Nat.le_of_ble_eq_true rfl), (Nat.le_of_ble_eq_true rfl)⟩ ⟨(Nat.le_of_ble_eq_true rfl), (Nat.le_of_ble_eq_true rfl)⟩ rfl rfl (Nat.le_of_ble_eq_true rfl) dX11_span_142 (fun H locs Y => ?_)
                        refine W.eq (g2 := F0 m 145 ls [.int q21]) rfl ?_
                        refine lv_if_eq (tgt := 162) hx hb dX11_span_145 (by decide) (fun c22 => ?_) (fun c22 => ?_)
                        · replace h := Eq.trans (if_pos c22).symm h
                          refine lv_bipush (v := -3) hx hb dX11_span_162 (by decide) ?_
                          replace h := Option.some.inj h
                          subst h
                          exact q_reti X Y hr hlocks (Nat.le_of_ble_eq_true rfl) (Nat.le_of_ble_eq_true rfl) dX11_span_164
                        · replace h := Eq.trans (if_neg c22).symm h
                          refine lv_lload hx hb dX11_span_148 (lv_at hl 0 rfl) ?_
                          refine lv_ldc2 (v := 65536) hx hb X.1.2.2.2.1 (X.1.2.2.2.2 _ xw_993) dX11_span_150 ?_
                          refine lv_iload_n hx hb dX11_span_153 rfl (lv_at hl 6 rfl) ?_
                          refine lv_i2l hx hb dX11_span_154 rfl ?_
                          refine lv_lmul hx hb dX11_span_155 ?_
                          replace h := xb h
                          obtain ⟨q23, eq23, h⟩ := h
                          refine q_callS X Y hl.1 (rest := []) (As := [.long (((q18 * p3.toInt64) * (65536 : Int64)) + ((p2.toInt64 * p4.toInt64) * p5.toInt64)), .long ((65536 : Int64) * p3.toInt64)]) (c_X11_mayBe l G z f (((q18 * p3.toInt64) * (65536 : Int64)) + ((p2.toInt64 * p4.toInt64) * p5.toInt64)) ((65536 : Int64) * p3.toInt64) _ eq23) cd_X11_mayBe ls_X11_223 ⟨(Nat.le_of_ble_eq_true rfl), (Nat.le_of_ble_eq_true rfl)⟩ ⟨(Nat.le_of_ble_eq_true rfl), (Nat.le_of_ble_eq_true rfl)⟩ rfl rfl (Nat.le_of_ble_eq_true rfl) dX11_span_156 (fun H locs Y => ?_)
                          refine W.eq (g2 := F0 m 159 ls [.int q23]) rfl ?_
                          refine lv_if_ne (tgt := 165) hx hb dX11_span_159 (by decide) (fun c24 => ?_) (fun c24 => ?_)
                          · replace h := Eq.trans (if_neg c24).symm h
                            refine lv_aload_n hx hb dX11_span_165 rfl (lv_at hl 3 rfl) ?_
                            refine lv_lload hx hb dX11_span_166 (lv_at hl 2 rfl) ?_
                            refine lv_iload_n hx hb dX11_span_168 rfl (lv_at hl 6 rfl) ?_
                            refine lv_i2l hx hb dX11_span_169 rfl ?_
                            by_cases c25 : p3.toInt64 = 0
                            · exact absurd (Eq.trans (if_pos c25).symm h) (by intro q; cases q)
                            replace h := Eq.trans (if_neg c25).symm h
                            refine lv_ldiv hx hb dX11_span_170 c25 ?_
                            refine lv_aload_n hx hb dX11_span_171 rfl (lv_at hl 3 rfl) ?_
                            refine lv_iload_n hx hb dX11_span_172 rfl (lv_at hl 4 rfl) ?_
                            refine lv_iconst (v := 4) hx hb dX11_span_173 (by decide) ?_
                            by_cases c26 : hKd f h0 = some 10
                            · replace h := Eq.trans (if_pos c26).symm h
                              replace h := xb h
                              obtain ⟨q27, eq27, h⟩ := h
                              refine q_callV X Y hl.1 (rest := [.long (((q14 * p3.toInt64) + p2.toInt64) / p3.toInt64), .ref h0]) (As := [.int p1, .int (4 : Int32)]) (c_X11_termOf l G z f h0 p1 (4 : Int32) _ eq27) cd_X11_termOf lv_X11_113_10 c26 ⟨(Nat.le_of_ble_eq_true rfl), (Nat.le_of_ble_eq_true rfl)⟩ ⟨(Nat.le_of_ble_eq_true rfl), (Nat.le_of_ble_eq_true rfl)⟩ rfl rfl (Nat.le_of_ble_eq_true rfl) dX11_span_174 (fun H locs Y => ?_)
                              refine W.eq (g2 := F0 m 177 ls [.long q27, .long (((q14 * p3.toInt64) + p2.toInt64) / p3.toInt64), .ref h0]) rfl ?_
                              refine lv_lload hx hb dX11_span_177 (lv_at hl 1 rfl) ?_
                              refine lv_ldc2 (v := 256) hx hb X.1.2.2.2.1 (X.1.2.2.2.2 _ xw_994) dX11_span_179 ?_
                              refine lv_iload_n hx hb dX11_span_182 rfl (lv_at hl 6 rfl) ?_
                              refine lv_i2l hx hb dX11_span_183 rfl ?_
                              refine lv_lmul hx hb dX11_span_184 ?_
                              by_cases c28 : ((256 : Int64) * p3.toInt64) = 0
                              · exact absurd (Eq.trans (if_pos c28).symm h) (by intro q; cases q)
                              replace h := Eq.trans (if_neg c28).symm h
                              refine lv_ldiv hx hb dX11_span_185 c28 ?_
                              refine lv_aload_n hx hb dX11_span_186 rfl (lv_at hl 3 rfl) ?_
                              refine lv_iload_n hx hb dX11_span_187 rfl (lv_at hl 4 rfl) ?_
                              refine lv_iconst (v := 2) hx hb dX11_span_188 (by decide) ?_
                              by_cases c29 : hKd f h0 = some 10
                              · replace h := Eq.trans (if_pos c29).symm h
                                replace h := xb h
                                obtain ⟨q30, eq30, h⟩ := h
                                refine q_callV X Y hl.1 (rest := [.long ((((q16 * p3.toInt64) * (256 : Int64)) - (p2.toInt64 * (p4 + p5).toInt64)) / ((256 : Int64) * p3.toInt64)), .long q27, .long (((q14 * p3.toInt64) + p2.toInt64) / p3.toInt64), .ref h0]) (As := [.int p1, .int (2 : Int32)]) (c_X11_termOf l G z f h0 p1 (2 : Int32) _ eq30) cd_X11_termOf lv_X11_113_10 c29 ⟨(Nat.le_of_ble_eq_true rfl), (Nat.le_of_ble_eq_true rfl)⟩ ⟨(Nat.le_of_ble_eq_true rfl), (Nat.le_of_ble_eq_true rfl)⟩ rfl rfl (Nat.le_of_ble_eq_true rfl) dX11_span_189 (fun H locs Y => ?_)
                                refine W.eq (g2 := F0 m 192 ls [.long q30, .long ((((q16 * p3.toInt64) * (256 : Int64)) - (p2.toInt64 * (p4 + p5).toInt64)) / ((256 : Int64) * p3.toInt64)), .long q27, .long (((q14 * p3.toInt64) + p2.toInt64) / p3.toInt64), .ref h0]) rfl ?_
                                refine lv_aload_n hx hb dX11_span_192 rfl (lv_at hl 3 rfl) ?_
                                refine lv_iload_n hx hb dX11_span_193 rfl (lv_at hl 4 rfl) ?_
                                refine lv_iconst (v := 1) hx hb dX11_span_194 (by decide) ?_
                                by_cases c31 : hKd f h0 = some 10
                                · replace h := Eq.trans (if_pos c31).symm h
                                  replace h := xb h
                                  obtain ⟨q32, eq32, h⟩ := h
                                  refine q_callVW X Y hl.1 (rest := [.long q30, .long ((((q16 * p3.toInt64) * (256 : Int64)) - (p2.toInt64 * (p4 + p5).toInt64)) / ((256 : Int64) * p3.toInt64)), .long q27, .long (((q14 * p3.toInt64) + p2.toInt64) / p3.toInt64), .ref h0]) (As := [.int p1, .int (1 : Int32)]) (c_X11_termOf l G z f h0 p1 (1 : Int32) _ eq32) cd_X11_termOf lv_X11_113_10 c31 ⟨(Nat.le_of_ble_eq_true rfl), (Nat.le_of_ble_eq_true rfl)⟩ ⟨(Nat.le_of_ble_eq_true rfl), (Nat.le_of_ble_eq_true rfl)⟩ rfl rfl (Nat.le_of_ble_eq_true rfl) dX11_span_195 (fun H locs Y => ?_)
                                  refine W.eq (g2 := F0 m 198 ls [.long q32, .long q30, .long ((((q16 * p3.toInt64) * (256 : Int64)) - (p2.toInt64 * (p4 + p5).toInt64)) / ((256 : Int64) * p3.toInt64)), .long q27, .long (((q14 * p3.toInt64) + p2.toInt64) / p3.toInt64), .ref h0]) rfl ?_
                                  refine lv_lload hx hb dX11_span_198 (lv_at hl 0 rfl) ?_
                                  refine lv_ldc2 (v := 65536) hx hb X.1.2.2.2.1 (X.1.2.2.2.2 _ xw_993) dX11_span_200 ?_
                                  refine lv_iload_n hx hb dX11_span_203 rfl (lv_at hl 6 rfl) ?_
                                  refine lv_i2l hx hb dX11_span_204 rfl ?_
                                  refine lv_lmul hx hb dX11_span_205 ?_
                                  by_cases c33 : ((65536 : Int64) * p3.toInt64) = 0
                                  · exact absurd (Eq.trans (if_pos c33).symm h) (by intro q; cases q)
                                  replace h := Eq.trans (if_neg c33).symm h
                                  refine lv_ldiv hx hb dX11_span_206 c33 ?_
                                  by_cases c34 : hKd f h0 = some 10
                                  · replace h := Eq.trans (if_pos c34).symm h
                                    replace h := xb h
                                    obtain ⟨q35, eq35, h⟩ := h
                                    refine q_callV X Y hl.1 (rest := []) (As := [.long (((q14 * p3.toInt64) + p2.toInt64) / p3.toInt64), .long q27, .long ((((q16 * p3.toInt64) * (256 : Int64)) - (p2.toInt64 * (p4 + p5).toInt64)) / ((256 : Int64) * p3.toInt64)), .long q30, .long q32, .long ((((q18 * p3.toInt64) * (65536 : Int64)) + ((p2.toInt64 * p4.toInt64) * p5.toInt64)) / ((65536 : Int64) * p3.toInt64))]) (c_X11_layForm l G z f h0 (((q14 * p3.toInt64) + p2.toInt64) / p3.toInt64) q27 ((((q16 * p3.toInt64) * (256 : Int64)) - (p2.toInt64 * (p4 + p5).toInt64)) / ((256 : Int64) * p3.toInt64)) q30 q32 ((((q18 * p3.toInt64) * (65536 : Int64)) + ((p2.toInt64 * p4.toInt64) * p5.toInt64)) / ((65536 : Int64) * p3.toInt64)) _ eq35) cd_X11_layForm lv_X11_198_10 c34 ⟨(Nat.le_of_ble_eq_true rfl), (Nat.le_of_ble_eq_true rfl)⟩ ⟨(Nat.le_of_ble_eq_true rfl), (Nat.le_of_ble_eq_true rfl)⟩ rfl rfl (Nat.le_of_ble_eq_true rfl) dX11_span_207 (fun H locs Y => ?_)
                                    refine W.eq (g2 := F0 m 210 ls []) rfl ?_
                                    refine lv_aload_n hx hb dX11_span_210 rfl (lv_at hl 3 rfl) ?_
                                    by_cases c36 : hKd q35 h0 = some 10
                                    · replace h := Eq.trans (if_pos c36).symm h
                                      replace h := xb h
                                      obtain ⟨q37, eq37, h⟩ := h
                                      refine q_callV X Y hl.1 (rest := []) (As := []) (c_X11_findSquares l G z q35 h0 _ eq37) cd_X11_findSquares lv_X11_212_10 c36 ⟨(Nat.le_of_ble_eq_true rfl), (Nat.le_of_ble_eq_true rfl)⟩ ⟨(Nat.le_of_ble_eq_true rfl), (Nat.le_of_ble_eq_true rfl)⟩ rfl rfl (Nat.le_of_ble_eq_true rfl) dX11_span_211 (fun H locs Y => ?_)
                                      refine W.eq (g2 := F0 m 214 ls [.int q37.1]) rfl ?_
                                      refine lv_if_ne (tgt := 220) hx hb dX11_span_214 (by decide) (fun c38 => ?_) (fun c38 => ?_)
                                      · replace h := Eq.trans (if_neg c38).symm h
                                        refine lv_aload_n hx hb dX11_span_220 rfl (lv_at hl 3 rfl) ?_
                                        replace h := xb h
                                        obtain ⟨v39, ev39, h⟩ := h
                                        refine q_getI X Y fl_X11_205 ev39 dX11_span_221 ?_
                                        refine lv_bipush (v := 40) hx hb dX11_span_224 (by decide) ?_
                                        refine lv_icmp_ne (tgt := 232) hx hb dX11_span_226 (by decide) (fun c40 => ?_) (fun c40 => ?_)
                                        · replace h := Eq.trans (if_neg c40).symm h
                                          refine lv_aload_n hx hb dX11_span_232 rfl (lv_at hl 3 rfl) ?_
                                          refine lv_iconst (v := 3) hx hb dX11_span_233 (by decide) ?_
                                          refine lv_iload_n hx hb dX11_span_234 rfl (lv_at hl 4 rfl) ?_
                                          refine lv_bipush (v := -9) hx hb dX11_span_235 (by decide) ?_
                                          by_cases c41 : hKd q37.2 h0 = some 10
                                          · replace h := Eq.trans (if_pos c41).symm h
                                            replace h := xb h
                                            obtain ⟨q42, eq42, h⟩ := h
                                            refine q_callV X Y hl.1 (rest := []) (As := [.int (3 : Int32), .int p1, .int (-9 : Int32)]) (c_X11_newProof l G z q37.2 h0 (3 : Int32) p1 (-9 : Int32) _ eq42) cd_X11_newProof lv_X11_216_10 c41 ⟨(Nat.le_of_ble_eq_true rfl), (Nat.le_of_ble_eq_true rfl)⟩ ⟨(Nat.le_of_ble_eq_true rfl), (Nat.le_of_ble_eq_true rfl)⟩ rfl rfl (Nat.le_of_ble_eq_true rfl) dX11_span_237 (fun H locs Y => ?_)
                                            refine W.eq (g2 := F0 m 240 ls [.int q42.1]) rfl ?_
                                            refine lv_istore (lv' := [(12, .int q42.1), (10, .long (((q18 * p3.toInt64) * (65536 : Int64)) + ((p2.toInt64 * p4.toInt64) * p5.toInt64))), (8, .long (((q16 * p3.toInt64) * (256 : Int64)) - (p2.toInt64 * (p4 + p5).toInt64))), (6, .long ((q14 * p3.toInt64) + p2.toInt64)), (0, .ref h0), (1, .int p1), (2, .int p2), (3, .int p3), (4, .int p4), (5, .int p5)]) hx hb dX11_span_240 hl (by decide) rfl (fun ls hl => ?_)
                                            refine lv_aload_n hx hb dX11_span_242 rfl (lv_at hl 4 rfl) ?_
                                            refine lv_iload hx hb dX11_span_243 (lv_at hl 0 rfl) ?_
                                            by_cases c43 : hKd q42.2 h0 = some 10
                                            · replace h := Eq.trans (if_pos c43).symm h
                                              replace h := xb h
                                              obtain ⟨q44, eq44, h⟩ := h
                                              refine q_callV X Y hl.1 (rest := []) (As := [.int q42.1]) (c_X11_tellSquares l G z q42.2 h0 q42.1 _ eq44) cd_X11_tellSquares lv_X11_220_10 c43 ⟨(Nat.le_of_ble_eq_true rfl), (Nat.le_of_ble_eq_true rfl)⟩ ⟨(Nat.le_of_ble_eq_true rfl), (Nat.le_of_ble_eq_true rfl)⟩ rfl rfl (Nat.le_of_ble_eq_true rfl) dX11_span_245 (fun H locs Y => ?_)
                                              refine W.eq (g2 := F0 m 248 ls []) rfl ?_
                                              refine lv_aload_n hx hb dX11_span_248 rfl (lv_at hl 4 rfl) ?_
                                              refine lv_iload hx hb dX11_span_249 (lv_at hl 0 rfl) ?_
                                              refine lv_iload_n hx hb dX11_span_251 rfl (lv_at hl 6 rfl) ?_
                                              refine lv_i2l hx hb dX11_span_252 rfl ?_
                                              by_cases c45 : hKd q44 h0 = some 10
                                              · replace h := Eq.trans (if_pos c45).symm h
                                                replace h := xb h
                                                obtain ⟨q46, eq46, h⟩ := h
                                                refine q_callV X Y hl.1 (rest := []) (As := [.int q42.1, .long p2.toInt64]) (c_X11_tellNumber l G z q44 h0 q42.1 p2.toInt64 _ eq46) cd_X11_tellNumber lv_X11_208_10 c45 ⟨(Nat.le_of_ble_eq_true rfl), (Nat.le_of_ble_eq_true rfl)⟩ ⟨(Nat.le_of_ble_eq_true rfl), (Nat.le_of_ble_eq_true rfl)⟩ rfl rfl (Nat.le_of_ble_eq_true rfl) dX11_span_253 (fun H locs Y => ?_)
                                                refine W.eq (g2 := F0 m 256 ls []) rfl ?_
                                                refine lv_aload_n hx hb dX11_span_256 rfl (lv_at hl 4 rfl) ?_
                                                refine lv_iload hx hb dX11_span_257 (lv_at hl 0 rfl) ?_
                                                refine lv_iload_n hx hb dX11_span_259 rfl (lv_at hl 7 rfl) ?_
                                                refine lv_i2l hx hb dX11_span_260 rfl ?_
                                                by_cases c47 : hKd q46 h0 = some 10
                                                · replace h := Eq.trans (if_pos c47).symm h
                                                  replace h := xb h
                                                  obtain ⟨q48, eq48, h⟩ := h
                                                  refine q_callV X Y hl.1 (rest := []) (As := [.int q42.1, .long p3.toInt64]) (c_X11_tellNumber l G z q46 h0 q42.1 p3.toInt64 _ eq48) cd_X11_tellNumber lv_X11_208_10 c47 ⟨(Nat.le_of_ble_eq_true rfl), (Nat.le_of_ble_eq_true rfl)⟩ ⟨(Nat.le_of_ble_eq_true rfl), (Nat.le_of_ble_eq_true rfl)⟩ rfl rfl (Nat.le_of_ble_eq_true rfl) dX11_span_261 (fun H locs Y => ?_)
                                                  refine W.eq (g2 := F0 m 264 ls []) rfl ?_
                                                  refine lv_aload_n hx hb dX11_span_264 rfl (lv_at hl 4 rfl) ?_
                                                  refine lv_iload hx hb dX11_span_265 (lv_at hl 0 rfl) ?_
                                                  refine lv_iload hx hb dX11_span_267 (lv_at hl 8 rfl) ?_
                                                  refine lv_i2l hx hb dX11_span_269 rfl ?_
                                                  by_cases c49 : hKd q48 h0 = some 10
                                                  · replace h := Eq.trans (if_pos c49).symm h
                                                    replace h := xb h
                                                    obtain ⟨q50, eq50, h⟩ := h
                                                    refine q_callV X Y hl.1 (rest := []) (As := [.int q42.1, .long p4.toInt64]) (c_X11_tellNumber l G z q48 h0 q42.1 p4.toInt64 _ eq50) cd_X11_tellNumber lv_X11_208_10 c49 ⟨(Nat.le_of_ble_eq_true rfl), (Nat.le_of_ble_eq_true rfl)⟩ ⟨(Nat.le_of_ble_eq_true rfl), (Nat.le_of_ble_eq_true rfl)⟩ rfl rfl (Nat.le_of_ble_eq_true rfl) dX11_span_270 (fun H locs Y => ?_)
                                                    refine W.eq (g2 := F0 m 273 ls []) rfl ?_
                                                    refine lv_aload_n hx hb dX11_span_273 rfl (lv_at hl 4 rfl) ?_
                                                    refine lv_iload hx hb dX11_span_274 (lv_at hl 0 rfl) ?_
                                                    refine lv_iload hx hb dX11_span_276 (lv_at hl 9 rfl) ?_
                                                    refine lv_i2l hx hb dX11_span_278 rfl ?_
                                                    by_cases c51 : hKd q50 h0 = some 10
                                                    · replace h := Eq.trans (if_pos c51).symm h
                                                      replace h := xb h
                                                      obtain ⟨q52, eq52, h⟩ := h
                                                      refine q_callV X Y hl.1 (rest := []) (As := [.int q42.1, .long p5.toInt64]) (c_X11_tellNumber l G z q50 h0 q42.1 p5.toInt64 _ eq52) cd_X11_tellNumber lv_X11_208_10 c51 ⟨(Nat.le_of_ble_eq_true rfl), (Nat.le_of_ble_eq_true rfl)⟩ ⟨(Nat.le_of_ble_eq_true rfl), (Nat.le_of_ble_eq_true rfl)⟩ rfl rfl (Nat.le_of_ble_eq_true rfl) dX11_span_279 (fun H locs Y => ?_)
                                                      refine W.eq (g2 := F0 m 282 ls []) rfl ?_
                                                      refine lv_iload hx hb dX11_span_282 (lv_at hl 0 rfl) ?_
                                                      replace h := Option.some.inj h
                                                      subst h
                                                      exact q_reti X Y hr hlocks (Nat.le_of_ble_eq_true rfl) (Nat.le_of_ble_eq_true rfl) dX11_span_284
                                                    replace h := Eq.trans (if_neg c51).symm h
                                                    cases h
                                                  replace h := Eq.trans (if_neg c49).symm h
                                                  cases h
                                                replace h := Eq.trans (if_neg c47).symm h
                                                cases h
                                              replace h := Eq.trans (if_neg c45).symm h
                                              cases h
                                            replace h := Eq.trans (if_neg c43).symm h
                                            cases h
                                          replace h := Eq.trans (if_neg c41).symm h
                                          cases h
                                        · replace h := Eq.trans (if_pos c40).symm h
                                          refine lv_bipush (v := -4) hx hb dX11_span_229 (by decide) ?_
                                          replace h := Option.some.inj h
                                          subst h
                                          exact q_reti X Y hr hlocks (Nat.le_of_ble_eq_true rfl) (Nat.le_of_ble_eq_true rfl) dX11_span_231
                                      · replace h := Eq.trans (if_pos c38).symm h
                                        refine lv_bipush (v := -9) hx hb dX11_span_217 (by decide) ?_
                                        replace h := Option.some.inj h
                                        subst h
                                        exact q_reti X Y hr hlocks (Nat.le_of_ble_eq_true rfl) (Nat.le_of_ble_eq_true rfl) dX11_span_219
                                    replace h := Eq.trans (if_neg c36).symm h
                                    cases h
                                  replace h := Eq.trans (if_neg c34).symm h
                                  cases h
                                replace h := Eq.trans (if_neg c31).symm h
                                cases h
                              replace h := Eq.trans (if_neg c29).symm h
                              cases h
                            replace h := Eq.trans (if_neg c26).symm h
                            cases h
                          · replace h := Eq.trans (if_pos c24).symm h
                            refine lv_bipush (v := -3) hx hb dX11_span_162 (by decide) ?_
                            replace h := Option.some.inj h
                            subst h
                            exact q_reti X Y hr hlocks (Nat.le_of_ble_eq_true rfl) (Nat.le_of_ble_eq_true rfl) dX11_span_164
                    replace h := Eq.trans (if_neg c17).symm h
                    cases h
                  replace h := Eq.trans (if_neg c15).symm h
                  cases h
                replace h := Eq.trans (if_neg c13).symm h
                cases h
              · replace h := Eq.trans (if_neg c12).symm h
                refine lv_bipush (v := -3) hx hb dX11_span_55 (by decide) ?_
                replace h := Option.some.inj h
                subst h
                exact q_reti X Y hr hlocks (Nat.le_of_ble_eq_true rfl) (Nat.le_of_ble_eq_true rfl) dX11_span_57
            replace h := Eq.trans (if_neg c10).symm h
            cases h
          · replace h := Eq.trans (if_pos c9).symm h
            refine lv_bipush (v := -2) hx hb dX11_span_44 (by decide) ?_
            replace h := Option.some.inj h
            subst h
            exact q_reti X Y hr hlocks (Nat.le_of_ble_eq_true rfl) (Nat.le_of_ble_eq_true rfl) dX11_span_46
    · replace h := Eq.trans (if_pos c3).symm h
      refine lv_iconst (v := -1) hx hb dX11_span_8 (by decide) ?_
      replace h := Option.some.inj h
      subst h
      exact q_reti X Y hr hlocks (Nat.le_of_ble_eq_true rfl) (Nat.le_of_ble_eq_true rfl) dX11_span_9
  replace h := Eq.trans (if_neg c1).symm h
  cases h
/-! NeverBelowModel.isProof(I)Z -/
abbrev rm_X11_isProof : Room := { frames := 0, cells := 0, slots := 0, locals := 0 }
def F_X11_isProof (f : xHp) (h0 : Nat) (p1 : Int32) : Option (Int32) := if p1 < 0 then (some (0 : Int32)) else (Option.bind (hI f h0 [(10, 20)]) fun v2 => if v2 ≤ p1 then (some (0 : Int32)) else (some (1 : Int32)))
set_option maxRecDepth 100000 in
set_option maxHeartbeats 4000000 in
theorem c_X11_isProof (l : Launch) (G : xG) (z : Nat) (f : xHp) (h0 : Nat) (p1 : Int32) (rs : Int32) (h : F_X11_isProof f h0 p1 = some rs) : xM G l yX11_isProof cX11_isProof 2 (some .boolean) rm_X11_isProof [.ref h0, .int p1] z f (some (.int rs)) z f := by
  refine xM_of (by decide) (Nat.le_of_ble_eq_true rfl) ?_
  intro p e s m below meth c ls X hr hlocks hin Y hl
  have hl : lv_has ls 2 [(0, .ref h0), (1, .int p1)] := hl
  have hx := X.1.1
  have hb := X.1.2.1
  unfold F_X11_isProof at h
  refine lv_iload_n hx hb dX11_isProof_0 rfl (lv_at hl 1 rfl) ?_
  refine lv_if_lt (tgt := 16) hx hb dX11_isProof_1 (by decide) (fun c1 => ?_) (fun c1 => ?_)
  · replace h := Eq.trans (if_pos c1).symm h
    refine lv_iconst (v := 0) hx hb dX11_isProof_16 (by decide) ?_
    replace h := Option.some.inj h
    subst h
    exact q_retz (v := (0 : Int32)) X Y hr hlocks rfl (Nat.le_of_ble_eq_true rfl) (Nat.le_of_ble_eq_true rfl) dX11_isProof_17
  · replace h := Eq.trans (if_neg c1).symm h
    refine lv_iload_n hx hb dX11_isProof_4 rfl (lv_at hl 1 rfl) ?_
    refine lv_aload_n hx hb dX11_isProof_5 rfl (lv_at hl 0 rfl) ?_
    replace h := xb h
    obtain ⟨v2, ev2, h⟩ := h
    refine q_getI X Y fl_X11_205 ev2 dX11_isProof_6 ?_
    refine lv_icmp_ge (tgt := 16) hx hb dX11_isProof_9 (by decide) (fun c3 => ?_) (fun c3 => ?_)
    · replace h := Eq.trans (if_pos c3).symm h
      refine lv_iconst (v := 0) hx hb dX11_isProof_16 (by decide) ?_
      replace h := Option.some.inj h
      subst h
      exact q_retz (v := (0 : Int32)) X Y hr hlocks rfl (Nat.le_of_ble_eq_true rfl) (Nat.le_of_ble_eq_true rfl) dX11_isProof_17
    · replace h := Eq.trans (if_neg c3).symm h
      refine lv_iconst (v := 1) hx hb dX11_isProof_12 (by decide) ?_
      refine lv_goto (tgt := 17) hx hb dX11_isProof_13 (by decide) ?_
      replace h := Option.some.inj h
      subst h
      exact q_retz (v := (1 : Int32)) X Y hr hlocks rfl (Nat.le_of_ble_eq_true rfl) (Nat.le_of_ble_eq_true rfl) dX11_isProof_17
/-! NeverBelowModel.squaresIn(I)I -/
abbrev rm_X11_squaresIn : Room := { frames := 0, cells := 0, slots := 0, locals := 0 }
def F_X11_squaresIn_21 (f : xHp)   (s0 : Int32) (s1 : Int32) : Option (Int32) := some ((s1 - s0) / (5 : Int32))
def F_X11_squaresIn (f : xHp) (h0 : Nat) (p1 : Int32) : Option (Int32) := Option.bind (hN f h0 [(10, 24)]) fun v1 => Option.bind (hIld f v1 p1) fun v2 => Option.bind (hN f h0 [(10, 21)]) fun v3 => Option.bind (hIld f v3 p1) fun v4 => if v4 = (3 : Int32) then (F_X11_squaresIn_21 f (4 : Int32) v2) else (F_X11_squaresIn_21 f (0 : Int32) v2)
set_option maxRecDepth 100000 in
set_option maxHeartbeats 4000000 in
theorem w_X11_squaresIn_21 {p : Program} {l : Launch} {e : Env} {s : State} {m : MethodId} {args : Array Value} {below : List Frame} {meth : Method} {c : Code} {G : xG} {z : Nat} {f : xHp} (X : xC G p m c s args RX11 cX11_squaresIn 2) (hr : meth.sig.returnType = (some .int)) (hlocks : meth.locks = false) (hin : meth.name = yX11_squaresIn.name) (rs : Int32)  (s0 : Int32) (s1 : Int32) (H : Heap) (locs : List Loc) (ls : Array Slot) (h : F_X11_squaresIn_21 f  s0 s1 = some rs) (Y : xY G z f s H locs) (hl : lv_has ls 2 []) : W p l e rm_X11_squaresIn s m args below meth c H locs 0 0 (MQ below (xQ G (some (.int rs)) z f) args s rm_X11_squaresIn.cells rm_X11_squaresIn.slots (xA G)) (F0 m 21 ls [.int s0, .int s1]) := by
  have hx := X.1.1
  have hb := X.1.2.1
  unfold F_X11_squaresIn_21 at h
  refine lv_isub hx hb dX11_squaresIn_21 ?_
  refine lv_iconst (v := 5) hx hb dX11_squaresIn_22 (by decide) ?_
  refine lv_idiv hx hb dX11_squaresIn_23 (by decide) ?_
  replace h := Option.some.inj h
  subst h
  exact q_reti X Y hr hlocks (Nat.le_of_ble_eq_true rfl) (Nat.le_of_ble_eq_true rfl) dX11_squaresIn_24
set_option maxRecDepth 100000 in
set_option maxHeartbeats 4000000 in
theorem c_X11_squaresIn (l : Launch) (G : xG) (z : Nat) (f : xHp) (h0 : Nat) (p1 : Int32) (rs : Int32) (h : F_X11_squaresIn f h0 p1 = some rs) : xM G l yX11_squaresIn cX11_squaresIn 2 (some .int) rm_X11_squaresIn [.ref h0, .int p1] z f (some (.int rs)) z f := by
  refine xM_of (by decide) (Nat.le_of_ble_eq_true rfl) ?_
  intro p e s m below meth c ls X hr hlocks hin Y hl
  have hl : lv_has ls 2 [(0, .ref h0), (1, .int p1)] := hl
  have hx := X.1.1
  have hb := X.1.2.1
  unfold F_X11_squaresIn at h
  refine lv_aload_n hx hb dX11_squaresIn_0 rfl (lv_at hl 0 rfl) ?_
  replace h := xb h
  obtain ⟨v1, ev1, h⟩ := h
  refine q_getN X Y fl_X11_50 ev1 dX11_squaresIn_1 ?_
  refine lv_iload_n hx hb dX11_squaresIn_4 rfl (lv_at hl 1 rfl) ?_
  replace h := xb h
  obtain ⟨v2, ev2, h⟩ := h
  refine q_iald X Y ev2 dX11_squaresIn_5 ?_
  refine lv_aload_n hx hb dX11_squaresIn_6 rfl (lv_at hl 0 rfl) ?_
  replace h := xb h
  obtain ⟨v3, ev3, h⟩ := h
  refine q_getN X Y fl_X11_41 ev3 dX11_squaresIn_7 ?_
  refine lv_iload_n hx hb dX11_squaresIn_10 rfl (lv_at hl 1 rfl) ?_
  replace h := xb h
  obtain ⟨v4, ev4, h⟩ := h
  refine q_iald X Y ev4 dX11_squaresIn_11 ?_
  refine lv_iconst (v := 3) hx hb dX11_squaresIn_12 (by decide) ?_
  refine lv_icmp_ne (tgt := 20) hx hb dX11_squaresIn_13 (by decide) (fun c5 => ?_) (fun c5 => ?_)
  · replace h := Eq.trans (if_neg c5).symm h
    refine lv_iconst (v := 0) hx hb dX11_squaresIn_20 (by decide) ?_
    refine W.widen (k := 0) (n := 0) (Nat.le_of_ble_eq_true rfl) (Nat.le_of_ble_eq_true rfl) ?_
    exact w_X11_squaresIn_21 X hr hlocks hin rs   (0 : Int32) v2 _ _ _ h Y (lv_sub hl [] rfl)
  · replace h := Eq.trans (if_pos c5).symm h
    refine lv_iconst (v := 4) hx hb dX11_squaresIn_16 (by decide) ?_
    refine lv_goto (tgt := 21) hx hb dX11_squaresIn_17 (by decide) ?_
    refine W.widen (k := 0) (n := 0) (Nat.le_of_ble_eq_true rfl) (Nat.le_of_ble_eq_true rfl) ?_
    exact w_X11_squaresIn_21 X hr hlocks hin rs   (4 : Int32) v2 _ _ _ h Y (lv_sub hl [] rfl)
/-! NeverBelowModel.proof(II)I -/
abbrev rm_X11_proof : Room := { frames := 1, cells := 0, slots := 0, locals := 21 }
def F_X11_proof (f : xHp) (h0 : Nat) (p1 : Int32) (p2 : Int32) : Option (Int32) := if hKd f h0 = some 10 then (Option.bind (F_X11_isProof f h0 p1) fun q2 => if q2 = 0 then (some (-1 : Int32)) else (if p2 = 0 then Option.bind (hN f h0 [(10, 21)]) fun v5 => Option.bind (hIld f v5 p1) fun v6 => some v6 else if p2 = 1 then Option.bind (hN f h0 [(10, 22)]) fun v8 => Option.bind (hIld f v8 p1) fun v9 => some v9 else if p2 = 2 then Option.bind (hN f h0 [(10, 24)]) fun v11 => Option.bind (hIld f v11 p1) fun v12 => some v12 else if p2 = 3 then Option.bind (hN f h0 [(10, 21)]) fun v14 => Option.bind (hIld f v14 p1) fun v15 => if v15 = (1 : Int32) then (some (0 : Int32)) else (Option.bind (hN f h0 [(10, 21)]) fun v17 => Option.bind (hIld f v17 p1) fun v18 => if v18 = (2 : Int32) then (Option.bind (hN f h0 [(10, 24)]) fun v22 => Option.bind (hIld f v22 p1) fun v23 => some (v23 / (4 : Int32))) else (if hKd f h0 = some 10 then (Option.bind (F_X11_squaresIn f h0 p1) fun q21 => some q21) else none)) else if p2 = 4 then Option.bind (hN f h0 [(10, 23)]) fun v25 => Option.bind (hIld f v25 p1) fun v26 => some v26 else some (-2 : Int32))) else none
set_option maxRecDepth 100000 in
set_option maxHeartbeats 4000000 in
theorem c_X11_proof (l : Launch) (G : xG) (z : Nat) (f : xHp) (h0 : Nat) (p1 : Int32) (p2 : Int32) (rs : Int32) (h : F_X11_proof f h0 p1 p2 = some rs) : xM G l yX11_proof cX11_proof 3 (some .int) rm_X11_proof [.ref h0, .int p1, .int p2] z f (some (.int rs)) z f := by
  refine xM_of (by decide) (Nat.le_of_ble_eq_true rfl) ?_
  intro p e s m below meth c ls X hr hlocks hin Y hl
  have hl : lv_has ls 3 [(0, .ref h0), (1, .int p1), (2, .int p2)] := hl
  have hx := X.1.1
  have hb := X.1.2.1
  unfold F_X11_proof at h
  refine lv_aload_n hx hb dX11_proof_0 rfl (lv_at hl 0 rfl) ?_
  refine lv_iload_n hx hb dX11_proof_1 rfl (lv_at hl 1 rfl) ?_
  by_cases c1 : hKd f h0 = some 10
  · replace h := Eq.trans (if_pos c1).symm h
    replace h := xb h
    obtain ⟨q2, eq2, h⟩ := h
    refine q_callV X Y hl.1 (rest := []) (As := [.int p1]) (c_X11_isProof l G z f h0 p1 _ eq2) cd_X11_isProof lv_X11_227_10 c1 ⟨(Nat.le_of_ble_eq_true rfl), (Nat.le_of_ble_eq_true rfl)⟩ ⟨(Nat.le_of_ble_eq_true rfl), (Nat.le_of_ble_eq_true rfl)⟩ rfl rfl (Nat.le_of_ble_eq_true rfl) dX11_proof_2 (fun H locs Y => ?_)
    refine W.eq (g2 := F0 m 5 ls [.int q2]) rfl ?_
    refine lv_if_ne (tgt := 10) hx hb dX11_proof_5 (by decide) (fun c3 => ?_) (fun c3 => ?_)
    · replace h := Eq.trans (if_neg c3).symm h
      refine lv_iload_n hx hb dX11_proof_10 rfl (lv_at hl 2 rfl) ?_
      by_cases c4 : p2 = 0
      · replace h := Eq.trans (if_pos c4).symm h
        refine lv_tableIn (tgt := 44) hx hb dX11_proof_11 (by rw [c4]; decide) (by rw [c4]; decide) (by rw [c4]; rfl) (by decide) ?_
        refine lv_aload_n hx hb dX11_proof_44 rfl (lv_at hl 0 rfl) ?_
        replace h := xb h
        obtain ⟨v5, ev5, h⟩ := h
        refine q_getN X Y fl_X11_41 ev5 dX11_proof_45 ?_
        refine lv_iload_n hx hb dX11_proof_48 rfl (lv_at hl 1 rfl) ?_
        replace h := xb h
        obtain ⟨v6, ev6, h⟩ := h
        refine q_iald X Y ev6 dX11_proof_49 ?_
        replace h := Option.some.inj h
        subst h
        exact q_reti X Y hr hlocks (Nat.le_of_ble_eq_true rfl) (Nat.le_of_ble_eq_true rfl) dX11_proof_50
      replace h := Eq.trans (if_neg c4).symm h
      by_cases c7 : p2 = 1
      · replace h := Eq.trans (if_pos c7).symm h
        refine lv_tableIn (tgt := 51) hx hb dX11_proof_11 (by rw [c7]; decide) (by rw [c7]; decide) (by rw [c7]; rfl) (by decide) ?_
        refine lv_aload_n hx hb dX11_proof_51 rfl (lv_at hl 0 rfl) ?_
        replace h := xb h
        obtain ⟨v8, ev8, h⟩ := h
        refine q_getN X Y fl_X11_44 ev8 dX11_proof_52 ?_
        refine lv_iload_n hx hb dX11_proof_55 rfl (lv_at hl 1 rfl) ?_
        replace h := xb h
        obtain ⟨v9, ev9, h⟩ := h
        refine q_iald X Y ev9 dX11_proof_56 ?_
        replace h := Option.some.inj h
        subst h
        exact q_reti X Y hr hlocks (Nat.le_of_ble_eq_true rfl) (Nat.le_of_ble_eq_true rfl) dX11_proof_57
      replace h := Eq.trans (if_neg c7).symm h
      by_cases c10 : p2 = 2
      · replace h := Eq.trans (if_pos c10).symm h
        refine lv_tableIn (tgt := 58) hx hb dX11_proof_11 (by rw [c10]; decide) (by rw [c10]; decide) (by rw [c10]; rfl) (by decide) ?_
        refine lv_aload_n hx hb dX11_proof_58 rfl (lv_at hl 0 rfl) ?_
        replace h := xb h
        obtain ⟨v11, ev11, h⟩ := h
        refine q_getN X Y fl_X11_50 ev11 dX11_proof_59 ?_
        refine lv_iload_n hx hb dX11_proof_62 rfl (lv_at hl 1 rfl) ?_
        replace h := xb h
        obtain ⟨v12, ev12, h⟩ := h
        refine q_iald X Y ev12 dX11_proof_63 ?_
        replace h := Option.some.inj h
        subst h
        exact q_reti X Y hr hlocks (Nat.le_of_ble_eq_true rfl) (Nat.le_of_ble_eq_true rfl) dX11_proof_64
      replace h := Eq.trans (if_neg c10).symm h
      by_cases c13 : p2 = 3
      · replace h := Eq.trans (if_pos c13).symm h
        refine lv_tableIn (tgt := 65) hx hb dX11_proof_11 (by rw [c13]; decide) (by rw [c13]; decide) (by rw [c13]; rfl) (by decide) ?_
        refine lv_aload_n hx hb dX11_proof_65 rfl (lv_at hl 0 rfl) ?_
        replace h := xb h
        obtain ⟨v14, ev14, h⟩ := h
        refine q_getN X Y fl_X11_41 ev14 dX11_proof_66 ?_
        refine lv_iload_n hx hb dX11_proof_69 rfl (lv_at hl 1 rfl) ?_
        replace h := xb h
        obtain ⟨v15, ev15, h⟩ := h
        refine q_iald X Y ev15 dX11_proof_70 ?_
        refine lv_iconst (v := 1) hx hb dX11_proof_71 (by decide) ?_
        refine lv_icmp_ne (tgt := 79) hx hb dX11_proof_72 (by decide) (fun c16 => ?_) (fun c16 => ?_)
        · replace h := Eq.trans (if_neg c16).symm h
          refine lv_aload_n hx hb dX11_proof_79 rfl (lv_at hl 0 rfl) ?_
          replace h := xb h
          obtain ⟨v17, ev17, h⟩ := h
          refine q_getN X Y fl_X11_41 ev17 dX11_proof_80 ?_
          refine lv_iload_n hx hb dX11_proof_83 rfl (lv_at hl 1 rfl) ?_
          replace h := xb h
          obtain ⟨v18, ev18, h⟩ := h
          refine q_iald X Y ev18 dX11_proof_84 ?_
          refine lv_iconst (v := 2) hx hb dX11_proof_85 (by decide) ?_
          refine lv_icmp_ne (tgt := 100) hx hb dX11_proof_86 (by decide) (fun c19 => ?_) (fun c19 => ?_)
          · replace h := Eq.trans (if_neg c19).symm h
            refine lv_aload_n hx hb dX11_proof_100 rfl (lv_at hl 0 rfl) ?_
            refine lv_iload_n hx hb dX11_proof_101 rfl (lv_at hl 1 rfl) ?_
            by_cases c20 : hKd f h0 = some 10
            · replace h := Eq.trans (if_pos c20).symm h
              replace h := xb h
              obtain ⟨q21, eq21, h⟩ := h
              refine q_callV X Y hl.1 (rest := []) (As := [.int p1]) (c_X11_squaresIn l G z f h0 p1 _ eq21) cd_X11_squaresIn lv_X11_230_10 c20 ⟨(Nat.le_of_ble_eq_true rfl), (Nat.le_of_ble_eq_true rfl)⟩ ⟨(Nat.le_of_ble_eq_true rfl), (Nat.le_of_ble_eq_true rfl)⟩ rfl rfl (Nat.le_of_ble_eq_true rfl) dX11_proof_102 (fun H locs Y => ?_)
              refine W.eq (g2 := F0 m 105 ls [.int q21]) rfl ?_
              replace h := Option.some.inj h
              subst h
              exact q_reti X Y hr hlocks (Nat.le_of_ble_eq_true rfl) (Nat.le_of_ble_eq_true rfl) dX11_proof_105
            replace h := Eq.trans (if_neg c20).symm h
            cases h
          · replace h := Eq.trans (if_pos c19).symm h
            refine lv_aload_n hx hb dX11_proof_89 rfl (lv_at hl 0 rfl) ?_
            replace h := xb h
            obtain ⟨v22, ev22, h⟩ := h
            refine q_getN X Y fl_X11_50 ev22 dX11_proof_90 ?_
            refine lv_iload_n hx hb dX11_proof_93 rfl (lv_at hl 1 rfl) ?_
            replace h := xb h
            obtain ⟨v23, ev23, h⟩ := h
            refine q_iald X Y ev23 dX11_proof_94 ?_
            refine lv_iconst (v := 4) hx hb dX11_proof_95 (by decide) ?_
            refine lv_idiv hx hb dX11_proof_96 (by decide) ?_
            refine lv_goto (tgt := 105) hx hb dX11_proof_97 (by decide) ?_
            replace h := Option.some.inj h
            subst h
            exact q_reti X Y hr hlocks (Nat.le_of_ble_eq_true rfl) (Nat.le_of_ble_eq_true rfl) dX11_proof_105
        · replace h := Eq.trans (if_pos c16).symm h
          refine lv_iconst (v := 0) hx hb dX11_proof_75 (by decide) ?_
          refine lv_goto (tgt := 105) hx hb dX11_proof_76 (by decide) ?_
          replace h := Option.some.inj h
          subst h
          exact q_reti X Y hr hlocks (Nat.le_of_ble_eq_true rfl) (Nat.le_of_ble_eq_true rfl) dX11_proof_105
      replace h := Eq.trans (if_neg c13).symm h
      by_cases c24 : p2 = 4
      · replace h := Eq.trans (if_pos c24).symm h
        refine lv_tableIn (tgt := 106) hx hb dX11_proof_11 (by rw [c24]; decide) (by rw [c24]; decide) (by rw [c24]; rfl) (by decide) ?_
        refine lv_aload_n hx hb dX11_proof_106 rfl (lv_at hl 0 rfl) ?_
        replace h := xb h
        obtain ⟨v25, ev25, h⟩ := h
        refine q_getN X Y fl_X11_47 ev25 dX11_proof_107 ?_
        refine lv_iload_n hx hb dX11_proof_110 rfl (lv_at hl 1 rfl) ?_
        replace h := xb h
        obtain ⟨v26, ev26, h⟩ := h
        refine q_iald X Y ev26 dX11_proof_111 ?_
        replace h := Option.some.inj h
        subst h
        exact q_reti X Y hr hlocks (Nat.le_of_ble_eq_true rfl) (Nat.le_of_ble_eq_true rfl) dX11_proof_112
      replace h := Eq.trans (if_neg c24).symm h
      have nc4 := xneI (k := 0) (by decide) c4
      have nc7 := xneI (k := 1) (by decide) c7
      have nc10 := xneI (k := 2) (by decide) c10
      have nc13 := xneI (k := 3) (by decide) c13
      have nc24 := xneI (k := 4) (by decide) c24
      refine lv_tableOut (tgt := 113) hx hb dX11_proof_11 (by omega) (by decide) ?_
      refine lv_bipush (v := -2) hx hb dX11_proof_113 (by decide) ?_
      replace h := Option.some.inj h
      subst h
      exact q_reti X Y hr hlocks (Nat.le_of_ble_eq_true rfl) (Nat.le_of_ble_eq_true rfl) dX11_proof_115
    · replace h := Eq.trans (if_pos c3).symm h
      refine lv_iconst (v := -1) hx hb dX11_proof_8 (by decide) ?_
      replace h := Option.some.inj h
      subst h
      exact q_reti X Y hr hlocks (Nat.le_of_ble_eq_true rfl) (Nat.le_of_ble_eq_true rfl) dX11_proof_9
  replace h := Eq.trans (if_neg c1).symm h
  cases h
/-! NeverBelowModel.number(II)J -/
abbrev rm_X11_number : Room := { frames := 1, cells := 0, slots := 0, locals := 25 }
def F_X11_number_41 (f : xHp)    : Option (Int64) := some (-9223372036854775808 : Int64)
def F_X11_number (f : xHp) (h0 : Nat) (p1 : Int32) (p2 : Int32) : Option (Int64) := if hKd f h0 = some 10 then (Option.bind (F_X11_isProof f h0 p1) fun q2 => if q2 = 0 then (F_X11_number_41 f) else (Option.bind (hN f h0 [(10, 24)]) fun v4 => Option.bind (hIld f v4 p1) fun v5 => Option.bind (F_X11_within f p2.toInt64 (0 : Int64) (v5.toInt64 - (1 : Int64))) fun q6 => if q6 = 0 then (F_X11_number_41 f) else (Option.bind (hN f h0 [(10, 25)]) fun v8 => Option.bind (hJld f v8 (((160 : Int32) * p1) + p2)) fun v9 => some v9))) else none
set_option maxRecDepth 100000 in
set_option maxHeartbeats 4000000 in
theorem w_X11_number_41 {p : Program} {l : Launch} {e : Env} {s : State} {m : MethodId} {args : Array Value} {below : List Frame} {meth : Method} {c : Code} {G : xG} {z : Nat} {f : xHp} (X : xC G p m c s args RX11 cX11_number 3) (hr : meth.sig.returnType = (some .long)) (hlocks : meth.locks = false) (hin : meth.name = yX11_number.name) (rs : Int64)   (H : Heap) (locs : List Loc) (ls : Array Slot) (h : F_X11_number_41 f   = some rs) (Y : xY G z f s H locs) (hl : lv_has ls 3 []) : W p l e rm_X11_number s m args below meth c H locs 0 0 (MQ below (xQ G (some (.long rs)) z f) args s rm_X11_number.cells rm_X11_number.slots (xA G)) (F0 m 41 ls []) := by
  have hx := X.1.1
  have hb := X.1.2.1
  unfold F_X11_number_41 at h
  refine lv_ldc2 (v := -9223372036854775808) hx hb X.1.2.2.2.1 (X.1.2.2.2.2 _ xw_940) dX11_number_41 ?_
  replace h := Option.some.inj h
  subst h
  exact q_retl X Y hr hlocks (Nat.le_of_ble_eq_true rfl) (Nat.le_of_ble_eq_true rfl) dX11_number_44
set_option maxRecDepth 100000 in
set_option maxHeartbeats 4000000 in
theorem c_X11_number (l : Launch) (G : xG) (z : Nat) (f : xHp) (h0 : Nat) (p1 : Int32) (p2 : Int32) (rs : Int64) (h : F_X11_number f h0 p1 p2 = some rs) : xM G l yX11_number cX11_number 3 (some .long) rm_X11_number [.ref h0, .int p1, .int p2] z f (some (.long rs)) z f := by
  refine xM_of (by decide) (Nat.le_of_ble_eq_true rfl) ?_
  intro p e s m below meth c ls X hr hlocks hin Y hl
  have hl : lv_has ls 3 [(0, .ref h0), (1, .int p1), (2, .int p2)] := hl
  have hx := X.1.1
  have hb := X.1.2.1
  unfold F_X11_number at h
  refine lv_aload_n hx hb dX11_number_0 rfl (lv_at hl 0 rfl) ?_
  refine lv_iload_n hx hb dX11_number_1 rfl (lv_at hl 1 rfl) ?_
  by_cases c1 : hKd f h0 = some 10
  · replace h := Eq.trans (if_pos c1).symm h
    replace h := xb h
    obtain ⟨q2, eq2, h⟩ := h
    refine q_callV X Y hl.1 (rest := []) (As := [.int p1]) (c_X11_isProof l G z f h0 p1 _ eq2) cd_X11_isProof lv_X11_227_10 c1 ⟨(Nat.le_of_ble_eq_true rfl), (Nat.le_of_ble_eq_true rfl)⟩ ⟨(Nat.le_of_ble_eq_true rfl), (Nat.le_of_ble_eq_true rfl)⟩ rfl rfl (Nat.le_of_ble_eq_true rfl) dX11_number_2 (fun H locs Y => ?_)
    refine W.eq (g2 := F0 m 5 ls [.int q2]) rfl ?_
    refine lv_if_eq (tgt := 41) hx hb dX11_number_5 (by decide) (fun c3 => ?_) (fun c3 => ?_)
    · replace h := Eq.trans (if_pos c3).symm h
      refine W.widen (k := 0) (n := 0) (Nat.le_of_ble_eq_true rfl) (Nat.le_of_ble_eq_true rfl) ?_
      exact w_X11_number_41 X hr hlocks hin rs    _ _ _ h Y (lv_sub hl [] rfl)
    · replace h := Eq.trans (if_neg c3).symm h
      refine lv_iload_n hx hb dX11_number_8 rfl (lv_at hl 2 rfl) ?_
      refine lv_i2l hx hb dX11_number_9 rfl ?_
      refine lv_lconst (v := 0) hx hb dX11_number_10 (by decide) ?_
      refine lv_aload_n hx hb dX11_number_11 rfl (lv_at hl 0 rfl) ?_
      replace h := xb h
      obtain ⟨v4, ev4, h⟩ := h
      refine q_getN X Y fl_X11_50 ev4 dX11_number_12 ?_
      refine lv_iload_n hx hb dX11_number_15 rfl (lv_at hl 1 rfl) ?_
      replace h := xb h
      obtain ⟨v5, ev5, h⟩ := h
      refine q_iald X Y ev5 dX11_number_16 ?_
      refine lv_i2l hx hb dX11_number_17 rfl ?_
      refine lv_lconst (v := 1) hx hb dX11_number_18 (by decide) ?_
      refine lv_lsub hx hb dX11_number_19 ?_
      replace h := xb h
      obtain ⟨q6, eq6, h⟩ := h
      refine q_callS X Y hl.1 (rest := []) (As := [.long p2.toInt64, .long (0 : Int64), .long (v5.toInt64 - (1 : Int64))]) (c_X11_within l G z f p2.toInt64 (0 : Int64) (v5.toInt64 - (1 : Int64)) _ eq6) cd_X11_within ls_X11_82 ⟨(Nat.le_of_ble_eq_true rfl), (Nat.le_of_ble_eq_true rfl)⟩ ⟨(Nat.le_of_ble_eq_true rfl), (Nat.le_of_ble_eq_true rfl)⟩ rfl rfl (Nat.le_of_ble_eq_true rfl) dX11_number_20 (fun H locs Y => ?_)
      refine W.eq (g2 := F0 m 23 ls [.int q6]) rfl ?_
      refine lv_if_eq (tgt := 41) hx hb dX11_number_23 (by decide) (fun c7 => ?_) (fun c7 => ?_)
      · replace h := Eq.trans (if_pos c7).symm h
        refine W.widen (k := 0) (n := 0) (Nat.le_of_ble_eq_true rfl) (Nat.le_of_ble_eq_true rfl) ?_
        exact w_X11_number_41 X hr hlocks hin rs    _ _ _ h Y (lv_sub hl [] rfl)
      · replace h := Eq.trans (if_neg c7).symm h
        refine lv_aload_n hx hb dX11_number_26 rfl (lv_at hl 0 rfl) ?_
        replace h := xb h
        obtain ⟨v8, ev8, h⟩ := h
        refine q_getN X Y fl_X11_53 ev8 dX11_number_27 ?_
        refine lv_sipush (v := 160) hx hb dX11_number_30 (by decide) ?_
        refine lv_iload_n hx hb dX11_number_33 rfl (lv_at hl 1 rfl) ?_
        refine lv_imul hx hb dX11_number_34 ?_
        refine lv_iload_n hx hb dX11_number_35 rfl (lv_at hl 2 rfl) ?_
        refine lv_iadd hx hb dX11_number_36 ?_
        replace h := xb h
        obtain ⟨v9, ev9, h⟩ := h
        refine q_lald X Y ev9 dX11_number_37 ?_
        refine lv_goto (tgt := 44) hx hb dX11_number_38 (by decide) ?_
        replace h := Option.some.inj h
        subst h
        exact q_retl X Y hr hlocks (Nat.le_of_ble_eq_true rfl) (Nat.le_of_ble_eq_true rfl) dX11_number_44
  replace h := Eq.trans (if_neg c1).symm h
  cases h
/-! NeverBelowModel.forge(IIJ)I -/
abbrev rm_X11_forge : Room := { frames := 1, cells := 0, slots := 0, locals := 25 }
def F_X11_forge_54  (f : xHp) (a0 : Nat) (a1 : Int32) (a2 : Int32) (a3 : Int64) : Option (Int32 × xHp) := Option.bind (hN f a0 [(10, 25)]) fun v1 => Option.bind (hJst f v1 (((160 : Int32) * a1) + a2) a3) fun f2 => some ((1 : Int32), f2)
def F_X11_forge (f : xHp) (h0 : Nat) (p1 : Int32) (p2 : Int32) (p3 : Int64) : Option (Int32 × xHp) := if hKd f h0 = some 10 then (Option.bind (F_X11_isProof f h0 p1) fun q2 => if q2 = 0 then (some ((-1 : Int32), f)) else (Option.bind (hN f h0 [(10, 24)]) fun v4 => Option.bind (hIld f v4 p1) fun v5 => Option.bind (F_X11_within f p2.toInt64 (0 : Int64) (v5.toInt64 - (1 : Int64))) fun q6 => if q6 = 0 then (some ((-1 : Int32), f)) else (Option.bind (hN f h0 [(10, 21)]) fun v8 => Option.bind (hIld f v8 p1) fun v9 => if v9 = (1 : Int32) then (F_X11_forge_54 f h0 p1 p2 p3) else (Option.bind (F_X11_within f p3 (-1000000000 : Int64) (1000000000 : Int64)) fun q11 => if q11 = 0 then (some ((-2 : Int32), f)) else (F_X11_forge_54 f h0 p1 p2 p3))))) else none
set_option maxRecDepth 100000 in
set_option maxHeartbeats 4000000 in
theorem w_X11_forge_54 {p : Program} {l : Launch} {e : Env} {s : State} {m : MethodId} {args : Array Value} {below : List Frame} {meth : Method} {c : Code} {G : xG} {z : Nat} (X : xC G p m c s args RX11 cX11_forge 5) (hr : meth.sig.returnType = (some .int)) (hlocks : meth.locks = false) (hin : meth.name = yX11_forge.name) (rs : Int32 × xHp)  (f : xHp) (a0 : Nat) (a1 : Int32) (a2 : Int32) (a3 : Int64) (H : Heap) (locs : List Loc) (ls : Array Slot) (h : F_X11_forge_54  f a0 a1 a2 a3 = some rs) (Y : xY G z f s H locs) (hl : lv_has ls 5 [(0, .ref a0), (1, .int a1), (2, .int a2), (3, .long a3)]) : W p l e rm_X11_forge s m args below meth c H locs 0 0 (MQ below (xQ G (some (.int rs.1)) z rs.2) args s rm_X11_forge.cells rm_X11_forge.slots (xA G)) (F0 m 54 ls []) := by
  have hx := X.1.1
  have hb := X.1.2.1
  unfold F_X11_forge_54 at h
  refine lv_aload_n hx hb dX11_forge_54 rfl (lv_at hl 0 rfl) ?_
  replace h := xb h
  obtain ⟨v1, ev1, h⟩ := h
  refine q_getN X Y fl_X11_53 ev1 dX11_forge_55 ?_
  refine lv_sipush (v := 160) hx hb dX11_forge_58 (by decide) ?_
  refine lv_iload_n hx hb dX11_forge_61 rfl (lv_at hl 1 rfl) ?_
  refine lv_imul hx hb dX11_forge_62 ?_
  refine lv_iload_n hx hb dX11_forge_63 rfl (lv_at hl 2 rfl) ?_
  refine lv_iadd hx hb dX11_forge_64 ?_
  refine lv_lload_n hx hb dX11_forge_65 rfl (lv_at hl 3 rfl) ?_
  replace h := xb h
  obtain ⟨f2, ef2, h⟩ := h
  refine q_last X Y ef2 dX11_forge_66 (fun H locs Y => ?_)
  refine lv_iconst (v := 1) hx hb dX11_forge_67 (by decide) ?_
  replace h := Option.some.inj h
  subst h
  exact q_reti X Y hr hlocks (Nat.le_of_ble_eq_true rfl) (Nat.le_of_ble_eq_true rfl) dX11_forge_68
set_option maxRecDepth 100000 in
set_option maxHeartbeats 4000000 in
theorem c_X11_forge (l : Launch) (G : xG) (z : Nat) (f : xHp) (h0 : Nat) (p1 : Int32) (p2 : Int32) (p3 : Int64) (rs : Int32 × xHp) (h : F_X11_forge f h0 p1 p2 p3 = some rs) : xM G l yX11_forge cX11_forge 5 (some .int) rm_X11_forge [.ref h0, .int p1, .int p2, .long p3] z f (some (.int rs.1)) z rs.2 := by
  refine xM_of (by decide) (Nat.le_of_ble_eq_true rfl) ?_
  intro p e s m below meth c ls X hr hlocks hin Y hl
  have hl : lv_has ls 5 [(0, .ref h0), (1, .int p1), (2, .int p2), (3, .long p3)] := hl
  have hx := X.1.1
  have hb := X.1.2.1
  unfold F_X11_forge at h
  refine lv_aload_n hx hb dX11_forge_0 rfl (lv_at hl 0 rfl) ?_
  refine lv_iload_n hx hb dX11_forge_1 rfl (lv_at hl 1 rfl) ?_
  by_cases c1 : hKd f h0 = some 10
  · replace h := Eq.trans (if_pos c1).symm h
    replace h := xb h
    obtain ⟨q2, eq2, h⟩ := h
    refine q_callV X Y hl.1 (rest := []) (As := [.int p1]) (c_X11_isProof l G z f h0 p1 _ eq2) cd_X11_isProof lv_X11_227_10 c1 ⟨(Nat.le_of_ble_eq_true rfl), (Nat.le_of_ble_eq_true rfl)⟩ ⟨(Nat.le_of_ble_eq_true rfl), (Nat.le_of_ble_eq_true rfl)⟩ rfl rfl (Nat.le_of_ble_eq_true rfl) dX11_forge_2 (fun H locs Y => ?_)
    refine W.eq (g2 := F0 m 5 ls [.int q2]) rfl ?_
    refine lv_if_eq (tgt := 26) hx hb dX11_forge_5 (by decide) (fun c3 => ?_) (fun c3 => ?_)
    · replace h := Eq.trans (if_pos c3).symm h
      refine lv_iconst (v := -1) hx hb dX11_forge_26 (by decide) ?_
      replace h := Option.some.inj h
      subst h
      exact q_reti X Y hr hlocks (Nat.le_of_ble_eq_true rfl) (Nat.le_of_ble_eq_true rfl) dX11_forge_27
    · replace h := Eq.trans (if_neg c3).symm h
      refine lv_iload_n hx hb dX11_forge_8 rfl (lv_at hl 2 rfl) ?_
      refine lv_i2l hx hb dX11_forge_9 rfl ?_
      refine lv_lconst (v := 0) hx hb dX11_forge_10 (by decide) ?_
      refine lv_aload_n hx hb dX11_forge_11 rfl (lv_at hl 0 rfl) ?_
      replace h := xb h
      obtain ⟨v4, ev4, h⟩ := h
      refine q_getN X Y fl_X11_50 ev4 dX11_forge_12 ?_
      refine lv_iload_n hx hb dX11_forge_15 rfl (lv_at hl 1 rfl) ?_
      replace h := xb h
      obtain ⟨v5, ev5, h⟩ := h
      refine q_iald X Y ev5 dX11_forge_16 ?_
      refine lv_i2l hx hb dX11_forge_17 rfl ?_
      refine lv_lconst (v := 1) hx hb dX11_forge_18 (by decide) ?_
      refine lv_lsub hx hb dX11_forge_19 ?_
      replace h := xb h
      obtain ⟨q6, eq6, h⟩ := h
      refine q_callS X Y hl.1 (rest := []) (As := [.long p2.toInt64, .long (0 : Int64), .long (v5.toInt64 - (1 : Int64))]) (c_X11_within l G z f p2.toInt64 (0 : Int64) (v5.toInt64 - (1 : Int64)) _ eq6) cd_X11_within ls_X11_82 ⟨(Nat.le_of_ble_eq_true rfl), (Nat.le_of_ble_eq_true rfl)⟩ ⟨(Nat.le_of_ble_eq_true rfl), (Nat.le_of_ble_eq_true rfl)⟩ rfl rfl (Nat.le_of_ble_eq_true rfl) dX11_forge_20 (fun H locs Y => ?_)
      refine W.eq (g2 := F0 m 23 ls [.int q6]) rfl ?_
      refine lv_if_ne (tgt := 28) hx hb dX11_forge_23 (by decide) (fun c7 => ?_) (fun c7 => ?_)
      · replace h := Eq.trans (if_neg c7).symm h
        refine lv_aload_n hx hb dX11_forge_28 rfl (lv_at hl 0 rfl) ?_
        replace h := xb h
        obtain ⟨v8, ev8, h⟩ := h
        refine q_getN X Y fl_X11_41 ev8 dX11_forge_29 ?_
        refine lv_iload_n hx hb dX11_forge_32 rfl (lv_at hl 1 rfl) ?_
        replace h := xb h
        obtain ⟨v9, ev9, h⟩ := h
        refine q_iald X Y ev9 dX11_forge_33 ?_
        refine lv_iconst (v := 1) hx hb dX11_forge_34 (by decide) ?_
        refine lv_icmp_eq (tgt := 54) hx hb dX11_forge_35 (by decide) (fun c10 => ?_) (fun c10 => ?_)
        · replace h := Eq.trans (if_pos c10).symm h
          refine W.widen (k := 0) (n := 0) (Nat.le_of_ble_eq_true rfl) (Nat.le_of_ble_eq_true rfl) ?_
          exact w_X11_forge_54 X hr hlocks hin rs   f h0 p1 p2 p3 _ _ _ h Y (lv_sub hl [0, 1, 2, 3] rfl)
        · replace h := Eq.trans (if_neg c10).symm h
          refine lv_lload_n hx hb dX11_forge_38 rfl (lv_at hl 3 rfl) ?_
          refine lv_ldc2 (v := -1000000000) hx hb X.1.2.2.2.1 (X.1.2.2.2.2 _ xw_1158) dX11_forge_39 ?_
          refine lv_ldc2 (v := 1000000000) hx hb X.1.2.2.2.1 (X.1.2.2.2.2 _ xw_1159) dX11_forge_42 ?_
          replace h := xb h
          obtain ⟨q11, eq11, h⟩ := h
          refine q_callS X Y hl.1 (rest := []) (As := [.long p3, .long (-1000000000 : Int64), .long (1000000000 : Int64)]) (c_X11_within l G z f p3 (-1000000000 : Int64) (1000000000 : Int64) _ eq11) cd_X11_within ls_X11_82 ⟨(Nat.le_of_ble_eq_true rfl), (Nat.le_of_ble_eq_true rfl)⟩ ⟨(Nat.le_of_ble_eq_true rfl), (Nat.le_of_ble_eq_true rfl)⟩ rfl rfl (Nat.le_of_ble_eq_true rfl) dX11_forge_45 (fun H locs Y => ?_)
          refine W.eq (g2 := F0 m 48 ls [.int q11]) rfl ?_
          refine lv_if_ne (tgt := 54) hx hb dX11_forge_48 (by decide) (fun c12 => ?_) (fun c12 => ?_)
          · replace h := Eq.trans (if_neg c12).symm h
            refine W.widen (k := 0) (n := 0) (Nat.le_of_ble_eq_true rfl) (Nat.le_of_ble_eq_true rfl) ?_
            exact w_X11_forge_54 X hr hlocks hin rs   f h0 p1 p2 p3 _ _ _ h Y (lv_sub hl [0, 1, 2, 3] rfl)
          · replace h := Eq.trans (if_pos c12).symm h
            refine lv_bipush (v := -2) hx hb dX11_forge_51 (by decide) ?_
            replace h := Option.some.inj h
            subst h
            exact q_reti X Y hr hlocks (Nat.le_of_ble_eq_true rfl) (Nat.le_of_ble_eq_true rfl) dX11_forge_53
      · replace h := Eq.trans (if_pos c7).symm h
        refine lv_iconst (v := -1) hx hb dX11_forge_26 (by decide) ?_
        replace h := Option.some.inj h
        subst h
        exact q_reti X Y hr hlocks (Nat.le_of_ble_eq_true rfl) (Nat.le_of_ble_eq_true rfl) dX11_forge_27
  replace h := Eq.trans (if_neg c1).symm h
  cases h
/-! NeverBelowModel.proofNumber(II)J -/
abbrev rm_X11_proofNumber : Room := { frames := 0, cells := 0, slots := 0, locals := 0 }
def F_X11_proofNumber (f : xHp) (h0 : Nat) (p1 : Int32) (p2 : Int32) : Option (Int64) := Option.bind (hN f h0 [(10, 25)]) fun v1 => Option.bind (hJld f v1 (((160 : Int32) * p1) + p2)) fun v2 => some v2
set_option maxRecDepth 100000 in
set_option maxHeartbeats 4000000 in
theorem c_X11_proofNumber (l : Launch) (G : xG) (z : Nat) (f : xHp) (h0 : Nat) (p1 : Int32) (p2 : Int32) (rs : Int64) (h : F_X11_proofNumber f h0 p1 p2 = some rs) : xM G l yX11_proofNumber cX11_proofNumber 3 (some .long) rm_X11_proofNumber [.ref h0, .int p1, .int p2] z f (some (.long rs)) z f := by
  refine xM_of (by decide) (Nat.le_of_ble_eq_true rfl) ?_
  intro p e s m below meth c ls X hr hlocks hin Y hl
  have hl : lv_has ls 3 [(0, .ref h0), (1, .int p1), (2, .int p2)] := hl
  have hx := X.1.1
  have hb := X.1.2.1
  unfold F_X11_proofNumber at h
  refine lv_aload_n hx hb dX11_proofNumber_0 rfl (lv_at hl 0 rfl) ?_
  replace h := xb h
  obtain ⟨v1, ev1, h⟩ := h
  refine q_getN X Y fl_X11_53 ev1 dX11_proofNumber_1 ?_
  refine lv_sipush (v := 160) hx hb dX11_proofNumber_4 (by decide) ?_
  refine lv_iload_n hx hb dX11_proofNumber_7 rfl (lv_at hl 1 rfl) ?_
  refine lv_imul hx hb dX11_proofNumber_8 ?_
  refine lv_iload_n hx hb dX11_proofNumber_9 rfl (lv_at hl 2 rfl) ?_
  refine lv_iadd hx hb dX11_proofNumber_10 ?_
  replace h := xb h
  obtain ⟨v2, ev2, h⟩ := h
  refine q_lald X Y ev2 dX11_proofNumber_11 ?_
  replace h := Option.some.inj h
  subst h
  exact q_retl X Y hr hlocks (Nat.le_of_ble_eq_true rfl) (Nat.le_of_ble_eq_true rfl) dX11_proofNumber_12

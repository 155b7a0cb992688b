/-! NeverBelow$Parts.<init>()V -/
abbrev rm_X2_init : Room := { frames := 1, cells := 3, slots := 209, locals := 24 }
def F_X2_init (z : Nat) (f : xHp) (h0 : Nat) : Option (Nat × xHp) := Option.bind (hNw (160 : Int32) 160) fun n1 => Option.bind (some (va_up f z (some (.inl (n1, fun _ => 0))))) fun f2 => Option.bind (hPut f2 h0 [(2, 0)] (.ref z)) fun f3 => Option.bind (hNw (40 : Int32) 40) fun n4 => Option.bind (some (va_up f3 (z + 1) (some (.inl (n4, fun _ => 0))))) fun f5 => Option.bind (hPut f5 h0 [(2, 1)] (.ref (z + 1))) fun f6 => Option.bind (hNw (9 : Int32) 9) fun n7 => Option.bind (some (va_up f6 ((z + 1) + 1) (some (.inr (.inl (n7, fun _ => 0)))))) fun f8 => Option.bind (hPut f8 h0 [(2, 2)] (.ref ((z + 1) + 1))) fun f9 => some ((((z + 1) + 1) + 1), f9)
set_option maxRecDepth 100000 in
set_option maxHeartbeats 4000000 in
theorem c_X2_init (l : Launch) (G : xG) (z : Nat) (f : xHp) (h0 : Nat) (rs : Nat × xHp) (h : F_X2_init z f h0 = some rs) : xM G l yX2_init cX2_init 1 none rm_X2_init [.ref h0] z f none rs.1 rs.2 := by
  refine xM_of (by decide) (Nat.le_of_ble_eq_true rfl) ?_
  intro p e s m below meth c ls X hr hlocks hin Y hl
  have hl : lv_has ls 1 [(0, .ref h0)] := hl
  have hx := X.1.1
  have hb := X.1.2.1
  unfold F_X2_init at h
  refine lv_aload_n hx hb dX2_init_0 rfl (lv_at hl 0 rfl) ?_
  refine q_obj X hl.1 lo_X2_3 (Nat.le_of_ble_eq_true rfl) (Nat.le_of_ble_eq_true rfl) dX2_init_1 ?_
  refine lv_aload_n hx hb dX2_init_4 rfl (lv_at hl 0 rfl) ?_
  refine lv_sipush (v := 160) hx hb dX2_init_5 (by decide) ?_
  replace h := xb h
  obtain ⟨n1, en1, h⟩ := h
  replace h := xb h
  obtain ⟨f2, ef2, h⟩ := h
  have ef2 := Option.some.inj ef2
  refine q_newI X Y en1 (by decide) xw_79 (Nat.le_of_ble_eq_true rfl) (Nat.le_of_ble_eq_true rfl) dX2_init_8 (fun H Y => ?_)
  rw [ef2] at Y
  replace h := xb h
  obtain ⟨f3, ef3, h⟩ := h
  refine q_putF X Y hin fp_X2_9 rfl rfl ef3 dX2_init_10 (fun H locs Y => ?_)
  refine lv_aload_n hx hb dX2_init_13 rfl (lv_at hl 0 rfl) ?_
  refine lv_bipush (v := 40) hx hb dX2_init_14 (by decide) ?_
  replace h := xb h
  obtain ⟨n4, en4, h⟩ := h
  replace h := xb h
  obtain ⟨f5, ef5, h⟩ := h
  have ef5 := Option.some.inj ef5
  refine q_newI X Y en4 (by decide) xw_79 (Nat.le_of_ble_eq_true rfl) (Nat.le_of_ble_eq_true rfl) dX2_init_16 (fun H Y => ?_)
  rw [ef5] at Y
  replace h := xb h
  obtain ⟨f6, ef6, h⟩ := h
  refine q_putF X Y hin fp_X2_15 rfl rfl ef6 dX2_init_18 (fun H locs Y => ?_)
  refine lv_aload_n hx hb dX2_init_21 rfl (lv_at hl 0 rfl) ?_
  refine lv_bipush (v := 9) hx hb dX2_init_22 (by decide) ?_
  replace h := xb h
  obtain ⟨n7, en7, h⟩ := h
  replace h := xb h
  obtain ⟨f8, ef8, h⟩ := h
  have ef8 := Option.some.inj ef8
  refine q_newJ X Y en7 (by decide) xw_80 (Nat.le_of_ble_eq_true rfl) (Nat.le_of_ble_eq_true rfl) dX2_init_24 (fun H Y => ?_)
  rw [ef8] at Y
  replace h := xb h
  obtain ⟨f9, ef9, h⟩ := h
  refine q_putF X Y hin fp_X2_18 rfl rfl ef9 dX2_init_26 (fun H locs Y => ?_)
  replace h := Option.some.inj h
  subst h
  exact q_retv X Y hr hlocks (Nat.le_of_ble_eq_true rfl) (Nat.le_of_ble_eq_true rfl) dX2_init_29
/-! NeverBelow$Whole.<init>()V -/
abbrev rm_X9_init : Room := { frames := 1, cells := 1, slots := 12, locals := 24 }
def F_X9_init (z : Nat) (f : xHp) (h0 : Nat) : Option (Nat × xHp) := Option.bind (hNw (12 : Int32) 12) fun n1 => Option.bind (some (va_up f z (some (.inl (n1, fun _ => 0))))) fun f2 => Option.bind (hPut f2 h0 [(8, 0)] (.ref z)) fun f3 => some ((z + 1), f3)
set_option maxRecDepth 100000 in
set_option maxHeartbeats 4000000 in
theorem c_X9_init (l : Launch) (G : xG) (z : Nat) (f : xHp) (h0 : Nat) (rs : Nat × xHp) (h : F_X9_init z f h0 = some rs) : xM G l yX9_init cX9_init 1 none rm_X9_init [.ref h0] z f none rs.1 rs.2 := by
  refine xM_of (by decide) (Nat.le_of_ble_eq_true rfl) ?_
  intro p e s m below meth c ls X hr hlocks hin Y hl
  have hl : lv_has ls 1 [(0, .ref h0)] := hl
  have hx := X.1.1
  have hb := X.1.2.1
  unfold F_X9_init at h
  refine lv_aload_n hx hb dX9_init_0 rfl (lv_at hl 0 rfl) ?_
  refine q_obj X hl.1 lo_X9_1 (Nat.le_of_ble_eq_true rfl) (Nat.le_of_ble_eq_true rfl) dX9_init_1 ?_
  refine lv_aload_n hx hb dX9_init_4 rfl (lv_at hl 0 rfl) ?_
  refine lv_bipush (v := 12) hx hb dX9_init_5 (by decide) ?_
  replace h := xb h
  obtain ⟨n1, en1, h⟩ := h
  replace h := xb h
  obtain ⟨f2, ef2, h⟩ := h
  have ef2 := Option.some.inj ef2
  refine q_newI X Y en1 (by decide) xw_79 (Nat.le_of_ble_eq_true rfl) (Nat.le_of_ble_eq_true rfl) dX9_init_7 (fun H Y => ?_)
  rw [ef2] at Y
  replace h := xb h
  obtain ⟨f3, ef3, h⟩ := h
  refine q_putF X Y hin fp_X9_7 rfl rfl ef3 dX9_init_9 (fun H locs Y => ?_)
  replace h := Option.some.inj h
  subst h
  exact q_retv X Y hr hlocks (Nat.le_of_ble_eq_true rfl) (Nat.le_of_ble_eq_true rfl) dX9_init_12
/-! NeverBelow$Desk.<init>()V -/
abbrev rm_X1_init : Room := { frames := 2, cells := 9, slots := 255, locals := 44 }
def F_X1_init (z : Nat) (f : xHp) (h0 : Nat) : Option (Nat × xHp) := Option.bind (hNw (9 : Int32) 9) fun n1 => Option.bind (some (va_up f z (some (.inr (.inl (n1, fun _ => 0)))))) fun f2 => Option.bind (hPut f2 h0 [(1, 0)] (.ref z)) fun f3 => Option.bind (some (va_up f3 (z + 1) (some (.inr (.inr (.inr (8, [.null]))))))) fun f4 => Option.bind (F_X9_init ((z + 1) + 1) f4 (z + 1)) fun q5 => Option.bind (hPut q5.2 h0 [(1, 1)] (.ref (z + 1))) fun f6 => Option.bind (some (va_up f6 q5.1 (some (.inr (.inr (.inr (8, [.null]))))))) fun f7 => Option.bind (F_X9_init (q5.1 + 1) f7 q5.1) fun q8 => Option.bind (hPut q8.2 h0 [(1, 2)] (.ref q5.1)) fun f9 => Option.bind (some (va_up f9 q8.1 (some (.inr (.inr (.inr (2, [.null, .null, .null, .null, .int 0, .int 0, .int 0, .int 0, .int 0, .int 0, .int 0]))))))) fun f10 => Option.bind (F_X2_init (q8.1 + 1) f10 q8.1) fun q11 => Option.bind (hPut q11.2 h0 [(1, 3)] (.ref q8.1)) fun f12 => some (q11.1, f12)
set_option maxRecDepth 100000 in
set_option maxHeartbeats 4000000 in
theorem c_X1_init (l : Launch) (G : xG) (z : Nat) (f : xHp) (h0 : Nat) (rs : Nat × xHp) (h : F_X1_init z f h0 = some rs) : xM G l yX1_init cX1_init 1 none rm_X1_init [.ref h0] z f none rs.1 rs.2 := by
  refine xM_of (by decide) (Nat.le_of_ble_eq_true rfl) ?_
  intro p e s m below meth c ls X hr hlocks hin Y hl
  have hl : lv_has ls 1 [(0, .ref h0)] := hl
  have hx := X.1.1
  have hb := X.1.2.1
  unfold F_X1_init at h
  refine lv_aload_n hx hb dX1_init_0 rfl (lv_at hl 0 rfl) ?_
  refine q_obj X hl.1 lo_X1_3 (Nat.le_of_ble_eq_true rfl) (Nat.le_of_ble_eq_true rfl) dX1_init_1 ?_
  refine lv_aload_n hx hb dX1_init_4 rfl (lv_at hl 0 rfl) ?_
  refine lv_bipush (v := 9) hx hb dX1_init_5 (by decide) ?_
  replace h := xb h
  obtain ⟨n1, en1, h⟩ := h
  replace h := xb h
  obtain ⟨f2, ef2, h⟩ := h
  have ef2 := Option.some.inj ef2
  refine q_newJ X Y en1 (by decide) xw_80 (Nat.le_of_ble_eq_true rfl) (Nat.le_of_ble_eq_true rfl) dX1_init_7 (fun H Y => ?_)
  rw [ef2] at Y
  replace h := xb h
  obtain ⟨f3, ef3, h⟩ := h
  refine q_putF X Y hin fp_X1_9 rfl rfl ef3 dX1_init_9 (fun H locs Y => ?_)
  refine lv_aload_n hx hb dX1_init_12 rfl (lv_at hl 0 rfl) ?_
  replace h := xb h
  obtain ⟨f4, ef4, h⟩ := h
  have ef4 := Option.some.inj ef4
  refine q_new X Y no_X1_15 (Nat.le_of_ble_eq_true rfl) (Nat.le_of_ble_eq_true rfl) dX1_init_13 (fun H Y => ?_)
  rw [ef4] at Y
  refine lv_dup hx hb dX1_init_16 rfl ?_
  replace h := xb h
  obtain ⟨q5, eq5, h⟩ := h
  refine q_callIN X Y hl.1 (rest := [.ref (z + 1), .ref h0]) (As := []) (c_X9_init l G ((z + 1) + 1) f4 (z + 1) _ eq5) cd_X9_init li_X1_17 ⟨(Nat.le_of_ble_eq_true rfl), (Nat.le_of_ble_eq_true rfl)⟩ ⟨(Nat.le_of_ble_eq_true rfl), (Nat.le_of_ble_eq_true rfl)⟩ rfl rfl (Nat.le_of_ble_eq_true rfl) dX1_init_17 (fun H locs Y => ?_)
  refine W.eq (g2 := F0 m 20 ls [.ref (z + 1), .ref h0]) rfl ?_
  refine W.widen (k := 3) (n := 22) (Nat.le_of_ble_eq_true rfl) (Nat.le_of_ble_eq_true rfl) ?_
  replace h := xb h
  obtain ⟨f6, ef6, h⟩ := h
  refine q_putF X Y hin fp_X1_18 rfl rfl ef6 dX1_init_20 (fun H locs Y => ?_)
  refine lv_aload_n hx hb dX1_init_23 rfl (lv_at hl 0 rfl) ?_
  replace h := xb h
  obtain ⟨f7, ef7, h⟩ := h
  have ef7 := Option.some.inj ef7
  refine q_new X Y no_X1_15 (Nat.le_of_ble_eq_true rfl) (Nat.le_of_ble_eq_true rfl) dX1_init_24 (fun H Y => ?_)
  rw [ef7] at Y
  refine lv_dup hx hb dX1_init_27 rfl ?_
  replace h := xb h
  obtain ⟨q8, eq8, h⟩ := h
  refine q_callIN X Y hl.1 (rest := [.ref q5.1, .ref h0]) (As := []) (c_X9_init l G (q5.1 + 1) f7 q5.1 _ eq8) cd_X9_init li_X1_17 ⟨(Nat.le_of_ble_eq_true rfl), (Nat.le_of_ble_eq_true rfl)⟩ ⟨(Nat.le_of_ble_eq_true rfl), (Nat.le_of_ble_eq_true rfl)⟩ rfl rfl (Nat.le_of_ble_eq_true rfl) dX1_init_28 (fun H locs Y => ?_)
  refine W.eq (g2 := F0 m 31 ls [.ref q5.1, .ref h0]) rfl ?_
  refine W.widen (k := 5) (n := 35) (Nat.le_of_ble_eq_true rfl) (Nat.le_of_ble_eq_true rfl) ?_
  replace h := xb h
  obtain ⟨f9, ef9, h⟩ := h
  refine q_putF X Y hin fp_X1_22 rfl rfl ef9 dX1_init_31 (fun H locs Y => ?_)
  refine lv_aload_n hx hb dX1_init_34 rfl (lv_at hl 0 rfl) ?_
  replace h := xb h
  obtain ⟨f10, ef10, h⟩ := h
  have ef10 := Option.some.inj ef10
  refine q_new X Y no_X1_25 (Nat.le_of_ble_eq_true rfl) (Nat.le_of_ble_eq_true rfl) dX1_init_35 (fun H Y => ?_)
  rw [ef10] at Y
  refine lv_dup hx hb dX1_init_38 rfl ?_
  replace h := xb h
  obtain ⟨q11, eq11, h⟩ := h
  refine q_callIN X Y hl.1 (rest := [.ref q8.1, .ref h0]) (As := []) (c_X2_init l G (q8.1 + 1) f10 q8.1 _ eq11) cd_X2_init li_X1_27 ⟨(Nat.le_of_ble_eq_true rfl), (Nat.le_of_ble_eq_true rfl)⟩ ⟨(Nat.le_of_ble_eq_true rfl), (Nat.le_of_ble_eq_true rfl)⟩ rfl rfl (Nat.le_of_ble_eq_true rfl) dX1_init_39 (fun H locs Y => ?_)
  refine W.eq (g2 := F0 m 42 ls [.ref q8.1, .ref h0]) rfl ?_
  refine W.widen (k := 9) (n := 255) (Nat.le_of_ble_eq_true rfl) (Nat.le_of_ble_eq_true rfl) ?_
  replace h := xb h
  obtain ⟨f12, ef12, h⟩ := h
  refine q_putF X Y hin fp_X1_28 rfl rfl ef12 dX1_init_42 (fun H locs Y => ?_)
  replace h := Option.some.inj h
  subst h
  exact q_retv X Y hr hlocks (Nat.le_of_ble_eq_true rfl) (Nat.le_of_ble_eq_true rfl) dX1_init_45
/-! NeverBelow.<init>()V -/
abbrev rm_X10_init : Room := { frames := 3, cells := 18, slots := 674, locals := 64 }
def F_X10_init (z : Nat) (f : xHp) (h0 : Nat) : Option (Nat × xHp) := Option.bind (hNw (4 : Int32) 4) fun n1 => Option.bind (some (va_up f z (some (.inr (.inr (.inl (2, n1, fun _ => none))))))) fun f2 => Option.bind (hPut f2 h0 [(9, 0)] (.ref z)) fun f3 => Option.bind (hNw (30 : Int32) 30) fun n4 => Option.bind (some (va_up f3 (z + 1) (some (.inr (.inr (.inl (3, n4, fun _ => none))))))) fun f5 => Option.bind (hPut f5 h0 [(9, 1)] (.ref (z + 1))) fun f6 => Option.bind (hNw (120 : Int32) 120) fun n7 => Option.bind (some (va_up f6 ((z + 1) + 1) (some (.inl (n7, fun _ => 0))))) fun f8 => Option.bind (hPut f8 h0 [(9, 2)] (.ref ((z + 1) + 1))) fun f9 => Option.bind (hNw (40 : Int32) 40) fun n10 => Option.bind (some (va_up f9 (((z + 1) + 1) + 1) (some (.inr (.inr (.inl (4, n10, fun _ => none))))))) fun f11 => Option.bind (hPut f11 h0 [(9, 3)] (.ref (((z + 1) + 1) + 1))) fun f12 => Option.bind (some (va_up f12 ((((z + 1) + 1) + 1) + 1) (some (.inr (.inr (.inr (2, [.null, .null, .null, .null, .int 0, .int 0, .int 0, .int 0, .int 0, .int 0, .int 0]))))))) fun f13 => Option.bind (F_X2_init (((((z + 1) + 1) + 1) + 1) + 1) f13 ((((z + 1) + 1) + 1) + 1)) fun q14 => Option.bind (hPut q14.2 h0 [(9, 4)] (.ref ((((z + 1) + 1) + 1) + 1))) fun f15 => Option.bind (some (va_up f15 q14.1 (some (.inr (.inr (.inr (1, [.null, .null, .null, .null, .int 0]))))))) fun f16 => Option.bind (F_X1_init (q14.1 + 1) f16 q14.1) fun q17 => Option.bind (hPut q17.2 h0 [(9, 5)] (.ref q14.1)) fun f18 => some (q17.1, f18)
set_option maxRecDepth 100000 in
set_option maxHeartbeats 4000000 in
theorem c_X10_init (l : Launch) (G : xG) (z : Nat) (f : xHp) (h0 : Nat) (rs : Nat × xHp) (h : F_X10_init z f h0 = some rs) : xM G l yX10_init cX10_init 1 none rm_X10_init [.ref h0] z f none rs.1 rs.2 := by
  refine xM_of (by decide) (Nat.le_of_ble_eq_true rfl) ?_
  intro p e s m below meth c ls X hr hlocks hin Y hl
  have hl : lv_has ls 1 [(0, .ref h0)] := hl
  have hx := X.1.1
  have hb := X.1.2.1
  unfold F_X10_init at h
  refine lv_aload_n hx hb dX10_init_0 rfl (lv_at hl 0 rfl) ?_
  refine q_obj X hl.1 lo_X10_3 (Nat.le_of_ble_eq_true rfl) (Nat.le_of_ble_eq_true rfl) dX10_init_1 ?_
  refine lv_aload_n hx hb dX10_init_4 rfl (lv_at hl 0 rfl) ?_
  refine lv_iconst (v := 4) hx hb dX10_init_5 (by decide) ?_
  replace h := xb h
  obtain ⟨n1, en1, h⟩ := h
  replace h := xb h
  obtain ⟨f2, ef2, h⟩ := h
  have ef2 := Option.some.inj ef2
  refine q_newQ (k := 2) X Y en1 (by decide) rfl xw_24 xw_25 (Nat.le_of_ble_eq_true rfl) (Nat.le_of_ble_eq_true rfl) dX10_init_6 (fun H Y => ?_)
  rw [ef2] at Y
  replace h := xb h
  obtain ⟨f3, ef3, h⟩ := h
  refine q_putF X Y hin fp_X10_13 rfl rfl ef3 dX10_init_9 (fun H locs Y => ?_)
  refine lv_aload_n hx hb dX10_init_12 rfl (lv_at hl 0 rfl) ?_
  refine lv_bipush (v := 30) hx hb dX10_init_13 (by decide) ?_
  replace h := xb h
  obtain ⟨n4, en4, h⟩ := h
  replace h := xb h
  obtain ⟨f5, ef5, h⟩ := h
  have ef5 := Option.some.inj ef5
  refine q_newQ (k := 3) X Y en4 (by decide) rfl xw_26 xw_27 (Nat.le_of_ble_eq_true rfl) (Nat.le_of_ble_eq_true rfl) dX10_init_15 (fun H Y => ?_)
  rw [ef5] at Y
  replace h := xb h
  obtain ⟨f6, ef6, h⟩ := h
  refine q_putF X Y hin fp_X10_19 rfl rfl ef6 dX10_init_18 (fun H locs Y => ?_)
  refine lv_aload_n hx hb dX10_init_21 rfl (lv_at hl 0 rfl) ?_
  refine lv_bipush (v := 120) hx hb dX10_init_22 (by decide) ?_
  replace h := xb h
  obtain ⟨n7, en7, h⟩ := h
  replace h := xb h
  obtain ⟨f8, ef8, h⟩ := h
  have ef8 := Option.some.inj ef8
  refine q_newI X Y en7 (by decide) xw_79 (Nat.le_of_ble_eq_true rfl) (Nat.le_of_ble_eq_true rfl) dX10_init_24 (fun H Y => ?_)
  rw [ef8] at Y
  replace h := xb h
  obtain ⟨f9, ef9, h⟩ := h
  refine q_putF X Y hin fp_X10_23 rfl rfl ef9 dX10_init_26 (fun H locs Y => ?_)
  refine lv_aload_n hx hb dX10_init_29 rfl (lv_at hl 0 rfl) ?_
  refine lv_bipush (v := 40) hx hb dX10_init_30 (by decide) ?_
  replace h := xb h
  obtain ⟨n10, en10, h⟩ := h
  replace h := xb h
  obtain ⟨f11, ef11, h⟩ := h
  have ef11 := Option.some.inj ef11
  refine q_newQ (k := 4) X Y en10 (by decide) rfl xw_28 xw_29 (Nat.le_of_ble_eq_true rfl) (Nat.le_of_ble_eq_true rfl) dX10_init_32 (fun H Y => ?_)
  rw [ef11] at Y
  replace h := xb h
  obtain ⟨f12, ef12, h⟩ := h
  refine q_putF X Y hin fp_X10_29 rfl rfl ef12 dX10_init_35 (fun H locs Y => ?_)
  refine lv_aload_n hx hb dX10_init_38 rfl (lv_at hl 0 rfl) ?_
  replace h := xb h
  obtain ⟨f13, ef13, h⟩ := h
  have ef13 := Option.some.inj ef13
  refine q_new X Y no_X10_33 (Nat.le_of_ble_eq_true rfl) (Nat.le_of_ble_eq_true rfl) dX10_init_39 (fun H Y => ?_)
  rw [ef13] at Y
  refine lv_dup hx hb dX10_init_42 rfl ?_
  replace h := xb h
  obtain ⟨q14, eq14, h⟩ := h
  refine q_callIN X Y hl.1 (rest := [.ref ((((z + 1) + 1) + 1) + 1), .ref h0]) (As := []) (c_X2_init l G (((((z + 1) + 1) + 1) + 1) + 1) f13 ((((z + 1) + 1) + 1) + 1) _ eq14) cd_X2_init li_X10_35 ⟨(Nat.le_of_ble_eq_true rfl), (Nat.le_of_ble_eq_true rfl)⟩ ⟨(Nat.le_of_ble_eq_true rfl), (Nat.le_of_ble_eq_true rfl)⟩ rfl rfl (Nat.le_of_ble_eq_true rfl) dX10_init_43 (fun H locs Y => ?_)
  refine W.eq (g2 := F0 m 46 ls [.ref ((((z + 1) + 1) + 1) + 1), .ref h0]) rfl ?_
  refine W.widen (k := 8) (n := 414) (Nat.le_of_ble_eq_true rfl) (Nat.le_of_ble_eq_true rfl) ?_
  replace h := xb h
  obtain ⟨f15, ef15, h⟩ := h
  refine q_putF X Y hin fp_X10_36 rfl rfl ef15 dX10_init_46 (fun H locs Y => ?_)
  refine lv_aload_n hx hb dX10_init_49 rfl (lv_at hl 0 rfl) ?_
  replace h := xb h
  obtain ⟨f16, ef16, h⟩ := h
  have ef16 := Option.some.inj ef16
  refine q_new X Y no_X10_40 (Nat.le_of_ble_eq_true rfl) (Nat.le_of_ble_eq_true rfl) dX10_init_50 (fun H Y => ?_)
  rw [ef16] at Y
  refine lv_dup hx hb dX10_init_53 rfl ?_
  replace h := xb h
  obtain ⟨q17, eq17, h⟩ := h
  refine q_callIN X Y hl.1 (rest := [.ref q14.1, .ref h0]) (As := []) (c_X1_init l G (q14.1 + 1) f16 q14.1 _ eq17) cd_X1_init li_X10_42 ⟨(Nat.le_of_ble_eq_true rfl), (Nat.le_of_ble_eq_true rfl)⟩ ⟨(Nat.le_of_ble_eq_true rfl), (Nat.le_of_ble_eq_true rfl)⟩ rfl rfl (Nat.le_of_ble_eq_true rfl) dX10_init_54 (fun H locs Y => ?_)
  refine W.eq (g2 := F0 m 57 ls [.ref q14.1, .ref h0]) rfl ?_
  refine W.widen (k := 18) (n := 674) (Nat.le_of_ble_eq_true rfl) (Nat.le_of_ble_eq_true rfl) ?_
  replace h := xb h
  obtain ⟨f18, ef18, h⟩ := h
  refine q_putF X Y hin fp_X10_43 rfl rfl ef18 dX10_init_57 (fun H locs Y => ?_)
  replace h := Option.some.inj h
  subst h
  exact q_retv X Y hr hlocks (Nat.le_of_ble_eq_true rfl) (Nat.le_of_ble_eq_true rfl) dX10_init_60
/-! NeverBelow.faulted(I)I -/
abbrev rm_X10_faulted : Room := { frames := 0, cells := 0, slots := 0, locals := 0 }
def F_X10_faulted (f : xHp) (h0 : Nat) (p1 : Int32) : Option (Int32 × xHp) := Option.bind (hPut f h0 [(9, 9)] (.int p1)) fun f1 => some (((-10 : Int32) - p1), f1)
set_option maxRecDepth 100000 in
set_option maxHeartbeats 4000000 in
theorem c_X10_faulted (l : Launch) (G : xG) (z : Nat) (f : xHp) (h0 : Nat) (p1 : Int32) (rs : Int32 × xHp) (h : F_X10_faulted f h0 p1 = some rs) : xM G l yX10_faulted cX10_faulted 2 (some .int) rm_X10_faulted [.ref h0, .int p1] z f (some (.int rs.1)) z rs.2 := by
  refine xM_of (by decide) (Nat.le_of_ble_eq_true rfl) ?_
  intro p e s m below meth c ls X hr hlocks hin Y hl
  have hl : lv_has ls 2 [(0, .ref h0), (1, .int p1)] := hl
  have hx := X.1.1
  have hb := X.1.2.1
  unfold F_X10_faulted at h
  refine lv_aload_n hx hb dX10_faulted_0 rfl (lv_at hl 0 rfl) ?_
  refine lv_iload_n hx hb dX10_faulted_1 rfl (lv_at hl 1 rfl) ?_
  replace h := xb h
  obtain ⟨f1, ef1, h⟩ := h
  refine q_put X Y fp_X10_47 rfl rfl ef1 dX10_faulted_2 (fun H locs Y => ?_)
  refine lv_bipush (v := -10) hx hb dX10_faulted_5 (by decide) ?_
  refine lv_iload_n hx hb dX10_faulted_7 rfl (lv_at hl 1 rfl) ?_
  refine lv_isub hx hb dX10_faulted_8 ?_
  replace h := Option.some.inj h
  subst h
  exact q_reti X Y hr hlocks (Nat.le_of_ble_eq_true rfl) (Nat.le_of_ble_eq_true rfl) dX10_faulted_9
/-! NeverBelow.isLane(I)Z -/
abbrev rm_X10_isLane : Room := { frames := 0, cells := 0, slots := 0, locals := 0 }
def F_X10_isLane (f : xHp) (p0 : Int32) : Option (Int32) := if p0 < 0 then (some (0 : Int32)) else (if (3 : Int32) ≤ p0 then (some (0 : Int32)) else (some (1 : Int32)))
set_option maxRecDepth 100000 in
set_option maxHeartbeats 4000000 in
theorem c_X10_isLane (l : Launch) (G : xG) (z : Nat) (f : xHp) (p0 : Int32) (rs : Int32) (h : F_X10_isLane f p0 = some rs) : xM G l yX10_isLane cX10_isLane 1 (some .boolean) rm_X10_isLane [.int p0] z f (some (.int rs)) z f := by
  refine xM_of (by decide) (Nat.le_of_ble_eq_true rfl) ?_
  intro p e s m below meth c ls X hr hlocks hin Y hl
  have hl : lv_has ls 1 [(0, .int p0)] := hl
  have hx := X.1.1
  have hb := X.1.2.1
  unfold F_X10_isLane at h
  refine lv_iload_n hx hb dX10_isLane_0 rfl (lv_at hl 0 rfl) ?_
  refine lv_if_lt (tgt := 13) hx hb dX10_isLane_1 (by decide) (fun c1 => ?_) (fun c1 => ?_)
  · replace h := Eq.trans (if_pos c1).symm h
    refine lv_iconst (v := 0) hx hb dX10_isLane_13 (by decide) ?_
    replace h := Option.some.inj h
    subst h
    exact q_retz (v := (0 : Int32)) X Y hr hlocks rfl (Nat.le_of_ble_eq_true rfl) (Nat.le_of_ble_eq_true rfl) dX10_isLane_14
  · replace h := Eq.trans (if_neg c1).symm h
    refine lv_iload_n hx hb dX10_isLane_4 rfl (lv_at hl 0 rfl) ?_
    refine lv_iconst (v := 3) hx hb dX10_isLane_5 (by decide) ?_
    refine lv_icmp_ge (tgt := 13) hx hb dX10_isLane_6 (by decide) (fun c2 => ?_) (fun c2 => ?_)
    · replace h := Eq.trans (if_pos c2).symm h
      refine lv_iconst (v := 0) hx hb dX10_isLane_13 (by decide) ?_
      replace h := Option.some.inj h
      subst h
      exact q_retz (v := (0 : Int32)) X Y hr hlocks rfl (Nat.le_of_ble_eq_true rfl) (Nat.le_of_ble_eq_true rfl) dX10_isLane_14
    · replace h := Eq.trans (if_neg c2).symm h
      refine lv_iconst (v := 1) hx hb dX10_isLane_9 (by decide) ?_
      refine lv_goto (tgt := 14) hx hb dX10_isLane_10 (by decide) ?_
      replace h := Option.some.inj h
      subst h
      exact q_retz (v := (1 : Int32)) X Y hr hlocks rfl (Nat.le_of_ble_eq_true rfl) (Nat.le_of_ble_eq_true rfl) dX10_isLane_14
/-! NeverBelow.isSheet(I)Z -/
abbrev rm_X10_isSheet : Room := { frames := 0, cells := 0, slots := 0, locals := 0 }
def F_X10_isSheet (f : xHp) (p0 : Int32) : Option (Int32) := if p0 < 0 then (some (0 : Int32)) else (if (4 : Int32) ≤ p0 then (some (0 : Int32)) else (some (1 : Int32)))
set_option maxRecDepth 100000 in
set_option maxHeartbeats 4000000 in
theorem c_X10_isSheet (l : Launch) (G : xG) (z : Nat) (f : xHp) (p0 : Int32) (rs : Int32) (h : F_X10_isSheet f p0 = some rs) : xM G l yX10_isSheet cX10_isSheet 1 (some .boolean) rm_X10_isSheet [.int p0] z f (some (.int rs)) z f := by
  refine xM_of (by decide) (Nat.le_of_ble_eq_true rfl) ?_
  intro p e s m below meth c ls X hr hlocks hin Y hl
  have hl : lv_has ls 1 [(0, .int p0)] := hl
  have hx := X.1.1
  have hb := X.1.2.1
  unfold F_X10_isSheet at h
  refine lv_iload_n hx hb dX10_isSheet_0 rfl (lv_at hl 0 rfl) ?_
  refine lv_if_lt (tgt := 13) hx hb dX10_isSheet_1 (by decide) (fun c1 => ?_) (fun c1 => ?_)
  · replace h := Eq.trans (if_pos c1).symm h
    refine lv_iconst (v := 0) hx hb dX10_isSheet_13 (by decide) ?_
    replace h := Option.some.inj h
    subst h
    exact q_retz (v := (0 : Int32)) X Y hr hlocks rfl (Nat.le_of_ble_eq_true rfl) (Nat.le_of_ble_eq_true rfl) dX10_isSheet_14
  · replace h := Eq.trans (if_neg c1).symm h
    refine lv_iload_n hx hb dX10_isSheet_4 rfl (lv_at hl 0 rfl) ?_
    refine lv_iconst (v := 4) hx hb dX10_isSheet_5 (by decide) ?_
    refine lv_icmp_ge (tgt := 13) hx hb dX10_isSheet_6 (by decide) (fun c2 => ?_) (fun c2 => ?_)
    · replace h := Eq.trans (if_pos c2).symm h
      refine lv_iconst (v := 0) hx hb dX10_isSheet_13 (by decide) ?_
      replace h := Option.some.inj h
      subst h
      exact q_retz (v := (0 : Int32)) X Y hr hlocks rfl (Nat.le_of_ble_eq_true rfl) (Nat.le_of_ble_eq_true rfl) dX10_isSheet_14
    · replace h := Eq.trans (if_neg c2).symm h
      refine lv_iconst (v := 1) hx hb dX10_isSheet_9 (by decide) ?_
      refine lv_goto (tgt := 14) hx hb dX10_isSheet_10 (by decide) ?_
      replace h := Option.some.inj h
      subst h
      exact q_retz (v := (1 : Int32)) X Y hr hlocks rfl (Nat.le_of_ble_eq_true rfl) (Nat.le_of_ble_eq_true rfl) dX10_isSheet_14
/-! NeverBelow$Sheet.<init>(II)V -/
abbrev rm_X6_init : Room := { frames := 1, cells := 1, slots := 30, locals := 24 }
def F_X6_init (z : Nat) (f : xHp) (h0 : Nat) (p1 : Int32) (p2 : Int32) : Option (Nat × xHp) := Option.bind (hPut f h0 [(5, 0)] (.int p1)) fun f1 => Option.bind (F_J9_max_7cf53 f1 (0 : Int32) p2) fun q2 => Option.bind (hNw q2 30) fun n3 => Option.bind (some (va_up f1 z (some (.inr (.inl (n3, fun _ => 0)))))) fun f4 => Option.bind (hPut f4 h0 [(5, 1)] (.ref z)) fun f5 => some ((z + 1), f5)
set_option maxRecDepth 100000 in
set_option maxHeartbeats 4000000 in
theorem c_X6_init (l : Launch) (G : xG) (z : Nat) (f : xHp) (h0 : Nat) (p1 : Int32) (p2 : Int32) (rs : Nat × xHp) (h : F_X6_init z f h0 p1 p2 = some rs) : xM G l yX6_init cX6_init 3 none rm_X6_init [.ref h0, .int p1, .int p2] z f none rs.1 rs.2 := by
  refine xM_of (by decide) (Nat.le_of_ble_eq_true rfl) ?_
  intro p e s m below meth c ls X hr hlocks hin Y hl
  have hl : lv_has ls 3 [(0, .ref h0), (1, .int p1), (2, .int p2)] := hl
  have hx := X.1.1
  have hb := X.1.2.1
  unfold F_X6_init at h
  refine lv_aload_n hx hb dX6_init_0 rfl (lv_at hl 0 rfl) ?_
  refine q_obj X hl.1 lo_X6_1 (Nat.le_of_ble_eq_true rfl) (Nat.le_of_ble_eq_true rfl) dX6_init_1 ?_
  refine lv_aload_n hx hb dX6_init_4 rfl (lv_at hl 0 rfl) ?_
  refine lv_iload_n hx hb dX6_init_5 rfl (lv_at hl 1 rfl) ?_
  replace h := xb h
  obtain ⟨f1, ef1, h⟩ := h
  refine q_putF X Y hin fp_X6_7 rfl rfl ef1 dX6_init_6 (fun H locs Y => ?_)
  refine lv_aload_n hx hb dX6_init_9 rfl (lv_at hl 0 rfl) ?_
  refine lv_iconst (v := 0) hx hb dX6_init_10 (by decide) ?_
  refine lv_iload_n hx hb dX6_init_11 rfl (lv_at hl 2 rfl) ?_
  replace h := xb h
  obtain ⟨q2, eq2, h⟩ := h
  refine q_callS X Y hl.1 (rest := [.ref h0]) (As := [.int (0 : Int32), .int p2]) (c_J9_max_7cf53 l G z f1 (0 : Int32) p2 _ eq2) cd_J9_max_7cf53 ls_X6_13 ⟨(Nat.le_of_ble_eq_true rfl), (Nat.le_of_ble_eq_true rfl)⟩ ⟨(Nat.le_of_ble_eq_true rfl), (Nat.le_of_ble_eq_true rfl)⟩ rfl rfl (Nat.le_of_ble_eq_true rfl) dX6_init_12 (fun H locs Y => ?_)
  refine W.eq (g2 := F0 m 15 ls [.int q2, .ref h0]) rfl ?_
  replace h := xb h
  obtain ⟨n3, en3, h⟩ := h
  replace h := xb h
  obtain ⟨f4, ef4, h⟩ := h
  have ef4 := Option.some.inj ef4
  refine q_newJ X Y en3 (by decide) xw_80 (Nat.le_of_ble_eq_true rfl) (Nat.le_of_ble_eq_true rfl) dX6_init_15 (fun H Y => ?_)
  rw [ef4] at Y
  replace h := xb h
  obtain ⟨f5, ef5, h⟩ := h
  refine q_putF X Y hin fp_X6_19 rfl rfl ef5 dX6_init_17 (fun H locs Y => ?_)
  replace h := Option.some.inj h
  subst h
  exact q_retv X Y hr hlocks (Nat.le_of_ble_eq_true rfl) (Nat.le_of_ble_eq_true rfl) dX6_init_20
/-! NeverBelow.sheet(III)I -/
abbrev rm_X10_sheet : Room := { frames := 2, cells := 2, slots := 32, locals := 46 }
def F_X10_sheet (z : Nat) (f : xHp) (h0 : Nat) (p1 : Int32) (p2 : Int32) (p3 : Int32) : Option (Int32 × Nat × xHp) := Option.bind (hPut f h0 [(9, 9)] (.int (0 : Int32))) fun f1 => Option.bind (F_X10_isSheet f1 p1) fun q2 => if q2 = 0 then (some ((-1 : Int32), z, f1)) else (Option.bind (F_X10_isLane f1 p2) fun q4 => if q4 = 0 then (some ((-2 : Int32), z, f1)) else (if p3 ≤ (30 : Int32) then (if 0 ≤ p3 then (Option.bind (hN f1 h0 [(9, 0)]) fun v8 => Option.bind (some (va_up f1 z (some (.inr (.inr (.inr (5, [.int 0, .null]))))))) fun f9 => Option.bind (F_X6_init (z + 1) f9 z p2 p3) fun q10 => Option.bind (hRst q10.2 v8 p1 z) fun f11 => some ((1 : Int32), q10.1, f11)) else (if hKd f1 h0 = some 9 then (Option.bind (F_X10_faulted f1 h0 (4 : Int32)) fun q13 => some (q13.1, z, q13.2)) else none)) else (some ((-2 : Int32), z, f1))))
set_option maxRecDepth 100000 in
set_option maxHeartbeats 4000000 in
theorem c_X10_sheet (l : Launch) (G : xG) (z : Nat) (f : xHp) (h0 : Nat) (p1 : Int32) (p2 : Int32) (p3 : Int32) (rs : Int32 × Nat × xHp) (h : F_X10_sheet z f h0 p1 p2 p3 = some rs) : xM G l yX10_sheet cX10_sheet 4 (some .int) rm_X10_sheet [.ref h0, .int p1, .int p2, .int p3] z f (some (.int rs.1)) rs.2.1 rs.2.2 := by
  refine xM_of (by decide) (Nat.le_of_ble_eq_true rfl) ?_
  intro p e s m below meth c ls X hr hlocks hin Y hl
  have hl : lv_has ls 4 [(0, .ref h0), (1, .int p1), (2, .int p2), (3, .int p3)] := hl
  have hx := X.1.1
  have hb := X.1.2.1
  unfold F_X10_sheet at h
  refine lv_aload_n hx hb dX10_sheet_0 rfl (lv_at hl 0 rfl) ?_
  refine lv_iconst (v := 0) hx hb dX10_sheet_1 (by decide) ?_
  replace h := xb h
  obtain ⟨f1, ef1, h⟩ := h
  refine q_put X Y fp_X10_47 rfl rfl ef1 dX10_sheet_2 (fun H locs Y => ?_)
  refine lv_iload_n hx hb dX10_sheet_5 rfl (lv_at hl 1 rfl) ?_
  replace h := xb h
  obtain ⟨q2, eq2, h⟩ := h
  refine q_callS X Y hl.1 (rest := []) (As := [.int p1]) (c_X10_isSheet l G z f1 p1 _ eq2) cd_X10_isSheet ls_X10_51 ⟨(Nat.le_of_ble_eq_true rfl), (Nat.le_of_ble_eq_true rfl)⟩ ⟨(Nat.le_of_ble_eq_true rfl), (Nat.le_of_ble_eq_true rfl)⟩ rfl rfl (Nat.le_of_ble_eq_true rfl) dX10_sheet_6 (fun H locs Y => ?_)
  refine W.eq (g2 := F0 m 9 ls [.int q2]) rfl ?_
  refine lv_if_ne (tgt := 14) hx hb dX10_sheet_9 (by decide) (fun c3 => ?_) (fun c3 => ?_)
  · replace h := Eq.trans (if_neg c3).symm h
    refine lv_iload_n hx hb dX10_sheet_14 rfl (lv_at hl 2 rfl) ?_
    replace h := xb h
    obtain ⟨q4, eq4, h⟩ := h
    refine q_callS X Y hl.1 (rest := []) (As := [.int p2]) (c_X10_isLane l G z f1 p2 _ eq4) cd_X10_isLane ls_X10_55 ⟨(Nat.le_of_ble_eq_true rfl), (Nat.le_of_ble_eq_true rfl)⟩ ⟨(Nat.le_of_ble_eq_true rfl), (Nat.le_of_ble_eq_true rfl)⟩ rfl rfl (Nat.le_of_ble_eq_true rfl) dX10_sheet_15 (fun H locs Y => ?_)
    refine W.eq (g2 := F0 m 18 ls [.int q4]) rfl ?_
    refine lv_if_eq (tgt := 27) hx hb dX10_sheet_18 (by decide) (fun c5 => ?_) (fun c5 => ?_)
    · replace h := Eq.trans (if_pos c5).symm h
      refine lv_bipush (v := -2) hx hb dX10_sheet_27 (by decide) ?_
      replace h := Option.some.inj h
      subst h
      exact q_reti X Y hr hlocks (Nat.le_of_ble_eq_true rfl) (Nat.le_of_ble_eq_true rfl) dX10_sheet_29
    · replace h := Eq.trans (if_neg c5).symm h
      refine lv_iload_n hx hb dX10_sheet_21 rfl (lv_at hl 3 rfl) ?_
      refine lv_bipush (v := 30) hx hb dX10_sheet_22 (by decide) ?_
      refine lv_icmp_le (tgt := 30) hx hb dX10_sheet_24 (by decide) (fun c6 => ?_) (fun c6 => ?_)
      · replace h := Eq.trans (if_pos c6).symm h
        refine lv_iload_n hx hb dX10_sheet_30 rfl (lv_at hl 3 rfl) ?_
        refine lv_if_ge (tgt := 40) hx hb dX10_sheet_31 (by decide) (fun c7 => ?_) (fun c7 => ?_)
        · replace h := Eq.trans (if_pos c7).symm h
          refine lv_aload_n hx hb dX10_sheet_40 rfl (lv_at hl 0 rfl) ?_
          replace h := xb h
          obtain ⟨v8, ev8, h⟩ := h
          refine q_getN X Y fl_X10_13 ev8 dX10_sheet_41 ?_
          refine lv_iload_n hx hb dX10_sheet_44 rfl (lv_at hl 1 rfl) ?_
          replace h := xb h
          obtain ⟨f9, ef9, h⟩ := h
          have ef9 := Option.some.inj ef9
          refine q_new X Y no_X10_11 (Nat.le_of_ble_eq_true rfl) (Nat.le_of_ble_eq_true rfl) dX10_sheet_45 (fun H Y => ?_)
          rw [ef9] at Y
          refine lv_dup hx hb dX10_sheet_48 rfl ?_
          refine lv_iload_n hx hb dX10_sheet_49 rfl (lv_at hl 2 rfl) ?_
          refine lv_iload_n hx hb dX10_sheet_50 rfl (lv_at hl 3 rfl) ?_
          replace h := xb h
          obtain ⟨q10, eq10, h⟩ := h
          refine q_callI X Y hl.1 (rest := [.ref z, .int p1, .ref v8]) (As := [.int p2, .int p3]) (c_X6_init l G (z + 1) f9 z p2 p3 _ eq10) cd_X6_init li_X10_62 ⟨(Nat.le_of_ble_eq_true rfl), (Nat.le_of_ble_eq_true rfl)⟩ ⟨(Nat.le_of_ble_eq_true rfl), (Nat.le_of_ble_eq_true rfl)⟩ rfl rfl (Nat.le_of_ble_eq_true rfl) dX10_sheet_51 (fun H locs Y => ?_)
          refine W.eq (g2 := F0 m 54 ls [.ref z, .int p1, .ref v8]) rfl ?_
          refine W.widen (k := 2) (n := 32) (Nat.le_of_ble_eq_true rfl) (Nat.le_of_ble_eq_true rfl) ?_
          replace h := xb h
          obtain ⟨f11, ef11, h⟩ := h
          refine q_aast X Y xw_1254 xw_1255 xw_1256 xw_1253 ef11 dX10_sheet_54 (fun H locs Y => ?_)
          refine lv_iconst (v := 1) hx hb dX10_sheet_55 (by decide) ?_
          replace h := Option.some.inj h
          subst h
          exact q_reti X Y hr hlocks (Nat.le_of_ble_eq_true rfl) (Nat.le_of_ble_eq_true rfl) dX10_sheet_56
        · replace h := Eq.trans (if_neg c7).symm h
          refine lv_aload_n hx hb dX10_sheet_34 rfl (lv_at hl 0 rfl) ?_
          refine lv_iconst (v := 4) hx hb dX10_sheet_35 (by decide) ?_
          by_cases c12 : hKd f1 h0 = some 9
          · replace h := Eq.trans (if_pos c12).symm h
            replace h := xb h
            obtain ⟨q13, eq13, h⟩ := h
            refine q_callV X Y hl.1 (rest := []) (As := [.int (4 : Int32)]) (c_X10_faulted l G z f1 h0 (4 : Int32) _ eq13) cd_X10_faulted lv_X10_58_9 c12 ⟨(Nat.le_of_ble_eq_true rfl), (Nat.le_of_ble_eq_true rfl)⟩ ⟨(Nat.le_of_ble_eq_true rfl), (Nat.le_of_ble_eq_true rfl)⟩ rfl rfl (Nat.le_of_ble_eq_true rfl) dX10_sheet_36 (fun H locs Y => ?_)
            refine W.eq (g2 := F0 m 39 ls [.int q13.1]) rfl ?_
            replace h := Option.some.inj h
            subst h
            exact q_reti X Y hr hlocks (Nat.le_of_ble_eq_true rfl) (Nat.le_of_ble_eq_true rfl) dX10_sheet_39
          replace h := Eq.trans (if_neg c12).symm h
          cases h
      · replace h := Eq.trans (if_neg c6).symm h
        refine lv_bipush (v := -2) hx hb dX10_sheet_27 (by decide) ?_
        replace h := Option.some.inj h
        subst h
        exact q_reti X Y hr hlocks (Nat.le_of_ble_eq_true rfl) (Nat.le_of_ble_eq_true rfl) dX10_sheet_29
  · replace h := Eq.trans (if_pos c3).symm h
    refine lv_iconst (v := -1) hx hb dX10_sheet_12 (by decide) ?_
    replace h := Option.some.inj h
    subst h
    exact q_reti X Y hr hlocks (Nat.le_of_ble_eq_true rfl) (Nat.le_of_ble_eq_true rfl) dX10_sheet_13
/-! NeverBelow.lose(I)I -/
abbrev rm_X10_lose : Room := { frames := 1, cells := 0, slots := 0, locals := 20 }
def F_X10_lose_23  (f : xHp) (a0 : Nat) (a1 : Int32) (s0 : Int32) : Option (Int32 × xHp) := Option.bind (hN f a0 [(9, 0)]) fun v1 => Option.bind (hRstN f v1 a1) fun f2 => if s0 = 0 then (some ((0 : Int32), f2)) else (some ((1 : Int32), f2))
def F_X10_lose (f : xHp) (h0 : Nat) (p1 : Int32) : Option (Int32 × xHp) := Option.bind (F_X10_isSheet f p1) fun q1 => if q1 = 0 then (some ((-1 : Int32), f)) else (Option.bind (hN f h0 [(9, 0)]) fun v3 => Option.bind (hRld f v3 p1) fun v4 => xnul v4 (F_X10_lose_23 f h0 p1 (0 : Int32)) (fun q6 => F_X10_lose_23 f h0 p1 (1 : Int32)))
set_option maxRecDepth 100000 in
set_option maxHeartbeats 4000000 in
theorem w_X10_lose_23 {p : Program} {l : Launch} {e : Env} {s : State} {m : MethodId} {args : Array Value} {below : List Frame} {meth : Method} {c : Code} {G : xG} {z : Nat} (X : xC G p m c s args RX10 cX10_lose 3) (hr : meth.sig.returnType = (some .int)) (hlocks : meth.locks = false) (hin : meth.name = yX10_lose.name) (rs : Int32 × xHp)  (f : xHp) (a0 : Nat) (a1 : Int32) (s0 : Int32) (H : Heap) (locs : List Loc) (ls : Array Slot) (h : F_X10_lose_23  f a0 a1 s0 = some rs) (Y : xY G z f s H locs) (hl : lv_has ls 3 [(0, .ref a0), (1, .int a1)]) : W p l e rm_X10_lose s m args below meth c H locs 0 0 (MQ below (xQ G (some (.int rs.1)) z rs.2) args s rm_X10_lose.cells rm_X10_lose.slots (xA G)) (F0 m 23 ls [.int s0]) := by
  have hx := X.1.1
  have hb := X.1.2.1
  unfold F_X10_lose_23 at h
  refine lv_istore_n (lv' := [(2, .int s0), (0, .ref a0), (1, .int a1)]) hx hb dX10_lose_23 rfl hl (by decide) rfl (fun ls hl => ?_)
  refine lv_aload_n hx hb dX10_lose_24 rfl (lv_at hl 1 rfl) ?_
  replace h := xb h
  obtain ⟨v1, ev1, h⟩ := h
  refine q_getN X Y fl_X10_13 ev1 dX10_lose_25 ?_
  refine lv_iload_n hx hb dX10_lose_28 rfl (lv_at hl 2 rfl) ?_
  refine lv_null hx hb dX10_lose_29 ?_
  replace h := xb h
  obtain ⟨f2, ef2, h⟩ := h
  refine q_aastN X Y ef2 dX10_lose_30 (fun H locs Y => ?_)
  refine lv_iload_n hx hb dX10_lose_31 rfl (lv_at hl 0 rfl) ?_
  refine lv_if_eq (tgt := 39) hx hb dX10_lose_32 (by decide) (fun c3 => ?_) (fun c3 => ?_)
  · replace h := Eq.trans (if_pos c3).symm h
    refine lv_iconst (v := 0) hx hb dX10_lose_39 (by decide) ?_
    replace h := Option.some.inj h
    subst h
    exact q_reti X Y hr hlocks (Nat.le_of_ble_eq_true rfl) (Nat.le_of_ble_eq_true rfl) dX10_lose_40
  · replace h := Eq.trans (if_neg c3).symm h
    refine lv_iconst (v := 1) hx hb dX10_lose_35 (by decide) ?_
    refine lv_goto (tgt := 40) hx hb dX10_lose_36 (by decide) ?_
    replace h := Option.some.inj h
    subst h
    exact q_reti X Y hr hlocks (Nat.le_of_ble_eq_true rfl) (Nat.le_of_ble_eq_true rfl) dX10_lose_40
set_option maxRecDepth 100000 in
set_option maxHeartbeats 4000000 in
theorem c_X10_lose (l : Launch) (G : xG) (z : Nat) (f : xHp) (h0 : Nat) (p1 : Int32) (rs : Int32 × xHp) (h : F_X10_lose f h0 p1 = some rs) : xM G l yX10_lose cX10_lose 3 (some .int) rm_X10_lose [.ref h0, .int p1] z f (some (.int rs.1)) z rs.2 := by
  refine xM_of (by decide) (Nat.le_of_ble_eq_true rfl) ?_
  intro p e s m below meth c ls X hr hlocks hin Y hl
  have hl : lv_has ls 3 [(0, .ref h0), (1, .int p1)] := hl
  have hx := X.1.1
  have hb := X.1.2.1
  unfold F_X10_lose at h
  refine lv_iload_n hx hb dX10_lose_0 rfl (lv_at hl 1 rfl) ?_
  replace h := xb h
  obtain ⟨q1, eq1, h⟩ := h
  refine q_callS X Y hl.1 (rest := []) (As := [.int p1]) (c_X10_isSheet l G z f p1 _ eq1) cd_X10_isSheet ls_X10_51 ⟨(Nat.le_of_ble_eq_true rfl), (Nat.le_of_ble_eq_true rfl)⟩ ⟨(Nat.le_of_ble_eq_true rfl), (Nat.le_of_ble_eq_true rfl)⟩ rfl rfl (Nat.le_of_ble_eq_true rfl) dX10_lose_1 (fun H locs Y => ?_)
  refine W.eq (g2 := F0 m 4 ls [.int q1]) rfl ?_
  refine lv_if_ne (tgt := 9) hx hb dX10_lose_4 (by decide) (fun c2 => ?_) (fun c2 => ?_)
  · replace h := Eq.trans (if_neg c2).symm h
    refine lv_aload_n hx hb dX10_lose_9 rfl (lv_at hl 0 rfl) ?_
    replace h := xb h
    obtain ⟨v3, ev3, h⟩ := h
    refine q_getN X Y fl_X10_13 ev3 dX10_lose_10 ?_
    refine lv_iload_n hx hb dX10_lose_13 rfl (lv_at hl 1 rfl) ?_
    replace h := xb h
    obtain ⟨v4, ev4, h⟩ := h
    refine q_aald X Y ev4 dX10_lose_14 ?_
    refine q_ifnull (tgt := 22) hx hb dX10_lose_15 (by decide) (fun c5 => ?_) (fun q6 eq6 => ?_)
    · replace h := xn0 h c5
      subst c5
      refine lv_iconst (v := 0) hx hb dX10_lose_22 (by decide) ?_
      refine W.widen (k := 0) (n := 0) (Nat.le_of_ble_eq_true rfl) (Nat.le_of_ble_eq_true rfl) ?_
      exact w_X10_lose_23 X hr hlocks hin rs   f h0 p1 (0 : Int32) _ _ _ h Y (lv_sub hl [0, 1] rfl)
    · replace h := xn1 h eq6
      subst eq6
      refine lv_iconst (v := 1) hx hb dX10_lose_18 (by decide) ?_
      refine lv_goto (tgt := 23) hx hb dX10_lose_19 (by decide) ?_
      refine W.widen (k := 0) (n := 0) (Nat.le_of_ble_eq_true rfl) (Nat.le_of_ble_eq_true rfl) ?_
      exact w_X10_lose_23 X hr hlocks hin rs   f h0 p1 (1 : Int32) _ _ _ h Y (lv_sub hl [0, 1] rfl)
  · replace h := Eq.trans (if_pos c2).symm h
    refine lv_iconst (v := -1) hx hb dX10_lose_7 (by decide) ?_
    replace h := Option.some.inj h
    subst h
    exact q_reti X Y hr hlocks (Nat.le_of_ble_eq_true rfl) (Nat.le_of_ble_eq_true rfl) dX10_lose_8
/-! NeverBelow$Sheet.cutToLane(J)J -/
abbrev rm_X6_cutToLane : Room := { frames := 0, cells := 0, slots := 0, locals := 0 }
def F_X6_cutToLane (f : xHp) (h0 : Nat) (p1 : Int64) : Option (Int64) := Option.bind (hI f h0 [(5, 0)]) fun v1 => if v1 = 0 then some (p1.toInt32).toInt8.toInt32.toInt64 else if v1 = 1 then some (p1.toInt32).toInt64 else some p1
set_option maxRecDepth 100000 in
set_option maxHeartbeats 4000000 in
theorem c_X6_cutToLane (l : Launch) (G : xG) (z : Nat) (f : xHp) (h0 : Nat) (p1 : Int64) (rs : Int64) (h : F_X6_cutToLane f h0 p1 = some rs) : xM G l yX6_cutToLane cX6_cutToLane 3 (some .long) rm_X6_cutToLane [.ref h0, .long p1] z f (some (.long rs)) z f := by
  refine xM_of (by decide) (Nat.le_of_ble_eq_true rfl) ?_
  intro p e s m below meth c ls X hr hlocks hin Y hl
  have hl : lv_has ls 3 [(0, .ref h0), (1, .long p1)] := hl
  have hx := X.1.1
  have hb := X.1.2.1
  unfold F_X6_cutToLane at h
  refine lv_aload_n hx hb dX6_cutToLane_0 rfl (lv_at hl 0 rfl) ?_
  replace h := xb h
  obtain ⟨v1, ev1, h⟩ := h
  refine q_getI X Y fl_X6_7 ev1 dX6_cutToLane_1 ?_
  by_cases c2 : v1 = 0
  · replace h := Eq.trans (if_pos c2).symm h
    refine lv_lookup (off := 28) (tgt := 32) hx hb dX6_cutToLane_4 (by decide) (by first | (rw [c2]; done) | (rw [c2]; rfl)) (by decide) ?_
    refine lv_lload_n hx hb dX6_cutToLane_32 rfl (lv_at hl 1 rfl) ?_
    refine lv_l2i hx hb dX6_cutToLane_33 rfl ?_
    refine lv_i2b hx hb dX6_cutToLane_34 rfl ?_
    refine lv_i2l hx hb dX6_cutToLane_35 rfl ?_
    replace h := Option.some.inj h
    subst h
    exact q_retl X Y hr hlocks (Nat.le_of_ble_eq_true rfl) (Nat.le_of_ble_eq_true rfl) dX6_cutToLane_36
  replace h := Eq.trans (if_neg c2).symm h
  by_cases c3 : v1 = 1
  · replace h := Eq.trans (if_pos c3).symm h
    refine lv_lookup (off := 33) (tgt := 37) hx hb dX6_cutToLane_4 (by decide) (by first | (rw [c3]; done) | (rw [c3]; rfl)) (by decide) ?_
    refine lv_lload_n hx hb dX6_cutToLane_37 rfl (lv_at hl 1 rfl) ?_
    refine lv_l2i hx hb dX6_cutToLane_38 rfl ?_
    refine lv_i2l hx hb dX6_cutToLane_39 rfl ?_
    replace h := Option.some.inj h
    subst h
    exact q_retl X Y hr hlocks (Nat.le_of_ble_eq_true rfl) (Nat.le_of_ble_eq_true rfl) dX6_cutToLane_40
  replace h := Eq.trans (if_neg c3).symm h
  refine lv_lookup (off := 37) (tgt := 41) hx hb dX6_cutToLane_4 (by decide) (by show Op.lookupswitch.offset [((0 : Int), (28 : Int)), ((1 : Int), (33 : Int))] _ _ = _; first | (rw [lv_osw c2 (by decide), lv_osw c3 (by decide)]; done) | (rw [lv_osw c2 (by decide), lv_osw c3 (by decide)]; rfl)) (by decide) ?_
  refine lv_lload_n hx hb dX6_cutToLane_41 rfl (lv_at hl 1 rfl) ?_
  replace h := Option.some.inj h
  subst h
  exact q_retl X Y hr hlocks (Nat.le_of_ble_eq_true rfl) (Nat.le_of_ble_eq_true rfl) dX6_cutToLane_42
/-! NeverBelow$Sheet.has(I)Z -/
abbrev rm_X6_has : Room := { frames := 0, cells := 0, slots := 0, locals := 0 }
def F_X6_has (f : xHp) (h0 : Nat) (p1 : Int32) : Option (Int32) := if p1 < 0 then (some (0 : Int32)) else (Option.bind (hN f h0 [(5, 1)]) fun v2 => Option.bind (hLen f v2) fun v3 => if v3 ≤ p1 then (some (0 : Int32)) else (some (1 : Int32)))
set_option maxRecDepth 100000 in
set_option maxHeartbeats 4000000 in
theorem c_X6_has (l : Launch) (G : xG) (z : Nat) (f : xHp) (h0 : Nat) (p1 : Int32) (rs : Int32) (h : F_X6_has f h0 p1 = some rs) : xM G l yX6_has cX6_has 2 (some .boolean) rm_X6_has [.ref h0, .int p1] z f (some (.int rs)) z f := by
  refine xM_of (by decide) (Nat.le_of_ble_eq_true rfl) ?_
  intro p e s m below meth c ls X hr hlocks hin Y hl
  have hl : lv_has ls 2 [(0, .ref h0), (1, .int p1)] := hl
  have hx := X.1.1
  have hb := X.1.2.1
  unfold F_X6_has at h
  refine lv_iload_n hx hb dX6_has_0 rfl (lv_at hl 1 rfl) ?_
  refine lv_if_lt (tgt := 17) hx hb dX6_has_1 (by decide) (fun c1 => ?_) (fun c1 => ?_)
  · replace h := Eq.trans (if_pos c1).symm h
    refine lv_iconst (v := 0) hx hb dX6_has_17 (by decide) ?_
    replace h := Option.some.inj h
    subst h
    exact q_retz (v := (0 : Int32)) X Y hr hlocks rfl (Nat.le_of_ble_eq_true rfl) (Nat.le_of_ble_eq_true rfl) dX6_has_18
  · replace h := Eq.trans (if_neg c1).symm h
    refine lv_iload_n hx hb dX6_has_4 rfl (lv_at hl 1 rfl) ?_
    refine lv_aload_n hx hb dX6_has_5 rfl (lv_at hl 0 rfl) ?_
    replace h := xb h
    obtain ⟨v2, ev2, h⟩ := h
    refine q_getN X Y fl_X6_19 ev2 dX6_has_6 ?_
    replace h := xb h
    obtain ⟨v3, ev3, h⟩ := h
    refine q_alen X Y ev3 dX6_has_9 ?_
    refine lv_icmp_ge (tgt := 17) hx hb dX6_has_10 (by decide) (fun c4 => ?_) (fun c4 => ?_)
    · replace h := Eq.trans (if_pos c4).symm h
      refine lv_iconst (v := 0) hx hb dX6_has_17 (by decide) ?_
      replace h := Option.some.inj h
      subst h
      exact q_retz (v := (0 : Int32)) X Y hr hlocks rfl (Nat.le_of_ble_eq_true rfl) (Nat.le_of_ble_eq_true rfl) dX6_has_18
    · replace h := Eq.trans (if_neg c4).symm h
      refine lv_iconst (v := 1) hx hb dX6_has_13 (by decide) ?_
      refine lv_goto (tgt := 18) hx hb dX6_has_14 (by decide) ?_
      replace h := Option.some.inj h
      subst h
      exact q_retz (v := (1 : Int32)) X Y hr hlocks rfl (Nat.le_of_ble_eq_true rfl) (Nat.le_of_ble_eq_true rfl) dX6_has_18
/-! NeverBelow.put(IIJ)I -/
abbrev rm_X10_put : Room := { frames := 1, cells := 0, slots := 0, locals := 22 }
def F_X10_put (f : xHp) (h0 : Nat) (p1 : Int32) (p2 : Int32) (p3 : Int64) : Option (Int32 × xHp) := Option.bind (hPut f h0 [(9, 9)] (.int (0 : Int32))) fun f1 => Option.bind (F_X10_isSheet f1 p1) fun q2 => if q2 = 0 then (some ((-1 : Int32), f1)) else (Option.bind (hN f1 h0 [(9, 0)]) fun v4 => Option.bind (hRld f1 v4 p1) fun v5 => xnul v5 (if hKd f1 h0 = some 9 then (Option.bind (F_X10_faulted f1 h0 (1 : Int32)) fun q9 => some (q9.1, q9.2)) else none) (fun q7 => if hKd f1 q7 = some 5 then (Option.bind (F_X6_has f1 q7 p2) fun q11 => if q11 = 0 then (if hKd f1 h0 = some 9 then (Option.bind (F_X10_faulted f1 h0 (3 : Int32)) fun q18 => some (q18.1, q18.2)) else none) else (Option.bind (hN f1 q7 [(5, 1)]) fun v13 => if hKd f1 q7 = some 5 then (Option.bind (F_X6_cutToLane f1 q7 p3) fun q15 => Option.bind (hJst f1 v13 p2 q15) fun f16 => some ((1 : Int32), f16)) else none)) else none))
set_option maxRecDepth 100000 in
set_option maxHeartbeats 4000000 in
theorem c_X10_put (l : Launch) (G : xG) (z : Nat) (f : xHp) (h0 : Nat) (p1 : Int32) (p2 : Int32) (p3 : Int64) (rs : Int32 × xHp) (h : F_X10_put f h0 p1 p2 p3 = some rs) : xM G l yX10_put cX10_put 6 (some .int) rm_X10_put [.ref h0, .int p1, .int p2, .long p3] z f (some (.int rs.1)) z rs.2 := by
  refine xM_of (by decide) (Nat.le_of_ble_eq_true rfl) ?_
  intro p e s m below meth c ls X hr hlocks hin Y hl
  have hl : lv_has ls 6 [(0, .ref h0), (1, .int p1), (2, .int p2), (3, .long p3)] := hl
  have hx := X.1.1
  have hb := X.1.2.1
  unfold F_X10_put at h
  refine lv_aload_n hx hb dX10_put_0 rfl (lv_at hl 0 rfl) ?_
  refine lv_iconst (v := 0) hx hb dX10_put_1 (by decide) ?_
  replace h := xb h
  obtain ⟨f1, ef1, h⟩ := h
  refine q_put X Y fp_X10_47 rfl rfl ef1 dX10_put_2 (fun H locs Y => ?_)
  refine lv_iload_n hx hb dX10_put_5 rfl (lv_at hl 1 rfl) ?_
  replace h := xb h
  obtain ⟨q2, eq2, h⟩ := h
  refine q_callS X Y hl.1 (rest := []) (As := [.int p1]) (c_X10_isSheet l G z f1 p1 _ eq2) cd_X10_isSheet ls_X10_51 ⟨(Nat.le_of_ble_eq_true rfl), (Nat.le_of_ble_eq_true rfl)⟩ ⟨(Nat.le_of_ble_eq_true rfl), (Nat.le_of_ble_eq_true rfl)⟩ rfl rfl (Nat.le_of_ble_eq_true rfl) dX10_put_6 (fun H locs Y => ?_)
  refine W.eq (g2 := F0 m 9 ls [.int q2]) rfl ?_
  refine lv_if_ne (tgt := 14) hx hb dX10_put_9 (by decide) (fun c3 => ?_) (fun c3 => ?_)
  · replace h := Eq.trans (if_neg c3).symm h
    refine lv_aload_n hx hb dX10_put_14 rfl (lv_at hl 0 rfl) ?_
    replace h := xb h
    obtain ⟨v4, ev4, h⟩ := h
    refine q_getN X Y fl_X10_13 ev4 dX10_put_15 ?_
    refine lv_iload_n hx hb dX10_put_18 rfl (lv_at hl 1 rfl) ?_
    replace h := xb h
    obtain ⟨v5, ev5, h⟩ := h
    refine q_aald X Y ev5 dX10_put_19 ?_
    refine q_astore (lv' := [(5, va_rf v5), (0, .ref h0), (1, .int p1), (2, .int p2), (3, .long p3)]) hx hb dX10_put_20 hl (by decide) rfl (fun ls hl => ?_)
    refine q_aload hx hb dX10_put_22 (lv_at hl 0 rfl) ?_
    refine q_ifnonnull (tgt := 33) hx hb dX10_put_24 (by decide) (fun c6 => ?_) (fun q7 eq7 => ?_)
    · replace h := xn0 h c6
      subst c6
      have hl : lv_has ls 6 [(5, .null), (0, .ref h0), (1, .int p1), (2, .int p2), (3, .long p3)] := hl
      refine lv_aload_n hx hb dX10_put_27 rfl (lv_at hl 1 rfl) ?_
      refine lv_iconst (v := 1) hx hb dX10_put_28 (by decide) ?_
      by_cases c8 : hKd f1 h0 = some 9
      · replace h := Eq.trans (if_pos c8).symm h
        replace h := xb h
        obtain ⟨q9, eq9, h⟩ := h
        refine q_callV X Y hl.1 (rest := []) (As := [.int (1 : Int32)]) (c_X10_faulted l G z f1 h0 (1 : Int32) _ eq9) cd_X10_faulted lv_X10_58_9 c8 ⟨(Nat.le_of_ble_eq_true rfl), (Nat.le_of_ble_eq_true rfl)⟩ ⟨(Nat.le_of_ble_eq_true rfl), (Nat.le_of_ble_eq_true rfl)⟩ rfl rfl (Nat.le_of_ble_eq_true rfl) dX10_put_29 (fun H locs Y => ?_)
        refine W.eq (g2 := F0 m 32 ls [.int q9.1]) rfl ?_
        replace h := Option.some.inj h
        subst h
        exact q_reti X Y hr hlocks (Nat.le_of_ble_eq_true rfl) (Nat.le_of_ble_eq_true rfl) dX10_put_32
      replace h := Eq.trans (if_neg c8).symm h
      cases h
    · replace h := xn1 h eq7
      subst eq7
      have hl : lv_has ls 6 [(5, .ref q7), (0, .ref h0), (1, .int p1), (2, .int p2), (3, .long p3)] := hl
      refine lv_aload hx hb dX10_put_33 (lv_at hl 0 rfl) ?_
      refine lv_iload_n hx hb dX10_put_35 rfl (lv_at hl 3 rfl) ?_
      by_cases c10 : hKd f1 q7 = some 5
      · replace h := Eq.trans (if_pos c10).symm h
        replace h := xb h
        obtain ⟨q11, eq11, h⟩ := h
        refine q_callV X Y hl.1 (rest := []) (As := [.int p2]) (c_X6_has l G z f1 q7 p2 _ eq11) cd_X6_has lv_X10_65_5 c10 ⟨(Nat.le_of_ble_eq_true rfl), (Nat.le_of_ble_eq_true rfl)⟩ ⟨(Nat.le_of_ble_eq_true rfl), (Nat.le_of_ble_eq_true rfl)⟩ rfl rfl (Nat.le_of_ble_eq_true rfl) dX10_put_36 (fun H locs Y => ?_)
        refine W.eq (g2 := F0 m 39 ls [.int q11]) rfl ?_
        refine lv_if_ne (tgt := 48) hx hb dX10_put_39 (by decide) (fun c12 => ?_) (fun c12 => ?_)
        · replace h := Eq.trans (if_neg c12).symm h
          refine lv_aload hx hb dX10_put_48 (lv_at hl 0 rfl) ?_
          replace h := xb h
          obtain ⟨v13, ev13, h⟩ := h
          refine q_getN X Y fl_X10_68 ev13 dX10_put_50 ?_
          refine lv_iload_n hx hb dX10_put_53 rfl (lv_at hl 3 rfl) ?_
          refine lv_aload hx hb dX10_put_54 (lv_at hl 0 rfl) ?_
          refine lv_lload_n hx hb dX10_put_56 rfl (lv_at hl 4 rfl) ?_
          by_cases c14 : hKd f1 q7 = some 5
          · replace h := Eq.trans (if_pos c14).symm h
            replace h := xb h
            obtain ⟨q15, eq15, h⟩ := h
            refine q_callV X Y hl.1 (rest := [.int p2, .ref v13]) (As := [.long p3]) (c_X6_cutToLane l G z f1 q7 p3 _ eq15) cd_X6_cutToLane lv_X10_72_5 c14 ⟨(Nat.le_of_ble_eq_true rfl), (Nat.le_of_ble_eq_true rfl)⟩ ⟨(Nat.le_of_ble_eq_true rfl), (Nat.le_of_ble_eq_true rfl)⟩ rfl rfl (Nat.le_of_ble_eq_true rfl) dX10_put_57 (fun H locs Y => ?_)
            refine W.eq (g2 := F0 m 60 ls [.long q15, .int p2, .ref v13]) rfl ?_
            replace h := xb h
            obtain ⟨f16, ef16, h⟩ := h
            refine q_last X Y ef16 dX10_put_60 (fun H locs Y => ?_)
            refine lv_iconst (v := 1) hx hb dX10_put_61 (by decide) ?_
            replace h := Option.some.inj h
            subst h
            exact q_reti X Y hr hlocks (Nat.le_of_ble_eq_true rfl) (Nat.le_of_ble_eq_true rfl) dX10_put_62
          replace h := Eq.trans (if_neg c14).symm h
          cases h
        · replace h := Eq.trans (if_pos c12).symm h
          refine lv_aload_n hx hb dX10_put_42 rfl (lv_at hl 1 rfl) ?_
          refine lv_iconst (v := 3) hx hb dX10_put_43 (by decide) ?_
          by_cases c17 : hKd f1 h0 = some 9
          · replace h := Eq.trans (if_pos c17).symm h
            replace h := xb h
            obtain ⟨q18, eq18, h⟩ := h
            refine q_callV X Y hl.1 (rest := []) (As := [.int (3 : Int32)]) (c_X10_faulted l G z f1 h0 (3 : Int32) _ eq18) cd_X10_faulted lv_X10_58_9 c17 ⟨(Nat.le_of_ble_eq_true rfl), (Nat.le_of_ble_eq_true rfl)⟩ ⟨(Nat.le_of_ble_eq_true rfl), (Nat.le_of_ble_eq_true rfl)⟩ rfl rfl (Nat.le_of_ble_eq_true rfl) dX10_put_44 (fun H locs Y => ?_)
            refine W.eq (g2 := F0 m 47 ls [.int q18.1]) rfl ?_
            replace h := Option.some.inj h
            subst h
            exact q_reti X Y hr hlocks (Nat.le_of_ble_eq_true rfl) (Nat.le_of_ble_eq_true rfl) dX10_put_47
          replace h := Eq.trans (if_neg c17).symm h
          cases h
      replace h := Eq.trans (if_neg c10).symm h
      cases h
  · replace h := Eq.trans (if_pos c3).symm h
    refine lv_iconst (v := -1) hx hb dX10_put_12 (by decide) ?_
    replace h := Option.some.inj h
    subst h
    exact q_reti X Y hr hlocks (Nat.le_of_ble_eq_true rfl) (Nat.le_of_ble_eq_true rfl) dX10_put_13
/-! NeverBelow.lostBy(I)J -/
abbrev rm_X10_lostBy : Room := { frames := 0, cells := 0, slots := 0, locals := 0 }
def F_X10_lostBy (f : xHp) (h0 : Nat) (p1 : Int32) : Option (Int64 × xHp) := Option.bind (hPut f h0 [(9, 9)] (.int p1)) fun f1 => some ((-9223372036854775808 : Int64), f1)
set_option maxRecDepth 100000 in
set_option maxHeartbeats 4000000 in
theorem c_X10_lostBy (l : Launch) (G : xG) (z : Nat) (f : xHp) (h0 : Nat) (p1 : Int32) (rs : Int64 × xHp) (h : F_X10_lostBy f h0 p1 = some rs) : xM G l yX10_lostBy cX10_lostBy 2 (some .long) rm_X10_lostBy [.ref h0, .int p1] z f (some (.long rs.1)) z rs.2 := by
  refine xM_of (by decide) (Nat.le_of_ble_eq_true rfl) ?_
  intro p e s m below meth c ls X hr hlocks hin Y hl
  have hl : lv_has ls 2 [(0, .ref h0), (1, .int p1)] := hl
  have hx := X.1.1
  have hb := X.1.2.1
  unfold F_X10_lostBy at h
  refine lv_aload_n hx hb dX10_lostBy_0 rfl (lv_at hl 0 rfl) ?_
  refine lv_iload_n hx hb dX10_lostBy_1 rfl (lv_at hl 1 rfl) ?_
  replace h := xb h
  obtain ⟨f1, ef1, h⟩ := h
  refine q_put X Y fp_X10_47 rfl rfl ef1 dX10_lostBy_2 (fun H locs Y => ?_)
  refine lv_ldc2 (v := -9223372036854775808) hx hb X.1.2.2.2.1 (X.1.2.2.2.2 _ xw_203) dX10_lostBy_5 ?_
  replace h := Option.some.inj h
  subst h
  exact q_retl X Y hr hlocks (Nat.le_of_ble_eq_true rfl) (Nat.le_of_ble_eq_true rfl) dX10_lostBy_8
/-! NeverBelow.at(III)J -/
abbrev rm_X10_at : Room := { frames := 1, cells := 0, slots := 0, locals := 21 }
def F_X10_at_51  (f : xHp) (a0 : Nat) (a2 : Int32) (a4 : Option Nat) : Option (Int64 × xHp) := xnul a4 (if hKd f a0 = some 9 then (Option.bind (F_X10_lostBy f a0 (1 : Int32)) fun q4 => some (q4.1, q4.2)) else none) (fun q2 => if hKd f q2 = some 5 then (Option.bind (F_X6_has f q2 a2) fun q6 => if q6 = 0 then (if hKd f a0 = some 9 then (Option.bind (F_X10_lostBy f a0 (3 : Int32)) fun q11 => some (q11.1, q11.2)) else none) else (Option.bind (hN f q2 [(5, 1)]) fun v8 => Option.bind (hJld f v8 a2) fun v9 => some (v9, f))) else none)
def F_X10_at_19  (f : xHp)  : Option (Int64 × xHp) := some ((-9223372036854775808 : Int64), f)
def F_X10_at (f : xHp) (h0 : Nat) (p1 : Int32) (p2 : Int32) (p3 : Int32) : Option (Int64 × xHp) := Option.bind (hPut f h0 [(9, 9)] (.int (0 : Int32))) fun f1 => Option.bind (F_X10_isSheet f1 p1) fun q2 => if q2 = 0 then (F_X10_at_19 f1) else (Option.bind (F_X10_isLane f1 p3) fun q4 => if q4 = 0 then (F_X10_at_19 f1) else (Option.bind (hN f1 h0 [(9, 0)]) fun v6 => Option.bind (hRld f1 v6 p1) fun v7 => xnul v7 (F_X10_at_51 f1 h0 p2 none) (fun q9 => Option.bind (hI f1 q9 [(5, 0)]) fun v10 => if v10 = p3 then (F_X10_at_51 f1 h0 p2 (some q9)) else (if hKd f1 h0 = some 9 then (Option.bind (F_X10_lostBy f1 h0 (2 : Int32)) fun q13 => some (q13.1, q13.2)) else none))))
set_option maxRecDepth 100000 in
set_option maxHeartbeats 4000000 in
theorem w_X10_at_51 {p : Program} {l : Launch} {e : Env} {s : State} {m : MethodId} {args : Array Value} {below : List Frame} {meth : Method} {c : Code} {G : xG} {z : Nat} (X : xC G p m c s args RX10 cX10_at 5) (hr : meth.sig.returnType = (some .long)) (hlocks : meth.locks = false) (hin : meth.name = yX10_at.name) (rs : Int64 × xHp)  (f : xHp) (a0 : Nat) (a2 : Int32) (a4 : Option Nat) (H : Heap) (locs : List Loc) (ls : Array Slot) (h : F_X10_at_51  f a0 a2 a4 = some rs) (Y : xY G z f s H locs) (hl : lv_has ls 5 [(0, .ref a0), (2, .int a2), (4, va_rf a4)]) : W p l e rm_X10_at s m args below meth c H locs 0 0 (MQ below (xQ G (some (.long rs.1)) z rs.2) args s rm_X10_at.cells rm_X10_at.slots (xA G)) (F0 m 51 ls []) := by
  have hx := X.1.1
  have hb := X.1.2.1
  unfold F_X10_at_51 at h
  refine q_aload hx hb dX10_at_51 (lv_at hl 2 rfl) ?_
  refine q_ifnonnull (tgt := 62) hx hb dX10_at_53 (by decide) (fun c1 => ?_) (fun q2 eq2 => ?_)
  · replace h := xn0 h c1
    subst c1
    have hl : lv_has ls 5 [(0, .ref a0), (2, .int a2), (4, .null)] := hl
    refine lv_aload_n hx hb dX10_at_56 rfl (lv_at hl 0 rfl) ?_
    refine lv_iconst (v := 1) hx hb dX10_at_57 (by decide) ?_
    by_cases c3 : hKd f a0 = some 9
    · replace h := Eq.trans (if_pos c3).symm h
      replace h := xb h
      obtain ⟨q4, eq4, h⟩ := h
      refine q_callV X Y hl.1 (rest := []) (As := [.int (1 : Int32)]) (c_X10_lostBy l G z f a0 (1 : Int32) _ eq4) cd_X10_lostBy lv_X10_81_9 c3 ⟨(Nat.le_of_ble_eq_true rfl), (Nat.le_of_ble_eq_true rfl)⟩ ⟨(Nat.le_of_ble_eq_true rfl), (Nat.le_of_ble_eq_true rfl)⟩ rfl rfl (Nat.le_of_ble_eq_true rfl) dX10_at_58 (fun H locs Y => ?_)
      refine W.eq (g2 := F0 m 61 ls [.long q4.1]) rfl ?_
      replace h := Option.some.inj h
      subst h
      exact q_retl X Y hr hlocks (Nat.le_of_ble_eq_true rfl) (Nat.le_of_ble_eq_true rfl) dX10_at_61
    replace h := Eq.trans (if_neg c3).symm h
    cases h
  · replace h := xn1 h eq2
    subst eq2
    have hl : lv_has ls 5 [(0, .ref a0), (2, .int a2), (4, .ref q2)] := hl
    refine lv_aload hx hb dX10_at_62 (lv_at hl 2 rfl) ?_
    refine lv_iload_n hx hb dX10_at_64 rfl (lv_at hl 1 rfl) ?_
    by_cases c5 : hKd f q2 = some 5
    · replace h := Eq.trans (if_pos c5).symm h
      replace h := xb h
      obtain ⟨q6, eq6, h⟩ := h
      refine q_callV X Y hl.1 (rest := []) (As := [.int a2]) (c_X6_has l G z f q2 a2 _ eq6) cd_X6_has lv_X10_65_5 c5 ⟨(Nat.le_of_ble_eq_true rfl), (Nat.le_of_ble_eq_true rfl)⟩ ⟨(Nat.le_of_ble_eq_true rfl), (Nat.le_of_ble_eq_true rfl)⟩ rfl rfl (Nat.le_of_ble_eq_true rfl) dX10_at_65 (fun H locs Y => ?_)
      refine W.eq (g2 := F0 m 68 ls [.int q6]) rfl ?_
      refine lv_if_ne (tgt := 77) hx hb dX10_at_68 (by decide) (fun c7 => ?_) (fun c7 => ?_)
      · replace h := Eq.trans (if_neg c7).symm h
        refine lv_aload hx hb dX10_at_77 (lv_at hl 2 rfl) ?_
        replace h := xb h
        obtain ⟨v8, ev8, h⟩ := h
        refine q_getN X Y fl_X10_68 ev8 dX10_at_79 ?_
        refine lv_iload_n hx hb dX10_at_82 rfl (lv_at hl 1 rfl) ?_
        replace h := xb h
        obtain ⟨v9, ev9, h⟩ := h
        refine q_lald X Y ev9 dX10_at_83 ?_
        replace h := Option.some.inj h
        subst h
        exact q_retl X Y hr hlocks (Nat.le_of_ble_eq_true rfl) (Nat.le_of_ble_eq_true rfl) dX10_at_84
      · replace h := Eq.trans (if_pos c7).symm h
        refine lv_aload_n hx hb dX10_at_71 rfl (lv_at hl 0 rfl) ?_
        refine lv_iconst (v := 3) hx hb dX10_at_72 (by decide) ?_
        by_cases c10 : hKd f a0 = some 9
        · replace h := Eq.trans (if_pos c10).symm h
          replace h := xb h
          obtain ⟨q11, eq11, h⟩ := h
          refine q_callV X Y hl.1 (rest := []) (As := [.int (3 : Int32)]) (c_X10_lostBy l G z f a0 (3 : Int32) _ eq11) cd_X10_lostBy lv_X10_81_9 c10 ⟨(Nat.le_of_ble_eq_true rfl), (Nat.le_of_ble_eq_true rfl)⟩ ⟨(Nat.le_of_ble_eq_true rfl), (Nat.le_of_ble_eq_true rfl)⟩ rfl rfl (Nat.le_of_ble_eq_true rfl) dX10_at_73 (fun H locs Y => ?_)
          refine W.eq (g2 := F0 m 76 ls [.long q11.1]) rfl ?_
          replace h := Option.some.inj h
          subst h
          exact q_retl X Y hr hlocks (Nat.le_of_ble_eq_true rfl) (Nat.le_of_ble_eq_true rfl) dX10_at_76
        replace h := Eq.trans (if_neg c10).symm h
        cases h
    replace h := Eq.trans (if_neg c5).symm h
    cases h
set_option maxRecDepth 100000 in
set_option maxHeartbeats 4000000 in
theorem w_X10_at_19 {p : Program} {l : Launch} {e : Env} {s : State} {m : MethodId} {args : Array Value} {below : List Frame} {meth : Method} {c : Code} {G : xG} {z : Nat} (X : xC G p m c s args RX10 cX10_at 5) (hr : meth.sig.returnType = (some .long)) (hlocks : meth.locks = false) (hin : meth.name = yX10_at.name) (rs : Int64 × xHp)  (f : xHp) (H : Heap) (locs : List Loc) (ls : Array Slot) (h : F_X10_at_19  f = some rs) (Y : xY G z f s H locs) (hl : lv_has ls 5 []) : W p l e rm_X10_at s m args below meth c H locs 0 0 (MQ below (xQ G (some (.long rs.1)) z rs.2) args s rm_X10_at.cells rm_X10_at.slots (xA G)) (F0 m 19 ls []) := by
  have hx := X.1.1
  have hb := X.1.2.1
  unfold F_X10_at_19 at h
  refine lv_ldc2 (v := -9223372036854775808) hx hb X.1.2.2.2.1 (X.1.2.2.2.2 _ xw_203) dX10_at_19 ?_
  replace h := Option.some.inj h
  subst h
  exact q_retl X Y hr hlocks (Nat.le_of_ble_eq_true rfl) (Nat.le_of_ble_eq_true rfl) dX10_at_22
set_option maxRecDepth 100000 in
set_option maxHeartbeats 4000000 in
theorem c_X10_at (l : Launch) (G : xG) (z : Nat) (f : xHp) (h0 : Nat) (p1 : Int32) (p2 : Int32) (p3 : Int32) (rs : Int64 × xHp) (h : F_X10_at f h0 p1 p2 p3 = some rs) : xM G l yX10_at cX10_at 5 (some .long) rm_X10_at [.ref h0, .int p1, .int p2, .int p3] z f (some (.long rs.1)) z rs.2 := by
  refine xM_of (by decide) (Nat.le_of_ble_eq_true rfl) ?_
  intro p e s m below meth c ls X hr hlocks hin Y hl
  have hl : lv_has ls 5 [(0, .ref h0), (1, .int p1), (2, .int p2), (3, .int p3)] := hl
  have hx := X.1.1
  have hb := X.1.2.1
  unfold F_X10_at at h
  refine lv_aload_n hx hb dX10_at_0 rfl (lv_at hl 0 rfl) ?_
  refine lv_iconst (v := 0) hx hb dX10_at_1 (by decide) ?_
  replace h := xb h
  obtain ⟨f1, ef1, h⟩ := h
  refine q_put X Y fp_X10_47 rfl rfl ef1 dX10_at_2 (fun H locs Y => ?_)
  refine lv_iload_n hx hb dX10_at_5 rfl (lv_at hl 1 rfl) ?_
  replace h := xb h
  obtain ⟨q2, eq2, h⟩ := h
  refine q_callS X Y hl.1 (rest := []) (As := [.int p1]) (c_X10_isSheet l G z f1 p1 _ eq2) cd_X10_isSheet ls_X10_51 ⟨(Nat.le_of_ble_eq_true rfl), (Nat.le_of_ble_eq_true rfl)⟩ ⟨(Nat.le_of_ble_eq_true rfl), (Nat.le_of_ble_eq_true rfl)⟩ rfl rfl (Nat.le_of_ble_eq_true rfl) dX10_at_6 (fun H locs Y => ?_)
  refine W.eq (g2 := F0 m 9 ls [.int q2]) rfl ?_
  refine lv_if_eq (tgt := 19) hx hb dX10_at_9 (by decide) (fun c3 => ?_) (fun c3 => ?_)
  · replace h := Eq.trans (if_pos c3).symm h
    refine W.widen (k := 0) (n := 0) (Nat.le_of_ble_eq_true rfl) (Nat.le_of_ble_eq_true rfl) ?_
    exact w_X10_at_19 X hr hlocks hin rs   f1 _ _ _ h Y (lv_sub hl [] rfl)
  · replace h := Eq.trans (if_neg c3).symm h
    refine lv_iload_n hx hb dX10_at_12 rfl (lv_at hl 3 rfl) ?_
    replace h := xb h
    obtain ⟨q4, eq4, h⟩ := h
    refine q_callS X Y hl.1 (rest := []) (As := [.int p3]) (c_X10_isLane l G z f1 p3 _ eq4) cd_X10_isLane ls_X10_55 ⟨(Nat.le_of_ble_eq_true rfl), (Nat.le_of_ble_eq_true rfl)⟩ ⟨(Nat.le_of_ble_eq_true rfl), (Nat.le_of_ble_eq_true rfl)⟩ rfl rfl (Nat.le_of_ble_eq_true rfl) dX10_at_13 (fun H locs Y => ?_)
    refine W.eq (g2 := F0 m 16 ls [.int q4]) rfl ?_
    refine lv_if_ne (tgt := 23) hx hb dX10_at_16 (by decide) (fun c5 => ?_) (fun c5 => ?_)
    · replace h := Eq.trans (if_neg c5).symm h
      refine lv_aload_n hx hb dX10_at_23 rfl (lv_at hl 0 rfl) ?_
      replace h := xb h
      obtain ⟨v6, ev6, h⟩ := h
      refine q_getN X Y fl_X10_13 ev6 dX10_at_24 ?_
      refine lv_iload_n hx hb dX10_at_27 rfl (lv_at hl 1 rfl) ?_
      replace h := xb h
      obtain ⟨v7, ev7, h⟩ := h
      refine q_aald X Y ev7 dX10_at_28 ?_
      refine q_astore (lv' := [(4, va_rf v7), (0, .ref h0), (1, .int p1), (2, .int p2), (3, .int p3)]) hx hb dX10_at_29 hl (by decide) rfl (fun ls hl => ?_)
      refine q_aload hx hb dX10_at_31 (lv_at hl 0 rfl) ?_
      refine q_ifnull (tgt := 51) hx hb dX10_at_33 (by decide) (fun c8 => ?_) (fun q9 eq9 => ?_)
      · replace h := xn0 h c8
        subst c8
        have hl : lv_has ls 5 [(4, .null), (0, .ref h0), (1, .int p1), (2, .int p2), (3, .int p3)] := hl
        refine W.widen (k := 0) (n := 0) (Nat.le_of_ble_eq_true rfl) (Nat.le_of_ble_eq_true rfl) ?_
        exact w_X10_at_51 X hr hlocks hin rs   f1 h0 p2 none _ _ _ h Y (lv_sub hl [1, 3, 0] rfl)
      · replace h := xn1 h eq9
        subst eq9
        have hl : lv_has ls 5 [(4, .ref q9), (0, .ref h0), (1, .int p1), (2, .int p2), (3, .int p3)] := hl
        refine lv_aload hx hb dX10_at_36 (lv_at hl 0 rfl) ?_
        replace h := xb h
        obtain ⟨v10, ev10, h⟩ := h
        refine q_getI X Y fl_X10_78 ev10 dX10_at_38 ?_
        refine lv_iload_n hx hb dX10_at_41 rfl (lv_at hl 4 rfl) ?_
        refine lv_icmp_eq (tgt := 51) hx hb dX10_at_42 (by decide) (fun c11 => ?_) (fun c11 => ?_)
        · replace h := Eq.trans (if_pos c11).symm h
          refine W.widen (k := 0) (n := 0) (Nat.le_of_ble_eq_true rfl) (Nat.le_of_ble_eq_true rfl) ?_
          exact w_X10_at_51 X hr hlocks hin rs   f1 h0 p2 (some q9) _ _ _ h Y (lv_sub hl [1, 3, 0] rfl)
        · replace h := Eq.trans (if_neg c11).symm h
          refine lv_aload_n hx hb dX10_at_45 rfl (lv_at hl 1 rfl) ?_
          refine lv_iconst (v := 2) hx hb dX10_at_46 (by decide) ?_
          by_cases c12 : hKd f1 h0 = some 9
          · replace h := Eq.trans (if_pos c12).symm h
            replace h := xb h
            obtain ⟨q13, eq13, h⟩ := h
            refine q_callV X Y hl.1 (rest := []) (As := [.int (2 : Int32)]) (c_X10_lostBy l G z f1 h0 (2 : Int32) _ eq13) cd_X10_lostBy lv_X10_81_9 c12 ⟨(Nat.le_of_ble_eq_true rfl), (Nat.le_of_ble_eq_true rfl)⟩ ⟨(Nat.le_of_ble_eq_true rfl), (Nat.le_of_ble_eq_true rfl)⟩ rfl rfl (Nat.le_of_ble_eq_true rfl) dX10_at_47 (fun H locs Y => ?_)
            refine W.eq (g2 := F0 m 50 ls [.long q13.1]) rfl ?_
            replace h := Option.some.inj h
            subst h
            exact q_retl X Y hr hlocks (Nat.le_of_ble_eq_true rfl) (Nat.le_of_ble_eq_true rfl) dX10_at_50
          replace h := Eq.trans (if_neg c12).symm h
          cases h
    · replace h := Eq.trans (if_pos c5).symm h
      refine W.widen (k := 0) (n := 0) (Nat.le_of_ble_eq_true rfl) (Nat.le_of_ble_eq_true rfl) ?_
      exact w_X10_at_19 X hr hlocks hin rs   f1 _ _ _ h Y (lv_sub hl [] rfl)
/-! NeverBelow.isWithin(JJ)Z -/
abbrev rm_X10_isWithin : Room := { frames := 0, cells := 0, slots := 0, locals := 0 }
def F_X10_isWithin (f : xHp) (p0 : Int64) (p2 : Int64) : Option (Int32) := if p0 < (-p2) then (some (0 : Int32)) else (if p2 < p0 then (some (0 : Int32)) else (some (1 : Int32)))
set_option maxRecDepth 100000 in
set_option maxHeartbeats 4000000 in
theorem c_X10_isWithin (l : Launch) (G : xG) (z : Nat) (f : xHp) (p0 : Int64) (p2 : Int64) (rs : Int32) (h : F_X10_isWithin f p0 p2 = some rs) : xM G l yX10_isWithin cX10_isWithin 4 (some .boolean) rm_X10_isWithin [.long p0, .long p2] z f (some (.int rs)) z f := by
  refine xM_of (by decide) (Nat.le_of_ble_eq_true rfl) ?_
  intro p e s m below meth c ls X hr hlocks hin Y hl
  have hl : lv_has ls 4 [(0, .long p0), (2, .long p2)] := hl
  have hx := X.1.1
  have hb := X.1.2.1
  unfold F_X10_isWithin at h
  refine lv_lload_n hx hb dX10_isWithin_0 rfl (lv_at hl 0 rfl) ?_
  refine lv_lload_n hx hb dX10_isWithin_1 rfl (lv_at hl 1 rfl) ?_
  refine lv_lneg hx hb dX10_isWithin_2 ?_
  refine q_lcmp_lt (tgt := 17) hx hb dX10_isWithin_3 dX10_isWithin_4 (by decide) (fun c1 => ?_) (fun c1 => ?_)
  · replace h := Eq.trans (if_pos c1).symm h
    refine lv_iconst (v := 0) hx hb dX10_isWithin_17 (by decide) ?_
    replace h := Option.some.inj h
    subst h
    exact q_retz (v := (0 : Int32)) X Y hr hlocks rfl (Nat.le_of_ble_eq_true rfl) (Nat.le_of_ble_eq_true rfl) dX10_isWithin_18
  · replace h := Eq.trans (if_neg c1).symm h
    refine lv_lload_n hx hb dX10_isWithin_7 rfl (lv_at hl 0 rfl) ?_
    refine lv_lload_n hx hb dX10_isWithin_8 rfl (lv_at hl 1 rfl) ?_
    refine q_lcmp_gt (tgt := 17) hx hb dX10_isWithin_9 dX10_isWithin_10 (by decide) (fun c2 => ?_) (fun c2 => ?_)
    · replace h := Eq.trans (if_pos c2).symm h
      refine lv_iconst (v := 0) hx hb dX10_isWithin_17 (by decide) ?_
      replace h := Option.some.inj h
      subst h
      exact q_retz (v := (0 : Int32)) X Y hr hlocks rfl (Nat.le_of_ble_eq_true rfl) (Nat.le_of_ble_eq_true rfl) dX10_isWithin_18
    · replace h := Eq.trans (if_neg c2).symm h
      refine lv_iconst (v := 1) hx hb dX10_isWithin_13 (by decide) ?_
      refine lv_goto (tgt := 18) hx hb dX10_isWithin_14 (by decide) ?_
      replace h := Option.some.inj h
      subst h
      exact q_retz (v := (1 : Int32)) X Y hr hlocks rfl (Nat.le_of_ble_eq_true rfl) (Nat.le_of_ble_eq_true rfl) dX10_isWithin_18
/-! NeverBelow.areCoefficients([J)Z -/
abbrev rm_X10_areCoefficients : Room := { frames := 1, cells := 0, slots := 0, locals := 23 }
def F_X10_areCoefficients_2 (f : xHp) (k2 : Nat → Int32 → Option (Int32))  (a0 : Nat) (a1 : Int32) : Option (Int32) := Option.bind (hLen f a0) fun v1 => if v1 ≤ a1 then (some (1 : Int32)) else (Option.bind (hJld f a0 a1) fun v3 => Option.bind (F_X10_isWithin f v3 (1000 : Int64)) fun q4 => if q4 = 0 then (some (0 : Int32)) else (k2 a0 (a1 + 1)))
def L_X10_areCoefficients_2 (f : xHp)  : Nat → Nat → Int32 → Option (Int32)
  | 0, _, _ => none
  | n + 1, a0, a1 => F_X10_areCoefficients_2 f (L_X10_areCoefficients_2 f  n) a0 a1
def F_X10_areCoefficients (f : xHp) (p0 : Nat) : Option (Int32) := L_X10_areCoefficients_2 f xfuel p0 (0 : Int32)
set_option maxRecDepth 100000 in
set_option maxHeartbeats 4000000 in
theorem w_X10_areCoefficients_2 {p : Program} {l : Launch} {e : Env} {s : State} {m : MethodId} {args : Array Value} {below : List Frame} {meth : Method} {c : Code} {G : xG} {z : Nat} {f : xHp} (X : xC G p m c s args RX10 cX10_areCoefficients 2) (hr : meth.sig.returnType = (some .boolean)) (hlocks : meth.locks = false) (hin : meth.name = yX10_areCoefficients.name) (rs : Int32) (k2 : Nat → Int32 → Option (Int32)) (hk2 : ∀ (a0 : Nat) (a1 : Int32) (H : Heap) (locs : List Loc) (ls : Array Slot), k2 a0 a1 = some rs → xY G z f s H locs → lv_has ls 2 [(0, .ref a0), (1, .int a1)] → W p l e rm_X10_areCoefficients s m args below meth c H locs 0 0 (MQ below (xQ G (some (.int rs)) z f) args s rm_X10_areCoefficients.cells rm_X10_areCoefficients.slots (xA G)) (F0 m 2 ls [])) (a0 : Nat) (a1 : Int32) (H : Heap) (locs : List Loc) (ls : Array Slot) (h : F_X10_areCoefficients_2 f k2 a0 a1 = some rs) (Y : xY G z f s H locs) (hl : lv_has ls 2 [(0, .ref a0), (1, .int a1)]) : W p l e rm_X10_areCoefficients s m args below meth c H locs 0 0 (MQ below (xQ G (some (.int rs)) z f) args s rm_X10_areCoefficients.cells rm_X10_areCoefficients.slots (xA G)) (F0 m 2 ls []) := by
  have hx := X.1.1
  have hb := X.1.2.1
  unfold F_X10_areCoefficients_2 at h
  refine lv_iload_n hx hb dX10_areCoefficients_2 rfl (lv_at hl 1 rfl) ?_
  refine lv_aload_n hx hb dX10_areCoefficients_3 rfl (lv_at hl 0 rfl) ?_
  replace h := xb h
  obtain ⟨v1, ev1, h⟩ := h
  refine q_alen X Y ev1 dX10_areCoefficients_4 ?_
  refine lv_icmp_ge (tgt := 28) hx hb dX10_areCoefficients_5 (by decide) (fun c2 => ?_) (fun c2 => ?_)
  · replace h := Eq.trans (if_pos c2).symm h
    refine lv_iconst (v := 1) hx hb dX10_areCoefficients_28 (by decide) ?_
    replace h := Option.some.inj h
    subst h
    exact q_retz (v := (1 : Int32)) X Y hr hlocks rfl (Nat.le_of_ble_eq_true rfl) (Nat.le_of_ble_eq_true rfl) dX10_areCoefficients_29
  · replace h := Eq.trans (if_neg c2).symm h
    refine lv_aload_n hx hb dX10_areCoefficients_8 rfl (lv_at hl 0 rfl) ?_
    refine lv_iload_n hx hb dX10_areCoefficients_9 rfl (lv_at hl 1 rfl) ?_
    replace h := xb h
    obtain ⟨v3, ev3, h⟩ := h
    refine q_lald X Y ev3 dX10_areCoefficients_10 ?_
    refine lv_ldc2 (v := 1000) hx hb X.1.2.2.2.1 (X.1.2.2.2.2 _ xw_222) dX10_areCoefficients_11 ?_
    replace h := xb h
    obtain ⟨q4, eq4, h⟩ := h
    refine q_callS X Y hl.1 (rest := []) (As := [.long v3, .long (1000 : Int64)]) (c_X10_isWithin l G z f v3 (1000 : Int64) _ eq4) cd_X10_isWithin ls_X10_101 ⟨(Nat.le_of_ble_eq_true rfl), (Nat.le_of_ble_eq_true rfl)⟩ ⟨(Nat.le_of_ble_eq_true rfl), (Nat.le_of_ble_eq_true rfl)⟩ rfl rfl (Nat.le_of_ble_eq_true rfl) dX10_areCoefficients_14 (fun H locs Y => ?_)
    refine W.eq (g2 := F0 m 17 ls [.int q4]) rfl ?_
    refine lv_if_ne (tgt := 22) hx hb dX10_areCoefficients_17 (by decide) (fun c5 => ?_) (fun c5 => ?_)
    · replace h := Eq.trans (if_neg c5).symm h
      refine lv_iinc (v := (a1 + 1)) (lv' := [(1, .int (a1 + 1)), (0, .ref a0)]) hx hb dX10_areCoefficients_22 hl (k := 1) rfl rfl (by decide) rfl (fun ls hl => ?_)
      refine lv_goto (tgt := 2) hx hb dX10_areCoefficients_25 (by decide) ?_
      refine W.widen (k := 0) (n := 0) (Nat.le_of_ble_eq_true rfl) (Nat.le_of_ble_eq_true rfl) ?_
      exact hk2 a0 (a1 + 1) _ _ _ h Y (lv_sub hl [1, 0] rfl)
    · replace h := Eq.trans (if_pos c5).symm h
      refine lv_iconst (v := 0) hx hb dX10_areCoefficients_20 (by decide) ?_
      replace h := Option.some.inj h
      subst h
      exact q_retz (v := (0 : Int32)) X Y hr hlocks rfl (Nat.le_of_ble_eq_true rfl) (Nat.le_of_ble_eq_true rfl) dX10_areCoefficients_21
set_option maxRecDepth 100000 in
set_option maxHeartbeats 4000000 in
theorem lw_X10_areCoefficients_2 {p : Program} {l : Launch} {e : Env} {s : State} {m : MethodId} {args : Array Value} {below : List Frame} {meth : Method} {c : Code} {G : xG} {z : Nat} {f : xHp} (X : xC G p m c s args RX10 cX10_areCoefficients 2) (hr : meth.sig.returnType = (some .boolean)) (hlocks : meth.locks = false) (hin : meth.name = yX10_areCoefficients.name) (rs : Int32)  : ∀ (n : Nat) (a0 : Nat) (a1 : Int32) (H : Heap) (locs : List Loc) (ls : Array Slot), L_X10_areCoefficients_2 f  n a0 a1 = some rs → xY G z f s H locs → lv_has ls 2 [(0, .ref a0), (1, .int a1)] → W p l e rm_X10_areCoefficients s m args below meth c H locs 0 0 (MQ below (xQ G (some (.int rs)) z f) args s rm_X10_areCoefficients.cells rm_X10_areCoefficients.slots (xA G)) (F0 m 2 ls []) := by
  intro n
  induction n with
  | zero => intro a0 a1 H locs ls h Y hl; cases h
  | succ n ih => intro a0 a1 H locs ls h Y hl; exact w_X10_areCoefficients_2 X hr hlocks hin rs _ ih a0 a1 _ _ _ h Y hl
set_option maxRecDepth 100000 in
set_option maxHeartbeats 4000000 in
theorem c_X10_areCoefficients (l : Launch) (G : xG) (z : Nat) (f : xHp) (p0 : Nat) (rs : Int32) (h : F_X10_areCoefficients f p0 = some rs) : xM G l yX10_areCoefficients cX10_areCoefficients 2 (some .boolean) rm_X10_areCoefficients [.ref p0] z f (some (.int rs)) z f := by
  refine xM_of (by decide) (Nat.le_of_ble_eq_true rfl) ?_
  intro p e s m below meth c ls X hr hlocks hin Y hl
  have hl : lv_has ls 2 [(0, .ref p0)] := hl
  have hx := X.1.1
  have hb := X.1.2.1
  unfold F_X10_areCoefficients at h
  refine lv_iconst (v := 0) hx hb dX10_areCoefficients_0 (by decide) ?_
  refine lv_istore_n (lv' := [(1, .int (0 : Int32)), (0, .ref p0)]) hx hb dX10_areCoefficients_1 rfl hl (by decide) rfl (fun ls hl => ?_)
  refine W.widen (k := 0) (n := 0) (Nat.le_of_ble_eq_true rfl) (Nat.le_of_ble_eq_true rfl) ?_
  exact lw_X10_areCoefficients_2 X hr hlocks hin rs  xfuel p0 (0 : Int32) _ _ _ h Y (lv_sub hl [1, 0] rfl)
/-! NeverBelow$Polynomial.<init>([J)V -/
abbrev rm_X4_init : Room := { frames := 1, cells := 0, slots := 0, locals := 24 }
def F_X4_init (f : xHp) (h0 : Nat) (p1 : Nat) : Option (xHp) := Option.bind (hPut f h0 [(4, 0)] (.ref p1)) fun f1 => some f1
set_option maxRecDepth 100000 in
set_option maxHeartbeats 4000000 in
theorem c_X4_init (l : Launch) (G : xG) (z : Nat) (f : xHp) (h0 : Nat) (p1 : Nat) (rs : xHp) (h : F_X4_init f h0 p1 = some rs) : xM G l yX4_init cX4_init 2 none rm_X4_init [.ref h0, .ref p1] z f none z rs := by
  refine xM_of (by decide) (Nat.le_of_ble_eq_true rfl) ?_
  intro p e s m below meth c ls X hr hlocks hin Y hl
  have hl : lv_has ls 2 [(0, .ref h0), (1, .ref p1)] := hl
  have hx := X.1.1
  have hb := X.1.2.1
  unfold F_X4_init at h
  refine lv_aload_n hx hb dX4_init_0 rfl (lv_at hl 0 rfl) ?_
  refine q_obj X hl.1 lo_X4_3 (Nat.le_of_ble_eq_true rfl) (Nat.le_of_ble_eq_true rfl) dX4_init_1 ?_
  refine lv_aload_n hx hb dX4_init_4 rfl (lv_at hl 0 rfl) ?_
  refine lv_aload_n hx hb dX4_init_5 rfl (lv_at hl 1 rfl) ?_
  replace h := xb h
  obtain ⟨f1, ef1, h⟩ := h
  refine q_putF X Y hin fp_X4_9 rfl rfl ef1 dX4_init_6 (fun H locs Y => ?_)
  replace h := Option.some.inj h
  subst h
  exact q_retv X Y hr hlocks (Nat.le_of_ble_eq_true rfl) (Nat.le_of_ble_eq_true rfl) dX4_init_9
/-! NeverBelow.keepPolynomial([J)I -/
abbrev rm_X10_keepPolynomial : Room := { frames := 2, cells := 1, slots := 1, locals := 45 }
def F_X10_keepPolynomial (z : Nat) (f : xHp) (h0 : Nat) (p1 : Nat) : Option (Int32 × Nat × xHp) := Option.bind (F_X10_areCoefficients f p1) fun q1 => if q1 = 0 then (some ((-2 : Int32), z, f)) else (Option.bind (hI f h0 [(9, 6)]) fun v3 => if v3 < (30 : Int32) then (Option.bind (hN f h0 [(9, 1)]) fun v5 => Option.bind (hI f h0 [(9, 6)]) fun v6 => Option.bind (some (va_up f z (some (.inr (.inr (.inr (4, [.null]))))))) fun f7 => Option.bind (F_X4_init f7 z p1) fun q8 => Option.bind (hRst q8 v5 v6 z) fun f9 => Option.bind (hI f9 h0 [(9, 6)]) fun v10 => Option.bind (hPut f9 h0 [(9, 6)] (.int (v10 + (1 : Int32)))) fun f11 => some (v10, (z + 1), f11)) else (some ((-4 : Int32), z, f)))
set_option maxRecDepth 100000 in
set_option maxHeartbeats 4000000 in
theorem c_X10_keepPolynomial (l : Launch) (G : xG) (z : Nat) (f : xHp) (h0 : Nat) (p1 : Nat) (rs : Int32 × Nat × xHp) (h : F_X10_keepPolynomial z f h0 p1 = some rs) : xM G l yX10_keepPolynomial cX10_keepPolynomial 2 (some .int) rm_X10_keepPolynomial [.ref h0, .ref p1] z f (some (.int rs.1)) rs.2.1 rs.2.2 := by
  refine xM_of (by decide) (Nat.le_of_ble_eq_true rfl) ?_
  intro p e s m below meth c ls X hr hlocks hin Y hl
  have hl : lv_has ls 2 [(0, .ref h0), (1, .ref p1)] := hl
  have hx := X.1.1
  have hb := X.1.2.1
  unfold F_X10_keepPolynomial at h
  refine lv_aload_n hx hb dX10_keepPolynomial_0 rfl (lv_at hl 1 rfl) ?_
  replace h := xb h
  obtain ⟨q1, eq1, h⟩ := h
  refine q_callS X Y hl.1 (rest := []) (As := [.ref p1]) (c_X10_areCoefficients l G z f p1 _ eq1) cd_X10_areCoefficients ls_X10_112 ⟨(Nat.le_of_ble_eq_true rfl), (Nat.le_of_ble_eq_true rfl)⟩ ⟨(Nat.le_of_ble_eq_true rfl), (Nat.le_of_ble_eq_true rfl)⟩ rfl rfl (Nat.le_of_ble_eq_true rfl) dX10_keepPolynomial_1 (fun H locs Y => ?_)
  refine W.eq (g2 := F0 m 4 ls [.int q1]) rfl ?_
  refine lv_if_ne (tgt := 10) hx hb dX10_keepPolynomial_4 (by decide) (fun c2 => ?_) (fun c2 => ?_)
  · replace h := Eq.trans (if_neg c2).symm h
    refine lv_aload_n hx hb dX10_keepPolynomial_10 rfl (lv_at hl 0 rfl) ?_
    replace h := xb h
    obtain ⟨v3, ev3, h⟩ := h
    refine q_getI X Y fl_X10_305 ev3 dX10_keepPolynomial_11 ?_
    refine lv_bipush (v := 30) hx hb dX10_keepPolynomial_14 (by decide) ?_
    refine lv_icmp_lt (tgt := 22) hx hb dX10_keepPolynomial_16 (by decide) (fun c4 => ?_) (fun c4 => ?_)
    · replace h := Eq.trans (if_pos c4).symm h
      refine lv_aload_n hx hb dX10_keepPolynomial_22 rfl (lv_at hl 0 rfl) ?_
      replace h := xb h
      obtain ⟨v5, ev5, h⟩ := h
      refine q_getN X Y fl_X10_19 ev5 dX10_keepPolynomial_23 ?_
      refine lv_aload_n hx hb dX10_keepPolynomial_26 rfl (lv_at hl 0 rfl) ?_
      replace h := xb h
      obtain ⟨v6, ev6, h⟩ := h
      refine q_getI X Y fl_X10_305 ev6 dX10_keepPolynomial_27 ?_
      replace h := xb h
      obtain ⟨f7, ef7, h⟩ := h
      have ef7 := Option.some.inj ef7
      refine q_new X Y no_X10_17 (Nat.le_of_ble_eq_true rfl) (Nat.le_of_ble_eq_true rfl) dX10_keepPolynomial_30 (fun H Y => ?_)
      rw [ef7] at Y
      refine lv_dup hx hb dX10_keepPolynomial_33 rfl ?_
      refine lv_aload_n hx hb dX10_keepPolynomial_34 rfl (lv_at hl 1 rfl) ?_
      replace h := xb h
      obtain ⟨q8, eq8, h⟩ := h
      refine q_callI X Y hl.1 (rest := [.ref z, .int v6, .ref v5]) (As := [.ref p1]) (c_X4_init l G (z + 1) f7 z p1 _ eq8) cd_X4_init li_X10_315 ⟨(Nat.le_of_ble_eq_true rfl), (Nat.le_of_ble_eq_true rfl)⟩ ⟨(Nat.le_of_ble_eq_true rfl), (Nat.le_of_ble_eq_true rfl)⟩ rfl rfl (Nat.le_of_ble_eq_true rfl) dX10_keepPolynomial_35 (fun H locs Y => ?_)
      refine W.eq (g2 := F0 m 38 ls [.ref z, .int v6, .ref v5]) rfl ?_
      replace h := xb h
      obtain ⟨f9, ef9, h⟩ := h
      refine q_aast X Y xw_1254 xw_1255 xw_1256 xw_1253 ef9 dX10_keepPolynomial_38 (fun H locs Y => ?_)
      refine lv_aload_n hx hb dX10_keepPolynomial_39 rfl (lv_at hl 0 rfl) ?_
      refine lv_dup hx hb dX10_keepPolynomial_40 rfl ?_
      replace h := xb h
      obtain ⟨v10, ev10, h⟩ := h
      refine q_getI X Y fl_X10_305 ev10 dX10_keepPolynomial_41 ?_
      refine lv_dup_x1 hx hb dX10_keepPolynomial_44 rfl rfl ?_
      refine lv_iconst (v := 1) hx hb dX10_keepPolynomial_45 (by decide) ?_
      refine lv_iadd hx hb dX10_keepPolynomial_46 ?_
      replace h := xb h
      obtain ⟨f11, ef11, h⟩ := h
      refine q_put X Y fp_X10_305 rfl rfl ef11 dX10_keepPolynomial_47 (fun H locs Y => ?_)
      replace h := Option.some.inj h
      subst h
      exact q_reti X Y hr hlocks (Nat.le_of_ble_eq_true rfl) (Nat.le_of_ble_eq_true rfl) dX10_keepPolynomial_50
    · replace h := Eq.trans (if_neg c4).symm h
      refine lv_bipush (v := -4) hx hb dX10_keepPolynomial_19 (by decide) ?_
      replace h := Option.some.inj h
      subst h
      exact q_reti X Y hr hlocks (Nat.le_of_ble_eq_true rfl) (Nat.le_of_ble_eq_true rfl) dX10_keepPolynomial_21
  · replace h := Eq.trans (if_pos c2).symm h
    refine lv_bipush (v := -2) hx hb dX10_keepPolynomial_7 (by decide) ?_
    replace h := Option.some.inj h
    subst h
    exact q_reti X Y hr hlocks (Nat.le_of_ble_eq_true rfl) (Nat.le_of_ble_eq_true rfl) dX10_keepPolynomial_9
/-! NeverBelow.poly(IIII)I -/
abbrev rm_X10_poly : Room := { frames := 3, cells := 2, slots := 10, locals := 66 }
def F_X10_poly_98  (z : Nat) (f : xHp) (a0 : Nat) : Option (Int32 × Nat × xHp) := if hKd f a0 = some 9 then (Option.bind (F_X10_faulted f a0 (3 : Int32)) fun q2 => some (q2.1, z, q2.2)) else none
def F_X10_poly_59  (z : Nat) (f : xHp) (a0 : Nat) (a3 : Int32) (a4 : Int32) (a5 : Option Nat) : Option (Int32 × Nat × xHp) := xnul a5 (if hKd f a0 = some 9 then (Option.bind (F_X10_faulted f a0 (1 : Int32)) fun q4 => some (q4.1, z, q4.2)) else none) (fun q2 => if 0 ≤ a4 then (if a3 < 0 then (F_X10_poly_98 z f a0) else (Option.bind (hN f q2 [(5, 1)]) fun v7 => Option.bind (hLen f v7) fun v8 => if a3 ≤ (v8 - a4) then (Option.bind (hNw (9 : Int32) 9) fun n10 => Option.bind (some (va_up f z (some (.inr (.inl (n10, fun _ => 0)))))) fun f11 => Option.bind (hN f11 q2 [(5, 1)]) fun v12 => Option.bind (hJcp f11 v12 a3 z (0 : Int32) a4) fun f13 => if hKd f13 a0 = some 9 then (Option.bind (F_X10_keepPolynomial (z + 1) f13 a0 z) fun q15 => some (q15.1, q15.2.1, q15.2.2)) else none) else (F_X10_poly_98 z f a0))) else (if hKd f a0 = some 9 then (Option.bind (F_X10_faulted f a0 (4 : Int32)) fun q17 => some (q17.1, z, q17.2)) else none))
def F_X10_poly (z : Nat) (f : xHp) (h0 : Nat) (p1 : Int32) (p2 : Int32) (p3 : Int32) (p4 : Int32) : Option (Int32 × Nat × xHp) := Option.bind (hPut f h0 [(9, 9)] (.int (0 : Int32))) fun f1 => Option.bind (F_X10_isSheet f1 p1) fun q2 => if q2 = 0 then (some ((-1 : Int32), z, f1)) else (Option.bind (F_X10_isLane f1 p2) fun q4 => if q4 = 0 then (some ((-2 : Int32), z, f1)) else (if p4 ≤ (9 : Int32) then (Option.bind (hN f1 h0 [(9, 0)]) fun v7 => Option.bind (hRld f1 v7 p1) fun v8 => xnul v8 (F_X10_poly_59 z f1 h0 p3 p4 none) (fun q10 => Option.bind (hI f1 q10 [(5, 0)]) fun v11 => if v11 = p2 then (F_X10_poly_59 z f1 h0 p3 p4 (some q10)) else (if hKd f1 h0 = some 9 then (Option.bind (F_X10_faulted f1 h0 (2 : Int32)) fun q14 => some (q14.1, z, q14.2)) else none))) else (some ((-2 : Int32), z, f1))))
set_option maxRecDepth 100000 in
set_option maxHeartbeats 4000000 in
theorem w_X10_poly_98 {p : Program} {l : Launch} {e : Env} {s : State} {m : MethodId} {args : Array Value} {below : List Frame} {meth : Method} {c : Code} {G : xG} (X : xC G p m c s args RX10 cX10_poly 7) (hr : meth.sig.returnType = (some .int)) (hlocks : meth.locks = false) (hin : meth.name = yX10_poly.name) (rs : Int32 × Nat × xHp)  (z : Nat) (f : xHp) (a0 : Nat) (H : Heap) (locs : List Loc) (ls : Array Slot) (h : F_X10_poly_98  z f a0 = some rs) (Y : xY G z f s H locs) (hl : lv_has ls 7 [(0, .ref a0)]) : W p l e rm_X10_poly s m args below meth c H locs 0 0 (MQ below (xQ G (some (.int rs.1)) rs.2.1 rs.2.2) args s rm_X10_poly.cells rm_X10_poly.slots (xA G)) (F0 m 98 ls []) := by
  have hx := X.1.1
  have hb := X.1.2.1
  unfold F_X10_poly_98 at h
  refine lv_aload_n hx hb dX10_poly_98 rfl (lv_at hl 0 rfl) ?_
  refine lv_iconst (v := 3) hx hb dX10_poly_99 (by decide) ?_
  by_cases c1 : hKd f a0 = some 9
  · replace h := Eq.trans (if_pos c1).symm h
    replace h := xb h
    obtain ⟨q2, eq2, h⟩ := h
    refine q_callV X Y hl.1 (rest := []) (As := [.int (3 : Int32)]) (c_X10_faulted l G z f a0 (3 : Int32) _ eq2) cd_X10_faulted lv_X10_58_9 c1 ⟨(Nat.le_of_ble_eq_true rfl), (Nat.le_of_ble_eq_true rfl)⟩ ⟨(Nat.le_of_ble_eq_true rfl), (Nat.le_of_ble_eq_true rfl)⟩ rfl rfl (Nat.le_of_ble_eq_true rfl) dX10_poly_100 (fun H locs Y => ?_)
    refine W.eq (g2 := F0 m 103 ls [.int q2.1]) rfl ?_
    replace h := Option.some.inj h
    subst h
    exact q_reti X Y hr hlocks (Nat.le_of_ble_eq_true rfl) (Nat.le_of_ble_eq_true rfl) dX10_poly_103
  replace h := Eq.trans (if_neg c1).symm h
  cases h
set_option maxRecDepth 100000 in
set_option maxHeartbeats 4000000 in
theorem w_X10_poly_59 {p : Program} {l : Launch} {e : Env} {s : State} {m : MethodId} {args : Array Value} {below : List Frame} {meth : Method} {c : Code} {G : xG} (X : xC G p m c s args RX10 cX10_poly 7) (hr : meth.sig.returnType = (some .int)) (hlocks : meth.locks = false) (hin : meth.name = yX10_poly.name) (rs : Int32 × Nat × xHp)  (z : Nat) (f : xHp) (a0 : Nat) (a3 : Int32) (a4 : Int32) (a5 : Option Nat) (H : Heap) (locs : List Loc) (ls : Array Slot) (h : F_X10_poly_59  z f a0 a3 a4 a5 = some rs) (Y : xY G z f s H locs) (hl : lv_has ls 7 [(0, .ref a0), (3, .int a3), (4, .int a4), (5, va_rf a5)]) : W p l e rm_X10_poly s m args below meth c H locs 0 0 (MQ below (xQ G (some (.int rs.1)) rs.2.1 rs.2.2) args s rm_X10_poly.cells rm_X10_poly.slots (xA G)) (F0 m 59 ls []) := by
  have hx := X.1.1
  have hb := X.1.2.1
  unfold F_X10_poly_59 at h
  refine q_aload hx hb dX10_poly_59 (lv_at hl 3 rfl) ?_
  refine q_ifnonnull (tgt := 70) hx hb dX10_poly_61 (by decide) (fun c1 => ?_) (fun q2 eq2 => ?_)
  · replace h := xn0 h c1
    subst c1
    have hl : lv_has ls 7 [(0, .ref a0), (3, .int a3), (4, .int a4), (5, .null)] := hl
    refine lv_aload_n hx hb dX10_poly_64 rfl (lv_at hl 0 rfl) ?_
    refine lv_iconst (v := 1) hx hb dX10_poly_65 (by decide) ?_
    by_cases c3 : hKd f a0 = some 9
    · replace h := Eq.trans (if_pos c3).symm h
      replace h := xb h
      obtain ⟨q4, eq4, h⟩ := h
      refine q_callV X Y hl.1 (rest := []) (As := [.int (1 : Int32)]) (c_X10_faulted l G z f a0 (1 : Int32) _ eq4) cd_X10_faulted lv_X10_58_9 c3 ⟨(Nat.le_of_ble_eq_true rfl), (Nat.le_of_ble_eq_true rfl)⟩ ⟨(Nat.le_of_ble_eq_true rfl), (Nat.le_of_ble_eq_true rfl)⟩ rfl rfl (Nat.le_of_ble_eq_true rfl) dX10_poly_66 (fun H locs Y => ?_)
      refine W.eq (g2 := F0 m 69 ls [.int q4.1]) rfl ?_
      replace h := Option.some.inj h
      subst h
      exact q_reti X Y hr hlocks (Nat.le_of_ble_eq_true rfl) (Nat.le_of_ble_eq_true rfl) dX10_poly_69
    replace h := Eq.trans (if_neg c3).symm h
    cases h
  · replace h := xn1 h eq2
    subst eq2
    have hl : lv_has ls 7 [(0, .ref a0), (3, .int a3), (4, .int a4), (5, .ref q2)] := hl
    refine lv_iload hx hb dX10_poly_70 (lv_at hl 2 rfl) ?_
    refine lv_if_ge (tgt := 81) hx hb dX10_poly_72 (by decide) (fun c5 => ?_) (fun c5 => ?_)
    · replace h := Eq.trans (if_pos c5).symm h
      refine lv_iload_n hx hb dX10_poly_81 rfl (lv_at hl 1 rfl) ?_
      refine lv_if_lt (tgt := 98) hx hb dX10_poly_82 (by decide) (fun c6 => ?_) (fun c6 => ?_)
      · replace h := Eq.trans (if_pos c6).symm h
        refine W.widen (k := 0) (n := 0) (Nat.le_of_ble_eq_true rfl) (Nat.le_of_ble_eq_true rfl) ?_
        exact w_X10_poly_98 X hr hlocks hin rs   z f a0 _ _ _ h Y (lv_sub hl [0] rfl)
      · replace h := Eq.trans (if_neg c6).symm h
        refine lv_iload_n hx hb dX10_poly_85 rfl (lv_at hl 1 rfl) ?_
        refine lv_aload hx hb dX10_poly_86 (lv_at hl 3 rfl) ?_
        replace h := xb h
        obtain ⟨v7, ev7, h⟩ := h
        refine q_getN X Y fl_X10_68 ev7 dX10_poly_88 ?_
        replace h := xb h
        obtain ⟨v8, ev8, h⟩ := h
        refine q_alen X Y ev8 dX10_poly_91 ?_
        refine lv_iload hx hb dX10_poly_92 (lv_at hl 2 rfl) ?_
        refine lv_isub hx hb dX10_poly_94 ?_
        refine lv_icmp_le (tgt := 104) hx hb dX10_poly_95 (by decide) (fun c9 => ?_) (fun c9 => ?_)
        · replace h := Eq.trans (if_pos c9).symm h
          refine lv_bipush (v := 9) hx hb dX10_poly_104 (by decide) ?_
          replace h := xb h
          obtain ⟨n10, en10, h⟩ := h
          replace h := xb h
          obtain ⟨f11, ef11, h⟩ := h
          have ef11 := Option.some.inj ef11
          refine q_newJ X Y en10 (by decide) xw_80 (Nat.le_of_ble_eq_true rfl) (Nat.le_of_ble_eq_true rfl) dX10_poly_106 (fun H Y => ?_)
          rw [ef11] at Y
          refine lv_astore (lv' := [(6, .ref z), (0, .ref a0), (3, .int a3), (4, .int a4), (5, .ref q2)]) hx hb dX10_poly_108 hl (by decide) rfl (fun ls hl => ?_)
          refine lv_aload hx hb dX10_poly_110 (lv_at hl 4 rfl) ?_
          replace h := xb h
          obtain ⟨v12, ev12, h⟩ := h
          refine q_getN X Y fl_X10_68 ev12 dX10_poly_112 ?_
          refine lv_iload_n hx hb dX10_poly_115 rfl (lv_at hl 2 rfl) ?_
          refine lv_aload hx hb dX10_poly_116 (lv_at hl 0 rfl) ?_
          refine lv_iconst (v := 0) hx hb dX10_poly_118 (by decide) ?_
          refine lv_iload hx hb dX10_poly_119 (lv_at hl 3 rfl) ?_
          replace h := xb h
          obtain ⟨f13, ef13, h⟩ := h
          refine q_jcp X Y hl.1 cp_X10_85 ef13 (Nat.le_of_ble_eq_true rfl) (Nat.le_of_ble_eq_true rfl) dX10_poly_121 (fun H locs Y => ?_)
          refine lv_aload_n hx hb dX10_poly_124 rfl (lv_at hl 1 rfl) ?_
          refine lv_aload hx hb dX10_poly_125 (lv_at hl 0 rfl) ?_
          by_cases c14 : hKd f13 a0 = some 9
          · replace h := Eq.trans (if_pos c14).symm h
            replace h := xb h
            obtain ⟨q15, eq15, h⟩ := h
            refine q_callV X Y hl.1 (rest := []) (As := [.ref z]) (c_X10_keepPolynomial l G (z + 1) f13 a0 z _ eq15) cd_X10_keepPolynomial lv_X10_91_9 c14 ⟨(Nat.le_of_ble_eq_true rfl), (Nat.le_of_ble_eq_true rfl)⟩ ⟨(Nat.le_of_ble_eq_true rfl), (Nat.le_of_ble_eq_true rfl)⟩ rfl rfl (Nat.le_of_ble_eq_true rfl) dX10_poly_127 (fun H locs Y => ?_)
            refine W.eq (g2 := F0 m 130 ls [.int q15.1]) rfl ?_
            refine W.widen (k := 2) (n := 10) (Nat.le_of_ble_eq_true rfl) (Nat.le_of_ble_eq_true rfl) ?_
            replace h := Option.some.inj h
            subst h
            exact q_reti X Y hr hlocks (Nat.le_of_ble_eq_true rfl) (Nat.le_of_ble_eq_true rfl) dX10_poly_130
          replace h := Eq.trans (if_neg c14).symm h
          cases h
        · replace h := Eq.trans (if_neg c9).symm h
          refine W.widen (k := 0) (n := 0) (Nat.le_of_ble_eq_true rfl) (Nat.le_of_ble_eq_true rfl) ?_
          exact w_X10_poly_98 X hr hlocks hin rs   z f a0 _ _ _ h Y (lv_sub hl [0] rfl)
    · replace h := Eq.trans (if_neg c5).symm h
      refine lv_aload_n hx hb dX10_poly_75 rfl (lv_at hl 0 rfl) ?_
      refine lv_iconst (v := 4) hx hb dX10_poly_76 (by decide) ?_
      by_cases c16 : hKd f a0 = some 9
      · replace h := Eq.trans (if_pos c16).symm h
        replace h := xb h
        obtain ⟨q17, eq17, h⟩ := h
        refine q_callV X Y hl.1 (rest := []) (As := [.int (4 : Int32)]) (c_X10_faulted l G z f a0 (4 : Int32) _ eq17) cd_X10_faulted lv_X10_58_9 c16 ⟨(Nat.le_of_ble_eq_true rfl), (Nat.le_of_ble_eq_true rfl)⟩ ⟨(Nat.le_of_ble_eq_true rfl), (Nat.le_of_ble_eq_true rfl)⟩ rfl rfl (Nat.le_of_ble_eq_true rfl) dX10_poly_77 (fun H locs Y => ?_)
        refine W.eq (g2 := F0 m 80 ls [.int q17.1]) rfl ?_
        replace h := Option.some.inj h
        subst h
        exact q_reti X Y hr hlocks (Nat.le_of_ble_eq_true rfl) (Nat.le_of_ble_eq_true rfl) dX10_poly_80
      replace h := Eq.trans (if_neg c16).symm h
      cases h
set_option maxRecDepth 100000 in
set_option maxHeartbeats 4000000 in
theorem c_X10_poly (l : Launch) (G : xG) (z : Nat) (f : xHp) (h0 : Nat) (p1 : Int32) (p2 : Int32) (p3 : Int32) (p4 : Int32) (rs : Int32 × Nat × xHp) (h : F_X10_poly z f h0 p1 p2 p3 p4 = some rs) : xM G l yX10_poly cX10_poly 7 (some .int) rm_X10_poly [.ref h0, .int p1, .int p2, .int p3, .int p4] z f (some (.int rs.1)) rs.2.1 rs.2.2 := by
  refine xM_of (by decide) (Nat.le_of_ble_eq_true rfl) ?_
  intro p e s m below meth c ls X hr hlocks hin Y hl
  have hl : lv_has ls 7 [(0, .ref h0), (1, .int p1), (2, .int p2), (3, .int p3), (4, .int p4)] := hl
  have hx := X.1.1
  have hb := X.1.2.1
  unfold F_X10_poly at h
  refine lv_aload_n hx hb dX10_poly_0 rfl (lv_at hl 0 rfl) ?_
  refine lv_iconst (v := 0) hx hb dX10_poly_1 (by decide) ?_
  replace h := xb h
  obtain ⟨f1, ef1, h⟩ := h
  refine q_put X Y fp_X10_47 rfl rfl ef1 dX10_poly_2 (fun H locs Y => ?_)
  refine lv_iload_n hx hb dX10_poly_5 rfl (lv_at hl 1 rfl) ?_
  replace h := xb h
  obtain ⟨q2, eq2, h⟩ := h
  refine q_callS X Y hl.1 (rest := []) (As := [.int p1]) (c_X10_isSheet l G z f1 p1 _ eq2) cd_X10_isSheet ls_X10_51 ⟨(Nat.le_of_ble_eq_true rfl), (Nat.le_of_ble_eq_true rfl)⟩ ⟨(Nat.le_of_ble_eq_true rfl), (Nat.le_of_ble_eq_true rfl)⟩ rfl rfl (Nat.le_of_ble_eq_true rfl) dX10_poly_6 (fun H locs Y => ?_)
  refine W.eq (g2 := F0 m 9 ls [.int q2]) rfl ?_
  refine lv_if_ne (tgt := 14) hx hb dX10_poly_9 (by decide) (fun c3 => ?_) (fun c3 => ?_)
  · replace h := Eq.trans (if_neg c3).symm h
    refine lv_iload_n hx hb dX10_poly_14 rfl (lv_at hl 2 rfl) ?_
    replace h := xb h
    obtain ⟨q4, eq4, h⟩ := h
    refine q_callS X Y hl.1 (rest := []) (As := [.int p2]) (c_X10_isLane l G z f1 p2 _ eq4) cd_X10_isLane ls_X10_55 ⟨(Nat.le_of_ble_eq_true rfl), (Nat.le_of_ble_eq_true rfl)⟩ ⟨(Nat.le_of_ble_eq_true rfl), (Nat.le_of_ble_eq_true rfl)⟩ rfl rfl (Nat.le_of_ble_eq_true rfl) dX10_poly_15 (fun H locs Y => ?_)
    refine W.eq (g2 := F0 m 18 ls [.int q4]) rfl ?_
    refine lv_if_eq (tgt := 28) hx hb dX10_poly_18 (by decide) (fun c5 => ?_) (fun c5 => ?_)
    · replace h := Eq.trans (if_pos c5).symm h
      refine lv_bipush (v := -2) hx hb dX10_poly_28 (by decide) ?_
      replace h := Option.some.inj h
      subst h
      exact q_reti X Y hr hlocks (Nat.le_of_ble_eq_true rfl) (Nat.le_of_ble_eq_true rfl) dX10_poly_30
    · replace h := Eq.trans (if_neg c5).symm h
      refine lv_iload hx hb dX10_poly_21 (lv_at hl 4 rfl) ?_
      refine lv_bipush (v := 9) hx hb dX10_poly_23 (by decide) ?_
      refine lv_icmp_le (tgt := 31) hx hb dX10_poly_25 (by decide) (fun c6 => ?_) (fun c6 => ?_)
      · replace h := Eq.trans (if_pos c6).symm h
        refine lv_aload_n hx hb dX10_poly_31 rfl (lv_at hl 0 rfl) ?_
        replace h := xb h
        obtain ⟨v7, ev7, h⟩ := h
        refine q_getN X Y fl_X10_13 ev7 dX10_poly_32 ?_
        refine lv_iload_n hx hb dX10_poly_35 rfl (lv_at hl 1 rfl) ?_
        replace h := xb h
        obtain ⟨v8, ev8, h⟩ := h
        refine q_aald X Y ev8 dX10_poly_36 ?_
        refine q_astore (lv' := [(5, va_rf v8), (0, .ref h0), (1, .int p1), (2, .int p2), (3, .int p3), (4, .int p4)]) hx hb dX10_poly_37 hl (by decide) rfl (fun ls hl => ?_)
        refine q_aload hx hb dX10_poly_39 (lv_at hl 0 rfl) ?_
        refine q_ifnull (tgt := 59) hx hb dX10_poly_41 (by decide) (fun c9 => ?_) (fun q10 eq10 => ?_)
        · replace h := xn0 h c9
          subst c9
          have hl : lv_has ls 7 [(5, .null), (0, .ref h0), (1, .int p1), (2, .int p2), (3, .int p3), (4, .int p4)] := hl
          refine W.widen (k := 0) (n := 0) (Nat.le_of_ble_eq_true rfl) (Nat.le_of_ble_eq_true rfl) ?_
          exact w_X10_poly_59 X hr hlocks hin rs   z f1 h0 p3 p4 none _ _ _ h Y (lv_sub hl [1, 4, 5, 0] rfl)
        · replace h := xn1 h eq10
          subst eq10
          have hl : lv_has ls 7 [(5, .ref q10), (0, .ref h0), (1, .int p1), (2, .int p2), (3, .int p3), (4, .int p4)] := hl
          refine lv_aload hx hb dX10_poly_44 (lv_at hl 0 rfl) ?_
          replace h := xb h
          obtain ⟨v11, ev11, h⟩ := h
          refine q_getI X Y fl_X10_78 ev11 dX10_poly_46 ?_
          refine lv_iload_n hx hb dX10_poly_49 rfl (lv_at hl 3 rfl) ?_
          refine lv_icmp_eq (tgt := 59) hx hb dX10_poly_50 (by decide) (fun c12 => ?_) (fun c12 => ?_)
          · replace h := Eq.trans (if_pos c12).symm h
            refine W.widen (k := 0) (n := 0) (Nat.le_of_ble_eq_true rfl) (Nat.le_of_ble_eq_true rfl) ?_
            exact w_X10_poly_59 X hr hlocks hin rs   z f1 h0 p3 p4 (some q10) _ _ _ h Y (lv_sub hl [1, 4, 5, 0] rfl)
          · replace h := Eq.trans (if_neg c12).symm h
            refine lv_aload_n hx hb dX10_poly_53 rfl (lv_at hl 1 rfl) ?_
            refine lv_iconst (v := 2) hx hb dX10_poly_54 (by decide) ?_
            by_cases c13 : hKd f1 h0 = some 9
            · replace h := Eq.trans (if_pos c13).symm h
              replace h := xb h
              obtain ⟨q14, eq14, h⟩ := h
              refine q_callV X Y hl.1 (rest := []) (As := [.int (2 : Int32)]) (c_X10_faulted l G z f1 h0 (2 : Int32) _ eq14) cd_X10_faulted lv_X10_58_9 c13 ⟨(Nat.le_of_ble_eq_true rfl), (Nat.le_of_ble_eq_true rfl)⟩ ⟨(Nat.le_of_ble_eq_true rfl), (Nat.le_of_ble_eq_true rfl)⟩ rfl rfl (Nat.le_of_ble_eq_true rfl) dX10_poly_55 (fun H locs Y => ?_)
              refine W.eq (g2 := F0 m 58 ls [.int q14.1]) rfl ?_
              replace h := Option.some.inj h
              subst h
              exact q_reti X Y hr hlocks (Nat.le_of_ble_eq_true rfl) (Nat.le_of_ble_eq_true rfl) dX10_poly_58
            replace h := Eq.trans (if_neg c13).symm h
            cases h
      · replace h := Eq.trans (if_neg c6).symm h
        refine lv_bipush (v := -2) hx hb dX10_poly_28 (by decide) ?_
        replace h := Option.some.inj h
        subst h
        exact q_reti X Y hr hlocks (Nat.le_of_ble_eq_true rfl) (Nat.le_of_ble_eq_true rfl) dX10_poly_30
  · replace h := Eq.trans (if_pos c3).symm h
    refine lv_iconst (v := -1) hx hb dX10_poly_12 (by decide) ?_
    replace h := Option.some.inj h
    subst h
    exact q_reti X Y hr hlocks (Nat.le_of_ble_eq_true rfl) (Nat.le_of_ble_eq_true rfl) dX10_poly_13
/-! NeverBelow.polynomialOf(I)LNeverBelow$Polynomial; -/
abbrev rm_X10_polynomialOf : Room := { frames := 0, cells := 0, slots := 0, locals := 0 }
def F_X10_polynomialOf_21 (f : xHp)    : Option (Option Nat) := some none
def F_X10_polynomialOf (f : xHp) (h0 : Nat) (p1 : Int32) : Option (Option Nat) := if p1 < 0 then (F_X10_polynomialOf_21 f) else (Option.bind (hI f h0 [(9, 6)]) fun v2 => if v2 ≤ p1 then (F_X10_polynomialOf_21 f) else (Option.bind (hN f h0 [(9, 1)]) fun v4 => Option.bind (hRld f v4 p1) fun v5 => some v5))
set_option maxRecDepth 100000 in
set_option maxHeartbeats 4000000 in
theorem w_X10_polynomialOf_21 {p : Program} {l : Launch} {e : Env} {s : State} {m : MethodId} {args : Array Value} {below : List Frame} {meth : Method} {c : Code} {G : xG} {z : Nat} {f : xHp} (X : xC G p m c s args RX10 cX10_polynomialOf 2) (hr : meth.sig.returnType = (some (.object "NeverBelow$Polynomial"))) (hlocks : meth.locks = false) (hin : meth.name = yX10_polynomialOf.name) (rs : Option Nat)   (H : Heap) (locs : List Loc) (ls : Array Slot) (h : F_X10_polynomialOf_21 f   = some rs) (Y : xY G z f s H locs) (hl : lv_has ls 2 []) : W p l e rm_X10_polynomialOf s m args below meth c H locs 0 0 (MQ below (xQ G (some (va_rf rs)) z f) args s rm_X10_polynomialOf.cells rm_X10_polynomialOf.slots (xA G)) (F0 m 21 ls []) := by
  have hx := X.1.1
  have hb := X.1.2.1
  unfold F_X10_polynomialOf_21 at h
  refine lv_null hx hb dX10_polynomialOf_21 ?_
  replace h := Option.some.inj h
  subst h
  exact q_reta X Y hr (by first | exact Or.inl ⟨_, rfl⟩ | exact Or.inr ⟨_, rfl⟩) hlocks (Nat.le_of_ble_eq_true rfl) (Nat.le_of_ble_eq_true rfl) dX10_polynomialOf_22
set_option maxRecDepth 100000 in
set_option maxHeartbeats 4000000 in
theorem c_X10_polynomialOf (l : Launch) (G : xG) (z : Nat) (f : xHp) (h0 : Nat) (p1 : Int32) (rs : Option Nat) (h : F_X10_polynomialOf f h0 p1 = some rs) : xM G l yX10_polynomialOf cX10_polynomialOf 2 (some (.object "NeverBelow$Polynomial")) rm_X10_polynomialOf [.ref h0, .int p1] z f (some (va_rf rs)) z f := by
  refine xM_of (by decide) (Nat.le_of_ble_eq_true rfl) ?_
  intro p e s m below meth c ls X hr hlocks hin Y hl
  have hl : lv_has ls 2 [(0, .ref h0), (1, .int p1)] := hl
  have hx := X.1.1
  have hb := X.1.2.1
  unfold F_X10_polynomialOf at h
  refine lv_iload_n hx hb dX10_polynomialOf_0 rfl (lv_at hl 1 rfl) ?_
  refine lv_if_lt (tgt := 21) hx hb dX10_polynomialOf_1 (by decide) (fun c1 => ?_) (fun c1 => ?_)
  · replace h := Eq.trans (if_pos c1).symm h
    refine W.widen (k := 0) (n := 0) (Nat.le_of_ble_eq_true rfl) (Nat.le_of_ble_eq_true rfl) ?_
    exact w_X10_polynomialOf_21 X hr hlocks hin rs    _ _ _ h Y (lv_sub hl [] rfl)
  · replace h := Eq.trans (if_neg c1).symm h
    refine lv_iload_n hx hb dX10_polynomialOf_4 rfl (lv_at hl 1 rfl) ?_
    refine lv_aload_n hx hb dX10_polynomialOf_5 rfl (lv_at hl 0 rfl) ?_
    replace h := xb h
    obtain ⟨v2, ev2, h⟩ := h
    refine q_getI X Y fl_X10_305 ev2 dX10_polynomialOf_6 ?_
    refine lv_icmp_ge (tgt := 21) hx hb dX10_polynomialOf_9 (by decide) (fun c3 => ?_) (fun c3 => ?_)
    · replace h := Eq.trans (if_pos c3).symm h
      refine W.widen (k := 0) (n := 0) (Nat.le_of_ble_eq_true rfl) (Nat.le_of_ble_eq_true rfl) ?_
      exact w_X10_polynomialOf_21 X hr hlocks hin rs    _ _ _ h Y (lv_sub hl [] rfl)
    · replace h := Eq.trans (if_neg c3).symm h
      refine lv_aload_n hx hb dX10_polynomialOf_12 rfl (lv_at hl 0 rfl) ?_
      replace h := xb h
      obtain ⟨v4, ev4, h⟩ := h
      refine q_getN X Y fl_X10_19 ev4 dX10_polynomialOf_13 ?_
      refine lv_iload_n hx hb dX10_polynomialOf_16 rfl (lv_at hl 1 rfl) ?_
      replace h := xb h
      obtain ⟨v5, ev5, h⟩ := h
      refine q_aald X Y ev5 dX10_polynomialOf_17 ?_
      refine lv_goto (tgt := 22) hx hb dX10_polynomialOf_18 (by decide) ?_
      replace h := Option.some.inj h
      subst h
      exact q_reta X Y hr (by first | exact Or.inl ⟨_, rfl⟩ | exact Or.inr ⟨_, rfl⟩) hlocks (Nat.le_of_ble_eq_true rfl) (Nat.le_of_ble_eq_true rfl) dX10_polynomialOf_22
/-! NeverBelow.add(III)I -/
abbrev rm_X10_add : Room := { frames := 3, cells := 2, slots := 10, locals := 66 }
def F_X10_add_49 (k49 : Nat → xHp → Nat → Int32 → Nat → Nat → Nat → Int32 → Option (Int32 × Nat × xHp)) (z : Nat) (f : xHp) (a0 : Nat) (a3 : Int32) (a4 : Nat) (a5 : Nat) (a6 : Nat) (a7 : Int32) : Option (Int32 × Nat × xHp) := if (9 : Int32) ≤ a7 then (if hKd f a0 = some 9 then (Option.bind (F_X10_keepPolynomial z f a0 a6) fun q3 => some (q3.1, q3.2.1, q3.2.2)) else none) else (Option.bind (hN f a4 [(4, 0)]) fun v4 => Option.bind (hJld f v4 a7) fun v5 => Option.bind (hN f a5 [(4, 0)]) fun v6 => Option.bind (hJld f v6 a7) fun v7 => Option.bind (hJst f a6 a7 (v5 + (a3.toInt64 * v7))) fun f8 => k49 z f8 a0 a3 a4 a5 a6 (a7 + 1))
def L_X10_add_49  : Nat → Nat → xHp → Nat → Int32 → Nat → Nat → Nat → Int32 → Option (Int32 × Nat × xHp)
  | 0, _, _, _, _, _, _, _, _ => none
  | n + 1, z, f, a0, a3, a4, a5, a6, a7 => F_X10_add_49 (L_X10_add_49  n) z f a0 a3 a4 a5 a6 a7
def F_X10_add (z : Nat) (f : xHp) (h0 : Nat) (p1 : Int32) (p2 : Int32) (p3 : Int32) : Option (Int32 × Nat × xHp) := if hKd f h0 = some 9 then (Option.bind (F_X10_polynomialOf f h0 p1) fun q2 => if hKd f h0 = some 9 then (Option.bind (F_X10_polynomialOf f h0 p2) fun q4 => xnul q2 (some ((-1 : Int32), z, f)) (fun q6 => xnul q4 (some ((-1 : Int32), z, f)) (fun q8 => Option.bind (F_X10_isWithin f p3.toInt64 (1000 : Int64)) fun q9 => if q9 = 0 then (some ((-2 : Int32), z, f)) else (Option.bind (hNw (9 : Int32) 9) fun n11 => Option.bind (some (va_up f z (some (.inr (.inl (n11, fun _ => 0)))))) fun f12 => L_X10_add_49 xfuel (z + 1) f12 h0 p3 q6 q8 z (0 : Int32))))) else none) else none
set_option maxRecDepth 100000 in
set_option maxHeartbeats 4000000 in
theorem w_X10_add_49 {p : Program} {l : Launch} {e : Env} {s : State} {m : MethodId} {args : Array Value} {below : List Frame} {meth : Method} {c : Code} {G : xG} (X : xC G p m c s args RX10 cX10_add 8) (hr : meth.sig.returnType = (some .int)) (hlocks : meth.locks = false) (hin : meth.name = yX10_add.name) (rs : Int32 × Nat × xHp) (k49 : Nat → xHp → Nat → Int32 → Nat → Nat → Nat → Int32 → Option (Int32 × Nat × xHp)) (hk49 : ∀ (z : Nat) (f : xHp) (a0 : Nat) (a3 : Int32) (a4 : Nat) (a5 : Nat) (a6 : Nat) (a7 : Int32) (H : Heap) (locs : List Loc) (ls : Array Slot), k49 z f a0 a3 a4 a5 a6 a7 = some rs → xY G z f s H locs → lv_has ls 8 [(0, .ref a0), (3, .int a3), (4, .ref a4), (5, .ref a5), (6, .ref a6), (7, .int a7)] → W p l e rm_X10_add s m args below meth c H locs 1 9 (MQ below (xQ G (some (.int rs.1)) rs.2.1 rs.2.2) args s rm_X10_add.cells rm_X10_add.slots (xA G)) (F0 m 49 ls [])) (z : Nat) (f : xHp) (a0 : Nat) (a3 : Int32) (a4 : Nat) (a5 : Nat) (a6 : Nat) (a7 : Int32) (H : Heap) (locs : List Loc) (ls : Array Slot) (h : F_X10_add_49 k49 z f a0 a3 a4 a5 a6 a7 = some rs) (Y : xY G z f s H locs) (hl : lv_has ls 8 [(0, .ref a0), (3, .int a3), (4, .ref a4), (5, .ref a5), (6, .ref a6), (7, .int a7)]) : W p l e rm_X10_add s m args below meth c H locs 1 9 (MQ below (xQ G (some (.int rs.1)) rs.2.1 rs.2.2) args s rm_X10_add.cells rm_X10_add.slots (xA G)) (F0 m 49 ls []) := by
  have hx := X.1.1
  have hb := X.1.2.1
  unfold F_X10_add_49 at h
  refine lv_iload hx hb dX10_add_49 (lv_at hl 5 rfl) ?_
  refine lv_bipush (v := 9) hx hb dX10_add_51 (by decide) ?_
  refine lv_icmp_ge (tgt := 87) hx hb dX10_add_53 (by decide) (fun c1 => ?_) (fun c1 => ?_)
  · replace h := Eq.trans (if_pos c1).symm h
    refine lv_aload_n hx hb dX10_add_87 rfl (lv_at hl 0 rfl) ?_
    refine lv_aload hx hb dX10_add_88 (lv_at hl 4 rfl) ?_
    by_cases c2 : hKd f a0 = some 9
    · replace h := Eq.trans (if_pos c2).symm h
      replace h := xb h
      obtain ⟨q3, eq3, h⟩ := h
      refine q_callV X Y hl.1 (rest := []) (As := [.ref a6]) (c_X10_keepPolynomial l G z f a0 a6 _ eq3) cd_X10_keepPolynomial lv_X10_91_9 c2 ⟨(Nat.le_of_ble_eq_true rfl), (Nat.le_of_ble_eq_true rfl)⟩ ⟨(Nat.le_of_ble_eq_true rfl), (Nat.le_of_ble_eq_true rfl)⟩ rfl rfl (Nat.le_of_ble_eq_true rfl) dX10_add_90 (fun H locs Y => ?_)
      refine W.eq (g2 := F0 m 93 ls [.int q3.1]) rfl ?_
      refine W.widen (k := 2) (n := 10) (Nat.le_of_ble_eq_true rfl) (Nat.le_of_ble_eq_true rfl) ?_
      replace h := Option.some.inj h
      subst h
      exact q_reti X Y hr hlocks (Nat.le_of_ble_eq_true rfl) (Nat.le_of_ble_eq_true rfl) dX10_add_93
    replace h := Eq.trans (if_neg c2).symm h
    cases h
  · replace h := Eq.trans (if_neg c1).symm h
    refine lv_aload hx hb dX10_add_56 (lv_at hl 4 rfl) ?_
    refine lv_iload hx hb dX10_add_58 (lv_at hl 5 rfl) ?_
    refine lv_aload hx hb dX10_add_60 (lv_at hl 2 rfl) ?_
    replace h := xb h
    obtain ⟨v4, ev4, h⟩ := h
    refine q_getN X Y fl_X10_105 ev4 dX10_add_62 ?_
    refine lv_iload hx hb dX10_add_65 (lv_at hl 5 rfl) ?_
    replace h := xb h
    obtain ⟨v5, ev5, h⟩ := h
    refine q_lald X Y ev5 dX10_add_67 ?_
    refine lv_iload_n hx hb dX10_add_68 rfl (lv_at hl 1 rfl) ?_
    refine lv_i2l hx hb dX10_add_69 rfl ?_
    refine lv_aload hx hb dX10_add_70 (lv_at hl 3 rfl) ?_
    replace h := xb h
    obtain ⟨v6, ev6, h⟩ := h
    refine q_getN X Y fl_X10_105 ev6 dX10_add_72 ?_
    refine lv_iload hx hb dX10_add_75 (lv_at hl 5 rfl) ?_
    replace h := xb h
    obtain ⟨v7, ev7, h⟩ := h
    refine q_lald X Y ev7 dX10_add_77 ?_
    refine lv_lmul hx hb dX10_add_78 ?_
    refine lv_ladd hx hb dX10_add_79 ?_
    replace h := xb h
    obtain ⟨f8, ef8, h⟩ := h
    refine q_last X Y ef8 dX10_add_80 (fun H locs Y => ?_)
    refine lv_iinc (v := (a7 + 1)) (lv' := [(7, .int (a7 + 1)), (0, .ref a0), (3, .int a3), (4, .ref a4), (5, .ref a5), (6, .ref a6)]) hx hb dX10_add_81 hl (k := 5) rfl rfl (by decide) rfl (fun ls hl => ?_)
    refine lv_goto (tgt := 49) hx hb dX10_add_84 (by decide) ?_
    refine W.widen (k := 1) (n := 9) (Nat.le_of_ble_eq_true rfl) (Nat.le_of_ble_eq_true rfl) ?_
    exact hk49 z f8 a0 a3 a4 a5 a6 (a7 + 1) _ _ _ h Y (lv_sub hl [1, 2, 3, 4, 5, 0] rfl)
set_option maxRecDepth 100000 in
set_option maxHeartbeats 4000000 in
theorem lw_X10_add_49 {p : Program} {l : Launch} {e : Env} {s : State} {m : MethodId} {args : Array Value} {below : List Frame} {meth : Method} {c : Code} {G : xG} (X : xC G p m c s args RX10 cX10_add 8) (hr : meth.sig.returnType = (some .int)) (hlocks : meth.locks = false) (hin : meth.name = yX10_add.name) (rs : Int32 × Nat × xHp)  : ∀ (n : Nat) (z : Nat) (f : xHp) (a0 : Nat) (a3 : Int32) (a4 : Nat) (a5 : Nat) (a6 : Nat) (a7 : Int32) (H : Heap) (locs : List Loc) (ls : Array Slot), L_X10_add_49  n z f a0 a3 a4 a5 a6 a7 = some rs → xY G z f s H locs → lv_has ls 8 [(0, .ref a0), (3, .int a3), (4, .ref a4), (5, .ref a5), (6, .ref a6), (7, .int a7)] → W p l e rm_X10_add s m args below meth c H locs 1 9 (MQ below (xQ G (some (.int rs.1)) rs.2.1 rs.2.2) args s rm_X10_add.cells rm_X10_add.slots (xA G)) (F0 m 49 ls []) := by
  intro n
  induction n with
  | zero => intro z f a0 a3 a4 a5 a6 a7 H locs ls h Y hl; cases h
  | succ n ih => intro z f a0 a3 a4 a5 a6 a7 H locs ls h Y hl; exact w_X10_add_49 X hr hlocks hin rs _ ih z f a0 a3 a4 a5 a6 a7 _ _ _ h Y hl
set_option maxRecDepth 100000 in
set_option maxHeartbeats 4000000 in
theorem c_X10_add (l : Launch) (G : xG) (z : Nat) (f : xHp) (h0 : Nat) (p1 : Int32) (p2 : Int32) (p3 : Int32) (rs : Int32 × Nat × xHp) (h : F_X10_add z f h0 p1 p2 p3 = some rs) : xM G l yX10_add cX10_add 8 (some .int) rm_X10_add [.ref h0, .int p1, .int p2, .int p3] z f (some (.int rs.1)) rs.2.1 rs.2.2 := by
  refine xM_of (by decide) (Nat.le_of_ble_eq_true rfl) ?_
  intro p e s m below meth c ls X hr hlocks hin Y hl
  have hl : lv_has ls 8 [(0, .ref h0), (1, .int p1), (2, .int p2), (3, .int p3)] := hl
  have hx := X.1.1
  have hb := X.1.2.1
  unfold F_X10_add at h
  refine lv_aload_n hx hb dX10_add_0 rfl (lv_at hl 0 rfl) ?_
  refine lv_iload_n hx hb dX10_add_1 rfl (lv_at hl 1 rfl) ?_
  by_cases c1 : hKd f h0 = some 9
  · replace h := Eq.trans (if_pos c1).symm h
    replace h := xb h
    obtain ⟨q2, eq2, h⟩ := h
    refine q_callV X Y hl.1 (rest := []) (As := [.int p1]) (c_X10_polynomialOf l G z f h0 p1 _ eq2) cd_X10_polynomialOf lv_X10_95_9 c1 ⟨(Nat.le_of_ble_eq_true rfl), (Nat.le_of_ble_eq_true rfl)⟩ ⟨(Nat.le_of_ble_eq_true rfl), (Nat.le_of_ble_eq_true rfl)⟩ rfl rfl (Nat.le_of_ble_eq_true rfl) dX10_add_2 (fun H locs Y => ?_)
    refine W.eq (g2 := F0 m 5 ls [va_rf q2]) rfl ?_
    refine q_astore (lv' := [(4, va_rf q2), (0, .ref h0), (1, .int p1), (2, .int p2), (3, .int p3)]) hx hb dX10_add_5 hl (by decide) rfl (fun ls hl => ?_)
    refine lv_aload_n hx hb dX10_add_7 rfl (lv_at hl 1 rfl) ?_
    refine lv_iload_n hx hb dX10_add_8 rfl (lv_at hl 3 rfl) ?_
    by_cases c3 : hKd f h0 = some 9
    · replace h := Eq.trans (if_pos c3).symm h
      replace h := xb h
      obtain ⟨q4, eq4, h⟩ := h
      refine q_callV X Y hl.1 (rest := []) (As := [.int p2]) (c_X10_polynomialOf l G z f h0 p2 _ eq4) cd_X10_polynomialOf lv_X10_95_9 c3 ⟨(Nat.le_of_ble_eq_true rfl), (Nat.le_of_ble_eq_true rfl)⟩ ⟨(Nat.le_of_ble_eq_true rfl), (Nat.le_of_ble_eq_true rfl)⟩ rfl rfl (Nat.le_of_ble_eq_true rfl) dX10_add_9 (fun H locs Y => ?_)
      refine W.eq (g2 := F0 m 12 ls [va_rf q4]) rfl ?_
      refine q_astore (lv' := [(5, va_rf q4), (4, va_rf q2), (0, .ref h0), (1, .int p1), (2, .int p2), (3, .int p3)]) hx hb dX10_add_12 hl (by decide) (by cases q2 <;> rfl) (fun ls hl => ?_)
      refine q_aload hx hb dX10_add_14 (lv_at hl 1 rfl) ?_
      refine q_ifnull (tgt := 24) hx hb dX10_add_16 (by decide) (fun c5 => ?_) (fun q6 eq6 => ?_)
      · replace h := xn0 h c5
        subst c5
        have hl : lv_has ls 8 [(5, va_rf q4), (4, .null), (0, .ref h0), (1, .int p1), (2, .int p2), (3, .int p3)] := hl
        refine lv_iconst (v := -1) hx hb dX10_add_24 (by decide) ?_
        replace h := Option.some.inj h
        subst h
        exact q_reti X Y hr hlocks (Nat.le_of_ble_eq_true rfl) (Nat.le_of_ble_eq_true rfl) dX10_add_25
      · replace h := xn1 h eq6
        subst eq6
        have hl : lv_has ls 8 [(5, va_rf q4), (4, .ref q6), (0, .ref h0), (1, .int p1), (2, .int p2), (3, .int p3)] := hl
        refine q_aload hx hb dX10_add_19 (lv_at hl 0 rfl) ?_
        refine q_ifnonnull (tgt := 26) hx hb dX10_add_21 (by decide) (fun c7 => ?_) (fun q8 eq8 => ?_)
        · replace h := xn0 h c7
          subst c7
          have hl : lv_has ls 8 [(5, .null), (4, .ref q6), (0, .ref h0), (1, .int p1), (2, .int p2), (3, .int p3)] := hl
          refine lv_iconst (v := -1) hx hb dX10_add_24 (by decide) ?_
          replace h := Option.some.inj h
          subst h
          exact q_reti X Y hr hlocks (Nat.le_of_ble_eq_true rfl) (Nat.le_of_ble_eq_true rfl) dX10_add_25
        · replace h := xn1 h eq8
          subst eq8
          have hl : lv_has ls 8 [(5, .ref q8), (4, .ref q6), (0, .ref h0), (1, .int p1), (2, .int p2), (3, .int p3)] := hl
          refine lv_iload_n hx hb dX10_add_26 rfl (lv_at hl 5 rfl) ?_
          refine lv_i2l hx hb dX10_add_27 rfl ?_
          refine lv_ldc2 (v := 1000) hx hb X.1.2.2.2.1 (X.1.2.2.2.2 _ xw_222) dX10_add_28 ?_
          replace h := xb h
          obtain ⟨q9, eq9, h⟩ := h
          refine q_callS X Y hl.1 (rest := []) (As := [.long p3.toInt64, .long (1000 : Int64)]) (c_X10_isWithin l G z f p3.toInt64 (1000 : Int64) _ eq9) cd_X10_isWithin ls_X10_101 ⟨(Nat.le_of_ble_eq_true rfl), (Nat.le_of_ble_eq_true rfl)⟩ ⟨(Nat.le_of_ble_eq_true rfl), (Nat.le_of_ble_eq_true rfl)⟩ rfl rfl (Nat.le_of_ble_eq_true rfl) dX10_add_31 (fun H locs Y => ?_)
          refine W.eq (g2 := F0 m 34 ls [.int q9]) rfl ?_
          refine lv_if_ne (tgt := 40) hx hb dX10_add_34 (by decide) (fun c10 => ?_) (fun c10 => ?_)
          · replace h := Eq.trans (if_neg c10).symm h
            refine lv_bipush (v := 9) hx hb dX10_add_40 (by decide) ?_
            replace h := xb h
            obtain ⟨n11, en11, h⟩ := h
            replace h := xb h
            obtain ⟨f12, ef12, h⟩ := h
            have ef12 := Option.some.inj ef12
            refine q_newJ X Y en11 (by decide) xw_80 (Nat.le_of_ble_eq_true rfl) (Nat.le_of_ble_eq_true rfl) dX10_add_42 (fun H Y => ?_)
            rw [ef12] at Y
            refine lv_astore (lv' := [(6, .ref z), (5, .ref q8), (4, .ref q6), (0, .ref h0), (1, .int p1), (2, .int p2), (3, .int p3)]) hx hb dX10_add_44 hl (by decide) rfl (fun ls hl => ?_)
            refine lv_iconst (v := 0) hx hb dX10_add_46 (by decide) ?_
            refine lv_istore (lv' := [(7, .int (0 : Int32)), (6, .ref z), (5, .ref q8), (4, .ref q6), (0, .ref h0), (1, .int p1), (2, .int p2), (3, .int p3)]) hx hb dX10_add_47 hl (by decide) rfl (fun ls hl => ?_)
            refine W.widen (k := 1) (n := 9) (Nat.le_of_ble_eq_true rfl) (Nat.le_of_ble_eq_true rfl) ?_
            exact lw_X10_add_49 X hr hlocks hin rs  xfuel (z + 1) f12 h0 p3 q6 q8 z (0 : Int32) _ _ _ h Y (lv_sub hl [4, 7, 3, 2, 1, 0] rfl)
          · replace h := Eq.trans (if_pos c10).symm h
            refine lv_bipush (v := -2) hx hb dX10_add_37 (by decide) ?_
            replace h := Option.some.inj h
            subst h
            exact q_reti X Y hr hlocks (Nat.le_of_ble_eq_true rfl) (Nat.le_of_ble_eq_true rfl) dX10_add_39
    replace h := Eq.trans (if_neg c3).symm h
    cases h
  replace h := Eq.trans (if_neg c1).symm h
  cases h

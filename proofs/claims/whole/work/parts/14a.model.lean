/-! NeverBelowModel.<init>()V -/
abbrev rm_X11_init : Room := { frames := 1, cells := 21, slots := 7638, locals := 24 }
def F_X11_init (z : Nat) (f : xHp) (h0 : Nat) : Option (Nat × xHp) := Option.bind (hNw (4 : Int32) 4) fun n1 => Option.bind (some (va_up f z (some (.inl (n1, fun _ => 0))))) fun f2 => Option.bind (hIst f2 z (0 : Int32) (-9 : Int32)) fun f3 => Option.bind (hIst f3 z (1 : Int32) (-9 : Int32)) fun f4 => Option.bind (hIst f4 z (2 : Int32) (-9 : Int32)) fun f5 => Option.bind (hIst f5 z (3 : Int32) (-9 : Int32)) fun f6 => Option.bind (hPut f6 h0 [(10, 2)] (.ref z)) fun f7 => Option.bind (hNw (4 : Int32) 4) fun n8 => Option.bind (some (va_up f7 (z + 1) (some (.inl (n8, fun _ => 0))))) fun f9 => Option.bind (hPut f9 h0 [(10, 3)] (.ref (z + 1))) fun f10 => Option.bind (hNw (120 : Int32) 120) fun n11 => Option.bind (some (va_up f10 ((z + 1) + 1) (some (.inr (.inl (n11, fun _ => 0)))))) fun f12 => Option.bind (hPut f12 h0 [(10, 4)] (.ref ((z + 1) + 1))) fun f13 => Option.bind (hNw (270 : Int32) 270) fun n14 => Option.bind (some (va_up f13 (((z + 1) + 1) + 1) (some (.inr (.inl (n14, fun _ => 0)))))) fun f15 => Option.bind (hPut f15 h0 [(10, 6)] (.ref (((z + 1) + 1) + 1))) fun f16 => Option.bind (hNw (25 : Int32) 25) fun n17 => Option.bind (some (va_up f16 ((((z + 1) + 1) + 1) + 1) (some (.inr (.inl (n17, fun _ => 0)))))) fun f18 => Option.bind (hPut f18 h0 [(10, 7)] (.ref ((((z + 1) + 1) + 1) + 1))) fun f19 => Option.bind (hNw (120 : Int32) 120) fun n20 => Option.bind (some (va_up f19 (((((z + 1) + 1) + 1) + 1) + 1) (some (.inl (n20, fun _ => 0))))) fun f21 => Option.bind (hPut f21 h0 [(10, 9)] (.ref (((((z + 1) + 1) + 1) + 1) + 1))) fun f22 => Option.bind (hNw (164 : Int32) 164) fun n23 => Option.bind (some (va_up f22 ((((((z + 1) + 1) + 1) + 1) + 1) + 1) (some (.inl (n23, fun _ => 0))))) fun f24 => Option.bind (hPut f24 h0 [(10, 13)] (.ref ((((((z + 1) + 1) + 1) + 1) + 1) + 1))) fun f25 => Option.bind (hNw (41 : Int32) 41) fun n26 => Option.bind (some (va_up f25 (((((((z + 1) + 1) + 1) + 1) + 1) + 1) + 1) (some (.inl (n26, fun _ => 0))))) fun f27 => Option.bind (hPut f27 h0 [(10, 14)] (.ref (((((((z + 1) + 1) + 1) + 1) + 1) + 1) + 1))) fun f28 => Option.bind (hNw (9 : Int32) 9) fun n29 => Option.bind (some (va_up f28 ((((((((z + 1) + 1) + 1) + 1) + 1) + 1) + 1) + 1) (some (.inr (.inl (n29, fun _ => 0)))))) fun f30 => Option.bind (hPut f30 h0 [(10, 17)] (.ref ((((((((z + 1) + 1) + 1) + 1) + 1) + 1) + 1) + 1))) fun f31 => Option.bind (hNw (20 : Int32) 20) fun n32 => Option.bind (some (va_up f31 (((((((((z + 1) + 1) + 1) + 1) + 1) + 1) + 1) + 1) + 1) (some (.inr (.inl (n32, fun _ => 0)))))) fun f33 => Option.bind (hPut f33 h0 [(10, 19)] (.ref (((((((((z + 1) + 1) + 1) + 1) + 1) + 1) + 1) + 1) + 1))) fun f34 => Option.bind (hNw (40 : Int32) 40) fun n35 => Option.bind (some (va_up f34 ((((((((((z + 1) + 1) + 1) + 1) + 1) + 1) + 1) + 1) + 1) + 1) (some (.inl (n35, fun _ => 0))))) fun f36 => Option.bind (hPut f36 h0 [(10, 21)] (.ref ((((((((((z + 1) + 1) + 1) + 1) + 1) + 1) + 1) + 1) + 1) + 1))) fun f37 => Option.bind (hNw (40 : Int32) 40) fun n38 => Option.bind (some (va_up f37 (((((((((((z + 1) + 1) + 1) + 1) + 1) + 1) + 1) + 1) + 1) + 1) + 1) (some (.inl (n38, fun _ => 0))))) fun f39 => Option.bind (hPut f39 h0 [(10, 22)] (.ref (((((((((((z + 1) + 1) + 1) + 1) + 1) + 1) + 1) + 1) + 1) + 1) + 1))) fun f40 => Option.bind (hNw (40 : Int32) 40) fun n41 => Option.bind (some (va_up f40 ((((((((((((z + 1) + 1) + 1) + 1) + 1) + 1) + 1) + 1) + 1) + 1) + 1) + 1) (some (.inl (n41, fun _ => 0))))) fun f42 => Option.bind (hPut f42 h0 [(10, 23)] (.ref ((((((((((((z + 1) + 1) + 1) + 1) + 1) + 1) + 1) + 1) + 1) + 1) + 1) + 1))) fun f43 => Option.bind (hNw (40 : Int32) 40) fun n44 => Option.bind (some (va_up f43 (((((((((((((z + 1) + 1) + 1) + 1) + 1) + 1) + 1) + 1) + 1) + 1) + 1) + 1) + 1) (some (.inl (n44, fun _ => 0))))) fun f45 => Option.bind (hPut f45 h0 [(10, 24)] (.ref (((((((((((((z + 1) + 1) + 1) + 1) + 1) + 1) + 1) + 1) + 1) + 1) + 1) + 1) + 1))) fun f46 => Option.bind (hNw (6400 : Int32) 6400) fun n47 => Option.bind (some (va_up f46 ((((((((((((((z + 1) + 1) + 1) + 1) + 1) + 1) + 1) + 1) + 1) + 1) + 1) + 1) + 1) + 1) (some (.inr (.inl (n47, fun _ => 0)))))) fun f48 => Option.bind (hPut f48 h0 [(10, 25)] (.ref ((((((((((((((z + 1) + 1) + 1) + 1) + 1) + 1) + 1) + 1) + 1) + 1) + 1) + 1) + 1) + 1))) fun f49 => Option.bind (hNw (24 : Int32) 24) fun n50 => Option.bind (some (va_up f49 (((((((((((((((z + 1) + 1) + 1) + 1) + 1) + 1) + 1) + 1) + 1) + 1) + 1) + 1) + 1) + 1) + 1) (some (.inr (.inl (n50, fun _ => 0)))))) fun f51 => Option.bind (hPut f51 h0 [(10, 26)] (.ref (((((((((((((((z + 1) + 1) + 1) + 1) + 1) + 1) + 1) + 1) + 1) + 1) + 1) + 1) + 1) + 1) + 1))) fun f52 => Option.bind (hNw (24 : Int32) 24) fun n53 => Option.bind (some (va_up f52 ((((((((((((((((z + 1) + 1) + 1) + 1) + 1) + 1) + 1) + 1) + 1) + 1) + 1) + 1) + 1) + 1) + 1) + 1) (some (.inr (.inl (n53, fun _ => 0)))))) fun f54 => Option.bind (hPut f54 h0 [(10, 27)] (.ref ((((((((((((((((z + 1) + 1) + 1) + 1) + 1) + 1) + 1) + 1) + 1) + 1) + 1) + 1) + 1) + 1) + 1) + 1))) fun f55 => Option.bind (hNw (24 : Int32) 24) fun n56 => Option.bind (some (va_up f55 (((((((((((((((((z + 1) + 1) + 1) + 1) + 1) + 1) + 1) + 1) + 1) + 1) + 1) + 1) + 1) + 1) + 1) + 1) + 1) (some (.inr (.inl (n56, fun _ => 0)))))) fun f57 => Option.bind (hPut f57 h0 [(10, 28)] (.ref (((((((((((((((((z + 1) + 1) + 1) + 1) + 1) + 1) + 1) + 1) + 1) + 1) + 1) + 1) + 1) + 1) + 1) + 1) + 1))) fun f58 => Option.bind (hNw (24 : Int32) 24) fun n59 => Option.bind (some (va_up f58 ((((((((((((((((((z + 1) + 1) + 1) + 1) + 1) + 1) + 1) + 1) + 1) + 1) + 1) + 1) + 1) + 1) + 1) + 1) + 1) + 1) (some (.inr (.inl (n59, fun _ => 0)))))) fun f60 => Option.bind (hPut f60 h0 [(10, 29)] (.ref ((((((((((((((((((z + 1) + 1) + 1) + 1) + 1) + 1) + 1) + 1) + 1) + 1) + 1) + 1) + 1) + 1) + 1) + 1) + 1) + 1))) fun f61 => Option.bind (hNw (164 : Int32) 164) fun n62 => Option.bind (some (va_up f61 (((((((((((((((((((z + 1) + 1) + 1) + 1) + 1) + 1) + 1) + 1) + 1) + 1) + 1) + 1) + 1) + 1) + 1) + 1) + 1) + 1) + 1) (some (.inl (n62, fun _ => 0))))) fun f63 => Option.bind (hPut f63 h0 [(10, 30)] (.ref (((((((((((((((((((z + 1) + 1) + 1) + 1) + 1) + 1) + 1) + 1) + 1) + 1) + 1) + 1) + 1) + 1) + 1) + 1) + 1) + 1) + 1))) fun f64 => Option.bind (hNw (41 : Int32) 41) fun n65 => Option.bind (some (va_up f64 ((((((((((((((((((((z + 1) + 1) + 1) + 1) + 1) + 1) + 1) + 1) + 1) + 1) + 1) + 1) + 1) + 1) + 1) + 1) + 1) + 1) + 1) + 1) (some (.inl (n65, fun _ => 0))))) fun f66 => Option.bind (hPut f66 h0 [(10, 31)] (.ref ((((((((((((((((((((z + 1) + 1) + 1) + 1) + 1) + 1) + 1) + 1) + 1) + 1) + 1) + 1) + 1) + 1) + 1) + 1) + 1) + 1) + 1) + 1))) fun f67 => some ((((((((((((((((((((((z + 1) + 1) + 1) + 1) + 1) + 1) + 1) + 1) + 1) + 1) + 1) + 1) + 1) + 1) + 1) + 1) + 1) + 1) + 1) + 1) + 1), f67)
set_option maxRecDepth 100000 in
set_option maxHeartbeats 4000000 in
theorem c_X11_init (l : Launch) (G : xG) (z : Nat) (f : xHp) (h0 : Nat) (rs : Nat × xHp) (h : F_X11_init z f h0 = some rs) : xM G l yX11_init cX11_init 1 none rm_X11_init [.ref h0] z f none rs.1 rs.2 := by
  refine xM_of (by decide) (Nat.le_of_ble_eq_true rfl) ?_
  intro p e s m below meth c ls X hr hlocks hin Y hl
  have hl : lv_has ls 1 [(0, .ref h0)] := hl
  have hx := X.1.1
  have hb := X.1.2.1
  unfold F_X11_init at h
  refine lv_aload_n hx hb dX11_init_0 rfl (lv_at hl 0 rfl) ?_
  refine q_obj X hl.1 lo_X11_1 (Nat.le_of_ble_eq_true rfl) (Nat.le_of_ble_eq_true rfl) dX11_init_1 ?_
  refine lv_aload_n hx hb dX11_init_4 rfl (lv_at hl 0 rfl) ?_
  refine lv_iconst (v := 4) hx hb dX11_init_5 (by decide) ?_
  replace h := xb h
  obtain ⟨n1, en1, h⟩ := h
  replace h := xb h
  obtain ⟨f2, ef2, h⟩ := h
  have ef2 := Option.some.inj ef2
  refine q_newI X Y en1 (by decide) xw_79 (Nat.le_of_ble_eq_true rfl) (Nat.le_of_ble_eq_true rfl) dX11_init_6 (fun H Y => ?_)
  rw [ef2] at Y
  refine lv_dup hx hb dX11_init_8 rfl ?_
  refine lv_iconst (v := 0) hx hb dX11_init_9 (by decide) ?_
  refine lv_bipush (v := -9) hx hb dX11_init_10 (by decide) ?_
  replace h := xb h
  obtain ⟨f3, ef3, h⟩ := h
  refine q_iast X Y ef3 dX11_init_12 (fun H locs Y => ?_)
  refine lv_dup hx hb dX11_init_13 rfl ?_
  refine lv_iconst (v := 1) hx hb dX11_init_14 (by decide) ?_
  refine lv_bipush (v := -9) hx hb dX11_init_15 (by decide) ?_
  replace h := xb h
  obtain ⟨f4, ef4, h⟩ := h
  refine q_iast X Y ef4 dX11_init_17 (fun H locs Y => ?_)
  refine lv_dup hx hb dX11_init_18 rfl ?_
  refine lv_iconst (v := 2) hx hb dX11_init_19 (by decide) ?_
  refine lv_bipush (v := -9) hx hb dX11_init_20 (by decide) ?_
  replace h := xb h
  obtain ⟨f5, ef5, h⟩ := h
  refine q_iast X Y ef5 dX11_init_22 (fun H locs Y => ?_)
  refine lv_dup hx hb dX11_init_23 rfl ?_
  refine lv_iconst (v := 3) hx hb dX11_init_24 (by decide) ?_
  refine lv_bipush (v := -9) hx hb dX11_init_25 (by decide) ?_
  replace h := xb h
  obtain ⟨f6, ef6, h⟩ := h
  refine q_iast X Y ef6 dX11_init_27 (fun H locs Y => ?_)
  replace h := xb h
  obtain ⟨f7, ef7, h⟩ := h
  refine q_putF X Y hin fp_X11_9 rfl rfl ef7 dX11_init_28 (fun H locs Y => ?_)
  refine lv_aload_n hx hb dX11_init_31 rfl (lv_at hl 0 rfl) ?_
  refine lv_iconst (v := 4) hx hb dX11_init_32 (by decide) ?_
  replace h := xb h
  obtain ⟨n8, en8, h⟩ := h
  replace h := xb h
  obtain ⟨f9, ef9, h⟩ := h
  have ef9 := Option.some.inj ef9
  refine q_newI X Y en8 (by decide) xw_79 (Nat.le_of_ble_eq_true rfl) (Nat.le_of_ble_eq_true rfl) dX11_init_33 (fun H Y => ?_)
  rw [ef9] at Y
  replace h := xb h
  obtain ⟨f10, ef10, h⟩ := h
  refine q_putF X Y hin fp_X11_13 rfl rfl ef10 dX11_init_35 (fun H locs Y => ?_)
  refine lv_aload_n hx hb dX11_init_38 rfl (lv_at hl 0 rfl) ?_
  refine lv_bipush (v := 120) hx hb dX11_init_39 (by decide) ?_
  replace h := xb h
  obtain ⟨n11, en11, h⟩ := h
  replace h := xb h
  obtain ⟨f12, ef12, h⟩ := h
  have ef12 := Option.some.inj ef12
  refine q_newJ X Y en11 (by decide) xw_80 (Nat.le_of_ble_eq_true rfl) (Nat.le_of_ble_eq_true rfl) dX11_init_41 (fun H Y => ?_)
  rw [ef12] at Y
  replace h := xb h
  obtain ⟨f13, ef13, h⟩ := h
  refine q_putF X Y hin fp_X11_16 rfl rfl ef13 dX11_init_43 (fun H locs Y => ?_)
  refine lv_aload_n hx hb dX11_init_46 rfl (lv_at hl 0 rfl) ?_
  refine lv_sipush (v := 270) hx hb dX11_init_47 (by decide) ?_
  replace h := xb h
  obtain ⟨n14, en14, h⟩ := h
  replace h := xb h
  obtain ⟨f15, ef15, h⟩ := h
  have ef15 := Option.some.inj ef15
  refine q_newJ X Y en14 (by decide) xw_80 (Nat.le_of_ble_eq_true rfl) (Nat.le_of_ble_eq_true rfl) dX11_init_50 (fun H Y => ?_)
  rw [ef15] at Y
  replace h := xb h
  obtain ⟨f16, ef16, h⟩ := h
  refine q_putF X Y hin fp_X11_20 rfl rfl ef16 dX11_init_52 (fun H locs Y => ?_)
  refine lv_aload_n hx hb dX11_init_55 rfl (lv_at hl 0 rfl) ?_
  refine lv_bipush (v := 25) hx hb dX11_init_56 (by decide) ?_
  replace h := xb h
  obtain ⟨n17, en17, h⟩ := h
  replace h := xb h
  obtain ⟨f18, ef18, h⟩ := h
  have ef18 := Option.some.inj ef18
  refine q_newJ X Y en17 (by decide) xw_80 (Nat.le_of_ble_eq_true rfl) (Nat.le_of_ble_eq_true rfl) dX11_init_58 (fun H Y => ?_)
  rw [ef18] at Y
  replace h := xb h
  obtain ⟨f19, ef19, h⟩ := h
  refine q_putF X Y hin fp_X11_23 rfl rfl ef19 dX11_init_60 (fun H locs Y => ?_)
  refine lv_aload_n hx hb dX11_init_63 rfl (lv_at hl 0 rfl) ?_
  refine lv_bipush (v := 120) hx hb dX11_init_64 (by decide) ?_
  replace h := xb h
  obtain ⟨n20, en20, h⟩ := h
  replace h := xb h
  obtain ⟨f21, ef21, h⟩ := h
  have ef21 := Option.some.inj ef21
  refine q_newI X Y en20 (by decide) xw_79 (Nat.le_of_ble_eq_true rfl) (Nat.le_of_ble_eq_true rfl) dX11_init_66 (fun H Y => ?_)
  rw [ef21] at Y
  replace h := xb h
  obtain ⟨f22, ef22, h⟩ := h
  refine q_putF X Y hin fp_X11_26 rfl rfl ef22 dX11_init_68 (fun H locs Y => ?_)
  refine lv_aload_n hx hb dX11_init_71 rfl (lv_at hl 0 rfl) ?_
  refine lv_sipush (v := 164) hx hb dX11_init_72 (by decide) ?_
  replace h := xb h
  obtain ⟨n23, en23, h⟩ := h
  replace h := xb h
  obtain ⟨f24, ef24, h⟩ := h
  have ef24 := Option.some.inj ef24
  refine q_newI X Y en23 (by decide) xw_79 (Nat.le_of_ble_eq_true rfl) (Nat.le_of_ble_eq_true rfl) dX11_init_75 (fun H Y => ?_)
  rw [ef24] at Y
  replace h := xb h
  obtain ⟨f25, ef25, h⟩ := h
  refine q_putF X Y hin fp_X11_29 rfl rfl ef25 dX11_init_77 (fun H locs Y => ?_)
  refine lv_aload_n hx hb dX11_init_80 rfl (lv_at hl 0 rfl) ?_
  refine lv_bipush (v := 41) hx hb dX11_init_81 (by decide) ?_
  replace h := xb h
  obtain ⟨n26, en26, h⟩ := h
  replace h := xb h
  obtain ⟨f27, ef27, h⟩ := h
  have ef27 := Option.some.inj ef27
  refine q_newI X Y en26 (by decide) xw_79 (Nat.le_of_ble_eq_true rfl) (Nat.le_of_ble_eq_true rfl) dX11_init_83 (fun H Y => ?_)
  rw [ef27] at Y
  replace h := xb h
  obtain ⟨f28, ef28, h⟩ := h
  refine q_putF X Y hin fp_X11_32 rfl rfl ef28 dX11_init_85 (fun H locs Y => ?_)
  refine lv_aload_n hx hb dX11_init_88 rfl (lv_at hl 0 rfl) ?_
  refine lv_bipush (v := 9) hx hb dX11_init_89 (by decide) ?_
  replace h := xb h
  obtain ⟨n29, en29, h⟩ := h
  replace h := xb h
  obtain ⟨f30, ef30, h⟩ := h
  have ef30 := Option.some.inj ef30
  refine q_newJ X Y en29 (by decide) xw_80 (Nat.le_of_ble_eq_true rfl) (Nat.le_of_ble_eq_true rfl) dX11_init_91 (fun H Y => ?_)
  rw [ef30] at Y
  replace h := xb h
  obtain ⟨f31, ef31, h⟩ := h
  refine q_putF X Y hin fp_X11_35 rfl rfl ef31 dX11_init_93 (fun H locs Y => ?_)
  refine lv_aload_n hx hb dX11_init_96 rfl (lv_at hl 0 rfl) ?_
  refine lv_bipush (v := 20) hx hb dX11_init_97 (by decide) ?_
  replace h := xb h
  obtain ⟨n32, en32, h⟩ := h
  replace h := xb h
  obtain ⟨f33, ef33, h⟩ := h
  have ef33 := Option.some.inj ef33
  refine q_newJ X Y en32 (by decide) xw_80 (Nat.le_of_ble_eq_true rfl) (Nat.le_of_ble_eq_true rfl) dX11_init_99 (fun H Y => ?_)
  rw [ef33] at Y
  replace h := xb h
  obtain ⟨f34, ef34, h⟩ := h
  refine q_putF X Y hin fp_X11_38 rfl rfl ef34 dX11_init_101 (fun H locs Y => ?_)
  refine lv_aload_n hx hb dX11_init_104 rfl (lv_at hl 0 rfl) ?_
  refine lv_bipush (v := 40) hx hb dX11_init_105 (by decide) ?_
  replace h := xb h
  obtain ⟨n35, en35, h⟩ := h
  replace h := xb h
  obtain ⟨f36, ef36, h⟩ := h
  have ef36 := Option.some.inj ef36
  refine q_newI X Y en35 (by decide) xw_79 (Nat.le_of_ble_eq_true rfl) (Nat.le_of_ble_eq_true rfl) dX11_init_107 (fun H Y => ?_)
  rw [ef36] at Y
  replace h := xb h
  obtain ⟨f37, ef37, h⟩ := h
  refine q_putF X Y hin fp_X11_41 rfl rfl ef37 dX11_init_109 (fun H locs Y => ?_)
  refine lv_aload_n hx hb dX11_init_112 rfl (lv_at hl 0 rfl) ?_
  refine lv_bipush (v := 40) hx hb dX11_init_113 (by decide) ?_
  replace h := xb h
  obtain ⟨n38, en38, h⟩ := h
  replace h := xb h
  obtain ⟨f39, ef39, h⟩ := h
  have ef39 := Option.some.inj ef39
  refine q_newI X Y en38 (by decide) xw_79 (Nat.le_of_ble_eq_true rfl) (Nat.le_of_ble_eq_true rfl) dX11_init_115 (fun H Y => ?_)
  rw [ef39] at Y
  replace h := xb h
  obtain ⟨f40, ef40, h⟩ := h
  refine q_putF X Y hin fp_X11_44 rfl rfl ef40 dX11_init_117 (fun H locs Y => ?_)
  refine lv_aload_n hx hb dX11_init_120 rfl (lv_at hl 0 rfl) ?_
  refine lv_bipush (v := 40) hx hb dX11_init_121 (by decide) ?_
  replace h := xb h
  obtain ⟨n41, en41, h⟩ := h
  replace h := xb h
  obtain ⟨f42, ef42, h⟩ := h
  have ef42 := Option.some.inj ef42
  refine q_newI X Y en41 (by decide) xw_79 (Nat.le_of_ble_eq_true rfl) (Nat.le_of_ble_eq_true rfl) dX11_init_123 (fun H Y => ?_)
  rw [ef42] at Y
  replace h := xb h
  obtain ⟨f43, ef43, h⟩ := h
  refine q_putF X Y hin fp_X11_47 rfl rfl ef43 dX11_init_125 (fun H locs Y => ?_)
  refine lv_aload_n hx hb dX11_init_128 rfl (lv_at hl 0 rfl) ?_
  refine lv_bipush (v := 40) hx hb dX11_init_129 (by decide) ?_
  replace h := xb h
  obtain ⟨n44, en44, h⟩ := h
  replace h := xb h
  obtain ⟨f45, ef45, h⟩ := h
  have ef45 := Option.some.inj ef45
  refine q_newI X Y en44 (by decide) xw_79 (Nat.le_of_ble_eq_true rfl) (Nat.le_of_ble_eq_true rfl) dX11_init_131 (fun H Y => ?_)
  rw [ef45] at Y
  replace h := xb h
  obtain ⟨f46, ef46, h⟩ := h
  refine q_putF X Y hin fp_X11_50 rfl rfl ef46 dX11_init_133 (fun H locs Y => ?_)
  refine lv_aload_n hx hb dX11_init_136 rfl (lv_at hl 0 rfl) ?_
  refine lv_sipush (v := 6400) hx hb dX11_init_137 (by decide) ?_
  replace h := xb h
  obtain ⟨n47, en47, h⟩ := h
  replace h := xb h
  obtain ⟨f48, ef48, h⟩ := h
  have ef48 := Option.some.inj ef48
  refine q_newJ X Y en47 (by decide) xw_80 (Nat.le_of_ble_eq_true rfl) (Nat.le_of_ble_eq_true rfl) dX11_init_140 (fun H Y => ?_)
  rw [ef48] at Y
  replace h := xb h
  obtain ⟨f49, ef49, h⟩ := h
  refine q_putF X Y hin fp_X11_53 rfl rfl ef49 dX11_init_142 (fun H locs Y => ?_)
  refine lv_aload_n hx hb dX11_init_145 rfl (lv_at hl 0 rfl) ?_
  refine lv_bipush (v := 24) hx hb dX11_init_146 (by decide) ?_
  replace h := xb h
  obtain ⟨n50, en50, h⟩ := h
  replace h := xb h
  obtain ⟨f51, ef51, h⟩ := h
  have ef51 := Option.some.inj ef51
  refine q_newJ X Y en50 (by decide) xw_80 (Nat.le_of_ble_eq_true rfl) (Nat.le_of_ble_eq_true rfl) dX11_init_148 (fun H Y => ?_)
  rw [ef51] at Y
  replace h := xb h
  obtain ⟨f52, ef52, h⟩ := h
  refine q_putF X Y hin fp_X11_56 rfl rfl ef52 dX11_init_150 (fun H locs Y => ?_)
  refine lv_aload_n hx hb dX11_init_153 rfl (lv_at hl 0 rfl) ?_
  refine lv_bipush (v := 24) hx hb dX11_init_154 (by decide) ?_
  replace h := xb h
  obtain ⟨n53, en53, h⟩ := h
  replace h := xb h
  obtain ⟨f54, ef54, h⟩ := h
  have ef54 := Option.some.inj ef54
  refine q_newJ X Y en53 (by decide) xw_80 (Nat.le_of_ble_eq_true rfl) (Nat.le_of_ble_eq_true rfl) dX11_init_156 (fun H Y => ?_)
  rw [ef54] at Y
  replace h := xb h
  obtain ⟨f55, ef55, h⟩ := h
  refine q_putF X Y hin fp_X11_59 rfl rfl ef55 dX11_init_158 (fun H locs Y => ?_)
  refine lv_aload_n hx hb dX11_init_161 rfl (lv_at hl 0 rfl) ?_
  refine lv_bipush (v := 24) hx hb dX11_init_162 (by decide) ?_
  replace h := xb h
  obtain ⟨n56, en56, h⟩ := h
  replace h := xb h
  obtain ⟨f57, ef57, h⟩ := h
  have ef57 := Option.some.inj ef57
  refine q_newJ X Y en56 (by decide) xw_80 (Nat.le_of_ble_eq_true rfl) (Nat.le_of_ble_eq_true rfl) dX11_init_164 (fun H Y => ?_)
  rw [ef57] at Y
  replace h := xb h
  obtain ⟨f58, ef58, h⟩ := h
  refine q_putF X Y hin fp_X11_62 rfl rfl ef58 dX11_init_166 (fun H locs Y => ?_)
  refine lv_aload_n hx hb dX11_init_169 rfl (lv_at hl 0 rfl) ?_
  refine lv_bipush (v := 24) hx hb dX11_init_170 (by decide) ?_
  replace h := xb h
  obtain ⟨n59, en59, h⟩ := h
  replace h := xb h
  obtain ⟨f60, ef60, h⟩ := h
  have ef60 := Option.some.inj ef60
  refine q_newJ X Y en59 (by decide) xw_80 (Nat.le_of_ble_eq_true rfl) (Nat.le_of_ble_eq_true rfl) dX11_init_172 (fun H Y => ?_)
  rw [ef60] at Y
  replace h := xb h
  obtain ⟨f61, ef61, h⟩ := h
  refine q_putF X Y hin fp_X11_65 rfl rfl ef61 dX11_init_174 (fun H locs Y => ?_)
  refine lv_aload_n hx hb dX11_init_177 rfl (lv_at hl 0 rfl) ?_
  refine lv_sipush (v := 164) hx hb dX11_init_178 (by decide) ?_
  replace h := xb h
  obtain ⟨n62, en62, h⟩ := h
  replace h := xb h
  obtain ⟨f63, ef63, h⟩ := h
  have ef63 := Option.some.inj ef63
  refine q_newI X Y en62 (by decide) xw_79 (Nat.le_of_ble_eq_true rfl) (Nat.le_of_ble_eq_true rfl) dX11_init_181 (fun H Y => ?_)
  rw [ef63] at Y
  replace h := xb h
  obtain ⟨f64, ef64, h⟩ := h
  refine q_putF X Y hin fp_X11_68 rfl rfl ef64 dX11_init_183 (fun H locs Y => ?_)
  refine lv_aload_n hx hb dX11_init_186 rfl (lv_at hl 0 rfl) ?_
  refine lv_bipush (v := 41) hx hb dX11_init_187 (by decide) ?_
  replace h := xb h
  obtain ⟨n65, en65, h⟩ := h
  replace h := xb h
  obtain ⟨f66, ef66, h⟩ := h
  have ef66 := Option.some.inj ef66
  refine q_newI X Y en65 (by decide) xw_79 (Nat.le_of_ble_eq_true rfl) (Nat.le_of_ble_eq_true rfl) dX11_init_189 (fun H Y => ?_)
  rw [ef66] at Y
  replace h := xb h
  obtain ⟨f67, ef67, h⟩ := h
  refine q_putF X Y hin fp_X11_71 rfl rfl ef67 dX11_init_191 (fun H locs Y => ?_)
  replace h := Option.some.inj h
  subst h
  exact q_retv X Y hr hlocks (Nat.le_of_ble_eq_true rfl) (Nat.le_of_ble_eq_true rfl) dX11_init_194
/-! NeverBelowModel.fails(I)I -/
abbrev rm_X11_fails : Room := { frames := 0, cells := 0, slots := 0, locals := 0 }
def F_X11_fails (f : xHp) (h0 : Nat) (p1 : Int32) : Option (Int32 × xHp) := Option.bind (hPut f h0 [(10, 0)] (.int p1)) fun f1 => some (((-10 : Int32) - p1), f1)
set_option maxRecDepth 100000 in
set_option maxHeartbeats 4000000 in
theorem c_X11_fails (l : Launch) (G : xG) (z : Nat) (f : xHp) (h0 : Nat) (p1 : Int32) (rs : Int32 × xHp) (h : F_X11_fails f h0 p1 = some rs) : xM G l yX11_fails cX11_fails 2 (some .int) rm_X11_fails [.ref h0, .int p1] z f (some (.int rs.1)) z rs.2 := by
  refine xM_of (by decide) (Nat.le_of_ble_eq_true rfl) ?_
  intro p e s m below meth c ls X hr hlocks hin Y hl
  have hl : lv_has ls 2 [(0, .ref h0), (1, .int p1)] := hl
  have hx := X.1.1
  have hb := X.1.2.1
  unfold F_X11_fails at h
  refine lv_aload_n hx hb dX11_fails_0 rfl (lv_at hl 0 rfl) ?_
  refine lv_iload_n hx hb dX11_fails_1 rfl (lv_at hl 1 rfl) ?_
  replace h := xb h
  obtain ⟨f1, ef1, h⟩ := h
  refine q_put X Y fp_X11_74 rfl rfl ef1 dX11_fails_2 (fun H locs Y => ?_)
  refine lv_bipush (v := -10) hx hb dX11_fails_5 (by decide) ?_
  refine lv_iload_n hx hb dX11_fails_7 rfl (lv_at hl 1 rfl) ?_
  refine lv_isub hx hb dX11_fails_8 ?_
  replace h := Option.some.inj h
  subst h
  exact q_reti X Y hr hlocks (Nat.le_of_ble_eq_true rfl) (Nat.le_of_ble_eq_true rfl) dX11_fails_9
/-! NeverBelowModel.within(JJJ)Z -/
abbrev rm_X11_within : Room := { frames := 0, cells := 0, slots := 0, locals := 0 }
def F_X11_within (f : xHp) (p0 : Int64) (p2 : Int64) (p4 : Int64) : Option (Int32) := if p0 < p2 then (some (0 : Int32)) else (if p4 < p0 then (some (0 : Int32)) else (some (1 : Int32)))
set_option maxRecDepth 100000 in
set_option maxHeartbeats 4000000 in
theorem c_X11_within (l : Launch) (G : xG) (z : Nat) (f : xHp) (p0 : Int64) (p2 : Int64) (p4 : Int64) (rs : Int32) (h : F_X11_within f p0 p2 p4 = some rs) : xM G l yX11_within cX11_within 6 (some .boolean) rm_X11_within [.long p0, .long p2, .long p4] z f (some (.int rs)) z f := by
  refine xM_of (by decide) (Nat.le_of_ble_eq_true rfl) ?_
  intro p e s m below meth c ls X hr hlocks hin Y hl
  have hl : lv_has ls 6 [(0, .long p0), (2, .long p2), (4, .long p4)] := hl
  have hx := X.1.1
  have hb := X.1.2.1
  unfold F_X11_within at h
  refine lv_lload_n hx hb dX11_within_0 rfl (lv_at hl 0 rfl) ?_
  refine lv_lload_n hx hb dX11_within_1 rfl (lv_at hl 1 rfl) ?_
  refine q_lcmp_lt (tgt := 17) hx hb dX11_within_2 dX11_within_3 (by decide) (fun c1 => ?_) (fun c1 => ?_)
  · replace h := Eq.trans (if_pos c1).symm h
    refine lv_iconst (v := 0) hx hb dX11_within_17 (by decide) ?_
    replace h := Option.some.inj h
    subst h
    exact q_retz (v := (0 : Int32)) X Y hr hlocks rfl (Nat.le_of_ble_eq_true rfl) (Nat.le_of_ble_eq_true rfl) dX11_within_18
  · replace h := Eq.trans (if_neg c1).symm h
    refine lv_lload_n hx hb dX11_within_6 rfl (lv_at hl 0 rfl) ?_
    refine lv_lload hx hb dX11_within_7 (lv_at hl 2 rfl) ?_
    refine q_lcmp_gt (tgt := 17) hx hb dX11_within_9 dX11_within_10 (by decide) (fun c2 => ?_) (fun c2 => ?_)
    · replace h := Eq.trans (if_pos c2).symm h
      refine lv_iconst (v := 0) hx hb dX11_within_17 (by decide) ?_
      replace h := Option.some.inj h
      subst h
      exact q_retz (v := (0 : Int32)) X Y hr hlocks rfl (Nat.le_of_ble_eq_true rfl) (Nat.le_of_ble_eq_true rfl) dX11_within_18
    · replace h := Eq.trans (if_neg c2).symm h
      refine lv_iconst (v := 1) hx hb dX11_within_13 (by decide) ?_
      refine lv_goto (tgt := 18) hx hb dX11_within_14 (by decide) ?_
      replace h := Option.some.inj h
      subst h
      exact q_retz (v := (1 : Int32)) X Y hr hlocks rfl (Nat.le_of_ble_eq_true rfl) (Nat.le_of_ble_eq_true rfl) dX11_within_18
/-! NeverBelowModel.sheet(III)I -/
abbrev rm_X11_sheet : Room := { frames := 1, cells := 0, slots := 0, locals := 25 }
def F_X11_sheet_67 (k67 : xHp → Nat → Int32 → Int32 → Option (Int32 × xHp)) (f : xHp) (a0 : Nat) (a1 : Int32) (a4 : Int32) : Option (Int32 × xHp) := if (30 : Int32) ≤ a4 then (some ((1 : Int32), f)) else (Option.bind (hN f a0 [(10, 4)]) fun v2 => Option.bind (hJst f v2 (((30 : Int32) * a1) + a4) (0 : Int64)) fun f3 => k67 f3 a0 a1 (a4 + 1))
def L_X11_sheet_67  : Nat → xHp → Nat → Int32 → Int32 → Option (Int32 × xHp)
  | 0, _, _, _, _ => none
  | n + 1, f, a0, a1, a4 => F_X11_sheet_67 (L_X11_sheet_67  n) f a0 a1 a4
def F_X11_sheet (f : xHp) (h0 : Nat) (p1 : Int32) (p2 : Int32) (p3 : Int32) : Option (Int32 × xHp) := Option.bind (hPut f h0 [(10, 0)] (.int (0 : Int32))) fun f1 => Option.bind (F_X11_within f1 p1.toInt64 (0 : Int64) (3 : Int64)) fun q2 => if q2 = 0 then (some ((-1 : Int32), f1)) else (Option.bind (F_X11_within f1 p2.toInt64 (0 : Int64) (2 : Int64)) fun q4 => if q4 = 0 then (some ((-2 : Int32), f1)) else (if p3 ≤ (30 : Int32) then (if 0 ≤ p3 then (Option.bind (hN f1 h0 [(10, 2)]) fun v8 => Option.bind (hIst f1 v8 p1 p2) fun f9 => Option.bind (hN f9 h0 [(10, 3)]) fun v10 => Option.bind (hIst f9 v10 p1 p3) fun f11 => L_X11_sheet_67 xfuel f11 h0 p1 (0 : Int32)) else (if hKd f1 h0 = some 10 then (Option.bind (F_X11_fails f1 h0 (4 : Int32)) fun q13 => some (q13.1, q13.2)) else none)) else (some ((-2 : Int32), f1))))
set_option maxRecDepth 100000 in
set_option maxHeartbeats 4000000 in
theorem w_X11_sheet_67 {p : Program} {l : Launch} {e : Env} {s : State} {m : MethodId} {args : Array Value} {below : List Frame} {meth : Method} {c : Code} {G : xG} {z : Nat} (X : xC G p m c s args RX11 cX11_sheet 5) (hr : meth.sig.returnType = (some .int)) (hlocks : meth.locks = false) (hin : meth.name = yX11_sheet.name) (rs : Int32 × xHp) (k67 : xHp → Nat → Int32 → Int32 → Option (Int32 × xHp)) (hk67 : ∀ (f : xHp) (a0 : Nat) (a1 : Int32) (a4 : Int32) (H : Heap) (locs : List Loc) (ls : Array Slot), k67 f a0 a1 a4 = some rs → xY G z f s H locs → lv_has ls 5 [(0, .ref a0), (1, .int a1), (4, .int a4)] → W p l e rm_X11_sheet s m args below meth c H locs 0 0 (MQ below (xQ G (some (.int rs.1)) z rs.2) args s rm_X11_sheet.cells rm_X11_sheet.slots (xA G)) (F0 m 67 ls [])) (f : xHp) (a0 : Nat) (a1 : Int32) (a4 : Int32) (H : Heap) (locs : List Loc) (ls : Array Slot) (h : F_X11_sheet_67 k67 f a0 a1 a4 = some rs) (Y : xY G z f s H locs) (hl : lv_has ls 5 [(0, .ref a0), (1, .int a1), (4, .int a4)]) : W p l e rm_X11_sheet s m args below meth c H locs 0 0 (MQ below (xQ G (some (.int rs.1)) z rs.2) args s rm_X11_sheet.cells rm_X11_sheet.slots (xA G)) (F0 m 67 ls []) := by
  have hx := X.1.1
  have hb := X.1.2.1
  unfold F_X11_sheet_67 at h
  refine lv_iload hx hb dX11_sheet_67 (lv_at hl 2 rfl) ?_
  refine lv_bipush (v := 30) hx hb dX11_sheet_69 (by decide) ?_
  refine lv_icmp_ge (tgt := 93) hx hb dX11_sheet_71 (by decide) (fun c1 => ?_) (fun c1 => ?_)
  · replace h := Eq.trans (if_pos c1).symm h
    refine lv_iconst (v := 1) hx hb dX11_sheet_93 (by decide) ?_
    replace h := Option.some.inj h
    subst h
    exact q_reti X Y hr hlocks (Nat.le_of_ble_eq_true rfl) (Nat.le_of_ble_eq_true rfl) dX11_sheet_94
  · replace h := Eq.trans (if_neg c1).symm h
    refine lv_aload_n hx hb dX11_sheet_74 rfl (lv_at hl 0 rfl) ?_
    replace h := xb h
    obtain ⟨v2, ev2, h⟩ := h
    refine q_getN X Y fl_X11_16 ev2 dX11_sheet_75 ?_
    refine lv_bipush (v := 30) hx hb dX11_sheet_78 (by decide) ?_
    refine lv_iload_n hx hb dX11_sheet_80 rfl (lv_at hl 1 rfl) ?_
    refine lv_imul hx hb dX11_sheet_81 ?_
    refine lv_iload hx hb dX11_sheet_82 (lv_at hl 2 rfl) ?_
    refine lv_iadd hx hb dX11_sheet_84 ?_
    refine lv_lconst (v := 0) hx hb dX11_sheet_85 (by decide) ?_
    replace h := xb h
    obtain ⟨f3, ef3, h⟩ := h
    refine q_last X Y ef3 dX11_sheet_86 (fun H locs Y => ?_)
    refine lv_iinc (v := (a4 + 1)) (lv' := [(4, .int (a4 + 1)), (0, .ref a0), (1, .int a1)]) hx hb dX11_sheet_87 hl (k := 2) rfl rfl (by decide) rfl (fun ls hl => ?_)
    refine lv_goto (tgt := 67) hx hb dX11_sheet_90 (by decide) ?_
    refine W.widen (k := 0) (n := 0) (Nat.le_of_ble_eq_true rfl) (Nat.le_of_ble_eq_true rfl) ?_
    exact hk67 f3 a0 a1 (a4 + 1) _ _ _ h Y (lv_sub hl [1, 2, 0] rfl)
set_option maxRecDepth 100000 in
set_option maxHeartbeats 4000000 in
theorem lw_X11_sheet_67 {p : Program} {l : Launch} {e : Env} {s : State} {m : MethodId} {args : Array Value} {below : List Frame} {meth : Method} {c : Code} {G : xG} {z : Nat} (X : xC G p m c s args RX11 cX11_sheet 5) (hr : meth.sig.returnType = (some .int)) (hlocks : meth.locks = false) (hin : meth.name = yX11_sheet.name) (rs : Int32 × xHp)  : ∀ (n : Nat) (f : xHp) (a0 : Nat) (a1 : Int32) (a4 : Int32) (H : Heap) (locs : List Loc) (ls : Array Slot), L_X11_sheet_67  n f a0 a1 a4 = some rs → xY G z f s H locs → lv_has ls 5 [(0, .ref a0), (1, .int a1), (4, .int a4)] → W p l e rm_X11_sheet s m args below meth c H locs 0 0 (MQ below (xQ G (some (.int rs.1)) z rs.2) args s rm_X11_sheet.cells rm_X11_sheet.slots (xA G)) (F0 m 67 ls []) := by
  intro n
  induction n with
  | zero => intro f a0 a1 a4 H locs ls h Y hl; cases h
  | succ n ih => intro f a0 a1 a4 H locs ls h Y hl; exact w_X11_sheet_67 X hr hlocks hin rs _ ih f a0 a1 a4 _ _ _ h Y hl
set_option maxRecDepth 100000 in
set_option maxHeartbeats 4000000 in
theorem c_X11_sheet (l : Launch) (G : xG) (z : Nat) (f : xHp) (h0 : Nat) (p1 : Int32) (p2 : Int32) (p3 : Int32) (rs : Int32 × xHp) (h : F_X11_sheet f h0 p1 p2 p3 = some rs) : xM G l yX11_sheet cX11_sheet 5 (some .int) rm_X11_sheet [.ref h0, .int p1, .int p2, .int p3] z f (some (.int rs.1)) z rs.2 := by
  refine xM_of (by decide) (Nat.le_of_ble_eq_true rfl) ?_
  intro p e s m below meth c ls X hr hlocks hin Y hl
  have hl : lv_has ls 5 [(0, .ref h0), (1, .int p1), (2, .int p2), (3, .int p3)] := hl
  have hx := X.1.1
  have hb := X.1.2.1
  unfold F_X11_sheet at h
  refine lv_aload_n hx hb dX11_sheet_0 rfl (lv_at hl 0 rfl) ?_
  refine lv_iconst (v := 0) hx hb dX11_sheet_1 (by decide) ?_
  replace h := xb h
  obtain ⟨f1, ef1, h⟩ := h
  refine q_put X Y fp_X11_74 rfl rfl ef1 dX11_sheet_2 (fun H locs Y => ?_)
  refine lv_iload_n hx hb dX11_sheet_5 rfl (lv_at hl 1 rfl) ?_
  refine lv_i2l hx hb dX11_sheet_6 rfl ?_
  refine lv_lconst (v := 0) hx hb dX11_sheet_7 (by decide) ?_
  refine lv_ldc2 (v := 3) hx hb X.1.2.2.2.1 (X.1.2.2.2.2 _ xw_919) dX11_sheet_8 ?_
  replace h := xb h
  obtain ⟨q2, eq2, h⟩ := h
  refine q_callS X Y hl.1 (rest := []) (As := [.long p1.toInt64, .long (0 : Int64), .long (3 : Int64)]) (c_X11_within l G z f1 p1.toInt64 (0 : Int64) (3 : Int64) _ eq2) cd_X11_within ls_X11_82 ⟨(Nat.le_of_ble_eq_true rfl), (Nat.le_of_ble_eq_true rfl)⟩ ⟨(Nat.le_of_ble_eq_true rfl), (Nat.le_of_ble_eq_true rfl)⟩ rfl rfl (Nat.le_of_ble_eq_true rfl) dX11_sheet_11 (fun H locs Y => ?_)
  refine W.eq (g2 := F0 m 14 ls [.int q2]) rfl ?_
  refine lv_if_ne (tgt := 19) hx hb dX11_sheet_14 (by decide) (fun c3 => ?_) (fun c3 => ?_)
  · replace h := Eq.trans (if_neg c3).symm h
    refine lv_iload_n hx hb dX11_sheet_19 rfl (lv_at hl 2 rfl) ?_
    refine lv_i2l hx hb dX11_sheet_20 rfl ?_
    refine lv_lconst (v := 0) hx hb dX11_sheet_21 (by decide) ?_
    refine lv_ldc2 (v := 2) hx hb X.1.2.2.2.1 (X.1.2.2.2.2 _ xw_923) dX11_sheet_22 ?_
    replace h := xb h
    obtain ⟨q4, eq4, h⟩ := h
    refine q_callS X Y hl.1 (rest := []) (As := [.long p2.toInt64, .long (0 : Int64), .long (2 : Int64)]) (c_X11_within l G z f1 p2.toInt64 (0 : Int64) (2 : Int64) _ eq4) cd_X11_within ls_X11_82 ⟨(Nat.le_of_ble_eq_true rfl), (Nat.le_of_ble_eq_true rfl)⟩ ⟨(Nat.le_of_ble_eq_true rfl), (Nat.le_of_ble_eq_true rfl)⟩ rfl rfl (Nat.le_of_ble_eq_true rfl) dX11_sheet_25 (fun H locs Y => ?_)
    refine W.eq (g2 := F0 m 28 ls [.int q4]) rfl ?_
    refine lv_if_eq (tgt := 37) hx hb dX11_sheet_28 (by decide) (fun c5 => ?_) (fun c5 => ?_)
    · replace h := Eq.trans (if_pos c5).symm h
      refine lv_bipush (v := -2) hx hb dX11_sheet_37 (by decide) ?_
      replace h := Option.some.inj h
      subst h
      exact q_reti X Y hr hlocks (Nat.le_of_ble_eq_true rfl) (Nat.le_of_ble_eq_true rfl) dX11_sheet_39
    · replace h := Eq.trans (if_neg c5).symm h
      refine lv_iload_n hx hb dX11_sheet_31 rfl (lv_at hl 3 rfl) ?_
      refine lv_bipush (v := 30) hx hb dX11_sheet_32 (by decide) ?_
      refine lv_icmp_le (tgt := 40) hx hb dX11_sheet_34 (by decide) (fun c6 => ?_) (fun c6 => ?_)
      · replace h := Eq.trans (if_pos c6).symm h
        refine lv_iload_n hx hb dX11_sheet_40 rfl (lv_at hl 3 rfl) ?_
        refine lv_if_ge (tgt := 50) hx hb dX11_sheet_41 (by decide) (fun c7 => ?_) (fun c7 => ?_)
        · replace h := Eq.trans (if_pos c7).symm h
          refine lv_aload_n hx hb dX11_sheet_50 rfl (lv_at hl 0 rfl) ?_
          replace h := xb h
          obtain ⟨v8, ev8, h⟩ := h
          refine q_getN X Y fl_X11_9 ev8 dX11_sheet_51 ?_
          refine lv_iload_n hx hb dX11_sheet_54 rfl (lv_at hl 1 rfl) ?_
          refine lv_iload_n hx hb dX11_sheet_55 rfl (lv_at hl 2 rfl) ?_
          replace h := xb h
          obtain ⟨f9, ef9, h⟩ := h
          refine q_iast X Y ef9 dX11_sheet_56 (fun H locs Y => ?_)
          refine lv_aload_n hx hb dX11_sheet_57 rfl (lv_at hl 0 rfl) ?_
          replace h := xb h
          obtain ⟨v10, ev10, h⟩ := h
          refine q_getN X Y fl_X11_13 ev10 dX11_sheet_58 ?_
          refine lv_iload_n hx hb dX11_sheet_61 rfl (lv_at hl 1 rfl) ?_
          refine lv_iload_n hx hb dX11_sheet_62 rfl (lv_at hl 3 rfl) ?_
          replace h := xb h
          obtain ⟨f11, ef11, h⟩ := h
          refine q_iast X Y ef11 dX11_sheet_63 (fun H locs Y => ?_)
          refine lv_iconst (v := 0) hx hb dX11_sheet_64 (by decide) ?_
          refine lv_istore (lv' := [(4, .int (0 : Int32)), (0, .ref h0), (1, .int p1), (2, .int p2), (3, .int p3)]) hx hb dX11_sheet_65 hl (by decide) rfl (fun ls hl => ?_)
          refine W.widen (k := 0) (n := 0) (Nat.le_of_ble_eq_true rfl) (Nat.le_of_ble_eq_true rfl) ?_
          exact lw_X11_sheet_67 X hr hlocks hin rs  xfuel f11 h0 p1 (0 : Int32) _ _ _ h Y (lv_sub hl [1, 2, 0] rfl)
        · replace h := Eq.trans (if_neg c7).symm h
          refine lv_aload_n hx hb dX11_sheet_44 rfl (lv_at hl 0 rfl) ?_
          refine lv_iconst (v := 4) hx hb dX11_sheet_45 (by decide) ?_
          by_cases c12 : hKd f1 h0 = some 10
          · replace h := Eq.trans (if_pos c12).symm h
            replace h := xb h
            obtain ⟨q13, eq13, h⟩ := h
            refine q_callV X Y hl.1 (rest := []) (As := [.int (4 : Int32)]) (c_X11_fails l G z f1 h0 (4 : Int32) _ eq13) cd_X11_fails lv_X11_88_10 c12 ⟨(Nat.le_of_ble_eq_true rfl), (Nat.le_of_ble_eq_true rfl)⟩ ⟨(Nat.le_of_ble_eq_true rfl), (Nat.le_of_ble_eq_true rfl)⟩ rfl rfl (Nat.le_of_ble_eq_true rfl) dX11_sheet_46 (fun H locs Y => ?_)
            refine W.eq (g2 := F0 m 49 ls [.int q13.1]) rfl ?_
            replace h := Option.some.inj h
            subst h
            exact q_reti X Y hr hlocks (Nat.le_of_ble_eq_true rfl) (Nat.le_of_ble_eq_true rfl) dX11_sheet_49
          replace h := Eq.trans (if_neg c12).symm h
          cases h
      · replace h := Eq.trans (if_neg c6).symm h
        refine lv_bipush (v := -2) hx hb dX11_sheet_37 (by decide) ?_
        replace h := Option.some.inj h
        subst h
        exact q_reti X Y hr hlocks (Nat.le_of_ble_eq_true rfl) (Nat.le_of_ble_eq_true rfl) dX11_sheet_39
  · replace h := Eq.trans (if_pos c3).symm h
    refine lv_iconst (v := -1) hx hb dX11_sheet_17 (by decide) ?_
    replace h := Option.some.inj h
    subst h
    exact q_reti X Y hr hlocks (Nat.le_of_ble_eq_true rfl) (Nat.le_of_ble_eq_true rfl) dX11_sheet_18
/-! NeverBelowModel.lose(I)I -/
abbrev rm_X11_lose : Room := { frames := 1, cells := 0, slots := 0, locals := 25 }
def F_X11_lose_30  (f : xHp) (a0 : Nat) (a1 : Int32) (s0 : Int32) : Option (Int32 × xHp) := Option.bind (hN f a0 [(10, 2)]) fun v1 => Option.bind (hIst f v1 a1 (-9 : Int32)) fun f2 => some (s0, f2)
def F_X11_lose (f : xHp) (h0 : Nat) (p1 : Int32) : Option (Int32 × xHp) := Option.bind (F_X11_within f p1.toInt64 (0 : Int64) (3 : Int64)) fun q1 => if q1 = 0 then (some ((-1 : Int32), f)) else (Option.bind (hN f h0 [(10, 2)]) fun v3 => Option.bind (hIld f v3 p1) fun v4 => if v4 = (-9 : Int32) then (F_X11_lose_30 f h0 p1 (0 : Int32)) else (F_X11_lose_30 f h0 p1 (1 : Int32)))
set_option maxRecDepth 100000 in
set_option maxHeartbeats 4000000 in
theorem w_X11_lose_30 {p : Program} {l : Launch} {e : Env} {s : State} {m : MethodId} {args : Array Value} {below : List Frame} {meth : Method} {c : Code} {G : xG} {z : Nat} (X : xC G p m c s args RX11 cX11_lose 3) (hr : meth.sig.returnType = (some .int)) (hlocks : meth.locks = false) (hin : meth.name = yX11_lose.name) (rs : Int32 × xHp)  (f : xHp) (a0 : Nat) (a1 : Int32) (s0 : Int32) (H : Heap) (locs : List Loc) (ls : Array Slot) (h : F_X11_lose_30  f a0 a1 s0 = some rs) (Y : xY G z f s H locs) (hl : lv_has ls 3 [(0, .ref a0), (1, .int a1)]) : W p l e rm_X11_lose s m args below meth c H locs 0 0 (MQ below (xQ G (some (.int rs.1)) z rs.2) args s rm_X11_lose.cells rm_X11_lose.slots (xA G)) (F0 m 30 ls [.int s0]) := by
  have hx := X.1.1
  have hb := X.1.2.1
  unfold F_X11_lose_30 at h
  refine lv_istore_n (lv' := [(2, .int s0), (0, .ref a0), (1, .int a1)]) hx hb dX11_lose_30 rfl hl (by decide) rfl (fun ls hl => ?_)
  refine lv_aload_n hx hb dX11_lose_31 rfl (lv_at hl 1 rfl) ?_
  replace h := xb h
  obtain ⟨v1, ev1, h⟩ := h
  refine q_getN X Y fl_X11_9 ev1 dX11_lose_32 ?_
  refine lv_iload_n hx hb dX11_lose_35 rfl (lv_at hl 2 rfl) ?_
  refine lv_bipush (v := -9) hx hb dX11_lose_36 (by decide) ?_
  replace h := xb h
  obtain ⟨f2, ef2, h⟩ := h
  refine q_iast X Y ef2 dX11_lose_38 (fun H locs Y => ?_)
  refine lv_iload_n hx hb dX11_lose_39 rfl (lv_at hl 0 rfl) ?_
  replace h := Option.some.inj h
  subst h
  exact q_reti X Y hr hlocks (Nat.le_of_ble_eq_true rfl) (Nat.le_of_ble_eq_true rfl) dX11_lose_40
set_option maxRecDepth 100000 in
set_option maxHeartbeats 4000000 in
theorem c_X11_lose (l : Launch) (G : xG) (z : Nat) (f : xHp) (h0 : Nat) (p1 : Int32) (rs : Int32 × xHp) (h : F_X11_lose f h0 p1 = some rs) : xM G l yX11_lose cX11_lose 3 (some .int) rm_X11_lose [.ref h0, .int p1] z f (some (.int rs.1)) z rs.2 := by
  refine xM_of (by decide) (Nat.le_of_ble_eq_true rfl) ?_
  intro p e s m below meth c ls X hr hlocks hin Y hl
  have hl : lv_has ls 3 [(0, .ref h0), (1, .int p1)] := hl
  have hx := X.1.1
  have hb := X.1.2.1
  unfold F_X11_lose at h
  refine lv_iload_n hx hb dX11_lose_0 rfl (lv_at hl 1 rfl) ?_
  refine lv_i2l hx hb dX11_lose_1 rfl ?_
  refine lv_lconst (v := 0) hx hb dX11_lose_2 (by decide) ?_
  refine lv_ldc2 (v := 3) hx hb X.1.2.2.2.1 (X.1.2.2.2.2 _ xw_919) dX11_lose_3 ?_
  replace h := xb h
  obtain ⟨q1, eq1, h⟩ := h
  refine q_callS X Y hl.1 (rest := []) (As := [.long p1.toInt64, .long (0 : Int64), .long (3 : Int64)]) (c_X11_within l G z f p1.toInt64 (0 : Int64) (3 : Int64) _ eq1) cd_X11_within ls_X11_82 ⟨(Nat.le_of_ble_eq_true rfl), (Nat.le_of_ble_eq_true rfl)⟩ ⟨(Nat.le_of_ble_eq_true rfl), (Nat.le_of_ble_eq_true rfl)⟩ rfl rfl (Nat.le_of_ble_eq_true rfl) dX11_lose_6 (fun H locs Y => ?_)
  refine W.eq (g2 := F0 m 9 ls [.int q1]) rfl ?_
  refine lv_if_ne (tgt := 14) hx hb dX11_lose_9 (by decide) (fun c2 => ?_) (fun c2 => ?_)
  · replace h := Eq.trans (if_neg c2).symm h
    refine lv_aload_n hx hb dX11_lose_14 rfl (lv_at hl 0 rfl) ?_
    replace h := xb h
    obtain ⟨v3, ev3, h⟩ := h
    refine q_getN X Y fl_X11_9 ev3 dX11_lose_15 ?_
    refine lv_iload_n hx hb dX11_lose_18 rfl (lv_at hl 1 rfl) ?_
    replace h := xb h
    obtain ⟨v4, ev4, h⟩ := h
    refine q_iald X Y ev4 dX11_lose_19 ?_
    refine lv_bipush (v := -9) hx hb dX11_lose_20 (by decide) ?_
    refine lv_icmp_ne (tgt := 29) hx hb dX11_lose_22 (by decide) (fun c5 => ?_) (fun c5 => ?_)
    · replace h := Eq.trans (if_neg c5).symm h
      refine lv_iconst (v := 1) hx hb dX11_lose_29 (by decide) ?_
      refine W.widen (k := 0) (n := 0) (Nat.le_of_ble_eq_true rfl) (Nat.le_of_ble_eq_true rfl) ?_
      exact w_X11_lose_30 X hr hlocks hin rs   f h0 p1 (1 : Int32) _ _ _ h Y (lv_sub hl [0, 1] rfl)
    · replace h := Eq.trans (if_pos c5).symm h
      refine lv_iconst (v := 0) hx hb dX11_lose_25 (by decide) ?_
      refine lv_goto (tgt := 30) hx hb dX11_lose_26 (by decide) ?_
      refine W.widen (k := 0) (n := 0) (Nat.le_of_ble_eq_true rfl) (Nat.le_of_ble_eq_true rfl) ?_
      exact w_X11_lose_30 X hr hlocks hin rs   f h0 p1 (0 : Int32) _ _ _ h Y (lv_sub hl [0, 1] rfl)
  · replace h := Eq.trans (if_pos c2).symm h
    refine lv_iconst (v := -1) hx hb dX11_lose_12 (by decide) ?_
    replace h := Option.some.inj h
    subst h
    exact q_reti X Y hr hlocks (Nat.le_of_ble_eq_true rfl) (Nat.le_of_ble_eq_true rfl) dX11_lose_13
/-! NeverBelowModel.put(IIJ)I -/
abbrev rm_X11_put : Room := { frames := 1, cells := 0, slots := 0, locals := 25 }
def F_X11_put_103  (f : xHp) (s0 : Int64) (s1 : Int32) (s2 : Nat) : Option (Int32 × xHp) := Option.bind (hJst f s2 s1 s0) fun f1 => some ((1 : Int32), f1)
def F_X11_put (f : xHp) (h0 : Nat) (p1 : Int32) (p2 : Int32) (p3 : Int64) : Option (Int32 × xHp) := Option.bind (hPut f h0 [(10, 0)] (.int (0 : Int32))) fun f1 => Option.bind (F_X11_within f1 p1.toInt64 (0 : Int64) (3 : Int64)) fun q2 => if q2 = 0 then (some ((-1 : Int32), f1)) else (Option.bind (hN f1 h0 [(10, 2)]) fun v4 => Option.bind (hIld f1 v4 p1) fun v5 => if v5 = (-9 : Int32) then (if hKd f1 h0 = some 10 then (Option.bind (F_X11_fails f1 h0 (1 : Int32)) fun q21 => some (q21.1, q21.2)) else none) else (Option.bind (hN f1 h0 [(10, 3)]) fun v7 => Option.bind (hIld f1 v7 p1) fun v8 => Option.bind (F_X11_within f1 p2.toInt64 (0 : Int64) (v8.toInt64 - (1 : Int64))) fun q9 => if q9 = 0 then (if hKd f1 h0 = some 10 then (Option.bind (F_X11_fails f1 h0 (3 : Int32)) fun q19 => some (q19.1, q19.2)) else none) else (Option.bind (hN f1 h0 [(10, 4)]) fun v11 => Option.bind (hN f1 h0 [(10, 2)]) fun v12 => Option.bind (hIld f1 v12 p1) fun v13 => if v13 = 0 then (F_X11_put_103 f1 (p3.toInt32).toInt8.toInt32.toInt64 (((30 : Int32) * p1) + p2) v11) else (Option.bind (hN f1 h0 [(10, 2)]) fun v15 => Option.bind (hIld f1 v15 p1) fun v16 => if v16 = (1 : Int32) then (F_X11_put_103 f1 (p3.toInt32).toInt64 (((30 : Int32) * p1) + p2) v11) else (F_X11_put_103 f1 p3 (((30 : Int32) * p1) + p2) v11)))))
set_option maxRecDepth 100000 in
set_option maxHeartbeats 4000000 in
theorem w_X11_put_103 {p : Program} {l : Launch} {e : Env} {s : State} {m : MethodId} {args : Array Value} {below : List Frame} {meth : Method} {c : Code} {G : xG} {z : Nat} (X : xC G p m c s args RX11 cX11_put 5) (hr : meth.sig.returnType = (some .int)) (hlocks : meth.locks = false) (hin : meth.name = yX11_put.name) (rs : Int32 × xHp)  (f : xHp) (s0 : Int64) (s1 : Int32) (s2 : Nat) (H : Heap) (locs : List Loc) (ls : Array Slot) (h : F_X11_put_103  f s0 s1 s2 = some rs) (Y : xY G z f s H locs) (hl : lv_has ls 5 []) : W p l e rm_X11_put s m args below meth c H locs 0 0 (MQ below (xQ G (some (.int rs.1)) z rs.2) args s rm_X11_put.cells rm_X11_put.slots (xA G)) (F0 m 103 ls [.long s0, .int s1, .ref s2]) := by
  have hx := X.1.1
  have hb := X.1.2.1
  unfold F_X11_put_103 at h
  replace h := xb h
  obtain ⟨f1, ef1, h⟩ := h
  refine q_last X Y ef1 dX11_put_103 (fun H locs Y => ?_)
  refine lv_iconst (v := 1) hx hb dX11_put_104 (by decide) ?_
  replace h := Option.some.inj h
  subst h
  exact q_reti X Y hr hlocks (Nat.le_of_ble_eq_true rfl) (Nat.le_of_ble_eq_true rfl) dX11_put_105
set_option maxRecDepth 100000 in
set_option maxHeartbeats 4000000 in
theorem c_X11_put (l : Launch) (G : xG) (z : Nat) (f : xHp) (h0 : Nat) (p1 : Int32) (p2 : Int32) (p3 : Int64) (rs : Int32 × xHp) (h : F_X11_put f h0 p1 p2 p3 = some rs) : xM G l yX11_put cX11_put 5 (some .int) rm_X11_put [.ref h0, .int p1, .int p2, .long p3] z f (some (.int rs.1)) z rs.2 := by
  refine xM_of (by decide) (Nat.le_of_ble_eq_true rfl) ?_
  intro p e s m below meth c ls X hr hlocks hin Y hl
  have hl : lv_has ls 5 [(0, .ref h0), (1, .int p1), (2, .int p2), (3, .long p3)] := hl
  have hx := X.1.1
  have hb := X.1.2.1
  unfold F_X11_put at h
  refine lv_aload_n hx hb dX11_put_0 rfl (lv_at hl 0 rfl) ?_
  refine lv_iconst (v := 0) hx hb dX11_put_1 (by decide) ?_
  replace h := xb h
  obtain ⟨f1, ef1, h⟩ := h
  refine q_put X Y fp_X11_74 rfl rfl ef1 dX11_put_2 (fun H locs Y => ?_)
  refine lv_iload_n hx hb dX11_put_5 rfl (lv_at hl 1 rfl) ?_
  refine lv_i2l hx hb dX11_put_6 rfl ?_
  refine lv_lconst (v := 0) hx hb dX11_put_7 (by decide) ?_
  refine lv_ldc2 (v := 3) hx hb X.1.2.2.2.1 (X.1.2.2.2.2 _ xw_919) dX11_put_8 ?_
  replace h := xb h
  obtain ⟨q2, eq2, h⟩ := h
  refine q_callS X Y hl.1 (rest := []) (As := [.long p1.toInt64, .long (0 : Int64), .long (3 : Int64)]) (c_X11_within l G z f1 p1.toInt64 (0 : Int64) (3 : Int64) _ eq2) cd_X11_within ls_X11_82 ⟨(Nat.le_of_ble_eq_true rfl), (Nat.le_of_ble_eq_true rfl)⟩ ⟨(Nat.le_of_ble_eq_true rfl), (Nat.le_of_ble_eq_true rfl)⟩ rfl rfl (Nat.le_of_ble_eq_true rfl) dX11_put_11 (fun H locs Y => ?_)
  refine W.eq (g2 := F0 m 14 ls [.int q2]) rfl ?_
  refine lv_if_ne (tgt := 19) hx hb dX11_put_14 (by decide) (fun c3 => ?_) (fun c3 => ?_)
  · replace h := Eq.trans (if_neg c3).symm h
    refine lv_aload_n hx hb dX11_put_19 rfl (lv_at hl 0 rfl) ?_
    replace h := xb h
    obtain ⟨v4, ev4, h⟩ := h
    refine q_getN X Y fl_X11_9 ev4 dX11_put_20 ?_
    refine lv_iload_n hx hb dX11_put_23 rfl (lv_at hl 1 rfl) ?_
    replace h := xb h
    obtain ⟨v5, ev5, h⟩ := h
    refine q_iald X Y ev5 dX11_put_24 ?_
    refine lv_bipush (v := -9) hx hb dX11_put_25 (by decide) ?_
    refine lv_icmp_ne (tgt := 36) hx hb dX11_put_27 (by decide) (fun c6 => ?_) (fun c6 => ?_)
    · replace h := Eq.trans (if_neg c6).symm h
      refine lv_iload_n hx hb dX11_put_36 rfl (lv_at hl 2 rfl) ?_
      refine lv_i2l hx hb dX11_put_37 rfl ?_
      refine lv_lconst (v := 0) hx hb dX11_put_38 (by decide) ?_
      refine lv_aload_n hx hb dX11_put_39 rfl (lv_at hl 0 rfl) ?_
      replace h := xb h
      obtain ⟨v7, ev7, h⟩ := h
      refine q_getN X Y fl_X11_13 ev7 dX11_put_40 ?_
      refine lv_iload_n hx hb dX11_put_43 rfl (lv_at hl 1 rfl) ?_
      replace h := xb h
      obtain ⟨v8, ev8, h⟩ := h
      refine q_iald X Y ev8 dX11_put_44 ?_
      refine lv_i2l hx hb dX11_put_45 rfl ?_
      refine lv_lconst (v := 1) hx hb dX11_put_46 (by decide) ?_
      refine lv_lsub hx hb dX11_put_47 ?_
      replace h := xb h
      obtain ⟨q9, eq9, h⟩ := h
      refine q_callS X Y hl.1 (rest := []) (As := [.long p2.toInt64, .long (0 : Int64), .long (v8.toInt64 - (1 : Int64))]) (c_X11_within l G z f1 p2.toInt64 (0 : Int64) (v8.toInt64 - (1 : Int64)) _ eq9) cd_X11_within ls_X11_82 ⟨(Nat.le_of_ble_eq_true rfl), (Nat.le_of_ble_eq_true rfl)⟩ ⟨(Nat.le_of_ble_eq_true rfl), (Nat.le_of_ble_eq_true rfl)⟩ rfl rfl (Nat.le_of_ble_eq_true rfl) dX11_put_48 (fun H locs Y => ?_)
      refine W.eq (g2 := F0 m 51 ls [.int q9]) rfl ?_
      refine lv_if_ne (tgt := 60) hx hb dX11_put_51 (by decide) (fun c10 => ?_) (fun c10 => ?_)
      · replace h := Eq.trans (if_neg c10).symm h
        refine lv_aload_n hx hb dX11_put_60 rfl (lv_at hl 0 rfl) ?_
        replace h := xb h
        obtain ⟨v11, ev11, h⟩ := h
        refine q_getN X Y fl_X11_16 ev11 dX11_put_61 ?_
        refine lv_bipush (v := 30) hx hb dX11_put_64 (by decide) ?_
        refine lv_iload_n hx hb dX11_put_66 rfl (lv_at hl 1 rfl) ?_
        refine lv_imul hx hb dX11_put_67 ?_
        refine lv_iload_n hx hb dX11_put_68 rfl (lv_at hl 2 rfl) ?_
        refine lv_iadd hx hb dX11_put_69 ?_
        refine lv_aload_n hx hb dX11_put_70 rfl (lv_at hl 0 rfl) ?_
        replace h := xb h
        obtain ⟨v12, ev12, h⟩ := h
        refine q_getN X Y fl_X11_9 ev12 dX11_put_71 ?_
        refine lv_iload_n hx hb dX11_put_74 rfl (lv_at hl 1 rfl) ?_
        replace h := xb h
        obtain ⟨v13, ev13, h⟩ := h
        refine q_iald X Y ev13 dX11_put_75 ?_
        refine lv_if_ne (tgt := 86) hx hb dX11_put_76 (by decide) (fun c14 => ?_) (fun c14 => ?_)
        · replace h := Eq.trans (if_neg c14).symm h
          refine lv_aload_n hx hb dX11_put_86 rfl (lv_at hl 0 rfl) ?_
          replace h := xb h
          obtain ⟨v15, ev15, h⟩ := h
          refine q_getN X Y fl_X11_9 ev15 dX11_put_87 ?_
          refine lv_iload_n hx hb dX11_put_90 rfl (lv_at hl 1 rfl) ?_
          replace h := xb h
          obtain ⟨v16, ev16, h⟩ := h
          refine q_iald X Y ev16 dX11_put_91 ?_
          refine lv_iconst (v := 1) hx hb dX11_put_92 (by decide) ?_
          refine lv_icmp_ne (tgt := 102) hx hb dX11_put_93 (by decide) (fun c17 => ?_) (fun c17 => ?_)
          · replace h := Eq.trans (if_neg c17).symm h
            refine lv_lload_n hx hb dX11_put_102 rfl (lv_at hl 3 rfl) ?_
            refine W.widen (k := 0) (n := 0) (Nat.le_of_ble_eq_true rfl) (Nat.le_of_ble_eq_true rfl) ?_
            exact w_X11_put_103 X hr hlocks hin rs   f1 p3 (((30 : Int32) * p1) + p2) v11 _ _ _ h Y (lv_sub hl [] rfl)
          · replace h := Eq.trans (if_pos c17).symm h
            refine lv_lload_n hx hb dX11_put_96 rfl (lv_at hl 3 rfl) ?_
            refine lv_l2i hx hb dX11_put_97 rfl ?_
            refine lv_i2l hx hb dX11_put_98 rfl ?_
            refine lv_goto (tgt := 103) hx hb dX11_put_99 (by decide) ?_
            refine W.widen (k := 0) (n := 0) (Nat.le_of_ble_eq_true rfl) (Nat.le_of_ble_eq_true rfl) ?_
            exact w_X11_put_103 X hr hlocks hin rs   f1 (p3.toInt32).toInt64 (((30 : Int32) * p1) + p2) v11 _ _ _ h Y (lv_sub hl [] rfl)
        · replace h := Eq.trans (if_pos c14).symm h
          refine lv_lload_n hx hb dX11_put_79 rfl (lv_at hl 3 rfl) ?_
          refine lv_l2i hx hb dX11_put_80 rfl ?_
          refine lv_i2b hx hb dX11_put_81 rfl ?_
          refine lv_i2l hx hb dX11_put_82 rfl ?_
          refine lv_goto (tgt := 103) hx hb dX11_put_83 (by decide) ?_
          refine W.widen (k := 0) (n := 0) (Nat.le_of_ble_eq_true rfl) (Nat.le_of_ble_eq_true rfl) ?_
          exact w_X11_put_103 X hr hlocks hin rs   f1 (p3.toInt32).toInt8.toInt32.toInt64 (((30 : Int32) * p1) + p2) v11 _ _ _ h Y (lv_sub hl [] rfl)
      · replace h := Eq.trans (if_pos c10).symm h
        refine lv_aload_n hx hb dX11_put_54 rfl (lv_at hl 0 rfl) ?_
        refine lv_iconst (v := 3) hx hb dX11_put_55 (by decide) ?_
        by_cases c18 : hKd f1 h0 = some 10
        · replace h := Eq.trans (if_pos c18).symm h
          replace h := xb h
          obtain ⟨q19, eq19, h⟩ := h
          refine q_callV X Y hl.1 (rest := []) (As := [.int (3 : Int32)]) (c_X11_fails l G z f1 h0 (3 : Int32) _ eq19) cd_X11_fails lv_X11_88_10 c18 ⟨(Nat.le_of_ble_eq_true rfl), (Nat.le_of_ble_eq_true rfl)⟩ ⟨(Nat.le_of_ble_eq_true rfl), (Nat.le_of_ble_eq_true rfl)⟩ rfl rfl (Nat.le_of_ble_eq_true rfl) dX11_put_56 (fun H locs Y => ?_)
          refine W.eq (g2 := F0 m 59 ls [.int q19.1]) rfl ?_
          replace h := Option.some.inj h
          subst h
          exact q_reti X Y hr hlocks (Nat.le_of_ble_eq_true rfl) (Nat.le_of_ble_eq_true rfl) dX11_put_59
        replace h := Eq.trans (if_neg c18).symm h
        cases h
    · replace h := Eq.trans (if_pos c6).symm h
      refine lv_aload_n hx hb dX11_put_30 rfl (lv_at hl 0 rfl) ?_
      refine lv_iconst (v := 1) hx hb dX11_put_31 (by decide) ?_
      by_cases c20 : hKd f1 h0 = some 10
      · replace h := Eq.trans (if_pos c20).symm h
        replace h := xb h
        obtain ⟨q21, eq21, h⟩ := h
        refine q_callV X Y hl.1 (rest := []) (As := [.int (1 : Int32)]) (c_X11_fails l G z f1 h0 (1 : Int32) _ eq21) cd_X11_fails lv_X11_88_10 c20 ⟨(Nat.le_of_ble_eq_true rfl), (Nat.le_of_ble_eq_true rfl)⟩ ⟨(Nat.le_of_ble_eq_true rfl), (Nat.le_of_ble_eq_true rfl)⟩ rfl rfl (Nat.le_of_ble_eq_true rfl) dX11_put_32 (fun H locs Y => ?_)
        refine W.eq (g2 := F0 m 35 ls [.int q21.1]) rfl ?_
        replace h := Option.some.inj h
        subst h
        exact q_reti X Y hr hlocks (Nat.le_of_ble_eq_true rfl) (Nat.le_of_ble_eq_true rfl) dX11_put_35
      replace h := Eq.trans (if_neg c20).symm h
      cases h
  · replace h := Eq.trans (if_pos c3).symm h
    refine lv_iconst (v := -1) hx hb dX11_put_17 (by decide) ?_
    replace h := Option.some.inj h
    subst h
    exact q_reti X Y hr hlocks (Nat.le_of_ble_eq_true rfl) (Nat.le_of_ble_eq_true rfl) dX11_put_18
/-! NeverBelowModel.lost(I)J -/
abbrev rm_X11_lost : Room := { frames := 0, cells := 0, slots := 0, locals := 0 }
def F_X11_lost (f : xHp) (h0 : Nat) (p1 : Int32) : Option (Int64 × xHp) := Option.bind (hPut f h0 [(10, 0)] (.int p1)) fun f1 => some ((-9223372036854775808 : Int64), f1)
set_option maxRecDepth 100000 in
set_option maxHeartbeats 4000000 in
theorem c_X11_lost (l : Launch) (G : xG) (z : Nat) (f : xHp) (h0 : Nat) (p1 : Int32) (rs : Int64 × xHp) (h : F_X11_lost f h0 p1 = some rs) : xM G l yX11_lost cX11_lost 2 (some .long) rm_X11_lost [.ref h0, .int p1] z f (some (.long rs.1)) z rs.2 := by
  refine xM_of (by decide) (Nat.le_of_ble_eq_true rfl) ?_
  intro p e s m below meth c ls X hr hlocks hin Y hl
  have hl : lv_has ls 2 [(0, .ref h0), (1, .int p1)] := hl
  have hx := X.1.1
  have hb := X.1.2.1
  unfold F_X11_lost at h
  refine lv_aload_n hx hb dX11_lost_0 rfl (lv_at hl 0 rfl) ?_
  refine lv_iload_n hx hb dX11_lost_1 rfl (lv_at hl 1 rfl) ?_
  replace h := xb h
  obtain ⟨f1, ef1, h⟩ := h
  refine q_put X Y fp_X11_74 rfl rfl ef1 dX11_lost_2 (fun H locs Y => ?_)
  refine lv_ldc2 (v := -9223372036854775808) hx hb X.1.2.2.2.1 (X.1.2.2.2.2 _ xw_940) dX11_lost_5 ?_
  replace h := Option.some.inj h
  subst h
  exact q_retl X Y hr hlocks (Nat.le_of_ble_eq_true rfl) (Nat.le_of_ble_eq_true rfl) dX11_lost_8
/-! NeverBelowModel.at(III)J -/
abbrev rm_X11_at : Room := { frames := 1, cells := 0, slots := 0, locals := 25 }
def F_X11_at_60  (f : xHp) (a0 : Nat) (a1 : Int32) (a2 : Int32) : Option (Int64 × xHp) := Option.bind (hN f a0 [(10, 2)]) fun v1 => Option.bind (hIld f v1 a1) fun v2 => if v2 = (-9 : Int32) then (if hKd f a0 = some 10 then (Option.bind (F_X11_lost f a0 (1 : Int32)) fun q13 => some (q13.1, q13.2)) else none) else (Option.bind (hN f a0 [(10, 3)]) fun v4 => Option.bind (hIld f v4 a1) fun v5 => Option.bind (F_X11_within f a2.toInt64 (0 : Int64) (v5.toInt64 - (1 : Int64))) fun q6 => if q6 = 0 then (if hKd f a0 = some 10 then (Option.bind (F_X11_lost f a0 (3 : Int32)) fun q11 => some (q11.1, q11.2)) else none) else (Option.bind (hN f a0 [(10, 4)]) fun v8 => Option.bind (hJld f v8 (((30 : Int32) * a1) + a2)) fun v9 => some (v9, f)))
def F_X11_at_29  (f : xHp)  : Option (Int64 × xHp) := some ((-9223372036854775808 : Int64), f)
def F_X11_at (f : xHp) (h0 : Nat) (p1 : Int32) (p2 : Int32) (p3 : Int32) : Option (Int64 × xHp) := Option.bind (hPut f h0 [(10, 0)] (.int (0 : Int32))) fun f1 => Option.bind (F_X11_within f1 p1.toInt64 (0 : Int64) (3 : Int64)) fun q2 => if q2 = 0 then (F_X11_at_29 f1) else (Option.bind (F_X11_within f1 p3.toInt64 (0 : Int64) (2 : Int64)) fun q4 => if q4 = 0 then (F_X11_at_29 f1) else (Option.bind (hN f1 h0 [(10, 2)]) fun v6 => Option.bind (hIld f1 v6 p1) fun v7 => if v7 = (-9 : Int32) then (F_X11_at_60 f1 h0 p1 p2) else (Option.bind (hN f1 h0 [(10, 2)]) fun v9 => Option.bind (hIld f1 v9 p1) fun v10 => if v10 = p3 then (F_X11_at_60 f1 h0 p1 p2) else (if hKd f1 h0 = some 10 then (Option.bind (F_X11_lost f1 h0 (2 : Int32)) fun q13 => some (q13.1, q13.2)) else none))))
set_option maxRecDepth 100000 in
set_option maxHeartbeats 4000000 in
theorem w_X11_at_60 {p : Program} {l : Launch} {e : Env} {s : State} {m : MethodId} {args : Array Value} {below : List Frame} {meth : Method} {c : Code} {G : xG} {z : Nat} (X : xC G p m c s args RX11 cX11_at 4) (hr : meth.sig.returnType = (some .long)) (hlocks : meth.locks = false) (hin : meth.name = yX11_at.name) (rs : Int64 × xHp)  (f : xHp) (a0 : Nat) (a1 : Int32) (a2 : Int32) (H : Heap) (locs : List Loc) (ls : Array Slot) (h : F_X11_at_60  f a0 a1 a2 = some rs) (Y : xY G z f s H locs) (hl : lv_has ls 4 [(0, .ref a0), (1, .int a1), (2, .int a2)]) : W p l e rm_X11_at s m args below meth c H locs 0 0 (MQ below (xQ G (some (.long rs.1)) z rs.2) args s rm_X11_at.cells rm_X11_at.slots (xA G)) (F0 m 60 ls []) := by
  have hx := X.1.1
  have hb := X.1.2.1
  unfold F_X11_at_60 at h
  refine lv_aload_n hx hb dX11_at_60 rfl (lv_at hl 0 rfl) ?_
  replace h := xb h
  obtain ⟨v1, ev1, h⟩ := h
  refine q_getN X Y fl_X11_9 ev1 dX11_at_61 ?_
  refine lv_iload_n hx hb dX11_at_64 rfl (lv_at hl 1 rfl) ?_
  replace h := xb h
  obtain ⟨v2, ev2, h⟩ := h
  refine q_iald X Y ev2 dX11_at_65 ?_
  refine lv_bipush (v := -9) hx hb dX11_at_66 (by decide) ?_
  refine lv_icmp_ne (tgt := 77) hx hb dX11_at_68 (by decide) (fun c3 => ?_) (fun c3 => ?_)
  · replace h := Eq.trans (if_neg c3).symm h
    refine lv_iload_n hx hb dX11_at_77 rfl (lv_at hl 2 rfl) ?_
    refine lv_i2l hx hb dX11_at_78 rfl ?_
    refine lv_lconst (v := 0) hx hb dX11_at_79 (by decide) ?_
    refine lv_aload_n hx hb dX11_at_80 rfl (lv_at hl 0 rfl) ?_
    replace h := xb h
    obtain ⟨v4, ev4, h⟩ := h
    refine q_getN X Y fl_X11_13 ev4 dX11_at_81 ?_
    refine lv_iload_n hx hb dX11_at_84 rfl (lv_at hl 1 rfl) ?_
    replace h := xb h
    obtain ⟨v5, ev5, h⟩ := h
    refine q_iald X Y ev5 dX11_at_85 ?_
    refine lv_i2l hx hb dX11_at_86 rfl ?_
    refine lv_lconst (v := 1) hx hb dX11_at_87 (by decide) ?_
    refine lv_lsub hx hb dX11_at_88 ?_
    replace h := xb h
    obtain ⟨q6, eq6, h⟩ := h
    refine q_callS X Y hl.1 (rest := []) (As := [.long a2.toInt64, .long (0 : Int64), .long (v5.toInt64 - (1 : Int64))]) (c_X11_within l G z f a2.toInt64 (0 : Int64) (v5.toInt64 - (1 : Int64)) _ eq6) cd_X11_within ls_X11_82 ⟨(Nat.le_of_ble_eq_true rfl), (Nat.le_of_ble_eq_true rfl)⟩ ⟨(Nat.le_of_ble_eq_true rfl), (Nat.le_of_ble_eq_true rfl)⟩ rfl rfl (Nat.le_of_ble_eq_true rfl) dX11_at_89 (fun H locs Y => ?_)
    refine W.eq (g2 := F0 m 92 ls [.int q6]) rfl ?_
    refine lv_if_ne (tgt := 101) hx hb dX11_at_92 (by decide) (fun c7 => ?_) (fun c7 => ?_)
    · replace h := Eq.trans (if_neg c7).symm h
      refine lv_aload_n hx hb dX11_at_101 rfl (lv_at hl 0 rfl) ?_
      replace h := xb h
      obtain ⟨v8, ev8, h⟩ := h
      refine q_getN X Y fl_X11_16 ev8 dX11_at_102 ?_
      refine lv_bipush (v := 30) hx hb dX11_at_105 (by decide) ?_
      refine lv_iload_n hx hb dX11_at_107 rfl (lv_at hl 1 rfl) ?_
      refine lv_imul hx hb dX11_at_108 ?_
      refine lv_iload_n hx hb dX11_at_109 rfl (lv_at hl 2 rfl) ?_
      refine lv_iadd hx hb dX11_at_110 ?_
      replace h := xb h
      obtain ⟨v9, ev9, h⟩ := h
      refine q_lald X Y ev9 dX11_at_111 ?_
      replace h := Option.some.inj h
      subst h
      exact q_retl X Y hr hlocks (Nat.le_of_ble_eq_true rfl) (Nat.le_of_ble_eq_true rfl) dX11_at_112
    · replace h := Eq.trans (if_pos c7).symm h
      refine lv_aload_n hx hb dX11_at_95 rfl (lv_at hl 0 rfl) ?_
      refine lv_iconst (v := 3) hx hb dX11_at_96 (by decide) ?_
      by_cases c10 : hKd f a0 = some 10
      · replace h := Eq.trans (if_pos c10).symm h
        replace h := xb h
        obtain ⟨q11, eq11, h⟩ := h
        refine q_callV X Y hl.1 (rest := []) (As := [.int (3 : Int32)]) (c_X11_lost l G z f a0 (3 : Int32) _ eq11) cd_X11_lost lv_X11_92_10 c10 ⟨(Nat.le_of_ble_eq_true rfl), (Nat.le_of_ble_eq_true rfl)⟩ ⟨(Nat.le_of_ble_eq_true rfl), (Nat.le_of_ble_eq_true rfl)⟩ rfl rfl (Nat.le_of_ble_eq_true rfl) dX11_at_97 (fun H locs Y => ?_)
        refine W.eq (g2 := F0 m 100 ls [.long q11.1]) rfl ?_
        replace h := Option.some.inj h
        subst h
        exact q_retl X Y hr hlocks (Nat.le_of_ble_eq_true rfl) (Nat.le_of_ble_eq_true rfl) dX11_at_100
      replace h := Eq.trans (if_neg c10).symm h
      cases h
  · replace h := Eq.trans (if_pos c3).symm h
    refine lv_aload_n hx hb dX11_at_71 rfl (lv_at hl 0 rfl) ?_
    refine lv_iconst (v := 1) hx hb dX11_at_72 (by decide) ?_
    by_cases c12 : hKd f a0 = some 10
    · replace h := Eq.trans (if_pos c12).symm h
      replace h := xb h
      obtain ⟨q13, eq13, h⟩ := h
      refine q_callV X Y hl.1 (rest := []) (As := [.int (1 : Int32)]) (c_X11_lost l G z f a0 (1 : Int32) _ eq13) cd_X11_lost lv_X11_92_10 c12 ⟨(Nat.le_of_ble_eq_true rfl), (Nat.le_of_ble_eq_true rfl)⟩ ⟨(Nat.le_of_ble_eq_true rfl), (Nat.le_of_ble_eq_true rfl)⟩ rfl rfl (Nat.le_of_ble_eq_true rfl) dX11_at_73 (fun H locs Y => ?_)
      refine W.eq (g2 := F0 m 76 ls [.long q13.1]) rfl ?_
      replace h := Option.some.inj h
      subst h
      exact q_retl X Y hr hlocks (Nat.le_of_ble_eq_true rfl) (Nat.le_of_ble_eq_true rfl) dX11_at_76
    replace h := Eq.trans (if_neg c12).symm h
    cases h
set_option maxRecDepth 100000 in
set_option maxHeartbeats 4000000 in
theorem w_X11_at_29 {p : Program} {l : Launch} {e : Env} {s : State} {m : MethodId} {args : Array Value} {below : List Frame} {meth : Method} {c : Code} {G : xG} {z : Nat} (X : xC G p m c s args RX11 cX11_at 4) (hr : meth.sig.returnType = (some .long)) (hlocks : meth.locks = false) (hin : meth.name = yX11_at.name) (rs : Int64 × xHp)  (f : xHp) (H : Heap) (locs : List Loc) (ls : Array Slot) (h : F_X11_at_29  f = some rs) (Y : xY G z f s H locs) (hl : lv_has ls 4 []) : W p l e rm_X11_at s m args below meth c H locs 0 0 (MQ below (xQ G (some (.long rs.1)) z rs.2) args s rm_X11_at.cells rm_X11_at.slots (xA G)) (F0 m 29 ls []) := by
  have hx := X.1.1
  have hb := X.1.2.1
  unfold F_X11_at_29 at h
  refine lv_ldc2 (v := -9223372036854775808) hx hb X.1.2.2.2.1 (X.1.2.2.2.2 _ xw_940) dX11_at_29 ?_
  replace h := Option.some.inj h
  subst h
  exact q_retl X Y hr hlocks (Nat.le_of_ble_eq_true rfl) (Nat.le_of_ble_eq_true rfl) dX11_at_32
set_option maxRecDepth 100000 in
set_option maxHeartbeats 4000000 in
theorem c_X11_at (l : Launch) (G : xG) (z : Nat) (f : xHp) (h0 : Nat) (p1 : Int32) (p2 : Int32) (p3 : Int32) (rs : Int64 × xHp) (h : F_X11_at f h0 p1 p2 p3 = some rs) : xM G l yX11_at cX11_at 4 (some .long) rm_X11_at [.ref h0, .int p1, .int p2, .int p3] z f (some (.long rs.1)) z rs.2 := by
  refine xM_of (by decide) (Nat.le_of_ble_eq_true rfl) ?_
  intro p e s m below meth c ls X hr hlocks hin Y hl
  have hl : lv_has ls 4 [(0, .ref h0), (1, .int p1), (2, .int p2), (3, .int p3)] := hl
  have hx := X.1.1
  have hb := X.1.2.1
  unfold F_X11_at at h
  refine lv_aload_n hx hb dX11_at_0 rfl (lv_at hl 0 rfl) ?_
  refine lv_iconst (v := 0) hx hb dX11_at_1 (by decide) ?_
  replace h := xb h
  obtain ⟨f1, ef1, h⟩ := h
  refine q_put X Y fp_X11_74 rfl rfl ef1 dX11_at_2 (fun H locs Y => ?_)
  refine lv_iload_n hx hb dX11_at_5 rfl (lv_at hl 1 rfl) ?_
  refine lv_i2l hx hb dX11_at_6 rfl ?_
  refine lv_lconst (v := 0) hx hb dX11_at_7 (by decide) ?_
  refine lv_ldc2 (v := 3) hx hb X.1.2.2.2.1 (X.1.2.2.2.2 _ xw_919) dX11_at_8 ?_
  replace h := xb h
  obtain ⟨q2, eq2, h⟩ := h
  refine q_callS X Y hl.1 (rest := []) (As := [.long p1.toInt64, .long (0 : Int64), .long (3 : Int64)]) (c_X11_within l G z f1 p1.toInt64 (0 : Int64) (3 : Int64) _ eq2) cd_X11_within ls_X11_82 ⟨(Nat.le_of_ble_eq_true rfl), (Nat.le_of_ble_eq_true rfl)⟩ ⟨(Nat.le_of_ble_eq_true rfl), (Nat.le_of_ble_eq_true rfl)⟩ rfl rfl (Nat.le_of_ble_eq_true rfl) dX11_at_11 (fun H locs Y => ?_)
  refine W.eq (g2 := F0 m 14 ls [.int q2]) rfl ?_
  refine lv_if_eq (tgt := 29) hx hb dX11_at_14 (by decide) (fun c3 => ?_) (fun c3 => ?_)
  · replace h := Eq.trans (if_pos c3).symm h
    refine W.widen (k := 0) (n := 0) (Nat.le_of_ble_eq_true rfl) (Nat.le_of_ble_eq_true rfl) ?_
    exact w_X11_at_29 X hr hlocks hin rs   f1 _ _ _ h Y (lv_sub hl [] rfl)
  · replace h := Eq.trans (if_neg c3).symm h
    refine lv_iload_n hx hb dX11_at_17 rfl (lv_at hl 3 rfl) ?_
    refine lv_i2l hx hb dX11_at_18 rfl ?_
    refine lv_lconst (v := 0) hx hb dX11_at_19 (by decide) ?_
    refine lv_ldc2 (v := 2) hx hb X.1.2.2.2.1 (X.1.2.2.2.2 _ xw_923) dX11_at_20 ?_
    replace h := xb h
    obtain ⟨q4, eq4, h⟩ := h
    refine q_callS X Y hl.1 (rest := []) (As := [.long p3.toInt64, .long (0 : Int64), .long (2 : Int64)]) (c_X11_within l G z f1 p3.toInt64 (0 : Int64) (2 : Int64) _ eq4) cd_X11_within ls_X11_82 ⟨(Nat.le_of_ble_eq_true rfl), (Nat.le_of_ble_eq_true rfl)⟩ ⟨(Nat.le_of_ble_eq_true rfl), (Nat.le_of_ble_eq_true rfl)⟩ rfl rfl (Nat.le_of_ble_eq_true rfl) dX11_at_23 (fun H locs Y => ?_)
    refine W.eq (g2 := F0 m 26 ls [.int q4]) rfl ?_
    refine lv_if_ne (tgt := 33) hx hb dX11_at_26 (by decide) (fun c5 => ?_) (fun c5 => ?_)
    · replace h := Eq.trans (if_neg c5).symm h
      refine lv_aload_n hx hb dX11_at_33 rfl (lv_at hl 0 rfl) ?_
      replace h := xb h
      obtain ⟨v6, ev6, h⟩ := h
      refine q_getN X Y fl_X11_9 ev6 dX11_at_34 ?_
      refine lv_iload_n hx hb dX11_at_37 rfl (lv_at hl 1 rfl) ?_
      replace h := xb h
      obtain ⟨v7, ev7, h⟩ := h
      refine q_iald X Y ev7 dX11_at_38 ?_
      refine lv_bipush (v := -9) hx hb dX11_at_39 (by decide) ?_
      refine lv_icmp_eq (tgt := 60) hx hb dX11_at_41 (by decide) (fun c8 => ?_) (fun c8 => ?_)
      · replace h := Eq.trans (if_pos c8).symm h
        refine W.widen (k := 0) (n := 0) (Nat.le_of_ble_eq_true rfl) (Nat.le_of_ble_eq_true rfl) ?_
        exact w_X11_at_60 X hr hlocks hin rs   f1 h0 p1 p2 _ _ _ h Y (lv_sub hl [0, 1, 2] rfl)
      · replace h := Eq.trans (if_neg c8).symm h
        refine lv_aload_n hx hb dX11_at_44 rfl (lv_at hl 0 rfl) ?_
        replace h := xb h
        obtain ⟨v9, ev9, h⟩ := h
        refine q_getN X Y fl_X11_9 ev9 dX11_at_45 ?_
        refine lv_iload_n hx hb dX11_at_48 rfl (lv_at hl 1 rfl) ?_
        replace h := xb h
        obtain ⟨v10, ev10, h⟩ := h
        refine q_iald X Y ev10 dX11_at_49 ?_
        refine lv_iload_n hx hb dX11_at_50 rfl (lv_at hl 3 rfl) ?_
        refine lv_icmp_eq (tgt := 60) hx hb dX11_at_51 (by decide) (fun c11 => ?_) (fun c11 => ?_)
        · replace h := Eq.trans (if_pos c11).symm h
          refine W.widen (k := 0) (n := 0) (Nat.le_of_ble_eq_true rfl) (Nat.le_of_ble_eq_true rfl) ?_
          exact w_X11_at_60 X hr hlocks hin rs   f1 h0 p1 p2 _ _ _ h Y (lv_sub hl [0, 1, 2] rfl)
        · replace h := Eq.trans (if_neg c11).symm h
          refine lv_aload_n hx hb dX11_at_54 rfl (lv_at hl 0 rfl) ?_
          refine lv_iconst (v := 2) hx hb dX11_at_55 (by decide) ?_
          by_cases c12 : hKd f1 h0 = some 10
          · replace h := Eq.trans (if_pos c12).symm h
            replace h := xb h
            obtain ⟨q13, eq13, h⟩ := h
            refine q_callV X Y hl.1 (rest := []) (As := [.int (2 : Int32)]) (c_X11_lost l G z f1 h0 (2 : Int32) _ eq13) cd_X11_lost lv_X11_92_10 c12 ⟨(Nat.le_of_ble_eq_true rfl), (Nat.le_of_ble_eq_true rfl)⟩ ⟨(Nat.le_of_ble_eq_true rfl), (Nat.le_of_ble_eq_true rfl)⟩ rfl rfl (Nat.le_of_ble_eq_true rfl) dX11_at_56 (fun H locs Y => ?_)
            refine W.eq (g2 := F0 m 59 ls [.long q13.1]) rfl ?_
            replace h := Option.some.inj h
            subst h
            exact q_retl X Y hr hlocks (Nat.le_of_ble_eq_true rfl) (Nat.le_of_ble_eq_true rfl) dX11_at_59
          replace h := Eq.trans (if_neg c12).symm h
          cases h
    · replace h := Eq.trans (if_pos c5).symm h
      refine W.widen (k := 0) (n := 0) (Nat.le_of_ble_eq_true rfl) (Nat.le_of_ble_eq_true rfl) ?_
      exact w_X11_at_29 X hr hlocks hin rs   f1 _ _ _ h Y (lv_sub hl [] rfl)
/-! NeverBelowModel.becomes(I)I -/
abbrev rm_X11_becomes : Room := { frames := 1, cells := 0, slots := 0, locals := 25 }
def F_X11_becomes_48 (k48 : xHp → Nat → Int32 → Option (Int32 × xHp)) (f : xHp) (a0 : Nat) (a2 : Int32) : Option (Int32 × xHp) := if (9 : Int32) ≤ a2 then (Option.bind (hI f a0 [(10, 5)]) fun v2 => Option.bind (hPut f a0 [(10, 5)] (.int (v2 + (1 : Int32)))) fun f3 => Option.bind (hI f3 a0 [(10, 5)]) fun v4 => some ((v4 - (1 : Int32)), f3)) else (Option.bind (hN f a0 [(10, 6)]) fun v5 => Option.bind (hI f a0 [(10, 5)]) fun v6 => Option.bind (hN f a0 [(10, 7)]) fun v7 => Option.bind (hJld f v7 a2) fun v8 => Option.bind (hJst f v5 (((9 : Int32) * v6) + a2) v8) fun f9 => k48 f9 a0 (a2 + 1))
def L_X11_becomes_48  : Nat → xHp → Nat → Int32 → Option (Int32 × xHp)
  | 0, _, _, _ => none
  | n + 1, f, a0, a2 => F_X11_becomes_48 (L_X11_becomes_48  n) f a0 a2
def F_X11_becomes_2 (k2 : xHp → Nat → Int32 → Int32 → Option (Int32 × xHp)) (f : xHp) (a0 : Nat) (a1 : Int32) (a2 : Int32) : Option (Int32 × xHp) := if a1 ≤ a2 then (Option.bind (hI f a0 [(10, 5)]) fun v2 => if v2 = (30 : Int32) then (some ((-4 : Int32), f)) else (L_X11_becomes_48 xfuel f a0 (0 : Int32))) else (Option.bind (hN f a0 [(10, 7)]) fun v4 => Option.bind (hJld f v4 a2) fun v5 => Option.bind (F_X11_within f v5 (-1000 : Int64) (1000 : Int64)) fun q6 => if q6 = 0 then (some ((-2 : Int32), f)) else (k2 f a0 a1 (a2 + 1)))
def L_X11_becomes_2  : Nat → xHp → Nat → Int32 → Int32 → Option (Int32 × xHp)
  | 0, _, _, _, _ => none
  | n + 1, f, a0, a1, a2 => F_X11_becomes_2 (L_X11_becomes_2  n) f a0 a1 a2
def F_X11_becomes (f : xHp) (h0 : Nat) (p1 : Int32) : Option (Int32 × xHp) := L_X11_becomes_2 xfuel f h0 p1 (0 : Int32)
set_option maxRecDepth 100000 in
set_option maxHeartbeats 4000000 in
theorem w_X11_becomes_48 {p : Program} {l : Launch} {e : Env} {s : State} {m : MethodId} {args : Array Value} {below : List Frame} {meth : Method} {c : Code} {G : xG} {z : Nat} (X : xC G p m c s args RX11 cX11_becomes 3) (hr : meth.sig.returnType = (some .int)) (hlocks : meth.locks = false) (hin : meth.name = yX11_becomes.name) (rs : Int32 × xHp) (k48 : xHp → Nat → Int32 → Option (Int32 × xHp)) (hk48 : ∀ (f : xHp) (a0 : Nat) (a2 : Int32) (H : Heap) (locs : List Loc) (ls : Array Slot), k48 f a0 a2 = some rs → xY G z f s H locs → lv_has ls 3 [(0, .ref a0), (2, .int a2)] → W p l e rm_X11_becomes s m args below meth c H locs 0 0 (MQ below (xQ G (some (.int rs.1)) z rs.2) args s rm_X11_becomes.cells rm_X11_becomes.slots (xA G)) (F0 m 48 ls [])) (f : xHp) (a0 : Nat) (a2 : Int32) (H : Heap) (locs : List Loc) (ls : Array Slot) (h : F_X11_becomes_48 k48 f a0 a2 = some rs) (Y : xY G z f s H locs) (hl : lv_has ls 3 [(0, .ref a0), (2, .int a2)]) : W p l e rm_X11_becomes s m args below meth c H locs 0 0 (MQ below (xQ G (some (.int rs.1)) z rs.2) args s rm_X11_becomes.cells rm_X11_becomes.slots (xA G)) (F0 m 48 ls []) := by
  have hx := X.1.1
  have hb := X.1.2.1
  unfold F_X11_becomes_48 at h
  refine lv_iload_n hx hb dX11_becomes_48 rfl (lv_at hl 1 rfl) ?_
  refine lv_bipush (v := 9) hx hb dX11_becomes_49 (by decide) ?_
  refine lv_icmp_ge (tgt := 80) hx hb dX11_becomes_51 (by decide) (fun c1 => ?_) (fun c1 => ?_)
  · replace h := Eq.trans (if_pos c1).symm h
    refine lv_aload_n hx hb dX11_becomes_80 rfl (lv_at hl 0 rfl) ?_
    refine lv_dup hx hb dX11_becomes_81 rfl ?_
    replace h := xb h
    obtain ⟨v2, ev2, h⟩ := h
    refine q_getI X Y fl_X11_96 ev2 dX11_becomes_82 ?_
    refine lv_iconst (v := 1) hx hb dX11_becomes_85 (by decide) ?_
    refine lv_iadd hx hb dX11_becomes_86 ?_
    replace h := xb h
    obtain ⟨f3, ef3, h⟩ := h
    refine q_put X Y fp_X11_96 rfl rfl ef3 dX11_becomes_87 (fun H locs Y => ?_)
    refine lv_aload_n hx hb dX11_becomes_90 rfl (lv_at hl 0 rfl) ?_
    replace h := xb h
    obtain ⟨v4, ev4, h⟩ := h
    refine q_getI X Y fl_X11_96 ev4 dX11_becomes_91 ?_
    refine lv_iconst (v := 1) hx hb dX11_becomes_94 (by decide) ?_
    refine lv_isub hx hb dX11_becomes_95 ?_
    replace h := Option.some.inj h
    subst h
    exact q_reti X Y hr hlocks (Nat.le_of_ble_eq_true rfl) (Nat.le_of_ble_eq_true rfl) dX11_becomes_96
  · replace h := Eq.trans (if_neg c1).symm h
    refine lv_aload_n hx hb dX11_becomes_54 rfl (lv_at hl 0 rfl) ?_
    replace h := xb h
    obtain ⟨v5, ev5, h⟩ := h
    refine q_getN X Y fl_X11_20 ev5 dX11_becomes_55 ?_
    refine lv_bipush (v := 9) hx hb dX11_becomes_58 (by decide) ?_
    refine lv_aload_n hx hb dX11_becomes_60 rfl (lv_at hl 0 rfl) ?_
    replace h := xb h
    obtain ⟨v6, ev6, h⟩ := h
    refine q_getI X Y fl_X11_96 ev6 dX11_becomes_61 ?_
    refine lv_imul hx hb dX11_becomes_64 ?_
    refine lv_iload_n hx hb dX11_becomes_65 rfl (lv_at hl 1 rfl) ?_
    refine lv_iadd hx hb dX11_becomes_66 ?_
    refine lv_aload_n hx hb dX11_becomes_67 rfl (lv_at hl 0 rfl) ?_
    replace h := xb h
    obtain ⟨v7, ev7, h⟩ := h
    refine q_getN X Y fl_X11_23 ev7 dX11_becomes_68 ?_
    refine lv_iload_n hx hb dX11_becomes_71 rfl (lv_at hl 1 rfl) ?_
    replace h := xb h
    obtain ⟨v8, ev8, h⟩ := h
    refine q_lald X Y ev8 dX11_becomes_72 ?_
    replace h := xb h
    obtain ⟨f9, ef9, h⟩ := h
    refine q_last X Y ef9 dX11_becomes_73 (fun H locs Y => ?_)
    refine lv_iinc (v := (a2 + 1)) (lv' := [(2, .int (a2 + 1)), (0, .ref a0)]) hx hb dX11_becomes_74 hl (k := 1) rfl rfl (by decide) rfl (fun ls hl => ?_)
    refine lv_goto (tgt := 48) hx hb dX11_becomes_77 (by decide) ?_
    refine W.widen (k := 0) (n := 0) (Nat.le_of_ble_eq_true rfl) (Nat.le_of_ble_eq_true rfl) ?_
    exact hk48 f9 a0 (a2 + 1) _ _ _ h Y (lv_sub hl [1, 0] rfl)
set_option maxRecDepth 100000 in
set_option maxHeartbeats 4000000 in
theorem lw_X11_becomes_48 {p : Program} {l : Launch} {e : Env} {s : State} {m : MethodId} {args : Array Value} {below : List Frame} {meth : Method} {c : Code} {G : xG} {z : Nat} (X : xC G p m c s args RX11 cX11_becomes 3) (hr : meth.sig.returnType = (some .int)) (hlocks : meth.locks = false) (hin : meth.name = yX11_becomes.name) (rs : Int32 × xHp)  : ∀ (n : Nat) (f : xHp) (a0 : Nat) (a2 : Int32) (H : Heap) (locs : List Loc) (ls : Array Slot), L_X11_becomes_48  n f a0 a2 = some rs → xY G z f s H locs → lv_has ls 3 [(0, .ref a0), (2, .int a2)] → W p l e rm_X11_becomes s m args below meth c H locs 0 0 (MQ below (xQ G (some (.int rs.1)) z rs.2) args s rm_X11_becomes.cells rm_X11_becomes.slots (xA G)) (F0 m 48 ls []) := by
  intro n
  induction n with
  | zero => intro f a0 a2 H locs ls h Y hl; cases h
  | succ n ih => intro f a0 a2 H locs ls h Y hl; exact w_X11_becomes_48 X hr hlocks hin rs _ ih f a0 a2 _ _ _ h Y hl
set_option maxRecDepth 100000 in
set_option maxHeartbeats 4000000 in
theorem w_X11_becomes_2 {p : Program} {l : Launch} {e : Env} {s : State} {m : MethodId} {args : Array Value} {below : List Frame} {meth : Method} {c : Code} {G : xG} {z : Nat} (X : xC G p m c s args RX11 cX11_becomes 3) (hr : meth.sig.returnType = (some .int)) (hlocks : meth.locks = false) (hin : meth.name = yX11_becomes.name) (rs : Int32 × xHp) (k2 : xHp → Nat → Int32 → Int32 → Option (Int32 × xHp)) (hk2 : ∀ (f : xHp) (a0 : Nat) (a1 : Int32) (a2 : Int32) (H : Heap) (locs : List Loc) (ls : Array Slot), k2 f a0 a1 a2 = some rs → xY G z f s H locs → lv_has ls 3 [(0, .ref a0), (1, .int a1), (2, .int a2)] → W p l e rm_X11_becomes s m args below meth c H locs 0 0 (MQ below (xQ G (some (.int rs.1)) z rs.2) args s rm_X11_becomes.cells rm_X11_becomes.slots (xA G)) (F0 m 2 ls [])) (f : xHp) (a0 : Nat) (a1 : Int32) (a2 : Int32) (H : Heap) (locs : List Loc) (ls : Array Slot) (h : F_X11_becomes_2 k2 f a0 a1 a2 = some rs) (Y : xY G z f s H locs) (hl : lv_has ls 3 [(0, .ref a0), (1, .int a1), (2, .int a2)]) : W p l e rm_X11_becomes s m args below meth c H locs 0 0 (MQ below (xQ G (some (.int rs.1)) z rs.2) args s rm_X11_becomes.cells rm_X11_becomes.slots (xA G)) (F0 m 2 ls []) := by
  have hx := X.1.1
  have hb := X.1.2.1
  unfold F_X11_becomes_2 at h
  refine lv_iload_n hx hb dX11_becomes_2 rfl (lv_at hl 2 rfl) ?_
  refine lv_iload_n hx hb dX11_becomes_3 rfl (lv_at hl 1 rfl) ?_
  refine lv_icmp_ge (tgt := 34) hx hb dX11_becomes_4 (by decide) (fun c1 => ?_) (fun c1 => ?_)
  · replace h := Eq.trans (if_pos c1).symm h
    refine lv_aload_n hx hb dX11_becomes_34 rfl (lv_at hl 0 rfl) ?_
    replace h := xb h
    obtain ⟨v2, ev2, h⟩ := h
    refine q_getI X Y fl_X11_96 ev2 dX11_becomes_35 ?_
    refine lv_bipush (v := 30) hx hb dX11_becomes_38 (by decide) ?_
    refine lv_icmp_ne (tgt := 46) hx hb dX11_becomes_40 (by decide) (fun c3 => ?_) (fun c3 => ?_)
    · replace h := Eq.trans (if_neg c3).symm h
      refine lv_iconst (v := 0) hx hb dX11_becomes_46 (by decide) ?_
      refine lv_istore_n (lv' := [(2, .int (0 : Int32)), (0, .ref a0), (1, .int a1)]) hx hb dX11_becomes_47 rfl hl (by decide) rfl (fun ls hl => ?_)
      refine W.widen (k := 0) (n := 0) (Nat.le_of_ble_eq_true rfl) (Nat.le_of_ble_eq_true rfl) ?_
      exact lw_X11_becomes_48 X hr hlocks hin rs  xfuel f a0 (0 : Int32) _ _ _ h Y (lv_sub hl [1, 0] rfl)
    · replace h := Eq.trans (if_pos c3).symm h
      refine lv_bipush (v := -4) hx hb dX11_becomes_43 (by decide) ?_
      replace h := Option.some.inj h
      subst h
      exact q_reti X Y hr hlocks (Nat.le_of_ble_eq_true rfl) (Nat.le_of_ble_eq_true rfl) dX11_becomes_45
  · replace h := Eq.trans (if_neg c1).symm h
    refine lv_aload_n hx hb dX11_becomes_7 rfl (lv_at hl 0 rfl) ?_
    replace h := xb h
    obtain ⟨v4, ev4, h⟩ := h
    refine q_getN X Y fl_X11_23 ev4 dX11_becomes_8 ?_
    refine lv_iload_n hx hb dX11_becomes_11 rfl (lv_at hl 2 rfl) ?_
    replace h := xb h
    obtain ⟨v5, ev5, h⟩ := h
    refine q_lald X Y ev5 dX11_becomes_12 ?_
    refine lv_ldc2 (v := -1000) hx hb X.1.2.2.2.1 (X.1.2.2.2.2 _ xw_957) dX11_becomes_13 ?_
    refine lv_ldc2 (v := 1000) hx hb X.1.2.2.2.1 (X.1.2.2.2.2 _ xw_958) dX11_becomes_16 ?_
    replace h := xb h
    obtain ⟨q6, eq6, h⟩ := h
    refine q_callS X Y hl.1 (rest := []) (As := [.long v5, .long (-1000 : Int64), .long (1000 : Int64)]) (c_X11_within l G z f v5 (-1000 : Int64) (1000 : Int64) _ eq6) cd_X11_within ls_X11_82 ⟨(Nat.le_of_ble_eq_true rfl), (Nat.le_of_ble_eq_true rfl)⟩ ⟨(Nat.le_of_ble_eq_true rfl), (Nat.le_of_ble_eq_true rfl)⟩ rfl rfl (Nat.le_of_ble_eq_true rfl) dX11_becomes_19 (fun H locs Y => ?_)
    refine W.eq (g2 := F0 m 22 ls [.int q6]) rfl ?_
    refine lv_if_ne (tgt := 28) hx hb dX11_becomes_22 (by decide) (fun c7 => ?_) (fun c7 => ?_)
    · replace h := Eq.trans (if_neg c7).symm h
      refine lv_iinc (v := (a2 + 1)) (lv' := [(2, .int (a2 + 1)), (0, .ref a0), (1, .int a1)]) hx hb dX11_becomes_28 hl (k := 2) rfl rfl (by decide) rfl (fun ls hl => ?_)
      refine lv_goto (tgt := 2) hx hb dX11_becomes_31 (by decide) ?_
      refine W.widen (k := 0) (n := 0) (Nat.le_of_ble_eq_true rfl) (Nat.le_of_ble_eq_true rfl) ?_
      exact hk2 f a0 a1 (a2 + 1) _ _ _ h Y (lv_sub hl [1, 2, 0] rfl)
    · replace h := Eq.trans (if_pos c7).symm h
      refine lv_bipush (v := -2) hx hb dX11_becomes_25 (by decide) ?_
      replace h := Option.some.inj h
      subst h
      exact q_reti X Y hr hlocks (Nat.le_of_ble_eq_true rfl) (Nat.le_of_ble_eq_true rfl) dX11_becomes_27
set_option maxRecDepth 100000 in
set_option maxHeartbeats 4000000 in
theorem lw_X11_becomes_2 {p : Program} {l : Launch} {e : Env} {s : State} {m : MethodId} {args : Array Value} {below : List Frame} {meth : Method} {c : Code} {G : xG} {z : Nat} (X : xC G p m c s args RX11 cX11_becomes 3) (hr : meth.sig.returnType = (some .int)) (hlocks : meth.locks = false) (hin : meth.name = yX11_becomes.name) (rs : Int32 × xHp)  : ∀ (n : Nat) (f : xHp) (a0 : Nat) (a1 : Int32) (a2 : Int32) (H : Heap) (locs : List Loc) (ls : Array Slot), L_X11_becomes_2  n f a0 a1 a2 = some rs → xY G z f s H locs → lv_has ls 3 [(0, .ref a0), (1, .int a1), (2, .int a2)] → W p l e rm_X11_becomes s m args below meth c H locs 0 0 (MQ below (xQ G (some (.int rs.1)) z rs.2) args s rm_X11_becomes.cells rm_X11_becomes.slots (xA G)) (F0 m 2 ls []) := by
  intro n
  induction n with
  | zero => intro f a0 a1 a2 H locs ls h Y hl; cases h
  | succ n ih => intro f a0 a1 a2 H locs ls h Y hl; exact w_X11_becomes_2 X hr hlocks hin rs _ ih f a0 a1 a2 _ _ _ h Y hl
set_option maxRecDepth 100000 in
set_option maxHeartbeats 4000000 in
theorem c_X11_becomes (l : Launch) (G : xG) (z : Nat) (f : xHp) (h0 : Nat) (p1 : Int32) (rs : Int32 × xHp) (h : F_X11_becomes f h0 p1 = some rs) : xM G l yX11_becomes cX11_becomes 3 (some .int) rm_X11_becomes [.ref h0, .int p1] z f (some (.int rs.1)) z rs.2 := by
  refine xM_of (by decide) (Nat.le_of_ble_eq_true rfl) ?_
  intro p e s m below meth c ls X hr hlocks hin Y hl
  have hl : lv_has ls 3 [(0, .ref h0), (1, .int p1)] := hl
  have hx := X.1.1
  have hb := X.1.2.1
  unfold F_X11_becomes at h
  refine lv_iconst (v := 0) hx hb dX11_becomes_0 (by decide) ?_
  refine lv_istore_n (lv' := [(2, .int (0 : Int32)), (0, .ref h0), (1, .int p1)]) hx hb dX11_becomes_1 rfl hl (by decide) rfl (fun ls hl => ?_)
  refine W.widen (k := 0) (n := 0) (Nat.le_of_ble_eq_true rfl) (Nat.le_of_ble_eq_true rfl) ?_
  exact lw_X11_becomes_2 X hr hlocks hin rs  xfuel f h0 p1 (0 : Int32) _ _ _ h Y (lv_sub hl [1, 2, 0] rfl)
/-! NeverBelowModel.clearDraft()V -/
abbrev rm_X11_clearDraft : Room := { frames := 0, cells := 0, slots := 0, locals := 0 }
def F_X11_clearDraft_2 (k2 : xHp → Nat → Int32 → Option (xHp)) (f : xHp) (a0 : Nat) (a1 : Int32) : Option (xHp) := if (25 : Int32) ≤ a1 then (some f) else (Option.bind (hN f a0 [(10, 7)]) fun v2 => Option.bind (hJst f v2 a1 (0 : Int64)) fun f3 => k2 f3 a0 (a1 + 1))
def L_X11_clearDraft_2  : Nat → xHp → Nat → Int32 → Option (xHp)
  | 0, _, _, _ => none
  | n + 1, f, a0, a1 => F_X11_clearDraft_2 (L_X11_clearDraft_2  n) f a0 a1
def F_X11_clearDraft (f : xHp) (h0 : Nat) : Option (xHp) := L_X11_clearDraft_2 xfuel f h0 (0 : Int32)
set_option maxRecDepth 100000 in
set_option maxHeartbeats 4000000 in
theorem w_X11_clearDraft_2 {p : Program} {l : Launch} {e : Env} {s : State} {m : MethodId} {args : Array Value} {below : List Frame} {meth : Method} {c : Code} {G : xG} {z : Nat} (X : xC G p m c s args RX11 cX11_clearDraft 2) (hr : meth.sig.returnType = none) (hlocks : meth.locks = false) (hin : meth.name = yX11_clearDraft.name) (rs : xHp) (k2 : xHp → Nat → Int32 → Option (xHp)) (hk2 : ∀ (f : xHp) (a0 : Nat) (a1 : Int32) (H : Heap) (locs : List Loc) (ls : Array Slot), k2 f a0 a1 = some rs → xY G z f s H locs → lv_has ls 2 [(0, .ref a0), (1, .int a1)] → W p l e rm_X11_clearDraft s m args below meth c H locs 0 0 (MQ below (xQ G none z rs) args s rm_X11_clearDraft.cells rm_X11_clearDraft.slots (xA G)) (F0 m 2 ls [])) (f : xHp) (a0 : Nat) (a1 : Int32) (H : Heap) (locs : List Loc) (ls : Array Slot) (h : F_X11_clearDraft_2 k2 f a0 a1 = some rs) (Y : xY G z f s H locs) (hl : lv_has ls 2 [(0, .ref a0), (1, .int a1)]) : W p l e rm_X11_clearDraft s m args below meth c H locs 0 0 (MQ below (xQ G none z rs) args s rm_X11_clearDraft.cells rm_X11_clearDraft.slots (xA G)) (F0 m 2 ls []) := by
  have hx := X.1.1
  have hb := X.1.2.1
  unfold F_X11_clearDraft_2 at h
  refine lv_iload_n hx hb dX11_clearDraft_2 rfl (lv_at hl 1 rfl) ?_
  refine lv_bipush (v := 25) hx hb dX11_clearDraft_3 (by decide) ?_
  refine lv_icmp_ge (tgt := 21) hx hb dX11_clearDraft_5 (by decide) (fun c1 => ?_) (fun c1 => ?_)
  · replace h := Eq.trans (if_pos c1).symm h
    replace h := Option.some.inj h
    subst h
    exact q_retv X Y hr hlocks (Nat.le_of_ble_eq_true rfl) (Nat.le_of_ble_eq_true rfl) dX11_clearDraft_21
  · replace h := Eq.trans (if_neg c1).symm h
    refine lv_aload_n hx hb dX11_clearDraft_8 rfl (lv_at hl 0 rfl) ?_
    replace h := xb h
    obtain ⟨v2, ev2, h⟩ := h
    refine q_getN X Y fl_X11_23 ev2 dX11_clearDraft_9 ?_
    refine lv_iload_n hx hb dX11_clearDraft_12 rfl (lv_at hl 1 rfl) ?_
    refine lv_lconst (v := 0) hx hb dX11_clearDraft_13 (by decide) ?_
    replace h := xb h
    obtain ⟨f3, ef3, h⟩ := h
    refine q_last X Y ef3 dX11_clearDraft_14 (fun H locs Y => ?_)
    refine lv_iinc (v := (a1 + 1)) (lv' := [(1, .int (a1 + 1)), (0, .ref a0)]) hx hb dX11_clearDraft_15 hl (k := 1) rfl rfl (by decide) rfl (fun ls hl => ?_)
    refine lv_goto (tgt := 2) hx hb dX11_clearDraft_18 (by decide) ?_
    refine W.widen (k := 0) (n := 0) (Nat.le_of_ble_eq_true rfl) (Nat.le_of_ble_eq_true rfl) ?_
    exact hk2 f3 a0 (a1 + 1) _ _ _ h Y (lv_sub hl [1, 0] rfl)
set_option maxRecDepth 100000 in
set_option maxHeartbeats 4000000 in
theorem lw_X11_clearDraft_2 {p : Program} {l : Launch} {e : Env} {s : State} {m : MethodId} {args : Array Value} {below : List Frame} {meth : Method} {c : Code} {G : xG} {z : Nat} (X : xC G p m c s args RX11 cX11_clearDraft 2) (hr : meth.sig.returnType = none) (hlocks : meth.locks = false) (hin : meth.name = yX11_clearDraft.name) (rs : xHp)  : ∀ (n : Nat) (f : xHp) (a0 : Nat) (a1 : Int32) (H : Heap) (locs : List Loc) (ls : Array Slot), L_X11_clearDraft_2  n f a0 a1 = some rs → xY G z f s H locs → lv_has ls 2 [(0, .ref a0), (1, .int a1)] → W p l e rm_X11_clearDraft s m args below meth c H locs 0 0 (MQ below (xQ G none z rs) args s rm_X11_clearDraft.cells rm_X11_clearDraft.slots (xA G)) (F0 m 2 ls []) := by
  intro n
  induction n with
  | zero => intro f a0 a1 H locs ls h Y hl; cases h
  | succ n ih => intro f a0 a1 H locs ls h Y hl; exact w_X11_clearDraft_2 X hr hlocks hin rs _ ih f a0 a1 _ _ _ h Y hl
set_option maxRecDepth 100000 in
set_option maxHeartbeats 4000000 in
theorem c_X11_clearDraft (l : Launch) (G : xG) (z : Nat) (f : xHp) (h0 : Nat) (rs : xHp) (h : F_X11_clearDraft f h0 = some rs) : xM G l yX11_clearDraft cX11_clearDraft 2 none rm_X11_clearDraft [.ref h0] z f none z rs := by
  refine xM_of (by decide) (Nat.le_of_ble_eq_true rfl) ?_
  intro p e s m below meth c ls X hr hlocks hin Y hl
  have hl : lv_has ls 2 [(0, .ref h0)] := hl
  have hx := X.1.1
  have hb := X.1.2.1
  unfold F_X11_clearDraft at h
  refine lv_iconst (v := 0) hx hb dX11_clearDraft_0 (by decide) ?_
  refine lv_istore_n (lv' := [(1, .int (0 : Int32)), (0, .ref h0)]) hx hb dX11_clearDraft_1 rfl hl (by decide) rfl (fun ls hl => ?_)
  refine W.widen (k := 0) (n := 0) (Nat.le_of_ble_eq_true rfl) (Nat.le_of_ble_eq_true rfl) ?_
  exact lw_X11_clearDraft_2 X hr hlocks hin rs  xfuel f h0 (0 : Int32) _ _ _ h Y (lv_sub hl [1, 0] rfl)
/-! NeverBelowModel.poly(IIII)I -/
abbrev rm_X11_poly : Room := { frames := 2, cells := 0, slots := 0, locals := 47 }
def F_X11_poly_136 (k136 : xHp → Nat → Int32 → Int32 → Int32 → Int32 → Option (Int32 × xHp)) (f : xHp) (a0 : Nat) (a1 : Int32) (a3 : Int32) (a4 : Int32) (a5 : Int32) : Option (Int32 × xHp) := if a4 ≤ a5 then (if hKd f a0 = some 10 then (Option.bind (F_X11_becomes f a0 (9 : Int32)) fun q3 => some (q3.1, q3.2)) else none) else (Option.bind (hN f a0 [(10, 7)]) fun v4 => Option.bind (hN f a0 [(10, 4)]) fun v5 => Option.bind (hJld f v5 ((((30 : Int32) * a1) + a3) + a5)) fun v6 => Option.bind (hJst f v4 a5 v6) fun f7 => k136 f7 a0 a1 a3 a4 (a5 + 1))
def L_X11_poly_136  : Nat → xHp → Nat → Int32 → Int32 → Int32 → Int32 → Option (Int32 × xHp)
  | 0, _, _, _, _, _, _ => none
  | n + 1, f, a0, a1, a3, a4, a5 => F_X11_poly_136 (L_X11_poly_136  n) f a0 a1 a3 a4 a5
def F_X11_poly_123  (f : xHp) (a0 : Nat) : Option (Int32 × xHp) := if hKd f a0 = some 10 then (Option.bind (F_X11_fails f a0 (3 : Int32)) fun q2 => some (q2.1, q2.2)) else none
def F_X11_poly_68  (f : xHp) (a0 : Nat) (a1 : Int32) (a3 : Int32) (a4 : Int32) : Option (Int32 × xHp) := Option.bind (hN f a0 [(10, 2)]) fun v1 => Option.bind (hIld f v1 a1) fun v2 => if v2 = (-9 : Int32) then (if hKd f a0 = some 10 then (Option.bind (F_X11_fails f a0 (1 : Int32)) fun q17 => some (q17.1, q17.2)) else none) else (if 0 ≤ a4 then (if a3 < 0 then (F_X11_poly_123 f a0) else (Option.bind (hN f a0 [(10, 3)]) fun v6 => Option.bind (hIld f v6 a1) fun v7 => if v7 < a3 then (F_X11_poly_123 f a0) else (Option.bind (hN f a0 [(10, 3)]) fun v9 => Option.bind (hIld f v9 a1) fun v10 => if a4 ≤ (v10 - a3) then (if hKd f a0 = some 10 then (Option.bind (F_X11_clearDraft f a0) fun q13 => L_X11_poly_136 xfuel q13 a0 a1 a3 a4 (0 : Int32)) else none) else (F_X11_poly_123 f a0)))) else (if hKd f a0 = some 10 then (Option.bind (F_X11_fails f a0 (4 : Int32)) fun q15 => some (q15.1, q15.2)) else none))
def F_X11_poly (f : xHp) (h0 : Nat) (p1 : Int32) (p2 : Int32) (p3 : Int32) (p4 : Int32) : Option (Int32 × xHp) := Option.bind (hPut f h0 [(10, 0)] (.int (0 : Int32))) fun f1 => Option.bind (F_X11_within f1 p1.toInt64 (0 : Int64) (3 : Int64)) fun q2 => if q2 = 0 then (some ((-1 : Int32), f1)) else (Option.bind (F_X11_within f1 p2.toInt64 (0 : Int64) (2 : Int64)) fun q4 => if q4 = 0 then (some ((-2 : Int32), f1)) else (if p4 ≤ (9 : Int32) then (Option.bind (hN f1 h0 [(10, 2)]) fun v7 => Option.bind (hIld f1 v7 p1) fun v8 => if v8 = (-9 : Int32) then (F_X11_poly_68 f1 h0 p1 p3 p4) else (Option.bind (hN f1 h0 [(10, 2)]) fun v10 => Option.bind (hIld f1 v10 p1) fun v11 => if v11 = p2 then (F_X11_poly_68 f1 h0 p1 p3 p4) else (if hKd f1 h0 = some 10 then (Option.bind (F_X11_fails f1 h0 (2 : Int32)) fun q14 => some (q14.1, q14.2)) else none))) else (some ((-2 : Int32), f1))))
set_option maxRecDepth 100000 in
set_option maxHeartbeats 4000000 in
theorem w_X11_poly_136 {p : Program} {l : Launch} {e : Env} {s : State} {m : MethodId} {args : Array Value} {below : List Frame} {meth : Method} {c : Code} {G : xG} {z : Nat} (X : xC G p m c s args RX11 cX11_poly 6) (hr : meth.sig.returnType = (some .int)) (hlocks : meth.locks = false) (hin : meth.name = yX11_poly.name) (rs : Int32 × xHp) (k136 : xHp → Nat → Int32 → Int32 → Int32 → Int32 → Option (Int32 × xHp)) (hk136 : ∀ (f : xHp) (a0 : Nat) (a1 : Int32) (a3 : Int32) (a4 : Int32) (a5 : Int32) (H : Heap) (locs : List Loc) (ls : Array Slot), k136 f a0 a1 a3 a4 a5 = some rs → xY G z f s H locs → lv_has ls 6 [(0, .ref a0), (1, .int a1), (3, .int a3), (4, .int a4), (5, .int a5)] → W p l e rm_X11_poly s m args below meth c H locs 0 0 (MQ below (xQ G (some (.int rs.1)) z rs.2) args s rm_X11_poly.cells rm_X11_poly.slots (xA G)) (F0 m 136 ls [])) (f : xHp) (a0 : Nat) (a1 : Int32) (a3 : Int32) (a4 : Int32) (a5 : Int32) (H : Heap) (locs : List Loc) (ls : Array Slot) (h : F_X11_poly_136 k136 f a0 a1 a3 a4 a5 = some rs) (Y : xY G z f s H locs) (hl : lv_has ls 6 [(0, .ref a0), (1, .int a1), (3, .int a3), (4, .int a4), (5, .int a5)]) : W p l e rm_X11_poly s m args below meth c H locs 0 0 (MQ below (xQ G (some (.int rs.1)) z rs.2) args s rm_X11_poly.cells rm_X11_poly.slots (xA G)) (F0 m 136 ls []) := by
  have hx := X.1.1
  have hb := X.1.2.1
  unfold F_X11_poly_136 at h
  refine lv_iload hx hb dX11_poly_136 (lv_at hl 4 rfl) ?_
  refine lv_iload hx hb dX11_poly_138 (lv_at hl 3 rfl) ?_
  refine lv_icmp_ge (tgt := 170) hx hb dX11_poly_140 (by decide) (fun c1 => ?_) (fun c1 => ?_)
  · replace h := Eq.trans (if_pos c1).symm h
    refine lv_aload_n hx hb dX11_poly_170 rfl (lv_at hl 0 rfl) ?_
    refine lv_bipush (v := 9) hx hb dX11_poly_171 (by decide) ?_
    by_cases c2 : hKd f a0 = some 10
    · replace h := Eq.trans (if_pos c2).symm h
      replace h := xb h
      obtain ⟨q3, eq3, h⟩ := h
      refine q_callV X Y hl.1 (rest := []) (As := [.int (9 : Int32)]) (c_X11_becomes l G z f a0 (9 : Int32) _ eq3) cd_X11_becomes lv_X11_106_10 c2 ⟨(Nat.le_of_ble_eq_true rfl), (Nat.le_of_ble_eq_true rfl)⟩ ⟨(Nat.le_of_ble_eq_true rfl), (Nat.le_of_ble_eq_true rfl)⟩ rfl rfl (Nat.le_of_ble_eq_true rfl) dX11_poly_173 (fun H locs Y => ?_)
      refine W.eq (g2 := F0 m 176 ls [.int q3.1]) rfl ?_
      replace h := Option.some.inj h
      subst h
      exact q_reti X Y hr hlocks (Nat.le_of_ble_eq_true rfl) (Nat.le_of_ble_eq_true rfl) dX11_poly_176
    replace h := Eq.trans (if_neg c2).symm h
    cases h
  · replace h := Eq.trans (if_neg c1).symm h
    refine lv_aload_n hx hb dX11_poly_143 rfl (lv_at hl 0 rfl) ?_
    replace h := xb h
    obtain ⟨v4, ev4, h⟩ := h
    refine q_getN X Y fl_X11_23 ev4 dX11_poly_144 ?_
    refine lv_iload hx hb dX11_poly_147 (lv_at hl 4 rfl) ?_
    refine lv_aload_n hx hb dX11_poly_149 rfl (lv_at hl 0 rfl) ?_
    replace h := xb h
    obtain ⟨v5, ev5, h⟩ := h
    refine q_getN X Y fl_X11_16 ev5 dX11_poly_150 ?_
    refine lv_bipush (v := 30) hx hb dX11_poly_153 (by decide) ?_
    refine lv_iload_n hx hb dX11_poly_155 rfl (lv_at hl 1 rfl) ?_
    refine lv_imul hx hb dX11_poly_156 ?_
    refine lv_iload_n hx hb dX11_poly_157 rfl (lv_at hl 2 rfl) ?_
    refine lv_iadd hx hb dX11_poly_158 ?_
    refine lv_iload hx hb dX11_poly_159 (lv_at hl 4 rfl) ?_
    refine lv_iadd hx hb dX11_poly_161 ?_
    replace h := xb h
    obtain ⟨v6, ev6, h⟩ := h
    refine q_lald X Y ev6 dX11_poly_162 ?_
    replace h := xb h
    obtain ⟨f7, ef7, h⟩ := h
    refine q_last X Y ef7 dX11_poly_163 (fun H locs Y => ?_)
    refine lv_iinc (v := (a5 + 1)) (lv' := [(5, .int (a5 + 1)), (0, .ref a0), (1, .int a1), (3, .int a3), (4, .int a4)]) hx hb dX11_poly_164 hl (k := 4) rfl rfl (by decide) rfl (fun ls hl => ?_)
    refine lv_goto (tgt := 136) hx hb dX11_poly_167 (by decide) ?_
    refine W.widen (k := 0) (n := 0) (Nat.le_of_ble_eq_true rfl) (Nat.le_of_ble_eq_true rfl) ?_
    exact hk136 f7 a0 a1 a3 a4 (a5 + 1) _ _ _ h Y (lv_sub hl [1, 2, 3, 4, 0] rfl)
set_option maxRecDepth 100000 in
set_option maxHeartbeats 4000000 in
theorem lw_X11_poly_136 {p : Program} {l : Launch} {e : Env} {s : State} {m : MethodId} {args : Array Value} {below : List Frame} {meth : Method} {c : Code} {G : xG} {z : Nat} (X : xC G p m c s args RX11 cX11_poly 6) (hr : meth.sig.returnType = (some .int)) (hlocks : meth.locks = false) (hin : meth.name = yX11_poly.name) (rs : Int32 × xHp)  : ∀ (n : Nat) (f : xHp) (a0 : Nat) (a1 : Int32) (a3 : Int32) (a4 : Int32) (a5 : Int32) (H : Heap) (locs : List Loc) (ls : Array Slot), L_X11_poly_136  n f a0 a1 a3 a4 a5 = some rs → xY G z f s H locs → lv_has ls 6 [(0, .ref a0), (1, .int a1), (3, .int a3), (4, .int a4), (5, .int a5)] → W p l e rm_X11_poly s m args below meth c H locs 0 0 (MQ below (xQ G (some (.int rs.1)) z rs.2) args s rm_X11_poly.cells rm_X11_poly.slots (xA G)) (F0 m 136 ls []) := by
  intro n
  induction n with
  | zero => intro f a0 a1 a3 a4 a5 H locs ls h Y hl; cases h
  | succ n ih => intro f a0 a1 a3 a4 a5 H locs ls h Y hl; exact w_X11_poly_136 X hr hlocks hin rs _ ih f a0 a1 a3 a4 a5 _ _ _ h Y hl
set_option maxRecDepth 100000 in
set_option maxHeartbeats 4000000 in
theorem w_X11_poly_123 {p : Program} {l : Launch} {e : Env} {s : State} {m : MethodId} {args : Array Value} {below : List Frame} {meth : Method} {c : Code} {G : xG} {z : Nat} (X : xC G p m c s args RX11 cX11_poly 6) (hr : meth.sig.returnType = (some .int)) (hlocks : meth.locks = false) (hin : meth.name = yX11_poly.name) (rs : Int32 × xHp)  (f : xHp) (a0 : Nat) (H : Heap) (locs : List Loc) (ls : Array Slot) (h : F_X11_poly_123  f a0 = some rs) (Y : xY G z f s H locs) (hl : lv_has ls 6 [(0, .ref a0)]) : W p l e rm_X11_poly s m args below meth c H locs 0 0 (MQ below (xQ G (some (.int rs.1)) z rs.2) args s rm_X11_poly.cells rm_X11_poly.slots (xA G)) (F0 m 123 ls []) := by
  have hx := X.1.1
  have hb := X.1.2.1
  unfold F_X11_poly_123 at h
  refine lv_aload_n hx hb dX11_poly_123 rfl (lv_at hl 0 rfl) ?_
  refine lv_iconst (v := 3) hx hb dX11_poly_124 (by decide) ?_
  by_cases c1 : hKd f a0 = some 10
  · replace h := Eq.trans (if_pos c1).symm h
    replace h := xb h
    obtain ⟨q2, eq2, h⟩ := h
    refine q_callV X Y hl.1 (rest := []) (As := [.int (3 : Int32)]) (c_X11_fails l G z f a0 (3 : Int32) _ eq2) cd_X11_fails lv_X11_88_10 c1 ⟨(Nat.le_of_ble_eq_true rfl), (Nat.le_of_ble_eq_true rfl)⟩ ⟨(Nat.le_of_ble_eq_true rfl), (Nat.le_of_ble_eq_true rfl)⟩ rfl rfl (Nat.le_of_ble_eq_true rfl) dX11_poly_125 (fun H locs Y => ?_)
    refine W.eq (g2 := F0 m 128 ls [.int q2.1]) rfl ?_
    replace h := Option.some.inj h
    subst h
    exact q_reti X Y hr hlocks (Nat.le_of_ble_eq_true rfl) (Nat.le_of_ble_eq_true rfl) dX11_poly_128
  replace h := Eq.trans (if_neg c1).symm h
  cases h
set_option maxRecDepth 100000 in
set_option maxHeartbeats 4000000 in
theorem w_X11_poly_68 {p : Program} {l : Launch} {e : Env} {s : State} {m : MethodId} {args : Array Value} {below : List Frame} {meth : Method} {c : Code} {G : xG} {z : Nat} (X : xC G p m c s args RX11 cX11_poly 6) (hr : meth.sig.returnType = (some .int)) (hlocks : meth.locks = false) (hin : meth.name = yX11_poly.name) (rs : Int32 × xHp)  (f : xHp) (a0 : Nat) (a1 : Int32) (a3 : Int32) (a4 : Int32) (H : Heap) (locs : List Loc) (ls : Array Slot) (h : F_X11_poly_68  f a0 a1 a3 a4 = some rs) (Y : xY G z f s H locs) (hl : lv_has ls 6 [(0, .ref a0), (1, .int a1), (3, .int a3), (4, .int a4)]) : W p l e rm_X11_poly s m args below meth c H locs 0 0 (MQ below (xQ G (some (.int rs.1)) z rs.2) args s rm_X11_poly.cells rm_X11_poly.slots (xA G)) (F0 m 68 ls []) := by
  have hx := X.1.1
  have hb := X.1.2.1
  unfold F_X11_poly_68 at h
  refine lv_aload_n hx hb dX11_poly_68 rfl (lv_at hl 0 rfl) ?_
  replace h := xb h
  obtain ⟨v1, ev1, h⟩ := h
  refine q_getN X Y fl_X11_9 ev1 dX11_poly_69 ?_
  refine lv_iload_n hx hb dX11_poly_72 rfl (lv_at hl 1 rfl) ?_
  replace h := xb h
  obtain ⟨v2, ev2, h⟩ := h
  refine q_iald X Y ev2 dX11_poly_73 ?_
  refine lv_bipush (v := -9) hx hb dX11_poly_74 (by decide) ?_
  refine lv_icmp_ne (tgt := 85) hx hb dX11_poly_76 (by decide) (fun c3 => ?_) (fun c3 => ?_)
  · replace h := Eq.trans (if_neg c3).symm h
    refine lv_iload hx hb dX11_poly_85 (lv_at hl 3 rfl) ?_
    refine lv_if_ge (tgt := 96) hx hb dX11_poly_87 (by decide) (fun c4 => ?_) (fun c4 => ?_)
    · replace h := Eq.trans (if_pos c4).symm h
      refine lv_iload_n hx hb dX11_poly_96 rfl (lv_at hl 2 rfl) ?_
      refine lv_if_lt (tgt := 123) hx hb dX11_poly_97 (by decide) (fun c5 => ?_) (fun c5 => ?_)
      · replace h := Eq.trans (if_pos c5).symm h
        refine W.widen (k := 0) (n := 0) (Nat.le_of_ble_eq_true rfl) (Nat.le_of_ble_eq_true rfl) ?_
        exact w_X11_poly_123 X hr hlocks hin rs   f a0 _ _ _ h Y (lv_sub hl [0] rfl)
      · replace h := Eq.trans (if_neg c5).symm h
        refine lv_iload_n hx hb dX11_poly_100 rfl (lv_at hl 2 rfl) ?_
        refine lv_aload_n hx hb dX11_poly_101 rfl (lv_at hl 0 rfl) ?_
        replace h := xb h
        obtain ⟨v6, ev6, h⟩ := h
        refine q_getN X Y fl_X11_13 ev6 dX11_poly_102 ?_
        refine lv_iload_n hx hb dX11_poly_105 rfl (lv_at hl 1 rfl) ?_
        replace h := xb h
        obtain ⟨v7, ev7, h⟩ := h
        refine q_iald X Y ev7 dX11_poly_106 ?_
        refine lv_icmp_gt (tgt := 123) hx hb dX11_poly_107 (by decide) (fun c8 => ?_) (fun c8 => ?_)
        · replace h := Eq.trans (if_pos c8).symm h
          refine W.widen (k := 0) (n := 0) (Nat.le_of_ble_eq_true rfl) (Nat.le_of_ble_eq_true rfl) ?_
          exact w_X11_poly_123 X hr hlocks hin rs   f a0 _ _ _ h Y (lv_sub hl [0] rfl)
        · replace h := Eq.trans (if_neg c8).symm h
          refine lv_iload hx hb dX11_poly_110 (lv_at hl 3 rfl) ?_
          refine lv_aload_n hx hb dX11_poly_112 rfl (lv_at hl 0 rfl) ?_
          replace h := xb h
          obtain ⟨v9, ev9, h⟩ := h
          refine q_getN X Y fl_X11_13 ev9 dX11_poly_113 ?_
          refine lv_iload_n hx hb dX11_poly_116 rfl (lv_at hl 1 rfl) ?_
          replace h := xb h
          obtain ⟨v10, ev10, h⟩ := h
          refine q_iald X Y ev10 dX11_poly_117 ?_
          refine lv_iload_n hx hb dX11_poly_118 rfl (lv_at hl 2 rfl) ?_
          refine lv_isub hx hb dX11_poly_119 ?_
          refine lv_icmp_le (tgt := 129) hx hb dX11_poly_120 (by decide) (fun c11 => ?_) (fun c11 => ?_)
          · replace h := Eq.trans (if_pos c11).symm h
            refine lv_aload_n hx hb dX11_poly_129 rfl (lv_at hl 0 rfl) ?_
            by_cases c12 : hKd f a0 = some 10
            · replace h := Eq.trans (if_pos c12).symm h
              replace h := xb h
              obtain ⟨q13, eq13, h⟩ := h
              refine q_callV X Y hl.1 (rest := []) (As := []) (c_X11_clearDraft l G z f a0 _ eq13) cd_X11_clearDraft lv_X11_103_10 c12 ⟨(Nat.le_of_ble_eq_true rfl), (Nat.le_of_ble_eq_true rfl)⟩ ⟨(Nat.le_of_ble_eq_true rfl), (Nat.le_of_ble_eq_true rfl)⟩ rfl rfl (Nat.le_of_ble_eq_true rfl) dX11_poly_130 (fun H locs Y => ?_)
              refine W.eq (g2 := F0 m 133 ls []) rfl ?_
              refine lv_iconst (v := 0) hx hb dX11_poly_133 (by decide) ?_
              refine lv_istore (lv' := [(5, .int (0 : Int32)), (0, .ref a0), (1, .int a1), (3, .int a3), (4, .int a4)]) hx hb dX11_poly_134 hl (by decide) rfl (fun ls hl => ?_)
              refine W.widen (k := 0) (n := 0) (Nat.le_of_ble_eq_true rfl) (Nat.le_of_ble_eq_true rfl) ?_
              exact lw_X11_poly_136 X hr hlocks hin rs  xfuel q13 a0 a1 a3 a4 (0 : Int32) _ _ _ h Y (lv_sub hl [1, 2, 3, 4, 0] rfl)
            replace h := Eq.trans (if_neg c12).symm h
            cases h
          · replace h := Eq.trans (if_neg c11).symm h
            refine W.widen (k := 0) (n := 0) (Nat.le_of_ble_eq_true rfl) (Nat.le_of_ble_eq_true rfl) ?_
            exact w_X11_poly_123 X hr hlocks hin rs   f a0 _ _ _ h Y (lv_sub hl [0] rfl)
    · replace h := Eq.trans (if_neg c4).symm h
      refine lv_aload_n hx hb dX11_poly_90 rfl (lv_at hl 0 rfl) ?_
      refine lv_iconst (v := 4) hx hb dX11_poly_91 (by decide) ?_
      by_cases c14 : hKd f a0 = some 10
      · replace h := Eq.trans (if_pos c14).symm h
        replace h := xb h
        obtain ⟨q15, eq15, h⟩ := h
        refine q_callV X Y hl.1 (rest := []) (As := [.int (4 : Int32)]) (c_X11_fails l G z f a0 (4 : Int32) _ eq15) cd_X11_fails lv_X11_88_10 c14 ⟨(Nat.le_of_ble_eq_true rfl), (Nat.le_of_ble_eq_true rfl)⟩ ⟨(Nat.le_of_ble_eq_true rfl), (Nat.le_of_ble_eq_true rfl)⟩ rfl rfl (Nat.le_of_ble_eq_true rfl) dX11_poly_92 (fun H locs Y => ?_)
        refine W.eq (g2 := F0 m 95 ls [.int q15.1]) rfl ?_
        replace h := Option.some.inj h
        subst h
        exact q_reti X Y hr hlocks (Nat.le_of_ble_eq_true rfl) (Nat.le_of_ble_eq_true rfl) dX11_poly_95
      replace h := Eq.trans (if_neg c14).symm h
      cases h
  · replace h := Eq.trans (if_pos c3).symm h
    refine lv_aload_n hx hb dX11_poly_79 rfl (lv_at hl 0 rfl) ?_
    refine lv_iconst (v := 1) hx hb dX11_poly_80 (by decide) ?_
    by_cases c16 : hKd f a0 = some 10
    · replace h := Eq.trans (if_pos c16).symm h
      replace h := xb h
      obtain ⟨q17, eq17, h⟩ := h
      refine q_callV X Y hl.1 (rest := []) (As := [.int (1 : Int32)]) (c_X11_fails l G z f a0 (1 : Int32) _ eq17) cd_X11_fails lv_X11_88_10 c16 ⟨(Nat.le_of_ble_eq_true rfl), (Nat.le_of_ble_eq_true rfl)⟩ ⟨(Nat.le_of_ble_eq_true rfl), (Nat.le_of_ble_eq_true rfl)⟩ rfl rfl (Nat.le_of_ble_eq_true rfl) dX11_poly_81 (fun H locs Y => ?_)
      refine W.eq (g2 := F0 m 84 ls [.int q17.1]) rfl ?_
      replace h := Option.some.inj h
      subst h
      exact q_reti X Y hr hlocks (Nat.le_of_ble_eq_true rfl) (Nat.le_of_ble_eq_true rfl) dX11_poly_84
    replace h := Eq.trans (if_neg c16).symm h
    cases h
set_option maxRecDepth 100000 in
set_option maxHeartbeats 4000000 in
theorem c_X11_poly (l : Launch) (G : xG) (z : Nat) (f : xHp) (h0 : Nat) (p1 : Int32) (p2 : Int32) (p3 : Int32) (p4 : Int32) (rs : Int32 × xHp) (h : F_X11_poly f h0 p1 p2 p3 p4 = some rs) : xM G l yX11_poly cX11_poly 6 (some .int) rm_X11_poly [.ref h0, .int p1, .int p2, .int p3, .int p4] z f (some (.int rs.1)) z rs.2 := by
  refine xM_of (by decide) (Nat.le_of_ble_eq_true rfl) ?_
  intro p e s m below meth c ls X hr hlocks hin Y hl
  have hl : lv_has ls 6 [(0, .ref h0), (1, .int p1), (2, .int p2), (3, .int p3), (4, .int p4)] := hl
  have hx := X.1.1
  have hb := X.1.2.1
  unfold F_X11_poly at h
  refine lv_aload_n hx hb dX11_poly_0 rfl (lv_at hl 0 rfl) ?_
  refine lv_iconst (v := 0) hx hb dX11_poly_1 (by decide) ?_
  replace h := xb h
  obtain ⟨f1, ef1, h⟩ := h
  refine q_put X Y fp_X11_74 rfl rfl ef1 dX11_poly_2 (fun H locs Y => ?_)
  refine lv_iload_n hx hb dX11_poly_5 rfl (lv_at hl 1 rfl) ?_
  refine lv_i2l hx hb dX11_poly_6 rfl ?_
  refine lv_lconst (v := 0) hx hb dX11_poly_7 (by decide) ?_
  refine lv_ldc2 (v := 3) hx hb X.1.2.2.2.1 (X.1.2.2.2.2 _ xw_919) dX11_poly_8 ?_
  replace h := xb h
  obtain ⟨q2, eq2, h⟩ := h
  refine q_callS X Y hl.1 (rest := []) (As := [.long p1.toInt64, .long (0 : Int64), .long (3 : Int64)]) (c_X11_within l G z f1 p1.toInt64 (0 : Int64) (3 : Int64) _ eq2) cd_X11_within ls_X11_82 ⟨(Nat.le_of_ble_eq_true rfl), (Nat.le_of_ble_eq_true rfl)⟩ ⟨(Nat.le_of_ble_eq_true rfl), (Nat.le_of_ble_eq_true rfl)⟩ rfl rfl (Nat.le_of_ble_eq_true rfl) dX11_poly_11 (fun H locs Y => ?_)
  refine W.eq (g2 := F0 m 14 ls [.int q2]) rfl ?_
  refine lv_if_ne (tgt := 19) hx hb dX11_poly_14 (by decide) (fun c3 => ?_) (fun c3 => ?_)
  · replace h := Eq.trans (if_neg c3).symm h
    refine lv_iload_n hx hb dX11_poly_19 rfl (lv_at hl 2 rfl) ?_
    refine lv_i2l hx hb dX11_poly_20 rfl ?_
    refine lv_lconst (v := 0) hx hb dX11_poly_21 (by decide) ?_
    refine lv_ldc2 (v := 2) hx hb X.1.2.2.2.1 (X.1.2.2.2.2 _ xw_923) dX11_poly_22 ?_
    replace h := xb h
    obtain ⟨q4, eq4, h⟩ := h
    refine q_callS X Y hl.1 (rest := []) (As := [.long p2.toInt64, .long (0 : Int64), .long (2 : Int64)]) (c_X11_within l G z f1 p2.toInt64 (0 : Int64) (2 : Int64) _ eq4) cd_X11_within ls_X11_82 ⟨(Nat.le_of_ble_eq_true rfl), (Nat.le_of_ble_eq_true rfl)⟩ ⟨(Nat.le_of_ble_eq_true rfl), (Nat.le_of_ble_eq_true rfl)⟩ rfl rfl (Nat.le_of_ble_eq_true rfl) dX11_poly_25 (fun H locs Y => ?_)
    refine W.eq (g2 := F0 m 28 ls [.int q4]) rfl ?_
    refine lv_if_eq (tgt := 38) hx hb dX11_poly_28 (by decide) (fun c5 => ?_) (fun c5 => ?_)
    · replace h := Eq.trans (if_pos c5).symm h
      refine lv_bipush (v := -2) hx hb dX11_poly_38 (by decide) ?_
      replace h := Option.some.inj h
      subst h
      exact q_reti X Y hr hlocks (Nat.le_of_ble_eq_true rfl) (Nat.le_of_ble_eq_true rfl) dX11_poly_40
    · replace h := Eq.trans (if_neg c5).symm h
      refine lv_iload hx hb dX11_poly_31 (lv_at hl 4 rfl) ?_
      refine lv_bipush (v := 9) hx hb dX11_poly_33 (by decide) ?_
      refine lv_icmp_le (tgt := 41) hx hb dX11_poly_35 (by decide) (fun c6 => ?_) (fun c6 => ?_)
      · replace h := Eq.trans (if_pos c6).symm h
        refine lv_aload_n hx hb dX11_poly_41 rfl (lv_at hl 0 rfl) ?_
        replace h := xb h
        obtain ⟨v7, ev7, h⟩ := h
        refine q_getN X Y fl_X11_9 ev7 dX11_poly_42 ?_
        refine lv_iload_n hx hb dX11_poly_45 rfl (lv_at hl 1 rfl) ?_
        replace h := xb h
        obtain ⟨v8, ev8, h⟩ := h
        refine q_iald X Y ev8 dX11_poly_46 ?_
        refine lv_bipush (v := -9) hx hb dX11_poly_47 (by decide) ?_
        refine lv_icmp_eq (tgt := 68) hx hb dX11_poly_49 (by decide) (fun c9 => ?_) (fun c9 => ?_)
        · replace h := Eq.trans (if_pos c9).symm h
          refine W.widen (k := 0) (n := 0) (Nat.le_of_ble_eq_true rfl) (Nat.le_of_ble_eq_true rfl) ?_
          exact w_X11_poly_68 X hr hlocks hin rs   f1 h0 p1 p3 p4 _ _ _ h Y (lv_sub hl [0, 1, 3, 4] rfl)
        · replace h := Eq.trans (if_neg c9).symm h
          refine lv_aload_n hx hb dX11_poly_52 rfl (lv_at hl 0 rfl) ?_
          replace h := xb h
          obtain ⟨v10, ev10, h⟩ := h
          refine q_getN X Y fl_X11_9 ev10 dX11_poly_53 ?_
          refine lv_iload_n hx hb dX11_poly_56 rfl (lv_at hl 1 rfl) ?_
          replace h := xb h
          obtain ⟨v11, ev11, h⟩ := h
          refine q_iald X Y ev11 dX11_poly_57 ?_
          refine lv_iload_n hx hb dX11_poly_58 rfl (lv_at hl 2 rfl) ?_
          refine lv_icmp_eq (tgt := 68) hx hb dX11_poly_59 (by decide) (fun c12 => ?_) (fun c12 => ?_)
          · replace h := Eq.trans (if_pos c12).symm h
            refine W.widen (k := 0) (n := 0) (Nat.le_of_ble_eq_true rfl) (Nat.le_of_ble_eq_true rfl) ?_
            exact w_X11_poly_68 X hr hlocks hin rs   f1 h0 p1 p3 p4 _ _ _ h Y (lv_sub hl [0, 1, 3, 4] rfl)
          · replace h := Eq.trans (if_neg c12).symm h
            refine lv_aload_n hx hb dX11_poly_62 rfl (lv_at hl 0 rfl) ?_
            refine lv_iconst (v := 2) hx hb dX11_poly_63 (by decide) ?_
            by_cases c13 : hKd f1 h0 = some 10
            · replace h := Eq.trans (if_pos c13).symm h
              replace h := xb h
              obtain ⟨q14, eq14, h⟩ := h
              refine q_callV X Y hl.1 (rest := []) (As := [.int (2 : Int32)]) (c_X11_fails l G z f1 h0 (2 : Int32) _ eq14) cd_X11_fails lv_X11_88_10 c13 ⟨(Nat.le_of_ble_eq_true rfl), (Nat.le_of_ble_eq_true rfl)⟩ ⟨(Nat.le_of_ble_eq_true rfl), (Nat.le_of_ble_eq_true rfl)⟩ rfl rfl (Nat.le_of_ble_eq_true rfl) dX11_poly_64 (fun H locs Y => ?_)
              refine W.eq (g2 := F0 m 67 ls [.int q14.1]) rfl ?_
              replace h := Option.some.inj h
              subst h
              exact q_reti X Y hr hlocks (Nat.le_of_ble_eq_true rfl) (Nat.le_of_ble_eq_true rfl) dX11_poly_67
            replace h := Eq.trans (if_neg c13).symm h
            cases h
      · replace h := Eq.trans (if_neg c6).symm h
        refine lv_bipush (v := -2) hx hb dX11_poly_38 (by decide) ?_
        replace h := Option.some.inj h
        subst h
        exact q_reti X Y hr hlocks (Nat.le_of_ble_eq_true rfl) (Nat.le_of_ble_eq_true rfl) dX11_poly_40
  · replace h := Eq.trans (if_pos c3).symm h
    refine lv_iconst (v := -1) hx hb dX11_poly_17 (by decide) ?_
    replace h := Option.some.inj h
    subst h
    exact q_reti X Y hr hlocks (Nat.le_of_ble_eq_true rfl) (Nat.le_of_ble_eq_true rfl) dX11_poly_18
/-! NeverBelowModel.isPoly(I)Z -/
abbrev rm_X11_isPoly : Room := { frames := 0, cells := 0, slots := 0, locals := 0 }
def F_X11_isPoly (f : xHp) (h0 : Nat) (p1 : Int32) : Option (Int32) := if p1 < 0 then (some (0 : Int32)) else (Option.bind (hI f h0 [(10, 5)]) fun v2 => if v2 ≤ p1 then (some (0 : Int32)) else (some (1 : Int32)))
set_option maxRecDepth 100000 in
set_option maxHeartbeats 4000000 in
theorem c_X11_isPoly (l : Launch) (G : xG) (z : Nat) (f : xHp) (h0 : Nat) (p1 : Int32) (rs : Int32) (h : F_X11_isPoly f h0 p1 = some rs) : xM G l yX11_isPoly cX11_isPoly 2 (some .boolean) rm_X11_isPoly [.ref h0, .int p1] z f (some (.int rs)) z f := by
  refine xM_of (by decide) (Nat.le_of_ble_eq_true rfl) ?_
  intro p e s m below meth c ls X hr hlocks hin Y hl
  have hl : lv_has ls 2 [(0, .ref h0), (1, .int p1)] := hl
  have hx := X.1.1
  have hb := X.1.2.1
  unfold F_X11_isPoly at h
  refine lv_iload_n hx hb dX11_isPoly_0 rfl (lv_at hl 1 rfl) ?_
  refine lv_if_lt (tgt := 16) hx hb dX11_isPoly_1 (by decide) (fun c1 => ?_) (fun c1 => ?_)
  · replace h := Eq.trans (if_pos c1).symm h
    refine lv_iconst (v := 0) hx hb dX11_isPoly_16 (by decide) ?_
    replace h := Option.some.inj h
    subst h
    exact q_retz (v := (0 : Int32)) X Y hr hlocks rfl (Nat.le_of_ble_eq_true rfl) (Nat.le_of_ble_eq_true rfl) dX11_isPoly_17
  · replace h := Eq.trans (if_neg c1).symm h
    refine lv_iload_n hx hb dX11_isPoly_4 rfl (lv_at hl 1 rfl) ?_
    refine lv_aload_n hx hb dX11_isPoly_5 rfl (lv_at hl 0 rfl) ?_
    replace h := xb h
    obtain ⟨v2, ev2, h⟩ := h
    refine q_getI X Y fl_X11_96 ev2 dX11_isPoly_6 ?_
    refine lv_icmp_ge (tgt := 16) hx hb dX11_isPoly_9 (by decide) (fun c3 => ?_) (fun c3 => ?_)
    · replace h := Eq.trans (if_pos c3).symm h
      refine lv_iconst (v := 0) hx hb dX11_isPoly_16 (by decide) ?_
      replace h := Option.some.inj h
      subst h
      exact q_retz (v := (0 : Int32)) X Y hr hlocks rfl (Nat.le_of_ble_eq_true rfl) (Nat.le_of_ble_eq_true rfl) dX11_isPoly_17
    · replace h := Eq.trans (if_neg c3).symm h
      refine lv_iconst (v := 1) hx hb dX11_isPoly_12 (by decide) ?_
      refine lv_goto (tgt := 17) hx hb dX11_isPoly_13 (by decide) ?_
      replace h := Option.some.inj h
      subst h
      exact q_retz (v := (1 : Int32)) X Y hr hlocks rfl (Nat.le_of_ble_eq_true rfl) (Nat.le_of_ble_eq_true rfl) dX11_isPoly_17
/-! NeverBelowModel.termOf(II)J -/
abbrev rm_X11_termOf : Room := { frames := 0, cells := 0, slots := 0, locals := 0 }
def F_X11_termOf (f : xHp) (h0 : Nat) (p1 : Int32) (p2 : Int32) : Option (Int64) := Option.bind (hN f h0 [(10, 6)]) fun v1 => Option.bind (hJld f v1 (((9 : Int32) * p1) + p2)) fun v2 => some v2
set_option maxRecDepth 100000 in
set_option maxHeartbeats 4000000 in
theorem c_X11_termOf (l : Launch) (G : xG) (z : Nat) (f : xHp) (h0 : Nat) (p1 : Int32) (p2 : Int32) (rs : Int64) (h : F_X11_termOf f h0 p1 p2 = some rs) : xM G l yX11_termOf cX11_termOf 3 (some .long) rm_X11_termOf [.ref h0, .int p1, .int p2] z f (some (.long rs)) z f := by
  refine xM_of (by decide) (Nat.le_of_ble_eq_true rfl) ?_
  intro p e s m below meth c ls X hr hlocks hin Y hl
  have hl : lv_has ls 3 [(0, .ref h0), (1, .int p1), (2, .int p2)] := hl
  have hx := X.1.1
  have hb := X.1.2.1
  unfold F_X11_termOf at h
  refine lv_aload_n hx hb dX11_termOf_0 rfl (lv_at hl 0 rfl) ?_
  replace h := xb h
  obtain ⟨v1, ev1, h⟩ := h
  refine q_getN X Y fl_X11_20 ev1 dX11_termOf_1 ?_
  refine lv_bipush (v := 9) hx hb dX11_termOf_4 (by decide) ?_
  refine lv_iload_n hx hb dX11_termOf_6 rfl (lv_at hl 1 rfl) ?_
  refine lv_imul hx hb dX11_termOf_7 ?_
  refine lv_iload_n hx hb dX11_termOf_8 rfl (lv_at hl 2 rfl) ?_
  refine lv_iadd hx hb dX11_termOf_9 ?_
  replace h := xb h
  obtain ⟨v2, ev2, h⟩ := h
  refine q_lald X Y ev2 dX11_termOf_10 ?_
  replace h := Option.some.inj h
  subst h
  exact q_retl X Y hr hlocks (Nat.le_of_ble_eq_true rfl) (Nat.le_of_ble_eq_true rfl) dX11_termOf_11
/-! NeverBelowModel.add(III)I -/
abbrev rm_X11_add : Room := { frames := 2, cells := 0, slots := 0, locals := 47 }
def F_X11_add_42 (k42 : xHp → Nat → Int32 → Int32 → Int32 → Int32 → Option (Int32 × xHp)) (f : xHp) (a0 : Nat) (a1 : Int32) (a2 : Int32) (a3 : Int32) (a4 : Int32) : Option (Int32 × xHp) := if (9 : Int32) ≤ a4 then (if hKd f a0 = some 10 then (Option.bind (F_X11_becomes f a0 (9 : Int32)) fun q3 => some (q3.1, q3.2)) else none) else (Option.bind (hN f a0 [(10, 7)]) fun v4 => if hKd f a0 = some 10 then (Option.bind (F_X11_termOf f a0 a1 a4) fun q6 => if hKd f a0 = some 10 then (Option.bind (F_X11_termOf f a0 a2 a4) fun q8 => Option.bind (hJst f v4 a4 (q6 + (a3.toInt64 * q8))) fun f9 => k42 f9 a0 a1 a2 a3 (a4 + 1)) else none) else none)
def L_X11_add_42  : Nat → xHp → Nat → Int32 → Int32 → Int32 → Int32 → Option (Int32 × xHp)
  | 0, _, _, _, _, _, _ => none
  | n + 1, f, a0, a1, a2, a3, a4 => F_X11_add_42 (L_X11_add_42  n) f a0 a1 a2 a3 a4
def F_X11_add (f : xHp) (h0 : Nat) (p1 : Int32) (p2 : Int32) (p3 : Int32) : Option (Int32 × xHp) := if hKd f h0 = some 10 then (Option.bind (F_X11_isPoly f h0 p1) fun q2 => if q2 = 0 then (some ((-1 : Int32), f)) else (if hKd f h0 = some 10 then (Option.bind (F_X11_isPoly f h0 p2) fun q5 => if q5 = 0 then (some ((-1 : Int32), f)) else (Option.bind (F_X11_within f p3.toInt64 (-1000 : Int64) (1000 : Int64)) fun q7 => if q7 = 0 then (some ((-2 : Int32), f)) else (if hKd f h0 = some 10 then (Option.bind (F_X11_clearDraft f h0) fun q10 => L_X11_add_42 xfuel q10 h0 p1 p2 p3 (0 : Int32)) else none))) else none)) else none
set_option maxRecDepth 100000 in
set_option maxHeartbeats 4000000 in
theorem w_X11_add_42 {p : Program} {l : Launch} {e : Env} {s : State} {m : MethodId} {args : Array Value} {below : List Frame} {meth : Method} {c : Code} {G : xG} {z : Nat} (X : xC G p m c s args RX11 cX11_add 5) (hr : meth.sig.returnType = (some .int)) (hlocks : meth.locks = false) (hin : meth.name = yX11_add.name) (rs : Int32 × xHp) (k42 : xHp → Nat → Int32 → Int32 → Int32 → Int32 → Option (Int32 × xHp)) (hk42 : ∀ (f : xHp) (a0 : Nat) (a1 : Int32) (a2 : Int32) (a3 : Int32) (a4 : Int32) (H : Heap) (locs : List Loc) (ls : Array Slot), k42 f a0 a1 a2 a3 a4 = some rs → xY G z f s H locs → lv_has ls 5 [(0, .ref a0), (1, .int a1), (2, .int a2), (3, .int a3), (4, .int a4)] → W p l e rm_X11_add s m args below meth c H locs 0 0 (MQ below (xQ G (some (.int rs.1)) z rs.2) args s rm_X11_add.cells rm_X11_add.slots (xA G)) (F0 m 42 ls [])) (f : xHp) (a0 : Nat) (a1 : Int32) (a2 : Int32) (a3 : Int32) (a4 : Int32) (H : Heap) (locs : List Loc) (ls : Array Slot) (h : F_X11_add_42 k42 f a0 a1 a2 a3 a4 = some rs) (Y : xY G z f s H locs) (hl : lv_has ls 5 [(0, .ref a0), (1, .int a1), (2, .int a2), (3, .int a3), (4, .int a4)]) : W p l e rm_X11_add s m args below meth c H locs 0 0 (MQ below (xQ G (some (.int rs.1)) z rs.2) args s rm_X11_add.cells rm_X11_add.slots (xA G)) (F0 m 42 ls []) := by
  have hx := X.1.1
  have hb := X.1.2.1
  unfold F_X11_add_42 at h
  refine lv_iload hx hb dX11_add_42 (lv_at hl 4 rfl) ?_
  refine lv_bipush (v := 9) hx hb dX11_add_44 (by decide) ?_
  refine lv_icmp_ge (tgt := 80) hx hb dX11_add_46 (by decide) (fun c1 => ?_) (fun c1 => ?_)
  · replace h := Eq.trans (if_pos c1).symm h
    refine lv_aload_n hx hb dX11_add_80 rfl (lv_at hl 0 rfl) ?_
    refine lv_bipush (v := 9) hx hb dX11_add_81 (by decide) ?_
    by_cases c2 : hKd f a0 = some 10
    · replace h := Eq.trans (if_pos c2).symm h
      replace h := xb h
      obtain ⟨q3, eq3, h⟩ := h
      refine q_callV X Y hl.1 (rest := []) (As := [.int (9 : Int32)]) (c_X11_becomes l G z f a0 (9 : Int32) _ eq3) cd_X11_becomes lv_X11_106_10 c2 ⟨(Nat.le_of_ble_eq_true rfl), (Nat.le_of_ble_eq_true rfl)⟩ ⟨(Nat.le_of_ble_eq_true rfl), (Nat.le_of_ble_eq_true rfl)⟩ rfl rfl (Nat.le_of_ble_eq_true rfl) dX11_add_83 (fun H locs Y => ?_)
      refine W.eq (g2 := F0 m 86 ls [.int q3.1]) rfl ?_
      replace h := Option.some.inj h
      subst h
      exact q_reti X Y hr hlocks (Nat.le_of_ble_eq_true rfl) (Nat.le_of_ble_eq_true rfl) dX11_add_86
    replace h := Eq.trans (if_neg c2).symm h
    cases h
  · replace h := Eq.trans (if_neg c1).symm h
    refine lv_aload_n hx hb dX11_add_49 rfl (lv_at hl 0 rfl) ?_
    replace h := xb h
    obtain ⟨v4, ev4, h⟩ := h
    refine q_getN X Y fl_X11_23 ev4 dX11_add_50 ?_
    refine lv_iload hx hb dX11_add_53 (lv_at hl 4 rfl) ?_
    refine lv_aload_n hx hb dX11_add_55 rfl (lv_at hl 0 rfl) ?_
    refine lv_iload_n hx hb dX11_add_56 rfl (lv_at hl 1 rfl) ?_
    refine lv_iload hx hb dX11_add_57 (lv_at hl 4 rfl) ?_
    by_cases c5 : hKd f a0 = some 10
    · replace h := Eq.trans (if_pos c5).symm h
      replace h := xb h
      obtain ⟨q6, eq6, h⟩ := h
      refine q_callV X Y hl.1 (rest := [.int a4, .ref v4]) (As := [.int a1, .int a4]) (c_X11_termOf l G z f a0 a1 a4 _ eq6) cd_X11_termOf lv_X11_113_10 c5 ⟨(Nat.le_of_ble_eq_true rfl), (Nat.le_of_ble_eq_true rfl)⟩ ⟨(Nat.le_of_ble_eq_true rfl), (Nat.le_of_ble_eq_true rfl)⟩ rfl rfl (Nat.le_of_ble_eq_true rfl) dX11_add_59 (fun H locs Y => ?_)
      refine W.eq (g2 := F0 m 62 ls [.long q6, .int a4, .ref v4]) rfl ?_
      refine lv_iload_n hx hb dX11_add_62 rfl (lv_at hl 3 rfl) ?_
      refine lv_i2l hx hb dX11_add_63 rfl ?_
      refine lv_aload_n hx hb dX11_add_64 rfl (lv_at hl 0 rfl) ?_
      refine lv_iload_n hx hb dX11_add_65 rfl (lv_at hl 2 rfl) ?_
      refine lv_iload hx hb dX11_add_66 (lv_at hl 4 rfl) ?_
      by_cases c7 : hKd f a0 = some 10
      · replace h := Eq.trans (if_pos c7).symm h
        replace h := xb h
        obtain ⟨q8, eq8, h⟩ := h
        refine q_callV X Y hl.1 (rest := [.long a3.toInt64, .long q6, .int a4, .ref v4]) (As := [.int a2, .int a4]) (c_X11_termOf l G z f a0 a2 a4 _ eq8) cd_X11_termOf lv_X11_113_10 c7 ⟨(Nat.le_of_ble_eq_true rfl), (Nat.le_of_ble_eq_true rfl)⟩ ⟨(Nat.le_of_ble_eq_true rfl), (Nat.le_of_ble_eq_true rfl)⟩ rfl rfl (Nat.le_of_ble_eq_true rfl) dX11_add_68 (fun H locs Y => ?_)
        refine W.eq (g2 := F0 m 71 ls [.long q8, .long a3.toInt64, .long q6, .int a4, .ref v4]) rfl ?_
        refine lv_lmul hx hb dX11_add_71 ?_
        refine lv_ladd hx hb dX11_add_72 ?_
        replace h := xb h
        obtain ⟨f9, ef9, h⟩ := h
        refine q_last X Y ef9 dX11_add_73 (fun H locs Y => ?_)
        refine lv_iinc (v := (a4 + 1)) (lv' := [(4, .int (a4 + 1)), (0, .ref a0), (1, .int a1), (2, .int a2), (3, .int a3)]) hx hb dX11_add_74 hl (k := 4) rfl rfl (by decide) rfl (fun ls hl => ?_)
        refine lv_goto (tgt := 42) hx hb dX11_add_77 (by decide) ?_
        refine W.widen (k := 0) (n := 0) (Nat.le_of_ble_eq_true rfl) (Nat.le_of_ble_eq_true rfl) ?_
        exact hk42 f9 a0 a1 a2 a3 (a4 + 1) _ _ _ h Y (lv_sub hl [1, 2, 3, 4, 0] rfl)
      replace h := Eq.trans (if_neg c7).symm h
      cases h
    replace h := Eq.trans (if_neg c5).symm h
    cases h
set_option maxRecDepth 100000 in
set_option maxHeartbeats 4000000 in
theorem lw_X11_add_42 {p : Program} {l : Launch} {e : Env} {s : State} {m : MethodId} {args : Array Value} {below : List Frame} {meth : Method} {c : Code} {G : xG} {z : Nat} (X : xC G p m c s args RX11 cX11_add 5) (hr : meth.sig.returnType = (some .int)) (hlocks : meth.locks = false) (hin : meth.name = yX11_add.name) (rs : Int32 × xHp)  : ∀ (n : Nat) (f : xHp) (a0 : Nat) (a1 : Int32) (a2 : Int32) (a3 : Int32) (a4 : Int32) (H : Heap) (locs : List Loc) (ls : Array Slot), L_X11_add_42  n f a0 a1 a2 a3 a4 = some rs → xY G z f s H locs → lv_has ls 5 [(0, .ref a0), (1, .int a1), (2, .int a2), (3, .int a3), (4, .int a4)] → W p l e rm_X11_add s m args below meth c H locs 0 0 (MQ below (xQ G (some (.int rs.1)) z rs.2) args s rm_X11_add.cells rm_X11_add.slots (xA G)) (F0 m 42 ls []) := by
  intro n
  induction n with
  | zero => intro f a0 a1 a2 a3 a4 H locs ls h Y hl; cases h
  | succ n ih => intro f a0 a1 a2 a3 a4 H locs ls h Y hl; exact w_X11_add_42 X hr hlocks hin rs _ ih f a0 a1 a2 a3 a4 _ _ _ h Y hl
set_option maxRecDepth 100000 in
set_option maxHeartbeats 4000000 in
theorem c_X11_add (l : Launch) (G : xG) (z : Nat) (f : xHp) (h0 : Nat) (p1 : Int32) (p2 : Int32) (p3 : Int32) (rs : Int32 × xHp) (h : F_X11_add f h0 p1 p2 p3 = some rs) : xM G l yX11_add cX11_add 5 (some .int) rm_X11_add [.ref h0, .int p1, .int p2, .int p3] z f (some (.int rs.1)) z rs.2 := by
  refine xM_of (by decide) (Nat.le_of_ble_eq_true rfl) ?_
  intro p e s m below meth c ls X hr hlocks hin Y hl
  have hl : lv_has ls 5 [(0, .ref h0), (1, .int p1), (2, .int p2), (3, .int p3)] := hl
  have hx := X.1.1
  have hb := X.1.2.1
  unfold F_X11_add at h
  refine lv_aload_n hx hb dX11_add_0 rfl (lv_at hl 0 rfl) ?_
  refine lv_iload_n hx hb dX11_add_1 rfl (lv_at hl 1 rfl) ?_
  by_cases c1 : hKd f h0 = some 10
  · replace h := Eq.trans (if_pos c1).symm h
    replace h := xb h
    obtain ⟨q2, eq2, h⟩ := h
    refine q_callV X Y hl.1 (rest := []) (As := [.int p1]) (c_X11_isPoly l G z f h0 p1 _ eq2) cd_X11_isPoly lv_X11_109_10 c1 ⟨(Nat.le_of_ble_eq_true rfl), (Nat.le_of_ble_eq_true rfl)⟩ ⟨(Nat.le_of_ble_eq_true rfl), (Nat.le_of_ble_eq_true rfl)⟩ rfl rfl (Nat.le_of_ble_eq_true rfl) dX11_add_2 (fun H locs Y => ?_)
    refine W.eq (g2 := F0 m 5 ls [.int q2]) rfl ?_
    refine lv_if_eq (tgt := 16) hx hb dX11_add_5 (by decide) (fun c3 => ?_) (fun c3 => ?_)
    · replace h := Eq.trans (if_pos c3).symm h
      refine lv_iconst (v := -1) hx hb dX11_add_16 (by decide) ?_
      replace h := Option.some.inj h
      subst h
      exact q_reti X Y hr hlocks (Nat.le_of_ble_eq_true rfl) (Nat.le_of_ble_eq_true rfl) dX11_add_17
    · replace h := Eq.trans (if_neg c3).symm h
      refine lv_aload_n hx hb dX11_add_8 rfl (lv_at hl 0 rfl) ?_
      refine lv_iload_n hx hb dX11_add_9 rfl (lv_at hl 2 rfl) ?_
      by_cases c4 : hKd f h0 = some 10
      · replace h := Eq.trans (if_pos c4).symm h
        replace h := xb h
        obtain ⟨q5, eq5, h⟩ := h
        refine q_callV X Y hl.1 (rest := []) (As := [.int p2]) (c_X11_isPoly l G z f h0 p2 _ eq5) cd_X11_isPoly lv_X11_109_10 c4 ⟨(Nat.le_of_ble_eq_true rfl), (Nat.le_of_ble_eq_true rfl)⟩ ⟨(Nat.le_of_ble_eq_true rfl), (Nat.le_of_ble_eq_true rfl)⟩ rfl rfl (Nat.le_of_ble_eq_true rfl) dX11_add_10 (fun H locs Y => ?_)
        refine W.eq (g2 := F0 m 13 ls [.int q5]) rfl ?_
        refine lv_if_ne (tgt := 18) hx hb dX11_add_13 (by decide) (fun c6 => ?_) (fun c6 => ?_)
        · replace h := Eq.trans (if_neg c6).symm h
          refine lv_iload_n hx hb dX11_add_18 rfl (lv_at hl 3 rfl) ?_
          refine lv_i2l hx hb dX11_add_19 rfl ?_
          refine lv_ldc2 (v := -1000) hx hb X.1.2.2.2.1 (X.1.2.2.2.2 _ xw_957) dX11_add_20 ?_
          refine lv_ldc2 (v := 1000) hx hb X.1.2.2.2.1 (X.1.2.2.2.2 _ xw_958) dX11_add_23 ?_
          replace h := xb h
          obtain ⟨q7, eq7, h⟩ := h
          refine q_callS X Y hl.1 (rest := []) (As := [.long p3.toInt64, .long (-1000 : Int64), .long (1000 : Int64)]) (c_X11_within l G z f p3.toInt64 (-1000 : Int64) (1000 : Int64) _ eq7) cd_X11_within ls_X11_82 ⟨(Nat.le_of_ble_eq_true rfl), (Nat.le_of_ble_eq_true rfl)⟩ ⟨(Nat.le_of_ble_eq_true rfl), (Nat.le_of_ble_eq_true rfl)⟩ rfl rfl (Nat.le_of_ble_eq_true rfl) dX11_add_26 (fun H locs Y => ?_)
          refine W.eq (g2 := F0 m 29 ls [.int q7]) rfl ?_
          refine lv_if_ne (tgt := 35) hx hb dX11_add_29 (by decide) (fun c8 => ?_) (fun c8 => ?_)
          · replace h := Eq.trans (if_neg c8).symm h
            refine lv_aload_n hx hb dX11_add_35 rfl (lv_at hl 0 rfl) ?_
            by_cases c9 : hKd f h0 = some 10
            · replace h := Eq.trans (if_pos c9).symm h
              replace h := xb h
              obtain ⟨q10, eq10, h⟩ := h
              refine q_callV X Y hl.1 (rest := []) (As := []) (c_X11_clearDraft l G z f h0 _ eq10) cd_X11_clearDraft lv_X11_103_10 c9 ⟨(Nat.le_of_ble_eq_true rfl), (Nat.le_of_ble_eq_true rfl)⟩ ⟨(Nat.le_of_ble_eq_true rfl), (Nat.le_of_ble_eq_true rfl)⟩ rfl rfl (Nat.le_of_ble_eq_true rfl) dX11_add_36 (fun H locs Y => ?_)
              refine W.eq (g2 := F0 m 39 ls []) rfl ?_
              refine lv_iconst (v := 0) hx hb dX11_add_39 (by decide) ?_
              refine lv_istore (lv' := [(4, .int (0 : Int32)), (0, .ref h0), (1, .int p1), (2, .int p2), (3, .int p3)]) hx hb dX11_add_40 hl (by decide) rfl (fun ls hl => ?_)
              refine W.widen (k := 0) (n := 0) (Nat.le_of_ble_eq_true rfl) (Nat.le_of_ble_eq_true rfl) ?_
              exact lw_X11_add_42 X hr hlocks hin rs  xfuel q10 h0 p1 p2 p3 (0 : Int32) _ _ _ h Y (lv_sub hl [1, 2, 3, 4, 0] rfl)
            replace h := Eq.trans (if_neg c9).symm h
            cases h
          · replace h := Eq.trans (if_pos c8).symm h
            refine lv_bipush (v := -2) hx hb dX11_add_32 (by decide) ?_
            replace h := Option.some.inj h
            subst h
            exact q_reti X Y hr hlocks (Nat.le_of_ble_eq_true rfl) (Nat.le_of_ble_eq_true rfl) dX11_add_34
        · replace h := Eq.trans (if_pos c6).symm h
          refine lv_iconst (v := -1) hx hb dX11_add_16 (by decide) ?_
          replace h := Option.some.inj h
          subst h
          exact q_reti X Y hr hlocks (Nat.le_of_ble_eq_true rfl) (Nat.le_of_ble_eq_true rfl) dX11_add_17
      replace h := Eq.trans (if_neg c4).symm h
      cases h
  replace h := Eq.trans (if_neg c1).symm h
  cases h

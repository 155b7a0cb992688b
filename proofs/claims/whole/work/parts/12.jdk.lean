/-! java/lang/Math.max(II)I -/
abbrev rm_J9_max_7cf53 : Room := { frames := 0, cells := 0, slots := 0, locals := 0 }
def F_J9_max_7cf53 (f : xHp) (p0 : Int32) (p1 : Int32) : Option (Int32) := if p0 < p1 then (some p1) else (some p0)
set_option maxRecDepth 100000 in
set_option maxHeartbeats 4000000 in
theorem c_J9_max_7cf53 (l : Launch) (G : xG) (z : Nat) (f : xHp) (p0 : Int32) (p1 : Int32) (rs : Int32) (h : F_J9_max_7cf53 f p0 p1 = some rs) : xM G l yJ9_max_7cf53 cJ9_max_7cf53 2 (some .int) rm_J9_max_7cf53 [.int p0, .int p1] z f (some (.int rs)) z f := by
  refine xM_ofF (by decide +kernel) (Nat.le_of_ble_eq_true rfl) ?_
  intro p e s m below meth c ls X hr hlocks hin Y hl
  have hl : lv_has ls 2 [(0, .int p0), (1, .int p1)] := hl
  have hx := X.1.1
  have hb := X.1.2.1
  unfold F_J9_max_7cf53 at h
  refine lv_iload_n hx hb dJ9_max_7cf53_0 rfl (lv_at hl 0 rfl) ?_
  refine lv_iload_n hx hb dJ9_max_7cf53_1 rfl (lv_at hl 1 rfl) ?_
  refine lv_icmp_lt (tgt := 9) hx hb dJ9_max_7cf53_2 (by decide) (fun c1 => ?_) (fun c1 => ?_)
  · replace h := Eq.trans (if_pos c1).symm h
    refine lv_iload_n hx hb dJ9_max_7cf53_9 rfl (lv_at hl 1 rfl) ?_
    replace h := Option.some.inj h
    subst h
    exact q_reti X Y hr hlocks (Nat.le_of_ble_eq_true rfl) (Nat.le_of_ble_eq_true rfl) dJ9_max_7cf53_10
  · replace h := Eq.trans (if_neg c1).symm h
    refine lv_iload_n hx hb dJ9_max_7cf53_5 rfl (lv_at hl 0 rfl) ?_
    refine lv_goto (tgt := 10) hx hb dJ9_max_7cf53_6 (by decide) ?_
    replace h := Option.some.inj h
    subst h
    exact q_reti X Y hr hlocks (Nat.le_of_ble_eq_true rfl) (Nat.le_of_ble_eq_true rfl) dJ9_max_7cf53_10
/-! java/lang/Math.max(JJ)J -/
abbrev rm_J9_max_f86c9 : Room := { frames := 0, cells := 0, slots := 0, locals := 0 }
def F_J9_max_f86c9 (f : xHp) (p0 : Int64) (p2 : Int64) : Option (Int64) := if p0 < p2 then (some p2) else (some p0)
set_option maxRecDepth 100000 in
set_option maxHeartbeats 4000000 in
theorem c_J9_max_f86c9 (l : Launch) (G : xG) (z : Nat) (f : xHp) (p0 : Int64) (p2 : Int64) (rs : Int64) (h : F_J9_max_f86c9 f p0 p2 = some rs) : xM G l yJ9_max_f86c9 cJ9_max_f86c9 4 (some .long) rm_J9_max_f86c9 [.long p0, .long p2] z f (some (.long rs)) z f := by
  refine xM_ofF (by decide +kernel) (Nat.le_of_ble_eq_true rfl) ?_
  intro p e s m below meth c ls X hr hlocks hin Y hl
  have hl : lv_has ls 4 [(0, .long p0), (2, .long p2)] := hl
  have hx := X.1.1
  have hb := X.1.2.1
  unfold F_J9_max_f86c9 at h
  refine lv_lload_n hx hb dJ9_max_f86c9_0 rfl (lv_at hl 0 rfl) ?_
  refine lv_lload_n hx hb dJ9_max_f86c9_1 rfl (lv_at hl 1 rfl) ?_
  refine q_lcmp_lt (tgt := 10) hx hb dJ9_max_f86c9_2 dJ9_max_f86c9_3 (by decide) (fun c1 => ?_) (fun c1 => ?_)
  · replace h := Eq.trans (if_pos c1).symm h
    refine lv_lload_n hx hb dJ9_max_f86c9_10 rfl (lv_at hl 1 rfl) ?_
    replace h := Option.some.inj h
    subst h
    exact q_retl X Y hr hlocks (Nat.le_of_ble_eq_true rfl) (Nat.le_of_ble_eq_true rfl) dJ9_max_f86c9_11
  · replace h := Eq.trans (if_neg c1).symm h
    refine lv_lload_n hx hb dJ9_max_f86c9_6 rfl (lv_at hl 0 rfl) ?_
    refine lv_goto (tgt := 11) hx hb dJ9_max_f86c9_7 (by decide) ?_
    replace h := Option.some.inj h
    subst h
    exact q_retl X Y hr hlocks (Nat.le_of_ble_eq_true rfl) (Nat.le_of_ble_eq_true rfl) dJ9_max_f86c9_11
/-! java/lang/Math.min(JJ)J -/
abbrev rm_J9_min_f86c9 : Room := { frames := 0, cells := 0, slots := 0, locals := 0 }
def F_J9_min_f86c9 (f : xHp) (p0 : Int64) (p2 : Int64) : Option (Int64) := if p2 < p0 then (some p2) else (some p0)
set_option maxRecDepth 100000 in
set_option maxHeartbeats 4000000 in
theorem c_J9_min_f86c9 (l : Launch) (G : xG) (z : Nat) (f : xHp) (p0 : Int64) (p2 : Int64) (rs : Int64) (h : F_J9_min_f86c9 f p0 p2 = some rs) : xM G l yJ9_min_f86c9 cJ9_min_f86c9 4 (some .long) rm_J9_min_f86c9 [.long p0, .long p2] z f (some (.long rs)) z f := by
  refine xM_ofF (by decide +kernel) (Nat.le_of_ble_eq_true rfl) ?_
  intro p e s m below meth c ls X hr hlocks hin Y hl
  have hl : lv_has ls 4 [(0, .long p0), (2, .long p2)] := hl
  have hx := X.1.1
  have hb := X.1.2.1
  unfold F_J9_min_f86c9 at h
  refine lv_lload_n hx hb dJ9_min_f86c9_0 rfl (lv_at hl 0 rfl) ?_
  refine lv_lload_n hx hb dJ9_min_f86c9_1 rfl (lv_at hl 1 rfl) ?_
  refine q_lcmp_gt (tgt := 10) hx hb dJ9_min_f86c9_2 dJ9_min_f86c9_3 (by decide) (fun c1 => ?_) (fun c1 => ?_)
  · replace h := Eq.trans (if_pos c1).symm h
    refine lv_lload_n hx hb dJ9_min_f86c9_10 rfl (lv_at hl 1 rfl) ?_
    replace h := Option.some.inj h
    subst h
    exact q_retl X Y hr hlocks (Nat.le_of_ble_eq_true rfl) (Nat.le_of_ble_eq_true rfl) dJ9_min_f86c9_11
  · replace h := Eq.trans (if_neg c1).symm h
    refine lv_lload_n hx hb dJ9_min_f86c9_6 rfl (lv_at hl 0 rfl) ?_
    refine lv_goto (tgt := 11) hx hb dJ9_min_f86c9_7 (by decide) ?_
    replace h := Option.some.inj h
    subst h
    exact q_retl X Y hr hlocks (Nat.le_of_ble_eq_true rfl) (Nat.le_of_ble_eq_true rfl) dJ9_min_f86c9_11
/-! java/lang/Math.min(II)I -/
abbrev rm_J9_min_7cf53 : Room := { frames := 0, cells := 0, slots := 0, locals := 0 }
def F_J9_min_7cf53 (f : xHp) (p0 : Int32) (p1 : Int32) : Option (Int32) := if p1 < p0 then (some p1) else (some p0)
set_option maxRecDepth 100000 in
set_option maxHeartbeats 4000000 in
theorem c_J9_min_7cf53 (l : Launch) (G : xG) (z : Nat) (f : xHp) (p0 : Int32) (p1 : Int32) (rs : Int32) (h : F_J9_min_7cf53 f p0 p1 = some rs) : xM G l yJ9_min_7cf53 cJ9_min_7cf53 2 (some .int) rm_J9_min_7cf53 [.int p0, .int p1] z f (some (.int rs)) z f := by
  refine xM_ofF (by decide +kernel) (Nat.le_of_ble_eq_true rfl) ?_
  intro p e s m below meth c ls X hr hlocks hin Y hl
  have hl : lv_has ls 2 [(0, .int p0), (1, .int p1)] := hl
  have hx := X.1.1
  have hb := X.1.2.1
  unfold F_J9_min_7cf53 at h
  refine lv_iload_n hx hb dJ9_min_7cf53_0 rfl (lv_at hl 0 rfl) ?_
  refine lv_iload_n hx hb dJ9_min_7cf53_1 rfl (lv_at hl 1 rfl) ?_
  refine lv_icmp_gt (tgt := 9) hx hb dJ9_min_7cf53_2 (by decide) (fun c1 => ?_) (fun c1 => ?_)
  · replace h := Eq.trans (if_pos c1).symm h
    refine lv_iload_n hx hb dJ9_min_7cf53_9 rfl (lv_at hl 1 rfl) ?_
    replace h := Option.some.inj h
    subst h
    exact q_reti X Y hr hlocks (Nat.le_of_ble_eq_true rfl) (Nat.le_of_ble_eq_true rfl) dJ9_min_7cf53_10
  · replace h := Eq.trans (if_neg c1).symm h
    refine lv_iload_n hx hb dJ9_min_7cf53_5 rfl (lv_at hl 0 rfl) ?_
    refine lv_goto (tgt := 10) hx hb dJ9_min_7cf53_6 (by decide) ?_
    replace h := Option.some.inj h
    subst h
    exact q_reti X Y hr hlocks (Nat.le_of_ble_eq_true rfl) (Nat.le_of_ble_eq_true rfl) dJ9_min_7cf53_10
/-! java/util/Arrays.copyOf([JI)[J -/
abbrev rm_J7_copyOf_c38d5 : Room := { frames := 1, cells := 1, slots := 24, locals := 40 }
def F_J7_copyOf_c38d5 (z : Nat) (f : xHp) (p0 : Nat) (p1 : Int32) : Option (Option Nat × Nat × xHp) := Option.bind (hLen f p0) fun v1 => if p1 = v1 then (Option.bind (hCl f p0 24) fun q8 => Option.bind (some (va_up f z (some (.inr (.inl (q8.1, q8.2)))))) fun f9 => some ((some z), (z + 1), f9)) else (Option.bind (hNw p1 24) fun n3 => Option.bind (some (va_up f z (some (.inr (.inl (n3, fun _ => 0)))))) fun f4 => Option.bind (hLen f4 p0) fun v5 => Option.bind (F_J9_min_7cf53 f4 v5 p1) fun q6 => Option.bind (hJcp f4 p0 (0 : Int32) z (0 : Int32) q6) fun f7 => some ((some z), (z + 1), f7))
set_option maxRecDepth 100000 in
set_option maxHeartbeats 4000000 in
theorem c_J7_copyOf_c38d5 (l : Launch) (G : xG) (z : Nat) (f : xHp) (p0 : Nat) (p1 : Int32) (rs : Option Nat × Nat × xHp) (h : F_J7_copyOf_c38d5 z f p0 p1 = some rs) : xM G l yJ7_copyOf_c38d5 cJ7_copyOf_c38d5 3 (some (.array .long)) rm_J7_copyOf_c38d5 [.ref p0, .int p1] z f (some (va_rf rs.1)) rs.2.1 rs.2.2 := by
  refine xM_ofF (by decide +kernel) (Nat.le_of_ble_eq_true rfl) ?_
  intro p e s m below meth c ls X hr hlocks hin Y hl
  have hl : lv_has ls 3 [(0, .ref p0), (1, .int p1)] := hl
  have hx := X.1.1
  have hb := X.1.2.1
  unfold F_J7_copyOf_c38d5 at h
  refine lv_iload_n hx hb dJ7_copyOf_c38d5_0 rfl (lv_at hl 1 rfl) ?_
  refine lv_aload_n hx hb dJ7_copyOf_c38d5_1 rfl (lv_at hl 0 rfl) ?_
  replace h := xb h
  obtain ⟨v1, ev1, h⟩ := h
  refine q_alen X Y ev1 dJ7_copyOf_c38d5_2 ?_
  refine lv_icmp_ne (tgt := 14) hx hb dJ7_copyOf_c38d5_3 (by decide) (fun c2 => ?_) (fun c2 => ?_)
  · replace h := Eq.trans (if_neg c2).symm h
    refine lv_iload_n hx hb dJ7_copyOf_c38d5_14 rfl (lv_at hl 1 rfl) ?_
    replace h := xb h
    obtain ⟨n3, en3, h⟩ := h
    replace h := xb h
    obtain ⟨f4, ef4, h⟩ := h
    have ef4 := Option.some.inj ef4
    refine q_newJ X Y en3 (by decide) xw_80 (Nat.le_of_ble_eq_true rfl) (Nat.le_of_ble_eq_true rfl) dJ7_copyOf_c38d5_15 (fun H Y => ?_)
    rw [ef4] at Y
    refine lv_astore_n (lv' := [(2, .ref z), (0, .ref p0), (1, .int p1)]) hx hb dJ7_copyOf_c38d5_17 rfl hl (by decide) rfl (fun ls hl => ?_)
    refine lv_aload_n hx hb dJ7_copyOf_c38d5_18 rfl (lv_at hl 1 rfl) ?_
    refine lv_iconst (v := 0) hx hb dJ7_copyOf_c38d5_19 (by decide) ?_
    refine lv_aload_n hx hb dJ7_copyOf_c38d5_20 rfl (lv_at hl 0 rfl) ?_
    refine lv_iconst (v := 0) hx hb dJ7_copyOf_c38d5_21 (by decide) ?_
    refine lv_aload_n hx hb dJ7_copyOf_c38d5_22 rfl (lv_at hl 1 rfl) ?_
    replace h := xb h
    obtain ⟨v5, ev5, h⟩ := h
    refine q_alen X Y ev5 dJ7_copyOf_c38d5_23 ?_
    refine lv_iload_n hx hb dJ7_copyOf_c38d5_24 rfl (lv_at hl 2 rfl) ?_
    replace h := xb h
    obtain ⟨q6, eq6, h⟩ := h
    refine q_callS X Y hl.1 (rest := [.int (0 : Int32), .ref z, .int (0 : Int32), .ref p0]) (As := [.int v5, .int p1]) (c_J9_min_7cf53 l G (z + 1) f4 v5 p1 _ eq6) cd_J9_min_7cf53 ls_J7_304 ⟨(Nat.le_of_ble_eq_true rfl), (Nat.le_of_ble_eq_true rfl)⟩ ⟨(Nat.le_of_ble_eq_true rfl), (Nat.le_of_ble_eq_true rfl)⟩ rfl rfl (Nat.le_of_ble_eq_true rfl) dJ7_copyOf_c38d5_25 (fun H locs Y => ?_)
    refine W.eq (g2 := F0 m 28 ls [.int q6, .int (0 : Int32), .ref z, .int (0 : Int32), .ref p0]) rfl ?_
    replace h := xb h
    obtain ⟨f7, ef7, h⟩ := h
    refine q_jcp X Y hl.1 cp_J7_150 ef7 (Nat.le_of_ble_eq_true rfl) (Nat.le_of_ble_eq_true rfl) dJ7_copyOf_c38d5_28 (fun H locs Y => ?_)
    refine lv_aload_n hx hb dJ7_copyOf_c38d5_31 rfl (lv_at hl 0 rfl) ?_
    replace h := Option.some.inj h
    subst h
    exact q_reta X Y hr (by first | exact Or.inl ⟨_, rfl⟩ | exact Or.inr ⟨_, rfl⟩) hlocks (Nat.le_of_ble_eq_true rfl) (Nat.le_of_ble_eq_true rfl) dJ7_copyOf_c38d5_32
  · replace h := Eq.trans (if_pos c2).symm h
    refine lv_aload_n hx hb dJ7_copyOf_c38d5_6 rfl (lv_at hl 0 rfl) ?_
    replace h := xb h
    obtain ⟨q8, eq8, h⟩ := h
    replace h := xb h
    obtain ⟨f9, ef9, h⟩ := h
    have ef9 := Option.some.inj ef9
    refine q_clone X Y hl.1 cl_J7_319 eq8 (Nat.le_of_ble_eq_true rfl) (Nat.le_of_ble_eq_true rfl) (Nat.le_of_ble_eq_true rfl) (Nat.le_of_ble_eq_true rfl) dJ7_copyOf_c38d5_7 (fun H Y => ?_)
    rw [ef9] at Y
    refine q_castJ X Y (n := q8.1) (g := q8.2) xw_447 (by rw [← ef9, va_up, if_pos rfl]) dJ7_copyOf_c38d5_10 ?_
    replace h := Option.some.inj h
    subst h
    exact q_reta X Y hr (by first | exact Or.inl ⟨_, rfl⟩ | exact Or.inr ⟨_, rfl⟩) hlocks (Nat.le_of_ble_eq_true rfl) (Nat.le_of_ble_eq_true rfl) dJ7_copyOf_c38d5_13
/-! java/util/Arrays.checkLength(II)V -/
abbrev rm_J7_checkLength_df160 : Room := { frames := 0, cells := 0, slots := 0, locals := 0 }
def F_J7_checkLength_df160 (f : xHp) (p0 : Int32) (p1 : Int32) : Option (Unit) := if p0 ≤ p1 then (some ()) else (none)
set_option maxRecDepth 100000 in
set_option maxHeartbeats 4000000 in
theorem c_J7_checkLength_df160 (l : Launch) (G : xG) (z : Nat) (f : xHp) (p0 : Int32) (p1 : Int32) (rs : Unit) (h : F_J7_checkLength_df160 f p0 p1 = some rs) : xM G l yJ7_checkLength_df160 cJ7_checkLength_df160 2 none rm_J7_checkLength_df160 [.int p0, .int p1] z f none z f := by
  refine xM_ofF (by decide +kernel) (Nat.le_of_ble_eq_true rfl) ?_
  intro p e s m below meth c ls X hr hlocks hin Y hl
  have hl : lv_has ls 2 [(0, .int p0), (1, .int p1)] := hl
  have hx := X.1.1
  have hb := X.1.2.1
  unfold F_J7_checkLength_df160 at h
  refine lv_iload_n hx hb dJ7_checkLength_df160_0 rfl (lv_at hl 1 rfl) ?_
  refine lv_iload_n hx hb dJ7_checkLength_df160_1 rfl (lv_at hl 0 rfl) ?_
  refine lv_icmp_ge (tgt := 37) hx hb dJ7_checkLength_df160_2 (by decide) (fun c1 => ?_) (fun c1 => ?_)
  · replace h := Eq.trans (if_pos c1).symm h
    replace h := Option.some.inj h
    subst h
    exact q_retv X Y hr hlocks (Nat.le_of_ble_eq_true rfl) (Nat.le_of_ble_eq_true rfl) dJ7_checkLength_df160_37
  · replace h := Eq.trans (if_neg c1).symm h
    cases h
/-! java/util/Arrays.copyOfRangeInt([III)[I -/
abbrev rm_J7_copyOfRangeInt_feecc : Room := { frames := 1, cells := 1, slots := 8, locals := 40 }
def F_J7_copyOfRangeInt_feecc (z : Nat) (f : xHp) (p0 : Nat) (p1 : Int32) (p2 : Int32) : Option (Option Nat × Nat × xHp) := Option.bind (F_J7_checkLength_df160 f p1 p2) fun q1 => Option.bind (hNw (p2 - p1) 8) fun n2 => Option.bind (some (va_up f z (some (.inl (n2, fun _ => 0))))) fun f3 => Option.bind (hLen f3 p0) fun v4 => Option.bind (F_J9_min_7cf53 f3 (v4 - p1) (p2 - p1)) fun q5 => Option.bind (hIcp f3 p0 p1 z (0 : Int32) q5) fun f6 => some ((some z), (z + 1), f6)
set_option maxRecDepth 100000 in
set_option maxHeartbeats 4000000 in
theorem c_J7_copyOfRangeInt_feecc (l : Launch) (G : xG) (z : Nat) (f : xHp) (p0 : Nat) (p1 : Int32) (p2 : Int32) (rs : Option Nat × Nat × xHp) (h : F_J7_copyOfRangeInt_feecc z f p0 p1 p2 = some rs) : xM G l yJ7_copyOfRangeInt_feecc cJ7_copyOfRangeInt_feecc 5 (some (.array .int)) rm_J7_copyOfRangeInt_feecc [.ref p0, .int p1, .int p2] z f (some (va_rf rs.1)) rs.2.1 rs.2.2 := by
  refine xM_ofF (by decide +kernel) (Nat.le_of_ble_eq_true rfl) ?_
  intro p e s m below meth c ls X hr hlocks hin Y hl
  have hl : lv_has ls 5 [(0, .ref p0), (1, .int p1), (2, .int p2)] := hl
  have hx := X.1.1
  have hb := X.1.2.1
  unfold F_J7_copyOfRangeInt_feecc at h
  refine lv_iload_n hx hb dJ7_copyOfRangeInt_feecc_0 rfl (lv_at hl 1 rfl) ?_
  refine lv_iload_n hx hb dJ7_copyOfRangeInt_feecc_1 rfl (lv_at hl 2 rfl) ?_
  replace h := xb h
  obtain ⟨q1, eq1, h⟩ := h
  refine q_callS X Y hl.1 (rest := []) (As := [.int p1, .int p2]) (c_J7_checkLength_df160 l G z f p1 p2 _ eq1) cd_J7_checkLength_df160 ls_J7_343 ⟨(Nat.le_of_ble_eq_true rfl), (Nat.le_of_ble_eq_true rfl)⟩ ⟨(Nat.le_of_ble_eq_true rfl), (Nat.le_of_ble_eq_true rfl)⟩ rfl rfl (Nat.le_of_ble_eq_true rfl) dJ7_copyOfRangeInt_feecc_2 (fun H locs Y => ?_)
  refine W.eq (g2 := F0 m 5 ls []) rfl ?_
  refine lv_iload_n hx hb dJ7_copyOfRangeInt_feecc_5 rfl (lv_at hl 2 rfl) ?_
  refine lv_iload_n hx hb dJ7_copyOfRangeInt_feecc_6 rfl (lv_at hl 1 rfl) ?_
  refine lv_isub hx hb dJ7_copyOfRangeInt_feecc_7 ?_
  refine lv_istore_n (lv' := [(3, .int (p2 - p1)), (0, .ref p0), (1, .int p1), (2, .int p2)]) hx hb dJ7_copyOfRangeInt_feecc_8 rfl hl (by decide) rfl (fun ls hl => ?_)
  refine lv_iload_n hx hb dJ7_copyOfRangeInt_feecc_9 rfl (lv_at hl 0 rfl) ?_
  replace h := xb h
  obtain ⟨n2, en2, h⟩ := h
  replace h := xb h
  obtain ⟨f3, ef3, h⟩ := h
  have ef3 := Option.some.inj ef3
  refine q_newI X Y en2 (by decide) xw_79 (Nat.le_of_ble_eq_true rfl) (Nat.le_of_ble_eq_true rfl) dJ7_copyOfRangeInt_feecc_10 (fun H Y => ?_)
  rw [ef3] at Y
  refine lv_astore (lv' := [(4, .ref z), (3, .int (p2 - p1)), (0, .ref p0), (1, .int p1), (2, .int p2)]) hx hb dJ7_copyOfRangeInt_feecc_12 hl (by decide) rfl (fun ls hl => ?_)
  refine lv_aload_n hx hb dJ7_copyOfRangeInt_feecc_14 rfl (lv_at hl 2 rfl) ?_
  refine lv_iload_n hx hb dJ7_copyOfRangeInt_feecc_15 rfl (lv_at hl 3 rfl) ?_
  refine lv_aload hx hb dJ7_copyOfRangeInt_feecc_16 (lv_at hl 0 rfl) ?_
  refine lv_iconst (v := 0) hx hb dJ7_copyOfRangeInt_feecc_18 (by decide) ?_
  refine lv_aload_n hx hb dJ7_copyOfRangeInt_feecc_19 rfl (lv_at hl 2 rfl) ?_
  replace h := xb h
  obtain ⟨v4, ev4, h⟩ := h
  refine q_alen X Y ev4 dJ7_copyOfRangeInt_feecc_20 ?_
  refine lv_iload_n hx hb dJ7_copyOfRangeInt_feecc_21 rfl (lv_at hl 3 rfl) ?_
  refine lv_isub hx hb dJ7_copyOfRangeInt_feecc_22 ?_
  refine lv_iload_n hx hb dJ7_copyOfRangeInt_feecc_23 rfl (lv_at hl 1 rfl) ?_
  replace h := xb h
  obtain ⟨q5, eq5, h⟩ := h
  refine q_callS X Y hl.1 (rest := [.int (0 : Int32), .ref z, .int p1, .ref p0]) (As := [.int (v4 - p1), .int (p2 - p1)]) (c_J9_min_7cf53 l G (z + 1) f3 (v4 - p1) (p2 - p1) _ eq5) cd_J9_min_7cf53 ls_J7_304 ⟨(Nat.le_of_ble_eq_true rfl), (Nat.le_of_ble_eq_true rfl)⟩ ⟨(Nat.le_of_ble_eq_true rfl), (Nat.le_of_ble_eq_true rfl)⟩ rfl rfl (Nat.le_of_ble_eq_true rfl) dJ7_copyOfRangeInt_feecc_24 (fun H locs Y => ?_)
  refine W.eq (g2 := F0 m 27 ls [.int q5, .int (0 : Int32), .ref z, .int p1, .ref p0]) rfl ?_
  replace h := xb h
  obtain ⟨f6, ef6, h⟩ := h
  refine q_icp X Y hl.1 cp_J7_150 ef6 (Nat.le_of_ble_eq_true rfl) (Nat.le_of_ble_eq_true rfl) dJ7_copyOfRangeInt_feecc_27 (fun H locs Y => ?_)
  refine lv_aload hx hb dJ7_copyOfRangeInt_feecc_30 (lv_at hl 0 rfl) ?_
  replace h := Option.some.inj h
  subst h
  exact q_reta X Y hr (by first | exact Or.inl ⟨_, rfl⟩ | exact Or.inr ⟨_, rfl⟩) hlocks (Nat.le_of_ble_eq_true rfl) (Nat.le_of_ble_eq_true rfl) dJ7_copyOfRangeInt_feecc_32
/-! java/util/Arrays.copyOfRange([III)[I -/
abbrev rm_J7_copyOfRange_feecc : Room := { frames := 2, cells := 1, slots := 8, locals := 64 }
def F_J7_copyOfRange_feecc_10  (z : Nat) (f : xHp) (a0 : Nat) (a1 : Int32) (a2 : Int32) : Option (Option Nat × Nat × xHp) := Option.bind (F_J7_copyOfRangeInt_feecc z f a0 a1 a2) fun q1 => Option.bind (some q1.1) fun o2 => some (o2, q1.2.1, q1.2.2)
def F_J7_copyOfRange_feecc (z : Nat) (f : xHp) (p0 : Nat) (p1 : Int32) (p2 : Int32) : Option (Option Nat × Nat × xHp) := if p1 = 0 then (Option.bind (hLen f p0) fun v2 => if p2 = v2 then (none) else (F_J7_copyOfRange_feecc_10 z f p0 p1 p2)) else (F_J7_copyOfRange_feecc_10 z f p0 p1 p2)
set_option maxRecDepth 100000 in
set_option maxHeartbeats 4000000 in
theorem w_J7_copyOfRange_feecc_10 {p : Program} {l : Launch} {e : Env} {s : State} {m : MethodId} {args : Array Value} {below : List Frame} {meth : Method} {c : Code} {G : xG} (X : xC G p m c s args RJ7 cJ7_copyOfRange_feecc 3) (hr : meth.sig.returnType = (some (.array .int))) (hlocks : meth.locks = false) (hin : meth.name = yJ7_copyOfRange_feecc.name) (rs : Option Nat × Nat × xHp)  (z : Nat) (f : xHp) (a0 : Nat) (a1 : Int32) (a2 : Int32) (H : Heap) (locs : List Loc) (ls : Array Slot) (h : F_J7_copyOfRange_feecc_10  z f a0 a1 a2 = some rs) (Y : xY G z f s H locs) (hl : lv_has ls 3 [(0, .ref a0), (1, .int a1), (2, .int a2)]) : W p l e rm_J7_copyOfRange_feecc s m args below meth c H locs 0 0 (MQ below (xQ G (some (va_rf rs.1)) rs.2.1 rs.2.2) args s rm_J7_copyOfRange_feecc.cells rm_J7_copyOfRange_feecc.slots (xA G)) (F0 m 10 ls []) := by
  have hx := X.1.1
  have hb := X.1.2.1
  unfold F_J7_copyOfRange_feecc_10 at h
  refine lv_aload_n hx hb dJ7_copyOfRange_feecc_10 rfl (lv_at hl 0 rfl) ?_
  refine lv_iload_n hx hb dJ7_copyOfRange_feecc_11 rfl (lv_at hl 1 rfl) ?_
  refine lv_iload_n hx hb dJ7_copyOfRange_feecc_12 rfl (lv_at hl 2 rfl) ?_
  replace h := xb h
  obtain ⟨q1, eq1, h⟩ := h
  refine q_callS X Y hl.1 (rest := []) (As := [.ref a0, .int a1, .int a2]) (c_J7_copyOfRangeInt_feecc l G z f a0 a1 a2 _ eq1) cd_J7_copyOfRangeInt_feecc ls_J7_351 ⟨(Nat.le_of_ble_eq_true rfl), (Nat.le_of_ble_eq_true rfl)⟩ ⟨(Nat.le_of_ble_eq_true rfl), (Nat.le_of_ble_eq_true rfl)⟩ rfl rfl (Nat.le_of_ble_eq_true rfl) dJ7_copyOfRange_feecc_13 (fun H locs Y => ?_)
  refine W.eq (g2 := F0 m 16 ls [va_rf q1.1]) rfl ?_
  replace h := xb h
  obtain ⟨o2, eo2, h⟩ := h
  have eo2 := Option.some.inj eo2
  rw [eo2]
  refine W.widen (k := 1) (n := 8) (Nat.le_of_ble_eq_true rfl) (Nat.le_of_ble_eq_true rfl) ?_
  replace h := Option.some.inj h
  subst h
  exact q_reta X Y hr (by first | exact Or.inl ⟨_, rfl⟩ | exact Or.inr ⟨_, rfl⟩) hlocks (Nat.le_of_ble_eq_true rfl) (Nat.le_of_ble_eq_true rfl) dJ7_copyOfRange_feecc_16
set_option maxRecDepth 100000 in
set_option maxHeartbeats 4000000 in
theorem c_J7_copyOfRange_feecc (l : Launch) (G : xG) (z : Nat) (f : xHp) (p0 : Nat) (p1 : Int32) (p2 : Int32) (rs : Option Nat × Nat × xHp) (h : F_J7_copyOfRange_feecc z f p0 p1 p2 = some rs) : xM G l yJ7_copyOfRange_feecc cJ7_copyOfRange_feecc 3 (some (.array .int)) rm_J7_copyOfRange_feecc [.ref p0, .int p1, .int p2] z f (some (va_rf rs.1)) rs.2.1 rs.2.2 := by
  refine xM_ofF (by decide +kernel) (Nat.le_of_ble_eq_true rfl) ?_
  intro p e s m below meth c ls X hr hlocks hin Y hl
  have hl : lv_has ls 3 [(0, .ref p0), (1, .int p1), (2, .int p2)] := hl
  have hx := X.1.1
  have hb := X.1.2.1
  unfold F_J7_copyOfRange_feecc at h
  refine lv_iload_n hx hb dJ7_copyOfRange_feecc_0 rfl (lv_at hl 1 rfl) ?_
  refine lv_if_ne (tgt := 10) hx hb dJ7_copyOfRange_feecc_1 (by decide) (fun c1 => ?_) (fun c1 => ?_)
  · replace h := Eq.trans (if_neg c1).symm h
    refine W.widen (k := 0) (n := 0) (Nat.le_of_ble_eq_true rfl) (Nat.le_of_ble_eq_true rfl) ?_
    exact w_J7_copyOfRange_feecc_10 X hr hlocks hin rs   z f p0 p1 p2 _ _ _ h Y (lv_sub hl [0, 1, 2] rfl)
  · replace h := Eq.trans (if_pos c1).symm h
    refine lv_iload_n hx hb dJ7_copyOfRange_feecc_4 rfl (lv_at hl 2 rfl) ?_
    refine lv_aload_n hx hb dJ7_copyOfRange_feecc_5 rfl (lv_at hl 0 rfl) ?_
    replace h := xb h
    obtain ⟨v2, ev2, h⟩ := h
    refine q_alen X Y ev2 dJ7_copyOfRange_feecc_6 ?_
    refine lv_icmp_eq (tgt := 17) hx hb dJ7_copyOfRange_feecc_7 (by decide) (fun c3 => ?_) (fun c3 => ?_)
    · replace h := Eq.trans (if_pos c3).symm h
      cases h
    · replace h := Eq.trans (if_neg c3).symm h
      refine W.widen (k := 0) (n := 0) (Nat.le_of_ble_eq_true rfl) (Nat.le_of_ble_eq_true rfl) ?_
      exact w_J7_copyOfRange_feecc_10 X hr hlocks hin rs   z f p0 p1 p2 _ _ _ h Y (lv_sub hl [0, 1, 2] rfl)
/-! java/lang/Math.abs(J)J -/
abbrev rm_J9_abs_067f4 : Room := { frames := 0, cells := 0, slots := 0, locals := 0 }
def F_J9_abs_067f4 (f : xHp) (p0 : Int64) : Option (Int64) := if (0 : Int64) ≤ p0 then (some p0) else (some (-p0))
set_option maxRecDepth 100000 in
set_option maxHeartbeats 4000000 in
theorem c_J9_abs_067f4 (l : Launch) (G : xG) (z : Nat) (f : xHp) (p0 : Int64) (rs : Int64) (h : F_J9_abs_067f4 f p0 = some rs) : xM G l yJ9_abs_067f4 cJ9_abs_067f4 2 (some .long) rm_J9_abs_067f4 [.long p0] z f (some (.long rs)) z f := by
  refine xM_ofF (by decide +kernel) (Nat.le_of_ble_eq_true rfl) ?_
  intro p e s m below meth c ls X hr hlocks hin Y hl
  have hl : lv_has ls 2 [(0, .long p0)] := hl
  have hx := X.1.1
  have hb := X.1.2.1
  unfold F_J9_abs_067f4 at h
  refine lv_lload_n hx hb dJ9_abs_067f4_0 rfl (lv_at hl 0 rfl) ?_
  refine lv_lconst (v := 0) hx hb dJ9_abs_067f4_1 (by decide) ?_
  refine q_lcmp_ge (tgt := 11) hx hb dJ9_abs_067f4_2 dJ9_abs_067f4_3 (by decide) (fun c1 => ?_) (fun c1 => ?_)
  · replace h := Eq.trans (if_pos c1).symm h
    refine lv_lload_n hx hb dJ9_abs_067f4_11 rfl (lv_at hl 0 rfl) ?_
    replace h := Option.some.inj h
    subst h
    exact q_retl X Y hr hlocks (Nat.le_of_ble_eq_true rfl) (Nat.le_of_ble_eq_true rfl) dJ9_abs_067f4_12
  · replace h := Eq.trans (if_neg c1).symm h
    refine lv_lload_n hx hb dJ9_abs_067f4_6 rfl (lv_at hl 0 rfl) ?_
    refine lv_lneg hx hb dJ9_abs_067f4_7 ?_
    refine lv_goto (tgt := 12) hx hb dJ9_abs_067f4_8 (by decide) ?_
    replace h := Option.some.inj h
    subst h
    exact q_retl X Y hr hlocks (Nat.le_of_ble_eq_true rfl) (Nat.le_of_ble_eq_true rfl) dJ9_abs_067f4_12
/-! java/util/Arrays.rangeCheck(III)V -/
abbrev rm_J7_rangeCheck_23922 : Room := { frames := 0, cells := 0, slots := 0, locals := 0 }
def F_J7_rangeCheck_23922 (f : xHp) (p0 : Int32) (p1 : Int32) (p2 : Int32) : Option (Unit) := if p1 ≤ p2 then (if 0 ≤ p1 then (if p2 ≤ p0 then (some ()) else (none)) else (none)) else (none)
set_option maxRecDepth 100000 in
set_option maxHeartbeats 4000000 in
theorem c_J7_rangeCheck_23922 (l : Launch) (G : xG) (z : Nat) (f : xHp) (p0 : Int32) (p1 : Int32) (p2 : Int32) (rs : Unit) (h : F_J7_rangeCheck_23922 f p0 p1 p2 = some rs) : xM G l yJ7_rangeCheck_23922 cJ7_rangeCheck_23922 3 none rm_J7_rangeCheck_23922 [.int p0, .int p1, .int p2] z f none z f := by
  refine xM_ofF (by decide +kernel) (Nat.le_of_ble_eq_true rfl) ?_
  intro p e s m below meth c ls X hr hlocks hin Y hl
  have hl : lv_has ls 3 [(0, .int p0), (1, .int p1), (2, .int p2)] := hl
  have hx := X.1.1
  have hb := X.1.2.1
  unfold F_J7_rangeCheck_23922 at h
  refine lv_iload_n hx hb dJ7_rangeCheck_23922_0 rfl (lv_at hl 1 rfl) ?_
  refine lv_iload_n hx hb dJ7_rangeCheck_23922_1 rfl (lv_at hl 2 rfl) ?_
  refine lv_icmp_le (tgt := 46) hx hb dJ7_rangeCheck_23922_2 (by decide) (fun c1 => ?_) (fun c1 => ?_)
  · replace h := Eq.trans (if_pos c1).symm h
    refine lv_iload_n hx hb dJ7_rangeCheck_23922_46 rfl (lv_at hl 1 rfl) ?_
    refine lv_if_ge (tgt := 59) hx hb dJ7_rangeCheck_23922_47 (by decide) (fun c2 => ?_) (fun c2 => ?_)
    · replace h := Eq.trans (if_pos c2).symm h
      refine lv_iload_n hx hb dJ7_rangeCheck_23922_59 rfl (lv_at hl 2 rfl) ?_
      refine lv_iload_n hx hb dJ7_rangeCheck_23922_60 rfl (lv_at hl 0 rfl) ?_
      refine lv_icmp_le (tgt := 73) hx hb dJ7_rangeCheck_23922_61 (by decide) (fun c3 => ?_) (fun c3 => ?_)
      · replace h := Eq.trans (if_pos c3).symm h
        replace h := Option.some.inj h
        subst h
        exact q_retv X Y hr hlocks (Nat.le_of_ble_eq_true rfl) (Nat.le_of_ble_eq_true rfl) dJ7_rangeCheck_23922_73
      · replace h := Eq.trans (if_neg c3).symm h
        cases h
    · replace h := Eq.trans (if_neg c2).symm h
      cases h
  · replace h := Eq.trans (if_neg c1).symm h
    cases h
/-! java/util/Arrays.fill([IIII)V -/
abbrev rm_J7_fill_fda19 : Room := { frames := 1, cells := 0, slots := 0, locals := 22 }
def F_J7_fill_fda19_10 (k10 : xHp → Nat → Int32 → Int32 → Int32 → Option (xHp)) (f : xHp) (a0 : Nat) (a2 : Int32) (a3 : Int32) (a4 : Int32) : Option (xHp) := if a2 ≤ a4 then (some f) else (Option.bind (hIst f a0 a4 a3) fun f2 => k10 f2 a0 a2 a3 (a4 + 1))
def L_J7_fill_fda19_10  : Nat → xHp → Nat → Int32 → Int32 → Int32 → Option (xHp)
  | 0, _, _, _, _, _ => none
  | n + 1, f, a0, a2, a3, a4 => F_J7_fill_fda19_10 (L_J7_fill_fda19_10  n) f a0 a2 a3 a4
def F_J7_fill_fda19 (f : xHp) (p0 : Nat) (p1 : Int32) (p2 : Int32) (p3 : Int32) : Option (xHp) := Option.bind (hLen f p0) fun v1 => Option.bind (F_J7_rangeCheck_23922 f v1 p1 p2) fun q2 => L_J7_fill_fda19_10 xfuel f p0 p2 p3 p1
set_option maxRecDepth 100000 in
set_option maxHeartbeats 4000000 in
theorem w_J7_fill_fda19_10 {p : Program} {l : Launch} {e : Env} {s : State} {m : MethodId} {args : Array Value} {below : List Frame} {meth : Method} {c : Code} {G : xG} {z : Nat} (X : xC G p m c s args RJ7 cJ7_fill_fda19 5) (hr : meth.sig.returnType = none) (hlocks : meth.locks = false) (hin : meth.name = yJ7_fill_fda19.name) (rs : xHp) (k10 : xHp → Nat → Int32 → Int32 → Int32 → Option (xHp)) (hk10 : ∀ (f : xHp) (a0 : Nat) (a2 : Int32) (a3 : Int32) (a4 : Int32) (H : Heap) (locs : List Loc) (ls : Array Slot), k10 f a0 a2 a3 a4 = some rs → xY G z f s H locs → lv_has ls 5 [(0, .ref a0), (2, .int a2), (3, .int a3), (4, .int a4)] → W p l e rm_J7_fill_fda19 s m args below meth c H locs 0 0 (MQ below (xQ G none z rs) args s rm_J7_fill_fda19.cells rm_J7_fill_fda19.slots (xA G)) (F0 m 10 ls [])) (f : xHp) (a0 : Nat) (a2 : Int32) (a3 : Int32) (a4 : Int32) (H : Heap) (locs : List Loc) (ls : Array Slot) (h : F_J7_fill_fda19_10 k10 f a0 a2 a3 a4 = some rs) (Y : xY G z f s H locs) (hl : lv_has ls 5 [(0, .ref a0), (2, .int a2), (3, .int a3), (4, .int a4)]) : W p l e rm_J7_fill_fda19 s m args below meth c H locs 0 0 (MQ below (xQ G none z rs) args s rm_J7_fill_fda19.cells rm_J7_fill_fda19.slots (xA G)) (F0 m 10 ls []) := by
  have hx := X.1.1
  have hb := X.1.2.1
  unfold F_J7_fill_fda19_10 at h
  refine lv_iload hx hb dJ7_fill_fda19_10 (lv_at hl 3 rfl) ?_
  refine lv_iload_n hx hb dJ7_fill_fda19_12 rfl (lv_at hl 1 rfl) ?_
  refine lv_icmp_ge (tgt := 27) hx hb dJ7_fill_fda19_13 (by decide) (fun c1 => ?_) (fun c1 => ?_)
  · replace h := Eq.trans (if_pos c1).symm h
    replace h := Option.some.inj h
    subst h
    exact q_retv X Y hr hlocks (Nat.le_of_ble_eq_true rfl) (Nat.le_of_ble_eq_true rfl) dJ7_fill_fda19_27
  · replace h := Eq.trans (if_neg c1).symm h
    refine lv_aload_n hx hb dJ7_fill_fda19_16 rfl (lv_at hl 0 rfl) ?_
    refine lv_iload hx hb dJ7_fill_fda19_17 (lv_at hl 3 rfl) ?_
    refine lv_iload_n hx hb dJ7_fill_fda19_19 rfl (lv_at hl 2 rfl) ?_
    replace h := xb h
    obtain ⟨f2, ef2, h⟩ := h
    refine q_iast X Y ef2 dJ7_fill_fda19_20 (fun H locs Y => ?_)
    refine lv_iinc (v := (a4 + 1)) (lv' := [(4, .int (a4 + 1)), (0, .ref a0), (2, .int a2), (3, .int a3)]) hx hb dJ7_fill_fda19_21 hl (k := 3) rfl rfl (by decide) rfl (fun ls hl => ?_)
    refine lv_goto (tgt := 10) hx hb dJ7_fill_fda19_24 (by decide) ?_
    refine W.widen (k := 0) (n := 0) (Nat.le_of_ble_eq_true rfl) (Nat.le_of_ble_eq_true rfl) ?_
    exact hk10 f2 a0 a2 a3 (a4 + 1) _ _ _ h Y (lv_sub hl [1, 2, 3, 0] rfl)
set_option maxRecDepth 100000 in
set_option maxHeartbeats 4000000 in
theorem lw_J7_fill_fda19_10 {p : Program} {l : Launch} {e : Env} {s : State} {m : MethodId} {args : Array Value} {below : List Frame} {meth : Method} {c : Code} {G : xG} {z : Nat} (X : xC G p m c s args RJ7 cJ7_fill_fda19 5) (hr : meth.sig.returnType = none) (hlocks : meth.locks = false) (hin : meth.name = yJ7_fill_fda19.name) (rs : xHp)  : ∀ (n : Nat) (f : xHp) (a0 : Nat) (a2 : Int32) (a3 : Int32) (a4 : Int32) (H : Heap) (locs : List Loc) (ls : Array Slot), L_J7_fill_fda19_10  n f a0 a2 a3 a4 = some rs → xY G z f s H locs → lv_has ls 5 [(0, .ref a0), (2, .int a2), (3, .int a3), (4, .int a4)] → W p l e rm_J7_fill_fda19 s m args below meth c H locs 0 0 (MQ below (xQ G none z rs) args s rm_J7_fill_fda19.cells rm_J7_fill_fda19.slots (xA G)) (F0 m 10 ls []) := by
  intro n
  induction n with
  | zero => intro f a0 a2 a3 a4 H locs ls h Y hl; cases h
  | succ n ih => intro f a0 a2 a3 a4 H locs ls h Y hl; exact w_J7_fill_fda19_10 X hr hlocks hin rs _ ih f a0 a2 a3 a4 _ _ _ h Y hl
set_option maxRecDepth 100000 in
set_option maxHeartbeats 4000000 in
theorem c_J7_fill_fda19 (l : Launch) (G : xG) (z : Nat) (f : xHp) (p0 : Nat) (p1 : Int32) (p2 : Int32) (p3 : Int32) (rs : xHp) (h : F_J7_fill_fda19 f p0 p1 p2 p3 = some rs) : xM G l yJ7_fill_fda19 cJ7_fill_fda19 5 none rm_J7_fill_fda19 [.ref p0, .int p1, .int p2, .int p3] z f none z rs := by
  refine xM_ofF (by decide +kernel) (Nat.le_of_ble_eq_true rfl) ?_
  intro p e s m below meth c ls X hr hlocks hin Y hl
  have hl : lv_has ls 5 [(0, .ref p0), (1, .int p1), (2, .int p2), (3, .int p3)] := hl
  have hx := X.1.1
  have hb := X.1.2.1
  unfold F_J7_fill_fda19 at h
  refine lv_aload_n hx hb dJ7_fill_fda19_0 rfl (lv_at hl 0 rfl) ?_
  replace h := xb h
  obtain ⟨v1, ev1, h⟩ := h
  refine q_alen X Y ev1 dJ7_fill_fda19_1 ?_
  refine lv_iload_n hx hb dJ7_fill_fda19_2 rfl (lv_at hl 1 rfl) ?_
  refine lv_iload_n hx hb dJ7_fill_fda19_3 rfl (lv_at hl 2 rfl) ?_
  replace h := xb h
  obtain ⟨q2, eq2, h⟩ := h
  refine q_callS X Y hl.1 (rest := []) (As := [.int v1, .int p1, .int p2]) (c_J7_rangeCheck_23922 l G z f v1 p1 p2 _ eq2) cd_J7_rangeCheck_23922 ls_J7_13 ⟨(Nat.le_of_ble_eq_true rfl), (Nat.le_of_ble_eq_true rfl)⟩ ⟨(Nat.le_of_ble_eq_true rfl), (Nat.le_of_ble_eq_true rfl)⟩ rfl rfl (Nat.le_of_ble_eq_true rfl) dJ7_fill_fda19_4 (fun H locs Y => ?_)
  refine W.eq (g2 := F0 m 7 ls []) rfl ?_
  refine lv_iload_n hx hb dJ7_fill_fda19_7 rfl (lv_at hl 1 rfl) ?_
  refine lv_istore (lv' := [(4, .int p1), (0, .ref p0), (1, .int p1), (2, .int p2), (3, .int p3)]) hx hb dJ7_fill_fda19_8 hl (by decide) rfl (fun ls hl => ?_)
  refine W.widen (k := 0) (n := 0) (Nat.le_of_ble_eq_true rfl) (Nat.le_of_ble_eq_true rfl) ?_
  exact lw_J7_fill_fda19_10 X hr hlocks hin rs  xfuel f p0 p2 p3 p1 _ _ _ h Y (lv_sub hl [1, 3, 4, 0] rfl)

/-! the reference's whole numbers of 24 words -/
def W24 : Nat := 4294967296 ^ 24
theorem W24_eq : 4294967296 ^ 24 = W24 := rfl
theorem W24_split : W24 = 18446744073709551616 * 4294967296 ^ 22 := by
  have h : (4294967296 : Nat) ^ (2 + 22) = 4294967296 ^ 2 * 4294967296 ^ 22 := Nat.pow_add ..
  have h2 : (4294967296 : Nat) ^ 2 = 18446744073709551616 := by decide
  rw [h2] at h
  exact h
def b24 (A : Nat → Int64) : Prop := ∀ k, k < 24 → uN (A k) < 4294967296
def mR (A : Nat → Int64) (v : Int) : Prop := b24 A ∧ ∃ k : Int, (lvl A 24 0 : Int) = v + k * (W24 : Int)
def lb (v : Int64) (k : Nat) : Int64 := (if k = 0 then v else if k = 1 then v >>> ((32 : Int32).toInt64 &&& 63) else v >>> ((63 : Int32).toInt64 &&& 63)) &&& 4294967295
theorem lb_lt (v : Int64) (k : Nat) : uN (lb v k) < 4294967296 := by
  unfold lb
  rw [uN_lo]
  exact Nat.mod_lt _ (by decide)
theorem lb_0 (v : Int64) : uN (lb v 0) = uN v % 4294967296 := by
  show uN (v &&& 4294967295) = _
  rw [uN_lo]
theorem lb_1 (v : Int64) : uN (lb v 1) = uN v / 4294967296 := by
  show uN ((v >>> ((32 : Int32).toInt64 &&& 63)) &&& 4294967295) = _
  rw [uN_lo]
  have h1 := uN_emod (v >>> ((32 : Int32).toInt64 &&& 63))
  rw [sar32] at h1
  have h2 := uN_int v
  have h3 := uN_lt v
  split at h2 <;> omega
theorem lb_2 {v : Int64} {k : Nat} (hk : 2 ≤ k) : uN (lb v k) = if 0 ≤ v.toInt then 0 else 4294967295 := by
  unfold lb
  rw [if_neg (show ¬ k = 0 by omega), if_neg (show ¬ k = 1 by omega), uN_lo]
  have h1 := uN_emod (v >>> ((63 : Int32).toInt64 &&& 63))
  rw [sar63] at h1
  have h4 := Int64.toInt_le v
  have h5 := Int64.minValue_le_toInt v
  have e4 : Int64.maxValue.toInt = 9223372036854775807 := rfl
  have e5 : Int64.minValue.toInt = -9223372036854775808 := rfl
  split <;> omega
theorem lvl_ones {D : Nat → Int64} : ∀ (n i : Nat), (∀ k, i ≤ k → k < i + n → uN (D k) = 4294967295) → lvl D n i + 1 = 4294967296 ^ n := by
  intro n
  induction n with
  | zero => intro i _; rfl
  | succ n ih =>
    intro i h
    have h1 := ih (i + 1) (fun k a b => h k (by omega) (by omega))
    have h2 := h i (Nat.le_refl _) (by omega)
    rw [lvl_s, h2, Nat.pow_succ, ← h1]
    omega
theorem lvl_zeros {D : Nat → Int64} : ∀ (n i : Nat), (∀ k, i ≤ k → k < i + n → uN (D k) = 0) → lvl D n i = 0 := by
  intro n
  induction n with
  | zero => intro i _; rfl
  | succ n ih =>
    intro i h
    rw [lvl_s, h i (Nat.le_refl _) (by omega), ih (i + 1) (fun k a b => h k (by omega) (by omega))]
theorem lb_val (v : Int64) : ∃ k : Int, (lvl (lb v) 24 0 : Int) = v.toInt + k * (W24 : Int) := by
  have e : lvl (lb v) 24 0 = uN v + 18446744073709551616 * lvl (lb v) 22 2 := by
    rw [lvl_s _ 23 0, lvl_s _ 22 (0 + 1), lb_0, lb_1]
    show _ + 4294967296 * (_ + 4294967296 * lvl _ 22 2) = _
    omega
  by_cases h0 : 0 ≤ v.toInt
  · refine ⟨0, ?_⟩
    have z0 := lvl_zeros (D := lb v) 22 2 (fun k a _ => by rw [lb_2 a, if_pos h0])
    rw [e, z0, Nat.mul_zero, Nat.add_zero, uN_pos h0]
    omega
  · refine ⟨1, ?_⟩
    have o1 := lvl_ones (D := lb v) 22 2 (fun k a _ => by rw [lb_2 a, if_neg h0])
    have h1 := uN_int v
    have h2 := uN_lt v
    rw [e, W24_split, ← o1]
    split at h1
    · omega
    · rw [h1]
      omega
def fb (A : Nat → Int64) (v : Int64) (i : Nat) : Nat → Int64 := fun k => if i ≤ k ∧ k < 24 then lb v k else A k
theorem fb_R (A : Nat → Int64) (v : Int64) : mR (fb A v 0) v.toInt := by
  refine ⟨fun k hk => ?_, ?_⟩
  · unfold fb
    rw [if_pos ⟨Nat.zero_le _, hk⟩]
    exact lb_lt v k
  · rw [lvl_eq (D := fb A v 0) (E := lb v) 24 0 (fun k a b => if_pos ⟨a, by omega⟩)]
    exact lb_val v
theorem fb_end (A : Nat → Int64) (v : Int64) : fb A v 24 = A := by
  funext k
  unfold fb
  rw [if_neg (by omega)]
theorem fb_step (A : Nat → Int64) (v : Int64) {i : Nat} (hi : i < 24) : fb (va_up A i (lb v i)) v (i + 1) = fb A v i := by
  funext k
  unfold fb
  by_cases h1 : i + 1 ≤ k ∧ k < 24
  · rw [if_pos h1, if_pos (by omega)]
  · rw [if_neg h1]
    by_cases h2 : k = i
    · rw [h2, up_at, if_pos (by omega)]
    · rw [up_ne _ _ h2, if_neg (by omega)]
def zb (A : Nat → Int64) (i : Nat) : Nat → Int64 := fun k => if i ≤ k ∧ k < 24 then 0 else A k
theorem zb_end (A : Nat → Int64) : zb A 24 = A := by
  funext k
  unfold zb
  rw [if_neg (by omega)]
theorem zb_step (A : Nat → Int64) {i : Nat} (hi : i < 24) : zb (va_up A i 0) (i + 1) = zb A i := by
  funext k
  unfold zb
  by_cases h1 : i + 1 ≤ k ∧ k < 24
  · rw [if_pos h1, if_pos (by omega)]
  · rw [if_neg h1]
    by_cases h2 : k = i
    · rw [h2, up_at, if_pos (by omega)]
    · rw [up_ne _ _ h2, if_neg (by omega)]
theorem zb_0 (A : Nat → Int64) : lvl (zb A 0) 24 0 = 0 := lvl_zeros 24 0 (fun k a b => by
  unfold zb
  rw [if_pos ⟨a, by omega⟩]
  rfl)
theorem zb_b (A : Nat → Int64) : b24 (zb A 0) := fun k hk => by
  unfold zb
  rw [if_pos ⟨Nat.zero_le _, hk⟩]
  decide
theorem zb_R (A : Nat → Int64) : mR (zb A 0) 0 := ⟨zb_b A, 0, by rw [zb_0]; omega⟩
theorem outR {m2 m1 M P LP LF LF' f Q C1 C2 : Int} (h1 : m1 + C1 * (Q * 4294967296) = M + P * LF') (h2 : m2 = m1 + 4294967296 * (LP * LF) + C2 * (Q * 4294967296)) (h3 : LF' = LF + f * Q) : m2 = M + (P + 4294967296 * LP) * LF' + (C2 - C1 - LP * f) * (Q * 4294967296) := by grind
theorem prodR {d a b k l C W v w : Int} (ha : a = v + k * W) (hb : b = w + l * W) (h : d = 0 + a * b + C * W) : d = v * w + (v * l + k * w + k * l * W + C) * W := by grind
section LIMBS
variable {x : Nat} {iv ai : Nat → Nat → Int32} {aj : Nat → Nat → Int64} {ar : Nat → Nat → Option Nat} {pp : Nat → Option Nat} {f0 : xHp}
theorem r35 {i : Nat} (hi : i < 24) : hJld (hp x iv ai aj ar pp f0) (x + 35) (nI i) = some (aj 35 i) := by rw [ra_35]; simp (disch := omega) only [mul_3, mul_4, mul_5, mul_9, mul_30, mul_160, add_1, add_2, add_3, add_4, add_5, add_6, addl_1, addl_2, addl_3, addl_4, cle_0, cel_0, clt_0, ctl_0, ceq_0, cle_1, cel_1, clt_1, ctl_1, ceq_1, cle_2, cel_2, clt_2, ctl_2, ceq_2, cle_3, cel_3, clt_3, ctl_3, ceq_3, cle_4, cel_4, clt_4, ctl_4, ceq_4, cle_5, cel_5, clt_5, ctl_5, ceq_5, cle_6, cel_6, clt_6, ctl_6, ceq_6, cle_7, cel_7, clt_7, ctl_7, ceq_7, cle_8, cel_8, clt_8, ctl_8, ceq_8, cle_9, cel_9, clt_9, ctl_9, ceq_9, cle_12, cel_12, clt_12, ctl_12, ceq_12, cle_20, cel_20, clt_20, ctl_20, ceq_20, cle_24, cel_24, clt_24, ctl_24, ceq_24, cle_25, cel_25, clt_25, ctl_25, ceq_25, cle_30, cel_30, clt_30, ctl_30, ceq_30, cle_36, cel_36, clt_36, ctl_36, ceq_36, cle_40, cel_40, clt_40, ctl_40, ceq_40, cle_41, cel_41, clt_41, ctl_41, ceq_41, cle_120, cel_120, clt_120, ctl_120, ceq_120, cle_160, cel_160, clt_160, ctl_160, ceq_160, cle_164, cel_164, clt_164, ctl_164, ceq_164, cle_500, cel_500, clt_500, ctl_500, ceq_500, cle_1000, cel_1000, clt_1000, ctl_1000, ceq_1000, ixr, ixq, ixf, neg_nI, leq_nI, lt_nI, eq_nI, cl_nI, nI_add, pk_mul]
theorem r36 {i : Nat} (hi : i < 24) : hJld (hp x iv ai aj ar pp f0) (x + 36) (nI i) = some (aj 36 i) := by rw [ra_36]; simp (disch := omega) only [mul_3, mul_4, mul_5, mul_9, mul_30, mul_160, add_1, add_2, add_3, add_4, add_5, add_6, addl_1, addl_2, addl_3, addl_4, cle_0, cel_0, clt_0, ctl_0, ceq_0, cle_1, cel_1, clt_1, ctl_1, ceq_1, cle_2, cel_2, clt_2, ctl_2, ceq_2, cle_3, cel_3, clt_3, ctl_3, ceq_3, cle_4, cel_4, clt_4, ctl_4, ceq_4, cle_5, cel_5, clt_5, ctl_5, ceq_5, cle_6, cel_6, clt_6, ctl_6, ceq_6, cle_7, cel_7, clt_7, ctl_7, ceq_7, cle_8, cel_8, clt_8, ctl_8, ceq_8, cle_9, cel_9, clt_9, ctl_9, ceq_9, cle_12, cel_12, clt_12, ctl_12, ceq_12, cle_20, cel_20, clt_20, ctl_20, ceq_20, cle_24, cel_24, clt_24, ctl_24, ceq_24, cle_25, cel_25, clt_25, ctl_25, ceq_25, cle_30, cel_30, clt_30, ctl_30, ceq_30, cle_36, cel_36, clt_36, ctl_36, ceq_36, cle_40, cel_40, clt_40, ctl_40, ceq_40, cle_41, cel_41, clt_41, ctl_41, ceq_41, cle_120, cel_120, clt_120, ctl_120, ceq_120, cle_160, cel_160, clt_160, ctl_160, ceq_160, cle_164, cel_164, clt_164, ctl_164, ceq_164, cle_500, cel_500, clt_500, ctl_500, ceq_500, cle_1000, cel_1000, clt_1000, ctl_1000, ceq_1000, ixr, ixq, ixf, neg_nI, leq_nI, lt_nI, eq_nI, cl_nI, nI_add, pk_mul]
theorem r37 {i : Nat} (hi : i < 24) : hJld (hp x iv ai aj ar pp f0) (x + 37) (nI i) = some (aj 37 i) := by rw [ra_37]; simp (disch := omega) only [mul_3, mul_4, mul_5, mul_9, mul_30, mul_160, add_1, add_2, add_3, add_4, add_5, add_6, addl_1, addl_2, addl_3, addl_4, cle_0, cel_0, clt_0, ctl_0, ceq_0, cle_1, cel_1, clt_1, ctl_1, ceq_1, cle_2, cel_2, clt_2, ctl_2, ceq_2, cle_3, cel_3, clt_3, ctl_3, ceq_3, cle_4, cel_4, clt_4, ctl_4, ceq_4, cle_5, cel_5, clt_5, ctl_5, ceq_5, cle_6, cel_6, clt_6, ctl_6, ceq_6, cle_7, cel_7, clt_7, ctl_7, ceq_7, cle_8, cel_8, clt_8, ctl_8, ceq_8, cle_9, cel_9, clt_9, ctl_9, ceq_9, cle_12, cel_12, clt_12, ctl_12, ceq_12, cle_20, cel_20, clt_20, ctl_20, ceq_20, cle_24, cel_24, clt_24, ctl_24, ceq_24, cle_25, cel_25, clt_25, ctl_25, ceq_25, cle_30, cel_30, clt_30, ctl_30, ceq_30, cle_36, cel_36, clt_36, ctl_36, ceq_36, cle_40, cel_40, clt_40, ctl_40, ceq_40, cle_41, cel_41, clt_41, ctl_41, ceq_41, cle_120, cel_120, clt_120, ctl_120, ceq_120, cle_160, cel_160, clt_160, ctl_160, ceq_160, cle_164, cel_164, clt_164, ctl_164, ceq_164, cle_500, cel_500, clt_500, ctl_500, ceq_500, cle_1000, cel_1000, clt_1000, ctl_1000, ceq_1000, ixr, ixq, ixf, neg_nI, leq_nI, lt_nI, eq_nI, cl_nI, nI_add, pk_mul]
theorem r38 {i : Nat} (hi : i < 24) : hJld (hp x iv ai aj ar pp f0) (x + 38) (nI i) = some (aj 38 i) := by rw [ra_38]; simp (disch := omega) only [mul_3, mul_4, mul_5, mul_9, mul_30, mul_160, add_1, add_2, add_3, add_4, add_5, add_6, addl_1, addl_2, addl_3, addl_4, cle_0, cel_0, clt_0, ctl_0, ceq_0, cle_1, cel_1, clt_1, ctl_1, ceq_1, cle_2, cel_2, clt_2, ctl_2, ceq_2, cle_3, cel_3, clt_3, ctl_3, ceq_3, cle_4, cel_4, clt_4, ctl_4, ceq_4, cle_5, cel_5, clt_5, ctl_5, ceq_5, cle_6, cel_6, clt_6, ctl_6, ceq_6, cle_7, cel_7, clt_7, ctl_7, ceq_7, cle_8, cel_8, clt_8, ctl_8, ceq_8, cle_9, cel_9, clt_9, ctl_9, ceq_9, cle_12, cel_12, clt_12, ctl_12, ceq_12, cle_20, cel_20, clt_20, ctl_20, ceq_20, cle_24, cel_24, clt_24, ctl_24, ceq_24, cle_25, cel_25, clt_25, ctl_25, ceq_25, cle_30, cel_30, clt_30, ctl_30, ceq_30, cle_36, cel_36, clt_36, ctl_36, ceq_36, cle_40, cel_40, clt_40, ctl_40, ceq_40, cle_41, cel_41, clt_41, ctl_41, ceq_41, cle_120, cel_120, clt_120, ctl_120, ceq_120, cle_160, cel_160, clt_160, ctl_160, ceq_160, cle_164, cel_164, clt_164, ctl_164, ceq_164, cle_500, cel_500, clt_500, ctl_500, ceq_500, cle_1000, cel_1000, clt_1000, ctl_1000, ceq_1000, ixr, ixq, ixf, neg_nI, leq_nI, lt_nI, eq_nI, cl_nI, nI_add, pk_mul]
theorem w35 {i : Nat} (hi : i < 24) (v : Int64) : hJst (hp x iv ai aj ar pp f0) (x + 35) (nI i) v = some (hp x iv ai (u2 aj 35 i v) ar pp f0) := by rw [wa_35]; simp (disch := omega) only [mul_3, mul_4, mul_5, mul_9, mul_30, mul_160, add_1, add_2, add_3, add_4, add_5, add_6, addl_1, addl_2, addl_3, addl_4, cle_0, cel_0, clt_0, ctl_0, ceq_0, cle_1, cel_1, clt_1, ctl_1, ceq_1, cle_2, cel_2, clt_2, ctl_2, ceq_2, cle_3, cel_3, clt_3, ctl_3, ceq_3, cle_4, cel_4, clt_4, ctl_4, ceq_4, cle_5, cel_5, clt_5, ctl_5, ceq_5, cle_6, cel_6, clt_6, ctl_6, ceq_6, cle_7, cel_7, clt_7, ctl_7, ceq_7, cle_8, cel_8, clt_8, ctl_8, ceq_8, cle_9, cel_9, clt_9, ctl_9, ceq_9, cle_12, cel_12, clt_12, ctl_12, ceq_12, cle_20, cel_20, clt_20, ctl_20, ceq_20, cle_24, cel_24, clt_24, ctl_24, ceq_24, cle_25, cel_25, clt_25, ctl_25, ceq_25, cle_30, cel_30, clt_30, ctl_30, ceq_30, cle_36, cel_36, clt_36, ctl_36, ceq_36, cle_40, cel_40, clt_40, ctl_40, ceq_40, cle_41, cel_41, clt_41, ctl_41, ceq_41, cle_120, cel_120, clt_120, ctl_120, ceq_120, cle_160, cel_160, clt_160, ctl_160, ceq_160, cle_164, cel_164, clt_164, ctl_164, ceq_164, cle_500, cel_500, clt_500, ctl_500, ceq_500, cle_1000, cel_1000, clt_1000, ctl_1000, ceq_1000, ixr, ixq, ixf, neg_nI, leq_nI, lt_nI, eq_nI, cl_nI, nI_add, pk_mul]
theorem w36 {i : Nat} (hi : i < 24) (v : Int64) : hJst (hp x iv ai aj ar pp f0) (x + 36) (nI i) v = some (hp x iv ai (u2 aj 36 i v) ar pp f0) := by rw [wa_36]; simp (disch := omega) only [mul_3, mul_4, mul_5, mul_9, mul_30, mul_160, add_1, add_2, add_3, add_4, add_5, add_6, addl_1, addl_2, addl_3, addl_4, cle_0, cel_0, clt_0, ctl_0, ceq_0, cle_1, cel_1, clt_1, ctl_1, ceq_1, cle_2, cel_2, clt_2, ctl_2, ceq_2, cle_3, cel_3, clt_3, ctl_3, ceq_3, cle_4, cel_4, clt_4, ctl_4, ceq_4, cle_5, cel_5, clt_5, ctl_5, ceq_5, cle_6, cel_6, clt_6, ctl_6, ceq_6, cle_7, cel_7, clt_7, ctl_7, ceq_7, cle_8, cel_8, clt_8, ctl_8, ceq_8, cle_9, cel_9, clt_9, ctl_9, ceq_9, cle_12, cel_12, clt_12, ctl_12, ceq_12, cle_20, cel_20, clt_20, ctl_20, ceq_20, cle_24, cel_24, clt_24, ctl_24, ceq_24, cle_25, cel_25, clt_25, ctl_25, ceq_25, cle_30, cel_30, clt_30, ctl_30, ceq_30, cle_36, cel_36, clt_36, ctl_36, ceq_36, cle_40, cel_40, clt_40, ctl_40, ceq_40, cle_41, cel_41, clt_41, ctl_41, ceq_41, cle_120, cel_120, clt_120, ctl_120, ceq_120, cle_160, cel_160, clt_160, ctl_160, ceq_160, cle_164, cel_164, clt_164, ctl_164, ceq_164, cle_500, cel_500, clt_500, ctl_500, ceq_500, cle_1000, cel_1000, clt_1000, ctl_1000, ceq_1000, ixr, ixq, ixf, neg_nI, leq_nI, lt_nI, eq_nI, cl_nI, nI_add, pk_mul]
theorem w37 {i : Nat} (hi : i < 24) (v : Int64) : hJst (hp x iv ai aj ar pp f0) (x + 37) (nI i) v = some (hp x iv ai (u2 aj 37 i v) ar pp f0) := by rw [wa_37]; simp (disch := omega) only [mul_3, mul_4, mul_5, mul_9, mul_30, mul_160, add_1, add_2, add_3, add_4, add_5, add_6, addl_1, addl_2, addl_3, addl_4, cle_0, cel_0, clt_0, ctl_0, ceq_0, cle_1, cel_1, clt_1, ctl_1, ceq_1, cle_2, cel_2, clt_2, ctl_2, ceq_2, cle_3, cel_3, clt_3, ctl_3, ceq_3, cle_4, cel_4, clt_4, ctl_4, ceq_4, cle_5, cel_5, clt_5, ctl_5, ceq_5, cle_6, cel_6, clt_6, ctl_6, ceq_6, cle_7, cel_7, clt_7, ctl_7, ceq_7, cle_8, cel_8, clt_8, ctl_8, ceq_8, cle_9, cel_9, clt_9, ctl_9, ceq_9, cle_12, cel_12, clt_12, ctl_12, ceq_12, cle_20, cel_20, clt_20, ctl_20, ceq_20, cle_24, cel_24, clt_24, ctl_24, ceq_24, cle_25, cel_25, clt_25, ctl_25, ceq_25, cle_30, cel_30, clt_30, ctl_30, ceq_30, cle_36, cel_36, clt_36, ctl_36, ceq_36, cle_40, cel_40, clt_40, ctl_40, ceq_40, cle_41, cel_41, clt_41, ctl_41, ceq_41, cle_120, cel_120, clt_120, ctl_120, ceq_120, cle_160, cel_160, clt_160, ctl_160, ceq_160, cle_164, cel_164, clt_164, ctl_164, ceq_164, cle_500, cel_500, clt_500, ctl_500, ceq_500, cle_1000, cel_1000, clt_1000, ctl_1000, ceq_1000, ixr, ixq, ixf, neg_nI, leq_nI, lt_nI, eq_nI, cl_nI, nI_add, pk_mul]
theorem w38 {i : Nat} (hi : i < 24) (v : Int64) : hJst (hp x iv ai aj ar pp f0) (x + 38) (nI i) v = some (hp x iv ai (u2 aj 38 i v) ar pp f0) := by rw [wa_38]; simp (disch := omega) only [mul_3, mul_4, mul_5, mul_9, mul_30, mul_160, add_1, add_2, add_3, add_4, add_5, add_6, addl_1, addl_2, addl_3, addl_4, cle_0, cel_0, clt_0, ctl_0, ceq_0, cle_1, cel_1, clt_1, ctl_1, ceq_1, cle_2, cel_2, clt_2, ctl_2, ceq_2, cle_3, cel_3, clt_3, ctl_3, ceq_3, cle_4, cel_4, clt_4, ctl_4, ceq_4, cle_5, cel_5, clt_5, ctl_5, ceq_5, cle_6, cel_6, clt_6, ctl_6, ceq_6, cle_7, cel_7, clt_7, ctl_7, ceq_7, cle_8, cel_8, clt_8, ctl_8, ceq_8, cle_9, cel_9, clt_9, ctl_9, ceq_9, cle_12, cel_12, clt_12, ctl_12, ceq_12, cle_20, cel_20, clt_20, ctl_20, ceq_20, cle_24, cel_24, clt_24, ctl_24, ceq_24, cle_25, cel_25, clt_25, ctl_25, ceq_25, cle_30, cel_30, clt_30, ctl_30, ceq_30, cle_36, cel_36, clt_36, ctl_36, ceq_36, cle_40, cel_40, clt_40, ctl_40, ceq_40, cle_41, cel_41, clt_41, ctl_41, ceq_41, cle_120, cel_120, clt_120, ctl_120, ceq_120, cle_160, cel_160, clt_160, ctl_160, ceq_160, cle_164, cel_164, clt_164, ctl_164, ceq_164, cle_500, cel_500, clt_500, ctl_500, ceq_500, cle_1000, cel_1000, clt_1000, ctl_1000, ceq_1000, ixr, ixq, ixf, neg_nI, leq_nI, lt_nI, eq_nI, cl_nI, nI_add, pk_mul]
theorem lb_if {α : Type} (F : Int64 → α) (v : Int64) {i : Nat} (hi : i < 24) : (if nI i = 0 then F v else if nI i = 1 then F (v >>> ((32 : Int32).toInt64 &&& 63)) else F (v >>> ((63 : Int32).toInt64 &&& 63))) = F (if i = 0 then v else if i = 1 then v >>> ((32 : Int32).toInt64 &&& 63) else v >>> ((63 : Int32).toInt64 &&& 63)) := by
  by_cases h0 : i = 0
  · rw [if_pos h0, if_pos (show nI i = 0 by rw [h0]; rfl)]
  · rw [if_neg h0, if_neg (show ¬ nI i = 0 by rw [ceq_0 (by omega)]; exact h0)]
    by_cases h1 : i = 1
    · rw [if_pos h1, if_pos (show nI i = 1 by rw [h1]; rfl)]
    · rw [if_neg h1, if_neg (show ¬ nI i = 1 by rw [ceq_1 (by omega)]; exact h1)]
theorem m_bg_loop (v : Int64) : ∀ (n i m : Nat) (aj : Nat → Nat → Int64), i + n = 24 → n < m → L_X11_beginProduct_2 m (hp x iv ai aj ar pp f0) (x + 19) v (nI i) = some (hp x iv ai (va_up aj 35 (fb (aj 35) v i)) ar pp f0) := by
  intro n
  induction n with
  | zero =>
    intro i m aj hi hm
    obtain ⟨m, rfl⟩ : ∃ y, m = y + 1 := ⟨m - 1, by omega⟩
    have : i = 24 := by omega
    subst this
    show F_X11_beginProduct_2 _ _ _ _ _ = _
    unfold F_X11_beginProduct_2
    rw [if_pos (by decide), fb_end, up_self]
  | succ n ih =>
    intro i m aj hi hm
    obtain ⟨m, rfl⟩ : ∃ y, m = y + 1 := ⟨m - 1, by omega⟩
    have st : ∀ s0 : Int64, s0 = (if i = 0 then v else if i = 1 then v >>> ((32 : Int32).toInt64 &&& 63) else v >>> ((63 : Int32).toInt64 &&& 63)) → F_X11_beginProduct_37 (L_X11_beginProduct_2 m) (hp x iv ai aj ar pp f0) (x + 19) v (nI i) s0 (nI i) (x + 35) = some (hp x iv ai (va_up aj 35 (fb (aj 35) v i)) ar pp f0) := by
      intro s0 hs
      unfold F_X11_beginProduct_37
      have el : s0 &&& 4294967295 = lb v i := by rw [hs]; rfl
      rw [el, w35 (by omega), Option.bind_some, add_1, ih (i + 1) m _ (by omega) (by omega), u2_cc, up_u2, fb_step _ _ (by omega)]
    show F_X11_beginProduct_2 _ _ _ _ _ = _
    unfold F_X11_beginProduct_2
    rw [if_neg (by rw [cle_24 (by omega)]; omega), rn_19_26, Option.bind_some]
    refine (lb_if (fun s0 => F_X11_beginProduct_37 (L_X11_beginProduct_2 m) (hp x iv ai aj ar pp f0) (x + 19) v (nI i) s0 (nI i) (x + 35)) v (show i < 24 by omega)).trans ?_
    exact st _ rfl
theorem m_bgp (v : Int64) : ∃ P, F_X11_beginProduct (hp x iv ai aj ar pp f0) (x + 19) v = some (hp x iv ai (va_up aj 35 P) ar pp f0) ∧ mR P v.toInt := ⟨_, m_bg_loop v 24 0 xfuel aj (by omega) (by decide), fb_R _ _⟩
theorem m_ml2 (v : Int64) : ∀ (n i m : Nat) (aj : Nat → Nat → Int64), i + n = 24 → n < m → L_X11_multiply_2 m (hp x iv ai aj ar pp f0) (x + 19) v (nI i) = L_X11_multiply_57 xfuel (hp x iv ai (va_up (va_up aj 36 (fb (aj 36) v i)) 37 (zb (aj 37) i)) ar pp f0) (x + 19) 0 := by
  intro n
  induction n with
  | zero =>
    intro i m aj hi hm
    obtain ⟨m, rfl⟩ : ∃ y, m = y + 1 := ⟨m - 1, by omega⟩
    have : i = 24 := by omega
    subst this
    show F_X11_multiply_2 _ _ _ _ _ = _
    unfold F_X11_multiply_2
    rw [if_pos (by decide), fb_end, zb_end, up_self, up_self]
  | succ n ih =>
    intro i m aj hi hm
    obtain ⟨m, rfl⟩ : ∃ y, m = y + 1 := ⟨m - 1, by omega⟩
    have st : ∀ s0 : Int64, s0 = (if i = 0 then v else if i = 1 then v >>> ((32 : Int32).toInt64 &&& 63) else v >>> ((63 : Int32).toInt64 &&& 63)) → F_X11_multiply_37 (L_X11_multiply_2 m) (hp x iv ai aj ar pp f0) (x + 19) v (nI i) s0 (nI i) (x + 36) = L_X11_multiply_57 xfuel (hp x iv ai (va_up (va_up aj 36 (fb (aj 36) v i)) 37 (zb (aj 37) i)) ar pp f0) (x + 19) 0 := by
      intro s0 hs
      unfold F_X11_multiply_37
      have el : s0 &&& 4294967295 = lb v i := by rw [hs]; rfl
      rw [el, w36 (by omega), Option.bind_some, rn_19_28, Option.bind_some, w37 (by omega), Option.bind_some, add_1, ih (i + 1) m _ (by omega) (by omega)]
      have e1 : u2 (u2 aj 36 i (lb v i)) 37 i 0 36 = va_up (aj 36) i (lb v i) := by rw [u2_ne _ _ _ (by decide), u2_cc]
      have e2 : u2 (u2 aj 36 i (lb v i)) 37 i 0 37 = va_up (aj 37) i 0 := by rw [u2_cc, u2_ne _ _ _ (by decide)]
      rw [e1, e2, fb_step _ _ (by omega), zb_step _ (by omega)]
      have e3 : ∀ B C, va_up (va_up (u2 (u2 aj 36 i (lb v i)) 37 i 0) 36 B) 37 C = va_up (va_up aj 36 B) 37 C := by
        intro B C
        funext k
        by_cases h1 : k = 37
        · rw [h1, up_at, up_at]
        · rw [up_ne _ _ h1, up_ne _ _ h1]
          by_cases h2 : k = 36
          · rw [h2, up_at, up_at]
          · rw [up_ne _ _ h2, up_ne _ _ h2, u2_ne _ _ _ h1, u2_ne _ _ _ h2]
      rw [e3]
    show F_X11_multiply_2 _ _ _ _ _ = _
    unfold F_X11_multiply_2
    rw [if_neg (by rw [cle_24 (by omega)]; omega), rn_19_27, Option.bind_some]
    refine (lb_if (fun s0 => F_X11_multiply_37 (L_X11_multiply_2 m) (hp x iv ai aj ar pp f0) (x + 19) v (nI i) s0 (nI i) (x + 36)) v (show i < 24 by omega)).trans ?_
    exact st _ rfl
theorem m_69 {i : Nat} (hi : i < 24) (k57 : xHp → Nat → Int32 → Option xHp) : ∀ (n j m : Nat) (aj : Nat → Nat → Int64) (ca : Int64), i + j + n = 24 → n < m → uN ca ≤ 4294967296 → b24 (aj 35) → b24 (aj 36) → b24 (aj 37) → ∃ M' C, L_X11_multiply_69 k57 m (hp x iv ai aj ar pp f0) (x + 19) (nI i) ca (nI j) = k57 (hp x iv ai (va_up aj 37 M') ar pp f0) (x + 19) (nI (i + 1)) ∧ (∀ k, k < i + j → M' k = aj 37 k) ∧ b24 M' ∧ lvl M' n (i + j) + C * 4294967296 ^ n = lvl (aj 37) n (i + j) + uN (aj 35 i) * lvl (aj 36) n j + uN ca := by
  intro n
  induction n with
  | zero =>
    intro j m aj ca hj hm hca h5 h6 h7
    obtain ⟨m, rfl⟩ : ∃ y, m = y + 1 := ⟨m - 1, by omega⟩
    refine ⟨aj 37, uN ca, ?_, fun _ _ => rfl, h7, ?_⟩
    · show F_X11_multiply_69 _ _ _ _ _ _ _ = _
      unfold F_X11_multiply_69
      rw [nI_add, if_pos (by rw [cle_24 (by omega)]; omega), add_1, up_self]
    · show 0 + uN ca * 1 = 0 + uN (aj 35 i) * 0 + uN ca
      omega
  | succ n ih =>
    intro j m aj ca hj hm hca h5 h6 h7
    obtain ⟨m, rfl⟩ : ∃ y, m = y + 1 := ⟨m - 1, by omega⟩
    have p5 := h5 i hi
    have p6 := h6 j (by omega)
    have p7 := h7 (i + j) (by omega)
    obtain ⟨w, hw⟩ : ∃ w : Int64, w = aj 35 i * aj 36 j := ⟨_, rfl⟩
    have b1 : uN (aj 35 i) * uN (aj 36 j) ≤ 4294967295 * 4294967295 := Nat.mul_le_mul (by omega) (by omega)
    have uw : uN w = uN (aj 35 i) * uN (aj 36 j) := by rw [hw, mul64_u (by omega)]
    obtain ⟨lo, hlo⟩ : ∃ lo : Int64, lo = aj 37 (i + j) + (w &&& 4294967295) + ca := ⟨_, rfl⟩
    have ul0 : uN (aj 37 (i + j) + (w &&& 4294967295)) = uN (aj 37 (i + j)) + uN w % 4294967296 := by
      rw [add64_u, uN_lo]
      rw [uN_lo]; omega
    have ul : uN lo = uN (aj 37 (i + j)) + uN w % 4294967296 + uN ca := by
      rw [hlo, add64_u, ul0]
      rw [ul0]; omega
    have uc : uN ((w.toUInt64 >>> ((32 : Int32).toInt64.toUInt64 &&& Int64.toUInt64 63)).toInt64 + (lo.toUInt64 >>> ((32 : Int32).toInt64.toUInt64 &&& Int64.toUInt64 63)).toInt64) = uN w / 4294967296 + uN lo / 4294967296 := by
      rw [add64_u, uN_s32, uN_s32]
      rw [uN_s32, uN_s32]; omega
    have a35 : u2 aj 37 (i + j) (lo &&& 4294967295) 35 = aj 35 := u2_ne _ _ _ (by decide)
    have a36 : u2 aj 37 (i + j) (lo &&& 4294967295) 36 = aj 36 := u2_ne _ _ _ (by decide)
    have a37 : u2 aj 37 (i + j) (lo &&& 4294967295) 37 = va_up (aj 37) (i + j) (lo &&& 4294967295) := u2_cc _ _ _ _
    obtain ⟨M', C, e1, e2, e3, e4⟩ := ih (j + 1) m (u2 aj 37 (i + j) (lo &&& 4294967295)) ((w.toUInt64 >>> ((32 : Int32).toInt64.toUInt64 &&& Int64.toUInt64 63)).toInt64 + (lo.toUInt64 >>> ((32 : Int32).toInt64.toUInt64 &&& Int64.toUInt64 63)).toInt64) (by omega) (by omega) (by rw [uc]; omega) (by rw [a35]; exact h5) (by rw [a36]; exact h6) (by
      rw [a37]
      intro k hk
      by_cases ek : k = i + j
      · rw [ek, up_at, uN_lo]; exact Nat.mod_lt _ (by decide)
      · rw [up_ne _ _ ek]; exact h7 k hk)
    refine ⟨M', C, ?_, fun k hk => ?_, e3, ?_⟩
    · show F_X11_multiply_69 _ _ _ _ _ _ _ = _
      unfold F_X11_multiply_69
      rw [nI_add, if_neg (by rw [cle_24 (by omega)]; omega), rn_19_26, Option.bind_some, r35 hi, Option.bind_some, rn_19_27, Option.bind_some, r36 (by omega), Option.bind_some, rn_19_28, Option.bind_some, r37 (by omega), Option.bind_some, Option.bind_some, ← hw, ← hlo, w37 (by omega), Option.bind_some, add_1, e1, up_u2]
    · rw [e2 k (by omega), a37, up_ne _ _ (by omega)]
    · have d1 : M' (i + j) = lo &&& 4294967295 := by rw [e2 (i + j) (by omega), a37, up_at]
      rw [a35, a36, a37, uc, show i + (j + 1) = i + j + 1 by omega, lvl_eq (D := va_up (aj 37) (i + j) (lo &&& 4294967295)) (E := aj 37) n (i + j + 1) (fun k a b => up_ne _ _ (by omega))] at e4
      rw [lvl_s, lvl_s, lvl_s, d1, uN_lo, Nat.pow_succ]
      exact rowStep (w1 := uN w % 4294967296) (w2 := uN w / 4294967296) (l2 := uN lo / 4294967296) (by omega) (by omega) e4
theorem m_57 : ∀ (n i m : Nat) (aj : Nat → Nat → Int64), i + n = 24 → n < m → b24 (aj 35) → b24 (aj 36) → b24 (aj 37) → ∃ M', L_X11_multiply_57 m (hp x iv ai aj ar pp f0) (x + 19) (nI i) = L_X11_multiply_157 xfuel (hp x iv ai (va_up aj 37 M') ar pp f0) (x + 19) 0 ∧ (∀ k, k < i → M' k = aj 37 k) ∧ b24 M' ∧ ∃ C : Int, (lvl M' n i : Int) = (lvl (aj 37) n i : Int) + (lvl (aj 35) n i : Int) * (lvl (aj 36) n 0 : Int) + C * ((4294967296 ^ n : Nat) : Int) := by
  intro n
  induction n with
  | zero =>
    intro i m aj hi hm h5 h6 h7
    obtain ⟨m, rfl⟩ : ∃ y, m = y + 1 := ⟨m - 1, by omega⟩
    refine ⟨aj 37, ?_, fun _ _ => rfl, h7, 0, ?_⟩
    · show F_X11_multiply_57 _ _ _ _ = _
      unfold F_X11_multiply_57
      rw [if_pos (by rw [cle_24 (by omega)]; omega), up_self]
    · show ((0 : Nat) : Int) = ((0 : Nat) : Int) + ((0 : Nat) : Int) * ((0 : Nat) : Int) + 0 * _
      omega
  | succ n ih =>
    intro i m aj hi hm h5 h6 h7
    obtain ⟨m, rfl⟩ : ∃ y, m = y + 1 := ⟨m - 1, by omega⟩
    obtain ⟨M1, C1, e1, e2, e3, e4⟩ := m_69 (x := x) (iv := iv) (ai := ai) (ar := ar) (pp := pp) (f0 := f0) (i := i) (by omega) (L_X11_multiply_57 m) (n + 1) 0 xfuel aj 0 (by omega) (Nat.lt_of_le_of_lt (show n + 1 ≤ 24 by omega) (by decide)) (by decide) h5 h6 h7
    obtain ⟨M2, g1, g2, g3, C2, g4⟩ := ih (i + 1) m (va_up aj 37 M1) (by omega) (by omega) (by rw [up_ne _ _ (by decide)]; exact h5) (by rw [up_ne _ _ (by decide)]; exact h6) (by rw [up_at]; exact e3)
    rw [up_at, up_ne _ _ (show 35 ≠ 37 by decide), up_ne _ _ (show 36 ≠ 37 by decide)] at g4
    rw [up_at] at g2
    refine ⟨M2, ?_, fun k hk => ?_, g3, C2 - C1 - (lvl (aj 35) n (i + 1) : Int) * (uN (aj 36 n) : Int), ?_⟩
    · show F_X11_multiply_57 _ _ _ _ = _
      unfold F_X11_multiply_57
      rw [if_neg (by rw [cle_24 (by omega)]; omega)]
      refine e1.trans ?_
      rw [g1, up_up]
    · rw [g2 k (by omega), e2 k (by omega)]
    · have u0 : uN 0 = 0 := rfl
      rw [u0, Nat.add_zero, Nat.add_zero, Nat.pow_succ] at e4
      have f1 : (lvl M1 (n + 1) i : Int) + (C1 : Int) * ((4294967296 ^ n : Nat) * 4294967296 : Int) = (lvl (aj 37) (n + 1) i : Int) + (uN (aj 35 i) : Int) * (lvl (aj 36) (n + 1) 0 : Int) := by
        have := congrArg (Nat.cast (R := Int)) e4
        simp only [Int.natCast_add, Int.natCast_mul] at this
        exact this
      have f2 : (lvl M2 (n + 1) i : Int) = (lvl M1 (n + 1) i : Int) + 4294967296 * ((lvl (aj 35) n (i + 1) : Int) * (lvl (aj 36) n 0 : Int)) + C2 * (((4294967296 ^ n : Nat) : Int) * 4294967296) := by
        rw [lvl_s M2, lvl_s M1, g2 i (by omega), Int.natCast_add, Int.natCast_add, Int.natCast_mul, Int.natCast_mul, g4]
        generalize ((4294967296 ^ n : Nat) : Int) = Q
        generalize (lvl (aj 35) n (i + 1) : Int) = a
        generalize (lvl (aj 36) n 0 : Int) = b
        generalize (lvl M1 n (i + 1) : Int) = c
        generalize (uN (M1 i) : Int) = d
        clear e1 e2 e3 e4 g1 g2 g3 g4 ih f1
        show d + 4294967296 * (c + a * b + C2 * Q) = d + 4294967296 * c + 4294967296 * (a * b) + C2 * (Q * 4294967296)
        grind
      have f3 : (lvl (aj 36) (n + 1) 0 : Int) = (lvl (aj 36) n 0 : Int) + (uN (aj 36 n) : Int) * ((4294967296 ^ n : Nat) : Int) := by
        rw [lvl_last, Nat.zero_add, Int.natCast_add, Int.natCast_mul]
      rw [lvl_s (aj 35), Int.natCast_add, Int.natCast_mul, Nat.pow_succ, Int.natCast_mul]
      exact outR f1 f2 f3
def cq (A M : Nat → Int64) (i : Nat) : Nat → Int64 := fun k => if i ≤ k ∧ k < 24 then M k else A k
theorem m_157 : ∀ (n i m : Nat) (aj : Nat → Nat → Int64), i + n = 24 → n < m → L_X11_multiply_157 m (hp x iv ai aj ar pp f0) (x + 19) (nI i) = some (hp x iv ai (va_up aj 35 (cq (aj 35) (aj 37) i)) ar pp f0) := by
  intro n
  induction n with
  | zero =>
    intro i m aj hi hm
    obtain ⟨m, rfl⟩ : ∃ y, m = y + 1 := ⟨m - 1, by omega⟩
    have : i = 24 := by omega
    subst this
    have e : cq (aj 35) (aj 37) 24 = aj 35 := by
      funext k
      unfold cq
      rw [if_neg (by omega)]
    show F_X11_multiply_157 _ _ _ _ = _
    unfold F_X11_multiply_157
    rw [if_pos (by decide), e, up_self]
  | succ n ih =>
    intro i m aj hi hm
    obtain ⟨m, rfl⟩ : ∃ y, m = y + 1 := ⟨m - 1, by omega⟩
    show F_X11_multiply_157 _ _ _ _ = _
    unfold F_X11_multiply_157
    rw [if_neg (by rw [cle_24 (by omega)]; omega), rn_19_26, Option.bind_some, rn_19_28, Option.bind_some, r37 (by omega), Option.bind_some, w35 (by omega), Option.bind_some, add_1, ih (i + 1) m _ (by omega) (by omega), u2_cc, up_u2, u2_ne _ _ _ (show 37 ≠ 35 by decide)]
    have e : cq (va_up (aj 35) i (aj 37 i)) (aj 37) (i + 1) = cq (aj 35) (aj 37) i := by
      funext k
      unfold cq
      by_cases h1 : i + 1 ≤ k ∧ k < 24
      · rw [if_pos h1, if_pos (by omega)]
      · rw [if_neg h1]
        by_cases h2 : k = i
        · rw [h2, up_at, if_pos (by omega)]
        · rw [up_ne _ _ h2, if_neg (by omega)]
    rw [e]
/-- what the reference's sums may change -/
def Kl (aj aj' : Nat → Nat → Int64) : Prop := ∀ k, k < 35 ∨ 39 ≤ k → aj' k = aj k
theorem m_mul (v : Int64) (h5 : b24 (aj 35)) : ∃ aj', F_X11_multiply (hp x iv ai aj ar pp f0) (x + 19) v = some (hp x iv ai aj' ar pp f0) ∧ Kl aj aj' ∧ aj' 38 = aj 38 ∧ b24 (aj' 35) ∧ ∀ w, mR (aj 35) w → mR (aj' 35) (w * v.toInt) := by
  have e0 := m_ml2 (x := x) (iv := iv) (ai := ai) (ar := ar) (pp := pp) (f0 := f0) v 24 0 xfuel aj (by omega) (by decide)
  obtain ⟨aj1, haj⟩ : ∃ aj1, aj1 = va_up (va_up aj 36 (fb (aj 36) v 0)) 37 (zb (aj 37) 0) := ⟨_, rfl⟩
  rw [← haj] at e0
  have j35 : aj1 35 = aj 35 := by rw [haj, up_ne _ _ (by decide), up_ne _ _ (by decide)]
  have j36 : aj1 36 = fb (aj 36) v 0 := by rw [haj, up_ne _ _ (by decide), up_at]
  have j37 : aj1 37 = zb (aj 37) 0 := by rw [haj, up_at]
  obtain ⟨M', g1, _, g3, C, g4⟩ := m_57 (x := x) (iv := iv) (ai := ai) (ar := ar) (pp := pp) (f0 := f0) 24 0 xfuel aj1 (by omega) (by decide) (by rw [j35]; exact h5) (by rw [j36]; exact (fb_R _ _).1) (by rw [j37]; exact zb_b _)
  have e1 := m_157 (x := x) (iv := iv) (ai := ai) (ar := ar) (pp := pp) (f0 := f0) 24 0 xfuel (va_up aj1 37 M') (by omega) (by decide)
  refine ⟨_, e0.trans (g1.trans e1), fun k hk => ?_, ?_, ?_, fun w hw => ?_⟩
  · rw [up_ne _ _ (by omega), up_ne _ _ (by omega), haj, up_ne _ _ (by omega), up_ne _ _ (by omega)]
  · rw [up_ne _ _ (by decide), up_ne _ _ (by decide), haj, up_ne _ _ (by decide), up_ne _ _ (by decide)]
  · rw [up_at]
    intro k hk
    unfold cq
    rw [if_pos ⟨Nat.zero_le _, hk⟩, up_at]
    exact g3 k hk
  · obtain ⟨_, k1, hk1⟩ := hw
    obtain ⟨_, l1, hl1⟩ := fb_R (aj 36) v
    refine ⟨?_, w * l1 + k1 * v.toInt + k1 * l1 * (W24 : Int) + C, ?_⟩
    · rw [up_at]
      intro k hk
      unfold cq
      rw [if_pos ⟨Nat.zero_le _, hk⟩, up_at]
      exact g3 k hk
    · rw [up_at, lvl_eq (E := M') 24 0 (fun k a b => by unfold cq; rw [if_pos ⟨a, by omega⟩, up_at])]
      rw [j35, j36, j37, zb_0, W24_eq] at g4
      exact prodR hk1 hl1 g4
theorem addS {V t p ca T' C Q TV PV : Int} (h : V = ca + (t + p)) (ih : T' + C * Q = TV + PV + V / 4294967296) : V % 4294967296 + 4294967296 * T' + C * (Q * 4294967296) = t + 4294967296 * TV + (p + 4294967296 * PV) + ca := by
  have a1 : C * (Q * 4294967296) = 4294967296 * (C * Q) := by grind
  rw [a1]
  omega
theorem subS {V t p ca T' C Q TV PV : Int} (h : V = ca + (t - p)) (ih : T' + C * Q = TV - PV + V / 4294967296) : V % 4294967296 + 4294967296 * T' + C * (Q * 4294967296) = t + 4294967296 * TV - (p + 4294967296 * PV) + ca := by
  have a1 : C * (Q * 4294967296) = 4294967296 * (C * Q) := by grind
  rw [a1]
  omega
theorem uN_I {x : Int64} (h : uN x < 4294967296) : x.toInt = (uN x : Int) := by
  have h1 := uN_int x
  split at h1 <;> omega
theorem m_ad_loop (s : Int32) (sg : Int) (hs : (s = 0 ∧ sg = 1) ∨ (s ≠ 0 ∧ sg = -1)) : ∀ (n i m : Nat) (aj : Nat → Nat → Int64) (ca : Int64), i + n = 24 → n < m → -1 ≤ ca.toInt → ca.toInt ≤ 1 → b24 (aj 35) → b24 (aj 38) → ∃ T', L_X11_addProduct_5 m (hp x iv ai aj ar pp f0) (x + 19) s ca (nI i) = some (hp x iv ai (va_up aj 38 T') ar pp f0) ∧ (∀ k, k < i → T' k = aj 38 k) ∧ b24 T' ∧ ∃ C : Int, (lvl T' n i : Int) + C * ((4294967296 ^ n : Nat) : Int) = (lvl (aj 38) n i : Int) + sg * (lvl (aj 35) n i : Int) + ca.toInt := by
  intro n
  induction n with
  | zero =>
    intro i m aj ca hi hm h1 h2 h5 h8
    obtain ⟨m, rfl⟩ : ∃ y, m = y + 1 := ⟨m - 1, by omega⟩
    refine ⟨aj 38, ?_, fun _ _ => rfl, h8, ca.toInt, ?_⟩
    · show F_X11_addProduct_5 _ _ _ _ _ _ = _
      unfold F_X11_addProduct_5
      rw [if_pos (by rw [cle_24 (by omega)]; omega), up_self]
    · show ((0 : Nat) : Int) + ca.toInt * ((1 : Nat) : Int) = ((0 : Nat) : Int) + sg * ((0 : Nat) : Int) + ca.toInt
      omega
  | succ n ih =>
    intro i m aj ca hi hm h1 h2 h5 h8
    obtain ⟨m, rfl⟩ : ∃ y, m = y + 1 := ⟨m - 1, by omega⟩
    have p5 := h5 i (by omega)
    have p8 := h8 i (by omega)
    have i5 := uN_I p5
    have i8 := uN_I p8
    have go : ∀ V : Int64, V.toInt = ca.toInt + ((uN (aj 38 i) : Int) + sg * (uN (aj 35 i) : Int)) → L_X11_addProduct_5 (m + 1) (hp x iv ai aj ar pp f0) (x + 19) s ca (nI i) = L_X11_addProduct_5 m (hp x iv ai (u2 aj 38 i (V &&& 4294967295)) ar pp f0) (x + 19) s (V >>> ((32 : Int32).toInt64 &&& 63)) (nI (i + 1)) → ∃ T', L_X11_addProduct_5 (m + 1) (hp x iv ai aj ar pp f0) (x + 19) s ca (nI i) = some (hp x iv ai (va_up aj 38 T') ar pp f0) ∧ (∀ k, k < i → T' k = aj 38 k) ∧ b24 T' ∧ ∃ C : Int, (lvl T' (n + 1) i : Int) + C * ((4294967296 ^ (n + 1) : Nat) : Int) = (lvl (aj 38) (n + 1) i : Int) + sg * (lvl (aj 35) (n + 1) i : Int) + ca.toInt := by
      intro V hV eL
      have hsg : sg = 1 ∨ sg = -1 := by rcases hs with h | h; exact Or.inl h.2; exact Or.inr h.2
      have a35 : u2 aj 38 i (V &&& 4294967295) 35 = aj 35 := u2_ne _ _ _ (by decide)
      have a38 : u2 aj 38 i (V &&& 4294967295) 38 = va_up (aj 38) i (V &&& 4294967295) := u2_cc _ _ _ _
      have uv : (uN (V &&& 4294967295) : Int) = V.toInt % 4294967296 := by
        rw [uN_lo]
        have := uN_emod V
        omega
      have vb : -4294967297 ≤ V.toInt ∧ V.toInt < 8589934592 := by
        rcases hsg with h | h <;> rw [h] at hV <;> omega
      obtain ⟨T', e1, e2, e3, C, e4⟩ := ih (i + 1) m (u2 aj 38 i (V &&& 4294967295)) (V >>> ((32 : Int32).toInt64 &&& 63)) (by omega) (by omega) (by rw [sar32]; rcases hsg with h | h <;> rw [h] at hV <;> omega) (by rw [sar32]; omega) (by rw [a35]; exact h5) (by
        rw [a38]
        intro k hk
        by_cases ek : k = i
        · rw [ek, up_at, uN_lo]; exact Nat.mod_lt _ (by decide)
        · rw [up_ne _ _ ek]; exact h8 k hk)
      refine ⟨T', by rw [eL, e1, up_u2], fun k hk => ?_, e3, C, ?_⟩
      · rw [e2 k (by omega), a38, up_ne _ _ (by omega)]
      · have d1 : T' i = V &&& 4294967295 := by rw [e2 i (by omega), a38, up_at]
        rw [a35, a38, sar32, lvl_eq (D := va_up (aj 38) i (V &&& 4294967295)) (E := aj 38) n (i + 1) (fun k a b => up_ne _ _ (by omega))] at e4
        rw [lvl_s, lvl_s, lvl_s, d1, Int.natCast_add, Int.natCast_add, Int.natCast_add, Int.natCast_mul, Int.natCast_mul, Int.natCast_mul, uv, Nat.pow_succ, Int.natCast_mul]
        rcases hsg with h | h
        · rw [h, Int.one_mul] at hV e4 ⊢
          exact addS hV e4
        · rw [h] at hV e4 ⊢
          have hV' : V.toInt = ca.toInt + ((uN (aj 38 i) : Int) - (uN (aj 35 i) : Int)) := by omega
          have e4' : (lvl T' n (i + 1) : Int) + C * ((4294967296 ^ n : Nat) : Int) = (lvl (aj 38) n (i + 1) : Int) - (lvl (aj 35) n (i + 1) : Int) + V.toInt / 4294967296 := by
            rw [e4]; omega
          have := subS hV' e4'
          refine this.trans ?_
          show _ = _ + -1 * ((uN (aj 35 i) : Int) + 4294967296 * (lvl (aj 35) n (i + 1) : Int)) + ca.toInt
          omega
    rcases hs with ⟨hs0, hsg⟩ | ⟨hs0, hsg⟩
    · refine go (ca + (aj 38 i + aj 35 i)) ?_ ?_
      · rw [hsg, add64] <;> rw [add64] <;> omega
      · show F_X11_addProduct_5 _ _ _ _ _ _ = _
        unfold F_X11_addProduct_5 F_X11_addProduct_50
        rw [if_neg (by rw [cle_24 (by omega)]; omega), if_pos hs0, rn_19_29, Option.bind_some, r38 (by omega), Option.bind_some, rn_19_26, Option.bind_some, r35 (by omega), Option.bind_some, Option.bind_some, w38 (by omega), Option.bind_some, add_1]
    · refine go (ca + (aj 38 i - aj 35 i)) ?_ ?_
      · rw [hsg, add64] <;> rw [sub64] <;> omega
      · show F_X11_addProduct_5 _ _ _ _ _ _ = _
        unfold F_X11_addProduct_5 F_X11_addProduct_50
        rw [if_neg (by rw [cle_24 (by omega)]; omega), if_neg hs0, rn_19_29, Option.bind_some, r38 (by omega), Option.bind_some, rn_19_26, Option.bind_some, r35 (by omega), Option.bind_some, Option.bind_some, w38 (by omega), Option.bind_some, add_1]
theorem sumR {d t p k l C W v w sg : Int} (ht : t = v + k * W) (hp : p = w + l * W) (h : d + C * W = t + sg * p + 0) : d = v + sg * w + (k + sg * l - C) * W := by
  rw [ht, hp] at h
  grind
theorem m_add (s : Int32) (sg : Int) (hs : (s = 0 ∧ sg = 1) ∨ (s ≠ 0 ∧ sg = -1)) (h5 : b24 (aj 35)) (h8 : b24 (aj 38)) : ∃ T', F_X11_addProduct (hp x iv ai aj ar pp f0) (x + 19) s = some (hp x iv ai (va_up aj 38 T') ar pp f0) ∧ b24 T' ∧ ∀ v w, mR (aj 38) v → mR (aj 35) w → mR T' (v + sg * w) := by
  obtain ⟨T', e1, _, e3, C, e4⟩ := m_ad_loop (x := x) (iv := iv) (ai := ai) (ar := ar) (pp := pp) (f0 := f0) s sg hs 24 0 xfuel aj 0 (by omega) (by decide) (by decide) (by decide) h5 h8
  refine ⟨T', e1, e3, fun v w ⟨_, k, hk⟩ ⟨_, l, hl⟩ => ⟨e3, k + sg * l - C, ?_⟩⟩
  rw [W24_eq] at e4
  exact sumR hk hl e4
theorem m_nought : F_X11_isNought (hp x iv ai aj ar pp f0) (x + 19) = some (if lvl (aj 38) 24 0 = 0 then 1 else 0) := by
  have loop : ∀ (n i m : Nat) (b : Int32), i + n = 24 → n < m → (b = 0 ∨ b = 1) → L_X11_isNought_4 (hp x iv ai aj ar pp f0) m (x + 19) b (nI i) = some (if b = 1 ∧ lvl (aj 38) n i = 0 then 1 else 0) := by
    intro n
    induction n with
    | zero =>
      intro i m b hi hm hb
      obtain ⟨m, rfl⟩ : ∃ y, m = y + 1 := ⟨m - 1, by omega⟩
      show F_X11_isNought_4 _ _ _ _ _ = _
      unfold F_X11_isNought_4 hZ
      rw [if_pos (by rw [cle_24 (by omega)]; omega), if_pos hb, Option.bind_some]
      rcases hb with rfl | rfl
      · rw [if_neg (show ¬ ((0 : Int32) = 1 ∧ lvl (aj 38) 0 i = 0) from fun q => absurd q.1 (by decide))]
      · rw [if_pos (show (1 : Int32) = 1 ∧ lvl (aj 38) 0 i = 0 from ⟨rfl, rfl⟩)]
    | succ n ih =>
      intro i m b hi hm hb
      obtain ⟨m, rfl⟩ : ∃ y, m = y + 1 := ⟨m - 1, by omega⟩
      show F_X11_isNought_4 _ _ _ _ _ = _
      unfold F_X11_isNought_4 F_X11_isNought_27
      rw [if_neg (by rw [cle_24 (by omega)]; omega), rn_19_29, Option.bind_some, r38 (by omega), Option.bind_some, add_1]
      have b1 : b &&& 1 = b := by rcases hb with rfl | rfl <;> rfl
      have b0 : b &&& 0 = 0 := by rcases hb with rfl | rfl <;> rfl
      rw [b1, b0, ih (i + 1) m b (by omega) (by omega) hb, ih (i + 1) m 0 (by omega) (by omega) (Or.inl rfl), lvl_s]
      by_cases h0 : aj 38 i = 0
      · have hu := uN_0.mpr h0
        rw [if_pos h0, hu]
        by_cases h1 : b = 1 ∧ lvl (aj 38) n (i + 1) = 0
        · rw [if_pos h1, if_pos (show b = 1 ∧ 0 + 4294967296 * lvl (aj 38) n (i + 1) = 0 from ⟨h1.1, by omega⟩)]
        · rw [if_neg h1, if_neg (show ¬ (b = 1 ∧ 0 + 4294967296 * lvl (aj 38) n (i + 1) = 0) from fun q => h1 ⟨q.1, by omega⟩)]
      · have hu : uN (aj 38 i) ≠ 0 := fun e => h0 (uN_0.mp e)
        rw [if_neg h0, if_neg (show ¬ ((0 : Int32) = 1 ∧ lvl (aj 38) n (i + 1) = 0) from fun q => absurd q.1 (by decide)), if_neg (show ¬ (b = 1 ∧ uN (aj 38 i) + 4294967296 * lvl (aj 38) n (i + 1) = 0) from fun q => hu (by omega))]
  have e := loop 24 0 xfuel 1 (by omega) (by decide) (Or.inr rfl)
  refine e.trans ?_
  by_cases h : lvl (aj 38) 24 0 = 0
  · rw [if_pos h, if_pos ⟨rfl, h⟩]
  · rw [if_neg h, if_neg (fun q => h q.2)]
end LIMBS

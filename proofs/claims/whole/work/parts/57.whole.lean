/-! the class's whole numbers of 384 bits -/
def WC (x c : Nat) : Prop := ∀ (iv ai : Nat → Nat → Int32) (aj : Nat → Nat → Int64) (ar : Nat → Nat → Option Nat) (pp : Nat → Option Nat) (f0 : xHp), hKd (hp x iv ai aj ar pp f0) (x + c) = some 8 ∧ hN (hp x iv ai aj ar pp f0) (x + c) [(8, 0)] = some (x + (c + 1)) ∧ (∀ i, i < 12 → hIld (hp x iv ai aj ar pp f0) (x + (c + 1)) (nI i) = some (ai (c + 1) i)) ∧ (∀ i v, i < 12 → hIst (hp x iv ai aj ar pp f0) (x + (c + 1)) (nI i) v = some (hp x iv (u2 ai (c + 1) i v) aj ar pp f0)) ∧ hLen (hp x iv ai aj ar pp f0) (x + (c + 1)) = some (nI 12)
theorem wc_11 (x : Nat) : WC x 11 := fun iv ai aj ar pp f0 => ⟨rk_11, rn_11_0, fun i hi => by show hIld _ (x + 12) _ = some (ai 12 i); rw [ra_12]; simp (disch := omega) only [mul_3, mul_4, mul_5, mul_9, mul_30, mul_160, add_1, add_2, add_3, add_4, add_5, add_6, addl_1, addl_2, addl_3, addl_4, cle_0, cel_0, clt_0, ctl_0, ceq_0, cle_1, cel_1, clt_1, ctl_1, ceq_1, cle_2, cel_2, clt_2, ctl_2, ceq_2, cle_3, cel_3, clt_3, ctl_3, ceq_3, cle_4, cel_4, clt_4, ctl_4, ceq_4, cle_5, cel_5, clt_5, ctl_5, ceq_5, cle_6, cel_6, clt_6, ctl_6, ceq_6, cle_7, cel_7, clt_7, ctl_7, ceq_7, cle_8, cel_8, clt_8, ctl_8, ceq_8, cle_9, cel_9, clt_9, ctl_9, ceq_9, cle_12, cel_12, clt_12, ctl_12, ceq_12, cle_20, cel_20, clt_20, ctl_20, ceq_20, cle_24, cel_24, clt_24, ctl_24, ceq_24, cle_25, cel_25, clt_25, ctl_25, ceq_25, cle_30, cel_30, clt_30, ctl_30, ceq_30, cle_36, cel_36, clt_36, ctl_36, ceq_36, cle_40, cel_40, clt_40, ctl_40, ceq_40, cle_41, cel_41, clt_41, ctl_41, ceq_41, cle_120, cel_120, clt_120, ctl_120, ceq_120, cle_160, cel_160, clt_160, ctl_160, ceq_160, cle_164, cel_164, clt_164, ctl_164, ceq_164, cle_500, cel_500, clt_500, ctl_500, ceq_500, cle_1000, cel_1000, clt_1000, ctl_1000, ceq_1000, ixr, ixq, ixf, neg_nI, leq_nI, lt_nI, eq_nI, cl_nI, nI_add, pk_mul], fun i v hi => by show hIst _ (x + 12) _ _ = some (hp x iv (u2 ai 12 i v) aj ar pp f0); rw [wa_12]; simp (disch := omega) only [mul_3, mul_4, mul_5, mul_9, mul_30, mul_160, add_1, add_2, add_3, add_4, add_5, add_6, addl_1, addl_2, addl_3, addl_4, cle_0, cel_0, clt_0, ctl_0, ceq_0, cle_1, cel_1, clt_1, ctl_1, ceq_1, cle_2, cel_2, clt_2, ctl_2, ceq_2, cle_3, cel_3, clt_3, ctl_3, ceq_3, cle_4, cel_4, clt_4, ctl_4, ceq_4, cle_5, cel_5, clt_5, ctl_5, ceq_5, cle_6, cel_6, clt_6, ctl_6, ceq_6, cle_7, cel_7, clt_7, ctl_7, ceq_7, cle_8, cel_8, clt_8, ctl_8, ceq_8, cle_9, cel_9, clt_9, ctl_9, ceq_9, cle_12, cel_12, clt_12, ctl_12, ceq_12, cle_20, cel_20, clt_20, ctl_20, ceq_20, cle_24, cel_24, clt_24, ctl_24, ceq_24, cle_25, cel_25, clt_25, ctl_25, ceq_25, cle_30, cel_30, clt_30, ctl_30, ceq_30, cle_36, cel_36, clt_36, ctl_36, ceq_36, cle_40, cel_40, clt_40, ctl_40, ceq_40, cle_41, cel_41, clt_41, ctl_41, ceq_41, cle_120, cel_120, clt_120, ctl_120, ceq_120, cle_160, cel_160, clt_160, ctl_160, ceq_160, cle_164, cel_164, clt_164, ctl_164, ceq_164, cle_500, cel_500, clt_500, ctl_500, ceq_500, cle_1000, cel_1000, clt_1000, ctl_1000, ceq_1000, ixr, ixq, ixf, neg_nI, leq_nI, lt_nI, eq_nI, cl_nI, nI_add, pk_mul], rl_12⟩
theorem wc_13 (x : Nat) : WC x 13 := fun iv ai aj ar pp f0 => ⟨rk_13, rn_13_0, fun i hi => by show hIld _ (x + 14) _ = some (ai 14 i); rw [ra_14]; simp (disch := omega) only [mul_3, mul_4, mul_5, mul_9, mul_30, mul_160, add_1, add_2, add_3, add_4, add_5, add_6, addl_1, addl_2, addl_3, addl_4, cle_0, cel_0, clt_0, ctl_0, ceq_0, cle_1, cel_1, clt_1, ctl_1, ceq_1, cle_2, cel_2, clt_2, ctl_2, ceq_2, cle_3, cel_3, clt_3, ctl_3, ceq_3, cle_4, cel_4, clt_4, ctl_4, ceq_4, cle_5, cel_5, clt_5, ctl_5, ceq_5, cle_6, cel_6, clt_6, ctl_6, ceq_6, cle_7, cel_7, clt_7, ctl_7, ceq_7, cle_8, cel_8, clt_8, ctl_8, ceq_8, cle_9, cel_9, clt_9, ctl_9, ceq_9, cle_12, cel_12, clt_12, ctl_12, ceq_12, cle_20, cel_20, clt_20, ctl_20, ceq_20, cle_24, cel_24, clt_24, ctl_24, ceq_24, cle_25, cel_25, clt_25, ctl_25, ceq_25, cle_30, cel_30, clt_30, ctl_30, ceq_30, cle_36, cel_36, clt_36, ctl_36, ceq_36, cle_40, cel_40, clt_40, ctl_40, ceq_40, cle_41, cel_41, clt_41, ctl_41, ceq_41, cle_120, cel_120, clt_120, ctl_120, ceq_120, cle_160, cel_160, clt_160, ctl_160, ceq_160, cle_164, cel_164, clt_164, ctl_164, ceq_164, cle_500, cel_500, clt_500, ctl_500, ceq_500, cle_1000, cel_1000, clt_1000, ctl_1000, ceq_1000, ixr, ixq, ixf, neg_nI, leq_nI, lt_nI, eq_nI, cl_nI, nI_add, pk_mul], fun i v hi => by show hIst _ (x + 14) _ _ = some (hp x iv (u2 ai 14 i v) aj ar pp f0); rw [wa_14]; simp (disch := omega) only [mul_3, mul_4, mul_5, mul_9, mul_30, mul_160, add_1, add_2, add_3, add_4, add_5, add_6, addl_1, addl_2, addl_3, addl_4, cle_0, cel_0, clt_0, ctl_0, ceq_0, cle_1, cel_1, clt_1, ctl_1, ceq_1, cle_2, cel_2, clt_2, ctl_2, ceq_2, cle_3, cel_3, clt_3, ctl_3, ceq_3, cle_4, cel_4, clt_4, ctl_4, ceq_4, cle_5, cel_5, clt_5, ctl_5, ceq_5, cle_6, cel_6, clt_6, ctl_6, ceq_6, cle_7, cel_7, clt_7, ctl_7, ceq_7, cle_8, cel_8, clt_8, ctl_8, ceq_8, cle_9, cel_9, clt_9, ctl_9, ceq_9, cle_12, cel_12, clt_12, ctl_12, ceq_12, cle_20, cel_20, clt_20, ctl_20, ceq_20, cle_24, cel_24, clt_24, ctl_24, ceq_24, cle_25, cel_25, clt_25, ctl_25, ceq_25, cle_30, cel_30, clt_30, ctl_30, ceq_30, cle_36, cel_36, clt_36, ctl_36, ceq_36, cle_40, cel_40, clt_40, ctl_40, ceq_40, cle_41, cel_41, clt_41, ctl_41, ceq_41, cle_120, cel_120, clt_120, ctl_120, ceq_120, cle_160, cel_160, clt_160, ctl_160, ceq_160, cle_164, cel_164, clt_164, ctl_164, ceq_164, cle_500, cel_500, clt_500, ctl_500, ceq_500, cle_1000, cel_1000, clt_1000, ctl_1000, ceq_1000, ixr, ixq, ixf, neg_nI, leq_nI, lt_nI, eq_nI, cl_nI, nI_add, pk_mul], rl_14⟩
def W12 : Nat := 4294967296 ^ 12
theorem W12_eq : 4294967296 ^ 12 = W12 := rfl
def cR (D : Nat → Int32) (v : Int) : Prop := ∃ k : Int, (dvl D 12 0 : Int) = v + k * (W12 : Int)
theorem pwr (C Q : Nat) : C * (Q * 4294967296) = 4294967296 * (C * Q) := by grind
theorem takeR {d v w k l C W : Int} (h : d + C * W = v + k * W + (w + l * W)) : d = v + w + (k + l - C) * W := by grind
theorem turnR {d v k C W : Int} (h : d + C * W + (v + k * W) + 1 = 1 + W) : d = -v + (1 - k - C) * W := by grind
theorem mulR {d v k C W q : Int} (h : d + C * W = q * (v + k * W)) : d = v * q + (k * q - C) * W := by grind
theorem negR (v p : Int) : -(v * -p) = v * p := by grind
theorem castT {a C W b c : Nat} (h : a + C * W = b + c + 0) : (a : Int) + (C : Int) * (W : Int) = (b : Int) + (c : Int) := by
  rw [← Int.natCast_mul]
  omega
theorem castS {a C W b : Nat} (h : a + C * W + b + 1 = 1 + W) : (a : Int) + (C : Int) * (W : Int) + (b : Int) + 1 = 1 + (W : Int) := by
  rw [← Int.natCast_mul]
  omega
theorem castM {a C W q b : Nat} (h : a + C * W = q * b) : (a : Int) + (C : Int) * (W : Int) = (q : Int) * (b : Int) := by
  rw [← Int.natCast_mul, ← Int.natCast_mul]
  omega
theorem W12_split : W12 = 18446744073709551616 * 4294967296 ^ 10 := by
  have h : (4294967296 : Nat) ^ (2 + 10) = 4294967296 ^ 2 * 4294967296 ^ 10 := Nat.pow_add ..
  have h2 : (4294967296 : Nat) ^ 2 = 18446744073709551616 := by decide
  rw [h2] at h
  exact h
section WHOLE
variable {x c e : Nat} {iv ai : Nat → Nat → Int32} {aj : Nat → Nat → Int64} {ar : Nat → Nat → Option Nat} {pp : Nat → Option Nat} {f0 : xHp}
theorem WC.kd (h : WC x c) : hKd (hp x iv ai aj ar pp f0) (x + c) = some 8 := (h iv ai aj ar pp f0).1
theorem WC.n (h : WC x c) : hN (hp x iv ai aj ar pp f0) (x + c) [(8, 0)] = some (x + (c + 1)) := (h iv ai aj ar pp f0).2.1
theorem WC.ld (h : WC x c) {i : Nat} (hi : i < 12) : hIld (hp x iv ai aj ar pp f0) (x + (c + 1)) (nI i) = some (ai (c + 1) i) := (h iv ai aj ar pp f0).2.2.1 i hi
theorem WC.st (h : WC x c) {i : Nat} (hi : i < 12) (v : Int32) : hIst (hp x iv ai aj ar pp f0) (x + (c + 1)) (nI i) v = some (hp x iv (u2 ai (c + 1) i v) aj ar pp f0) := (h iv ai aj ar pp f0).2.2.2.1 i v hi
theorem WC.ln (h : WC x c) : hLen (hp x iv ai aj ar pp f0) (x + (c + 1)) = some (nI 12) := (h iv ai aj ar pp f0).2.2.2.2
theorem add64_u {a b : Int64} (h : uN a + uN b < 18446744073709551616) : uN (a + b) = uN a + uN b := by rw [uN_add, Nat.mod_eq_of_lt h]
theorem mul64_u {a b : Int64} (h : uN a * uN b < 18446744073709551616) : uN (a * b) = uN a * uN b := by rw [uN_mul, Nat.mod_eq_of_lt h]
theorem s_tk_loop (hc : WC x c) (he : WC x e) (hce : e + 1 ≠ c + 1) : ∀ (n i m : Nat) (ai : Nat → Nat → Int32) (ca : Int64), i + n = 12 → n < m → uN ca ≤ 1 → ∃ D' C, L_X9_take_5 m (hp x iv ai aj ar pp f0) (x + c) (x + e) ca (nI i) = some (hp x iv (va_up ai (c + 1) D') aj ar pp f0) ∧ (∀ k, k < i → D' k = ai (c + 1) k) ∧ dvl D' n i + C * 4294967296 ^ n = dvl (ai (c + 1)) n i + dvl (ai (e + 1)) n i + uN ca := by
  intro n
  induction n with
  | zero =>
    intro i m ai ca hi hm hca
    obtain ⟨m, rfl⟩ : ∃ y, m = y + 1 := ⟨m - 1, by omega⟩
    refine ⟨ai (c + 1), uN ca, ?_, fun _ _ => rfl, by show 0 + uN ca * 1 = 0 + 0 + uN ca; omega⟩
    show F_X9_take_5 _ _ _ _ _ _ = _
    unfold F_X9_take_5
    rw [hc.n, Option.bind_some, hc.ln, Option.bind_some, if_pos (by rw [leq_nI (by omega) (by omega)]; omega), up_self]
  | succ n ih =>
    intro i m ai ca hi hm hca
    obtain ⟨m, rfl⟩ : ∃ y, m = y + 1 := ⟨m - 1, by omega⟩
    obtain ⟨T, hT⟩ : ∃ T : Int64, T = ca + (((ai (c + 1) i).toInt64 &&& 4294967295) + ((ai (e + 1) i).toInt64 &&& 4294967295)) := ⟨_, rfl⟩
    have hd := d32_lt (ai (c + 1) i)
    have he2 := d32_lt (ai (e + 1) i)
    have uT : uN T = uN ca + (d32 (ai (c + 1) i) + d32 (ai (e + 1) i)) := by
      rw [hT, add64_u, add64_u, uN_low, uN_low]
      · rw [uN_low, uN_low]; omega
      · rw [add64_u, uN_low, uN_low]
        · omega
        · rw [uN_low, uN_low]; omega
    obtain ⟨D', C, e1, e2, e3⟩ := ih (i + 1) m (u2 ai (c + 1) i T.toInt32) (T.toUInt64 >>> ((32 : Int32).toInt64.toUInt64 &&& Int64.toUInt64 63)).toInt64 (by omega) (by omega) (by rw [uN_s32]; omega)
    refine ⟨D', C, ?_, fun k hk => ?_, ?_⟩
    · show F_X9_take_5 _ _ _ _ _ _ = _
      unfold F_X9_take_5
      rw [hc.n, Option.bind_some, hc.ln, Option.bind_some, if_neg (by rw [leq_nI (by omega) (by omega)]; omega), Option.bind_some, hc.ld (by omega), Option.bind_some, he.n, Option.bind_some, he.ld (by omega), Option.bind_some, Option.bind_some, ← hT, hc.st (by omega), Option.bind_some, add_1, e1, up_u2]
    · rw [e2 k (by omega), u2_cc, up_ne _ _ (by omega)]
    · have d1 : D' i = T.toInt32 := by rw [e2 i (by omega), u2_cc, up_at]
      rw [u2_cc, u2_ne _ _ _ hce, uN_s32, dvl_eq (D := va_up (ai (c + 1)) i T.toInt32) (E := ai (c + 1)) n (i + 1) (fun k a b => up_ne _ _ (by omega))] at e3
      have a1 := pwr C (4294967296 ^ n)
      rw [dvl_s, dvl_s, dvl_s, d1, d32_cut, Nat.pow_succ, a1]
      omega
theorem s_take (hc : WC x c) (he : WC x e) (hce : e + 1 ≠ c + 1) : ∃ D', F_X9_take (hp x iv ai aj ar pp f0) (x + c) (x + e) = some (hp x iv (va_up ai (c + 1) D') aj ar pp f0) ∧ ∀ v w, cR (ai (c + 1)) v → cR (ai (e + 1)) w → cR D' (v + w) := by
  obtain ⟨D', C, e1, _, e3⟩ := s_tk_loop (iv := iv) (aj := aj) (ar := ar) (pp := pp) (f0 := f0) hc he hce 12 0 xfuel ai 0 (by omega) (by decide) (by decide)
  refine ⟨D', e1, fun v w ⟨k, hk⟩ ⟨l, hl⟩ => ⟨k + l - C, ?_⟩⟩
  have u0 : uN 0 = 0 := rfl
  rw [u0, W12_eq] at e3
  have e4 := castT e3
  rw [hk, hl] at e4
  exact takeR e4
theorem s_ts_loop (hc : WC x c) : ∀ (n i m : Nat) (ai : Nat → Nat → Int32) (ca : Int64), i + n = 12 → n < m → uN ca ≤ 1 → ∃ D' C, L_X9_turnSign_4 m (hp x iv ai aj ar pp f0) (x + c) ca (nI i) = some (hp x iv (va_up ai (c + 1) D') aj ar pp f0) ∧ (∀ k, k < i → D' k = ai (c + 1) k) ∧ dvl D' n i + C * 4294967296 ^ n + dvl (ai (c + 1)) n i + 1 = uN ca + 4294967296 ^ n := by
  intro n
  induction n with
  | zero =>
    intro i m ai ca hi hm hca
    obtain ⟨m, rfl⟩ : ∃ y, m = y + 1 := ⟨m - 1, by omega⟩
    refine ⟨ai (c + 1), uN ca, ?_, fun _ _ => rfl, by show 0 + uN ca * 1 + 0 + 1 = uN ca + 1; omega⟩
    show F_X9_turnSign_4 _ _ _ _ _ = _
    unfold F_X9_turnSign_4
    rw [hc.n, Option.bind_some, hc.ln, Option.bind_some, if_pos (by rw [leq_nI (by omega) (by omega)]; omega), up_self]
  | succ n ih =>
    intro i m ai ca hi hm hca
    obtain ⟨m, rfl⟩ : ∃ y, m = y + 1 := ⟨m - 1, by omega⟩
    obtain ⟨T, hT⟩ : ∃ T : Int64, T = ca + ((ai (c + 1) i ^^^ (-1)).toInt64 &&& 4294967295) := ⟨_, rfl⟩
    have hd := d32_lt (ai (c + 1) i)
    have uT : uN T = uN ca + (4294967295 - d32 (ai (c + 1) i)) := by
      rw [hT, add64_u, uN_low, d32_not]
      rw [uN_low, d32_not]; omega
    obtain ⟨D', C, e1, e2, e3⟩ := ih (i + 1) m (u2 ai (c + 1) i T.toInt32) (T.toUInt64 >>> ((32 : Int32).toInt64.toUInt64 &&& Int64.toUInt64 63)).toInt64 (by omega) (by omega) (by rw [uN_s32]; omega)
    refine ⟨D', C, ?_, fun k hk => ?_, ?_⟩
    · show F_X9_turnSign_4 _ _ _ _ _ = _
      unfold F_X9_turnSign_4
      rw [hc.n, Option.bind_some, hc.ln, Option.bind_some, if_neg (by rw [leq_nI (by omega) (by omega)]; omega), Option.bind_some, hc.ld (by omega), Option.bind_some, Option.bind_some, ← hT, hc.st (by omega), Option.bind_some, add_1, e1, up_u2]
    · rw [e2 k (by omega), u2_cc, up_ne _ _ (by omega)]
    · have d1 : D' i = T.toInt32 := by rw [e2 i (by omega), u2_cc, up_at]
      rw [u2_cc, uN_s32, dvl_eq (D := va_up (ai (c + 1)) i T.toInt32) (E := ai (c + 1)) n (i + 1) (fun k a b => up_ne _ _ (by omega))] at e3
      have a1 := pwr C (4294967296 ^ n)
      rw [dvl_s, dvl_s, d1, d32_cut, Nat.pow_succ, a1]
      omega
theorem s_turn (hc : WC x c) : ∃ D', F_X9_turnSign (hp x iv ai aj ar pp f0) (x + c) = some (hp x iv (va_up ai (c + 1) D') aj ar pp f0) ∧ ∀ v, cR (ai (c + 1)) v → cR D' (-v) := by
  obtain ⟨D', C, e1, _, e3⟩ := s_ts_loop (iv := iv) (aj := aj) (ar := ar) (pp := pp) (f0 := f0) hc 12 0 xfuel ai 1 (by omega) (by decide) (by decide)
  refine ⟨D', e1, fun v ⟨k, hk⟩ => ⟨1 - k - C, ?_⟩⟩
  have u0 : uN 1 = 1 := rfl
  rw [u0, W12_eq] at e3
  have e4 := castS e3
  rw [hk] at e4
  exact turnR e4
theorem s_mb_loop (hc : WC x c) {p lo hi2 : Int64} (hlo : uN lo < 4294967296) (hhi : uN hi2 < 2147483648) : ∀ (n i m : Nat) (ai : Nat → Nat → Int32) (cl ch bf : Int64), i + n = 12 → n < m → uN cl < 4294967296 → uN ch < 4294967296 → uN bf < 4294967296 → ∃ D' C, L_X9_multiplyBy_30 m (hp x iv ai aj ar pp f0) (x + c) p lo hi2 cl ch bf (nI i) = (if 0 ≤ p then some (hp x iv (va_up ai (c + 1) D') aj ar pp f0) else F_X9_turnSign (hp x iv (va_up ai (c + 1) D') aj ar pp f0) (x + c)) ∧ (∀ k, k < i → D' k = ai (c + 1) k) ∧ dvl D' n i + C * 4294967296 ^ n = (uN lo + 4294967296 * uN hi2) * dvl (ai (c + 1)) n i + uN cl + uN ch + uN bf * uN hi2 := by
  intro n
  induction n with
  | zero =>
    intro i m ai cl ch bf hi hm h1 h2 h3
    obtain ⟨m, rfl⟩ : ∃ y, m = y + 1 := ⟨m - 1, by omega⟩
    refine ⟨ai (c + 1), uN cl + uN ch + uN bf * uN hi2, ?_, fun _ _ => rfl, ?_⟩
    · show F_X9_multiplyBy_30 _ _ _ _ _ _ _ _ _ _ = _
      unfold F_X9_multiplyBy_30
      rw [hc.n, Option.bind_some, hc.ln, Option.bind_some, if_pos (by rw [leq_nI (by omega) (by omega)]; omega), up_self, if_pos hc.kd, obs]
    · show 0 + (uN cl + uN ch + uN bf * uN hi2) * 1 = (uN lo + 4294967296 * uN hi2) * 0 + uN cl + uN ch + uN bf * uN hi2
      omega
  | succ n ih =>
    intro i m ai cl ch bf hi hm h1 h2 h3
    obtain ⟨m, rfl⟩ : ∃ y, m = y + 1 := ⟨m - 1, by omega⟩
    obtain ⟨H, hH⟩ : ∃ H : Int64, H = (ai (c + 1) i).toInt64 &&& 4294967295 := ⟨_, rfl⟩
    have uH : uN H = d32 (ai (c + 1) i) := by rw [hH, uN_low]
    have hd := d32_lt (ai (c + 1) i)
    obtain ⟨F, hF⟩ : ∃ F : Int64, F = H * lo + cl := ⟨_, rfl⟩
    have b1 : uN H * uN lo ≤ 4294967295 * 4294967295 := Nat.mul_le_mul (by omega) (by omega)
    have uF : uN F = d32 (ai (c + 1) i) * uN lo + uN cl := by
      rw [hF, add64_u, mul64_u, uH]
      · omega
      · rw [mul64_u] <;> omega
    have fF := uN_lt F
    obtain ⟨S, hS⟩ : ∃ S : Int64, S = bf * hi2 + (F &&& 4294967295) + ch := ⟨_, rfl⟩
    have b2 : uN bf * uN hi2 ≤ 4294967295 * 2147483647 := Nat.mul_le_mul (by omega) (by omega)
    have b3 : uN (F &&& 4294967295) < 4294967296 := by rw [uN_lo]; omega
    have uS0 : uN (bf * hi2 + (F &&& 4294967295)) = uN bf * uN hi2 + uN F % 4294967296 := by
      rw [add64_u, mul64_u, uN_lo]
      · omega
      · rw [mul64_u] <;> omega
    have uS : uN S = uN bf * uN hi2 + uN F % 4294967296 + uN ch := by
      rw [hS, add64_u, uS0]
      rw [uS0]; omega
    have fS := uN_lt S
    obtain ⟨D', C, e1, e2, e3⟩ := ih (i + 1) m (u2 ai (c + 1) i S.toInt32) (F.toUInt64 >>> ((32 : Int32).toInt64.toUInt64 &&& Int64.toUInt64 63)).toInt64 (S.toUInt64 >>> ((32 : Int32).toInt64.toUInt64 &&& Int64.toUInt64 63)).toInt64 H (by omega) (by omega) (by rw [uN_s32]; omega) (by rw [uN_s32]; omega) (by omega)
    refine ⟨D', C, ?_, fun k hk => ?_, ?_⟩
    · show F_X9_multiplyBy_30 _ _ _ _ _ _ _ _ _ _ = _
      unfold F_X9_multiplyBy_30
      rw [hc.n, Option.bind_some, hc.ln, Option.bind_some, if_neg (by rw [leq_nI (by omega) (by omega)]; omega), Option.bind_some, hc.ld (by omega), Option.bind_some, Option.bind_some, ← hH, ← hF, ← hS, hc.st (by omega), Option.bind_some, add_1, e1, up_u2]
    · rw [e2 k (by omega), u2_cc, up_ne _ _ (by omega)]
    · have d1 : D' i = S.toInt32 := by rw [e2 i (by omega), u2_cc, up_at]
      rw [u2_cc, uN_s32, uN_s32, dvl_eq (D := va_up (ai (c + 1)) i S.toInt32) (E := ai (c + 1)) n (i + 1) (fun k a b => up_ne _ _ (by omega)), uH] at e3
      rw [dvl_s, dvl_s, d1, d32_cut, Nat.pow_succ]
      exact mulStep rfl (t1 := uN F % 4294967296) (t2 := uN F / 4294967296) (by omega) (ch' := uN S / 4294967296) (by omega) e3
theorem s_mulBy (hc : WC x c) {p : Int64} (hmin : -9223372036854775808 < p.toInt) : ∃ D', F_X9_multiplyBy (hp x iv ai aj ar pp f0) (x + c) p = some (hp x iv (va_up ai (c + 1) D') aj ar pp f0) ∧ ∀ v, cR (ai (c + 1)) v → cR D' (v * p.toInt) := by
  have h63 := Int64.toInt_le p
  have m63 : Int64.maxValue.toInt = 9223372036854775807 := rfl
  have i0 : (0 : Int64).toInt = 0 := rfl
  have go : ∀ q : Int64, 0 ≤ q.toInt → F_J9_abs_067f4 (hp x iv ai aj ar pp f0) p = some q → ∃ D', F_X9_multiplyBy (hp x iv ai aj ar pp f0) (x + c) p = (if 0 ≤ p then some (hp x iv (va_up ai (c + 1) D') aj ar pp f0) else F_X9_turnSign (hp x iv (va_up ai (c + 1) D') aj ar pp f0) (x + c)) ∧ ∀ v, cR (ai (c + 1)) v → cR D' (v * q.toInt) := by
    intro q hq ha
    have uq := uN_pos hq
    have q63 := Int64.toInt_le q
    have lo : uN (q &&& 4294967295) = uN q % 4294967296 := uN_lo q
    have hi := uN_s32 q
    obtain ⟨D', C, e1, _, e3⟩ := s_mb_loop (iv := iv) (aj := aj) (ar := ar) (pp := pp) (f0 := f0) hc (p := p) (lo := q &&& 4294967295) (hi2 := (q.toUInt64 >>> ((32 : Int32).toInt64.toUInt64 &&& Int64.toUInt64 63)).toInt64) (by rw [lo]; omega) (by rw [hi]; omega) 12 0 xfuel ai 0 0 0 (by omega) (by decide) (by decide) (by decide) (by decide)
    refine ⟨D', ?_, fun v ⟨k, hk⟩ => ⟨k * q.toInt - C, ?_⟩⟩
    · unfold F_X9_multiplyBy
      rw [ha, Option.bind_some]
      exact e1
    · have u0 : uN 0 = 0 := rfl
      rw [u0, lo, hi, Nat.zero_mul, Nat.add_zero, Nat.add_zero, Nat.add_zero, show uN q % 4294967296 + 4294967296 * (uN q / 4294967296) = uN q by omega, W12_eq] at e3
      have e4 := castM e3
      rw [hk, uq] at e4
      exact mulR e4
  by_cases h0 : 0 ≤ p
  · have h0' := Int64.le_iff_toInt_le.mp h0
    obtain ⟨D', e1, e2⟩ := go p (by omega) (by unfold F_J9_abs_067f4; rw [if_pos h0])
    exact ⟨D', by rw [e1, if_pos h0], e2⟩
  · have h0' := Int64.lt_iff_toInt_lt.mp (Int64.not_le.mp h0)
    have hneg : (-p).toInt = -p.toInt := by rw [Int64.toInt_neg, bm64 (by omega) (by omega)]
    obtain ⟨D', e1, e2⟩ := go (-p) (by omega) (by unfold F_J9_abs_067f4; rw [if_neg h0])
    obtain ⟨D2, t1, t2⟩ := s_turn (x := x) (c := c) (iv := iv) (ai := va_up ai (c + 1) D') (aj := aj) (ar := ar) (pp := pp) (f0 := f0) hc
    refine ⟨D2, by rw [e1, if_neg h0, t1, up_up], fun v hv => ?_⟩
    have := t2 _ (by rw [up_at]; exact e2 v hv)
    rw [hneg] at this
    rw [negR] at this
    exact this
/-! become -/
def flr (D : Nat → Int32) (i : Nat) (v : Int32) : Nat → Int32 := fun k => if i ≤ k ∧ k < 12 then v else D k
theorem s_fill (hc : WC x c) (v : Int32) : ∀ (n i m : Nat) (ai : Nat → Nat → Int32), i + n = 12 → n < m → L_J7_fill_fda19_10 m (hp x iv ai aj ar pp f0) (x + (c + 1)) (nI 12) v (nI i) = some (hp x iv (va_up ai (c + 1) (flr (ai (c + 1)) i v)) aj ar pp f0) := by
  intro n
  induction n with
  | zero =>
    intro i m ai hi hm
    obtain ⟨m, rfl⟩ : ∃ y, m = y + 1 := ⟨m - 1, by omega⟩
    have e : flr (ai (c + 1)) i v = ai (c + 1) := by
      funext k
      unfold flr
      rw [if_neg (by omega)]
    show F_J7_fill_fda19_10 _ _ _ _ _ _ = _
    unfold F_J7_fill_fda19_10
    rw [if_pos (by rw [leq_nI (by omega) (by omega)]; omega), e, up_self]
  | succ n ih =>
    intro i m ai hi hm
    obtain ⟨m, rfl⟩ : ∃ y, m = y + 1 := ⟨m - 1, by omega⟩
    show F_J7_fill_fda19_10 _ _ _ _ _ _ = _
    unfold F_J7_fill_fda19_10
    rw [if_neg (by rw [leq_nI (by omega) (by omega)]; omega), hc.st (by omega), Option.bind_some, add_1, ih (i + 1) m _ (by omega) (by omega), u2_cc, up_u2]
    have e : flr (va_up (ai (c + 1)) i v) (i + 1) v = flr (ai (c + 1)) i v := by
      funext k
      unfold flr
      by_cases h1 : i + 1 ≤ k ∧ k < 12
      · rw [if_pos h1, if_pos (by omega)]
      · rw [if_neg h1]
        by_cases h2 : k = i
        · rw [h2, up_at, if_pos (by omega)]
        · rw [up_ne _ _ h2, if_neg (by omega)]
    rw [e]
theorem dvl_ones {D : Nat → Int32} : ∀ (n i : Nat), (∀ k, i ≤ k → k < i + n → D k = -1) → dvl D n i + 1 = 4294967296 ^ n := by
  intro n
  induction n with
  | zero => intro i _; rfl
  | succ n ih =>
    intro i h
    have h1 := ih (i + 1) (fun k a b => h k (by omega) (by omega))
    have h2 : d32 (D i) = 4294967295 := by rw [h i (Nat.le_refl _) (by omega)]; rfl
    rw [dvl_s, h2, Nat.pow_succ, ← h1]
    omega
theorem s_become (hc : WC x c) (p : Int64) : ∃ D', F_X9_become (hp x iv ai aj ar pp f0) (x + c) p = some (hp x iv (va_up ai (c + 1) D') aj ar pp f0) ∧ cR D' p.toInt := by
  have i0 : (0 : Int64).toInt = 0 := rfl
  have fl : ∀ (ai : Nat → Nat → Int32) (v : Int32), F_X9_become_40 (hp x iv ai aj ar pp f0) v (nI 12) 2 (x + (c + 1)) = some (hp x iv (va_up ai (c + 1) (flr (ai (c + 1)) 2 v)) aj ar pp f0) := by
    intro ai v
    unfold F_X9_become_40 F_J7_fill_fda19 F_J7_rangeCheck_23922
    rw [hc.ln, Option.bind_some, if_pos (show (2 : Int32) ≤ nI 12 by decide), if_pos (show (0 : Int32) ≤ 2 by decide), if_pos (show nI 12 ≤ nI 12 by decide), Option.bind_some, obs]
    exact s_fill hc v 10 2 xfuel ai (by omega) (by decide)
  have en : ∀ v : Int32, (0 ≤ p → v = 0) → (¬ 0 ≤ p → v = -1) → F_X9_become (hp x iv ai aj ar pp f0) (x + c) p = some (hp x iv (va_up ai (c + 1) (flr (va_up (va_up (ai (c + 1)) 0 p.toInt32) 1 (p >>> ((32 : Int32).toInt64 &&& 63)).toInt32) 2 v)) aj ar pp f0) := by
    intro v v1 v2
    unfold F_X9_become
    rw [hc.n, Option.bind_some, show (0 : Int32) = nI 0 from rfl, hc.st (by decide), Option.bind_some, hc.n, Option.bind_some, show (1 : Int32) = nI 1 from rfl, hc.st (by decide), Option.bind_some, hc.n, Option.bind_some, Option.bind_some, hc.ln, Option.bind_some, u2_u2]
    by_cases h0 : 0 ≤ p
    · rw [if_pos h0]
      refine (fl _ 0).trans ?_
      rw [up_at, up_up, v1 h0]
    · rw [if_neg h0]
      refine (fl _ (-1)).trans ?_
      rw [up_at, up_up, v2 h0]
  have val : ∀ v : Int32, dvl (flr (va_up (va_up (ai (c + 1)) 0 p.toInt32) 1 (p >>> ((32 : Int32).toInt64 &&& 63)).toInt32) 2 v) 12 0 = uN p + 18446744073709551616 * dvl (flr (va_up (va_up (ai (c + 1)) 0 p.toInt32) 1 (p >>> ((32 : Int32).toInt64 &&& 63)).toInt32) 2 v) 10 2 := by
    intro v
    rw [dvl_s _ 11 0, dvl_s _ 10 (0 + 1)]
    have a0 : flr (va_up (va_up (ai (c + 1)) 0 p.toInt32) 1 (p >>> ((32 : Int32).toInt64 &&& 63)).toInt32) 2 v 0 = p.toInt32 := rfl
    have a1 : flr (va_up (va_up (ai (c + 1)) 0 p.toInt32) 1 (p >>> ((32 : Int32).toInt64 &&& 63)).toInt32) 2 v (0 + 1) = (p >>> ((32 : Int32).toInt64 &&& 63)).toInt32 := rfl
    rw [a0, a1, d32_cut, d32_hi]
    show _ + 4294967296 * (_ + 4294967296 * dvl _ 10 2) = _
    omega
  by_cases h0 : 0 ≤ p
  · refine ⟨_, en 0 (fun _ => rfl) (fun h => absurd h0 h), 0, ?_⟩
    have h0' := Int64.le_iff_toInt_le.mp h0
    have z0 := (dvl_0 (D := flr (va_up (va_up (ai (c + 1)) 0 p.toInt32) 1 (p >>> ((32 : Int32).toInt64 &&& 63)).toInt32) 2 0) 10 2).mpr (fun k a b => if_pos ⟨a, b⟩)
    rw [val, z0, Nat.mul_zero, Nat.add_zero, uN_pos (by omega)]
    omega
  · refine ⟨_, en (-1) (fun h => absurd h h0) (fun _ => rfl), 1, ?_⟩
    have h0' := Int64.lt_iff_toInt_lt.mp (Int64.not_le.mp h0)
    have o1 := dvl_ones (D := flr (va_up (va_up (ai (c + 1)) 0 p.toInt32) 1 (p >>> ((32 : Int32).toInt64 &&& 63)).toInt32) 2 (-1)) 10 2 (fun k a b => if_pos ⟨a, b⟩)
    have h1 := uN_int p
    have h2 := uN_lt p
    have e12 : W12 = 18446744073709551616 * 4294967296 ^ 10 := W12_split
    rw [val, e12, ← o1]
    split at h1
    · omega
    · rw [h1]
      omega
theorem s_nought (hc : WC x c) : F_X9_isNought (hp x iv ai aj ar pp f0) (x + c) = some (if dvl (ai (c + 1)) 12 0 = 0 then 1 else 0) := by
  have loop : ∀ (n i m : Nat), i + n = 12 → n < m → L_X9_isNought_2 (hp x iv ai aj ar pp f0) m (x + c) (nI i) = some (if dvl (ai (c + 1)) n i = 0 then 1 else 0) := by
    intro n
    induction n with
    | zero =>
      intro i m hi hm
      obtain ⟨m, rfl⟩ : ∃ y, m = y + 1 := ⟨m - 1, by omega⟩
      show F_X9_isNought_2 _ _ _ _ = _
      unfold F_X9_isNought_2
      rw [hc.n, Option.bind_some, hc.ln, Option.bind_some, if_pos (by rw [leq_nI (by omega) (by omega)]; omega)]
      rfl
    | succ n ih =>
      intro i m hi hm
      obtain ⟨m, rfl⟩ : ∃ y, m = y + 1 := ⟨m - 1, by omega⟩
      show F_X9_isNought_2 _ _ _ _ = _
      unfold F_X9_isNought_2
      rw [hc.n, Option.bind_some, hc.ln, Option.bind_some, if_neg (by rw [leq_nI (by omega) (by omega)]; omega), Option.bind_some, hc.ld (by omega), Option.bind_some, add_1, ih (i + 1) m (by omega) (by omega), dvl_s]
      by_cases h0 : ai (c + 1) i = 0
      · have hd := d32_0.mpr h0
        rw [if_pos h0, hd]
        by_cases h1 : dvl (ai (c + 1)) n (i + 1) = 0
        · rw [if_pos h1, if_pos (by omega)]
        · rw [if_neg h1, if_neg (by omega)]
      · rw [if_neg h0, if_neg]
        intro q
        exact h0 (d32_0.mp (by omega))
  exact loop 12 0 xfuel (by omega) (by decide)
end WHOLE

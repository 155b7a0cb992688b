/-! words of 32 and 64 bits as natural numbers (uN and its rows: out of the kit's starting texts) -/
def uN (x : Int64) : Nat := x.toUInt64.toNat
theorem uN_lt (x : Int64) : uN x < 18446744073709551616 := x.toUInt64.toNat_lt
theorem uN_add (x y : Int64) : uN (x + y) = (uN x + uN y) % 18446744073709551616 := by
  show (x.toUInt64 + y.toUInt64).toNat = _
  exact UInt64.toNat_add _ _
theorem uN_mul (x y : Int64) : uN (x * y) = (uN x * uN y) % 18446744073709551616 := by
  show (x.toUInt64 * y.toUInt64).toNat = _
  exact UInt64.toNat_mul _ _
theorem uN_shr (x : Int64) (s : UInt64) : uN (x.toUInt64 >>> s).toInt64 = uN x / 2 ^ (s.toNat % 64) := by
  show (x.toUInt64 >>> s).toNat = _
  rw [UInt64.toNat_shiftRight, Nat.shiftRight_eq_div_pow]
  rfl
theorem uN_s32 (x : Int64) : uN (x.toUInt64 >>> ((32 : Int32).toInt64.toUInt64 &&& Int64.toUInt64 63)).toInt64 = uN x / 4294967296 := by
  have h : ((32 : Int32).toInt64.toUInt64 &&& Int64.toUInt64 63).toNat % 64 = 32 := by decide
  rw [uN_shr, h]
theorem uN_lo (x : Int64) : uN (x &&& 4294967295) = uN x % 4294967296 := by
  show (x.toUInt64 &&& Int64.toUInt64 4294967295).toNat = _
  rw [UInt64.toNat_and]
  exact Nat.and_two_pow_sub_one_eq_mod _ 32
theorem uN_int (x : Int64) : x.toInt = if 2 * uN x < 18446744073709551616 then (uN x : Int) else (uN x : Int) - 18446744073709551616 := BitVec.toInt_eq_toNat_cond _
theorem uN_pos {x : Int64} (h : 0 ≤ x.toInt) : (uN x : Int) = x.toInt := by
  have h1 := uN_int x
  have h2 := uN_lt x
  split at h1 <;> omega
theorem uN_emod (x : Int64) : (uN x : Int) = x.toInt % 18446744073709551616 := by
  have h1 := uN_int x
  have h2 := uN_lt x
  split at h1 <;> omega
def d32 (v : Int32) : Nat := v.toUInt32.toNat
theorem d32_lt (v : Int32) : d32 v < 4294967296 := v.toUInt32.toNat_lt
theorem d32_int (v : Int32) : v.toInt = if 2 * d32 v < 4294967296 then (d32 v : Int) else (d32 v : Int) - 4294967296 := BitVec.toInt_eq_toNat_cond _
theorem d32_emod (v : Int32) : (d32 v : Int) = v.toInt % 4294967296 := by
  have h1 := d32_int v
  have h2 := d32_lt v
  split at h1 <;> omega
theorem d32_0 {v : Int32} : d32 v = 0 ↔ v = 0 := by
  constructor
  · intro h
    have h1 := d32_int v
    rw [h] at h1
    apply Int32.toInt_inj.mp
    rw [h1]
    rfl
  · intro h
    rw [h]
    rfl
theorem uN_low (v : Int32) : uN (v.toInt64 &&& 4294967295) = d32 v := by
  rw [uN_lo]
  have h1 := uN_emod v.toInt64
  have h2 := d32_emod v
  rw [Int32.toInt_toInt64] at h1
  omega
theorem d32_cut (w : Int64) : d32 w.toInt32 = uN w % 4294967296 := by
  have h1 := uN_emod w
  have h2 := d32_emod w.toInt32
  rw [Int64.toInt_toInt32] at h2
  have h3 : w.toInt.bmod (2 ^ 32) % 4294967296 = w.toInt % 4294967296 := Int.bmod_emod
  omega
theorem d32_not (v : Int32) : d32 (v ^^^ (-1)) = 4294967295 - d32 v := by
  have e : (v ^^^ (-1)).toBitVec = ~~~ v.toBitVec := by
    show v.toBitVec ^^^ BitVec.allOnes 32 = _
    exact BitVec.xor_allOnes
  show (v ^^^ (-1)).toBitVec.toNat = 4294967295 - v.toBitVec.toNat
  rw [e, BitVec.toNat_not]
theorem sar32 (w : Int64) : (w >>> ((32 : Int32).toInt64 &&& 63)).toInt = w.toInt / 4294967296 := by
  have h : (((32 : Int32).toInt64 &&& 63).toBitVec.smod 64).toNat = 32 := by decide
  have e : (w >>> ((32 : Int32).toInt64 &&& 63)).toInt = w.toInt >>> 32 := by
    rw [← h]
    exact BitVec.toInt_sshiftRight ..
  rw [e, Int.shiftRight_eq_div_pow]
  rfl
theorem sar63 (w : Int64) : (w >>> ((63 : Int32).toInt64 &&& 63)).toInt = w.toInt / 9223372036854775808 := by
  have h : (((63 : Int32).toInt64 &&& 63).toBitVec.smod 64).toNat = 63 := by decide
  have e : (w >>> ((63 : Int32).toInt64 &&& 63)).toInt = w.toInt >>> 63 := by
    rw [← h]
    exact BitVec.toInt_sshiftRight ..
  rw [e, Int.shiftRight_eq_div_pow]
  rfl
theorem d32_hi (w : Int64) : d32 (w >>> ((32 : Int32).toInt64 &&& 63)).toInt32 = uN w / 4294967296 := by
  rw [d32_cut]
  have h1 := uN_emod (w >>> ((32 : Int32).toInt64 &&& 63))
  rw [sar32] at h1
  have h2 := uN_int w
  have h3 := uN_lt w
  split at h2 <;> omega
/-! numbers of digits -/
def dvl (D : Nat → Int32) : Nat → Nat → Nat
  | 0, _ => 0
  | n + 1, i => d32 (D i) + 4294967296 * dvl D n (i + 1)
def lvl (A : Nat → Int64) : Nat → Nat → Nat
  | 0, _ => 0
  | n + 1, i => uN (A i) + 4294967296 * lvl A n (i + 1)
theorem dvl_s (D : Nat → Int32) (n i : Nat) : dvl D (n + 1) i = d32 (D i) + 4294967296 * dvl D n (i + 1) := rfl
theorem lvl_s (A : Nat → Int64) (n i : Nat) : lvl A (n + 1) i = uN (A i) + 4294967296 * lvl A n (i + 1) := rfl
theorem dvl_eq {D E : Nat → Int32} : ∀ (n i : Nat), (∀ k, i ≤ k → k < i + n → D k = E k) → dvl D n i = dvl E n i := by
  intro n
  induction n with
  | zero => intro i _; rfl
  | succ n ih =>
    intro i h
    rw [dvl_s, dvl_s, h i (Nat.le_refl _) (by omega), ih (i + 1) (fun k a b => h k (by omega) (by omega))]
theorem lvl_eq {D E : Nat → Int64} : ∀ (n i : Nat), (∀ k, i ≤ k → k < i + n → D k = E k) → lvl D n i = lvl E n i := by
  intro n
  induction n with
  | zero => intro i _; rfl
  | succ n ih =>
    intro i h
    rw [lvl_s, lvl_s, h i (Nat.le_refl _) (by omega), ih (i + 1) (fun k a b => h k (by omega) (by omega))]
theorem dvl_lt (D : Nat → Int32) : ∀ (n i : Nat), dvl D n i < 4294967296 ^ n := by
  intro n
  induction n with
  | zero => intro i; exact Nat.one_pos
  | succ n ih =>
    intro i
    have h1 := ih (i + 1)
    have h2 := d32_lt (D i)
    rw [dvl_s, Nat.pow_succ]
    omega
theorem lvl_lt {A : Nat → Int64} (h : ∀ k, uN (A k) < 4294967296) : ∀ (n i : Nat), lvl A n i < 4294967296 ^ n := by
  intro n
  induction n with
  | zero => intro i; exact Nat.one_pos
  | succ n ih =>
    intro i
    have h1 := ih (i + 1)
    have h2 := h i
    rw [lvl_s, Nat.pow_succ]
    omega
theorem dvl_0 {D : Nat → Int32} : ∀ (n i : Nat), dvl D n i = 0 ↔ ∀ k, i ≤ k → k < i + n → D k = 0 := by
  intro n
  induction n with
  | zero => intro i; exact ⟨fun _ k a b => absurd b (by omega), fun _ => rfl⟩
  | succ n ih =>
    intro i
    rw [dvl_s]
    constructor
    · intro h k a b
      by_cases e : k = i
      · rw [e]; exact d32_0.mp (by omega)
      · exact (ih (i + 1)).mp (by omega) k (by omega) (by omega)
    · intro h
      have h1 := d32_0.mpr (h i (Nat.le_refl _) (by omega))
      have h2 := (ih (i + 1)).mpr (fun k a b => h k (by omega) (by omega))
      omega
theorem uN_0 {v : Int64} : uN v = 0 ↔ v = 0 := by
  constructor
  · intro h
    have h1 := uN_int v
    rw [h] at h1
    apply Int64.toInt_inj.mp
    rw [h1]
    rfl
  · intro h
    rw [h]
    rfl
theorem lvl_0 {D : Nat → Int64} : ∀ (n i : Nat), lvl D n i = 0 ↔ ∀ k, i ≤ k → k < i + n → D k = 0 := by
  intro n
  induction n with
  | zero => intro i; exact ⟨fun _ k a b => absurd b (by omega), fun _ => rfl⟩
  | succ n ih =>
    intro i
    rw [lvl_s]
    constructor
    · intro h k a b
      by_cases e : k = i
      · rw [e]; exact uN_0.mp (by omega)
      · exact (ih (i + 1)).mp (by omega) k (by omega) (by omega)
    · intro h
      have h1 := uN_0.mpr (h i (Nat.le_refl _) (by omega))
      have h2 := (ih (i + 1)).mpr (fun k a b => h k (by omega) (by omega))
      omega
theorem lvl_last (A : Nat → Int64) : ∀ (n i : Nat), lvl A (n + 1) i = lvl A n i + uN (A (i + n)) * 4294967296 ^ n := by
  intro n
  induction n with
  | zero => intro i; rw [lvl_s]; show uN (A i) + 4294967296 * 0 = 0 + uN (A i) * 1; omega
  | succ n ih =>
    intro i
    rw [lvl_s, ih (i + 1), lvl_s A n i, Nat.pow_succ, show i + 1 + n = i + (n + 1) by omega]
    grind
theorem mulStep {S V X C Q r t1 t2 ch' h low high cl ch bf : Nat} (hS : S = low + 4294967296 * high) (e1 : h * low + cl = t1 + 4294967296 * t2) (e2 : bf * high + t1 + ch = r + 4294967296 * ch') (ih : X + C * Q = S * V + t2 + ch' + h * high) : r + 4294967296 * X + C * (Q * 4294967296) = S * (h + 4294967296 * V) + cl + ch + bf * high := by
  have a1 : C * (Q * 4294967296) = 4294967296 * (C * Q) := by grind
  have a2 : S * (h + 4294967296 * V) = h * low + 4294967296 * (h * high) + 4294967296 * (S * V) := by
    rw [Nat.mul_add]
    have b1 : S * h = h * low + 4294967296 * (h * high) := by rw [hS]; grind
    have b2 : S * (4294967296 * V) = 4294967296 * (S * V) := by grind
    rw [b1, b2]
  rw [a1, a2]
  omega
theorem rowStep {X C Q r m w1 w2 l2 ca P f MV FV : Nat} (e1 : P * f = w1 + 4294967296 * w2) (e2 : m + w1 + ca = r + 4294967296 * l2) (ih : X + C * Q = MV + P * FV + (w2 + l2)) : r + 4294967296 * X + C * (Q * 4294967296) = m + 4294967296 * MV + P * (f + 4294967296 * FV) + ca := by
  have a1 : C * (Q * 4294967296) = 4294967296 * (C * Q) := by grind
  have a2 : P * (f + 4294967296 * FV) = P * f + 4294967296 * (P * FV) := by grind
  rw [a1, a2]
  omega

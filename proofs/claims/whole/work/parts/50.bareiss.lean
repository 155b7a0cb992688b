/-! squares of a form: rows cleared, pure -/
def cl1 (A : Nat → Int64) (k : Nat) (p d : Int64) (r c : Nat) : Nat → Int64 := fun i => if 3 * r + c ≤ i ∧ i < 3 * r + 3 then (A i * d - A (3 * r + k) * A (3 * k + (i - 3 * r))) / p else A i
def cl2 (A : Nat → Int64) (k : Nat) (p d : Int64) (r : Nat) : Nat → Int64 := fun i => if 3 * r ≤ i ∧ i < 9 ∧ k < i % 3 then (A i * d - A (3 * (i / 3) + k) * A (3 * k + i % 3)) / p else A i
theorem cl1_step {A : Nat → Int64} {k r c : Nat} {p d : Int64} (h1 : k < c) (h2 : k < r) (h3 : c < 3) : cl1 (va_up A (3 * r + c) ((A (3 * r + c) * d - A (3 * r + k) * A (3 * k + c)) / p)) k p d r (c + 1) = cl1 A k p d r c := by
  funext i
  unfold cl1
  by_cases e1 : 3 * r + (c + 1) ≤ i ∧ i < 3 * r + 3
  · rw [if_pos e1, if_pos (by omega), up_ne _ _ (by omega), up_ne _ _ (by omega), up_ne _ _ (by omega)]
  · rw [if_neg e1]
    by_cases e2 : i = 3 * r + c
    · rw [e2, up_at, if_pos (by omega), show 3 * r + c - 3 * r = c by omega]
    · rw [up_ne _ _ e2, if_neg (by omega)]
theorem cl1_end {A : Nat → Int64} {k r : Nat} {p d : Int64} : cl1 A k p d r 3 = A := by
  funext i
  unfold cl1
  rw [if_neg (by omega)]
theorem cl2_step {A : Nat → Int64} {k r : Nat} {p d : Int64} (h2 : k < r) (h3 : r < 3) : cl2 (cl1 A k p d r (k + 1)) k p d (r + 1) = cl2 A k p d r := by
  funext i
  unfold cl2
  by_cases e1 : 3 * (r + 1) ≤ i ∧ i < 9 ∧ k < i % 3
  · rw [if_pos e1, if_pos (by omega)]
    have a1 : cl1 A k p d r (k + 1) i = A i := if_neg (by omega)
    have a2 : cl1 A k p d r (k + 1) (3 * (i / 3) + k) = A (3 * (i / 3) + k) := if_neg (by omega)
    have a3 : cl1 A k p d r (k + 1) (3 * k + i % 3) = A (3 * k + i % 3) := if_neg (by omega)
    rw [a1, a2, a3]
  · rw [if_neg e1]
    by_cases e2 : 3 * r + (k + 1) ≤ i ∧ i < 3 * r + 3
    · have a1 : cl1 A k p d r (k + 1) i = (A i * d - A (3 * r + k) * A (3 * k + (i - 3 * r))) / p := if_pos e2
      rw [a1, if_pos (by omega), show 3 * (i / 3) + k = 3 * r + k by omega, show i % 3 = i - 3 * r by omega]
    · have a1 : cl1 A k p d r (k + 1) i = A i := if_neg e2
      rw [a1, if_neg (by omega)]
theorem cl2_end {A : Nat → Int64} {k : Nat} {p d : Int64} : cl2 A k p d 3 = A := by
  funext i
  unfold cl2
  rw [if_neg (by omega)]
def clr (A : Nat → Int64) (k : Nat) (p d : Int64) : Nat → Int64 := cl2 A k p d (k + 1)
theorem clr_eq {A B : Nat → Int64} (h : ∀ i, i < 9 → A i = B i) {k : Nat} (hk : k < 3) (p d : Int64) : ∀ i, i < 9 → clr A k p d i = clr B k p d i := by
  intro i hi
  unfold clr cl2
  rw [h i hi, h (3 * (i / 3) + k) (by omega), h (3 * k + i % 3) (by omega)]
def bhd (R : Nat → Int64) (k : Nat) : Bool := (List.range 3).any (fun c => decide (k < c) && decide (R (3 * k + c) ≠ 0))
theorem bhd_t {R : Nat → Int64} {k : Nat} : (bhd R k = true) ↔ ∃ c, k < c ∧ c < 3 ∧ R (3 * k + c) ≠ 0 := by
  unfold bhd
  rw [List.any_eq_true]
  constructor
  · rintro ⟨c, h1, h2⟩
    rw [Bool.and_eq_true, decide_eq_true_eq, decide_eq_true_eq] at h2
    exact ⟨c, h2.1, List.mem_range.mp h1, h2.2⟩
  · rintro ⟨c, h1, h2, h3⟩
    exact ⟨c, List.mem_range.mpr h2, by rw [Bool.and_eq_true, decide_eq_true_eq, decide_eq_true_eq]; exact ⟨h1, h3⟩⟩
def sqRow (R : Nat → Int64) (k : Nat) (p d : Int64) : List Int64 := [1, 2 * p * d, if 0 < k then 0 else R (3 * k), if 1 < k then 0 else R (3 * k + 1), if 2 < k then 0 else R (3 * k + 2)]
def sqN : Nat → Nat → (Nat → Int64) → List Int64 → Int64 → Option (List Int64)
  | 0, _, _, ns, _ => some ns
  | w + 1, k, R, ns, p => if R (4 * k) < 0 then none else if R (4 * k) = 0 then (if bhd R k = true then none else sqN w (k + 1) R ns p) else sqN w (k + 1) (clr R k p (R (4 * k))) (ns ++ sqRow R k p (R (4 * k))) (R (4 * k))
theorem sqN_eq : ∀ (w k : Nat) (A B : Nat → Int64) (ns : List Int64) (p : Int64), k + w = 3 → (∀ i, i < 9 → A i = B i) → sqN w k A ns p = sqN w k B ns p := by
  intro w
  induction w with
  | zero => intro k A B ns p _ _; rfl
  | succ w ih =>
    intro k A B ns p hk h
    have hb : bhd A k = bhd B k := by
      rw [Bool.eq_iff_iff, bhd_t, bhd_t]
      constructor
      · rintro ⟨c, h1, h2, h3⟩; exact ⟨c, h1, h2, by rw [← h _ (by omega)]; exact h3⟩
      · rintro ⟨c, h1, h2, h3⟩; exact ⟨c, h1, h2, by rw [h _ (by omega)]; exact h3⟩
    have hr : sqRow A k p (A (4 * k)) = sqRow B k p (B (4 * k)) := by
      unfold sqRow
      rw [h (4 * k) (by omega), h (3 * k) (by omega), h (3 * k + 1) (by omega), h (3 * k + 2) (by omega)]
    show (if A (4 * k) < 0 then none else if A (4 * k) = 0 then (if bhd A k = true then none else sqN w (k + 1) A ns p) else sqN w (k + 1) (clr A k p (A (4 * k))) (ns ++ sqRow A k p (A (4 * k))) (A (4 * k))) = (if B (4 * k) < 0 then none else if B (4 * k) = 0 then (if bhd B k = true then none else sqN w (k + 1) B ns p) else sqN w (k + 1) (clr B k p (B (4 * k))) (ns ++ sqRow B k p (B (4 * k))) (B (4 * k)))
    rw [hb, hr, h (4 * k) (by omega), ih (k + 1) A B ns p (by omega) h, ih (k + 1) (clr A k p (B (4 * k))) (clr B k p (B (4 * k))) _ _ (by omega) (clr_eq h (by omega) _ _)]
theorem sqN_len : ∀ (w k : Nat) (R : Nat → Int64) (ns ns' : List Int64) (p : Int64), sqN w k R ns p = some ns' → ∃ c, c ≤ w ∧ ns'.length = ns.length + 5 * c := by
  intro w
  induction w with
  | zero => intro k R ns ns' p h; rw [Option.some.inj h]; exact ⟨0, Nat.le_refl _, rfl⟩
  | succ w ih =>
    intro k R ns ns' p h
    have h' : (if R (4 * k) < 0 then none else if R (4 * k) = 0 then (if bhd R k = true then none else sqN w (k + 1) R ns p) else sqN w (k + 1) (clr R k p (R (4 * k))) (ns ++ sqRow R k p (R (4 * k))) (R (4 * k))) = some ns' := h
    split at h'
    · cases h'
    · split at h'
      · split at h'
        · cases h'
        · obtain ⟨c, h1, h2⟩ := ih _ _ _ _ _ h'
          exact ⟨c, by omega, h2⟩
      · obtain ⟨c, h1, h2⟩ := ih _ _ _ _ _ h'
        refine ⟨c + 1, by omega, ?_⟩
        rw [h2, List.length_append]
        show ns.length + 5 + 5 * c = _
        omega
/-- where a square's numbers stand -/
theorem getD_row {ns : List Int64} {R : Nat → Int64} {k : Nat} {p d : Int64} {i : Nat} : (ns ++ sqRow R k p d).getD i 0 = if i < ns.length then ns.getD i 0 else if i = ns.length then 1 else if i = ns.length + 1 then 2 * p * d else if i < ns.length + 5 then (if i - ns.length - 2 < k then 0 else R (3 * k + (i - ns.length - 2))) else 0 := by
  rw [List.getD_eq_getElem?_getD, List.getD_eq_getElem?_getD]
  by_cases h : i < ns.length
  · rw [if_pos h, List.getElem?_append_left h]
  · rw [if_neg h, List.getElem?_append_right (by omega)]
    obtain ⟨j, rfl⟩ : ∃ j, i = ns.length + j := ⟨i - ns.length, by omega⟩
    rw [show ns.length + j - ns.length = j by omega]
    unfold sqRow
    match j with
    | 0 =>
      show (1 : Int64) = _
      rw [if_pos (show ns.length + 0 = ns.length by omega)]
    | 1 =>
      show 2 * p * d = _
      rw [if_neg (show ¬ ns.length + 1 = ns.length by omega), if_pos (show ns.length + 1 = ns.length + 1 from rfl)]
    | 2 =>
      show (if 0 < k then 0 else R (3 * k)) = _
      rw [if_neg (show ¬ ns.length + 2 = ns.length by omega), if_neg (show ¬ ns.length + 2 = ns.length + 1 by omega), if_pos (show ns.length + 2 < ns.length + 5 by omega)] <;> rfl
    | 3 =>
      show (if 1 < k then 0 else R (3 * k + 1)) = _
      rw [if_neg (show ¬ ns.length + 3 = ns.length by omega), if_neg (show ¬ ns.length + 3 = ns.length + 1 by omega), if_pos (show ns.length + 3 < ns.length + 5 by omega)] <;> rfl
    | 4 =>
      show (if 2 < k then 0 else R (3 * k + 2)) = _
      rw [if_neg (show ¬ ns.length + 4 = ns.length by omega), if_neg (show ¬ ns.length + 4 = ns.length + 1 by omega), if_pos (show ns.length + 4 < ns.length + 5 by omega)] <;> rfl
    | j + 5 =>
      show (0 : Int64) = _
      rw [if_neg (show ¬ ns.length + (j + 5) = ns.length by omega), if_neg (show ¬ ns.length + (j + 5) = ns.length + 1 by omega), if_neg (show ¬ ns.length + (j + 5) < ns.length + 5 by omega)]
theorem getD_out {ns : List Int64} {i : Nat} (h : ns.length ≤ i) : ns.getD i 0 = 0 := by
  rw [List.getD_eq_getElem?_getD, List.getElem?_eq_none h]
  rfl
section BAREISS
variable {x z : Nat} {iv ai : Nat → Nat → Int32} {aj : Nat → Nat → Int64} {ar : Nat → Nat → Option Nat} {pp : Nat → Option Nat} {f0 : xHp}
/-! the class clears behind -/
theorem dld {b N i : Nat} {R : Nat → Int64} (hb : x + 41 ≤ b) (e : f0 b = some (.inr (.inl (N, R)))) (hi : i < N) (hN : N < 100000) : hJld (hp x iv ai aj ar pp f0) b (nI i) = some (R i) := by
  rw [dJld hb, fJld e, ixr hi (by omega), cl_nI (by omega)]
theorem dst {b N i : Nat} {R : Nat → Int64} (hb : x + 41 ≤ b) (e : f0 b = some (.inr (.inl (N, R)))) (hi : i < N) (hN : N < 100000) (v : Int64) : hJst (hp x iv ai aj ar pp f0) b (nI i) v = some (hp x iv ai aj ar pp (va_up f0 b (some (.inr (.inl (N, va_up R i v)))))) := by
  rw [dJst hb (nI i) v e, ixr hi (by omega), cl_nI (by omega)]
theorem s_23 {b k r : Nat} {p d : Int64} (hb : x + 41 ≤ b) (hp0 : p ≠ 0) (hkr : k < r) (hr : r < 3) (k12 : xHp → Nat → Int32 → Int64 → Int64 → Int32 → Option xHp) : ∀ (w c m : Nat) (f0 : xHp) (R : Nat → Int64), f0 b = some (.inr (.inl (9, R))) → k < c → c + w = 3 → w < m → L_X4_clearBehind_23 k12 m (hp x iv ai aj ar pp f0) b (nI k) p d (nI r) (nI c) = k12 (hp x iv ai aj ar pp (va_up f0 b (some (.inr (.inl (9, cl1 R k p d r c)))))) b (nI k) p d (nI (r + 1)) := by
  intro w
  induction w with
  | zero =>
    intro c m f0 R e hkc hc hm
    obtain ⟨m, rfl⟩ : ∃ y, m = y + 1 := ⟨m - 1, by omega⟩
    have : c = 3 := by omega
    subst this
    show F_X4_clearBehind_23 _ _ _ _ _ _ _ _ _ = _
    unfold F_X4_clearBehind_23
    rw [if_pos (by decide), add_1, cl1_end, ← e, up_self]
  | succ w ih =>
    intro c m f0 R e hkc hc hm
    obtain ⟨m, rfl⟩ : ∃ y, m = y + 1 := ⟨m - 1, by omega⟩
    show F_X4_clearBehind_23 _ _ _ _ _ _ _ _ _ = _
    unfold F_X4_clearBehind_23
    rw [if_neg (by rw [cle_3 (by omega)]; omega), mul_3, mul_3, nI_add, nI_add, nI_add, dld hb e (by omega) (by decide), Option.bind_some, dld hb e (by omega) (by decide), Option.bind_some, dld hb e (by omega) (by decide), Option.bind_some, if_neg hp0, dst hb e (by omega) (by decide), Option.bind_some, add_1, ih (c + 1) m _ _ (up_at _ _ _) (by omega) (by omega) (by omega), up_up, cl1_step hkc hkr (by omega)]
theorem s_12 {b k : Nat} {p d : Int64} (hb : x + 41 ≤ b) (hp0 : p ≠ 0) (hk : k < 3) : ∀ (w r m : Nat) (f0 : xHp) (R : Nat → Int64), f0 b = some (.inr (.inl (9, R))) → k < r → r + w = 3 → w < m → L_X4_clearBehind_12 m (hp x iv ai aj ar pp f0) b (nI k) p d (nI r) = some (hp x iv ai aj ar pp (va_up f0 b (some (.inr (.inl (9, cl2 R k p d r)))))) := by
  intro w
  induction w with
  | zero =>
    intro r m f0 R e hkr hr hm
    obtain ⟨m, rfl⟩ : ∃ y, m = y + 1 := ⟨m - 1, by omega⟩
    have : r = 3 := by omega
    subst this
    show F_X4_clearBehind_12 _ _ _ _ _ _ _ = _
    unfold F_X4_clearBehind_12
    rw [if_pos (by decide), cl2_end, ← e, up_self]
  | succ w ih =>
    intro r m f0 R e hkr hr hm
    obtain ⟨m, rfl⟩ : ∃ y, m = y + 1 := ⟨m - 1, by omega⟩
    show F_X4_clearBehind_12 _ _ _ _ _ _ _ = _
    unfold F_X4_clearBehind_12
    rw [if_neg (by rw [cle_3 (by omega)]; omega), add_1, s_23 hb hp0 hkr (by omega) _ (2 - k) (k + 1) xfuel f0 R e (by omega) (by omega) (Nat.lt_of_le_of_lt (show 2 - k ≤ 2 by omega) (by decide)), ih (r + 1) m _ _ (up_at _ _ _) (by omega) (by omega) (by omega), up_up, cl2_step hkr (by omega)]
theorem s_clear {b k : Nat} {p : Int64} {R : Nat → Int64} (hb : x + 41 ≤ b) (hp0 : p ≠ 0) (hk : k < 3) (e : f0 b = some (.inr (.inl (9, R)))) : F_X4_clearBehind (hp x iv ai aj ar pp f0) b (nI k) p = some (hp x iv ai aj ar pp (va_up f0 b (some (.inr (.inl (9, clr R k p (R (4 * k)))))))) := by
  unfold F_X4_clearBehind
  rw [mul_4, dld hb e (by omega) (by decide), Option.bind_some, add_1]
  exact s_12 hb hp0 hk (2 - k) (k + 1) xfuel f0 R e (by omega) (by omega) (Nat.lt_of_le_of_lt (show 2 - k ≤ 2 by omega) (by decide))
theorem s_behind {b k : Nat} {R : Nat → Int64} (hb : x + 41 ≤ b) (hk : k < 3) (e : f0 b = some (.inr (.inl (9, R)))) : F_X4_hasBehind (hp x iv ai aj ar pp f0) b (nI k) = some (if bhd R k = true then 1 else 0) := by
  have loop : ∀ (w c m : Nat), k < c → c + w = 3 → w < m → ((∃ j, c ≤ j ∧ j < 3 ∧ R (3 * k + j) ≠ 0) → L_X4_hasBehind_4 (hp x iv ai aj ar pp f0) m b (nI k) (nI c) = some 1) ∧ ((¬ ∃ j, c ≤ j ∧ j < 3 ∧ R (3 * k + j) ≠ 0) → L_X4_hasBehind_4 (hp x iv ai aj ar pp f0) m b (nI k) (nI c) = some 0) := by
    intro w
    induction w with
    | zero =>
      intro c m hkc hc hm
      obtain ⟨m, rfl⟩ : ∃ y, m = y + 1 := ⟨m - 1, by omega⟩
      have : c = 3 := by omega
      subst this
      refine ⟨fun ⟨j, a1, a2, _⟩ => absurd a2 (by omega), fun _ => ?_⟩
      show F_X4_hasBehind_4 _ _ _ _ _ = _
      unfold F_X4_hasBehind_4
      rw [if_pos (by decide)]
    | succ w ih =>
      intro c m hkc hc hm
      obtain ⟨m, rfl⟩ : ∃ y, m = y + 1 := ⟨m - 1, by omega⟩
      have e1 : L_X4_hasBehind_4 (hp x iv ai aj ar pp f0) (m + 1) b (nI k) (nI c) = if R (3 * k + c) = 0 then L_X4_hasBehind_4 (hp x iv ai aj ar pp f0) m b (nI k) (nI (c + 1)) else some 1 := by
        show F_X4_hasBehind_4 _ _ _ _ _ = _
        unfold F_X4_hasBehind_4
        rw [if_neg (by rw [cle_3 (by omega)]; omega), mul_3, nI_add, dld hb e (by omega) (by decide), Option.bind_some, add_1]
      rw [e1]
      obtain ⟨i1, i2⟩ := ih (c + 1) m (by omega) (by omega) (by omega)
      by_cases h0 : R (3 * k + c) = 0
      · rw [if_pos h0]
        refine ⟨fun ⟨j, a1, a2, a3⟩ => i1 ⟨j, ?_, a2, a3⟩, fun h => i2 (fun ⟨j, a1, a2, a3⟩ => h ⟨j, by omega, a2, a3⟩)⟩
        by_cases ej : j = c
        · rw [ej] at a3; exact absurd h0 a3
        · omega
      · rw [if_neg h0]
        exact ⟨fun _ => rfl, fun h => absurd ⟨c, Nat.le_refl _, by omega, h0⟩ h⟩
  obtain ⟨l1, l2⟩ := loop (2 - k) (k + 1) xfuel (by omega) (by omega) (Nat.lt_of_le_of_lt (show 2 - k ≤ 2 by omega) (by decide))
  unfold F_X4_hasBehind
  rw [add_1]
  by_cases h : bhd R k = true
  · rw [if_pos h]
    obtain ⟨c, a1, a2, a3⟩ := bhd_t.mp h
    exact l1 ⟨c, by omega, a2, a3⟩
  · rw [if_neg h]
    exact l2 (fun ⟨j, a1, a2, a3⟩ => h (bhd_t.mpr ⟨j, by omega, a2, a3⟩))
theorem dJcp {a b s d n N M : Nat} {G H : Nat → Int64} (ha : x + 41 ≤ a) (hb : x + 41 ≤ b) (e1 : f0 a = some (.inr (.inl (N, G)))) (e2 : f0 b = some (.inr (.inl (M, H)))) (h1 : s + n ≤ N) (h2 : d + n ≤ M) (hN : N < 10000) (hM : M < 10000) : hJcp (hp x iv ai aj ar pp f0) a (nI s) b (nI d) (nI n) = some (hp x iv ai aj ar pp (va_up f0 b (some (.inr (.inl (M, va_cpy G H s d n)))))) := by
  unfold hJcp
  rw [hp_out ha, hp_out hb, e1, e2]
  show (if nI s < 0 ∨ nI d < 0 ∨ nI n < 0 ∨ N < (nI s).toNatClampNeg + (nI n).toNatClampNeg ∨ M < (nI d).toNatClampNeg + (nI n).toNatClampNeg then none else some (va_up (hp x iv ai aj ar pp f0) b (some (.inr (.inl (M, va_cpy G H (nI s).toNatClampNeg (nI d).toNatClampNeg (nI n).toNatClampNeg)))))) = _
  rw [cl_nI (by omega), cl_nI (by omega), cl_nI (by omega), if_neg, hp_dyn hb]
  rintro (h | h | h | h | h)
  · rw [neg_nI (by omega)] at h; exact h
  · rw [neg_nI (by omega)] at h; exact h
  · rw [neg_nI (by omega)] at h; exact h
  · omega
  · omega
/-- the class's squares -/
theorem s_sq_loop {y a b more : Nat} (ha : x + 41 ≤ a) (hb : x + 41 ≤ b) (hab : a ≠ b) : ∀ (w k m : Nat) (f0 : xHp) (R N : Nat → Int64) (ns : List Int64) (p : Int64), k + w = 3 → w < m → f0 a = some (.inr (.inl (9, R))) → f0 b = some (.inr (.inl (15, N))) → (∀ i, i < 15 → N i = ns.getD i 0) → ns.length ≤ 5 * k → 0 < p →
    (sqN w k R ns p = none ∧ ∃ f2, L_X4_squareNumbers_46 m y (hp x iv ai aj ar pp f0) (nI more) a b (nI ns.length) p (nI k) = some (none, y, hp x iv ai aj ar pp f2) ∧ ∀ c, c ≠ a → c ≠ b → f2 c = f0 c) ∨
    ∃ ns' f2 N', sqN w k R ns p = some ns' ∧ L_X4_squareNumbers_46 m y (hp x iv ai aj ar pp f0) (nI more) a b (nI ns.length) p (nI k) = F_J7_copyOf_c38d5 y (hp x iv ai aj ar pp f2) b (nI (ns'.length + more)) ∧ f2 b = some (.inr (.inl (15, N'))) ∧ (∀ i, i < 15 → N' i = ns'.getD i 0) ∧ ∀ c, c ≠ a → c ≠ b → f2 c = f0 c := by
  intro w
  induction w with
  | zero =>
    intro k m f0 R N ns p hk hm e1 e2 hN hl hp0
    obtain ⟨m, rfl⟩ : ∃ y, m = y + 1 := ⟨m - 1, by omega⟩
    refine Or.inr ⟨ns, f0, N, rfl, ?_, e2, hN, fun _ _ _ => rfl⟩
    show F_X4_squareNumbers_46 _ _ _ _ _ _ _ _ _ = _
    unfold F_X4_squareNumbers_46
    have : k = 3 := by omega
    subst this
    rw [if_pos (by decide), nI_add]
    cases F_J7_copyOf_c38d5 y (hp x iv ai aj ar pp f0) b (nI (ns.length + more)) <;> rfl
  | succ w ih =>
    intro k m f0 R N ns p hk hm e1 e2 hN hl hp0
    obtain ⟨m, rfl⟩ : ∃ y, m = y + 1 := ⟨m - 1, by omega⟩
    have hp1 : p ≠ 0 := fun h => by rw [h] at hp0; exact absurd hp0 (by decide)
    have ef : L_X4_squareNumbers_46 (m + 1) y (hp x iv ai aj ar pp f0) (nI more) a b (nI ns.length) p (nI k) = if R (4 * k) < 0 then some (none, y, hp x iv ai aj ar pp f0) else if R (4 * k) = 0 then (if bhd R k = true then some (none, y, hp x iv ai aj ar pp f0) else F_X4_squareNumbers_85 (L_X4_squareNumbers_46 m) y (hp x iv ai aj ar pp f0) (nI more) a b (nI ns.length) p (nI k) (R (4 * k))) else F_X4_squareNumbers_85 (L_X4_squareNumbers_46 m) y (hp x iv ai aj ar pp f0) (nI more) a b (nI ns.length) p (nI k) (R (4 * k)) := by
      show F_X4_squareNumbers_46 _ _ _ _ _ _ _ _ _ = _
      unfold F_X4_squareNumbers_46 F_X4_squareNumbers_83
      rw [if_neg (by rw [cle_3 (by omega)]; omega), mul_4, dld ha e1 (by omega) (by decide), Option.bind_some, s_behind ha (by omega) e1, Option.bind_some]
      by_cases hb' : bhd R k = true
      · rw [if_pos hb', if_pos hb', if_neg (show ¬ (1 : Int32) = 0 by decide)]
      · rw [if_neg hb', if_neg hb', if_pos rfl]
    have es : sqN (w + 1) k R ns p = if R (4 * k) < 0 then none else if R (4 * k) = 0 then (if bhd R k = true then none else sqN w (k + 1) R ns p) else sqN w (k + 1) (clr R k p (R (4 * k))) (ns ++ sqRow R k p (R (4 * k))) (R (4 * k)) := rfl
    rw [ef, es]
    by_cases h1 : R (4 * k) < 0
    · rw [if_pos h1, if_pos h1]
      exact Or.inl ⟨rfl, f0, rfl, fun _ _ _ => rfl⟩
    rw [if_neg h1, if_neg h1]
    by_cases h2 : R (4 * k) = 0
    · rw [if_pos h2, if_pos h2]
      by_cases h3 : bhd R k = true
      · rw [if_pos h3, if_pos h3]
        exact Or.inl ⟨rfl, f0, rfl, fun _ _ _ => rfl⟩
      · rw [if_neg h3, if_neg h3]
        have e85 : F_X4_squareNumbers_85 (L_X4_squareNumbers_46 m) y (hp x iv ai aj ar pp f0) (nI more) a b (nI ns.length) p (nI k) (R (4 * k)) = L_X4_squareNumbers_46 m y (hp x iv ai aj ar pp f0) (nI more) a b (nI ns.length) p (nI (k + 1)) := by
          unfold F_X4_squareNumbers_85 F_X4_squareNumbers_154
          rw [if_pos (show R (4 * k) ≤ 0 by rw [h2]; decide), add_1]
        rw [e85]
        exact ih (k + 1) m f0 R N ns p (by omega) (by omega) e1 e2 hN (by omega) hp0
    · rw [if_neg h2, if_neg h2]
      have hd0 : 0 < R (4 * k) := by
        have g1 := Int64.le_iff_toInt_le.mp (Int64.not_lt.mp h1)
        refine Int64.lt_iff_toInt_lt.mpr ?_
        have g2 : (R (4 * k)).toInt ≠ (0 : Int64).toInt := fun e => h2 (Int64.toInt_inj.mp e)
        omega
      generalize hd : R (4 * k) = d at h1 h2 hd0
      have e85 : F_X4_squareNumbers_85 (L_X4_squareNumbers_46 m) y (hp x iv ai aj ar pp f0) (nI more) a b (nI ns.length) p (nI k) d = L_X4_squareNumbers_46 m y (hp x iv ai aj ar pp (va_up (va_up (va_up (va_up f0 b (some (.inr (.inl (15, va_up N ns.length 1))))) b (some (.inr (.inl (15, va_up (va_up N ns.length 1) (ns.length + 1) (2 * p * d)))))) b (some (.inr (.inl (15, va_cpy R (va_up (va_up N ns.length 1) (ns.length + 1) (2 * p * d)) (4 * k) (ns.length + 2 + k) (3 - k)))))) a (some (.inr (.inl (9, clr R k p d)))))) (nI more) a b (nI (ns ++ sqRow R k p d).length) d (nI (k + 1)) := by
        unfold F_X4_squareNumbers_85 F_X4_squareNumbers_154
        rw [if_neg (Int64.not_le.mpr hd0), if_neg (Int64.not_le.mpr hp0), dst hb e2 (by omega) (by decide), Option.bind_some, add_1, dst hb (up_at _ _ _) (by omega) (by decide), Option.bind_some, mul_4, add_2, nI_add, show (3 : Int32) = nI 3 from rfl, pk_sub (by omega), dJcp (G := R) ha hb ((up_ne _ _ hab).trans ((up_ne _ _ hab).trans e1)) (up_at _ _ _) (by omega) (by omega) (by decide) (by decide), Option.bind_some, s_clear (R := R) ha hp1 (by omega) ((up_ne _ _ hab).trans ((up_ne _ _ hab).trans ((up_ne _ _ hab).trans e1))), Option.bind_some, hd, add_1, show nI ns.length + 5 = nI (ns.length + 5) from add_5 _, List.length_append]
        rfl
      rw [e85]
      have hlen : (ns ++ sqRow R k p d).length = ns.length + 5 := by rw [List.length_append]; rfl
      have hN2 : ∀ i, i < 15 → va_cpy R (va_up (va_up N ns.length 1) (ns.length + 1) (2 * p * d)) (4 * k) (ns.length + 2 + k) (3 - k) i = (ns ++ sqRow R k p d).getD i 0 := by
        intro i hi
        rw [getD_row]
        by_cases c1 : i < ns.length
        · rw [if_pos c1, cpy_out (by omega), up_ne _ _ (by omega), up_ne _ _ (by omega), hN i hi]
        rw [if_neg c1]
        by_cases c2 : i = ns.length
        · rw [if_pos c2, cpy_out (by omega), up_ne _ _ (by omega), c2, up_at]
        rw [if_neg c2]
        by_cases c3 : i = ns.length + 1
        · rw [if_pos c3, cpy_out (by omega), c3, up_at]
        rw [if_neg c3]
        by_cases c4 : i < ns.length + 5
        · rw [if_pos c4]
          by_cases c5 : i - ns.length - 2 < k
          · rw [if_pos c5, cpy_out (by omega), up_ne _ _ (by omega), up_ne _ _ (by omega), hN i hi, getD_out (by omega)]
          · rw [if_neg c5, cpy_in (by omega) (by omega), show 4 * k + (i - (ns.length + 2 + k)) = 3 * k + (i - ns.length - 2) by omega]
        · rw [if_neg c4, cpy_out (by omega), up_ne _ _ (by omega), up_ne _ _ (by omega), hN i hi, getD_out (by omega)]
      rcases ih (k + 1) m _ (clr R k p d) _ (ns ++ sqRow R k p d) d (by omega) (by omega) (up_at _ _ _) ((up_ne _ _ (Ne.symm hab)).trans (up_at _ _ _)) hN2 (by rw [hlen]; omega) hd0 with ⟨s1, f2, s2, s3⟩ | ⟨ns', f2, N', s1, s2, s3, s4, s5⟩
      · refine Or.inl ⟨s1, f2, s2, fun c c1 c2 => (s3 c c1 c2).trans ?_⟩
        rw [up_ne _ _ c1, up_ne _ _ c2, up_ne _ _ c2, up_ne _ _ c2]
      · refine Or.inr ⟨ns', f2, N', s1, s2, s3, s4, fun c c1 c2 => (s5 c c1 c2).trans ?_⟩
        rw [up_ne _ _ c1, up_ne _ _ c2, up_ne _ _ c2, up_ne _ _ c2]
end BAREISS

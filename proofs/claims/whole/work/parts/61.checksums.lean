/-! check of squares and spans -/
def b_60 : Nat := 1152921504606846976
theorem b60_N {v : Int64} (h : b60 v) : v.toInt.natAbs ≤ b_60 := by
  have h1 := Int64.le_iff_toInt_le.mp h.1
  have h2 := Int64.le_iff_toInt_le.mp h.2
  have e1 : (-1152921504606846976 : Int64).toInt = -1152921504606846976 := rfl
  have e2 : (1152921504606846976 : Int64).toInt = 1152921504606846976 := rfl
  show _ ≤ 1152921504606846976
  omega
theorem mlB {a b : Int} {A B : Nat} (ha : a.natAbs ≤ A) (hb : b.natAbs ≤ B) : (a * b).natAbs ≤ A * B := mlN ha hb rfl
theorem oth_b1 {N : Nat → Int} {bt : Nat} : ∀ (w s : Nat), (∀ k, s ≤ k → k < s + w → (N k).natAbs ≤ b_60) → (oth N bt w s).natAbs ≤ b_60 ^ w := by
  intro w
  induction w with
  | zero => intro s _; exact Nat.le_refl 1
  | succ w ih =>
    intro s h
    have h1 : (if s = bt then (1 : Int) else N s).natAbs ≤ b_60 := by
      split
      · decide
      · exact h s (Nat.le_refl _) (by omega)
    have h2 := ih (s + 1) (fun k a b => h k (by omega) (by omega))
    show ((if s = bt then 1 else N s) * oth N bt w (s + 1)).natAbs ≤ _
    rw [Nat.pow_succ, Nat.mul_comm]
    exact mlB h1 h2
theorem oth_b2 {N : Nat → Int} {bt : Nat} : ∀ (w s : Nat), (∀ k, s ≤ k → k < s + w → (N k).natAbs ≤ b_60) → s ≤ bt → bt < s + w → (oth N bt w s).natAbs * b_60 ≤ b_60 ^ w := by
  intro w
  induction w with
  | zero => intro s _ h1 h2; omega
  | succ w ih =>
    intro s h h1 h2
    show ((if s = bt then 1 else N s) * oth N bt w (s + 1)).natAbs * b_60 ≤ _
    rw [Nat.pow_succ]
    by_cases e : s = bt
    · rw [if_pos e, Int.one_mul]
      exact Nat.mul_le_mul_right _ (oth_b1 w (s + 1) (fun k a b => h k (by omega) (by omega)))
    · rw [if_neg e, Int.natAbs_mul, Nat.mul_assoc, Nat.mul_comm (b_60 ^ w)]
      exact Nat.mul_le_mul (h s (Nat.le_refl _) (by omega)) (ih (s + 1) (fun k a b => h k (by omega) (by omega)) (by omega) (by omega))
theorem pow_le3 {K : Nat} (hK : K ≤ 3) : b_60 ^ K ≤ b_60 * b_60 * b_60 := by
  rcases (show K = 0 ∨ K = 1 ∨ K = 2 ∨ K = 3 by omega) with rfl | rfl | rfl | rfl
  · decide +kernel
  · decide +kernel
  · decide +kernel
  · decide +kernel
theorem zeroA {v k W : Int} (h : 0 = v + k * W) : v = W * -k := by
  rw [Int.mul_neg, Int.mul_comm W k]
  omega
theorem zeroC {d W : Nat} {v k : Int} (hd : d < W) (hv : v.natAbs < W) (h : (d : Int) = v + k * (W : Int)) : (d = 0 ↔ v = 0) := by
  constructor
  · intro e
    have h' : (0 : Int) = v + k * (W : Int) := by rw [← h, e]; rfl
    exact Int.eq_zero_of_dvd_of_natAbs_lt_natAbs (show (W : Int) ∣ v from ⟨-k, zeroA h'⟩) (by rw [Int.natAbs_natCast]; exact hv)
  · intro e
    have h1 : (d : Int) = (W : Int) * k := by rw [h, e, Int.zero_add, Int.mul_comm]
    have h2 : (d : Int) = 0 := Int.eq_zero_of_dvd_of_natAbs_lt_natAbs (show (W : Int) ∣ (d : Int) from ⟨k, h1⟩) (by rw [Int.natAbs_natCast, Int.natAbs_natCast]; exact hd)
    omega
section CHECKSUMS
variable {x : Nat} {iv ai : Nat → Nat → Int32} {aj : Nat → Nat → Int64} {ar : Nat → Nat → Option Nat} {pp : Nat → Option Nat} {f0 : xHp} {a b K pa q p : Nat} {sp : Bool} {g T : Nat → Int64}
def bQ1 : Nat := b_60 * b_60 * b_60 * 2 * (b_60 * b_60) * (65536 * b_60)
def bQ2 : Nat := b_60 * b_60 * (b_60 * b_60 * b_60)
def bQ3 : Nat := 1000 * (b_60 * b_60 * b_60) * (65536 * b_60)
theorem bQ_lt : 3 * bQ1 + bQ2 + bQ3 < W12 := by decide +kernel
theorem W12_24 : W12 ≤ W24 := by decide +kernel
theorem SQ.sd_b (h : SQ x f0 a b K pa sp g T) : (sdv sp g K).natAbs ≤ 65536 * b_60 := by
  unfold sdv
  cases sp with
  | true =>
    have h9 := b9_I (h.2.2.2.2.2.2.2 rfl (5 * K + 1) (by omega) (by omega))
    rw [if_pos rfl]
    exact mlB (by decide) (Nat.le_trans h9 (by decide))
  | false => exact (by decide : (1 : Int).natAbs ≤ 65536 * b_60)
theorem SQ.nb (h : SQ x f0 a b K pa sp g T) {i : Nat} (hi : i < 5 * K) : (g i).toInt.natAbs ≤ b_60 := b60_N (h.2.2.2.2.2.2.1 i (by omega))
theorem SQ.shr_b (h : SQ x f0 a b K pa sp g T) {t s : Nat} (hs : s < K) : (shr g sp K t s).natAbs ≤ bQ1 := by
  have hK := h.2.2.1
  have hfo := fo_lt t
  have o2 := oth_b2 (N := fun s => (g (5 * s + 1)).toInt) (bt := s) K 0 (fun k _ hk => h.nb (by omega)) (Nat.zero_le _) (by omega)
  have o3 := Nat.le_trans o2 (pow_le3 hK)
  have o4 : (oth (fun s => (g (5 * s + 1)).toInt) s K 0).natAbs ≤ b_60 * b_60 := Nat.le_of_mul_le_mul_right o3 (by decide)
  have tw : (if fo t = so t then (1 : Int) else 2).natAbs ≤ 2 := by split <;> decide
  unfold shr bQ1
  exact mlB (mlB (mlB (mlB (mlB (h.nb (by omega)) (h.nb (by omega))) (h.nb (by omega))) tw) o4) h.sd_b
theorem SQ.shs_b (h : SQ x f0 a b K pa sp g T) {t : Nat} : ∀ (w s : Nat), s + w = K → (shs g sp K t w s).natAbs ≤ w * bQ1 := by
  intro w
  induction w with
  | zero => intro s _; exact Nat.zero_le _
  | succ w ih =>
    intro s hs
    have h1 := ih (s + 1) (by omega)
    have h2 : (if ot t = true then (0 : Int) else shr g sp K t s).natAbs ≤ bQ1 := by
      split
      · exact Nat.zero_le _
      · exact h.shr_b (by omega)
    show ((if ot t = true then 0 else shr g sp K t s) + shs g sp K t w (s + 1)).natAbs ≤ _
    rw [Nat.succ_mul]
    have := Int.natAbs_add_le (if ot t = true then (0 : Int) else shr g sp K t s) (shs g sp K t w (s + 1))
    omega
theorem SQ.sps_b (h : SQ x f0 a b K pa sp g T) {t : Nat} : (sps g sp K t).natAbs ≤ bQ2 := by
  have hK := h.2.2.1
  unfold sps
  cases sp with
  | false => exact Nat.zero_le _
  | true =>
    rw [if_pos rfl]
    have h0 := b60_N (h.2.2.2.2.2.2.1 (5 * K) (show 5 * K < 5 * K + 4 by omega))
    have h2 := b9_I (h.2.2.2.2.2.2.2 rfl (5 * K + 2) (by omega) (by omega))
    have h3 := b9_I (h.2.2.2.2.2.2.2 rfl (5 * K + 3) (by omega) (by omega))
    have o1 := Nat.le_trans (oth_b1 (N := fun s => (g (5 * s + 1)).toInt) (bt := 99) K 0 (fun k _ hk => h.nb (by omega))) (pow_le3 hK)
    have ht : (spt g K t).natAbs ≤ b_60 := by
      unfold spt
      have m := mlN h2 h3 (C := 1000000000000000000) rfl
      show _ ≤ 1152921504606846976
      split
      · rw [Int.natAbs_neg]; omega
      · split
        · omega
        · split
          · decide
          · decide
    unfold bQ2
    exact mlB (mlB h0 ht) o1
theorem SQ.tot_b (h : SQ x f0 a b K pa sp g T) (hT : ∀ t, t < 9 → -1000 ≤ T t ∧ T t ≤ 1000) {t : Nat} (ht : t < 9) : (tot g T sp K t).natAbs < W12 := by
  have hK := h.2.2.1
  have hTt := co_b (hT t ht)
  have o1 := Nat.le_trans (oth_b1 (N := fun s => (g (5 * s + 1)).toInt) (bt := 99) K 0 (fun k _ hk => h.nb (by omega))) (pow_le3 hK)
  have t1 : (-(T t).toInt * oth (fun s => (g (5 * s + 1)).toInt) 99 K 0 * sdv sp g K).natAbs ≤ bQ3 := by
    unfold bQ3
    exact mlB (mlB (by rw [Int.natAbs_neg]; exact hTt) o1) h.sd_b
  have t2 := h.shs_b (t := t) K 0 (by omega)
  have t3 := h.sps_b (t := t)
  have t4 : K * bQ1 ≤ 3 * bQ1 := Nat.mul_le_mul_right _ hK
  have t5 := bQ_lt
  unfold tot
  have a1 := Int.natAbs_add_le (-(T t).toInt * oth (fun s => (g (5 * s + 1)).toInt) 99 K 0 * sdv sp g K + shs g sp K t K 0) (sps g sp K t)
  have a2 := Int.natAbs_add_le (-(T t).toInt * oth (fun s => (g (5 * s + 1)).toInt) 99 K 0 * sdv sp g K) (shs g sp K t K 0)
  omega
theorem cR_0 {D : Nat → Int32} {v : Int} (h : cR D v) (hv : v.natAbs < W12) : (dvl D 12 0 = 0 ↔ v = 0) := by
  obtain ⟨k, hk⟩ := h
  exact zeroC (by rw [← W12_eq]; exact dvl_lt D 12 0) hv hk
theorem lvl_lt24 {A : Nat → Int64} : ∀ (n i : Nat), (∀ k, i ≤ k → k < i + n → uN (A k) < 4294967296) → lvl A n i < 4294967296 ^ n := by
  intro n
  induction n with
  | zero => intro i _; exact Nat.one_pos
  | succ n ih =>
    intro i h
    have h1 := ih (i + 1) (fun k a b => h k (by omega) (by omega))
    have h2 := h i (Nat.le_refl _) (by omega)
    rw [lvl_s, Nat.pow_succ]
    omega
theorem mR_0 {A : Nat → Int64} {v : Int} (h : mR A v) (hv : v.natAbs < W12) : (lvl A 24 0 = 0 ↔ v = 0) := by
  obtain ⟨hb, k, hk⟩ := h
  exact zeroC (by rw [← W24_eq]; exact lvl_lt24 24 0 (fun k _ h => hb k (by omega))) (Nat.lt_of_lt_of_le hv W12_24) hk
/-! the nine terms -/
theorem s_nine (h : SQ x f0 a b K pa sp g T) (hT : ∀ t, t < 9 → -1000 ≤ T t ∧ T t ≤ 1000) : ∀ (w t m : Nat) (ai : Nat → Nat → Int32), t + w = 9 → w < m → ∃ ai' r, L_X8_firstWrong_12 m (hp x iv ai aj ar pp f0) a (x + 9) (nI t) = some (r, hp x iv ai' aj ar pp f0) ∧ (∀ k, k ≠ 12 → k ≠ 14 → ai' k = ai k) ∧ ((r = -1 ∧ ∀ u, t ≤ u → u < 9 → tot g T sp K u = 0) ∨ ∃ u, t ≤ u ∧ u < 9 ∧ r = nI u ∧ tot g T sp K u ≠ 0 ∧ ∀ k, t ≤ k → k < u → tot g T sp K k = 0) := by
  intro w
  induction w with
  | zero =>
    intro t m ai ht hm
    obtain ⟨m, rfl⟩ : ∃ y, m = y + 1 := ⟨m - 1, by omega⟩
    have : t = 9 := by omega
    subst this
    refine ⟨ai, -1, ?_, fun _ _ _ => rfl, Or.inl ⟨rfl, fun u a b => absurd b (by omega)⟩⟩
    show F_X8_firstWrong_12 _ _ _ _ _ = _
    unfold F_X8_firstWrong_12
    rw [if_pos (by decide)]
  | succ w ih =>
    intro t m ai ht hm
    obtain ⟨m, rfl⟩ : ∃ y, m = y + 1 := ⟨m - 1, by omega⟩
    obtain ⟨ai1, e1, e2, e3⟩ := s_holds (iv := iv) (ai := ai) (aj := aj) (ar := ar) (pp := pp) h hT (show t < 9 by omega)
    have z := cR_0 e2 (h.tot_b hT (show t < 9 by omega))
    have e0 : L_X8_firstWrong_12 (m + 1) (hp x iv ai aj ar pp f0) a (x + 9) (nI t) = (F_X8_holds (hp x iv ai aj ar pp f0) a (nI t) (x + 11) (x + 13)).bind (fun q5 => if q5.1 = 0 then (some (nI t, q5.2)) else (L_X8_firstWrong_12 m q5.2 a (x + 9) (nI (t + 1)))) := by
      show F_X8_firstWrong_12 _ _ _ _ _ = _
      unfold F_X8_firstWrong_12
      rw [if_neg (by rw [cle_9 (by omega)]; omega), rn_9_1, Option.bind_some, rn_9_2, Option.bind_some, if67 _ h.k67, add_1]
    by_cases hz : tot g T sp K t = 0
    · obtain ⟨ai2, r, f1, f2, f3⟩ := ih (t + 1) m ai1 (by omega) (by omega)
      refine ⟨ai2, r, ?_, fun k k1 k2 => (f2 k k1 k2).trans (e3 k k1 k2), ?_⟩
      · rw [e0, e1, Option.bind_some, if_pos (z.mpr hz), if_neg (show ¬ ((1 : Int32), hp x iv ai1 aj ar pp f0).1 = 0 from e10), f1]
      · rcases f3 with ⟨r1, r2⟩ | ⟨u, r1, r2, r3, r4, r5⟩
        · refine Or.inl ⟨r1, fun u a b => ?_⟩
          by_cases e : u = t
          · rw [e]; exact hz
          · exact r2 u (by omega) b
        · refine Or.inr ⟨u, by omega, r2, r3, r4, fun k a b => ?_⟩
          by_cases e : k = t
          · rw [e]; exact hz
          · exact r5 k (by omega) b
    · refine ⟨ai1, nI t, ?_, e3, Or.inr ⟨t, Nat.le_refl _, by omega, rfl, hz, fun k a b => absurd b (by omega)⟩⟩
      rw [e0, e1, Option.bind_some, if_neg (fun e => hz (z.mp e))]
      exact if_pos rfl
theorem m_nine (hb : ∀ t, t < 9 → (tot g T sp K t).natAbs < W12) (hsp : sp = true → ∀ i, 5 * K ≤ i → i < 5 * K + 4 → -1000000000 ≤ g i ∧ g i ≤ 1000000000) : ∀ (w t m : Nat) (aj : Nat → Nat → Int64), t + w = 9 → w < m → MQs ai aj q K p sp g T → ∃ aj' r, L_X11_checkSums_117 m (hp x iv ai aj ar pp f0) (x + 19) (nI q) (nI t) = some (r, hp x iv ai aj' ar pp f0) ∧ Kl aj aj' ∧ ((r = 1 ∧ ∀ u, t ≤ u → u < 9 → tot g T sp K u = 0) ∨ ∃ u, t ≤ u ∧ u < 9 ∧ r = -20 - nI u ∧ tot g T sp K u ≠ 0 ∧ ∀ k, t ≤ k → k < u → tot g T sp K k = 0) := by
  intro w
  induction w with
  | zero =>
    intro t m aj ht hm h
    obtain ⟨m, rfl⟩ : ∃ y, m = y + 1 := ⟨m - 1, by omega⟩
    have : t = 9 := by omega
    subst this
    refine ⟨aj, 1, ?_, fun _ _ => rfl, Or.inl ⟨rfl, fun u a b => absurd b (by omega)⟩⟩
    show F_X11_checkSums_117 _ _ _ _ _ = _
    unfold F_X11_checkSums_117
    rw [if_pos (by decide)]
  | succ w ih =>
    intro t m aj ht hm h
    obtain ⟨m, rfl⟩ : ∃ y, m = y + 1 := ⟨m - 1, by omega⟩
    obtain ⟨aj1, e1, e2, e3⟩ := m_isRight (x := x) (iv := iv) (ar := ar) (pp := pp) (f0 := f0) h hsp (show t < 9 by omega)
    have z := mR_0 e3 (hb t (by omega))
    have e0 : L_X11_checkSums_117 (m + 1) (hp x iv ai aj ar pp f0) (x + 19) (nI q) (nI t) = (F_X11_isRight (hp x iv ai aj ar pp f0) (x + 19) (nI q) (nI t)).bind (fun q3 => if q3.1 = 0 then (some (((-20 : Int32) - nI t), q3.2)) else (L_X11_checkSums_117 m q3.2 (x + 19) (nI q) (nI (t + 1)))) := by
      show F_X11_checkSums_117 _ _ _ _ _ = _
      unfold F_X11_checkSums_117
      rw [if_neg (by rw [cle_9 (by omega)]; omega), if_pos rk_19, add_1]
    by_cases hz : tot g T sp K t = 0
    · obtain ⟨aj2, r, f1, f2, f3⟩ := ih (t + 1) m aj1 (by omega) (by omega) (h.kl e2)
      refine ⟨aj2, r, ?_, e2.trans f2, ?_⟩
      · rw [e0, e1, Option.bind_some, if_pos (z.mpr hz), if_neg (show ¬ ((1 : Int32), hp x iv ai aj1 ar pp f0).1 = 0 from e10), f1]
      · rcases f3 with ⟨r1, r2⟩ | ⟨u, r1, r2, r3, r4, r5⟩
        · refine Or.inl ⟨r1, fun u a b => ?_⟩
          by_cases e : u = t
          · rw [e]; exact hz
          · exact r2 u (by omega) b
        · refine Or.inr ⟨u, by omega, r2, r3, r4, fun k a b => ?_⟩
          by_cases e : k = t
          · rw [e]; exact hz
          · exact r5 k (by omega) b
    · refine ⟨aj1, -20 - nI t, ?_, e2, Or.inr ⟨t, Nat.le_refl _, by omega, rfl, hz, fun k a b => absurd b (by omega)⟩⟩
      rw [e0, e1, Option.bind_some, if_neg (fun e => hz (z.mp e))]
      exact if_pos rfl
/-! weights -/
def wOk (g : Nat → Int64) (s : Nat) : Prop := 0 < g (5 * s) ∧ 0 < g (5 * s + 1)
def wAll (g : Nat → Int64) (sp : Bool) (K : Nat) : Prop := (∀ s, s < K → wOk g s) ∧ (sp = true → wOk g K)
theorem s_above (h : SQ x f0 a b K pa sp g T) {s : Nat} (hs : 5 * s + 1 < 5 * K + (if sp = true then 4 else 0)) : (wOk g s → F_X8_isWeightAbove (hp x iv ai aj ar pp f0) a (nI (5 * s)) = some 1) ∧ (¬ wOk g s → F_X8_isWeightAbove (hp x iv ai aj ar pp f0) a (nI (5 * s)) = some 0) := by
  have e : F_X8_isWeightAbove (hp x iv ai aj ar pp f0) a (nI (5 * s)) = if g (5 * s) ≤ 0 then some 0 else if g (5 * s + 1) ≤ 0 then some 0 else some 1 := by
    unfold F_X8_isWeightAbove
    rw [h.num, Option.bind_some, h.ld (show 5 * s < 5 * K + (if sp = true then 4 else 0) by omega), Option.bind_some, Option.bind_some, add_1, h.ld hs, Option.bind_some]
  rw [e]
  constructor
  · rintro ⟨h1, h2⟩
    rw [if_neg (Int64.not_le.mpr h1), if_neg (Int64.not_le.mpr h2)]
  · intro hn
    by_cases h1 : g (5 * s) ≤ 0
    · rw [if_pos h1]
    · rw [if_neg h1]
      by_cases h2 : g (5 * s + 1) ≤ 0
      · rw [if_pos h2]
      · exact absurd ⟨Int64.not_le.mp h1, Int64.not_le.mp h2⟩ hn
theorem s_hwa (h : SQ x f0 a b K pa sp g T) : ((∀ s, s < K → wOk g s) → F_X8_hasWeightsAbove (hp x iv ai aj ar pp f0) a = some 1) ∧ ((¬ ∀ s, s < K → wOk g s) → F_X8_hasWeightsAbove (hp x iv ai aj ar pp f0) a = some 0) := by
  have hK := h.2.2.1
  have loop : ∀ (w s m : Nat), s + w = K → w < m → ((∀ k, s ≤ k → k < K → wOk g k) → L_X8_hasWeightsAbove_2 (hp x iv ai aj ar pp f0) m a (nI s) = some 1) ∧ ((¬ ∀ k, s ≤ k → k < K → wOk g k) → L_X8_hasWeightsAbove_2 (hp x iv ai aj ar pp f0) m a (nI s) = some 0) := by
    intro w
    induction w with
    | zero =>
      intro s m hs hm
      obtain ⟨m, rfl⟩ : ∃ y, m = y + 1 := ⟨m - 1, by omega⟩
      refine ⟨fun _ => ?_, fun q => absurd (fun k a b => absurd b (by omega)) q⟩
      show F_X8_hasWeightsAbove_2 _ _ _ _ = _
      unfold F_X8_hasWeightsAbove_2
      rw [if67b _ h.pcs, if_pos (show nI K ≤ nI s by rw [leq_nI (by omega) (by omega)]; omega)]
    | succ w ih =>
      intro s m hs hm
      obtain ⟨m, rfl⟩ : ∃ y, m = y + 1 := ⟨m - 1, by omega⟩
      obtain ⟨i1, i2⟩ := ih (s + 1) m (by omega) (by omega)
      obtain ⟨a1, a2⟩ := s_above (iv := iv) (ai := ai) (aj := aj) (ar := ar) (pp := pp) h (show 5 * s + 1 < 5 * K + (if sp = true then 4 else 0) by omega)
      have e : L_X8_hasWeightsAbove_2 (hp x iv ai aj ar pp f0) (m + 1) a (nI s) = (F_X8_isWeightAbove (hp x iv ai aj ar pp f0) a (nI (5 * s))).bind (fun q5 => if q5 = 0 then some 0 else L_X8_hasWeightsAbove_2 (hp x iv ai aj ar pp f0) m a (nI (s + 1))) := by
        show F_X8_hasWeightsAbove_2 _ _ _ _ = _
        unfold F_X8_hasWeightsAbove_2
        rw [if67b _ h.pcs, if_neg (show ¬ nI K ≤ nI s by rw [leq_nI (by omega) (by omega)]; omega), if67 _ h.k67, mul_5, add_1]
      rw [e]
      by_cases hw : wOk g s
      · rw [a1 hw, Option.bind_some, if_neg e10]
        refine ⟨fun q => i1 (fun k a b => q k (by omega) b), fun q => i2 (fun r => q (fun k a b => ?_))⟩
        by_cases ek : k = s
        · rw [ek]; exact hw
        · exact r k (by omega) b
      · rw [a2 hw, Option.bind_some, if_pos rfl]
        exact ⟨fun q => absurd (q s (Nat.le_refl _) (by omega)) hw, fun _ => rfl⟩
  obtain ⟨l1, l2⟩ := loop K 0 xfuel (by omega) (Nat.lt_of_le_of_lt hK (by decide))
  exact ⟨fun q => l1 (fun k _ b => q k b), fun q => l2 (fun r => q (fun k b => r k (Nat.zero_le _) b))⟩
theorem s_first (h : SQ x f0 a b K pa sp g T) : (wAll g sp K → F_X8_firstWrong (hp x iv ai aj ar pp f0) a (x + 9) = L_X8_firstWrong_12 xfuel (hp x iv ai aj ar pp f0) a (x + 9) 0) ∧ (¬ wAll g sp K → F_X8_firstWrong (hp x iv ai aj ar pp f0) a (x + 9) = some (9, hp x iv ai aj ar pp f0)) := by
  obtain ⟨a1, a2⟩ := s_hwa (iv := iv) (ai := ai) (aj := aj) (ar := ar) (pp := pp) h
  have hk := h.kd (iv := iv) (ai := ai) (aj := aj) (ar := ar) (pp := pp)
  cases sp with
  | false =>
    have e : F_X8_firstWrong (hp x iv ai aj ar pp f0) a (x + 9) = (F_X8_hasWeightsAbove (hp x iv ai aj ar pp f0) a).bind (fun q5 => if q5 = 0 then (some ((9 : Int32), hp x iv ai aj ar pp f0)) else (L_X8_firstWrong_12 xfuel (hp x iv ai aj ar pp f0) a (x + 9) (0 : Int32))) := by
      unfold F_X8_firstWrong
      have hk7 : hKd (hp x iv ai aj ar pp f0) a = some 7 := hk
      rw [if_neg (show ¬ hKd (hp x iv ai aj ar pp f0) a = some 6 by rw [hk7]; exact some_ne (by decide)), if_pos hk7]
    rw [e]
    refine ⟨fun q => ?_, fun q => ?_⟩
    · rw [a1 q.1, Option.bind_some, if_neg e10]
    · rw [a2 (fun r => q ⟨r, fun e => by cases e⟩), Option.bind_some, if_pos rfl]
  | true =>
    have hk6 : hKd (hp x iv ai aj ar pp f0) a = some 6 := hk
    obtain ⟨b1, b2⟩ := s_above (iv := iv) (ai := ai) (aj := aj) (ar := ar) (pp := pp) (s := K) h (show 5 * K + 1 < 5 * K + 4 by omega)
    have e : F_X8_firstWrong (hp x iv ai aj ar pp f0) a (x + 9) = (F_X7_hasWeightsAbove (hp x iv ai aj ar pp f0) a).bind (fun q2 => if q2 = 0 then (some ((9 : Int32), hp x iv ai aj ar pp f0)) else (L_X8_firstWrong_12 xfuel (hp x iv ai aj ar pp f0) a (x + 9) (0 : Int32))) := by
      unfold F_X8_firstWrong
      rw [if_pos hk6]
    have e7 : F_X7_hasWeightsAbove (hp x iv ai aj ar pp f0) a = (F_X8_hasWeightsAbove (hp x iv ai aj ar pp f0) a).bind (fun q2 => if q2 = 0 then (some (0 : Int32)) else (Option.bind (F_X8_isWeightAbove (hp x iv ai aj ar pp f0) a (nI (5 * K))) fun q7 => if q7 = 0 then (some (0 : Int32)) else (some (1 : Int32)))) := by
      unfold F_X7_hasWeightsAbove
      rw [if_pos hk6, if_pos hk6, h.from, Option.bind_some, if_pos hk6]
    rw [e, e7]
    refine ⟨fun q => ?_, fun q => ?_⟩
    · rw [a1 q.1, Option.bind_some, if_neg e10, b1 (q.2 rfl), Option.bind_some, if_neg e10, Option.bind_some, if_neg e10]
    · by_cases r : ∀ s, s < K → wOk g s
      · rw [a1 r, Option.bind_some, if_neg e10, b2 (fun w => q ⟨r, fun _ => w⟩), Option.bind_some, if_pos rfl, Option.bind_some, if_pos rfl]
      · rw [a2 r, Option.bind_some, if_pos rfl, Option.bind_some, if_pos rfl]
theorem m_weights (h : MQs ai aj q K p sp g T) : (wAll g sp K → F_X11_checkSums (hp x iv ai aj ar pp f0) (x + 19) (nI q) = L_X11_checkSums_117 xfuel (hp x iv ai aj ar pp f0) (x + 19) (nI q) 0) ∧ (¬ wAll g sp K → F_X11_checkSums (hp x iv ai aj ar pp f0) (x + 19) (nI q) = some (-29, hp x iv ai aj ar pp f0)) := by
  have hK := h.2.1
  have e107 : ∀ b : Int32, (b = 1 → F_X11_checkSums_107 (hp x iv ai aj ar pp f0) (x + 19) (nI q) b = L_X11_checkSums_117 xfuel (hp x iv ai aj ar pp f0) (x + 19) (nI q) 0) ∧ (b = 0 → F_X11_checkSums_107 (hp x iv ai aj ar pp f0) (x + 19) (nI q) b = some (-29, hp x iv ai aj ar pp f0)) := by
    intro b
    unfold F_X11_checkSums_107
    exact ⟨fun e => by rw [e, if_neg e10], fun e => by rw [e, if_pos rfl]⟩
  have loop : ∀ (w s m : Nat) (b : Int32), s + w = K → w < m → (b = 0 ∨ b = 1) → ((b = 1 ∧ (∀ k, s ≤ k → k < K → wOk g k) ∧ (sp = true → wOk g K)) → L_X11_checkSums_11 m (hp x iv ai aj ar pp f0) (x + 19) (nI q) (nI K) b (nI s) = L_X11_checkSums_117 xfuel (hp x iv ai aj ar pp f0) (x + 19) (nI q) 0) ∧ ((¬ (b = 1 ∧ (∀ k, s ≤ k → k < K → wOk g k) ∧ (sp = true → wOk g K))) → L_X11_checkSums_11 m (hp x iv ai aj ar pp f0) (x + 19) (nI q) (nI K) b (nI s) = some (-29, hp x iv ai aj ar pp f0)) := by
    intro w
    induction w with
    | zero =>
      intro s m b hs hm hb
      obtain ⟨m, rfl⟩ : ∃ y, m = y + 1 := ⟨m - 1, by omega⟩
      have b1 : b &&& 1 = b := by rcases hb with rfl | rfl <;> rfl
      have b0 : b &&& 0 = 0 := by rcases hb with rfl | rfl <;> rfl
      have none_left : ∀ k, s ≤ k → k < K → wOk g k := fun k a b => absurd b (by omega)
      cases sp with
      | false =>
        have e : L_X11_checkSums_11 (m + 1) (hp x iv ai aj ar pp f0) (x + 19) (nI q) (nI K) b (nI s) = F_X11_checkSums_107 (hp x iv ai aj ar pp f0) (x + 19) (nI q) b := by
          show F_X11_checkSums_11 _ _ _ _ _ _ _ = _
          unfold F_X11_checkSums_11
          rw [if_pos (show nI K ≤ nI s by rw [leq_nI (by omega) (by omega)]; omega), rn_19_21, Option.bind_some, h.kind, Option.bind_some, if_neg (show ¬ (if false = true then (3 : Int32) else 0) = 3 by decide)]
        rw [e]
        refine ⟨fun r => (e107 b).1 r.1, fun r => (e107 b).2 ?_⟩
        rcases hb with hb | hb
        · exact hb
        · exact absurd ⟨hb, none_left, fun e => (by cases e)⟩ r
      | true =>
        have e : L_X11_checkSums_11 (m + 1) (hp x iv ai aj ar pp f0) (x + 19) (nI q) (nI K) b (nI s) = if g (5 * K) ≤ 0 then F_X11_checkSums_107 (hp x iv ai aj ar pp f0) (x + 19) (nI q) 0 else if g (5 * K + 1) ≤ 0 then F_X11_checkSums_107 (hp x iv ai aj ar pp f0) (x + 19) (nI q) 0 else F_X11_checkSums_107 (hp x iv ai aj ar pp f0) (x + 19) (nI q) b := by
          show F_X11_checkSums_11 _ _ _ _ _ _ _ = _
          unfold F_X11_checkSums_11 F_X11_checkSums_104 F_X11_checkSums_105
          rw [if_pos (show nI K ≤ nI s by rw [leq_nI (by omega) (by omega)]; omega), rn_19_21, Option.bind_some, h.kind, Option.bind_some, if_pos (show (if true = true then (3 : Int32) else 0) = 3 from rfl), if_pos rk_19, mul_5, h.pn (show 5 * K < 5 * K + 4 by omega), Option.bind_some, if_pos rk_19, add_1, h.pn (show 5 * K + 1 < 5 * K + 4 by omega), Option.bind_some, b0, b1]
        rw [e]
        by_cases h1 : g (5 * K) ≤ 0
        · rw [if_pos h1]
          exact ⟨fun r => absurd (r.2.2 rfl).1 (Int64.not_lt.mpr h1), fun _ => (e107 0).2 rfl⟩
        · rw [if_neg h1]
          by_cases h2 : g (5 * K + 1) ≤ 0
          · rw [if_pos h2]
            exact ⟨fun r => absurd (r.2.2 rfl).2 (Int64.not_lt.mpr h2), fun _ => (e107 0).2 rfl⟩
          · rw [if_neg h2]
            refine ⟨fun r => (e107 b).1 r.1, fun r => (e107 b).2 ?_⟩
            rcases hb with hb | hb
            · exact hb
            · exact absurd ⟨hb, none_left, fun _ => ⟨Int64.not_le.mp h1, Int64.not_le.mp h2⟩⟩ r
    | succ w ih =>
      intro s m b hs hm hb
      obtain ⟨m, rfl⟩ : ∃ y, m = y + 1 := ⟨m - 1, by omega⟩
      have b1 : b &&& 1 = b := by rcases hb with rfl | rfl <;> rfl
      have b0 : b &&& 0 = 0 := by rcases hb with rfl | rfl <;> rfl
      have e : L_X11_checkSums_11 (m + 1) (hp x iv ai aj ar pp f0) (x + 19) (nI q) (nI K) b (nI s) = if g (5 * s) ≤ 0 then L_X11_checkSums_11 m (hp x iv ai aj ar pp f0) (x + 19) (nI q) (nI K) 0 (nI (s + 1)) else if g (5 * s + 1) ≤ 0 then L_X11_checkSums_11 m (hp x iv ai aj ar pp f0) (x + 19) (nI q) (nI K) 0 (nI (s + 1)) else L_X11_checkSums_11 m (hp x iv ai aj ar pp f0) (x + 19) (nI q) (nI K) b (nI (s + 1)) := by
        show F_X11_checkSums_11 _ _ _ _ _ _ _ = _
        unfold F_X11_checkSums_11 F_X11_checkSums_52 F_X11_checkSums_53
        rw [if_neg (show ¬ nI K ≤ nI s by rw [leq_nI (by omega) (by omega)]; omega), if_pos rk_19, mul_5, h.pn (show 5 * s < 5 * K + (if sp = true then 4 else 0) by omega), Option.bind_some, if_pos rk_19, add_1 (5 * s), h.pn (show 5 * s + 1 < 5 * K + (if sp = true then 4 else 0) by omega), Option.bind_some, b0, b1, add_1 s]
      rw [e]
      obtain ⟨z1, z2⟩ := ih (s + 1) m 0 (by omega) (by omega) (Or.inl rfl)
      obtain ⟨i1, i2⟩ := ih (s + 1) m b (by omega) (by omega) hb
      by_cases h1 : g (5 * s) ≤ 0
      · rw [if_pos h1]
        exact ⟨fun r => absurd (r.2.1 s (Nat.le_refl _) (by omega)).1 (Int64.not_lt.mpr h1), fun _ => z2 (fun r => absurd r.1 (by decide))⟩
      · rw [if_neg h1]
        by_cases h2 : g (5 * s + 1) ≤ 0
        · rw [if_pos h2]
          exact ⟨fun r => absurd (r.2.1 s (Nat.le_refl _) (by omega)).2 (Int64.not_lt.mpr h2), fun _ => z2 (fun r => absurd r.1 (by decide))⟩
        · rw [if_neg h2]
          refine ⟨fun r => i1 ⟨r.1, fun k a b => r.2.1 k (by omega) b, r.2.2⟩, fun r => i2 (fun u => r ⟨u.1, fun k a b => ?_, u.2.2⟩)⟩
          by_cases ek : k = s
          · rw [ek]; exact ⟨Int64.not_le.mp h1, Int64.not_le.mp h2⟩
          · exact u.2.1 k (by omega) b
  obtain ⟨l1, l2⟩ := loop K 0 xfuel 1 (by omega) (Nat.lt_of_le_of_lt hK (by decide)) (Or.inr rfl)
  have e : F_X11_checkSums (hp x iv ai aj ar pp f0) (x + 19) (nI q) = L_X11_checkSums_11 xfuel (hp x iv ai aj ar pp f0) (x + 19) (nI q) (nI K) 1 (nI 0) := by
    unfold F_X11_checkSums
    rw [if_pos rk_19, h.si, Option.bind_some]
    rfl
  rw [e]
  exact ⟨fun r => l1 ⟨rfl, fun k _ b => r.1 k b, r.2⟩, fun r => l2 (fun u => r ⟨fun k b => u.2.1 k (Nat.zero_le _) b, u.2.2⟩)⟩
end CHECKSUMS

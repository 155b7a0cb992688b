/-! a new proof on both sides -/
section NEWPROOF
variable {x z : Nat} {iv ai : Nat → Nat → Int32} {aj : Nat → Nat → Int64} {ar : Nat → Nat → Option Nat} {pp : Nat → Option Nat} {f0 : xHp}
theorem INV.ext {y : Nat} {f2 : xHp} {iv' ai' : Nat → Nat → Int32} {aj' : Nat → Nat → Int64} {pp' : Nat → Option Nat} (hI0 : INV x z iv ai aj ar pp f0) (hy : z ≤ y) (h2 : ∀ a, a < z → f2 a = f0 a) (h0 : iv' 0 = iv 0) (h5 : iv' 5 = iv 5) (h9 : iv' 9 4 = iv 9 4) (h19 : ∀ s, s ≠ 18 → iv' 19 s = iv 19 s) (ha : ∀ k, k ≠ 12 → k ≠ 14 → k ≠ 16 → k ≠ 17 → k ≠ 39 → k ≠ 40 → ai' k = ai k) (hj22 : aj' 22 = aj 22) (hj23 : aj' 23 = aj 23) (hj34 : aj' 34 = aj 34) (hp5 : pp' 5 = pp 5) : INV x y iv' ai' aj' ar pp' f2 := by
  obtain ⟨hz, own, hT, hS, hP, hB, hR, hQ⟩ := hI0
  have fr : Fr x z y f0 f2 own own (fun _ => False) := ⟨hy, fun a _ ha => ⟨rfl, fun _ => h2 a ha⟩⟩
  have A : ∀ k, (k ≠ 12 ∧ k ≠ 14 ∧ k ≠ 16 ∧ k ≠ 17 ∧ k ≠ 39 ∧ k ≠ 40) → ai' k = ai k := fun k h => ha k h.1 h.2.1 h.2.2.1 h.2.2.2.1 h.2.2.2.2.1 h.2.2.2.2.2
  refine ⟨by omega, own, ?_, ?_, ?_, ?_, ?_, ?_⟩
  · rw [h0, h9, h19 0 (by decide), h19 1 (by decide)]; exact hT
  · rw [A 20 (by decide), A 21 (by decide), hj22]; exact hS.keep fr (fun _ => ⟨id, id⟩)
  · rw [h0, h19 5 (by decide), hj23]; exact hP.keep fr (fun _ => ⟨id, id⟩)
  · rw [h0, h19 8 (by decide), A 3 (by decide), A 25 (by decide)]; exact hB
  · rw [h0, h5, h19 10 (by decide), h19 11 (by decide), h19 12 (by decide), h19 15 (by decide), h19 16 (by decide), hp5, A 6 (by decide), A 7 (by decide), A 26 (by decide), A 27 (by decide), A 25 (by decide), hj23]; exact hR
  · rw [h0, h19 20 (by decide), hj23, hj34, A 25 (by decide), A 30 (by decide), A 31 (by decide), A 32 (by decide), A 33 (by decide)]; exact hQ.keep fr (fun _ => ⟨id, id, id⟩)
def ownP (own : Nat → Nat × Nat) (z A B n : Nat) : Nat → Nat × Nat := fun c => if c < z then own c else if c = A then (5, n) else if c = B then (6, n) else (7, n)
theorem INV.newProof {y A B n m : Nat} {f2 : xHp} {iv' ai' : Nat → Nat → Int32} {aj' : Nat → Nat → Int64} {ar' : Nat → Nat → Option Nat} {pp' : Nat → Option Nat} {kd po bo : Int32} (hI0 : INV x z iv ai aj ar pp f0) (hn : n < 40) (hc : iv 0 8 = nI n) (hy : z ≤ y) (h2 : ∀ a, a < z → f2 a = f0 a) (h0 : ∀ s, s ≠ 8 → iv' 0 s = iv 0 s) (h08 : iv' 0 8 = nI (n + 1)) (h5 : iv' 5 = iv 5) (h9 : iv' 9 4 = iv 9 4) (h19 : ∀ s, s ≠ 18 → s ≠ 20 → iv' 19 s = iv 19 s) (h20 : iv' 19 20 = nI (n + 1)) (ha : ∀ k, k ≠ 30 → k ≠ 31 → k ≠ 32 → k ≠ 33 → ai' k = ai k) (ha30 : ai' 30 = va_up (ai 30) n kd) (ha31 : ai' 31 = va_up (ai 31) n po) (ha32 : ai' 32 = va_up (ai 32) n bo) (ha33 : ai' 33 = va_up (ai 33) n (nI m)) (hj22 : aj' 22 = aj 22) (hj23 : aj' 23 = aj 23) (hj34 : ∀ i, i < 160 * n → aj' 34 i = aj 34 i) (hr1 : ar' 1 = ar 1) (hr2 : ar' 2 = ar 2) (hr4 : ar' 4 = va_up (ar 4) n (some A)) (hp5 : pp' 5 = pp 5)
    (hnew : ∀ own : Nat → Nat × Nat, prOk x y f2 (ownP own z A B n) n (some A) kd po bo (nI m) (aj' 34) (iv 0 6) (iv 0 7) (ar 2) (aj 23) (ai 25)) : INV x y iv' ai' aj' ar' pp' f2 := by
  obtain ⟨hz, own, hT, hS, hP, hB, hR, ⟨n', q1, q2, q3, q4⟩⟩ := hI0
  have en : n' = n := nI_inj (by omega) (by omega) (q2.symm.trans hc)
  subst en
  have fr : Fr x z y f0 f2 own (ownP own z A B n') (fun _ => False) := ⟨hy, fun a _ ha => ⟨if_pos ha, fun _ => h2 a ha⟩⟩
  have AA : ∀ k, (k ≠ 30 ∧ k ≠ 31 ∧ k ≠ 32 ∧ k ≠ 33) → ai' k = ai k := fun k h => ha k h.1 h.2.1 h.2.2.1 h.2.2.2
  have I9 : ∀ s, (s ≠ 18 ∧ s ≠ 20) → iv' 19 s = iv 19 s := fun s h => h19 s h.1 h.2
  refine ⟨by omega, ownP own z A B n', ?_, ?_, ?_, ?_, ?_, ?_⟩
  · rw [h0 9 (by decide), h9, I9 0 (by decide), I9 1 (by decide)]; exact hT
  · rw [AA 20 (by decide), AA 21 (by decide), hj22, hr1]; exact hS.keep fr (fun _ => ⟨id, id⟩)
  · rw [h0 6 (by decide), I9 5 (by decide), hj23, hr2]; exact hP.keep fr (fun _ => ⟨id, id⟩)
  · rw [h0 7 (by decide), I9 8 (by decide), AA 3 (by decide), AA 25 (by decide)]; exact hB
  · rw [h0 6 (by decide), h0 7 (by decide), h5, I9 10 (by decide), I9 11 (by decide), I9 12 (by decide), I9 15 (by decide), I9 16 (by decide), hp5, AA 6 (by decide), AA 7 (by decide), AA 26 (by decide), AA 27 (by decide), AA 25 (by decide), hj23, hr2]; exact hR
  · rw [h0 6 (by decide), h0 7 (by decide), h08, h20, hj23, AA 25 (by decide), ha30, ha31, ha32, ha33, hr2, hr4]
    refine ⟨n' + 1, by omega, rfl, rfl, fun q hq => ?_⟩
    by_cases hqn : q = n'
    · subst hqn
      rw [up_at, up_at, up_at, up_at, up_at]
      exact hnew own
    · rw [up_ne _ _ hqn, up_ne _ _ hqn, up_ne _ _ hqn, up_ne _ _ hqn, up_ne _ _ hqn]
      refine ((q4 q (by omega)).keep fr ⟨id, id, id⟩).ns (fun i hi => hj34 _ (by omega))
theorem s_keepProof {n A c : Nat} (hn : n ≤ 40) (hc : iv 0 8 = nI n) (hA : hKd (hp x iv ai aj ar pp f0) A = some c) (hcc : c = 0 ∨ c = 3 ∨ c = 6 ∨ c = 7) : F_X10_keepProof (hp x iv ai aj ar pp f0) x A = if n < 40 then some (nI n, hp x (u2 iv 0 8 (nI (n + 1))) ai aj (u2 ar 4 n (some A)) pp f0) else some (-4, hp x iv ai aj ar pp f0) := by
  unfold F_X10_keepProof
  rw [ri_0_8, hc, Option.bind_some]
  by_cases h : n < 40
  · rw [if_pos h, if_pos (show nI n < 40 by rw [ctl_40 (by omega)]; exact h), rn_0_3, Option.bind_some, Option.bind_some, wq_4 _ A c hA hcc, ixr h (by decide), cl_nI (by omega), Option.bind_some, ri_0_8, hc, Option.bind_some, add_1, wi_0_8, Option.bind_some]
  · rw [if_neg h, if_neg (show ¬ nI n < 40 by rw [ctl_40 (by omega)]; exact h)]
theorem m_newProof {n : Nat} (hn : n < 40) (hc : iv 19 20 = nI n) (kd po bo : Int32) : F_X11_newProof (hp x iv ai aj ar pp f0) (x + 19) kd po bo = some (nI n, hp x (u2 iv 19 20 (nI (n + 1))) (u2 (u2 (u2 (u2 ai 30 n kd) 31 n po) 32 n bo) 33 n 0) aj ar pp f0) := by
  unfold F_X11_newProof
  rw [rn_19_21, Option.bind_some, ri_19_20, hc, Option.bind_some, w30 hn, Option.bind_some, rn_19_22, Option.bind_some, ri_19_20, hc, Option.bind_some, w31 hn, Option.bind_some, rn_19_23, Option.bind_some, ri_19_20, hc, Option.bind_some, w32' hn, Option.bind_some, rn_19_24, Option.bind_some, ri_19_20, hc, Option.bind_some, w33 hn, Option.bind_some, ri_19_20, hc, Option.bind_some, add_1, wi_19_20, Option.bind_some, ri_19_20, Option.bind_some, u2_tt, nI_pred]
/-- numbers told of proof q: the first m of N -/
def layN (f : Nat → Int64) (q : Nat) (N : Nat → Int64) (m : Nat) : Nat → Int64 := fun i => if 160 * q ≤ i ∧ i < 160 * q + m then N (i - 160 * q) else f i
theorem layN_0 (f : Nat → Int64) (q : Nat) (N : Nat → Int64) : layN f q N 0 = f := by
  funext i
  unfold layN
  rw [if_neg (by omega)]
theorem layN_s (f : Nat → Int64) (q : Nat) (N : Nat → Int64) (m : Nat) : va_up (layN f q N m) (160 * q + m) (N m) = layN f q N (m + 1) := by
  funext i
  unfold layN
  by_cases h : i = 160 * q + m
  · rw [h, up_at, if_pos (by omega), show 160 * q + m - 160 * q = m by omega]
  · rw [up_ne _ _ h]
    by_cases h2 : 160 * q ≤ i ∧ i < 160 * q + m
    · rw [if_pos h2, if_pos (by omega)]
    · rw [if_neg h2, if_neg (by omega)]
theorem layN_at {f : Nat → Int64} {q : Nat} {N : Nat → Int64} {m i : Nat} (h : i < m) : layN f q N m (160 * q + i) = N i := by
  unfold layN
  rw [if_pos (by omega), show 160 * q + i - 160 * q = i by omega]
theorem layN_lt {f : Nat → Int64} {q : Nat} {N : Nat → Int64} {m i : Nat} (h : i < 160 * q) : layN f q N m i = f i := by
  unfold layN
  rw [if_neg (by omega)]
/-- the reference's rows while it tells proof n -/
def tA (ai : Nat → Nat → Int32) (n : Nat) (kd po bo : Int32) (m : Nat) : Nat → Nat → Int32 := u2 (u2 (u2 (u2 ai 30 n kd) 31 n po) 32 n bo) 33 n (nI m)
theorem m_tell {q m : Nat} (hq : q < 40) (hm : m < 160) {kd po bo : Int32} {N : Nat → Int64} : F_X11_tellNumber (hp x iv (tA ai q kd po bo m) (va_up aj 34 (layN (aj 34) q N m)) ar pp f0) (x + 19) (nI q) (N m) = some (hp x iv (tA ai q kd po bo (m + 1)) (va_up aj 34 (layN (aj 34) q N (m + 1))) ar pp f0) := by
  have e : tA ai q kd po bo m 33 q = nI m := u2_tt _ _ _ _
  unfold F_X11_tellNumber
  rw [rn_19_25, Option.bind_some, rn_19_24, Option.bind_some, r33 hq, Option.bind_some, e, mul_160, nI_add, w34 (by omega), Option.bind_some, rn_19_24, Option.bind_some, r33 hq, Option.bind_some, e, add_1, w33 hq, Option.bind_some]
  unfold tA
  rw [u2_same]
  unfold u2
  rw [up_up, up_at, layN_s]
theorem tA_ne {ai : Nat → Nat → Int32} {n m k : Nat} {kd po bo : Int32} (h30 : k ≠ 30) (h31 : k ≠ 31) (h32 : k ≠ 32) (h33 : k ≠ 33) : tA ai n kd po bo m k = ai k := by
  unfold tA
  rw [u2_ne _ _ _ h33, u2_ne _ _ _ h32, u2_ne _ _ _ h31, u2_ne _ _ _ h30]
theorem tA_30 {ai : Nat → Nat → Int32} {n m : Nat} {kd po bo : Int32} : tA ai n kd po bo m 30 = va_up (ai 30) n kd := by
  unfold tA
  rw [u2_ne _ _ _ (by decide), u2_ne _ _ _ (by decide), u2_ne _ _ _ (by decide), u2_cc]
theorem tA_31 {ai : Nat → Nat → Int32} {n m : Nat} {kd po bo : Int32} : tA ai n kd po bo m 31 = va_up (ai 31) n po := by
  unfold tA
  rw [u2_ne _ _ _ (by decide), u2_ne _ _ _ (by decide), u2_cc, u2_ne _ _ _ (by decide)]
theorem tA_32 {ai : Nat → Nat → Int32} {n m : Nat} {kd po bo : Int32} : tA ai n kd po bo m 32 = va_up (ai 32) n bo := by
  unfold tA
  rw [u2_ne _ _ _ (by decide), u2_cc, u2_ne _ _ _ (by decide), u2_ne _ _ _ (by decide)]
theorem tA_33 {ai : Nat → Nat → Int32} {n m : Nat} {kd po bo : Int32} : tA ai n kd po bo m 33 = va_up (ai 33) n (nI m) := by
  unfold tA
  rw [u2_cc, u2_ne _ _ _ (by decide), u2_ne _ _ _ (by decide), u2_ne _ _ _ (by decide)]
/-! corners -/
theorem m_co_loop {p b q : Nat} (hp1 : p < 30) (hb : b < 30) (hq : q < 40) {kd po bo : Int32} : ∀ (w k m : Nat), k + w = 9 → w < m → L_X11_corners_70 m (hp x iv (tA ai q kd po bo k) (va_up aj 34 (layN (aj 34) q (fun k => crn (Tm (aj 23) p) k (bx (ai 25) b)) k)) ar pp f0) (x + 19) (nI p) (nI b) (nI q) (nI k) = some (nI q, hp x iv (tA ai q kd po bo 9) (va_up aj 34 (layN (aj 34) q (fun k => crn (Tm (aj 23) p) k (bx (ai 25) b)) 9)) ar pp f0) := by
  intro w
  induction w with
  | zero =>
    intro k m hk hm
    obtain ⟨m, rfl⟩ : ∃ y, m = y + 1 := ⟨m - 1, by omega⟩
    have : k = 9 := by omega
    subst this
    show F_X11_corners_70 _ _ _ _ _ _ _ = _
    unfold F_X11_corners_70
    rw [if_pos (by decide)]
  | succ w ih =>
    intro k m hk hm
    obtain ⟨m, rfl⟩ : ∃ y, m = y + 1 := ⟨m - 1, by omega⟩
    show F_X11_corners_70 _ _ _ _ _ _ _ = _
    unfold F_X11_corners_70
    rw [if_neg (by rw [cle_9 (by omega)]; omega), if_pos rk_19, m_boxCorner hp1 hb (by omega), Option.bind_some, if_pos rk_19, up_ne aj _ (show 23 ≠ 34 by decide), tA_ne (by decide) (by decide) (by decide) (by decide)]
    have e := m_tell (x := x) (iv := iv) (ai := ai) (aj := aj) (ar := ar) (pp := pp) (f0 := f0) (m := k) hq (by omega) (kd := kd) (po := po) (bo := bo) (N := fun k => crn (Tm (aj 23) p) k (bx (ai 25) b))
    rw [e, Option.bind_some, add_1, ih (k + 1) m (by omega) (by omega)]
theorem m_co20 {p b : Nat} (hp1 : p < 30) (hb : b < 30) : ∀ (w k m : Nat), k + w = 9 → w < m → ((∀ i, k ≤ i → i < 9 → 0 ≤ crn (Tm (aj 23) p) i (bx (ai 25) b)) → L_X11_corners_20 m (hp x iv ai aj ar pp f0) (x + 19) (nI p) (nI b) (nI k) = (if iv 19 20 = 40 then some (-4, hp x iv ai aj ar pp f0) else (F_X11_newProof (hp x iv ai aj ar pp f0) (x + 19) 1 (nI p) (nI b)).bind fun q5 => L_X11_corners_70 xfuel q5.2 (x + 19) (nI p) (nI b) q5.1 0)) ∧ ((¬ ∀ i, k ≤ i → i < 9 → 0 ≤ crn (Tm (aj 23) p) i (bx (ai 25) b)) → L_X11_corners_20 m (hp x iv ai aj ar pp f0) (x + 19) (nI p) (nI b) (nI k) = some (-9, hp x iv ai aj ar pp f0)) := by
  intro w
  induction w with
  | zero =>
    intro k m hk hm
    obtain ⟨m, rfl⟩ : ∃ y, m = y + 1 := ⟨m - 1, by omega⟩
    have : k = 9 := by omega
    subst this
    refine ⟨fun _ => ?_, fun h => absurd (fun i a b => absurd b (by omega)) h⟩
    show F_X11_corners_20 _ _ _ _ _ _ = _
    unfold F_X11_corners_20
    rw [if_pos (by decide), ri_19_20, Option.bind_some, if_pos rk_19]
  | succ w ih =>
    intro k m hk hm
    obtain ⟨m, rfl⟩ : ∃ y, m = y + 1 := ⟨m - 1, by omega⟩
    have e : L_X11_corners_20 (m + 1) (hp x iv ai aj ar pp f0) (x + 19) (nI p) (nI b) (nI k) = if 0 ≤ crn (Tm (aj 23) p) k (bx (ai 25) b) then L_X11_corners_20 m (hp x iv ai aj ar pp f0) (x + 19) (nI p) (nI b) (nI (k + 1)) else some (-9, hp x iv ai aj ar pp f0) := by
      show F_X11_corners_20 _ _ _ _ _ _ = _
      unfold F_X11_corners_20
      rw [if_neg (by rw [cle_9 (by omega)]; omega), if_pos rk_19, m_boxCorner hp1 hb (by omega), Option.bind_some, add_1]
    rw [e]
    obtain ⟨i1, i2⟩ := ih (k + 1) m (by omega) (by omega)
    by_cases h0 : 0 ≤ crn (Tm (aj 23) p) k (bx (ai 25) b)
    · rw [if_pos h0]
      refine ⟨fun h => i1 (fun i a b => h i (by omega) b), fun h => i2 (fun q => h (fun i a b => ?_))⟩
      by_cases ei : i = k
      · rw [ei]; exact h0
      · exact q i (by omega) b
    · rw [if_neg h0]
      exact ⟨fun h => absurd (h k (Nat.le_refl _) (by omega)) h0, fun _ => rfl⟩
/-! the class's sides of a box, in a new row -/
theorem s_sidesOf {y l : Nat} {f1 : xHp} (hy : x + 41 ≤ y) (hl : l < 30) : F_X10_sidesOf y (hp x iv ai aj ar pp f1) x (nI l) = some (some y, y + 1, hp x iv ai aj ar pp (va_up f1 y (some (.inl (4, fun j => if j < 4 then ai 3 (4 * l + j) else 0))))) := by
  have e1 : ∀ f2 : xHp, hLen (hp x iv ai aj ar pp f2) (x + 3) = some 120 := fun f2 => rl_3
  have cpy : hIcp (hp x iv ai aj ar pp (va_up f1 y (some (.inl (4, fun _ => 0))))) (x + 3) (nI (4 * l)) y 0 4 = some (hp x iv ai aj ar pp (va_up f1 y (some (.inl (4, fun j => if j < 4 then ai 3 (4 * l + j) else 0))))) := by
    unfold hIcp
    rw [hp_in 3 (by decide), hp_out hy, up_at]
    show (if nI (4 * l) < 0 ∨ (0 : Int32) < 0 ∨ (4 : Int32) < 0 ∨ 120 < (nI (4 * l)).toNatClampNeg + (4 : Int32).toNatClampNeg ∨ 4 < (0 : Int32).toNatClampNeg + (4 : Int32).toNatClampNeg then none else some (va_up (hp x iv ai aj ar pp (va_up f1 y (some (.inl (4, fun _ => 0))))) y (some (.inl (4, va_cpy (ai 3) (fun _ => 0) (nI (4 * l)).toNatClampNeg (0 : Int32).toNatClampNeg (4 : Int32).toNatClampNeg))))) = _
    rw [cl_nI (by omega), show (4 : Int32).toNatClampNeg = 4 from rfl, show (0 : Int32).toNatClampNeg = 0 from rfl, if_neg, hp_dyn hy, up_up]
    · refine congrArg some (congrArg (fun g : Nat → Int32 => hp x iv ai aj ar pp (va_up f1 y (some (.inl (4, g))))) ?_)
      funext j
      by_cases hj : j < 4
      · rw [if_pos hj, cpy_in (by omega) (by omega), Nat.sub_zero]
      · rw [if_neg hj, cpy_out (by omega)]
    · rintro (h | h | h | h | h)
      · rw [neg_nI (by omega)] at h; exact h
      · exact absurd h (by decide)
      · exact absurd h (by decide)
      · omega
      · omega
  have e10 : F_J7_copyOfRangeInt_feecc y (hp x iv ai aj ar pp f1) (x + 3) (nI (4 * l)) (nI (4 * l) + 4) = some (some y, y + 1, hp x iv ai aj ar pp (va_up f1 y (some (.inl (4, fun j => if j < 4 then ai 3 (4 * l + j) else 0))))) := by
    unfold F_J7_copyOfRangeInt_feecc F_J7_checkLength_df160 F_J9_min_7cf53
    rw [add_4, if_pos (show nI (4 * l) ≤ nI (4 * l + 4) by rw [leq_nI (by omega) (by omega)]; omega), Option.bind_some, pk_sub (by omega), show 4 * l + 4 - 4 * l = 4 by omega, hNw_nI (by decide) (by decide), Option.bind_some, hp_dyn hy, Option.bind_some, e1, Option.bind_some, show (120 : Int32) = nI 120 from rfl, pk_sub (by omega)]
    by_cases h : 4 < 120 - 4 * l
    · rw [if_pos (show nI 4 < nI (120 - 4 * l) by rw [lt_nI (by omega) (by omega)]; exact h), Option.bind_some]
      refine (congrArg (fun o => Option.bind o fun f6 => some ((some y), (y + 1), f6)) cpy).trans ?_
      rfl
    · rw [if_neg (show ¬ nI 4 < nI (120 - 4 * l) by rw [lt_nI (by omega) (by omega)]; exact h), Option.bind_some, show 120 - 4 * l = 4 by omega]
      refine (congrArg (fun o => Option.bind o fun f6 => some ((some y), (y + 1), f6)) cpy).trans ?_
      rfl
  have e20 : F_J7_copyOfRange_feecc y (hp x iv ai aj ar pp f1) (x + 3) (nI (4 * l)) (nI (4 * l) + 4) = some (some y, y + 1, hp x iv ai aj ar pp (va_up f1 y (some (.inl (4, fun j => if j < 4 then ai 3 (4 * l + j) else 0))))) := by
    unfold F_J7_copyOfRange_feecc F_J7_copyOfRange_feecc_10
    rw [e10, Option.bind_some, Option.bind_some, e1, Option.bind_some]
    by_cases h0 : nI (4 * l) = 0
    · rw [if_pos h0, if_neg (show ¬ nI (4 * l) + 4 = 120 by rw [h0]; decide)]
    · rw [if_neg h0]
  unfold F_X10_sidesOf
  rw [rn_0_2, Option.bind_some, mul_4, e20, Option.bind_some, Option.bind_some]
end NEWPROOF

/-! parts, cover, open, partly, where, least -/
theorem w_ixn {i : Int32} {n : Nat} (hn : n ≤ 10000) : ((0 : Int64) ≤ i.toInt64 ∧ i.toInt64 ≤ (nI n).toInt64 - 1) = (0 ≤ i.toInt ∧ i.toInt < n) := by
  have e : ((nI n).toInt64 - 1).toInt = (n : Int) - 1 := by
    rcases Nat.eq_zero_or_pos n with q | q
    · subst q; rfl
    · rw [nI_l (show n < 2 ^ 31 by omega), show (1 : Int64) = lN 1 from rfl, lN_sub q, lN_toInt (by omega)]
      omega
  rw [Int64.le_iff_toInt_le, Int64.le_iff_toInt_le, Int32.toInt_toInt64, e]
  apply propext
  constructor
  · rintro ⟨a, b⟩
    exact ⟨a, by omega⟩
  · rintro ⟨a, b⟩
    exact ⟨a, by omega⟩
section PARTOPS
variable {x z : Nat} {iv ai : Nat → Nat → Int32} {aj : Nat → Nat → Int64} {ar : Nat → Nat → Option Nat} {pp : Nat → Option Nat} {f0 : xHp}
theorem bx_rg {n b : Nat} {bs : Nat → Int32} (hb : b < n) (h : ∀ b, b < n → rg (bs (4 * b)) (bs (4 * b + 1)) ∧ rg (bs (4 * b + 2)) (bs (4 * b + 3))) : rgL [bx bs b] := by
  intro q hq
  rw [List.mem_singleton] at hq
  rw [hq]
  exact h b hb
theorem INV.parts (hI0 : INV x z iv ai aj ar pp f0) : ∃ l : List Pt, l.length ≤ 40 ∧ iv 5 6 = nI l.length ∧ iv 19 12 = nI l.length ∧ rep (ai 6) (ai 7) l ∧ rep (ai 26) (ai 27) l ∧ (iv 5 7 = if anyS l 3 = true then 1 else 0) ∧ (anyS l 3 = true → iv 5 8 = iv 19 15 ∧ iv 5 9 = iv 19 16) ∧ ((l = [] ∧ pp 5 = none) ∨ ∃ (p b m a : Nat) (g : Nat → Int64), nI p < iv 0 6 ∧ p < 30 ∧ nI b < iv 0 7 ∧ b < 30 ∧ iv 5 4 = nI p ∧ iv 19 10 = nI p ∧ iv 5 5 = nI b ∧ iv 19 11 = nI b ∧ pp 5 = ar 2 p ∧ pp 5 = some a ∧ pcell x f0 a g ∧ (∀ t, t < 9 → g t = Tm (aj 23) p t) ∧ itL (Tm (aj 23) p) m [bx (ai 25) b] = some l ∧ rgL l ∧ 1 ≤ l.length) := by
  obtain ⟨hz, own, hT, hS, ⟨np, p1, p2, p3, p4⟩, ⟨nb, b1, b2, b3, b4, b5⟩, ⟨l, r1, r2, r3, r4, r5, r6, r7, r8⟩, hQ⟩ := id hI0
  refine ⟨l, r1, r2, r3, r4, r5, r6, r7, ?_⟩
  rcases r8 with r8 | ⟨p, b, m, g1, g2, g3, g4, g5, g6, g7, g8, g9, g10, g11⟩
  · exact Or.inl r8
  · have hpn : p < np := by rw [p2] at g1; exact (nI_ltI (by omega) (by omega)).mp g1
    have hbn : b < nb := by rw [b2] at g3; exact (nI_ltI (by omega) (by omega)).mp g3
    obtain ⟨a, g, q1, q2, q3, q4⟩ := (p4 p hpn).cell
    obtain ⟨k1, k2, k3⟩ := itL_keeps m _ _ g11 (show 1 ≤ 40 by decide) (bx_rg hbn b5)
    have hs := shut_le l
    refine Or.inr ⟨p, b, m, a, g, g1, g2, g3, g4, g5, g6, g7, g8, g9, g9.trans q1, q2, q3, g11, k2, ?_⟩
    have : [bx (ai 25) b].length = 1 := rfl
    omega
/-! parts begin -/
def cpB (S B : Nat → Int32) (b s : Nat) : Nat → Int32 := fun j => if s ≤ j ∧ j < 4 then B (4 * b + j) else S j
theorem m_bp_loop {b : Nat} (hb : b < 30) : ∀ (w s m : Nat) (ai : Nat → Nat → Int32), s + w = 4 → w < m → L_X11_beginParts_14 m (hp x iv ai aj ar pp f0) (x + 19) (nI b) (nI s) = some (hp x iv (va_up ai 26 (cpB (ai 26) (ai 25) b s)) aj ar pp f0) := by
  intro w
  induction w with
  | zero =>
    intro s m ai hs hm
    obtain ⟨m, rfl⟩ : ∃ y, m = y + 1 := ⟨m - 1, by omega⟩
    have : s = 4 := by omega
    subst this
    show F_X11_beginParts_14 _ _ _ _ _ = _
    unfold F_X11_beginParts_14
    have e : cpB (ai 26) (ai 25) b 4 = ai 26 := by
      funext j
      unfold cpB
      rw [if_neg (by omega)]
    rw [if_pos (by decide), e, up_self]
  | succ w ih =>
    intro s m ai hs hm
    obtain ⟨m, rfl⟩ : ∃ y, m = y + 1 := ⟨m - 1, by omega⟩
    show F_X11_beginParts_14 _ _ _ _ _ = _
    unfold F_X11_beginParts_14
    have r25 : hIld (hp x iv ai aj ar pp f0) (x + 25) (nI (4 * b + s)) = some (ai 25 (4 * b + s)) := by rw [ra_25]; simp (disch := omega) only [mul_3, mul_4, mul_5, mul_9, mul_30, mul_160, add_1, add_2, add_3, add_4, add_5, add_6, addl_1, addl_2, addl_3, addl_4, cle_0, cel_0, clt_0, ctl_0, ceq_0, cle_1, cel_1, clt_1, ctl_1, ceq_1, cle_2, cel_2, clt_2, ctl_2, ceq_2, cle_3, cel_3, clt_3, ctl_3, ceq_3, cle_4, cel_4, clt_4, ctl_4, ceq_4, cle_5, cel_5, clt_5, ctl_5, ceq_5, cle_6, cel_6, clt_6, ctl_6, ceq_6, cle_7, cel_7, clt_7, ctl_7, ceq_7, cle_8, cel_8, clt_8, ctl_8, ceq_8, cle_9, cel_9, clt_9, ctl_9, ceq_9, cle_12, cel_12, clt_12, ctl_12, ceq_12, cle_20, cel_20, clt_20, ctl_20, ceq_20, cle_24, cel_24, clt_24, ctl_24, ceq_24, cle_25, cel_25, clt_25, ctl_25, ceq_25, cle_30, cel_30, clt_30, ctl_30, ceq_30, cle_36, cel_36, clt_36, ctl_36, ceq_36, cle_40, cel_40, clt_40, ctl_40, ceq_40, cle_41, cel_41, clt_41, ctl_41, ceq_41, cle_120, cel_120, clt_120, ctl_120, ceq_120, cle_160, cel_160, clt_160, ctl_160, ceq_160, cle_164, cel_164, clt_164, ctl_164, ceq_164, cle_500, cel_500, clt_500, ctl_500, ceq_500, cle_1000, cel_1000, clt_1000, ctl_1000, ceq_1000, ixr, ixq, ixf, neg_nI, leq_nI, lt_nI, eq_nI, cl_nI, nI_add, pk_mul]
    rw [if_neg (by rw [cle_4 (by omega)]; omega), rn_19_13, Option.bind_some, rn_19_9, Option.bind_some, mul_4, nI_add, r25, Option.bind_some, w26 (by omega), Option.bind_some, add_1, ih (s + 1) m _ (by omega) (by omega), u2_cc, up_u2, u2_ne _ _ _ (show 25 ≠ 26 by decide)]
    have e : cpB (va_up (ai 26) s (ai 25 (4 * b + s))) (ai 25) b (s + 1) = cpB (ai 26) (ai 25) b s := by
      funext j
      unfold cpB
      by_cases h1 : s + 1 ≤ j ∧ j < 4
      · rw [if_pos h1, if_pos (by omega)]
      · rw [if_neg h1]
        by_cases h2 : j = s
        · rw [h2, up_at, if_pos (by omega)]
        · rw [up_ne _ _ h2, if_neg (by omega)]
    rw [e]
theorem m_begin {b : Nat} (hb : b < 30) : F_X11_beginParts (hp x iv ai aj ar pp f0) (x + 19) (nI b) = some (hp x (u2 iv 19 12 1) (va_up (u2 ai 27 0 0) 26 (cpB (ai 26) (ai 25) b 0)) aj ar pp f0) := by
  unfold F_X11_beginParts
  rw [wi_19_12, Option.bind_some, rn_19_14, Option.bind_some, show (0 : Int32) = nI 0 from rfl, w27 (by decide), Option.bind_some, m_bp_loop hb 4 0 xfuel _ (by omega) (by decide), u2_ne _ _ _ (show 26 ≠ 27 by decide), u2_ne _ _ _ (show 25 ≠ 27 by decide)]
theorem rep_one {S st : Nat → Int32} {q : Pt} (h : qd S st 0 = q) : rep S st [q] := by
  intro i hi
  have : i = 0 := by
    have : [q].length = 1 := rfl
    omega
  subst this
  rw [← h]
  rfl
theorem INV.newParts (hI0 : INV x z iv ai aj ar pp f0) {iv' ai' : Nat → Nat → Int32} {aj' : Nat → Nat → Int64} {pp' : Nat → Option Nat} (h0 : iv' 0 = iv 0) (h9 : iv' 9 = iv 9) (h19 : ∀ s, s ≠ 10 → s ≠ 11 → s ≠ 12 → s ≠ 15 → s ≠ 16 → iv' 19 s = iv 19 s) (ha : ∀ k, k ≠ 6 → k ≠ 7 → k ≠ 26 → k ≠ 27 → k ≠ 16 → k ≠ 17 → ai' k = ai k) (hj : ∀ k, k ≠ 8 → k ≠ 18 → aj' k = aj k) (hr : iR (iv' 5) (iv' 19 10) (iv' 19 11) (iv' 19 12) (iv' 19 15) (iv' 19 16) (pp' 5) (ai' 6) (ai' 7) (ai' 26) (ai' 27) (iv 0 6) (iv 0 7) (ar 2) (aj 23) (ai 25)) : INV x z iv' ai' aj' ar pp' f0 := by
  obtain ⟨hz, own, hT, hS, hP, hB, hR, hQ⟩ := id hI0
  refine ⟨hz, own, ?_, ?_, ?_, ?_, ?_, ?_⟩
  · rw [h0, h9, h19 0 (by decide) (by decide) (by decide) (by decide) (by decide), h19 1 (by decide) (by decide) (by decide) (by decide) (by decide)]
    exact hT
  · rw [ha 20 (by decide) (by decide) (by decide) (by decide) (by decide) (by decide), ha 21 (by decide) (by decide) (by decide) (by decide) (by decide) (by decide), hj 22 (by decide) (by decide)]
    exact hS
  · rw [h0, h19 5 (by decide) (by decide) (by decide) (by decide) (by decide), hj 23 (by decide) (by decide)]
    exact hP
  · rw [h0, h19 8 (by decide) (by decide) (by decide) (by decide) (by decide), ha 3 (by decide) (by decide) (by decide) (by decide) (by decide) (by decide), ha 25 (by decide) (by decide) (by decide) (by decide) (by decide) (by decide)]
    exact hB
  · rw [h0, hj 23 (by decide) (by decide), ha 25 (by decide) (by decide) (by decide) (by decide) (by decide) (by decide)]
    exact hr
  · rw [h0, h19 20 (by decide) (by decide) (by decide) (by decide) (by decide), hj 23 (by decide) (by decide), hj 34 (by decide) (by decide), ha 25 (by decide) (by decide) (by decide) (by decide) (by decide) (by decide), ha 30 (by decide) (by decide) (by decide) (by decide) (by decide) (by decide), ha 31 (by decide) (by decide) (by decide) (by decide) (by decide) (by decide), ha 32 (by decide) (by decide) (by decide) (by decide) (by decide) (by decide), ha 33 (by decide) (by decide) (by decide) (by decide) (by decide) (by decide)]
    exact hQ
theorem op_parts (hI0 : INV x z iv ai aj ar pp f0) (p b : Int32) : Ow x z (F_X10_parts (hp x iv ai aj ar pp f0) x p b) (fun h => F_X11_parts h (x + 19) p b) := by
  obtain ⟨hz, own, hT, hS, ⟨n, p1, p2, p3, p4⟩, ⟨nb, b1, b2, b3, b4, b5⟩, hR, hQ⟩ := id hI0
  by_cases h1 : 0 ≤ p.toInt ∧ p.toInt < n
  case neg =>
    refine Ow_no (r := -1) hI0 ?_ ?_
    · unfold F_X10_parts
      simp only [rk_0, rn_0_0, rn_0_1, rn_0_2, rn_0_3, rn_0_4, rn_0_5, ri_0_6, ri_0_7, ri_0_8, ri_0_9, rk_5, rn_5_0, rn_5_1, rn_5_2, ro_5_3, ri_5_4, ri_5_5, ri_5_6, ri_5_7, ri_5_8, ri_5_9, ri_5_10, rk_9, rn_9_0, rn_9_1, rn_9_2, rn_9_3, ri_9_4, rk_11, rn_11_0, rk_13, rn_13_0, rk_15, rn_15_0, rn_15_1, rn_15_2, ro_15_3, ri_15_4, ri_15_5, ri_15_6, ri_15_7, ri_15_8, ri_15_9, ri_15_10, rk_19, ri_19_0, ri_19_1, rn_19_2, rn_19_3, rn_19_4, ri_19_5, rn_19_6, rn_19_7, ri_19_8, rn_19_9, ri_19_10, ri_19_11, ri_19_12, rn_19_13, rn_19_14, ri_19_15, ri_19_16, rn_19_17, ri_19_18, rn_19_19, ri_19_20, rn_19_21, rn_19_22, rn_19_23, rn_19_24, rn_19_25, rn_19_26, rn_19_27, rn_19_28, rn_19_29, rn_19_30, rn_19_31, ra_3, rl_3, ra_6, rl_6, ra_7, rl_7, ra_8, rl_8, ra_10, rl_10, ra_12, rl_12, ra_14, rl_14, ra_16, rl_16, ra_17, rl_17, ra_18, rl_18, ra_20, rl_20, ra_21, rl_21, ra_22, rl_22, ra_23, rl_23, ra_24, rl_24, ra_25, rl_25, ra_26, rl_26, ra_27, rl_27, ra_28, rl_28, ra_29, rl_29, ra_30, rl_30, ra_31, rl_31, ra_32, rl_32, ra_33, rl_33, ra_34, rl_34, ra_35, rl_35, ra_36, rl_36, ra_37, rl_37, ra_38, rl_38, ra_39, rl_39, ra_40, rl_40, ra_1, ra_2, ra_4, wi_0_6, wi_0_7, wi_0_8, wi_0_9, wo_5_3, wi_5_4, wi_5_5, wi_5_6, wi_5_7, wi_5_8, wi_5_9, wi_5_10, wi_9_4, wo_15_3, wi_15_4, wi_15_5, wi_15_6, wi_15_7, wi_15_8, wi_15_9, wi_15_10, wi_19_0, wi_19_1, wi_19_5, wi_19_8, wi_19_10, wi_19_11, wi_19_12, wi_19_15, wi_19_16, wi_19_18, wi_19_20, wa_3, wa_6, wa_7, wa_8, wa_10, wa_12, wa_14, wa_16, wa_17, wa_18, wa_20, wa_21, wa_22, wa_23, wa_24, wa_25, wa_26, wa_27, wa_28, wa_29, wa_30, wa_31, wa_32, wa_33, wa_34, wa_35, wa_36, wa_37, wa_38, wa_39, wa_40, wz_1, wz_2, wz_4, wc_3_3, wc_6_6, wc_7_7, wc_16_16, wc_17_17, wc_3_6, Option.bind_some, mul_3, mul_4, mul_5, mul_9, mul_30, mul_160, add_1, add_2, add_3, add_4, add_5, add_6, addl_1, addl_2, addl_3, addl_4, cle_0, cel_0, clt_0, ctl_0, ceq_0, cle_1, cel_1, clt_1, ctl_1, ceq_1, cle_2, cel_2, clt_2, ctl_2, ceq_2, cle_3, cel_3, clt_3, ctl_3, ceq_3, cle_4, cel_4, clt_4, ctl_4, ceq_4, cle_5, cel_5, clt_5, ctl_5, ceq_5, cle_6, cel_6, clt_6, ctl_6, ceq_6, cle_7, cel_7, clt_7, ctl_7, ceq_7, cle_8, cel_8, clt_8, ctl_8, ceq_8, cle_9, cel_9, clt_9, ctl_9, ceq_9, cle_12, cel_12, clt_12, ctl_12, ceq_12, cle_20, cel_20, clt_20, ctl_20, ceq_20, cle_24, cel_24, clt_24, ctl_24, ceq_24, cle_25, cel_25, clt_25, ctl_25, ceq_25, cle_30, cel_30, clt_30, ctl_30, ceq_30, cle_36, cel_36, clt_36, ctl_36, ceq_36, cle_40, cel_40, clt_40, ctl_40, ceq_40, cle_41, cel_41, clt_41, ctl_41, ceq_41, cle_120, cel_120, clt_120, ctl_120, ceq_120, cle_160, cel_160, clt_160, ctl_160, ceq_160, cle_164, cel_164, clt_164, ctl_164, ceq_164, cle_500, cel_500, clt_500, ctl_500, ceq_500, cle_1000, cel_1000, clt_1000, ctl_1000, ceq_1000, ixr, ixq, ixf, neg_nI, leq_nI, lt_nI, eq_nI, cl_nI, nI_add, pk_mul, Option.bind_some, s_within, if10, w32 (lo := 0) (hi := 3) (l := 0) (h := 3) rfl rfl, w32 (lo := 0) (hi := 2) (l := 0) (h := 2) rfl rfl, w32 (lo := 0) (hi := 8) (l := 0) (h := 8) rfl rfl, w32 (lo := 0) (hi := 1) (l := 0) (h := 1) rfl rfl, w32 (lo := 0) (hi := 500) (l := 0) (h := 500) rfl rfl, w32 (lo := -1000) (hi := 1000) (l := -1000) (h := 1000) rfl rfl, w32 (lo := 0) (hi := 4) (l := 0) (h := 4) rfl rfl, w32 (lo := -2048) (hi := 2048) (l := -2048) (h := 2048) rfl rfl, s_isSheet, s_isLane, s_isTerm, s_isWeight, if_true, if_false, not_true_eq_false, not_false_eq_true, ↓reduceIte, s_faulted, s_lostBy, m_fails, m_lost, eq_self, and_true, true_and, and_false, false_and, one0, or_self, or_false, false_or, or_true, true_or, ixg, Nat.not_lt_zero, Nat.zero_le, ↓xnul_n, ↓xnul_s, s_polyNo p1 p2 h1]
    · show F_X11_parts _ _ _ _ = _
      unfold F_X11_parts
      simp only [rk_0, rn_0_0, rn_0_1, rn_0_2, rn_0_3, rn_0_4, rn_0_5, ri_0_6, ri_0_7, ri_0_8, ri_0_9, rk_5, rn_5_0, rn_5_1, rn_5_2, ro_5_3, ri_5_4, ri_5_5, ri_5_6, ri_5_7, ri_5_8, ri_5_9, ri_5_10, rk_9, rn_9_0, rn_9_1, rn_9_2, rn_9_3, ri_9_4, rk_11, rn_11_0, rk_13, rn_13_0, rk_15, rn_15_0, rn_15_1, rn_15_2, ro_15_3, ri_15_4, ri_15_5, ri_15_6, ri_15_7, ri_15_8, ri_15_9, ri_15_10, rk_19, ri_19_0, ri_19_1, rn_19_2, rn_19_3, rn_19_4, ri_19_5, rn_19_6, rn_19_7, ri_19_8, rn_19_9, ri_19_10, ri_19_11, ri_19_12, rn_19_13, rn_19_14, ri_19_15, ri_19_16, rn_19_17, ri_19_18, rn_19_19, ri_19_20, rn_19_21, rn_19_22, rn_19_23, rn_19_24, rn_19_25, rn_19_26, rn_19_27, rn_19_28, rn_19_29, rn_19_30, rn_19_31, ra_3, rl_3, ra_6, rl_6, ra_7, rl_7, ra_8, rl_8, ra_10, rl_10, ra_12, rl_12, ra_14, rl_14, ra_16, rl_16, ra_17, rl_17, ra_18, rl_18, ra_20, rl_20, ra_21, rl_21, ra_22, rl_22, ra_23, rl_23, ra_24, rl_24, ra_25, rl_25, ra_26, rl_26, ra_27, rl_27, ra_28, rl_28, ra_29, rl_29, ra_30, rl_30, ra_31, rl_31, ra_32, rl_32, ra_33, rl_33, ra_34, rl_34, ra_35, rl_35, ra_36, rl_36, ra_37, rl_37, ra_38, rl_38, ra_39, rl_39, ra_40, rl_40, ra_1, ra_2, ra_4, wi_0_6, wi_0_7, wi_0_8, wi_0_9, wo_5_3, wi_5_4, wi_5_5, wi_5_6, wi_5_7, wi_5_8, wi_5_9, wi_5_10, wi_9_4, wo_15_3, wi_15_4, wi_15_5, wi_15_6, wi_15_7, wi_15_8, wi_15_9, wi_15_10, wi_19_0, wi_19_1, wi_19_5, wi_19_8, wi_19_10, wi_19_11, wi_19_12, wi_19_15, wi_19_16, wi_19_18, wi_19_20, wa_3, wa_6, wa_7, wa_8, wa_10, wa_12, wa_14, wa_16, wa_17, wa_18, wa_20, wa_21, wa_22, wa_23, wa_24, wa_25, wa_26, wa_27, wa_28, wa_29, wa_30, wa_31, wa_32, wa_33, wa_34, wa_35, wa_36, wa_37, wa_38, wa_39, wa_40, wz_1, wz_2, wz_4, wc_3_3, wc_6_6, wc_7_7, wc_16_16, wc_17_17, wc_3_6, Option.bind_some, mul_3, mul_4, mul_5, mul_9, mul_30, mul_160, add_1, add_2, add_3, add_4, add_5, add_6, addl_1, addl_2, addl_3, addl_4, cle_0, cel_0, clt_0, ctl_0, ceq_0, cle_1, cel_1, clt_1, ctl_1, ceq_1, cle_2, cel_2, clt_2, ctl_2, ceq_2, cle_3, cel_3, clt_3, ctl_3, ceq_3, cle_4, cel_4, clt_4, ctl_4, ceq_4, cle_5, cel_5, clt_5, ctl_5, ceq_5, cle_6, cel_6, clt_6, ctl_6, ceq_6, cle_7, cel_7, clt_7, ctl_7, ceq_7, cle_8, cel_8, clt_8, ctl_8, ceq_8, cle_9, cel_9, clt_9, ctl_9, ceq_9, cle_12, cel_12, clt_12, ctl_12, ceq_12, cle_20, cel_20, clt_20, ctl_20, ceq_20, cle_24, cel_24, clt_24, ctl_24, ceq_24, cle_25, cel_25, clt_25, ctl_25, ceq_25, cle_30, cel_30, clt_30, ctl_30, ceq_30, cle_36, cel_36, clt_36, ctl_36, ceq_36, cle_40, cel_40, clt_40, ctl_40, ceq_40, cle_41, cel_41, clt_41, ctl_41, ceq_41, cle_120, cel_120, clt_120, ctl_120, ceq_120, cle_160, cel_160, clt_160, ctl_160, ceq_160, cle_164, cel_164, clt_164, ctl_164, ceq_164, cle_500, cel_500, clt_500, ctl_500, ceq_500, cle_1000, cel_1000, clt_1000, ctl_1000, ceq_1000, ixr, ixq, ixf, neg_nI, leq_nI, lt_nI, eq_nI, cl_nI, nI_add, pk_mul, Option.bind_some, s_within, if10, w32 (lo := 0) (hi := 3) (l := 0) (h := 3) rfl rfl, w32 (lo := 0) (hi := 2) (l := 0) (h := 2) rfl rfl, w32 (lo := 0) (hi := 8) (l := 0) (h := 8) rfl rfl, w32 (lo := 0) (hi := 1) (l := 0) (h := 1) rfl rfl, w32 (lo := 0) (hi := 500) (l := 0) (h := 500) rfl rfl, w32 (lo := -1000) (hi := 1000) (l := -1000) (h := 1000) rfl rfl, w32 (lo := 0) (hi := 4) (l := 0) (h := 4) rfl rfl, w32 (lo := -2048) (hi := 2048) (l := -2048) (h := 2048) rfl rfl, s_isSheet, s_isLane, s_isTerm, s_isWeight, if_true, if_false, not_true_eq_false, not_false_eq_true, ↓reduceIte, s_faulted, s_lostBy, m_fails, m_lost, eq_self, and_true, true_and, and_false, false_and, one0, or_self, or_false, false_or, or_true, true_or, ixg, Nat.not_lt_zero, Nat.zero_le, ↓xnul_n, ↓xnul_s, m_isPoly p1 p3, h1]
  obtain ⟨j, hj, rfl⟩ := inN (by omega) h1
  obtain ⟨a, g, q1, q2, q3, q4⟩ := (p4 j hj).cell
  by_cases h2 : 0 ≤ b.toInt ∧ b.toInt < nb
  case neg =>
    refine Ow_no (r := -1) hI0 ?_ ?_
    · unfold F_X10_parts
      simp only [rk_0, rn_0_0, rn_0_1, rn_0_2, rn_0_3, rn_0_4, rn_0_5, ri_0_6, ri_0_7, ri_0_8, ri_0_9, rk_5, rn_5_0, rn_5_1, rn_5_2, ro_5_3, ri_5_4, ri_5_5, ri_5_6, ri_5_7, ri_5_8, ri_5_9, ri_5_10, rk_9, rn_9_0, rn_9_1, rn_9_2, rn_9_3, ri_9_4, rk_11, rn_11_0, rk_13, rn_13_0, rk_15, rn_15_0, rn_15_1, rn_15_2, ro_15_3, ri_15_4, ri_15_5, ri_15_6, ri_15_7, ri_15_8, ri_15_9, ri_15_10, rk_19, ri_19_0, ri_19_1, rn_19_2, rn_19_3, rn_19_4, ri_19_5, rn_19_6, rn_19_7, ri_19_8, rn_19_9, ri_19_10, ri_19_11, ri_19_12, rn_19_13, rn_19_14, ri_19_15, ri_19_16, rn_19_17, ri_19_18, rn_19_19, ri_19_20, rn_19_21, rn_19_22, rn_19_23, rn_19_24, rn_19_25, rn_19_26, rn_19_27, rn_19_28, rn_19_29, rn_19_30, rn_19_31, ra_3, rl_3, ra_6, rl_6, ra_7, rl_7, ra_8, rl_8, ra_10, rl_10, ra_12, rl_12, ra_14, rl_14, ra_16, rl_16, ra_17, rl_17, ra_18, rl_18, ra_20, rl_20, ra_21, rl_21, ra_22, rl_22, ra_23, rl_23, ra_24, rl_24, ra_25, rl_25, ra_26, rl_26, ra_27, rl_27, ra_28, rl_28, ra_29, rl_29, ra_30, rl_30, ra_31, rl_31, ra_32, rl_32, ra_33, rl_33, ra_34, rl_34, ra_35, rl_35, ra_36, rl_36, ra_37, rl_37, ra_38, rl_38, ra_39, rl_39, ra_40, rl_40, ra_1, ra_2, ra_4, wi_0_6, wi_0_7, wi_0_8, wi_0_9, wo_5_3, wi_5_4, wi_5_5, wi_5_6, wi_5_7, wi_5_8, wi_5_9, wi_5_10, wi_9_4, wo_15_3, wi_15_4, wi_15_5, wi_15_6, wi_15_7, wi_15_8, wi_15_9, wi_15_10, wi_19_0, wi_19_1, wi_19_5, wi_19_8, wi_19_10, wi_19_11, wi_19_12, wi_19_15, wi_19_16, wi_19_18, wi_19_20, wa_3, wa_6, wa_7, wa_8, wa_10, wa_12, wa_14, wa_16, wa_17, wa_18, wa_20, wa_21, wa_22, wa_23, wa_24, wa_25, wa_26, wa_27, wa_28, wa_29, wa_30, wa_31, wa_32, wa_33, wa_34, wa_35, wa_36, wa_37, wa_38, wa_39, wa_40, wz_1, wz_2, wz_4, wc_3_3, wc_6_6, wc_7_7, wc_16_16, wc_17_17, wc_3_6, Option.bind_some, mul_3, mul_4, mul_5, mul_9, mul_30, mul_160, add_1, add_2, add_3, add_4, add_5, add_6, addl_1, addl_2, addl_3, addl_4, cle_0, cel_0, clt_0, ctl_0, ceq_0, cle_1, cel_1, clt_1, ctl_1, ceq_1, cle_2, cel_2, clt_2, ctl_2, ceq_2, cle_3, cel_3, clt_3, ctl_3, ceq_3, cle_4, cel_4, clt_4, ctl_4, ceq_4, cle_5, cel_5, clt_5, ctl_5, ceq_5, cle_6, cel_6, clt_6, ctl_6, ceq_6, cle_7, cel_7, clt_7, ctl_7, ceq_7, cle_8, cel_8, clt_8, ctl_8, ceq_8, cle_9, cel_9, clt_9, ctl_9, ceq_9, cle_12, cel_12, clt_12, ctl_12, ceq_12, cle_20, cel_20, clt_20, ctl_20, ceq_20, cle_24, cel_24, clt_24, ctl_24, ceq_24, cle_25, cel_25, clt_25, ctl_25, ceq_25, cle_30, cel_30, clt_30, ctl_30, ceq_30, cle_36, cel_36, clt_36, ctl_36, ceq_36, cle_40, cel_40, clt_40, ctl_40, ceq_40, cle_41, cel_41, clt_41, ctl_41, ceq_41, cle_120, cel_120, clt_120, ctl_120, ceq_120, cle_160, cel_160, clt_160, ctl_160, ceq_160, cle_164, cel_164, clt_164, ctl_164, ceq_164, cle_500, cel_500, clt_500, ctl_500, ceq_500, cle_1000, cel_1000, clt_1000, ctl_1000, ceq_1000, ixr, ixq, ixf, neg_nI, leq_nI, lt_nI, eq_nI, cl_nI, nI_add, pk_mul, Option.bind_some, s_within, if10, w32 (lo := 0) (hi := 3) (l := 0) (h := 3) rfl rfl, w32 (lo := 0) (hi := 2) (l := 0) (h := 2) rfl rfl, w32 (lo := 0) (hi := 8) (l := 0) (h := 8) rfl rfl, w32 (lo := 0) (hi := 1) (l := 0) (h := 1) rfl rfl, w32 (lo := 0) (hi := 500) (l := 0) (h := 500) rfl rfl, w32 (lo := -1000) (hi := 1000) (l := -1000) (h := 1000) rfl rfl, w32 (lo := 0) (hi := 4) (l := 0) (h := 4) rfl rfl, w32 (lo := -2048) (hi := 2048) (l := -2048) (h := 2048) rfl rfl, s_isSheet, s_isLane, s_isTerm, s_isWeight, if_true, if_false, not_true_eq_false, not_false_eq_true, ↓reduceIte, s_faulted, s_lostBy, m_fails, m_lost, eq_self, and_true, true_and, and_false, false_and, one0, or_self, or_false, false_or, or_true, true_or, ixg, Nat.not_lt_zero, Nat.zero_le, ↓xnul_n, ↓xnul_s, s_polyOk p1 p2 hj, q1, s_isBox b1 b2, h2]
    · show F_X11_parts _ _ _ _ = _
      unfold F_X11_parts
      simp only [rk_0, rn_0_0, rn_0_1, rn_0_2, rn_0_3, rn_0_4, rn_0_5, ri_0_6, ri_0_7, ri_0_8, ri_0_9, rk_5, rn_5_0, rn_5_1, rn_5_2, ro_5_3, ri_5_4, ri_5_5, ri_5_6, ri_5_7, ri_5_8, ri_5_9, ri_5_10, rk_9, rn_9_0, rn_9_1, rn_9_2, rn_9_3, ri_9_4, rk_11, rn_11_0, rk_13, rn_13_0, rk_15, rn_15_0, rn_15_1, rn_15_2, ro_15_3, ri_15_4, ri_15_5, ri_15_6, ri_15_7, ri_15_8, ri_15_9, ri_15_10, rk_19, ri_19_0, ri_19_1, rn_19_2, rn_19_3, rn_19_4, ri_19_5, rn_19_6, rn_19_7, ri_19_8, rn_19_9, ri_19_10, ri_19_11, ri_19_12, rn_19_13, rn_19_14, ri_19_15, ri_19_16, rn_19_17, ri_19_18, rn_19_19, ri_19_20, rn_19_21, rn_19_22, rn_19_23, rn_19_24, rn_19_25, rn_19_26, rn_19_27, rn_19_28, rn_19_29, rn_19_30, rn_19_31, ra_3, rl_3, ra_6, rl_6, ra_7, rl_7, ra_8, rl_8, ra_10, rl_10, ra_12, rl_12, ra_14, rl_14, ra_16, rl_16, ra_17, rl_17, ra_18, rl_18, ra_20, rl_20, ra_21, rl_21, ra_22, rl_22, ra_23, rl_23, ra_24, rl_24, ra_25, rl_25, ra_26, rl_26, ra_27, rl_27, ra_28, rl_28, ra_29, rl_29, ra_30, rl_30, ra_31, rl_31, ra_32, rl_32, ra_33, rl_33, ra_34, rl_34, ra_35, rl_35, ra_36, rl_36, ra_37, rl_37, ra_38, rl_38, ra_39, rl_39, ra_40, rl_40, ra_1, ra_2, ra_4, wi_0_6, wi_0_7, wi_0_8, wi_0_9, wo_5_3, wi_5_4, wi_5_5, wi_5_6, wi_5_7, wi_5_8, wi_5_9, wi_5_10, wi_9_4, wo_15_3, wi_15_4, wi_15_5, wi_15_6, wi_15_7, wi_15_8, wi_15_9, wi_15_10, wi_19_0, wi_19_1, wi_19_5, wi_19_8, wi_19_10, wi_19_11, wi_19_12, wi_19_15, wi_19_16, wi_19_18, wi_19_20, wa_3, wa_6, wa_7, wa_8, wa_10, wa_12, wa_14, wa_16, wa_17, wa_18, wa_20, wa_21, wa_22, wa_23, wa_24, wa_25, wa_26, wa_27, wa_28, wa_29, wa_30, wa_31, wa_32, wa_33, wa_34, wa_35, wa_36, wa_37, wa_38, wa_39, wa_40, wz_1, wz_2, wz_4, wc_3_3, wc_6_6, wc_7_7, wc_16_16, wc_17_17, wc_3_6, Option.bind_some, mul_3, mul_4, mul_5, mul_9, mul_30, mul_160, add_1, add_2, add_3, add_4, add_5, add_6, addl_1, addl_2, addl_3, addl_4, cle_0, cel_0, clt_0, ctl_0, ceq_0, cle_1, cel_1, clt_1, ctl_1, ceq_1, cle_2, cel_2, clt_2, ctl_2, ceq_2, cle_3, cel_3, clt_3, ctl_3, ceq_3, cle_4, cel_4, clt_4, ctl_4, ceq_4, cle_5, cel_5, clt_5, ctl_5, ceq_5, cle_6, cel_6, clt_6, ctl_6, ceq_6, cle_7, cel_7, clt_7, ctl_7, ceq_7, cle_8, cel_8, clt_8, ctl_8, ceq_8, cle_9, cel_9, clt_9, ctl_9, ceq_9, cle_12, cel_12, clt_12, ctl_12, ceq_12, cle_20, cel_20, clt_20, ctl_20, ceq_20, cle_24, cel_24, clt_24, ctl_24, ceq_24, cle_25, cel_25, clt_25, ctl_25, ceq_25, cle_30, cel_30, clt_30, ctl_30, ceq_30, cle_36, cel_36, clt_36, ctl_36, ceq_36, cle_40, cel_40, clt_40, ctl_40, ceq_40, cle_41, cel_41, clt_41, ctl_41, ceq_41, cle_120, cel_120, clt_120, ctl_120, ceq_120, cle_160, cel_160, clt_160, ctl_160, ceq_160, cle_164, cel_164, clt_164, ctl_164, ceq_164, cle_500, cel_500, clt_500, ctl_500, ceq_500, cle_1000, cel_1000, clt_1000, ctl_1000, ceq_1000, ixr, ixq, ixf, neg_nI, leq_nI, lt_nI, eq_nI, cl_nI, nI_add, pk_mul, Option.bind_some, s_within, if10, w32 (lo := 0) (hi := 3) (l := 0) (h := 3) rfl rfl, w32 (lo := 0) (hi := 2) (l := 0) (h := 2) rfl rfl, w32 (lo := 0) (hi := 8) (l := 0) (h := 8) rfl rfl, w32 (lo := 0) (hi := 1) (l := 0) (h := 1) rfl rfl, w32 (lo := 0) (hi := 500) (l := 0) (h := 500) rfl rfl, w32 (lo := -1000) (hi := 1000) (l := -1000) (h := 1000) rfl rfl, w32 (lo := 0) (hi := 4) (l := 0) (h := 4) rfl rfl, w32 (lo := -2048) (hi := 2048) (l := -2048) (h := 2048) rfl rfl, s_isSheet, s_isLane, s_isTerm, s_isWeight, if_true, if_false, not_true_eq_false, not_false_eq_true, ↓reduceIte, s_faulted, s_lostBy, m_fails, m_lost, eq_self, and_true, true_and, and_false, false_and, one0, or_self, or_false, false_or, or_true, true_or, ixg, Nat.not_lt_zero, Nat.zero_le, ↓xnul_n, ↓xnul_s, m_isPoly p1 p3, h1, m_isBox b1 b3, h2]
  obtain ⟨l, hl, rfl⟩ := inN (by omega) h2
  have cp : ∀ (iv' : Nat → Nat → Int32) (pp' : Nat → Option Nat), hIcp (hp x iv' ai aj ar pp' f0) (x + 3) (nI (4 * l)) (x + 6) 0 4 = some (hp x iv' (va_up ai 6 (va_cpy (ai 3) (ai 6) (4 * l) 0 4)) aj ar pp' f0) := fun iv' pp' => by
    rw [show (0 : Int32) = nI 0 from rfl, show (4 : Int32) = nI 4 from rfl, wc_3_6]
    simp (disch := omega) only [mul_3, mul_4, mul_5, mul_9, mul_30, mul_160, add_1, add_2, add_3, add_4, add_5, add_6, addl_1, addl_2, addl_3, addl_4, cle_0, cel_0, clt_0, ctl_0, ceq_0, cle_1, cel_1, clt_1, ctl_1, ceq_1, cle_2, cel_2, clt_2, ctl_2, ceq_2, cle_3, cel_3, clt_3, ctl_3, ceq_3, cle_4, cel_4, clt_4, ctl_4, ceq_4, cle_5, cel_5, clt_5, ctl_5, ceq_5, cle_6, cel_6, clt_6, ctl_6, ceq_6, cle_7, cel_7, clt_7, ctl_7, ceq_7, cle_8, cel_8, clt_8, ctl_8, ceq_8, cle_9, cel_9, clt_9, ctl_9, ceq_9, cle_12, cel_12, clt_12, ctl_12, ceq_12, cle_20, cel_20, clt_20, ctl_20, ceq_20, cle_24, cel_24, clt_24, ctl_24, ceq_24, cle_25, cel_25, clt_25, ctl_25, ceq_25, cle_30, cel_30, clt_30, ctl_30, ceq_30, cle_36, cel_36, clt_36, ctl_36, ceq_36, cle_40, cel_40, clt_40, ctl_40, ceq_40, cle_41, cel_41, clt_41, ctl_41, ceq_41, cle_120, cel_120, clt_120, ctl_120, ceq_120, cle_160, cel_160, clt_160, ctl_160, ceq_160, cle_164, cel_164, clt_164, ctl_164, ceq_164, cle_500, cel_500, clt_500, ctl_500, ceq_500, cle_1000, cel_1000, clt_1000, ctl_1000, ceq_1000, ixr, ixq, ixf, neg_nI, leq_nI, lt_nI, eq_nI, cl_nI, nI_add, pk_mul, false_or]
    rw [if_neg (by omega)]
  have w7 : ∀ (iv' ai' : Nat → Nat → Int32) (pp' : Nat → Option Nat), hIst (hp x iv' ai' aj ar pp' f0) (x + 7) 0 0 = some (hp x iv' (u2 ai' 7 0 0) aj ar pp' f0) := fun iv' ai' pp' => (row_7 x iv' ai' aj ar pp' f0).2.1 0 0 (by decide)
  have ec : F_X10_parts (hp x iv ai aj ar pp f0) x (nI j) (nI l) = some (1, hp x (u2 (u2 (u2 (u2 iv 5 6 1) 5 7 0) 5 4 (nI j)) 5 5 (nI l)) (u2 (va_up ai 6 (va_cpy (ai 3) (ai 6) (4 * l) 0 4)) 7 0 0) aj ar (va_up pp 5 (some a)) f0) := by
    unfold F_X10_parts F_X2_begin
    simp only [rk_0, if_true, s_polyOk p1 p2 hj, q1, Option.bind_some, xnul_s, s_isBox b1 b2, if10, h2, not_true_eq_false, not_false_eq_true, if_false, rn_0_4, rn_0_2, rk_5, mul_4, wo_5_3, rn_5_0, cp, rn_5_1, w7, wi_5_6, wi_5_7, wi_5_4, wi_5_5, and_self, one0]
  refine ⟨1, _, ec, rk_19, u2 (u2 (u2 (u2 (u2 (u2 (u2 iv 5 6 1) 5 7 0) 5 4 (nI j)) 5 5 (nI l)) 19 10 (nI j)) 19 11 (nI l)) 19 12 1, va_up (u2 (u2 (va_up ai 6 (va_cpy (ai 3) (ai 6) (4 * l) 0 4)) 7 0 0) 27 0 0) 26 (cpB (ai 26) (ai 25) l 0), aj, ar, va_up pp 5 (some a), f0, ?_, ?_⟩
  · show F_X11_parts _ _ _ _ = _
    unfold F_X11_parts
    have i1 := m_isPoly (x := x) (iv := u2 (u2 (u2 (u2 iv 5 6 1) 5 7 0) 5 4 (nI j)) 5 5 (nI l)) (ai := u2 (va_up ai 6 (va_cpy (ai 3) (ai 6) (4 * l) 0 4)) 7 0 0) (aj := aj) (ar := ar) (pp := va_up pp 5 (some a)) (f0 := f0) p1 p3 (nI j)
    have i2 := m_isBox (x := x) (iv := u2 (u2 (u2 (u2 iv 5 6 1) 5 7 0) 5 4 (nI j)) 5 5 (nI l)) (ai := u2 (va_up ai 6 (va_cpy (ai 3) (ai 6) (4 * l) 0 4)) 7 0 0) (aj := aj) (ar := ar) (pp := va_up pp 5 (some a)) (f0 := f0) b1 b3 (nI l)
    simp only [rk_19, if_true, i1, i2, Option.bind_some, if10, h1, h2, not_true_eq_false, if_false, wi_19_10, wi_19_11, m_begin (show l < 30 by omega), and_self, one0]
    rfl
  · refine hI0.newParts rfl rfl (fun s a1 a2 a3 a4 a5 => ?_) (fun k a1 a2 a3 a4 a5 a6 => ?_) (fun _ _ _ => rfl) ?_
    · rw [u2_nt _ _ a3, u2_nt _ _ a2, u2_nt _ _ a1]
      rfl
    · rw [up_ne _ _ a3, u2_ne _ _ _ a4, u2_ne _ _ _ a2, up_ne _ _ a1]
    · refine ⟨[bx (ai 25) l], (show 1 ≤ 40 by decide), rfl, rfl, rep_one ?_, rep_one ?_, rfl, fun h => absurd h (show ¬ (false = true) by decide), Or.inr ⟨j, l, 0, ?_, by omega, ?_, by omega, rfl, rfl, rfl, rfl, ?_, ?_, rfl⟩⟩
      · show (va_cpy (ai 3) (ai 6) (4 * l) 0 4 0, va_cpy (ai 3) (ai 6) (4 * l) 0 4 1, va_cpy (ai 3) (ai 6) (4 * l) 0 4 2, va_cpy (ai 3) (ai 6) (4 * l) 0 4 3, (0 : Int32)) = _
        rw [cpy_in (by decide) (by decide), cpy_in (by decide) (by decide), cpy_in (by decide) (by decide), cpy_in (by decide) (by decide), b4 _ (by omega), b4 _ (by omega), b4 _ (by omega), b4 _ (by omega)]
        rfl
      · rfl
      · rw [p2]; exact (nI_ltI (by omega) (by omega)).mpr hj
      · rw [b2]; exact (nI_ltI (by omega) (by omega)).mpr hl
      · show some a = ar 2 j
        exact q1.symm
      · exact fun h => by cases h
theorem rep_row {S st S' st' : Nat → Int32} {l : List Pt} (h : rep S st l) (h' : rep S' st' l) {i : Nat} (hi : i < l.length) : qd S st i = qd S' st' i := by rw [← rep_get h hi, ← rep_get h' hi]
theorem op_cover (hI0 : INV x z iv ai aj ar pp f0) (w : Int32) : Ow x z (F_X10_cover (hp x iv ai aj ar pp f0) x w) (fun h => F_X11_cover h (x + 19) w) := by
  obtain ⟨l, r1, r2, r3, r4, r5, r6, r7, r8⟩ := hI0.parts
  by_cases h1 : 0 ≤ w.toInt ∧ w.toInt ≤ 500
  case neg =>
    refine Ow_no (r := -2) hI0 ?_ ?_
    · unfold F_X10_cover
      by_cases hn : w < 0
      · rw [if_pos hn]
      · rw [if_neg hn, if_neg]
        intro q
        have q1 := Int32.le_iff_toInt_le.mp q
        have q2 := Int32.le_iff_toInt_le.mp (Int32.not_lt.mp hn)
        have e1 : (500 : Int32).toInt = 500 := rfl
        have e2 : (0 : Int32).toInt = 0 := rfl
        exact h1 ⟨by omega, by omega⟩
    · show F_X11_cover _ _ _ = _
      unfold F_X11_cover
      simp only [Option.bind_some, s_within, if10, w32 (lo := 0) (hi := 3) (l := 0) (h := 3) rfl rfl, w32 (lo := 0) (hi := 2) (l := 0) (h := 2) rfl rfl, w32 (lo := 0) (hi := 8) (l := 0) (h := 8) rfl rfl, w32 (lo := 0) (hi := 1) (l := 0) (h := 1) rfl rfl, w32 (lo := 0) (hi := 500) (l := 0) (h := 500) rfl rfl, w32 (lo := -1000) (hi := 1000) (l := -1000) (h := 1000) rfl rfl, w32 (lo := 0) (hi := 4) (l := 0) (h := 4) rfl rfl, w32 (lo := -2048) (hi := 2048) (l := -2048) (h := 2048) rfl rfl, h1, not_false_eq_true, if_true]
  obtain ⟨n, hn, rfl⟩ := inN (n := 501) (k := w) (by omega) (by omega)
  rcases r8 with ⟨rfl, r8⟩ | ⟨p, b, m, a, g, g1, g2, g3, g4, g5, g6, g7, g8, g9, g10, g11, g12, g13, g14, g15⟩
  · refine Ow_no (r := -3) hI0 ?_ ?_
    · unfold F_X10_cover
      rw [if_neg (by rw [neg_nI (by omega)]; exact id), if_pos (by rw [cel_500 (by omega)]; omega), rn_0_4, Option.bind_some, ro_5_3, Option.bind_some, r8]
      rfl
    · show F_X11_cover _ _ _ = _
      unfold F_X11_cover
      simp only [Option.bind_some, s_within, if10, w32 (lo := 0) (hi := 3) (l := 0) (h := 3) rfl rfl, w32 (lo := 0) (hi := 2) (l := 0) (h := 2) rfl rfl, w32 (lo := 0) (hi := 8) (l := 0) (h := 8) rfl rfl, w32 (lo := 0) (hi := 1) (l := 0) (h := 1) rfl rfl, w32 (lo := 0) (hi := 500) (l := 0) (h := 500) rfl rfl, w32 (lo := -1000) (hi := 1000) (l := -1000) (h := 1000) rfl rfl, w32 (lo := 0) (hi := 4) (l := 0) (h := 4) rfl rfl, w32 (lo := -2048) (hi := 2048) (l := -2048) (h := 2048) rfl rfl, h1, not_true_eq_false, if_false, ri_19_12, r3, and_self]
      rfl
  · obtain ⟨iv1, ai1, aj1, e1, k1, s1, s2, s3, s4, s5, s6⟩ := s_run (x := x) (c := 5) (ar := ar) (pp := pp) (f0 := f0) (pc_5 x) (row_6 x) (row_7 x) g11 g10 g12 n 0 xfuel l (u2 iv 5 10 0) ai aj (by omega) (Nat.lt_of_le_of_lt (show n ≤ 500 by omega) (by decide)) r1 r4 r2 r6 g14 rfl
    have hj23 : aj1 23 = aj 23 := k1.2.2.2 23 (by decide)
    obtain ⟨iv2, ai2, e2, k2, t1, t2, t3⟩ := m_run (x := x) (aj := aj1) (ar := ar) (pp := pp) (f0 := f0) g2 (T := Tm (aj 23) p) (by rw [hj23]) n 0 xfuel l iv1 ai1 (by omega) (Nat.lt_of_le_of_lt (show n ≤ 500 by omega) (by decide)) (by rw [k1.1 19 (by decide)]; exact g6) r1 (by rw [k1.2.2.1 26 (by decide) (by decide), k1.2.2.1 27 (by decide) (by decide)]; exact r5) (by rw [k1.1 19 (by decide)]; exact r3) g14
    have e1' : L_X2_steps_7 xfuel (hp x (u2 iv 5 10 0) ai aj ar pp f0) (x + 5) (nI n) 0 = some (nI (0 + (runL (Tm (aj 23) p) n l).1), hp x iv1 ai1 aj1 ar pp f0) := e1
    have ec : F_X10_cover (hp x iv ai aj ar pp f0) x (nI n) = some (if (runL (Tm (aj 23) p) n l).1 + 0 = 0 ∧ 0 < n ∧ fullL l = true then -4 else nI (0 + (runL (Tm (aj 23) p) n l).1), hp x iv1 ai1 aj1 ar pp f0) := by
      unfold F_X10_cover F_X2_steps
      rw [if_neg (by rw [neg_nI (by omega)]; exact id), if_pos (by rw [cel_500 (by omega)]; omega), rn_0_4, Option.bind_some, ro_5_3, Option.bind_some, g10, xnul_s, Option.bind_some, if_pos rk_5, wi_5_10, Option.bind_some, e1', Option.bind_some, rn_0_4, Option.bind_some, ri_5_10, Option.bind_some]
      have hk : (runL (Tm (aj 23) p) n l).1 < 2147483648 := by
        have h := itL_keeps _ _ _ (runL_it (T := Tm (aj 23) p) n l) r1 g14
        have h3 := shut_le (runL (Tm (aj 23) p) n l).2
        omega
      show (if nI (0 + (runL (Tm (aj 23) p) n l).1) = 0 then (if iv1 5 10 = 0 then some (nI (0 + (runL (Tm (aj 23) p) n l).1), hp x iv1 ai1 aj1 ar pp f0) else some ((-4 : Int32), hp x iv1 ai1 aj1 ar pp f0)) else some (nI (0 + (runL (Tm (aj 23) p) n l).1), hp x iv1 ai1 aj1 ar pp f0)) = _
      by_cases hk0 : (runL (Tm (aj 23) p) n l).1 = 0
      · rw [if_pos (show nI (0 + (runL (Tm (aj 23) p) n l).1) = 0 by rw [hk0]; rfl)]
        by_cases hn0 : 0 < n
        · rw [s5 hk0 hn0]
          by_cases hf : fullL l = true
          · rw [if_pos hf, if_neg (show ¬ (1 : Int32) = 0 by decide), if_pos (show (runL (Tm (aj 23) p) n l).1 + 0 = 0 ∧ 0 < n ∧ fullL l = true from ⟨by omega, hn0, hf⟩)]
          · rw [if_neg hf, if_pos (show (0 : Int32) = 0 from rfl), if_neg (show ¬ ((runL (Tm (aj 23) p) n l).1 + 0 = 0 ∧ 0 < n ∧ fullL l = true) from fun q => hf q.2.2)]
        · rw [s6 (by omega), if_pos (show (0 : Int32) = 0 from rfl), if_neg (show ¬ ((runL (Tm (aj 23) p) n l).1 + 0 = 0 ∧ 0 < n ∧ fullL l = true) from fun q => hn0 q.2.1)]
      · rw [if_neg (show ¬ nI (0 + (runL (Tm (aj 23) p) n l).1) = 0 from fun h => hk0 (by have := nI_inj (b := 0) (by omega) (by decide) h; omega)), if_neg (show ¬ ((runL (Tm (aj 23) p) n l).1 + 0 = 0 ∧ 0 < n ∧ fullL l = true) from fun q => hk0 (by omega))]
    refine ⟨_, _, ec, rk_19, iv2, ai2, aj1, ar, pp, f0, ?_, ?_⟩
    · show F_X11_cover _ _ _ = _
      unfold F_X11_cover
      simp only [Option.bind_some, s_within, if10, w32 (lo := 0) (hi := 3) (l := 0) (h := 3) rfl rfl, w32 (lo := 0) (hi := 2) (l := 0) (h := 2) rfl rfl, w32 (lo := 0) (hi := 8) (l := 0) (h := 8) rfl rfl, w32 (lo := 0) (hi := 1) (l := 0) (h := 1) rfl rfl, w32 (lo := 0) (hi := 500) (l := 0) (h := 500) rfl rfl, w32 (lo := -1000) (hi := 1000) (l := -1000) (h := 1000) rfl rfl, w32 (lo := 0) (hi := 4) (l := 0) (h := 4) rfl rfl, w32 (lo := -2048) (hi := 2048) (l := -2048) (h := 2048) rfl rfl, h1, not_true_eq_false, if_false, ri_19_12, and_self]
      have hne : ¬ iv1 19 12 = 0 := by
        rw [k1.1 19 (by decide)]
        show ¬ iv 19 12 = 0
        rw [r3, ceq_0 (by omega)]
        omega
      rw [if_neg hne]
      exact e2
    · have h19 : ∀ s, iv1 19 s = iv 19 s := fun s => by rw [k1.1 19 (by decide)]; rfl
      refine hI0.newParts ((k2.1 0 (by decide)).trans (k1.1 0 (by decide))) ((k2.1 9 (by decide)).trans (k1.1 9 (by decide))) (fun s a1 a2 a3 a4 a5 => (k2.2.1 s a3 a4 a5).trans (h19 s)) (fun k a1 a2 a3 a4 a5 a6 => (k2.2.2 k a3 a4).trans (k1.2.2.1 k a1 a2)) (fun k a1 a2 => k1.2.2.2 k a1) ?_
      have hk := itL_keeps _ _ _ (runL_it (T := Tm (aj 23) p) n l) r1 g14
      have i5 : iv2 5 = iv1 5 := k2.1 5 (by decide)
      have a6 : ai2 6 = ai1 6 := k2.2.2 6 (by decide) (by decide)
      have a7 : ai2 7 = ai1 7 := k2.2.2 7 (by decide) (by decide)
      refine ⟨(runL (Tm (aj 23) p) n l).2, hk.1, ?_, t2, ?_, t1, ?_, fun h => ?_, Or.inr ⟨p, b, m + (runL (Tm (aj 23) p) n l).1, g1, g2, g3, g4, ?_, ?_, ?_, ?_, g9, ?_, itL_add _ _ _ _ _ g13 (runL_it n l)⟩⟩
      · rw [i5]; exact s2
      · rw [a6, a7]; exact s1
      · rw [i5]; exact s3
      · have h' : anyS (runL (Tm (aj 23) p) n l).2 3 = true := h
        have c1 := s4 h'
        have c2 := t3
        rw [h19 15, h19 16] at c2
        have c0 : lowR (Tm (aj 23) p) n l (u2 iv 5 10 0 5 8, u2 iv 5 10 0 5 9) = lowR (Tm (aj 23) p) n l (iv 19 15, iv 19 16) := by
          cases h3 : anyS l 3 with
          | true =>
            rw [lowR_none (stepL_below h3), lowR_none (stepL_below h3), ← (r7 h3).1, ← (r7 h3).2]
            rfl
          | false => exact lowR_ind n l _ _ h3 h'
        rw [c0, ← c2] at c1
        rw [i5]
        exact ⟨congrArg Prod.fst c1, congrArg Prod.snd c1⟩
      · rw [i5, k1.2.1 4 (by decide)]; exact g5
      · rw [k2.2.1 10 (by decide) (by decide) (by decide), h19]; exact g6
      · rw [i5, k1.2.1 5 (by decide)]; exact g7
      · rw [k2.2.1 11 (by decide) (by decide) (by decide), h19]; exact g8
      · rw [g10]; exact fun h => by cases h
end PARTOPS

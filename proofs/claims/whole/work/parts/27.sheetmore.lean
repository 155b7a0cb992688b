section SHEETOPS2
variable {x z : Nat} {iv ai : Nat → Nat → Int32} {aj : Nat → Nat → Int64} {ar : Nat → Nat → Option Nat} {pp : Nat → Option Nat} {f0 : xHp}
theorem in4 {k : Int32} (h : 0 ≤ k.toInt ∧ k.toInt ≤ 3) : ∃ j : Nat, j < 4 ∧ k = nI j := by
  rcases tri k (n := 4) (by decide) with q | q
  · exact absurd (show 0 ≤ k.toInt ∧ k.toInt < ((4 : Nat) : Int) by omega) q
  · exact q
theorem nI03 {j : Nat} (h : j < 4) : (0 : Int) ≤ (nI j).toInt ∧ (nI j).toInt ≤ 3 := by
  rw [toInt_nI (by omega)]; omega
theorem op_lose (hI0 : INV x z iv ai aj ar pp f0) (k : Int32) : Ow x z (F_X10_lose (hp x iv ai aj ar pp f0) x k) (fun h => F_X11_lose h (x + 19) k) := by
  obtain ⟨hz, own, hT, hS, hP, hB, hR, hQ⟩ := id hI0
  by_cases h1 : 0 ≤ k.toInt ∧ k.toInt ≤ 3
  · obtain ⟨j, hj, rfl⟩ := in4 h1
    have hs := hS j hj
    have e1 : F_X10_lose (hp x iv ai aj ar pp f0) x (nI j) = some (if ar 1 j = none then 0 else 1, hp x iv ai aj (u2 ar 1 j none) pp f0) := by
      unfold F_X10_lose
      simp only [Option.bind_some, s_within, if10, w32 (lo := 0) (hi := 3) (l := 0) (h := 3) rfl rfl, w32 (lo := 0) (hi := 2) (l := 0) (h := 2) rfl rfl, w32 (lo := 0) (hi := 8) (l := 0) (h := 8) rfl rfl, w32 (lo := 0) (hi := 1) (l := 0) (h := 1) rfl rfl, w32 (lo := 0) (hi := 500) (l := 0) (h := 500) rfl rfl, w32 (lo := -1000) (hi := 1000) (l := -1000) (h := 1000) rfl rfl, w32 (lo := 0) (hi := 4) (l := 0) (h := 4) rfl rfl, w32 (lo := -2048) (hi := 2048) (l := -2048) (h := 2048) rfl rfl, s_isSheet, s_isLane, s_isTerm, s_isWeight]
      rw [if_neg (not_not_intro h1)]
      simp (disch := omega) only [rn_0_0, ra_1, Option.bind_some, mul_3, mul_4, mul_5, mul_9, mul_30, mul_160, add_1, add_2, add_3, add_4, add_5, add_6, addl_1, addl_2, addl_3, addl_4, cle_0, cel_0, clt_0, ctl_0, ceq_0, cle_1, cel_1, clt_1, ctl_1, ceq_1, cle_2, cel_2, clt_2, ctl_2, ceq_2, cle_3, cel_3, clt_3, ctl_3, ceq_3, cle_4, cel_4, clt_4, ctl_4, ceq_4, cle_5, cel_5, clt_5, ctl_5, ceq_5, cle_6, cel_6, clt_6, ctl_6, ceq_6, cle_7, cel_7, clt_7, ctl_7, ceq_7, cle_8, cel_8, clt_8, ctl_8, ceq_8, cle_9, cel_9, clt_9, ctl_9, ceq_9, cle_12, cel_12, clt_12, ctl_12, ceq_12, cle_20, cel_20, clt_20, ctl_20, ceq_20, cle_24, cel_24, clt_24, ctl_24, ceq_24, cle_25, cel_25, clt_25, ctl_25, ceq_25, cle_30, cel_30, clt_30, ctl_30, ceq_30, cle_36, cel_36, clt_36, ctl_36, ceq_36, cle_40, cel_40, clt_40, ctl_40, ceq_40, cle_41, cel_41, clt_41, ctl_41, ceq_41, cle_120, cel_120, clt_120, ctl_120, ceq_120, cle_160, cel_160, clt_160, ctl_160, ceq_160, cle_164, cel_164, clt_164, ctl_164, ceq_164, cle_500, cel_500, clt_500, ctl_500, ceq_500, cle_1000, cel_1000, clt_1000, ctl_1000, ceq_1000, ixr, ixq, ixf, neg_nI, leq_nI, lt_nI, eq_nI, cl_nI, nI_add, pk_mul]
      unfold F_X10_lose_23
      simp (disch := omega) only [rn_0_0, wz_1, Option.bind_some, mul_3, mul_4, mul_5, mul_9, mul_30, mul_160, add_1, add_2, add_3, add_4, add_5, add_6, addl_1, addl_2, addl_3, addl_4, cle_0, cel_0, clt_0, ctl_0, ceq_0, cle_1, cel_1, clt_1, ctl_1, ceq_1, cle_2, cel_2, clt_2, ctl_2, ceq_2, cle_3, cel_3, clt_3, ctl_3, ceq_3, cle_4, cel_4, clt_4, ctl_4, ceq_4, cle_5, cel_5, clt_5, ctl_5, ceq_5, cle_6, cel_6, clt_6, ctl_6, ceq_6, cle_7, cel_7, clt_7, ctl_7, ceq_7, cle_8, cel_8, clt_8, ctl_8, ceq_8, cle_9, cel_9, clt_9, ctl_9, ceq_9, cle_12, cel_12, clt_12, ctl_12, ceq_12, cle_20, cel_20, clt_20, ctl_20, ceq_20, cle_24, cel_24, clt_24, ctl_24, ceq_24, cle_25, cel_25, clt_25, ctl_25, ceq_25, cle_30, cel_30, clt_30, ctl_30, ceq_30, cle_36, cel_36, clt_36, ctl_36, ceq_36, cle_40, cel_40, clt_40, ctl_40, ceq_40, cle_41, cel_41, clt_41, ctl_41, ceq_41, cle_120, cel_120, clt_120, ctl_120, ceq_120, cle_160, cel_160, clt_160, ctl_160, ceq_160, cle_164, cel_164, clt_164, ctl_164, ceq_164, cle_500, cel_500, clt_500, ctl_500, ceq_500, cle_1000, cel_1000, clt_1000, ctl_1000, ceq_1000, ixr, ixq, ixf, neg_nI, leq_nI, lt_nI, eq_nI, cl_nI, nI_add, pk_mul]
      cases ar 1 j with
      | none => rfl
      | some a => rfl
    have e2 : F_X11_lose (hp x iv ai aj (u2 ar 1 j none) pp f0) (x + 19) (nI j) = some (if ai 20 j = -9 then 0 else 1, hp x iv (u2 ai 20 j (-9)) aj (u2 ar 1 j none) pp f0) := by
      unfold F_X11_lose
      simp only [Option.bind_some, s_within, if10, w32 (lo := 0) (hi := 3) (l := 0) (h := 3) rfl rfl, w32 (lo := 0) (hi := 2) (l := 0) (h := 2) rfl rfl, w32 (lo := 0) (hi := 8) (l := 0) (h := 8) rfl rfl, w32 (lo := 0) (hi := 1) (l := 0) (h := 1) rfl rfl, w32 (lo := 0) (hi := 500) (l := 0) (h := 500) rfl rfl, w32 (lo := -1000) (hi := 1000) (l := -1000) (h := 1000) rfl rfl, w32 (lo := 0) (hi := 4) (l := 0) (h := 4) rfl rfl, w32 (lo := -2048) (hi := 2048) (l := -2048) (h := 2048) rfl rfl]
      rw [if_neg (not_not_intro h1)]
      simp (disch := omega) only [rn_19_2, ra_20, Option.bind_some, mul_3, mul_4, mul_5, mul_9, mul_30, mul_160, add_1, add_2, add_3, add_4, add_5, add_6, addl_1, addl_2, addl_3, addl_4, cle_0, cel_0, clt_0, ctl_0, ceq_0, cle_1, cel_1, clt_1, ctl_1, ceq_1, cle_2, cel_2, clt_2, ctl_2, ceq_2, cle_3, cel_3, clt_3, ctl_3, ceq_3, cle_4, cel_4, clt_4, ctl_4, ceq_4, cle_5, cel_5, clt_5, ctl_5, ceq_5, cle_6, cel_6, clt_6, ctl_6, ceq_6, cle_7, cel_7, clt_7, ctl_7, ceq_7, cle_8, cel_8, clt_8, ctl_8, ceq_8, cle_9, cel_9, clt_9, ctl_9, ceq_9, cle_12, cel_12, clt_12, ctl_12, ceq_12, cle_20, cel_20, clt_20, ctl_20, ceq_20, cle_24, cel_24, clt_24, ctl_24, ceq_24, cle_25, cel_25, clt_25, ctl_25, ceq_25, cle_30, cel_30, clt_30, ctl_30, ceq_30, cle_36, cel_36, clt_36, ctl_36, ceq_36, cle_40, cel_40, clt_40, ctl_40, ceq_40, cle_41, cel_41, clt_41, ctl_41, ceq_41, cle_120, cel_120, clt_120, ctl_120, ceq_120, cle_160, cel_160, clt_160, ctl_160, ceq_160, cle_164, cel_164, clt_164, ctl_164, ceq_164, cle_500, cel_500, clt_500, ctl_500, ceq_500, cle_1000, cel_1000, clt_1000, ctl_1000, ceq_1000, ixr, ixq, ixf, neg_nI, leq_nI, lt_nI, eq_nI, cl_nI, nI_add, pk_mul]
      unfold F_X11_lose_30
      simp (disch := omega) only [rn_19_2, wa_20, Option.bind_some, mul_3, mul_4, mul_5, mul_9, mul_30, mul_160, add_1, add_2, add_3, add_4, add_5, add_6, addl_1, addl_2, addl_3, addl_4, cle_0, cel_0, clt_0, ctl_0, ceq_0, cle_1, cel_1, clt_1, ctl_1, ceq_1, cle_2, cel_2, clt_2, ctl_2, ceq_2, cle_3, cel_3, clt_3, ctl_3, ceq_3, cle_4, cel_4, clt_4, ctl_4, ceq_4, cle_5, cel_5, clt_5, ctl_5, ceq_5, cle_6, cel_6, clt_6, ctl_6, ceq_6, cle_7, cel_7, clt_7, ctl_7, ceq_7, cle_8, cel_8, clt_8, ctl_8, ceq_8, cle_9, cel_9, clt_9, ctl_9, ceq_9, cle_12, cel_12, clt_12, ctl_12, ceq_12, cle_20, cel_20, clt_20, ctl_20, ceq_20, cle_24, cel_24, clt_24, ctl_24, ceq_24, cle_25, cel_25, clt_25, ctl_25, ceq_25, cle_30, cel_30, clt_30, ctl_30, ceq_30, cle_36, cel_36, clt_36, ctl_36, ceq_36, cle_40, cel_40, clt_40, ctl_40, ceq_40, cle_41, cel_41, clt_41, ctl_41, ceq_41, cle_120, cel_120, clt_120, ctl_120, ceq_120, cle_160, cel_160, clt_160, ctl_160, ceq_160, cle_164, cel_164, clt_164, ctl_164, ceq_164, cle_500, cel_500, clt_500, ctl_500, ceq_500, cle_1000, cel_1000, clt_1000, ctl_1000, ceq_1000, ixr, ixq, ixf, neg_nI, leq_nI, lt_nI, eq_nI, cl_nI, nI_add, pk_mul]
      split <;> rfl
    have e3 : (if ar 1 j = none then (0 : Int32) else 1) = if ai 20 j = -9 then 0 else 1 := by
      rcases hs with ⟨q1, q2⟩ | ⟨a, b, n, g, q1, q2, q3, q4, q5, q6, q7⟩
      · rw [if_pos q1, if_pos q2]
      · rw [if_neg (by rw [q1]; intro h; cases h), if_neg (by rcases q6 with q | q | q <;> rw [q] <;> decide)]
    rw [e3] at e1
    refine ⟨_, _, e1, rk_19, _, _, _, _, _, _, e2, hz, own, hT, ?_, hP, hB, hR, hQ⟩
    intro i hi
    show shOk x z f0 own i (va_up (ar 1) j none i) (va_up (ai 20) j (-9) i) (ai 21 i) (aj 22)
    by_cases hij : i = j
    · subst hij
      rw [up_at, up_at]
      exact Or.inl ⟨rfl, rfl⟩
    · rw [up_ne _ _ hij, up_ne _ _ hij]
      exact hS i hi
  · refine ⟨-1, hp x iv ai aj ar pp f0, ?_, rk_19, _, _, _, _, _, _, ?_, hI0⟩
    · unfold F_X10_lose
      simp only [Option.bind_some, s_within, if10, w32 (lo := 0) (hi := 3) (l := 0) (h := 3) rfl rfl, w32 (lo := 0) (hi := 2) (l := 0) (h := 2) rfl rfl, w32 (lo := 0) (hi := 8) (l := 0) (h := 8) rfl rfl, w32 (lo := 0) (hi := 1) (l := 0) (h := 1) rfl rfl, w32 (lo := 0) (hi := 500) (l := 0) (h := 500) rfl rfl, w32 (lo := -1000) (hi := 1000) (l := -1000) (h := 1000) rfl rfl, w32 (lo := 0) (hi := 4) (l := 0) (h := 4) rfl rfl, w32 (lo := -2048) (hi := 2048) (l := -2048) (h := 2048) rfl rfl, s_isSheet, s_isLane, s_isTerm, s_isWeight]
      rw [if_pos h1]
    · show F_X11_lose _ _ _ = _
      unfold F_X11_lose
      simp only [Option.bind_some, s_within, if10, w32 (lo := 0) (hi := 3) (l := 0) (h := 3) rfl rfl, w32 (lo := 0) (hi := 2) (l := 0) (h := 2) rfl rfl, w32 (lo := 0) (hi := 8) (l := 0) (h := 8) rfl rfl, w32 (lo := 0) (hi := 1) (l := 0) (h := 1) rfl rfl, w32 (lo := 0) (hi := 500) (l := 0) (h := 500) rfl rfl, w32 (lo := -1000) (hi := 1000) (l := -1000) (h := 1000) rfl rfl, w32 (lo := 0) (hi := 4) (l := 0) (h := 4) rfl rfl, w32 (lo := -2048) (hi := 2048) (l := -2048) (h := 2048) rfl rfl]
      rw [if_pos h1]
/-- a number cut to a lane -/
def cutL (ln : Int32) (v : Int64) : Int64 := if ln = 0 then v.toInt32.toInt8.toInt32.toInt64 else if ln = 1 then v.toInt32.toInt64 else v
theorem w_ix {i : Int32} {n : Nat} (hn : n ≤ 30) : ((0 : Int64) ≤ i.toInt64 ∧ i.toInt64 ≤ (nI n).toInt64 - 1) = (0 ≤ i.toInt ∧ i.toInt < n) := by
  have e : ((nI n).toInt64 - 1).toInt = (n : Int) - 1 := by
    rcases Nat.eq_zero_or_pos n with q | q
    · subst q; rfl
    · rw [nI_l (show n < 2 ^ 31 by omega), show (1 : Int64) = lN 1 from rfl, lN_sub q, lN_toInt (by omega)]
      omega
  rw [Int64.le_iff_toInt_le, Int64.le_iff_toInt_le, Int32.toInt_toInt64, e]
  apply propext
  constructor
  · rintro ⟨a, b⟩
    exact ⟨a, by omega⟩
  · rintro ⟨a, b⟩
    exact ⟨a, by omega⟩
theorem op_put (hI0 : INV x z iv ai aj ar pp f0) (k i : Int32) (v : Int64) : Ow x z (F_X10_put (hp x iv ai aj ar pp f0) x k i v) (fun h => F_X11_put h (x + 19) k i v) := by
  obtain ⟨hz, own, hT, hS, hP, hB, hR, hQ⟩ := id hI0
  have base : ∀ w : Int32, INV x z (u2 (u2 (u2 (u2 iv 0 9 0) 0 9 w) 19 0 0) 19 0 w) ai aj ar pp f0 := fun w => ⟨hz, own, ⟨rfl, hT.2⟩, hS, hP, hB, hR, hQ⟩
  by_cases h1 : 0 ≤ k.toInt ∧ k.toInt ≤ 3
  · obtain ⟨j, hj, rfl⟩ := in4 h1
    rcases hS j hj with ⟨q1, q2⟩ | ⟨a, b, n, g, q1, q2, q3, q4, q5, q6, q7, q8, q9⟩
    · refine ⟨-11, hp x (u2 (u2 iv 0 9 0) 0 9 1) ai aj ar pp f0, ?_, rk_19, _, _, _, _, _, _, ?_, base 1⟩
      · unfold F_X10_put
        simp only [Option.bind_some, s_within, if10, w32 (lo := 0) (hi := 3) (l := 0) (h := 3) rfl rfl, w32 (lo := 0) (hi := 2) (l := 0) (h := 2) rfl rfl, w32 (lo := 0) (hi := 8) (l := 0) (h := 8) rfl rfl, w32 (lo := 0) (hi := 1) (l := 0) (h := 1) rfl rfl, w32 (lo := 0) (hi := 500) (l := 0) (h := 500) rfl rfl, w32 (lo := -1000) (hi := 1000) (l := -1000) (h := 1000) rfl rfl, w32 (lo := 0) (hi := 4) (l := 0) (h := 4) rfl rfl, w32 (lo := -2048) (hi := 2048) (l := -2048) (h := 2048) rfl rfl, s_isSheet, s_isLane, s_isTerm, s_isWeight, wi_0_9]
        rw [if_neg (not_not_intro h1)]
        simp (disch := omega) only [rn_0_0, ra_1, Option.bind_some, mul_3, mul_4, mul_5, mul_9, mul_30, mul_160, add_1, add_2, add_3, add_4, add_5, add_6, addl_1, addl_2, addl_3, addl_4, cle_0, cel_0, clt_0, ctl_0, ceq_0, cle_1, cel_1, clt_1, ctl_1, ceq_1, cle_2, cel_2, clt_2, ctl_2, ceq_2, cle_3, cel_3, clt_3, ctl_3, ceq_3, cle_4, cel_4, clt_4, ctl_4, ceq_4, cle_5, cel_5, clt_5, ctl_5, ceq_5, cle_6, cel_6, clt_6, ctl_6, ceq_6, cle_7, cel_7, clt_7, ctl_7, ceq_7, cle_8, cel_8, clt_8, ctl_8, ceq_8, cle_9, cel_9, clt_9, ctl_9, ceq_9, cle_12, cel_12, clt_12, ctl_12, ceq_12, cle_20, cel_20, clt_20, ctl_20, ceq_20, cle_24, cel_24, clt_24, ctl_24, ceq_24, cle_25, cel_25, clt_25, ctl_25, ceq_25, cle_30, cel_30, clt_30, ctl_30, ceq_30, cle_36, cel_36, clt_36, ctl_36, ceq_36, cle_40, cel_40, clt_40, ctl_40, ceq_40, cle_41, cel_41, clt_41, ctl_41, ceq_41, cle_120, cel_120, clt_120, ctl_120, ceq_120, cle_160, cel_160, clt_160, ctl_160, ceq_160, cle_164, cel_164, clt_164, ctl_164, ceq_164, cle_500, cel_500, clt_500, ctl_500, ceq_500, cle_1000, cel_1000, clt_1000, ctl_1000, ceq_1000, ixr, ixq, ixf, neg_nI, leq_nI, lt_nI, eq_nI, cl_nI, nI_add, pk_mul, q1, rk_0, s_faulted]
        rfl
      · show F_X11_put _ _ _ _ _ = _
        unfold F_X11_put
        simp only [Option.bind_some, s_within, if10, w32 (lo := 0) (hi := 3) (l := 0) (h := 3) rfl rfl, w32 (lo := 0) (hi := 2) (l := 0) (h := 2) rfl rfl, w32 (lo := 0) (hi := 8) (l := 0) (h := 8) rfl rfl, w32 (lo := 0) (hi := 1) (l := 0) (h := 1) rfl rfl, w32 (lo := 0) (hi := 500) (l := 0) (h := 500) rfl rfl, w32 (lo := -1000) (hi := 1000) (l := -1000) (h := 1000) rfl rfl, w32 (lo := 0) (hi := 4) (l := 0) (h := 4) rfl rfl, w32 (lo := -2048) (hi := 2048) (l := -2048) (h := 2048) rfl rfl, wi_19_0]
        rw [if_neg (not_not_intro h1)]
        simp (disch := omega) only [rn_19_2, ra_20, Option.bind_some, mul_3, mul_4, mul_5, mul_9, mul_30, mul_160, add_1, add_2, add_3, add_4, add_5, add_6, addl_1, addl_2, addl_3, addl_4, cle_0, cel_0, clt_0, ctl_0, ceq_0, cle_1, cel_1, clt_1, ctl_1, ceq_1, cle_2, cel_2, clt_2, ctl_2, ceq_2, cle_3, cel_3, clt_3, ctl_3, ceq_3, cle_4, cel_4, clt_4, ctl_4, ceq_4, cle_5, cel_5, clt_5, ctl_5, ceq_5, cle_6, cel_6, clt_6, ctl_6, ceq_6, cle_7, cel_7, clt_7, ctl_7, ceq_7, cle_8, cel_8, clt_8, ctl_8, ceq_8, cle_9, cel_9, clt_9, ctl_9, ceq_9, cle_12, cel_12, clt_12, ctl_12, ceq_12, cle_20, cel_20, clt_20, ctl_20, ceq_20, cle_24, cel_24, clt_24, ctl_24, ceq_24, cle_25, cel_25, clt_25, ctl_25, ceq_25, cle_30, cel_30, clt_30, ctl_30, ceq_30, cle_36, cel_36, clt_36, ctl_36, ceq_36, cle_40, cel_40, clt_40, ctl_40, ceq_40, cle_41, cel_41, clt_41, ctl_41, ceq_41, cle_120, cel_120, clt_120, ctl_120, ceq_120, cle_160, cel_160, clt_160, ctl_160, ceq_160, cle_164, cel_164, clt_164, ctl_164, ceq_164, cle_500, cel_500, clt_500, ctl_500, ceq_500, cle_1000, cel_1000, clt_1000, ctl_1000, ceq_1000, ixr, ixq, ixf, neg_nI, leq_nI, lt_nI, eq_nI, cl_nI, nI_add, pk_mul, q2, rk_19, m_fails]
        rfl
    · have hx2 : x + 41 ≤ a := q2.1
      have hx3 : x + 41 ≤ b := q3.1
      have n1 : hN f0 a [(5, 1)] = some b := fN q4 rfl rfl
      have n0 : hI f0 a [(5, 0)] = some (ai 20 j) := fI q4 rfl rfl
      have hln : ai 20 j ≠ -9 := by rcases q6 with q | q | q <;> rw [q] <;> decide
      by_cases h2 : 0 ≤ i.toInt ∧ i.toInt < n
      · obtain ⟨m, hm, rfl⟩ : ∃ m : Nat, m < n ∧ i = nI m := by
          rcases tri i (n := n) (by omega) with q | q
          · exact absurd h2 q
          · exact q
        have e1 : F_X10_put (hp x iv ai aj ar pp f0) x (nI j) (nI m) v = some (1, hp x (u2 iv 0 9 0) ai aj ar pp (va_up f0 b (some (.inr (.inl (n, va_up g m (cutL (ai 20 j) v))))))) := by
          have eh : F_X6_has (hp x (u2 iv 0 9 0) ai aj ar pp f0) a (nI m) = some 1 := by
            unfold F_X6_has
            simp (disch := omega) only [dN hx2, n1, dLen hx3, fLenJ q5, Option.bind_some, mul_3, mul_4, mul_5, mul_9, mul_30, mul_160, add_1, add_2, add_3, add_4, add_5, add_6, addl_1, addl_2, addl_3, addl_4, cle_0, cel_0, clt_0, ctl_0, ceq_0, cle_1, cel_1, clt_1, ctl_1, ceq_1, cle_2, cel_2, clt_2, ctl_2, ceq_2, cle_3, cel_3, clt_3, ctl_3, ceq_3, cle_4, cel_4, clt_4, ctl_4, ceq_4, cle_5, cel_5, clt_5, ctl_5, ceq_5, cle_6, cel_6, clt_6, ctl_6, ceq_6, cle_7, cel_7, clt_7, ctl_7, ceq_7, cle_8, cel_8, clt_8, ctl_8, ceq_8, cle_9, cel_9, clt_9, ctl_9, ceq_9, cle_12, cel_12, clt_12, ctl_12, ceq_12, cle_20, cel_20, clt_20, ctl_20, ceq_20, cle_24, cel_24, clt_24, ctl_24, ceq_24, cle_25, cel_25, clt_25, ctl_25, ceq_25, cle_30, cel_30, clt_30, ctl_30, ceq_30, cle_36, cel_36, clt_36, ctl_36, ceq_36, cle_40, cel_40, clt_40, ctl_40, ceq_40, cle_41, cel_41, clt_41, ctl_41, ceq_41, cle_120, cel_120, clt_120, ctl_120, ceq_120, cle_160, cel_160, clt_160, ctl_160, ceq_160, cle_164, cel_164, clt_164, ctl_164, ceq_164, cle_500, cel_500, clt_500, ctl_500, ceq_500, cle_1000, cel_1000, clt_1000, ctl_1000, ceq_1000, ixr, ixq, ixf, neg_nI, leq_nI, lt_nI, eq_nI, cl_nI, nI_add, pk_mul]
            rw [if_neg (by omega), if_neg (by omega)]
          have ec : F_X6_cutToLane (hp x (u2 iv 0 9 0) ai aj ar pp f0) a v = some (cutL (ai 20 j) v) := by
            unfold F_X6_cutToLane cutL
            simp only [dI hx2, n0, Option.bind_some]
            split
            · rfl
            · split <;> rfl
          unfold F_X10_put
          simp only [Option.bind_some, s_within, if10, w32 (lo := 0) (hi := 3) (l := 0) (h := 3) rfl rfl, w32 (lo := 0) (hi := 2) (l := 0) (h := 2) rfl rfl, w32 (lo := 0) (hi := 8) (l := 0) (h := 8) rfl rfl, w32 (lo := 0) (hi := 1) (l := 0) (h := 1) rfl rfl, w32 (lo := 0) (hi := 500) (l := 0) (h := 500) rfl rfl, w32 (lo := -1000) (hi := 1000) (l := -1000) (h := 1000) rfl rfl, w32 (lo := 0) (hi := 4) (l := 0) (h := 4) rfl rfl, w32 (lo := -2048) (hi := 2048) (l := -2048) (h := 2048) rfl rfl, s_isSheet, s_isLane, s_isTerm, s_isWeight, wi_0_9]
          rw [if_neg (not_not_intro h1)]
          simp (disch := omega) only [rn_0_0, ra_1, Option.bind_some, mul_3, mul_4, mul_5, mul_9, mul_30, mul_160, add_1, add_2, add_3, add_4, add_5, add_6, addl_1, addl_2, addl_3, addl_4, cle_0, cel_0, clt_0, ctl_0, ceq_0, cle_1, cel_1, clt_1, ctl_1, ceq_1, cle_2, cel_2, clt_2, ctl_2, ceq_2, cle_3, cel_3, clt_3, ctl_3, ceq_3, cle_4, cel_4, clt_4, ctl_4, ceq_4, cle_5, cel_5, clt_5, ctl_5, ceq_5, cle_6, cel_6, clt_6, ctl_6, ceq_6, cle_7, cel_7, clt_7, ctl_7, ceq_7, cle_8, cel_8, clt_8, ctl_8, ceq_8, cle_9, cel_9, clt_9, ctl_9, ceq_9, cle_12, cel_12, clt_12, ctl_12, ceq_12, cle_20, cel_20, clt_20, ctl_20, ceq_20, cle_24, cel_24, clt_24, ctl_24, ceq_24, cle_25, cel_25, clt_25, ctl_25, ceq_25, cle_30, cel_30, clt_30, ctl_30, ceq_30, cle_36, cel_36, clt_36, ctl_36, ceq_36, cle_40, cel_40, clt_40, ctl_40, ceq_40, cle_41, cel_41, clt_41, ctl_41, ceq_41, cle_120, cel_120, clt_120, ctl_120, ceq_120, cle_160, cel_160, clt_160, ctl_160, ceq_160, cle_164, cel_164, clt_164, ctl_164, ceq_164, cle_500, cel_500, clt_500, ctl_500, ceq_500, cle_1000, cel_1000, clt_1000, ctl_1000, ceq_1000, ixr, ixq, ixf, neg_nI, leq_nI, lt_nI, eq_nI, cl_nI, nI_add, pk_mul, q1, rk_0]
          show (if hKd (hp x (u2 iv 0 9 0) ai aj ar pp f0) a = some 5 then _ else none) = _
          rw [if_pos (by rw [dK hx2]; exact fK q4), eh, Option.bind_some, if_neg (by decide), dN hx2, n1, Option.bind_some, if_pos (by rw [dK hx2]; exact fK q4), ec, Option.bind_some, dJst hx3 _ _ q5]
          simp (disch := omega) only [Option.bind_some, mul_3, mul_4, mul_5, mul_9, mul_30, mul_160, add_1, add_2, add_3, add_4, add_5, add_6, addl_1, addl_2, addl_3, addl_4, cle_0, cel_0, clt_0, ctl_0, ceq_0, cle_1, cel_1, clt_1, ctl_1, ceq_1, cle_2, cel_2, clt_2, ctl_2, ceq_2, cle_3, cel_3, clt_3, ctl_3, ceq_3, cle_4, cel_4, clt_4, ctl_4, ceq_4, cle_5, cel_5, clt_5, ctl_5, ceq_5, cle_6, cel_6, clt_6, ctl_6, ceq_6, cle_7, cel_7, clt_7, ctl_7, ceq_7, cle_8, cel_8, clt_8, ctl_8, ceq_8, cle_9, cel_9, clt_9, ctl_9, ceq_9, cle_12, cel_12, clt_12, ctl_12, ceq_12, cle_20, cel_20, clt_20, ctl_20, ceq_20, cle_24, cel_24, clt_24, ctl_24, ceq_24, cle_25, cel_25, clt_25, ctl_25, ceq_25, cle_30, cel_30, clt_30, ctl_30, ceq_30, cle_36, cel_36, clt_36, ctl_36, ceq_36, cle_40, cel_40, clt_40, ctl_40, ceq_40, cle_41, cel_41, clt_41, ctl_41, ceq_41, cle_120, cel_120, clt_120, ctl_120, ceq_120, cle_160, cel_160, clt_160, ctl_160, ceq_160, cle_164, cel_164, clt_164, ctl_164, ceq_164, cle_500, cel_500, clt_500, ctl_500, ceq_500, cle_1000, cel_1000, clt_1000, ctl_1000, ceq_1000, ixr, ixq, ixf, neg_nI, leq_nI, lt_nI, eq_nI, cl_nI, nI_add, pk_mul]
        have e2 : F_X11_put (hp x (u2 iv 0 9 0) ai aj ar pp (va_up f0 b (some (.inr (.inl (n, va_up g m (cutL (ai 20 j) v))))))) (x + 19) (nI j) (nI m) v = some (1, hp x (u2 (u2 iv 0 9 0) 19 0 0) ai (u2 aj 22 (30 * j + m) (cutL (ai 20 j) v)) ar pp (va_up f0 b (some (.inr (.inl (n, va_up g m (cutL (ai 20 j) v))))))) := by
          unfold F_X11_put
          simp only [Option.bind_some, s_within, if10, w32 (lo := 0) (hi := 3) (l := 0) (h := 3) rfl rfl, w32 (lo := 0) (hi := 2) (l := 0) (h := 2) rfl rfl, w32 (lo := 0) (hi := 8) (l := 0) (h := 8) rfl rfl, w32 (lo := 0) (hi := 1) (l := 0) (h := 1) rfl rfl, w32 (lo := 0) (hi := 500) (l := 0) (h := 500) rfl rfl, w32 (lo := -1000) (hi := 1000) (l := -1000) (h := 1000) rfl rfl, w32 (lo := 0) (hi := 4) (l := 0) (h := 4) rfl rfl, w32 (lo := -2048) (hi := 2048) (l := -2048) (h := 2048) rfl rfl, wi_19_0]
          rw [if_neg (not_not_intro h1)]
          simp (disch := omega) only [rn_19_2, rn_19_3, rn_19_4, ra_20, ra_21, Option.bind_some, mul_3, mul_4, mul_5, mul_9, mul_30, mul_160, add_1, add_2, add_3, add_4, add_5, add_6, addl_1, addl_2, addl_3, addl_4, cle_0, cel_0, clt_0, ctl_0, ceq_0, cle_1, cel_1, clt_1, ctl_1, ceq_1, cle_2, cel_2, clt_2, ctl_2, ceq_2, cle_3, cel_3, clt_3, ctl_3, ceq_3, cle_4, cel_4, clt_4, ctl_4, ceq_4, cle_5, cel_5, clt_5, ctl_5, ceq_5, cle_6, cel_6, clt_6, ctl_6, ceq_6, cle_7, cel_7, clt_7, ctl_7, ceq_7, cle_8, cel_8, clt_8, ctl_8, ceq_8, cle_9, cel_9, clt_9, ctl_9, ceq_9, cle_12, cel_12, clt_12, ctl_12, ceq_12, cle_20, cel_20, clt_20, ctl_20, ceq_20, cle_24, cel_24, clt_24, ctl_24, ceq_24, cle_25, cel_25, clt_25, ctl_25, ceq_25, cle_30, cel_30, clt_30, ctl_30, ceq_30, cle_36, cel_36, clt_36, ctl_36, ceq_36, cle_40, cel_40, clt_40, ctl_40, ceq_40, cle_41, cel_41, clt_41, ctl_41, ceq_41, cle_120, cel_120, clt_120, ctl_120, ceq_120, cle_160, cel_160, clt_160, ctl_160, ceq_160, cle_164, cel_164, clt_164, ctl_164, ceq_164, cle_500, cel_500, clt_500, ctl_500, ceq_500, cle_1000, cel_1000, clt_1000, ctl_1000, ceq_1000, ixr, ixq, ixf, neg_nI, leq_nI, lt_nI, eq_nI, cl_nI, nI_add, pk_mul, q8, w_ix q7]
          rw [if_neg hln, if_neg (not_not_intro h2)]
          unfold F_X11_put_103 cutL
          simp (disch := omega) only [wa_22, Option.bind_some, mul_3, mul_4, mul_5, mul_9, mul_30, mul_160, add_1, add_2, add_3, add_4, add_5, add_6, addl_1, addl_2, addl_3, addl_4, cle_0, cel_0, clt_0, ctl_0, ceq_0, cle_1, cel_1, clt_1, ctl_1, ceq_1, cle_2, cel_2, clt_2, ctl_2, ceq_2, cle_3, cel_3, clt_3, ctl_3, ceq_3, cle_4, cel_4, clt_4, ctl_4, ceq_4, cle_5, cel_5, clt_5, ctl_5, ceq_5, cle_6, cel_6, clt_6, ctl_6, ceq_6, cle_7, cel_7, clt_7, ctl_7, ceq_7, cle_8, cel_8, clt_8, ctl_8, ceq_8, cle_9, cel_9, clt_9, ctl_9, ceq_9, cle_12, cel_12, clt_12, ctl_12, ceq_12, cle_20, cel_20, clt_20, ctl_20, ceq_20, cle_24, cel_24, clt_24, ctl_24, ceq_24, cle_25, cel_25, clt_25, ctl_25, ceq_25, cle_30, cel_30, clt_30, ctl_30, ceq_30, cle_36, cel_36, clt_36, ctl_36, ceq_36, cle_40, cel_40, clt_40, ctl_40, ceq_40, cle_41, cel_41, clt_41, ctl_41, ceq_41, cle_120, cel_120, clt_120, ctl_120, ceq_120, cle_160, cel_160, clt_160, ctl_160, ceq_160, cle_164, cel_164, clt_164, ctl_164, ceq_164, cle_500, cel_500, clt_500, ctl_500, ceq_500, cle_1000, cel_1000, clt_1000, ctl_1000, ceq_1000, ixr, ixq, ixf, neg_nI, leq_nI, lt_nI, eq_nI, cl_nI, nI_add, pk_mul]
          split
          · rfl
          · split <;> rfl
        have hF : Fr x z z f0 (va_up f0 b (some (.inr (.inl (n, va_up g m (cutL (ai 20 j) v)))))) own own (fun t => t = (2, j)) := ⟨Nat.le_refl _, fun c c1 c2 => ⟨rfl, fun c3 => up_ne _ _ (fun e => c3 (by rw [e]; exact q3.2.2))⟩⟩
        refine ⟨1, _, e1, rk_19, _, _, _, _, _, _, e2, hz, own, ⟨rfl, hT.2⟩, ?_, hP.keep hF (fun _ => ⟨by simp, by simp⟩), hB, hR, hQ.keep hF (fun _ => ⟨by simp, by simp, by simp⟩)⟩
        intro t ht
        show shOk x z _ own t (ar 1 t) (ai 20 t) (ai 21 t) (va_up (aj 22) (30 * j + m) (cutL (ai 20 j) v))
        by_cases htj : t = j
        · subst htj
          refine Or.inr ⟨a, b, n, va_up g m (cutL (ai 20 t) v), q1, q2, q3, ?_, up_at _ _ _, q6, q7, q8, fun i hi => ?_⟩
          · rw [up_ne _ _ (ob_ne q2 q3 (by simp))]
            exact q4
          · by_cases him : i = m
            · subst him; rw [up_at, up_at]
            · rw [up_ne _ _ him, up_ne _ _ (by omega)]; exact q9 i hi
        · rcases (hS t ht).keep hF ⟨by simp, by simp [htj]⟩ with w | ⟨a', b', n', g', w1, w2, w3, w4, w5, w6, w7, w8, w9⟩
          · exact Or.inl w
          · exact Or.inr ⟨a', b', n', g', w1, w2, w3, w4, w5, w6, w7, w8, fun i hi => by rw [up_ne _ _ (by omega)]; exact w9 i hi⟩
      · refine ⟨-13, hp x (u2 (u2 iv 0 9 0) 0 9 3) ai aj ar pp f0, ?_, rk_19, _, _, _, _, _, _, ?_, base 3⟩
        · have eh : F_X6_has (hp x (u2 iv 0 9 0) ai aj ar pp f0) a i = some 0 := by
            unfold F_X6_has
            simp only [dN hx2, n1, dLen hx3, fLenJ q5, Option.bind_some, Int32.lt_iff_toInt_lt, Int32.le_iff_toInt_le, toInt_nI (show n < 2147483648 by omega), show (0 : Int32).toInt = 0 from rfl]
            split
            · rfl
            · rw [if_pos (by omega)]
          unfold F_X10_put
          simp only [Option.bind_some, s_within, if10, w32 (lo := 0) (hi := 3) (l := 0) (h := 3) rfl rfl, w32 (lo := 0) (hi := 2) (l := 0) (h := 2) rfl rfl, w32 (lo := 0) (hi := 8) (l := 0) (h := 8) rfl rfl, w32 (lo := 0) (hi := 1) (l := 0) (h := 1) rfl rfl, w32 (lo := 0) (hi := 500) (l := 0) (h := 500) rfl rfl, w32 (lo := -1000) (hi := 1000) (l := -1000) (h := 1000) rfl rfl, w32 (lo := 0) (hi := 4) (l := 0) (h := 4) rfl rfl, w32 (lo := -2048) (hi := 2048) (l := -2048) (h := 2048) rfl rfl, s_isSheet, s_isLane, s_isTerm, s_isWeight, wi_0_9]
          rw [if_neg (not_not_intro h1)]
          simp (disch := omega) only [rn_0_0, ra_1, Option.bind_some, mul_3, mul_4, mul_5, mul_9, mul_30, mul_160, add_1, add_2, add_3, add_4, add_5, add_6, addl_1, addl_2, addl_3, addl_4, cle_0, cel_0, clt_0, ctl_0, ceq_0, cle_1, cel_1, clt_1, ctl_1, ceq_1, cle_2, cel_2, clt_2, ctl_2, ceq_2, cle_3, cel_3, clt_3, ctl_3, ceq_3, cle_4, cel_4, clt_4, ctl_4, ceq_4, cle_5, cel_5, clt_5, ctl_5, ceq_5, cle_6, cel_6, clt_6, ctl_6, ceq_6, cle_7, cel_7, clt_7, ctl_7, ceq_7, cle_8, cel_8, clt_8, ctl_8, ceq_8, cle_9, cel_9, clt_9, ctl_9, ceq_9, cle_12, cel_12, clt_12, ctl_12, ceq_12, cle_20, cel_20, clt_20, ctl_20, ceq_20, cle_24, cel_24, clt_24, ctl_24, ceq_24, cle_25, cel_25, clt_25, ctl_25, ceq_25, cle_30, cel_30, clt_30, ctl_30, ceq_30, cle_36, cel_36, clt_36, ctl_36, ceq_36, cle_40, cel_40, clt_40, ctl_40, ceq_40, cle_41, cel_41, clt_41, ctl_41, ceq_41, cle_120, cel_120, clt_120, ctl_120, ceq_120, cle_160, cel_160, clt_160, ctl_160, ceq_160, cle_164, cel_164, clt_164, ctl_164, ceq_164, cle_500, cel_500, clt_500, ctl_500, ceq_500, cle_1000, cel_1000, clt_1000, ctl_1000, ceq_1000, ixr, ixq, ixf, neg_nI, leq_nI, lt_nI, eq_nI, cl_nI, nI_add, pk_mul, q1, rk_0]
          show (if hKd (hp x (u2 iv 0 9 0) ai aj ar pp f0) a = some 5 then _ else none) = _
          rw [if_pos (by rw [dK hx2]; exact fK q4), eh, Option.bind_some, if_pos rfl, if_pos trivial, s_faulted]
          rfl
        · show F_X11_put _ _ _ _ _ = _
          unfold F_X11_put
          simp only [Option.bind_some, s_within, if10, w32 (lo := 0) (hi := 3) (l := 0) (h := 3) rfl rfl, w32 (lo := 0) (hi := 2) (l := 0) (h := 2) rfl rfl, w32 (lo := 0) (hi := 8) (l := 0) (h := 8) rfl rfl, w32 (lo := 0) (hi := 1) (l := 0) (h := 1) rfl rfl, w32 (lo := 0) (hi := 500) (l := 0) (h := 500) rfl rfl, w32 (lo := -1000) (hi := 1000) (l := -1000) (h := 1000) rfl rfl, w32 (lo := 0) (hi := 4) (l := 0) (h := 4) rfl rfl, w32 (lo := -2048) (hi := 2048) (l := -2048) (h := 2048) rfl rfl, wi_19_0]
          rw [if_neg (not_not_intro h1)]
          simp (disch := omega) only [rn_19_2, rn_19_3, ra_20, ra_21, Option.bind_some, mul_3, mul_4, mul_5, mul_9, mul_30, mul_160, add_1, add_2, add_3, add_4, add_5, add_6, addl_1, addl_2, addl_3, addl_4, cle_0, cel_0, clt_0, ctl_0, ceq_0, cle_1, cel_1, clt_1, ctl_1, ceq_1, cle_2, cel_2, clt_2, ctl_2, ceq_2, cle_3, cel_3, clt_3, ctl_3, ceq_3, cle_4, cel_4, clt_4, ctl_4, ceq_4, cle_5, cel_5, clt_5, ctl_5, ceq_5, cle_6, cel_6, clt_6, ctl_6, ceq_6, cle_7, cel_7, clt_7, ctl_7, ceq_7, cle_8, cel_8, clt_8, ctl_8, ceq_8, cle_9, cel_9, clt_9, ctl_9, ceq_9, cle_12, cel_12, clt_12, ctl_12, ceq_12, cle_20, cel_20, clt_20, ctl_20, ceq_20, cle_24, cel_24, clt_24, ctl_24, ceq_24, cle_25, cel_25, clt_25, ctl_25, ceq_25, cle_30, cel_30, clt_30, ctl_30, ceq_30, cle_36, cel_36, clt_36, ctl_36, ceq_36, cle_40, cel_40, clt_40, ctl_40, ceq_40, cle_41, cel_41, clt_41, ctl_41, ceq_41, cle_120, cel_120, clt_120, ctl_120, ceq_120, cle_160, cel_160, clt_160, ctl_160, ceq_160, cle_164, cel_164, clt_164, ctl_164, ceq_164, cle_500, cel_500, clt_500, ctl_500, ceq_500, cle_1000, cel_1000, clt_1000, ctl_1000, ceq_1000, ixr, ixq, ixf, neg_nI, leq_nI, lt_nI, eq_nI, cl_nI, nI_add, pk_mul, q8, w_ix q7, rk_19, m_fails]
          rw [if_neg hln, if_pos h2]
          rfl
  · refine ⟨-1, hp x (u2 iv 0 9 0) ai aj ar pp f0, ?_, rk_19, u2 (u2 iv 0 9 0) 19 0 0, ai, aj, ar, pp, f0, ?_, hz, own, ⟨rfl, hT.2⟩, hS, hP, hB, hR, hQ⟩
    · unfold F_X10_put
      simp only [Option.bind_some, s_within, if10, w32 (lo := 0) (hi := 3) (l := 0) (h := 3) rfl rfl, w32 (lo := 0) (hi := 2) (l := 0) (h := 2) rfl rfl, w32 (lo := 0) (hi := 8) (l := 0) (h := 8) rfl rfl, w32 (lo := 0) (hi := 1) (l := 0) (h := 1) rfl rfl, w32 (lo := 0) (hi := 500) (l := 0) (h := 500) rfl rfl, w32 (lo := -1000) (hi := 1000) (l := -1000) (h := 1000) rfl rfl, w32 (lo := 0) (hi := 4) (l := 0) (h := 4) rfl rfl, w32 (lo := -2048) (hi := 2048) (l := -2048) (h := 2048) rfl rfl, s_isSheet, s_isLane, s_isTerm, s_isWeight, wi_0_9]
      rw [if_pos h1]
    · show F_X11_put _ _ _ _ _ = _
      unfold F_X11_put
      simp only [Option.bind_some, s_within, if10, w32 (lo := 0) (hi := 3) (l := 0) (h := 3) rfl rfl, w32 (lo := 0) (hi := 2) (l := 0) (h := 2) rfl rfl, w32 (lo := 0) (hi := 8) (l := 0) (h := 8) rfl rfl, w32 (lo := 0) (hi := 1) (l := 0) (h := 1) rfl rfl, w32 (lo := 0) (hi := 500) (l := 0) (h := 500) rfl rfl, w32 (lo := -1000) (hi := 1000) (l := -1000) (h := 1000) rfl rfl, w32 (lo := 0) (hi := 4) (l := 0) (h := 4) rfl rfl, w32 (lo := -2048) (hi := 2048) (l := -2048) (h := 2048) rfl rfl, wi_19_0]
      rw [if_pos h1]
end SHEETOPS2

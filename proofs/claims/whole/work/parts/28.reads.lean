section READS
variable {x z : Nat} {iv ai : Nat → Nat → Int32} {aj : Nat → Nat → Int64} {ar : Nat → Nat → Option Nat} {pp : Nat → Option Nat} {f0 : xHp}
theorem op_at (hI0 : INV x z iv ai aj ar pp f0) (k i ln : Int32) : Ow x z (F_X10_at (hp x iv ai aj ar pp f0) x k i ln) (fun h => F_X11_at h (x + 19) k i ln) := by
  obtain ⟨hz, own, hT, hS, hP, hB, hR, hQ⟩ := id hI0
  have base : ∀ w : Int32, INV x z (u2 (u2 (u2 (u2 iv 0 9 0) 0 9 w) 19 0 0) 19 0 w) ai aj ar pp f0 := fun w => ⟨hz, own, ⟨rfl, hT.2⟩, hS, hP, hB, hR, hQ⟩
  have base0 : INV x z (u2 (u2 iv 0 9 0) 19 0 0) ai aj ar pp f0 := ⟨hz, own, ⟨rfl, hT.2⟩, hS, hP, hB, hR, hQ⟩
  by_cases h1 : 0 ≤ k.toInt ∧ k.toInt ≤ 3
  · by_cases h2 : 0 ≤ ln.toInt ∧ ln.toInt ≤ 2
    · obtain ⟨j, hj, rfl⟩ := in4 h1
      rcases hS j hj with ⟨q1, q2⟩ | ⟨a, b, n, g, q1, q2, q3, q4, q5, q6, q7, q8, q9⟩
      · refine ⟨-9223372036854775808, hp x (u2 (u2 iv 0 9 0) 0 9 1) ai aj ar pp f0, ?_, rk_19, _, _, _, _, _, _, ?_, base 1⟩
        · unfold F_X10_at
          simp only [Option.bind_some, s_within, if10, w32 (lo := 0) (hi := 3) (l := 0) (h := 3) rfl rfl, w32 (lo := 0) (hi := 2) (l := 0) (h := 2) rfl rfl, w32 (lo := 0) (hi := 8) (l := 0) (h := 8) rfl rfl, w32 (lo := 0) (hi := 1) (l := 0) (h := 1) rfl rfl, w32 (lo := 0) (hi := 500) (l := 0) (h := 500) rfl rfl, w32 (lo := -1000) (hi := 1000) (l := -1000) (h := 1000) rfl rfl, w32 (lo := 0) (hi := 4) (l := 0) (h := 4) rfl rfl, w32 (lo := -2048) (hi := 2048) (l := -2048) (h := 2048) rfl rfl, s_isSheet, s_isLane, s_isTerm, s_isWeight, wi_0_9]
          rw [if_neg (not_not_intro h1), if_neg (not_not_intro h2)]
          simp (disch := omega) only [rn_0_0, ra_1, Option.bind_some, mul_3, mul_4, mul_5, mul_9, mul_30, mul_160, add_1, add_2, add_3, add_4, add_5, add_6, addl_1, addl_2, addl_3, addl_4, cle_0, cel_0, clt_0, ctl_0, ceq_0, cle_1, cel_1, clt_1, ctl_1, ceq_1, cle_2, cel_2, clt_2, ctl_2, ceq_2, cle_3, cel_3, clt_3, ctl_3, ceq_3, cle_4, cel_4, clt_4, ctl_4, ceq_4, cle_5, cel_5, clt_5, ctl_5, ceq_5, cle_6, cel_6, clt_6, ctl_6, ceq_6, cle_7, cel_7, clt_7, ctl_7, ceq_7, cle_8, cel_8, clt_8, ctl_8, ceq_8, cle_9, cel_9, clt_9, ctl_9, ceq_9, cle_12, cel_12, clt_12, ctl_12, ceq_12, cle_20, cel_20, clt_20, ctl_20, ceq_20, cle_24, cel_24, clt_24, ctl_24, ceq_24, cle_25, cel_25, clt_25, ctl_25, ceq_25, cle_30, cel_30, clt_30, ctl_30, ceq_30, cle_36, cel_36, clt_36, ctl_36, ceq_36, cle_40, cel_40, clt_40, ctl_40, ceq_40, cle_41, cel_41, clt_41, ctl_41, ceq_41, cle_120, cel_120, clt_120, ctl_120, ceq_120, cle_160, cel_160, clt_160, ctl_160, ceq_160, cle_164, cel_164, clt_164, ctl_164, ceq_164, cle_500, cel_500, clt_500, ctl_500, ceq_500, cle_1000, cel_1000, clt_1000, ctl_1000, ceq_1000, ixr, ixq, ixf, neg_nI, leq_nI, lt_nI, eq_nI, cl_nI, nI_add, pk_mul, q1]
          simp only [xnul]
          unfold F_X10_at_51
          simp only [xnul, rk_0, s_lostBy, if_true, Option.bind_some]
        · show F_X11_at _ _ _ _ _ = _
          unfold F_X11_at
          simp only [Option.bind_some, s_within, if10, w32 (lo := 0) (hi := 3) (l := 0) (h := 3) rfl rfl, w32 (lo := 0) (hi := 2) (l := 0) (h := 2) rfl rfl, w32 (lo := 0) (hi := 8) (l := 0) (h := 8) rfl rfl, w32 (lo := 0) (hi := 1) (l := 0) (h := 1) rfl rfl, w32 (lo := 0) (hi := 500) (l := 0) (h := 500) rfl rfl, w32 (lo := -1000) (hi := 1000) (l := -1000) (h := 1000) rfl rfl, w32 (lo := 0) (hi := 4) (l := 0) (h := 4) rfl rfl, w32 (lo := -2048) (hi := 2048) (l := -2048) (h := 2048) rfl rfl, wi_19_0]
          rw [if_neg (not_not_intro h1), if_neg (not_not_intro h2)]
          simp (disch := omega) only [rn_19_2, ra_20, Option.bind_some, mul_3, mul_4, mul_5, mul_9, mul_30, mul_160, add_1, add_2, add_3, add_4, add_5, add_6, addl_1, addl_2, addl_3, addl_4, cle_0, cel_0, clt_0, ctl_0, ceq_0, cle_1, cel_1, clt_1, ctl_1, ceq_1, cle_2, cel_2, clt_2, ctl_2, ceq_2, cle_3, cel_3, clt_3, ctl_3, ceq_3, cle_4, cel_4, clt_4, ctl_4, ceq_4, cle_5, cel_5, clt_5, ctl_5, ceq_5, cle_6, cel_6, clt_6, ctl_6, ceq_6, cle_7, cel_7, clt_7, ctl_7, ceq_7, cle_8, cel_8, clt_8, ctl_8, ceq_8, cle_9, cel_9, clt_9, ctl_9, ceq_9, cle_12, cel_12, clt_12, ctl_12, ceq_12, cle_20, cel_20, clt_20, ctl_20, ceq_20, cle_24, cel_24, clt_24, ctl_24, ceq_24, cle_25, cel_25, clt_25, ctl_25, ceq_25, cle_30, cel_30, clt_30, ctl_30, ceq_30, cle_36, cel_36, clt_36, ctl_36, ceq_36, cle_40, cel_40, clt_40, ctl_40, ceq_40, cle_41, cel_41, clt_41, ctl_41, ceq_41, cle_120, cel_120, clt_120, ctl_120, ceq_120, cle_160, cel_160, clt_160, ctl_160, ceq_160, cle_164, cel_164, clt_164, ctl_164, ceq_164, cle_500, cel_500, clt_500, ctl_500, ceq_500, cle_1000, cel_1000, clt_1000, ctl_1000, ceq_1000, ixr, ixq, ixf, neg_nI, leq_nI, lt_nI, eq_nI, cl_nI, nI_add, pk_mul, q2, if_true]
          unfold F_X11_at_60
          simp (disch := omega) only [rn_19_2, ra_20, Option.bind_some, mul_3, mul_4, mul_5, mul_9, mul_30, mul_160, add_1, add_2, add_3, add_4, add_5, add_6, addl_1, addl_2, addl_3, addl_4, cle_0, cel_0, clt_0, ctl_0, ceq_0, cle_1, cel_1, clt_1, ctl_1, ceq_1, cle_2, cel_2, clt_2, ctl_2, ceq_2, cle_3, cel_3, clt_3, ctl_3, ceq_3, cle_4, cel_4, clt_4, ctl_4, ceq_4, cle_5, cel_5, clt_5, ctl_5, ceq_5, cle_6, cel_6, clt_6, ctl_6, ceq_6, cle_7, cel_7, clt_7, ctl_7, ceq_7, cle_8, cel_8, clt_8, ctl_8, ceq_8, cle_9, cel_9, clt_9, ctl_9, ceq_9, cle_12, cel_12, clt_12, ctl_12, ceq_12, cle_20, cel_20, clt_20, ctl_20, ceq_20, cle_24, cel_24, clt_24, ctl_24, ceq_24, cle_25, cel_25, clt_25, ctl_25, ceq_25, cle_30, cel_30, clt_30, ctl_30, ceq_30, cle_36, cel_36, clt_36, ctl_36, ceq_36, cle_40, cel_40, clt_40, ctl_40, ceq_40, cle_41, cel_41, clt_41, ctl_41, ceq_41, cle_120, cel_120, clt_120, ctl_120, ceq_120, cle_160, cel_160, clt_160, ctl_160, ceq_160, cle_164, cel_164, clt_164, ctl_164, ceq_164, cle_500, cel_500, clt_500, ctl_500, ceq_500, cle_1000, cel_1000, clt_1000, ctl_1000, ceq_1000, ixr, ixq, ixf, neg_nI, leq_nI, lt_nI, eq_nI, cl_nI, nI_add, pk_mul, q2, if_true, rk_19, m_lost]
      · have hx2 : x + 41 ≤ a := q2.1
        have hx3 : x + 41 ≤ b := q3.1
        have n1 : hN f0 a [(5, 1)] = some b := fN q4 rfl rfl
        have n0 : hI f0 a [(5, 0)] = some (ai 20 j) := fI q4 rfl rfl
        have hln : ai 20 j ≠ -9 := by rcases q6 with q | q | q <;> rw [q] <;> decide
        by_cases h3 : ai 20 j = ln
        · subst h3
          have hkd : hKd (hp x (u2 iv 0 9 0) ai aj ar pp f0) a = some 5 := by rw [dK hx2]; exact fK q4
          by_cases h4 : 0 ≤ i.toInt ∧ i.toInt < n
          · obtain ⟨m, hm, rfl⟩ : ∃ m : Nat, m < n ∧ i = nI m := by
              rcases tri i (n := n) (by omega) with q | q
              · exact absurd h4 q
              · exact q
            refine ⟨g m, hp x (u2 iv 0 9 0) ai aj ar pp f0, ?_, rk_19, _, _, _, _, _, _, ?_, base0⟩
            · have eh : F_X6_has (hp x (u2 iv 0 9 0) ai aj ar pp f0) a (nI m) = some 1 := by
                unfold F_X6_has
                simp (disch := omega) only [dN hx2, n1, dLen hx3, fLenJ q5, Option.bind_some, mul_3, mul_4, mul_5, mul_9, mul_30, mul_160, add_1, add_2, add_3, add_4, add_5, add_6, addl_1, addl_2, addl_3, addl_4, cle_0, cel_0, clt_0, ctl_0, ceq_0, cle_1, cel_1, clt_1, ctl_1, ceq_1, cle_2, cel_2, clt_2, ctl_2, ceq_2, cle_3, cel_3, clt_3, ctl_3, ceq_3, cle_4, cel_4, clt_4, ctl_4, ceq_4, cle_5, cel_5, clt_5, ctl_5, ceq_5, cle_6, cel_6, clt_6, ctl_6, ceq_6, cle_7, cel_7, clt_7, ctl_7, ceq_7, cle_8, cel_8, clt_8, ctl_8, ceq_8, cle_9, cel_9, clt_9, ctl_9, ceq_9, cle_12, cel_12, clt_12, ctl_12, ceq_12, cle_20, cel_20, clt_20, ctl_20, ceq_20, cle_24, cel_24, clt_24, ctl_24, ceq_24, cle_25, cel_25, clt_25, ctl_25, ceq_25, cle_30, cel_30, clt_30, ctl_30, ceq_30, cle_36, cel_36, clt_36, ctl_36, ceq_36, cle_40, cel_40, clt_40, ctl_40, ceq_40, cle_41, cel_41, clt_41, ctl_41, ceq_41, cle_120, cel_120, clt_120, ctl_120, ceq_120, cle_160, cel_160, clt_160, ctl_160, ceq_160, cle_164, cel_164, clt_164, ctl_164, ceq_164, cle_500, cel_500, clt_500, ctl_500, ceq_500, cle_1000, cel_1000, clt_1000, ctl_1000, ceq_1000, ixr, ixq, ixf, neg_nI, leq_nI, lt_nI, eq_nI, cl_nI, nI_add, pk_mul]
                rw [if_neg (by omega), if_neg (by omega)]
              unfold F_X10_at
              simp only [Option.bind_some, s_within, if10, w32 (lo := 0) (hi := 3) (l := 0) (h := 3) rfl rfl, w32 (lo := 0) (hi := 2) (l := 0) (h := 2) rfl rfl, w32 (lo := 0) (hi := 8) (l := 0) (h := 8) rfl rfl, w32 (lo := 0) (hi := 1) (l := 0) (h := 1) rfl rfl, w32 (lo := 0) (hi := 500) (l := 0) (h := 500) rfl rfl, w32 (lo := -1000) (hi := 1000) (l := -1000) (h := 1000) rfl rfl, w32 (lo := 0) (hi := 4) (l := 0) (h := 4) rfl rfl, w32 (lo := -2048) (hi := 2048) (l := -2048) (h := 2048) rfl rfl, s_isSheet, s_isLane, s_isTerm, s_isWeight, wi_0_9]
              rw [if_neg (not_not_intro h1), if_neg (not_not_intro h2)]
              simp (disch := omega) only [rn_0_0, ra_1, Option.bind_some, mul_3, mul_4, mul_5, mul_9, mul_30, mul_160, add_1, add_2, add_3, add_4, add_5, add_6, addl_1, addl_2, addl_3, addl_4, cle_0, cel_0, clt_0, ctl_0, ceq_0, cle_1, cel_1, clt_1, ctl_1, ceq_1, cle_2, cel_2, clt_2, ctl_2, ceq_2, cle_3, cel_3, clt_3, ctl_3, ceq_3, cle_4, cel_4, clt_4, ctl_4, ceq_4, cle_5, cel_5, clt_5, ctl_5, ceq_5, cle_6, cel_6, clt_6, ctl_6, ceq_6, cle_7, cel_7, clt_7, ctl_7, ceq_7, cle_8, cel_8, clt_8, ctl_8, ceq_8, cle_9, cel_9, clt_9, ctl_9, ceq_9, cle_12, cel_12, clt_12, ctl_12, ceq_12, cle_20, cel_20, clt_20, ctl_20, ceq_20, cle_24, cel_24, clt_24, ctl_24, ceq_24, cle_25, cel_25, clt_25, ctl_25, ceq_25, cle_30, cel_30, clt_30, ctl_30, ceq_30, cle_36, cel_36, clt_36, ctl_36, ceq_36, cle_40, cel_40, clt_40, ctl_40, ceq_40, cle_41, cel_41, clt_41, ctl_41, ceq_41, cle_120, cel_120, clt_120, ctl_120, ceq_120, cle_160, cel_160, clt_160, ctl_160, ceq_160, cle_164, cel_164, clt_164, ctl_164, ceq_164, cle_500, cel_500, clt_500, ctl_500, ceq_500, cle_1000, cel_1000, clt_1000, ctl_1000, ceq_1000, ixr, ixq, ixf, neg_nI, leq_nI, lt_nI, eq_nI, cl_nI, nI_add, pk_mul, q1, xnul, dI hx2, n0, if_true]
              unfold F_X10_at_51
              simp (disch := omega) only [xnul, hkd, eh, if_true, Option.bind_some, dN hx2, n1, dJld hx3, fJld q5, mul_3, mul_4, mul_5, mul_9, mul_30, mul_160, add_1, add_2, add_3, add_4, add_5, add_6, addl_1, addl_2, addl_3, addl_4, cle_0, cel_0, clt_0, ctl_0, ceq_0, cle_1, cel_1, clt_1, ctl_1, ceq_1, cle_2, cel_2, clt_2, ctl_2, ceq_2, cle_3, cel_3, clt_3, ctl_3, ceq_3, cle_4, cel_4, clt_4, ctl_4, ceq_4, cle_5, cel_5, clt_5, ctl_5, ceq_5, cle_6, cel_6, clt_6, ctl_6, ceq_6, cle_7, cel_7, clt_7, ctl_7, ceq_7, cle_8, cel_8, clt_8, ctl_8, ceq_8, cle_9, cel_9, clt_9, ctl_9, ceq_9, cle_12, cel_12, clt_12, ctl_12, ceq_12, cle_20, cel_20, clt_20, ctl_20, ceq_20, cle_24, cel_24, clt_24, ctl_24, ceq_24, cle_25, cel_25, clt_25, ctl_25, ceq_25, cle_30, cel_30, clt_30, ctl_30, ceq_30, cle_36, cel_36, clt_36, ctl_36, ceq_36, cle_40, cel_40, clt_40, ctl_40, ceq_40, cle_41, cel_41, clt_41, ctl_41, ceq_41, cle_120, cel_120, clt_120, ctl_120, ceq_120, cle_160, cel_160, clt_160, ctl_160, ceq_160, cle_164, cel_164, clt_164, ctl_164, ceq_164, cle_500, cel_500, clt_500, ctl_500, ceq_500, cle_1000, cel_1000, clt_1000, ctl_1000, ceq_1000, ixr, ixq, ixf, neg_nI, leq_nI, lt_nI, eq_nI, cl_nI, nI_add, pk_mul, show ((1 : Int32) = 0) = False by decide, if_false]
            · show F_X11_at _ _ _ _ _ = _
              unfold F_X11_at
              simp only [Option.bind_some, s_within, if10, w32 (lo := 0) (hi := 3) (l := 0) (h := 3) rfl rfl, w32 (lo := 0) (hi := 2) (l := 0) (h := 2) rfl rfl, w32 (lo := 0) (hi := 8) (l := 0) (h := 8) rfl rfl, w32 (lo := 0) (hi := 1) (l := 0) (h := 1) rfl rfl, w32 (lo := 0) (hi := 500) (l := 0) (h := 500) rfl rfl, w32 (lo := -1000) (hi := 1000) (l := -1000) (h := 1000) rfl rfl, w32 (lo := 0) (hi := 4) (l := 0) (h := 4) rfl rfl, w32 (lo := -2048) (hi := 2048) (l := -2048) (h := 2048) rfl rfl, wi_19_0]
              rw [if_neg (not_not_intro h1), if_neg (not_not_intro h2)]
              simp (disch := omega) only [rn_19_2, ra_20, Option.bind_some, mul_3, mul_4, mul_5, mul_9, mul_30, mul_160, add_1, add_2, add_3, add_4, add_5, add_6, addl_1, addl_2, addl_3, addl_4, cle_0, cel_0, clt_0, ctl_0, ceq_0, cle_1, cel_1, clt_1, ctl_1, ceq_1, cle_2, cel_2, clt_2, ctl_2, ceq_2, cle_3, cel_3, clt_3, ctl_3, ceq_3, cle_4, cel_4, clt_4, ctl_4, ceq_4, cle_5, cel_5, clt_5, ctl_5, ceq_5, cle_6, cel_6, clt_6, ctl_6, ceq_6, cle_7, cel_7, clt_7, ctl_7, ceq_7, cle_8, cel_8, clt_8, ctl_8, ceq_8, cle_9, cel_9, clt_9, ctl_9, ceq_9, cle_12, cel_12, clt_12, ctl_12, ceq_12, cle_20, cel_20, clt_20, ctl_20, ceq_20, cle_24, cel_24, clt_24, ctl_24, ceq_24, cle_25, cel_25, clt_25, ctl_25, ceq_25, cle_30, cel_30, clt_30, ctl_30, ceq_30, cle_36, cel_36, clt_36, ctl_36, ceq_36, cle_40, cel_40, clt_40, ctl_40, ceq_40, cle_41, cel_41, clt_41, ctl_41, ceq_41, cle_120, cel_120, clt_120, ctl_120, ceq_120, cle_160, cel_160, clt_160, ctl_160, ceq_160, cle_164, cel_164, clt_164, ctl_164, ceq_164, cle_500, cel_500, clt_500, ctl_500, ceq_500, cle_1000, cel_1000, clt_1000, ctl_1000, ceq_1000, ixr, ixq, ixf, neg_nI, leq_nI, lt_nI, eq_nI, cl_nI, nI_add, pk_mul, if_true]
              rw [if_neg hln]
              unfold F_X11_at_60
              simp (disch := omega) only [rn_19_2, rn_19_3, rn_19_4, ra_20, ra_21, ra_22, Option.bind_some, mul_3, mul_4, mul_5, mul_9, mul_30, mul_160, add_1, add_2, add_3, add_4, add_5, add_6, addl_1, addl_2, addl_3, addl_4, cle_0, cel_0, clt_0, ctl_0, ceq_0, cle_1, cel_1, clt_1, ctl_1, ceq_1, cle_2, cel_2, clt_2, ctl_2, ceq_2, cle_3, cel_3, clt_3, ctl_3, ceq_3, cle_4, cel_4, clt_4, ctl_4, ceq_4, cle_5, cel_5, clt_5, ctl_5, ceq_5, cle_6, cel_6, clt_6, ctl_6, ceq_6, cle_7, cel_7, clt_7, ctl_7, ceq_7, cle_8, cel_8, clt_8, ctl_8, ceq_8, cle_9, cel_9, clt_9, ctl_9, ceq_9, cle_12, cel_12, clt_12, ctl_12, ceq_12, cle_20, cel_20, clt_20, ctl_20, ceq_20, cle_24, cel_24, clt_24, ctl_24, ceq_24, cle_25, cel_25, clt_25, ctl_25, ceq_25, cle_30, cel_30, clt_30, ctl_30, ceq_30, cle_36, cel_36, clt_36, ctl_36, ceq_36, cle_40, cel_40, clt_40, ctl_40, ceq_40, cle_41, cel_41, clt_41, ctl_41, ceq_41, cle_120, cel_120, clt_120, ctl_120, ceq_120, cle_160, cel_160, clt_160, ctl_160, ceq_160, cle_164, cel_164, clt_164, ctl_164, ceq_164, cle_500, cel_500, clt_500, ctl_500, ceq_500, cle_1000, cel_1000, clt_1000, ctl_1000, ceq_1000, ixr, ixq, ixf, neg_nI, leq_nI, lt_nI, eq_nI, cl_nI, nI_add, pk_mul, q8, s_within, if10, w_ix q7]
              rw [if_neg hln, if_neg (not_not_intro h4), q9 m hm]
          · refine ⟨-9223372036854775808, hp x (u2 (u2 iv 0 9 0) 0 9 3) ai aj ar pp f0, ?_, rk_19, _, _, _, _, _, _, ?_, base 3⟩
            · have eh : F_X6_has (hp x (u2 iv 0 9 0) ai aj ar pp f0) a i = some 0 := by
                unfold F_X6_has
                simp only [dN hx2, n1, dLen hx3, fLenJ q5, Option.bind_some, Int32.lt_iff_toInt_lt, Int32.le_iff_toInt_le, toInt_nI (show n < 2147483648 by omega), show (0 : Int32).toInt = 0 from rfl]
                split
                · rfl
                · rw [if_pos (by omega)]
              unfold F_X10_at
              simp only [Option.bind_some, s_within, if10, w32 (lo := 0) (hi := 3) (l := 0) (h := 3) rfl rfl, w32 (lo := 0) (hi := 2) (l := 0) (h := 2) rfl rfl, w32 (lo := 0) (hi := 8) (l := 0) (h := 8) rfl rfl, w32 (lo := 0) (hi := 1) (l := 0) (h := 1) rfl rfl, w32 (lo := 0) (hi := 500) (l := 0) (h := 500) rfl rfl, w32 (lo := -1000) (hi := 1000) (l := -1000) (h := 1000) rfl rfl, w32 (lo := 0) (hi := 4) (l := 0) (h := 4) rfl rfl, w32 (lo := -2048) (hi := 2048) (l := -2048) (h := 2048) rfl rfl, s_isSheet, s_isLane, s_isTerm, s_isWeight, wi_0_9]
              rw [if_neg (not_not_intro h1), if_neg (not_not_intro h2)]
              simp (disch := omega) only [rn_0_0, ra_1, Option.bind_some, mul_3, mul_4, mul_5, mul_9, mul_30, mul_160, add_1, add_2, add_3, add_4, add_5, add_6, addl_1, addl_2, addl_3, addl_4, cle_0, cel_0, clt_0, ctl_0, ceq_0, cle_1, cel_1, clt_1, ctl_1, ceq_1, cle_2, cel_2, clt_2, ctl_2, ceq_2, cle_3, cel_3, clt_3, ctl_3, ceq_3, cle_4, cel_4, clt_4, ctl_4, ceq_4, cle_5, cel_5, clt_5, ctl_5, ceq_5, cle_6, cel_6, clt_6, ctl_6, ceq_6, cle_7, cel_7, clt_7, ctl_7, ceq_7, cle_8, cel_8, clt_8, ctl_8, ceq_8, cle_9, cel_9, clt_9, ctl_9, ceq_9, cle_12, cel_12, clt_12, ctl_12, ceq_12, cle_20, cel_20, clt_20, ctl_20, ceq_20, cle_24, cel_24, clt_24, ctl_24, ceq_24, cle_25, cel_25, clt_25, ctl_25, ceq_25, cle_30, cel_30, clt_30, ctl_30, ceq_30, cle_36, cel_36, clt_36, ctl_36, ceq_36, cle_40, cel_40, clt_40, ctl_40, ceq_40, cle_41, cel_41, clt_41, ctl_41, ceq_41, cle_120, cel_120, clt_120, ctl_120, ceq_120, cle_160, cel_160, clt_160, ctl_160, ceq_160, cle_164, cel_164, clt_164, ctl_164, ceq_164, cle_500, cel_500, clt_500, ctl_500, ceq_500, cle_1000, cel_1000, clt_1000, ctl_1000, ceq_1000, ixr, ixq, ixf, neg_nI, leq_nI, lt_nI, eq_nI, cl_nI, nI_add, pk_mul, q1, xnul, dI hx2, n0, if_true]
              unfold F_X10_at_51
              simp only [xnul, hkd, eh, if_true, Option.bind_some, rk_0, s_lostBy]
            · show F_X11_at _ _ _ _ _ = _
              unfold F_X11_at
              simp only [Option.bind_some, s_within, if10, w32 (lo := 0) (hi := 3) (l := 0) (h := 3) rfl rfl, w32 (lo := 0) (hi := 2) (l := 0) (h := 2) rfl rfl, w32 (lo := 0) (hi := 8) (l := 0) (h := 8) rfl rfl, w32 (lo := 0) (hi := 1) (l := 0) (h := 1) rfl rfl, w32 (lo := 0) (hi := 500) (l := 0) (h := 500) rfl rfl, w32 (lo := -1000) (hi := 1000) (l := -1000) (h := 1000) rfl rfl, w32 (lo := 0) (hi := 4) (l := 0) (h := 4) rfl rfl, w32 (lo := -2048) (hi := 2048) (l := -2048) (h := 2048) rfl rfl, wi_19_0]
              rw [if_neg (not_not_intro h1), if_neg (not_not_intro h2)]
              simp (disch := omega) only [rn_19_2, ra_20, Option.bind_some, mul_3, mul_4, mul_5, mul_9, mul_30, mul_160, add_1, add_2, add_3, add_4, add_5, add_6, addl_1, addl_2, addl_3, addl_4, cle_0, cel_0, clt_0, ctl_0, ceq_0, cle_1, cel_1, clt_1, ctl_1, ceq_1, cle_2, cel_2, clt_2, ctl_2, ceq_2, cle_3, cel_3, clt_3, ctl_3, ceq_3, cle_4, cel_4, clt_4, ctl_4, ceq_4, cle_5, cel_5, clt_5, ctl_5, ceq_5, cle_6, cel_6, clt_6, ctl_6, ceq_6, cle_7, cel_7, clt_7, ctl_7, ceq_7, cle_8, cel_8, clt_8, ctl_8, ceq_8, cle_9, cel_9, clt_9, ctl_9, ceq_9, cle_12, cel_12, clt_12, ctl_12, ceq_12, cle_20, cel_20, clt_20, ctl_20, ceq_20, cle_24, cel_24, clt_24, ctl_24, ceq_24, cle_25, cel_25, clt_25, ctl_25, ceq_25, cle_30, cel_30, clt_30, ctl_30, ceq_30, cle_36, cel_36, clt_36, ctl_36, ceq_36, cle_40, cel_40, clt_40, ctl_40, ceq_40, cle_41, cel_41, clt_41, ctl_41, ceq_41, cle_120, cel_120, clt_120, ctl_120, ceq_120, cle_160, cel_160, clt_160, ctl_160, ceq_160, cle_164, cel_164, clt_164, ctl_164, ceq_164, cle_500, cel_500, clt_500, ctl_500, ceq_500, cle_1000, cel_1000, clt_1000, ctl_1000, ceq_1000, ixr, ixq, ixf, neg_nI, leq_nI, lt_nI, eq_nI, cl_nI, nI_add, pk_mul, if_true]
              rw [if_neg hln]
              unfold F_X11_at_60
              simp (disch := omega) only [rn_19_2, rn_19_3, rn_19_4, ra_20, ra_21, ra_22, Option.bind_some, mul_3, mul_4, mul_5, mul_9, mul_30, mul_160, add_1, add_2, add_3, add_4, add_5, add_6, addl_1, addl_2, addl_3, addl_4, cle_0, cel_0, clt_0, ctl_0, ceq_0, cle_1, cel_1, clt_1, ctl_1, ceq_1, cle_2, cel_2, clt_2, ctl_2, ceq_2, cle_3, cel_3, clt_3, ctl_3, ceq_3, cle_4, cel_4, clt_4, ctl_4, ceq_4, cle_5, cel_5, clt_5, ctl_5, ceq_5, cle_6, cel_6, clt_6, ctl_6, ceq_6, cle_7, cel_7, clt_7, ctl_7, ceq_7, cle_8, cel_8, clt_8, ctl_8, ceq_8, cle_9, cel_9, clt_9, ctl_9, ceq_9, cle_12, cel_12, clt_12, ctl_12, ceq_12, cle_20, cel_20, clt_20, ctl_20, ceq_20, cle_24, cel_24, clt_24, ctl_24, ceq_24, cle_25, cel_25, clt_25, ctl_25, ceq_25, cle_30, cel_30, clt_30, ctl_30, ceq_30, cle_36, cel_36, clt_36, ctl_36, ceq_36, cle_40, cel_40, clt_40, ctl_40, ceq_40, cle_41, cel_41, clt_41, ctl_41, ceq_41, cle_120, cel_120, clt_120, ctl_120, ceq_120, cle_160, cel_160, clt_160, ctl_160, ceq_160, cle_164, cel_164, clt_164, ctl_164, ceq_164, cle_500, cel_500, clt_500, ctl_500, ceq_500, cle_1000, cel_1000, clt_1000, ctl_1000, ceq_1000, ixr, ixq, ixf, neg_nI, leq_nI, lt_nI, eq_nI, cl_nI, nI_add, pk_mul, q8, s_within, if10, w_ix q7, rk_19, m_lost]
              rw [if_neg hln, if_pos h4, if_pos trivial]
        · refine ⟨-9223372036854775808, hp x (u2 (u2 iv 0 9 0) 0 9 2) ai aj ar pp f0, ?_, rk_19, _, _, _, _, _, _, ?_, base 2⟩
          · unfold F_X10_at
            simp only [Option.bind_some, s_within, if10, w32 (lo := 0) (hi := 3) (l := 0) (h := 3) rfl rfl, w32 (lo := 0) (hi := 2) (l := 0) (h := 2) rfl rfl, w32 (lo := 0) (hi := 8) (l := 0) (h := 8) rfl rfl, w32 (lo := 0) (hi := 1) (l := 0) (h := 1) rfl rfl, w32 (lo := 0) (hi := 500) (l := 0) (h := 500) rfl rfl, w32 (lo := -1000) (hi := 1000) (l := -1000) (h := 1000) rfl rfl, w32 (lo := 0) (hi := 4) (l := 0) (h := 4) rfl rfl, w32 (lo := -2048) (hi := 2048) (l := -2048) (h := 2048) rfl rfl, s_isSheet, s_isLane, s_isTerm, s_isWeight, wi_0_9]
            rw [if_neg (not_not_intro h1), if_neg (not_not_intro h2)]
            simp (disch := omega) only [rn_0_0, ra_1, Option.bind_some, mul_3, mul_4, mul_5, mul_9, mul_30, mul_160, add_1, add_2, add_3, add_4, add_5, add_6, addl_1, addl_2, addl_3, addl_4, cle_0, cel_0, clt_0, ctl_0, ceq_0, cle_1, cel_1, clt_1, ctl_1, ceq_1, cle_2, cel_2, clt_2, ctl_2, ceq_2, cle_3, cel_3, clt_3, ctl_3, ceq_3, cle_4, cel_4, clt_4, ctl_4, ceq_4, cle_5, cel_5, clt_5, ctl_5, ceq_5, cle_6, cel_6, clt_6, ctl_6, ceq_6, cle_7, cel_7, clt_7, ctl_7, ceq_7, cle_8, cel_8, clt_8, ctl_8, ceq_8, cle_9, cel_9, clt_9, ctl_9, ceq_9, cle_12, cel_12, clt_12, ctl_12, ceq_12, cle_20, cel_20, clt_20, ctl_20, ceq_20, cle_24, cel_24, clt_24, ctl_24, ceq_24, cle_25, cel_25, clt_25, ctl_25, ceq_25, cle_30, cel_30, clt_30, ctl_30, ceq_30, cle_36, cel_36, clt_36, ctl_36, ceq_36, cle_40, cel_40, clt_40, ctl_40, ceq_40, cle_41, cel_41, clt_41, ctl_41, ceq_41, cle_120, cel_120, clt_120, ctl_120, ceq_120, cle_160, cel_160, clt_160, ctl_160, ceq_160, cle_164, cel_164, clt_164, ctl_164, ceq_164, cle_500, cel_500, clt_500, ctl_500, ceq_500, cle_1000, cel_1000, clt_1000, ctl_1000, ceq_1000, ixr, ixq, ixf, neg_nI, leq_nI, lt_nI, eq_nI, cl_nI, nI_add, pk_mul, q1, xnul, dI hx2, n0]
            rw [if_neg h3]
            simp only [rk_0, s_lostBy, if_true, Option.bind_some]
          · show F_X11_at _ _ _ _ _ = _
            unfold F_X11_at
            simp only [Option.bind_some, s_within, if10, w32 (lo := 0) (hi := 3) (l := 0) (h := 3) rfl rfl, w32 (lo := 0) (hi := 2) (l := 0) (h := 2) rfl rfl, w32 (lo := 0) (hi := 8) (l := 0) (h := 8) rfl rfl, w32 (lo := 0) (hi := 1) (l := 0) (h := 1) rfl rfl, w32 (lo := 0) (hi := 500) (l := 0) (h := 500) rfl rfl, w32 (lo := -1000) (hi := 1000) (l := -1000) (h := 1000) rfl rfl, w32 (lo := 0) (hi := 4) (l := 0) (h := 4) rfl rfl, w32 (lo := -2048) (hi := 2048) (l := -2048) (h := 2048) rfl rfl, wi_19_0]
            rw [if_neg (not_not_intro h1), if_neg (not_not_intro h2)]
            simp (disch := omega) only [rn_19_2, ra_20, Option.bind_some, mul_3, mul_4, mul_5, mul_9, mul_30, mul_160, add_1, add_2, add_3, add_4, add_5, add_6, addl_1, addl_2, addl_3, addl_4, cle_0, cel_0, clt_0, ctl_0, ceq_0, cle_1, cel_1, clt_1, ctl_1, ceq_1, cle_2, cel_2, clt_2, ctl_2, ceq_2, cle_3, cel_3, clt_3, ctl_3, ceq_3, cle_4, cel_4, clt_4, ctl_4, ceq_4, cle_5, cel_5, clt_5, ctl_5, ceq_5, cle_6, cel_6, clt_6, ctl_6, ceq_6, cle_7, cel_7, clt_7, ctl_7, ceq_7, cle_8, cel_8, clt_8, ctl_8, ceq_8, cle_9, cel_9, clt_9, ctl_9, ceq_9, cle_12, cel_12, clt_12, ctl_12, ceq_12, cle_20, cel_20, clt_20, ctl_20, ceq_20, cle_24, cel_24, clt_24, ctl_24, ceq_24, cle_25, cel_25, clt_25, ctl_25, ceq_25, cle_30, cel_30, clt_30, ctl_30, ceq_30, cle_36, cel_36, clt_36, ctl_36, ceq_36, cle_40, cel_40, clt_40, ctl_40, ceq_40, cle_41, cel_41, clt_41, ctl_41, ceq_41, cle_120, cel_120, clt_120, ctl_120, ceq_120, cle_160, cel_160, clt_160, ctl_160, ceq_160, cle_164, cel_164, clt_164, ctl_164, ceq_164, cle_500, cel_500, clt_500, ctl_500, ceq_500, cle_1000, cel_1000, clt_1000, ctl_1000, ceq_1000, ixr, ixq, ixf, neg_nI, leq_nI, lt_nI, eq_nI, cl_nI, nI_add, pk_mul, rk_19, m_lost]
            rw [if_neg hln, if_neg h3, if_pos trivial]
    · refine ⟨-9223372036854775808, hp x (u2 iv 0 9 0) ai aj ar pp f0, ?_, rk_19, _, _, _, _, _, _, ?_, base0⟩
      · unfold F_X10_at F_X10_at_19
        simp only [Option.bind_some, s_within, if10, w32 (lo := 0) (hi := 3) (l := 0) (h := 3) rfl rfl, w32 (lo := 0) (hi := 2) (l := 0) (h := 2) rfl rfl, w32 (lo := 0) (hi := 8) (l := 0) (h := 8) rfl rfl, w32 (lo := 0) (hi := 1) (l := 0) (h := 1) rfl rfl, w32 (lo := 0) (hi := 500) (l := 0) (h := 500) rfl rfl, w32 (lo := -1000) (hi := 1000) (l := -1000) (h := 1000) rfl rfl, w32 (lo := 0) (hi := 4) (l := 0) (h := 4) rfl rfl, w32 (lo := -2048) (hi := 2048) (l := -2048) (h := 2048) rfl rfl, s_isSheet, s_isLane, s_isTerm, s_isWeight, wi_0_9]
        rw [if_neg (not_not_intro h1), if_pos h2]
      · show F_X11_at _ _ _ _ _ = _
        unfold F_X11_at F_X11_at_29
        simp only [Option.bind_some, s_within, if10, w32 (lo := 0) (hi := 3) (l := 0) (h := 3) rfl rfl, w32 (lo := 0) (hi := 2) (l := 0) (h := 2) rfl rfl, w32 (lo := 0) (hi := 8) (l := 0) (h := 8) rfl rfl, w32 (lo := 0) (hi := 1) (l := 0) (h := 1) rfl rfl, w32 (lo := 0) (hi := 500) (l := 0) (h := 500) rfl rfl, w32 (lo := -1000) (hi := 1000) (l := -1000) (h := 1000) rfl rfl, w32 (lo := 0) (hi := 4) (l := 0) (h := 4) rfl rfl, w32 (lo := -2048) (hi := 2048) (l := -2048) (h := 2048) rfl rfl, wi_19_0]
        rw [if_neg (not_not_intro h1), if_pos h2]
  · refine ⟨-9223372036854775808, hp x (u2 iv 0 9 0) ai aj ar pp f0, ?_, rk_19, _, _, _, _, _, _, ?_, base0⟩
    · unfold F_X10_at F_X10_at_19
      simp only [Option.bind_some, s_within, if10, w32 (lo := 0) (hi := 3) (l := 0) (h := 3) rfl rfl, w32 (lo := 0) (hi := 2) (l := 0) (h := 2) rfl rfl, w32 (lo := 0) (hi := 8) (l := 0) (h := 8) rfl rfl, w32 (lo := 0) (hi := 1) (l := 0) (h := 1) rfl rfl, w32 (lo := 0) (hi := 500) (l := 0) (h := 500) rfl rfl, w32 (lo := -1000) (hi := 1000) (l := -1000) (h := 1000) rfl rfl, w32 (lo := 0) (hi := 4) (l := 0) (h := 4) rfl rfl, w32 (lo := -2048) (hi := 2048) (l := -2048) (h := 2048) rfl rfl, s_isSheet, s_isLane, s_isTerm, s_isWeight, wi_0_9]
      rw [if_pos h1]
    · show F_X11_at _ _ _ _ _ = _
      unfold F_X11_at F_X11_at_29
      simp only [Option.bind_some, s_within, if10, w32 (lo := 0) (hi := 3) (l := 0) (h := 3) rfl rfl, w32 (lo := 0) (hi := 2) (l := 0) (h := 2) rfl rfl, w32 (lo := 0) (hi := 8) (l := 0) (h := 8) rfl rfl, w32 (lo := 0) (hi := 1) (l := 0) (h := 1) rfl rfl, w32 (lo := 0) (hi := 500) (l := 0) (h := 500) rfl rfl, w32 (lo := -1000) (hi := 1000) (l := -1000) (h := 1000) rfl rfl, w32 (lo := 0) (hi := 4) (l := 0) (h := 4) rfl rfl, w32 (lo := -2048) (hi := 2048) (l := -2048) (h := 2048) rfl rfl, wi_19_0]
      rw [if_pos h1]
/-! numbers of polynomials, boxes, proofs -/
theorem m_isPoly {n : Nat} (hn : n ≤ 30) (hc : iv 19 5 = nI n) (p : Int32) : F_X11_isPoly (hp x iv ai aj ar pp f0) (x + 19) p = some (if 0 ≤ p.toInt ∧ p.toInt < n then 1 else 0) := by
  unfold F_X11_isPoly
  simp only [ri_19_5, hc, Option.bind_some, Int32.lt_iff_toInt_lt, Int32.le_iff_toInt_le, toInt_nI (show n < 2147483648 by omega), show (0 : Int32).toInt = 0 from rfl]
  repeat' split
  all_goals first | rfl | omega
theorem m_isBox {n : Nat} (hn : n ≤ 30) (hc : iv 19 8 = nI n) (p : Int32) : F_X11_isBox (hp x iv ai aj ar pp f0) (x + 19) p = some (if 0 ≤ p.toInt ∧ p.toInt < n then 1 else 0) := by
  unfold F_X11_isBox
  simp only [ri_19_8, hc, Option.bind_some, Int32.lt_iff_toInt_lt, Int32.le_iff_toInt_le, toInt_nI (show n < 2147483648 by omega), show (0 : Int32).toInt = 0 from rfl]
  repeat' split
  all_goals first | rfl | omega
theorem s_isBox {n : Nat} (hn : n ≤ 30) (hc : iv 0 7 = nI n) (p : Int32) : F_X10_isBox (hp x iv ai aj ar pp f0) x p = some (if 0 ≤ p.toInt ∧ p.toInt < n then 1 else 0) := by
  unfold F_X10_isBox
  simp only [ri_0_7, hc, Option.bind_some, Int32.lt_iff_toInt_lt, Int32.le_iff_toInt_le, toInt_nI (show n < 2147483648 by omega), show (0 : Int32).toInt = 0 from rfl]
  repeat' split
  all_goals first | rfl | omega
theorem m_isProof {n : Nat} (hn : n ≤ 40) (hc : iv 19 20 = nI n) (p : Int32) : F_X11_isProof (hp x iv ai aj ar pp f0) (x + 19) p = some (if 0 ≤ p.toInt ∧ p.toInt < n then 1 else 0) := by
  unfold F_X11_isProof
  simp only [ri_19_20, hc, Option.bind_some, Int32.lt_iff_toInt_lt, Int32.le_iff_toInt_le, toInt_nI (show n < 2147483648 by omega), show (0 : Int32).toInt = 0 from rfl]
  repeat' split
  all_goals first | rfl | omega
theorem s_polyNo {n : Nat} (hn : n ≤ 30) (hc : iv 0 6 = nI n) {p : Int32} (h : ¬ (0 ≤ p.toInt ∧ p.toInt < n)) : F_X10_polynomialOf (hp x iv ai aj ar pp f0) x p = some none := by
  unfold F_X10_polynomialOf F_X10_polynomialOf_21
  simp only [ri_0_6, hc, Option.bind_some, Int32.lt_iff_toInt_lt, Int32.le_iff_toInt_le, toInt_nI (show n < 2147483648 by omega), show (0 : Int32).toInt = 0 from rfl]
  by_cases h1 : p.toInt < 0
  · rw [if_pos h1]
  · rw [if_neg h1, if_pos (by omega)]
theorem s_polyOk {n : Nat} (hn : n ≤ 30) (hc : iv 0 6 = nI n) {p : Nat} (h : p < n) : F_X10_polynomialOf (hp x iv ai aj ar pp f0) x (nI p) = some (ar 2 p) := by
  unfold F_X10_polynomialOf
  simp (disch := omega) only [ri_0_6, hc, rn_0_1, ra_2, Option.bind_some, mul_3, mul_4, mul_5, mul_9, mul_30, mul_160, add_1, add_2, add_3, add_4, add_5, add_6, addl_1, addl_2, addl_3, addl_4, cle_0, cel_0, clt_0, ctl_0, ceq_0, cle_1, cel_1, clt_1, ctl_1, ceq_1, cle_2, cel_2, clt_2, ctl_2, ceq_2, cle_3, cel_3, clt_3, ctl_3, ceq_3, cle_4, cel_4, clt_4, ctl_4, ceq_4, cle_5, cel_5, clt_5, ctl_5, ceq_5, cle_6, cel_6, clt_6, ctl_6, ceq_6, cle_7, cel_7, clt_7, ctl_7, ceq_7, cle_8, cel_8, clt_8, ctl_8, ceq_8, cle_9, cel_9, clt_9, ctl_9, ceq_9, cle_12, cel_12, clt_12, ctl_12, ceq_12, cle_20, cel_20, clt_20, ctl_20, ceq_20, cle_24, cel_24, clt_24, ctl_24, ceq_24, cle_25, cel_25, clt_25, ctl_25, ceq_25, cle_30, cel_30, clt_30, ctl_30, ceq_30, cle_36, cel_36, clt_36, ctl_36, ceq_36, cle_40, cel_40, clt_40, ctl_40, ceq_40, cle_41, cel_41, clt_41, ctl_41, ceq_41, cle_120, cel_120, clt_120, ctl_120, ceq_120, cle_160, cel_160, clt_160, ctl_160, ceq_160, cle_164, cel_164, clt_164, ctl_164, ceq_164, cle_500, cel_500, clt_500, ctl_500, ceq_500, cle_1000, cel_1000, clt_1000, ctl_1000, ceq_1000, ixr, ixq, ixf, neg_nI, leq_nI, lt_nI, eq_nI, cl_nI, nI_add, pk_mul]
  rw [if_neg (by omega), if_neg (by omega)]
theorem s_proofNo {n : Nat} (hn : n ≤ 40) (hc : iv 0 8 = nI n) {p : Int32} (h : ¬ (0 ≤ p.toInt ∧ p.toInt < n)) : F_X10_proofOf (hp x iv ai aj ar pp f0) x p = some none := by
  unfold F_X10_proofOf F_X10_proofOf_21
  simp only [ri_0_8, hc, Option.bind_some, Int32.lt_iff_toInt_lt, Int32.le_iff_toInt_le, toInt_nI (show n < 2147483648 by omega), show (0 : Int32).toInt = 0 from rfl]
  by_cases h1 : p.toInt < 0
  · rw [if_pos h1]
  · rw [if_neg h1, if_pos (by omega)]
theorem s_proofOk {n : Nat} (hn : n ≤ 40) (hc : iv 0 8 = nI n) {p : Nat} (h : p < n) : F_X10_proofOf (hp x iv ai aj ar pp f0) x (nI p) = some (ar 4 p) := by
  unfold F_X10_proofOf
  simp (disch := omega) only [ri_0_8, hc, rn_0_3, ra_4, Option.bind_some, mul_3, mul_4, mul_5, mul_9, mul_30, mul_160, add_1, add_2, add_3, add_4, add_5, add_6, addl_1, addl_2, addl_3, addl_4, cle_0, cel_0, clt_0, ctl_0, ceq_0, cle_1, cel_1, clt_1, ctl_1, ceq_1, cle_2, cel_2, clt_2, ctl_2, ceq_2, cle_3, cel_3, clt_3, ctl_3, ceq_3, cle_4, cel_4, clt_4, ctl_4, ceq_4, cle_5, cel_5, clt_5, ctl_5, ceq_5, cle_6, cel_6, clt_6, ctl_6, ceq_6, cle_7, cel_7, clt_7, ctl_7, ceq_7, cle_8, cel_8, clt_8, ctl_8, ceq_8, cle_9, cel_9, clt_9, ctl_9, ceq_9, cle_12, cel_12, clt_12, ctl_12, ceq_12, cle_20, cel_20, clt_20, ctl_20, ceq_20, cle_24, cel_24, clt_24, ctl_24, ceq_24, cle_25, cel_25, clt_25, ctl_25, ceq_25, cle_30, cel_30, clt_30, ctl_30, ceq_30, cle_36, cel_36, clt_36, ctl_36, ceq_36, cle_40, cel_40, clt_40, ctl_40, ceq_40, cle_41, cel_41, clt_41, ctl_41, ceq_41, cle_120, cel_120, clt_120, ctl_120, ceq_120, cle_160, cel_160, clt_160, ctl_160, ceq_160, cle_164, cel_164, clt_164, ctl_164, ceq_164, cle_500, cel_500, clt_500, ctl_500, ceq_500, cle_1000, cel_1000, clt_1000, ctl_1000, ceq_1000, ixr, ixq, ixf, neg_nI, leq_nI, lt_nI, eq_nI, cl_nI, nI_add, pk_mul]
  rw [if_neg (by omega), if_neg (by omega)]
theorem m_termOf {p t : Nat} (hp1 : p < 30) (ht : t < 9) : F_X11_termOf (hp x iv ai aj ar pp f0) (x + 19) (nI p) (nI t) = some (aj 23 (9 * p + t)) := by
  unfold F_X11_termOf
  simp (disch := omega) only [rn_19_6, ra_23, Option.bind_some, mul_3, mul_4, mul_5, mul_9, mul_30, mul_160, add_1, add_2, add_3, add_4, add_5, add_6, addl_1, addl_2, addl_3, addl_4, cle_0, cel_0, clt_0, ctl_0, ceq_0, cle_1, cel_1, clt_1, ctl_1, ceq_1, cle_2, cel_2, clt_2, ctl_2, ceq_2, cle_3, cel_3, clt_3, ctl_3, ceq_3, cle_4, cel_4, clt_4, ctl_4, ceq_4, cle_5, cel_5, clt_5, ctl_5, ceq_5, cle_6, cel_6, clt_6, ctl_6, ceq_6, cle_7, cel_7, clt_7, ctl_7, ceq_7, cle_8, cel_8, clt_8, ctl_8, ceq_8, cle_9, cel_9, clt_9, ctl_9, ceq_9, cle_12, cel_12, clt_12, ctl_12, ceq_12, cle_20, cel_20, clt_20, ctl_20, ceq_20, cle_24, cel_24, clt_24, ctl_24, ceq_24, cle_25, cel_25, clt_25, ctl_25, ceq_25, cle_30, cel_30, clt_30, ctl_30, ceq_30, cle_36, cel_36, clt_36, ctl_36, ceq_36, cle_40, cel_40, clt_40, ctl_40, ceq_40, cle_41, cel_41, clt_41, ctl_41, ceq_41, cle_120, cel_120, clt_120, ctl_120, ceq_120, cle_160, cel_160, clt_160, ctl_160, ceq_160, cle_164, cel_164, clt_164, ctl_164, ceq_164, cle_500, cel_500, clt_500, ctl_500, ceq_500, cle_1000, cel_1000, clt_1000, ctl_1000, ceq_1000, ixr, ixq, ixf, neg_nI, leq_nI, lt_nI, eq_nI, cl_nI, nI_add, pk_mul]
theorem inN {k : Int32} {n : Nat} (hn : n < 2147483648) (h : 0 ≤ k.toInt ∧ k.toInt < n) : ∃ j : Nat, j < n ∧ k = nI j := by
  rcases tri k hn with q | q
  · exact absurd h q
  · exact q
theorem op_side (hI0 : INV x z iv ai aj ar pp f0) (b w : Int32) : Or_ (F_X10_side (hp x iv ai aj ar pp f0) x b w) (F_X11_side (hp x iv ai aj ar pp f0) (x + 19) b w) := by
  obtain ⟨hz, own, hT, hS, hP, ⟨n, b1, b2, b3, b4, b5⟩, hR, hQ⟩ := id hI0
  by_cases h1 : 0 ≤ b.toInt ∧ b.toInt < n
  · by_cases h2 : 0 ≤ w.toInt ∧ w.toInt ≤ 3
    · obtain ⟨j, hj, rfl⟩ := inN (by omega) h1
      obtain ⟨t, ht, rfl⟩ := in4 h2
      refine ⟨ai 3 (4 * j + t), ?_, ?_⟩
      · unfold F_X10_side
        simp only [rk_0, if_true, s_isBox b1 b2, Option.bind_some, if10]
        rw [if_neg (not_not_intro h1)]
        simp (disch := omega) only [rn_0_2, ra_3, Option.bind_some, mul_3, mul_4, mul_5, mul_9, mul_30, mul_160, add_1, add_2, add_3, add_4, add_5, add_6, addl_1, addl_2, addl_3, addl_4, cle_0, cel_0, clt_0, ctl_0, ceq_0, cle_1, cel_1, clt_1, ctl_1, ceq_1, cle_2, cel_2, clt_2, ctl_2, ceq_2, cle_3, cel_3, clt_3, ctl_3, ceq_3, cle_4, cel_4, clt_4, ctl_4, ceq_4, cle_5, cel_5, clt_5, ctl_5, ceq_5, cle_6, cel_6, clt_6, ctl_6, ceq_6, cle_7, cel_7, clt_7, ctl_7, ceq_7, cle_8, cel_8, clt_8, ctl_8, ceq_8, cle_9, cel_9, clt_9, ctl_9, ceq_9, cle_12, cel_12, clt_12, ctl_12, ceq_12, cle_20, cel_20, clt_20, ctl_20, ceq_20, cle_24, cel_24, clt_24, ctl_24, ceq_24, cle_25, cel_25, clt_25, ctl_25, ceq_25, cle_30, cel_30, clt_30, ctl_30, ceq_30, cle_36, cel_36, clt_36, ctl_36, ceq_36, cle_40, cel_40, clt_40, ctl_40, ceq_40, cle_41, cel_41, clt_41, ctl_41, ceq_41, cle_120, cel_120, clt_120, ctl_120, ceq_120, cle_160, cel_160, clt_160, ctl_160, ceq_160, cle_164, cel_164, clt_164, ctl_164, ceq_164, cle_500, cel_500, clt_500, ctl_500, ceq_500, cle_1000, cel_1000, clt_1000, ctl_1000, ceq_1000, ixr, ixq, ixf, neg_nI, leq_nI, lt_nI, eq_nI, cl_nI, nI_add, pk_mul]
        rw [if_neg (by omega), if_pos ht]
      · unfold F_X11_side
        simp only [rk_19, if_true, m_isBox b1 b3, Option.bind_some, s_within, if10, w32 (lo := 0) (hi := 3) (l := 0) (h := 3) rfl rfl, w32 (lo := 0) (hi := 2) (l := 0) (h := 2) rfl rfl, w32 (lo := 0) (hi := 8) (l := 0) (h := 8) rfl rfl, w32 (lo := 0) (hi := 1) (l := 0) (h := 1) rfl rfl, w32 (lo := 0) (hi := 500) (l := 0) (h := 500) rfl rfl, w32 (lo := -1000) (hi := 1000) (l := -1000) (h := 1000) rfl rfl, w32 (lo := 0) (hi := 4) (l := 0) (h := 4) rfl rfl, w32 (lo := -2048) (hi := 2048) (l := -2048) (h := 2048) rfl rfl]
        rw [if_neg (not_not_intro h1), if_neg (not_not_intro h2)]
        simp (disch := omega) only [rn_19_9, ra_25, Option.bind_some, mul_3, mul_4, mul_5, mul_9, mul_30, mul_160, add_1, add_2, add_3, add_4, add_5, add_6, addl_1, addl_2, addl_3, addl_4, cle_0, cel_0, clt_0, ctl_0, ceq_0, cle_1, cel_1, clt_1, ctl_1, ceq_1, cle_2, cel_2, clt_2, ctl_2, ceq_2, cle_3, cel_3, clt_3, ctl_3, ceq_3, cle_4, cel_4, clt_4, ctl_4, ceq_4, cle_5, cel_5, clt_5, ctl_5, ceq_5, cle_6, cel_6, clt_6, ctl_6, ceq_6, cle_7, cel_7, clt_7, ctl_7, ceq_7, cle_8, cel_8, clt_8, ctl_8, ceq_8, cle_9, cel_9, clt_9, ctl_9, ceq_9, cle_12, cel_12, clt_12, ctl_12, ceq_12, cle_20, cel_20, clt_20, ctl_20, ceq_20, cle_24, cel_24, clt_24, ctl_24, ceq_24, cle_25, cel_25, clt_25, ctl_25, ceq_25, cle_30, cel_30, clt_30, ctl_30, ceq_30, cle_36, cel_36, clt_36, ctl_36, ceq_36, cle_40, cel_40, clt_40, ctl_40, ceq_40, cle_41, cel_41, clt_41, ctl_41, ceq_41, cle_120, cel_120, clt_120, ctl_120, ceq_120, cle_160, cel_160, clt_160, ctl_160, ceq_160, cle_164, cel_164, clt_164, ctl_164, ceq_164, cle_500, cel_500, clt_500, ctl_500, ceq_500, cle_1000, cel_1000, clt_1000, ctl_1000, ceq_1000, ixr, ixq, ixf, neg_nI, leq_nI, lt_nI, eq_nI, cl_nI, nI_add, pk_mul]
        rw [b4 _ (by omega)]
    · refine ⟨-2, ?_, ?_⟩
      · unfold F_X10_side F_X10_side_19
        simp only [rk_0, if_true, s_isBox b1 b2, Option.bind_some, if10, Int32.lt_iff_toInt_lt, show (0 : Int32).toInt = 0 from rfl, show (4 : Int32).toInt = 4 from rfl]
        rw [if_neg (not_not_intro h1)]
        by_cases h3 : w.toInt < 0
        · rw [if_pos h3]
        · rw [if_neg h3, if_neg (by omega)]
      · unfold F_X11_side
        simp only [rk_19, if_true, m_isBox b1 b3, Option.bind_some, s_within, if10, w32 (lo := 0) (hi := 3) (l := 0) (h := 3) rfl rfl, w32 (lo := 0) (hi := 2) (l := 0) (h := 2) rfl rfl, w32 (lo := 0) (hi := 8) (l := 0) (h := 8) rfl rfl, w32 (lo := 0) (hi := 1) (l := 0) (h := 1) rfl rfl, w32 (lo := 0) (hi := 500) (l := 0) (h := 500) rfl rfl, w32 (lo := -1000) (hi := 1000) (l := -1000) (h := 1000) rfl rfl, w32 (lo := 0) (hi := 4) (l := 0) (h := 4) rfl rfl, w32 (lo := -2048) (hi := 2048) (l := -2048) (h := 2048) rfl rfl]
        rw [if_neg (not_not_intro h1), if_pos h2]
  · refine ⟨-1, ?_, ?_⟩
    · unfold F_X10_side
      simp only [rk_0, if_true, s_isBox b1 b2, Option.bind_some, if10]
      rw [if_pos h1]
    · unfold F_X11_side
      simp only [rk_19, if_true, m_isBox b1 b3, Option.bind_some, s_within, if10, w32 (lo := 0) (hi := 3) (l := 0) (h := 3) rfl rfl, w32 (lo := 0) (hi := 2) (l := 0) (h := 2) rfl rfl, w32 (lo := 0) (hi := 8) (l := 0) (h := 8) rfl rfl, w32 (lo := 0) (hi := 1) (l := 0) (h := 1) rfl rfl, w32 (lo := 0) (hi := 500) (l := 0) (h := 500) rfl rfl, w32 (lo := -1000) (hi := 1000) (l := -1000) (h := 1000) rfl rfl, w32 (lo := 0) (hi := 4) (l := 0) (h := 4) rfl rfl, w32 (lo := -2048) (hi := 2048) (l := -2048) (h := 2048) rfl rfl]
      rw [if_pos h1]
theorem op_term (hI0 : INV x z iv ai aj ar pp f0) (p t : Int32) : Or_ (F_X10_term (hp x iv ai aj ar pp f0) x p t) (F_X11_term (hp x iv ai aj ar pp f0) (x + 19) p t) := by
  obtain ⟨hz, own, hT, hS, ⟨n, p1, p2, p3, p4⟩, hB, hR, hQ⟩ := id hI0
  by_cases h1 : 0 ≤ p.toInt ∧ p.toInt < n
  · obtain ⟨j, hj, rfl⟩ := inN (by omega) h1
    obtain ⟨a, b, g, q1, q2, q3, q4, q5, q6⟩ := p4 j hj
    have hx2 : x + 41 ≤ a := q2.1
    have hx3 : x + 41 ≤ b := q3.1
    have n1 : hN f0 a [(4, 0)] = some b := fN q4 rfl rfl
    by_cases h2 : 0 ≤ t.toInt ∧ t.toInt ≤ 8
    · obtain ⟨i, hi, rfl⟩ := inN (n := 9) (k := t) (by omega) (by omega)
      refine ⟨g i, ?_, ?_⟩
      · unfold F_X10_term
        simp only [rk_0, if_true, s_polyOk p1 p2 hj, q1, xnul, Option.bind_some, s_within, if10, w32 (lo := 0) (hi := 3) (l := 0) (h := 3) rfl rfl, w32 (lo := 0) (hi := 2) (l := 0) (h := 2) rfl rfl, w32 (lo := 0) (hi := 8) (l := 0) (h := 8) rfl rfl, w32 (lo := 0) (hi := 1) (l := 0) (h := 1) rfl rfl, w32 (lo := 0) (hi := 500) (l := 0) (h := 500) rfl rfl, w32 (lo := -1000) (hi := 1000) (l := -1000) (h := 1000) rfl rfl, w32 (lo := 0) (hi := 4) (l := 0) (h := 4) rfl rfl, w32 (lo := -2048) (hi := 2048) (l := -2048) (h := 2048) rfl rfl, s_isSheet, s_isLane, s_isTerm, s_isWeight]
        rw [if_neg (not_not_intro h2)]
        simp (disch := omega) only [dN hx2, n1, dJld hx3, fJld q5, Option.bind_some, mul_3, mul_4, mul_5, mul_9, mul_30, mul_160, add_1, add_2, add_3, add_4, add_5, add_6, addl_1, addl_2, addl_3, addl_4, cle_0, cel_0, clt_0, ctl_0, ceq_0, cle_1, cel_1, clt_1, ctl_1, ceq_1, cle_2, cel_2, clt_2, ctl_2, ceq_2, cle_3, cel_3, clt_3, ctl_3, ceq_3, cle_4, cel_4, clt_4, ctl_4, ceq_4, cle_5, cel_5, clt_5, ctl_5, ceq_5, cle_6, cel_6, clt_6, ctl_6, ceq_6, cle_7, cel_7, clt_7, ctl_7, ceq_7, cle_8, cel_8, clt_8, ctl_8, ceq_8, cle_9, cel_9, clt_9, ctl_9, ceq_9, cle_12, cel_12, clt_12, ctl_12, ceq_12, cle_20, cel_20, clt_20, ctl_20, ceq_20, cle_24, cel_24, clt_24, ctl_24, ceq_24, cle_25, cel_25, clt_25, ctl_25, ceq_25, cle_30, cel_30, clt_30, ctl_30, ceq_30, cle_36, cel_36, clt_36, ctl_36, ceq_36, cle_40, cel_40, clt_40, ctl_40, ceq_40, cle_41, cel_41, clt_41, ctl_41, ceq_41, cle_120, cel_120, clt_120, ctl_120, ceq_120, cle_160, cel_160, clt_160, ctl_160, ceq_160, cle_164, cel_164, clt_164, ctl_164, ceq_164, cle_500, cel_500, clt_500, ctl_500, ceq_500, cle_1000, cel_1000, clt_1000, ctl_1000, ceq_1000, ixr, ixq, ixf, neg_nI, leq_nI, lt_nI, eq_nI, cl_nI, nI_add, pk_mul]
      · unfold F_X11_term
        simp only [rk_19, if_true, m_isPoly p1 p3, Option.bind_some, s_within, if10, w32 (lo := 0) (hi := 3) (l := 0) (h := 3) rfl rfl, w32 (lo := 0) (hi := 2) (l := 0) (h := 2) rfl rfl, w32 (lo := 0) (hi := 8) (l := 0) (h := 8) rfl rfl, w32 (lo := 0) (hi := 1) (l := 0) (h := 1) rfl rfl, w32 (lo := 0) (hi := 500) (l := 0) (h := 500) rfl rfl, w32 (lo := -1000) (hi := 1000) (l := -1000) (h := 1000) rfl rfl, w32 (lo := 0) (hi := 4) (l := 0) (h := 4) rfl rfl, w32 (lo := -2048) (hi := 2048) (l := -2048) (h := 2048) rfl rfl]
        rw [if_neg (not_not_intro h1), if_neg (not_not_intro h2), m_termOf (by omega) hi, (q6 i hi).1]
        rfl
    · refine ⟨-9223372036854775808, ?_, ?_⟩
      · unfold F_X10_term
        simp only [rk_0, if_true, s_polyOk p1 p2 hj, q1, xnul, Option.bind_some, s_within, if10, w32 (lo := 0) (hi := 3) (l := 0) (h := 3) rfl rfl, w32 (lo := 0) (hi := 2) (l := 0) (h := 2) rfl rfl, w32 (lo := 0) (hi := 8) (l := 0) (h := 8) rfl rfl, w32 (lo := 0) (hi := 1) (l := 0) (h := 1) rfl rfl, w32 (lo := 0) (hi := 500) (l := 0) (h := 500) rfl rfl, w32 (lo := -1000) (hi := 1000) (l := -1000) (h := 1000) rfl rfl, w32 (lo := 0) (hi := 4) (l := 0) (h := 4) rfl rfl, w32 (lo := -2048) (hi := 2048) (l := -2048) (h := 2048) rfl rfl, s_isSheet, s_isLane, s_isTerm, s_isWeight]
        rw [if_pos h2]
        rfl
      · unfold F_X11_term
        simp only [rk_19, if_true, m_isPoly p1 p3, Option.bind_some, s_within, if10, w32 (lo := 0) (hi := 3) (l := 0) (h := 3) rfl rfl, w32 (lo := 0) (hi := 2) (l := 0) (h := 2) rfl rfl, w32 (lo := 0) (hi := 8) (l := 0) (h := 8) rfl rfl, w32 (lo := 0) (hi := 1) (l := 0) (h := 1) rfl rfl, w32 (lo := 0) (hi := 500) (l := 0) (h := 500) rfl rfl, w32 (lo := -1000) (hi := 1000) (l := -1000) (h := 1000) rfl rfl, w32 (lo := 0) (hi := 4) (l := 0) (h := 4) rfl rfl, w32 (lo := -2048) (hi := 2048) (l := -2048) (h := 2048) rfl rfl]
        rw [if_neg (not_not_intro h1), if_pos h2]
        rfl
  · refine ⟨-9223372036854775808, ?_, ?_⟩
    · unfold F_X10_term
      simp only [rk_0, if_true, s_polyNo p1 p2 h1, xnul, Option.bind_some, s_within, if10, w32 (lo := 0) (hi := 3) (l := 0) (h := 3) rfl rfl, w32 (lo := 0) (hi := 2) (l := 0) (h := 2) rfl rfl, w32 (lo := 0) (hi := 8) (l := 0) (h := 8) rfl rfl, w32 (lo := 0) (hi := 1) (l := 0) (h := 1) rfl rfl, w32 (lo := 0) (hi := 500) (l := 0) (h := 500) rfl rfl, w32 (lo := -1000) (hi := 1000) (l := -1000) (h := 1000) rfl rfl, w32 (lo := 0) (hi := 4) (l := 0) (h := 4) rfl rfl, w32 (lo := -2048) (hi := 2048) (l := -2048) (h := 2048) rfl rfl, s_isSheet, s_isLane, s_isTerm, s_isWeight]
      rfl
    · unfold F_X11_term
      simp only [rk_19, if_true, m_isPoly p1 p3, Option.bind_some, s_within, if10, w32 (lo := 0) (hi := 3) (l := 0) (h := 3) rfl rfl, w32 (lo := 0) (hi := 2) (l := 0) (h := 2) rfl rfl, w32 (lo := 0) (hi := 8) (l := 0) (h := 8) rfl rfl, w32 (lo := 0) (hi := 1) (l := 0) (h := 1) rfl rfl, w32 (lo := 0) (hi := 500) (l := 0) (h := 500) rfl rfl, w32 (lo := -1000) (hi := 1000) (l := -1000) (h := 1000) rfl rfl, w32 (lo := 0) (hi := 4) (l := 0) (h := 4) rfl rfl, w32 (lo := -2048) (hi := 2048) (l := -2048) (h := 2048) rfl rfl]
      rw [if_pos h1]
      rfl
end READS

section SHEETOPS
variable {x z : Nat} {iv ai : Nat → Nat → Int32} {aj : Nat → Nat → Int64} {ar : Nat → Nat → Option Nat} {pp : Nat → Option Nat} {f0 : xHp}
set_option maxHeartbeats 4000000 in
theorem s_sheet_ok (hz : x + 41 ≤ z) (k : Nat) (hk : k < 4) (ln : Int32) (hl : 0 ≤ ln.toInt ∧ ln.toInt ≤ 2) (n : Nat) (hn : n ≤ 30) : ∃ f1 : xHp, F_X10_sheet z (hp x iv ai aj ar pp f0) x (nI k) ln (nI n) = some (1, z + 2, hp x (u2 iv 0 9 0) ai aj (u2 ar 1 k (some z)) pp f1) ∧ f1 z = some (.inr (.inr (.inr (5, [.int ln, .ref (z + 1)])))) ∧ f1 (z + 1) = some (.inr (.inl (n, fun _ => 0))) ∧ ∀ a, a < z → f1 a = f0 a := by
  refine ⟨va_up (va_up (va_up (va_up f0 z (some (.inr (.inr (.inr (5, [.int 0, .null])))))) z (some (.inr (.inr (.inr (5, [.int ln, .null])))))) (z + 1) (some (.inr (.inl (n, fun _ => 0))))) z (some (.inr (.inr (.inr (5, [.int ln, .ref (z + 1)]))))), ?_, up_at _ _ _, ?_, ?_⟩
  · unfold F_X10_sheet
    simp only [wi_0_9, Option.bind_some, s_isSheet, s_isLane, if10, toInt_nI (show k < 2147483648 by omega)]
    rw [if_neg (not_not_intro (show (0 : Int) ≤ (k : Int) ∧ (k : Int) ≤ 3 by omega)), if_neg (not_not_intro hl)]
    simp (disch := omega) only [rn_0_0, Option.bind_some, mul_3, mul_4, mul_5, mul_9, mul_30, mul_160, add_1, add_2, add_3, add_4, add_5, add_6, addl_1, addl_2, addl_3, addl_4, cle_0, cel_0, clt_0, ctl_0, ceq_0, cle_1, cel_1, clt_1, ctl_1, ceq_1, cle_2, cel_2, clt_2, ctl_2, ceq_2, cle_3, cel_3, clt_3, ctl_3, ceq_3, cle_4, cel_4, clt_4, ctl_4, ceq_4, cle_5, cel_5, clt_5, ctl_5, ceq_5, cle_6, cel_6, clt_6, ctl_6, ceq_6, cle_7, cel_7, clt_7, ctl_7, ceq_7, cle_8, cel_8, clt_8, ctl_8, ceq_8, cle_9, cel_9, clt_9, ctl_9, ceq_9, cle_12, cel_12, clt_12, ctl_12, ceq_12, cle_20, cel_20, clt_20, ctl_20, ceq_20, cle_24, cel_24, clt_24, ctl_24, ceq_24, cle_25, cel_25, clt_25, ctl_25, ceq_25, cle_30, cel_30, clt_30, ctl_30, ceq_30, cle_36, cel_36, clt_36, ctl_36, ceq_36, cle_40, cel_40, clt_40, ctl_40, ceq_40, cle_41, cel_41, clt_41, ctl_41, ceq_41, cle_120, cel_120, clt_120, ctl_120, ceq_120, cle_160, cel_160, clt_160, ctl_160, ceq_160, cle_164, cel_164, clt_164, ctl_164, ceq_164, cle_500, cel_500, clt_500, ctl_500, ceq_500, cle_1000, cel_1000, clt_1000, ctl_1000, ceq_1000, ixr, ixq, ixf, neg_nI, leq_nI, lt_nI, eq_nI, cl_nI, nI_add, pk_mul]
    rw [if_pos (by omega), if_pos (by omega)]
    unfold F_X6_init
    rw [hp_dyn hz, dPut (k := 0) hz _ (up_at _ _ _) rfl (by decide), Option.bind_some]
    have hmx : F_J9_max_7cf53 (hp x (u2 iv 0 9 0) ai aj ar pp (va_up (va_up f0 z (some (.inr (.inr (.inr (5, [.int 0, .null])))))) z (some (.inr (.inr (.inr (5, [Value.int 0, Value.null].set 0 (.int ln)))))))) 0 (nI n) = some (nI n) := by
      unfold F_J9_max_7cf53
      split
      · rfl
      · rename_i h
        have h2 : n = 0 := by
          rcases Nat.eq_zero_or_pos n with q | q
          · exact q
          · exact absurd (nI_lt q (by omega)) h
        rw [h2]
        rfl
    rw [hmx, Option.bind_some, hNw_nI hn (by decide), Option.bind_some, Option.bind_some, hp_dyn (by omega), dPut (k := 1) hz _ (show _ = some (Sum.inr (Sum.inr (Sum.inr (5, [Value.int ln, Value.null])))) by rw [up_ne _ _ (by omega), up_at]; rfl) rfl (show 1 < 2 by decide), Option.bind_some, Option.bind_some]
    rw [wq_1 _ z 5 (by rw [dK hz]; exact fK (up_at _ _ _)) rfl]
    simp (disch := omega) only [Option.bind_some, mul_3, mul_4, mul_5, mul_9, mul_30, mul_160, add_1, add_2, add_3, add_4, add_5, add_6, addl_1, addl_2, addl_3, addl_4, cle_0, cel_0, clt_0, ctl_0, ceq_0, cle_1, cel_1, clt_1, ctl_1, ceq_1, cle_2, cel_2, clt_2, ctl_2, ceq_2, cle_3, cel_3, clt_3, ctl_3, ceq_3, cle_4, cel_4, clt_4, ctl_4, ceq_4, cle_5, cel_5, clt_5, ctl_5, ceq_5, cle_6, cel_6, clt_6, ctl_6, ceq_6, cle_7, cel_7, clt_7, ctl_7, ceq_7, cle_8, cel_8, clt_8, ctl_8, ceq_8, cle_9, cel_9, clt_9, ctl_9, ceq_9, cle_12, cel_12, clt_12, ctl_12, ceq_12, cle_20, cel_20, clt_20, ctl_20, ceq_20, cle_24, cel_24, clt_24, ctl_24, ceq_24, cle_25, cel_25, clt_25, ctl_25, ceq_25, cle_30, cel_30, clt_30, ctl_30, ceq_30, cle_36, cel_36, clt_36, ctl_36, ceq_36, cle_40, cel_40, clt_40, ctl_40, ceq_40, cle_41, cel_41, clt_41, ctl_41, ceq_41, cle_120, cel_120, clt_120, ctl_120, ceq_120, cle_160, cel_160, clt_160, ctl_160, ceq_160, cle_164, cel_164, clt_164, ctl_164, ceq_164, cle_500, cel_500, clt_500, ctl_500, ceq_500, cle_1000, cel_1000, clt_1000, ctl_1000, ceq_1000, ixr, ixq, ixf, neg_nI, leq_nI, lt_nI, eq_nI, cl_nI, nI_add, pk_mul]
    rfl
  · rw [up_ne _ _ (by omega), up_at]
  · intro a ha
    rw [up_ne _ _ (by omega), up_ne _ _ (by omega), up_ne _ _ (by omega), up_ne _ _ (by omega)]
theorem op_sheet (hI : INV x z iv ai aj ar pp f0) (k ln n : Int32) : Oa x (F_X10_sheet z (hp x iv ai aj ar pp f0) x k ln n) (fun h => F_X11_sheet h (x + 19) k ln n) := by
  obtain ⟨hz, own, hT, hS, hP, hB, hR, hQ⟩ := id hI
  have base : INV x z (u2 (u2 iv 0 9 0) 19 0 0) ai aj ar pp f0 := ⟨hz, own, ⟨rfl, hT.2⟩, hS, hP, hB, hR, hQ⟩
  by_cases h1 : 0 ≤ k.toInt ∧ k.toInt ≤ 3
  · by_cases h2 : 0 ≤ ln.toInt ∧ ln.toInt ≤ 2
    · by_cases h3 : n.toInt ≤ 30
      · by_cases h4 : 0 ≤ n.toInt
        · obtain ⟨kk, hkk, rfl⟩ : ∃ j : Nat, j < 4 ∧ k = nI j := by
            rcases tri k (n := 4) (by decide) with q | q
            · exact absurd (show 0 ≤ k.toInt ∧ k.toInt < ((4 : Nat) : Int) by omega) q
            · exact q
          obtain ⟨nn, hnn, rfl⟩ : ∃ j : Nat, j < 31 ∧ n = nI j := by
            rcases tri n (n := 31) (by decide) with q | q
            · exact absurd (show 0 ≤ n.toInt ∧ n.toInt < ((31 : Nat) : Int) by omega) q
            · exact q
          obtain ⟨f1, e1, e2, e3, e4⟩ := s_sheet_ok (iv := iv) (ai := ai) (aj := aj) (ar := ar) (pp := pp) (f0 := f0) hz kk hkk ln h2 nn (by omega)
          refine ⟨1, z + 2, _, e1, rk_19, _, _, _, _, _, _, m_sheet_ok kk hkk ln h2 nn (by omega), by omega, va_up (va_up own z (1, kk)) (z + 1) (2, kk), ⟨rfl, hT.2⟩, ?_, ?_, hB, hR, ?_⟩
          · have hF : Fr x z (z + 2) f0 f1 own (va_up (va_up own z (1, kk)) (z + 1) (2, kk)) (fun _ => False) := ⟨by omega, fun a h1 h2 => ⟨by rw [up_ne _ _ (by omega), up_ne _ _ (by omega)], fun _ => e4 a h2⟩⟩
            intro j hj
            by_cases hjk : j = kk
            · subst hjk
              refine Or.inr ⟨z, z + 1, nn, fun _ => 0, up_at _ _ _, ⟨hz, by omega, by rw [up_ne _ _ (by omega), up_at]⟩, ⟨by omega, by omega, up_at _ _ _⟩, ?_, e3, ?_, by omega, up_at _ _ _, ?_⟩
              · rw [e2]
                show some (Sum.inr (Sum.inr (Sum.inr (5, [Value.int ln, Value.ref (z + 1)])))) = some (Sum.inr (Sum.inr (Sum.inr (5, [Value.int (va_up (ai 20) j ln j), Value.ref (z + 1)]))))
                rw [up_at]
              · show va_up (ai 20) j ln j = 0 ∨ va_up (ai 20) j ln j = 1 ∨ va_up (ai 20) j ln j = 2
                rw [up_at]
                rcases (show ln.toInt = 0 ∨ ln.toInt = 1 ∨ ln.toInt = 2 by omega) with q | q | q
                · exact Or.inl (Int32.toInt_inj.mp q)
                · exact Or.inr (Or.inl (Int32.toInt_inj.mp q))
                · exact Or.inr (Or.inr (Int32.toInt_inj.mp q))
              · intro i hi
                show (0 : Int64) = zero30 (aj 22) j 0 (30 * j + i)
                unfold zero30
                rw [if_pos (by omega)]
            · have hs := (hS j hj).keep hF ⟨not_false, not_false⟩
              show shOk x (z + 2) f1 _ j (va_up (ar 1) kk (some z) j) (va_up (ai 20) kk ln j) (va_up (ai 21) kk (nI nn) j) (zero30 (aj 22) kk 0)
              rw [up_ne _ _ hjk, up_ne _ _ hjk, up_ne _ _ hjk]
              rcases hs with hs | ⟨a, b, m, g, g1, g2, g3, g4, g5, g6, g7, g8, g9⟩
              · exact Or.inl hs
              · refine Or.inr ⟨a, b, m, g, g1, g2, g3, g4, g5, g6, g7, g8, fun i hi => ?_⟩
                rw [g9 i hi]
                unfold zero30
                rw [if_neg (by omega)]
          · exact hP.keep (E := fun _ => False) ⟨by omega, fun a h1 h2 => ⟨by rw [up_ne _ _ (by omega), up_ne _ _ (by omega)], fun _ => e4 a h2⟩⟩ (fun _ => ⟨not_false, not_false⟩)
          · exact hQ.keep (E := fun _ => False) ⟨by omega, fun a h1 h2 => ⟨by rw [up_ne _ _ (by omega), up_ne _ _ (by omega)], fun _ => e4 a h2⟩⟩ (fun _ => ⟨not_false, not_false, not_false⟩)
        · refine ⟨-14, z, hp x (u2 (u2 iv 0 9 0) 0 9 4) ai aj ar pp f0, ?_, rk_19, u2 (u2 (u2 (u2 iv 0 9 0) 0 9 4) 19 0 0) 19 0 4, ai, aj, ar, pp, f0, ?_, ⟨hz, own, ⟨rfl, hT.2⟩, hS, hP, hB, hR, hQ⟩⟩
          · unfold F_X10_sheet
            simp only [wi_0_9, Option.bind_some, s_isSheet, s_isLane, if10, Int32.le_iff_toInt_le, show (30 : Int32).toInt = 30 from rfl, show (0 : Int32).toInt = 0 from rfl, rk_0, s_faulted]
            rw [if_neg (not_not_intro h1), if_neg (not_not_intro h2), if_pos h3, if_neg h4]
            rfl
          · show F_X11_sheet _ _ _ _ _ = _
            unfold F_X11_sheet
            simp only [wi_19_0, Option.bind_some, s_within, if10, w32 (lo := 0) (hi := 3) (l := 0) (h := 3) rfl rfl, w32 (lo := 0) (hi := 2) (l := 0) (h := 2) rfl rfl, Int32.le_iff_toInt_le, show (30 : Int32).toInt = 30 from rfl, show (0 : Int32).toInt = 0 from rfl, rk_19, m_fails]
            rw [if_neg (not_not_intro h1), if_neg (not_not_intro h2), if_pos h3, if_neg h4]
            rfl
      · refine ⟨-2, z, hp x (u2 iv 0 9 0) ai aj ar pp f0, ?_, rk_19, _, _, _, _, _, _, ?_, base⟩
        · unfold F_X10_sheet
          simp only [wi_0_9, Option.bind_some, s_isSheet, s_isLane, if10, Int32.le_iff_toInt_le, show (30 : Int32).toInt = 30 from rfl]
          rw [if_neg (not_not_intro h1), if_neg (not_not_intro h2), if_neg h3]
        · show F_X11_sheet _ _ _ _ _ = _
          unfold F_X11_sheet
          simp only [wi_19_0, Option.bind_some, s_within, if10, w32 (lo := 0) (hi := 3) (l := 0) (h := 3) rfl rfl, w32 (lo := 0) (hi := 2) (l := 0) (h := 2) rfl rfl, Int32.le_iff_toInt_le, show (30 : Int32).toInt = 30 from rfl]
          rw [if_neg (not_not_intro h1), if_neg (not_not_intro h2), if_neg h3]
    · refine ⟨-2, z, hp x (u2 iv 0 9 0) ai aj ar pp f0, ?_, rk_19, _, _, _, _, _, _, ?_, base⟩
      · unfold F_X10_sheet
        simp only [wi_0_9, Option.bind_some, s_isSheet, s_isLane, if10]
        rw [if_neg (not_not_intro h1), if_pos h2]
      · show F_X11_sheet _ _ _ _ _ = _
        unfold F_X11_sheet
        simp only [wi_19_0, Option.bind_some, s_within, if10, w32 (lo := 0) (hi := 3) (l := 0) (h := 3) rfl rfl, w32 (lo := 0) (hi := 2) (l := 0) (h := 2) rfl rfl]
        rw [if_neg (not_not_intro h1), if_pos h2]
  · refine ⟨-1, z, hp x (u2 iv 0 9 0) ai aj ar pp f0, ?_, rk_19, _, _, _, _, _, _, ?_, base⟩
    · unfold F_X10_sheet
      simp only [wi_0_9, Option.bind_some, s_isSheet, s_isLane, if10]
      rw [if_pos h1]
    · show F_X11_sheet _ _ _ _ _ = _
      unfold F_X11_sheet
      simp only [wi_19_0, Option.bind_some, s_within, if10, w32 (lo := 0) (hi := 3) (l := 0) (h := 3) rfl rfl]
      rw [if_pos h1]
end SHEETOPS

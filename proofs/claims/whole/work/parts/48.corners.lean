/-! corners, proved: new proofs -/
section CORNERSP
variable {x z : Nat} {iv ai : Nat → Nat → Int32} {aj : Nat → Nat → Int64} {ar : Nat → Nat → Option Nat} {pp : Nat → Option Nat} {f0 : xHp}
theorem s_init5 {A pa B c : Nat} {f1 : xHp} {u0 u1 u2' u3 : Value} (hA : x + 41 ≤ A) (hc : c = 6 ∨ c = 7) (e : f1 A = some (.inr (.inr (.inr (c, [u0, u1, u2', u3]))))) (k po : Int32) : F_X5_init (hp x iv ai aj ar pp f1) A k pa po B = some (hp x iv ai aj ar pp (va_up f1 A (some (.inr (.inr (.inr (c, [.int k, .ref pa, .int po, .ref B]))))))) := by
  unfold F_X5_init
  rcases hc with rfl | rfl
  · rw [dPut (c := 6) (k := 0) hA _ e rfl (by show 0 < 4; decide), Option.bind_some, dPut (c := 6) (k := 1) hA _ (up_at _ _ _) rfl (by show 1 < 4; decide), Option.bind_some, dPut (c := 6) (k := 2) hA _ (up_at _ _ _) rfl (by show 2 < 4; decide), Option.bind_some, dPut (c := 6) (k := 3) hA _ (up_at _ _ _) rfl (by show 3 < 4; decide), Option.bind_some, up_up, up_up, up_up]
    rfl
  · rw [dPut (c := 7) (k := 0) hA _ e rfl (by show 0 < 4; decide), Option.bind_some, dPut (c := 7) (k := 1) hA _ (up_at _ _ _) rfl (by show 1 < 4; decide), Option.bind_some, dPut (c := 7) (k := 2) hA _ (up_at _ _ _) rfl (by show 2 < 4; decide), Option.bind_some, dPut (c := 7) (k := 3) hA _ (up_at _ _ _) rfl (by show 3 < 4; decide), Option.bind_some, up_up, up_up, up_up]
    rfl
theorem s_init0 {A pa B C : Nat} {f1 : xHp} {u0 u1 u2' u3 u4 u5 : Value} (hA : x + 41 ≤ A) (e : f1 A = some (.inr (.inr (.inr (0, [u0, u1, u2', u3, u4, u5]))))) (k po bo : Int32) : F_X0_init (hp x iv ai aj ar pp f1) A k pa po B bo C = some (hp x iv ai aj ar pp (va_up f1 A (some (.inr (.inr (.inr (0, [.int k, .ref pa, .int po, .ref B, .int bo, .ref C]))))))) := by
  unfold F_X0_init F_X5_init
  rw [dPut (c := 0) (k := 0) hA _ e rfl (by show 0 < 6; decide), Option.bind_some, dPut (c := 0) (k := 1) hA _ (up_at _ _ _) rfl (by show 1 < 6; decide), Option.bind_some, dPut (c := 0) (k := 2) hA _ (up_at _ _ _) rfl (by show 2 < 6; decide), Option.bind_some, dPut (c := 0) (k := 3) hA _ (up_at _ _ _) rfl (by show 3 < 6; decide), Option.bind_some, Option.bind_some, dPut (c := 0) (k := 4) hA _ (up_at _ _ _) rfl (by show 4 < 6; decide), Option.bind_some, dPut (c := 0) (k := 5) hA _ (up_at _ _ _) rfl (by show 5 < 6; decide), Option.bind_some, up_up, up_up, up_up, up_up, up_up]
  rfl
theorem s_init3 {A pa B C : Nat} {f1 : xHp} {u0 u1 u2' u3 u4 u5 : Value} (hA : x + 41 ≤ A) (e : f1 A = some (.inr (.inr (.inr (3, [u0, u1, u2', u3, u4, u5]))))) (po bo : Int32) : F_X3_init (hp x iv ai aj ar pp f1) A pa po B bo C = some (hp x iv ai aj ar pp (va_up f1 A (some (.inr (.inr (.inr (3, [.int bo, .ref C, .int 2, .ref pa, .int po, .ref B]))))))) := by
  unfold F_X3_init F_X0_init F_X5_init
  rw [dPut (c := 3) (k := 2) hA _ e rfl (by show 2 < 6; decide), Option.bind_some, dPut (c := 3) (k := 3) hA _ (up_at _ _ _) rfl (by show 3 < 6; decide), Option.bind_some, dPut (c := 3) (k := 4) hA _ (up_at _ _ _) rfl (by show 4 < 6; decide), Option.bind_some, dPut (c := 3) (k := 5) hA _ (up_at _ _ _) rfl (by show 5 < 6; decide), Option.bind_some, Option.bind_some, dPut (c := 3) (k := 0) hA _ (up_at _ _ _) rfl (by show 0 < 6; decide), Option.bind_some, dPut (c := 3) (k := 1) hA _ (up_at _ _ _) rfl (by show 1 < 6; decide), Option.bind_some, Option.bind_some, up_up, up_up, up_up, up_up, up_up]
  rfl
theorem op_corners (hI0 : INV x z iv ai aj ar pp f0) (p b : Int32) : Oa x (F_X10_corners z (hp x iv ai aj ar pp f0) x p b) (fun h => F_X11_corners h (x + 19) p b) := by
  obtain ⟨hz, own, hT, hS, ⟨np, p1, p2, p3, p4⟩, ⟨nb, b1, b2, b3, b4, b5⟩, hR, ⟨n, q1, q2, q3, q4⟩⟩ := id hI0
  by_cases h1 : 0 ≤ p.toInt ∧ p.toInt < np
  case neg =>
    refine Oa_no (r := -1) hI0 ?_ ?_
    · unfold F_X10_corners
      rw [if_pos rk_0, s_polyNo p1 p2 h1]
      rfl
    · show F_X11_corners _ _ _ _ = _
      unfold F_X11_corners
      rw [if_pos rk_19, m_isPoly p1 p3, Option.bind_some, if_neg h1]
      exact if_pos rfl
  obtain ⟨j, hj, rfl⟩ := inN (by omega) h1
  obtain ⟨a, g, c1, c2, c3, c4⟩ := (p4 j hj).cell
  by_cases h2 : 0 ≤ b.toInt ∧ b.toInt < nb
  case neg =>
    refine Oa_no (r := -1) hI0 ?_ ?_
    · unfold F_X10_corners
      rw [if_pos rk_0, s_polyOk p1 p2 hj, Option.bind_some, c1, xnul_s, if_pos rk_0, s_isBox b1 b2, Option.bind_some, if_neg h2]
      exact if_pos rfl
    · show F_X11_corners _ _ _ _ = _
      unfold F_X11_corners
      rw [if_pos rk_19, m_isPoly p1 p3, Option.bind_some, if_pos h1, if_neg (show ¬ (1 : Int32) = 0 by decide), if_pos rk_19, m_isBox b1 b3, Option.bind_some, if_neg h2]
      exact if_pos rfl
  obtain ⟨l, hl, rfl⟩ := inN (by omega) h2
  have co : F_X4_cornersOn (hp x iv ai aj ar pp f0) a (x + 3) (nI (4 * l)) (x + 10) = some (hp x iv ai (va_up aj 10 (layC (aj 10) g (quad (ai 3) (4 * l)) 0)) ar pp f0) := s_cornersOn (N := 120) c2 (fun aj i hi => (row_3 x iv ai aj ar pp f0).1 i hi) (fun aj i v hi => by rw [wa_10]; simp (disch := omega) only [mul_3, mul_4, mul_5, mul_9, mul_30, mul_160, add_1, add_2, add_3, add_4, add_5, add_6, addl_1, addl_2, addl_3, addl_4, cle_0, cel_0, clt_0, ctl_0, ceq_0, cle_1, cel_1, clt_1, ctl_1, ceq_1, cle_2, cel_2, clt_2, ctl_2, ceq_2, cle_3, cel_3, clt_3, ctl_3, ceq_3, cle_4, cel_4, clt_4, ctl_4, ceq_4, cle_5, cel_5, clt_5, ctl_5, ceq_5, cle_6, cel_6, clt_6, ctl_6, ceq_6, cle_7, cel_7, clt_7, ctl_7, ceq_7, cle_8, cel_8, clt_8, ctl_8, ceq_8, cle_9, cel_9, clt_9, ctl_9, ceq_9, cle_12, cel_12, clt_12, ctl_12, ceq_12, cle_20, cel_20, clt_20, ctl_20, ceq_20, cle_24, cel_24, clt_24, ctl_24, ceq_24, cle_25, cel_25, clt_25, ctl_25, ceq_25, cle_30, cel_30, clt_30, ctl_30, ceq_30, cle_36, cel_36, clt_36, ctl_36, ceq_36, cle_40, cel_40, clt_40, ctl_40, ceq_40, cle_41, cel_41, clt_41, ctl_41, ceq_41, cle_120, cel_120, clt_120, ctl_120, ceq_120, cle_160, cel_160, clt_160, ctl_160, ceq_160, cle_164, cel_164, clt_164, ctl_164, ceq_164, cle_500, cel_500, clt_500, ctl_500, ceq_500, cle_1000, cel_1000, clt_1000, ctl_1000, ceq_1000, ixr, ixq, ixf, neg_nI, leq_nI, lt_nI, eq_nI, cl_nI, nI_add, pk_mul]) (by omega) (by decide)
  generalize haj : va_up aj 10 (layC (aj 10) g (quad (ai 3) (4 * l)) 0) = aj1 at co
  have hajk : ∀ k, k ≠ 10 → aj1 k = aj k := fun k hk => by rw [← haj, up_ne _ _ hk]
  have ho : ∀ i, i < 9 → aj1 10 i = crn (Tm (aj 23) j) i (bx (ai 25) l) := fun i hi => by rw [← haj, up_at, layC_at hi, crn_eq c3, ← bx_quad, bx_keep hl b4]
  have hG : ∀ i, i < 9 → hJld (hp x iv ai aj1 ar pp f0) (x + 10) (nI i) = some (crn (Tm (aj 23) j) i (bx (ai 25) l)) := fun i hi => by
    rw [ra_10]
    simp (disch := omega) only [mul_3, mul_4, mul_5, mul_9, mul_30, mul_160, add_1, add_2, add_3, add_4, add_5, add_6, addl_1, addl_2, addl_3, addl_4, cle_0, cel_0, clt_0, ctl_0, ceq_0, cle_1, cel_1, clt_1, ctl_1, ceq_1, cle_2, cel_2, clt_2, ctl_2, ceq_2, cle_3, cel_3, clt_3, ctl_3, ceq_3, cle_4, cel_4, clt_4, ctl_4, ceq_4, cle_5, cel_5, clt_5, ctl_5, ceq_5, cle_6, cel_6, clt_6, ctl_6, ceq_6, cle_7, cel_7, clt_7, ctl_7, ceq_7, cle_8, cel_8, clt_8, ctl_8, ceq_8, cle_9, cel_9, clt_9, ctl_9, ceq_9, cle_12, cel_12, clt_12, ctl_12, ceq_12, cle_20, cel_20, clt_20, ctl_20, ceq_20, cle_24, cel_24, clt_24, ctl_24, ceq_24, cle_25, cel_25, clt_25, ctl_25, ceq_25, cle_30, cel_30, clt_30, ctl_30, ceq_30, cle_36, cel_36, clt_36, ctl_36, ceq_36, cle_40, cel_40, clt_40, ctl_40, ceq_40, cle_41, cel_41, clt_41, ctl_41, ceq_41, cle_120, cel_120, clt_120, ctl_120, ceq_120, cle_160, cel_160, clt_160, ctl_160, ceq_160, cle_164, cel_164, clt_164, ctl_164, ceq_164, cle_500, cel_500, clt_500, ctl_500, ceq_500, cle_1000, cel_1000, clt_1000, ctl_1000, ceq_1000, ixr, ixq, ixf, neg_nI, leq_nI, lt_nI, eq_nI, cl_nI, nI_add, pk_mul]
    rw [ho i hi]
  have mc : ∀ (iv' : Nat → Nat → Int32) (ar' : Nat → Nat → Option Nat) (f1 : xHp), iv' 19 5 = nI np → iv' 19 8 = nI nb → F_X11_corners (hp x iv' ai aj1 ar' pp f1) (x + 19) (nI j) (nI l) = L_X11_corners_20 xfuel (hp x iv' ai aj1 ar' pp f1) (x + 19) (nI j) (nI l) 0 := by
    intro iv' ar' f1 e1 e2
    unfold F_X11_corners
    rw [if_pos rk_19, m_isPoly p1 e1, Option.bind_some, if_pos h1, if_neg (show ¬ (1 : Int32) = 0 by decide), if_pos rk_19, m_isBox b1 e2, Option.bind_some, if_pos h2, if_neg (show ¬ (1 : Int32) = 0 by decide)]
  have m20 := fun (iv' : Nat → Nat → Int32) (ar' : Nat → Nat → Option Nat) (f1 : xHp) => m_co20 (x := x) (iv := iv') (ai := ai) (aj := aj1) (ar := ar') (pp := pp) (f0 := f1) (show j < 30 by omega) (show l < 30 by omega) 9 0 xfuel (by omega) (by decide)
  rw [hajk 23 (by decide)] at m20
  have cc : F_X10_corners z (hp x iv ai aj ar pp f0) x (nI j) (nI l) = if 0 ≤ mnR (fun k => crn (Tm (aj 23) j) k (bx (ai 25) l)) 8 1 (crn (Tm (aj 23) j) 0 (bx (ai 25) l)) then (F_X10_keepProof (hp x iv ai aj1 ar pp (va_up (va_up (va_up (va_up f0 z (some (.inr (.inl (9, aj1 10))))) (z + 1) (some (.inr (.inr (.inr (0, [.int 0, .null, .int 0, .null, .int 0, .null])))))) (z + 2) (some (.inl (4, fun j => if j < 4 then ai 3 (4 * l + j) else 0)))) (z + 1) (some (.inr (.inr (.inr (0, [.int 1, .ref a, .int (nI j), .ref z, .int (nI l), .ref (z + 2)]))))))) x (z + 1)).bind (fun q29 => some (q29.1, z + 3, q29.2)) else some (-9, z, hp x iv ai aj1 ar pp f0) := by
    have cp : F_J7_copyOf_c38d5 z (hp x iv ai aj1 ar pp f0) (x + 10) 9 = some (some z, z + 1, hp x iv ai aj1 ar pp (va_up f0 z (some (.inr (.inl (9, aj1 10)))))) := by
      unfold F_J7_copyOf_c38d5
      have hcl : hCl (hp x iv ai aj1 ar pp f0) (x + 10) 24 = some (9, aj1 10) := by
        unfold hCl
        rw [hp_in 10 (by decide)]
        rfl
      rw [rl_10, Option.bind_some, if_pos rfl, hcl, Option.bind_some, hp_dyn hz, Option.bind_some]
    unfold F_X10_corners
    rw [if_pos rk_0, s_polyOk p1 p2 hj, Option.bind_some, c1, xnul_s, if_pos rk_0, s_isBox b1 b2, Option.bind_some, if_pos h2, if_neg (show ¬ (1 : Int32) = 0 by decide), rn_0_2, Option.bind_some, rn_0_5, Option.bind_some, rn_9_0, Option.bind_some, if_pos c2.kd, mul_4, co, Option.bind_some, rn_0_5, Option.bind_some, rn_9_0, Option.bind_some, s_leastOf rl_10 hG, Option.bind_some, Option.bind_some, rn_9_0, Option.bind_some, cp, Option.bind_some, Option.bind_some, hp_dyn (show x + 41 ≤ z + 1 by omega), Option.bind_some, if_pos rk_0, s_sidesOf (show x + 41 ≤ z + 1 + 1 by omega) (show l < 30 by omega), Option.bind_some, Option.bind_some, Option.bind_some, Option.bind_some, s_init0 (show x + 41 ≤ z + 1 by omega) ((up_ne _ _ (by omega)).trans (up_at _ _ _)), Option.bind_some, if_pos rk_0]
  by_cases hU : ∀ i, i < 9 → 0 ≤ crn (Tm (aj 23) j) i (bx (ai 25) l)
  case neg =>
    have hn : ¬ 0 ≤ mnR (fun k => crn (Tm (aj 23) j) k (bx (ai 25) l)) 8 1 (crn (Tm (aj 23) j) 0 (bx (ai 25) l)) := fun h => hU ((least_nn (fun k => crn (Tm (aj 23) j) k (bx (ai 25) l))).mp h)
    refine ⟨-9, z, _, cc.trans (if_neg hn), rk_19, iv, ai, aj1, ar, pp, f0, ?_, ?_⟩
    · exact (mc iv ar f0 p3 b3).trans ((m20 iv ar f0).2 (fun h => hU (fun i hi => h i (Nat.zero_le _) hi)))
    · exact hI0.ext (Nat.le_refl _) (fun _ _ => rfl) rfl rfl rfl (fun _ _ => rfl) (fun _ _ _ _ _ _ _ => rfl) (hajk 22 (by decide)) (hajk 23 (by decide)) (hajk 34 (by decide)) rfl
  have hp' : 0 ≤ mnR (fun k => crn (Tm (aj 23) j) k (bx (ai 25) l)) 8 1 (crn (Tm (aj 23) j) 0 (bx (ai 25) l)) := (least_nn (fun k => crn (Tm (aj 23) j) k (bx (ai 25) l))).mpr hU
  rw [if_pos hp'] at cc
  generalize hf2 : (va_up (va_up (va_up (va_up f0 z (some (.inr (.inl (9, aj1 10))))) (z + 1) (some (.inr (.inr (.inr (0, [.int 0, .null, .int 0, .null, .int 0, .null])))))) (z + 2) (some (.inl (4, fun j => if j < 4 then ai 3 (4 * l + j) else 0)))) (z + 1) (some (.inr (.inr (.inr (0, [.int 1, .ref a, .int (nI j), .ref z, .int (nI l), .ref (z + 2)])))))) = f2 at cc
  have g1 : f2 (z + 1) = some (.inr (.inr (.inr (0, [.int 1, .ref a, .int (nI j), .ref z, .int (nI l), .ref (z + 2)])))) := by rw [← hf2, up_at]
  have g2 : f2 z = some (.inr (.inl (9, aj1 10))) := by rw [← hf2, up_ne _ _ (by omega), up_ne _ _ (by omega), up_ne _ _ (by omega), up_at]
  have g3 : f2 (z + 2) = some (.inl (4, fun j => if j < 4 then ai 3 (4 * l + j) else 0)) := by rw [← hf2, up_ne _ _ (by omega), up_at]
  have g4 : ∀ c, c < z → f2 c = f0 c := fun c hc => by rw [← hf2, up_ne _ _ (by omega), up_ne _ _ (by omega), up_ne _ _ (by omega), up_ne _ _ (by omega)]
  rw [s_keepProof q1 q2 ((dK (show x + 41 ≤ z + 1 by omega)).trans (fK g1)) (Or.inl rfl)] at cc
  by_cases hn : n < 40
  · rw [if_pos hn, Option.bind_some] at cc
    refine ⟨nI n, z + 3, _, cc, rk_19, u2 (u2 iv 0 8 (nI (n + 1))) 19 20 (nI (n + 1)), tA ai n 1 (nI j) (nI l) 9, va_up aj1 34 (layN (aj1 34) n (fun k => crn (Tm (aj 23) j) k (bx (ai 25) l)) 9), u2 ar 4 n (some (z + 1)), pp, f2, ?_, ?_⟩
    · refine (mc (u2 iv 0 8 (nI (n + 1))) _ _ p3 b3).trans (((m20 _ _ _).1 (fun i _ hi => hU i hi)).trans ?_)
      have e20 : u2 iv 0 8 (nI (n + 1)) 19 20 = nI n := q3
      rw [e20, if_neg (show ¬ nI n = 40 by rw [ceq_40 (by omega)]; omega), m_newProof hn e20, Option.bind_some]
      have lo := m_co_loop (x := x) (iv := u2 (u2 iv 0 8 (nI (n + 1))) 19 20 (nI (n + 1))) (ai := ai) (aj := aj1) (ar := u2 ar 4 n (some (z + 1))) (pp := pp) (f0 := f2) (p := j) (b := l) (q := n) (kd := 1) (po := nI j) (bo := nI l) (show j < 30 by omega) (show l < 30 by omega) hn 9 0 xfuel (by omega) (by decide)
      rw [hajk 23 (by decide), layN_0, up_self] at lo
      exact lo
    · refine hI0.newProof (A := z + 1) (B := z) (m := 9) hn q2 (by omega) g4 (fun s hs => ?_) rfl rfl rfl (fun s a1 a2 => ?_) rfl (fun k a1 a2 a3 a4 => tA_ne a1 a2 a3 a4) tA_30 tA_31 tA_32 tA_33 ?_ ?_ (fun i hi => ?_) rfl rfl rfl rfl (fun own => ?_)
      · show u2 iv 0 8 (nI (n + 1)) 0 s = iv 0 s
        exact u2_nt _ _ hs
      · show u2 (u2 iv 0 8 (nI (n + 1))) 19 20 (nI (n + 1)) 19 s = iv 19 s
        rw [u2_nt _ _ a2]
        rfl
      · exact (up_ne aj1 _ (by decide)).trans (hajk 22 (by decide))
      · exact (up_ne aj1 _ (by decide)).trans (hajk 23 (by decide))
      · show va_up aj1 34 (layN (aj1 34) n (fun k => crn (Tm (aj 23) j) k (bx (ai 25) l)) 9) 34 i = aj 34 i
        rw [up_at, layN_lt hi, hajk 34 (by decide)]
      · refine ⟨z + 1, z, 9, j, a, aj1 10, rfl, ⟨by omega, by omega, ?_⟩, ⟨by omega, by omega, ?_⟩, g2, by decide, rfl, ?_, by omega, rfl, c1, fun i hi => ?_, Or.inr (Or.inr ⟨z + 2, l, _, ⟨by omega, by omega, ?_⟩, g3, ?_, by omega, rfl, fun i hi => ?_, Or.inl ⟨rfl, rfl, g1⟩⟩)⟩
        · unfold ownP
          rw [if_neg (by omega), if_pos rfl]
        · unfold ownP
          rw [if_neg (by omega), if_neg (by omega), if_pos rfl]
        · rw [p2]; exact (nI_ltI (by omega) (by omega)).mpr hj
        · show aj1 10 i = va_up aj1 34 (layN (aj1 34) n (fun k => crn (Tm (aj 23) j) k (bx (ai 25) l)) 9) 34 (160 * n + i)
          rw [up_at, layN_at hi, ho i hi]
        · unfold ownP
          rw [if_neg (by omega), if_neg (by omega), if_neg (by omega)]
        · rw [b2]; exact (nI_ltI (by omega) (by omega)).mpr hl
        · show (if i < 4 then ai 3 (4 * l + i) else 0) = ai 25 (4 * l + i)
          rw [if_pos hi, b4 _ (by omega)]
  · rw [if_neg hn, Option.bind_some] at cc
    refine ⟨-4, z + 3, _, cc, rk_19, iv, ai, aj1, ar, pp, f2, ?_, ?_⟩
    · refine (mc _ _ _ p3 b3).trans (((m20 _ _ _).1 (fun i _ hi => hU i hi)).trans ?_)
      rw [q3, if_pos (show nI n = 40 by rw [ceq_40 (by omega)]; omega)]
    · exact hI0.ext (by omega) g4 rfl rfl rfl (fun _ _ => rfl) (fun _ _ _ _ _ _ _ => rfl) (hajk 22 (by decide)) (hajk 23 (by decide)) (hajk 34 (by decide)) rfl
end CORNERSP

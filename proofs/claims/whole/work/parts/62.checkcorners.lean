/-! check of corners, and of sums, from the class's object on -/
theorem nn_no : ¬ (0 : Int32) ≤ -1 := by decide
theorem nn_9 {k : Nat} (hk : k < 100) : (0 : Int32) ≤ nI k := by
  rw [Int32.le_iff_toInt_le, toInt_nI (by omega)]
  exact Int.natCast_nonneg k
section CHECKCORNERS
variable {x z : Nat} {iv ai : Nat → Nat → Int32} {aj : Nat → Nat → Int64} {ar : Nat → Nat → Option Nat} {pp : Nat → Option Nat} {f0 : xHp}
theorem dldI {b N i : Nat} {R : Nat → Int32} (hb : x + 41 ≤ b) (e : f0 b = some (.inl (N, R))) (hi : i < N) (hN : N < 100000) : hIld (hp x iv ai aj ar pp f0) b (nI i) = some (R i) := by
  rw [dIld hb, fIld e, ixr hi (by omega), cl_nI (by omega)]
theorem m_pn {q i : Nat} (hq : q < 40) (hi : i < 160) : F_X11_proofNumber (hp x iv ai aj ar pp f0) (x + 19) (nI q) (nI i) = some (aj 34 (160 * q + i)) := by
  unfold F_X11_proofNumber
  rw [rn_19_25, Option.bind_some, mul_160, nI_add, r34 (by omega), Option.bind_some]
theorem co_both {a b pa c q p bn : Nat} {g : Nat → Int64} {po bo : Int32} (ha : x + 41 ≤ a) (hb : x + 41 ≤ b) (e : f0 a = some (.inr (.inr (.inr (0, [.int 1, .ref pa, .int po, .ref b, .int bo, .ref c]))))) (eb : f0 b = some (.inr (.inl (9, g)))) (hq : q < 40) (hp1 : p < 30) (hb1 : bn < 30) (m1 : ai 31 q = nI p) (m2 : ai 32 q = nI bn) (hg : ∀ i, i < 9 → g i = aj 34 (160 * q + i)) (hc : ∀ i, i < 9 → aj 10 i = crn (Tm (aj 23) p) i (bx (ai 25) bn)) : ∀ (w k m : Nat), k + w = 9 → w < m → ∃ r r' : Int32, L_X0_firstWrong_18 m (hp x iv ai aj ar pp f0) a (x + 9) (nI k) = some (r, hp x iv ai aj ar pp f0) ∧ L_X11_check_44 m (hp x iv ai aj ar pp f0) (x + 19) (nI q) (nI k) = some (r', hp x iv ai aj ar pp f0) ∧ (if 0 ≤ r then -20 - r else 1) = r' := by
  intro w
  induction w with
  | zero =>
    intro k m hk hm
    obtain ⟨m, rfl⟩ : ∃ y, m = y + 1 := ⟨m - 1, by omega⟩
    have : k = 9 := by omega
    subst this
    refine ⟨-1, 1, ?_, ?_, if_neg nn_no⟩
    · show F_X0_firstWrong_18 _ _ _ _ _ = _
      unfold F_X0_firstWrong_18
      rw [if_pos (by decide)]
    · show F_X11_check_44 _ _ _ _ _ = _
      unfold F_X11_check_44
      rw [if_pos (by decide)]
  | succ w ih =>
    intro k m hk hm
    obtain ⟨m, rfl⟩ : ∃ y, m = y + 1 := ⟨m - 1, by omega⟩
    have hn : ∀ tb, tb = [(0, 3), (3, 5)] → hN (hp x iv ai aj ar pp f0) a tb = some b := fun tb ht => by rw [ht, dN ha]; exact fN e rfl rfl
    have gk : hJld (hp x iv ai aj ar pp f0) b (nI k) = some (g k) := dld hb eb (by omega) (by omega)
    have ck : hJld (hp x iv ai aj ar pp f0) (x + 10) (nI k) = some (aj 10 k) := by
      rw [ra_10]; simp (disch := omega) only [mul_3, mul_4, mul_5, mul_9, mul_30, mul_160, add_1, add_2, add_3, add_4, add_5, add_6, addl_1, addl_2, addl_3, addl_4, cle_0, cel_0, clt_0, ctl_0, ceq_0, cle_1, cel_1, clt_1, ctl_1, ceq_1, cle_2, cel_2, clt_2, ctl_2, ceq_2, cle_3, cel_3, clt_3, ctl_3, ceq_3, cle_4, cel_4, clt_4, ctl_4, ceq_4, cle_5, cel_5, clt_5, ctl_5, ceq_5, cle_6, cel_6, clt_6, ctl_6, ceq_6, cle_7, cel_7, clt_7, ctl_7, ceq_7, cle_8, cel_8, clt_8, ctl_8, ceq_8, cle_9, cel_9, clt_9, ctl_9, ceq_9, cle_12, cel_12, clt_12, ctl_12, ceq_12, cle_20, cel_20, clt_20, ctl_20, ceq_20, cle_24, cel_24, clt_24, ctl_24, ceq_24, cle_25, cel_25, clt_25, ctl_25, ceq_25, cle_30, cel_30, clt_30, ctl_30, ceq_30, cle_36, cel_36, clt_36, ctl_36, ceq_36, cle_40, cel_40, clt_40, ctl_40, ceq_40, cle_41, cel_41, clt_41, ctl_41, ceq_41, cle_120, cel_120, clt_120, ctl_120, ceq_120, cle_160, cel_160, clt_160, ctl_160, ceq_160, cle_164, cel_164, clt_164, ctl_164, ceq_164, cle_500, cel_500, clt_500, ctl_500, ceq_500, cle_1000, cel_1000, clt_1000, ctl_1000, ceq_1000, ixr, ixq, ixf, neg_nI, leq_nI, lt_nI, eq_nI, cl_nI, nI_add, pk_mul]
    have e1 : L_X0_firstWrong_18 (m + 1) (hp x iv ai aj ar pp f0) a (x + 9) (nI k) = if g k < 0 then some (nI k, hp x iv ai aj ar pp f0) else if g k = aj 10 k then L_X0_firstWrong_18 m (hp x iv ai aj ar pp f0) a (x + 9) (nI (k + 1)) else some (nI k, hp x iv ai aj ar pp f0) := by
      show F_X0_firstWrong_18 _ _ _ _ _ = _
      unfold F_X0_firstWrong_18
      rw [if_neg (by rw [cle_9 (by omega)]; omega), hn _ rfl, Option.bind_some, gk, Option.bind_some, Option.bind_some, gk, Option.bind_some, rn_9_0, Option.bind_some, ck, Option.bind_some, add_1]
    have e2 : L_X11_check_44 (m + 1) (hp x iv ai aj ar pp f0) (x + 19) (nI q) (nI k) = if g k < 0 then some (-20 - nI k, hp x iv ai aj ar pp f0) else if g k = aj 10 k then L_X11_check_44 m (hp x iv ai aj ar pp f0) (x + 19) (nI q) (nI (k + 1)) else some (-20 - nI k, hp x iv ai aj ar pp f0) := by
      show F_X11_check_44 _ _ _ _ _ = _
      unfold F_X11_check_44 F_X11_check_85
      rw [if_neg (by rw [cle_9 (by omega)]; omega), if_pos rk_19, m_pn hq (by omega), Option.bind_some, ← hg k (by omega), rn_19_22, Option.bind_some, r31 hq, Option.bind_some, rn_19_23, Option.bind_some, r32 hq, Option.bind_some, if_pos rk_19, m1, m2, m_boxCorner hp1 hb1 (by omega), Option.bind_some, ← hc k (by omega), add_1]
    rw [e1, e2]
    have hr : (if 0 ≤ nI k then -20 - nI k else 1) = -20 - nI k := if_pos (nn_9 (by omega))
    by_cases h1 : g k < 0
    · rw [if_pos h1, if_pos h1]
      exact ⟨_, _, rfl, rfl, hr⟩
    · rw [if_neg h1, if_neg h1]
      by_cases h2 : g k = aj 10 k
      · rw [if_pos h2, if_pos h2]
        exact ih (k + 1) m (by omega) (by omega)
      · rw [if_neg h2, if_neg h2]
        exact ⟨_, _, rfl, rfl, hr⟩
theorem chk_1 (hI0 : INV x z iv ai aj ar pp f0) {a b pa c q p bn : Nat} {g T : Nat → Int64} {sd : Nat → Int32} {po bo : Int32} (ha : x + 41 ≤ a) (hb : x + 41 ≤ b) (hcc : x + 41 ≤ c) (e : f0 a = some (.inr (.inr (.inr (0, [.int 1, .ref pa, .int po, .ref b, .int bo, .ref c]))))) (eb : f0 b = some (.inr (.inl (9, g)))) (ec : f0 c = some (.inl (4, sd))) (hpc : pcell x f0 pa T) (hT : ∀ t, t < 9 → T t = Tm (aj 23) p t) (hq : q < 40) (hp1 : p < 30) (hb1 : bn < 30) (m1 : ai 31 q = nI p) (m2 : ai 32 q = nI bn) (hg : ∀ i, i < 9 → g i = aj 34 (160 * q + i)) (hsd : ∀ j, j < 4 → sd j = ai 25 (4 * bn + j)) {M : xHp → Option (Int32 × xHp)} (hMM : ∀ (iv' ai' : Nat → Nat → Int32) (aj' : Nat → Nat → Int64) (pp' : Nat → Option Nat), iv' 19 20 = iv 19 20 → ai' 30 = ai 30 → M (hp x iv' ai' aj' ar pp' f0) = L_X11_check_44 xfuel (hp x iv' ai' aj' ar pp' f0) (x + 19) (nI q) 0) : Ow x z ((F_X0_firstWrong (hp x iv ai aj ar pp f0) a (x + 9)).bind (fun q7 => if 0 ≤ q7.1 then some (-20 - q7.1, q7.2) else some (1, q7.2))) M := by
  have co : F_X4_cornersOn (hp x iv ai aj ar pp f0) pa c (nI 0) (x + 10) = some (hp x iv ai (va_up aj 10 (layC (aj 10) T (quad sd 0) 0)) ar pp f0) := s_cornersOn (N := 4) hpc (fun aj i hi => dldI hcc ec hi (by decide)) (fun aj i v hi => by rw [wa_10]; simp (disch := omega) only [mul_3, mul_4, mul_5, mul_9, mul_30, mul_160, add_1, add_2, add_3, add_4, add_5, add_6, addl_1, addl_2, addl_3, addl_4, cle_0, cel_0, clt_0, ctl_0, ceq_0, cle_1, cel_1, clt_1, ctl_1, ceq_1, cle_2, cel_2, clt_2, ctl_2, ceq_2, cle_3, cel_3, clt_3, ctl_3, ceq_3, cle_4, cel_4, clt_4, ctl_4, ceq_4, cle_5, cel_5, clt_5, ctl_5, ceq_5, cle_6, cel_6, clt_6, ctl_6, ceq_6, cle_7, cel_7, clt_7, ctl_7, ceq_7, cle_8, cel_8, clt_8, ctl_8, ceq_8, cle_9, cel_9, clt_9, ctl_9, ceq_9, cle_12, cel_12, clt_12, ctl_12, ceq_12, cle_20, cel_20, clt_20, ctl_20, ceq_20, cle_24, cel_24, clt_24, ctl_24, ceq_24, cle_25, cel_25, clt_25, ctl_25, ceq_25, cle_30, cel_30, clt_30, ctl_30, ceq_30, cle_36, cel_36, clt_36, ctl_36, ceq_36, cle_40, cel_40, clt_40, ctl_40, ceq_40, cle_41, cel_41, clt_41, ctl_41, ceq_41, cle_120, cel_120, clt_120, ctl_120, ceq_120, cle_160, cel_160, clt_160, ctl_160, ceq_160, cle_164, cel_164, clt_164, ctl_164, ceq_164, cle_500, cel_500, clt_500, ctl_500, ceq_500, cle_1000, cel_1000, clt_1000, ctl_1000, ceq_1000, ixr, ixq, ixf, neg_nI, leq_nI, lt_nI, eq_nI, cl_nI, nI_add, pk_mul]) (by decide) (by decide)
  generalize haj : va_up aj 10 (layC (aj 10) T (quad sd 0) 0) = aj1 at co
  have hajk : ∀ k, k ≠ 10 → aj1 k = aj k := fun k hk => by rw [← haj, up_ne _ _ hk]
  have hqd : quad sd 0 = bx (ai 25) bn := by
    unfold quad bx
    rw [hsd 0 (by decide), hsd (0 + 1) (by decide), hsd (0 + 2) (by decide), hsd (0 + 3) (by decide)]
    rfl
  have ho : ∀ i, i < 9 → aj1 10 i = crn (Tm (aj1 23) p) i (bx (ai 25) bn) := fun i hi => by rw [hajk 23 (by decide), ← haj, up_at, layC_at hi, crn_eq hT, hqd]
  obtain ⟨r, r', l1, l2, l3⟩ := co_both (iv := iv) (ai := ai) (aj := aj1) (ar := ar) (pp := pp) ha hb e eb hq hp1 hb1 m1 m2 (fun i hi => by rw [hajk 34 (by decide)]; exact hg i hi) ho 9 0 xfuel (by omega) (by decide)
  refine ⟨r', hp x iv ai aj1 ar pp f0, ?_, rk_19, iv, ai, aj1, ar, pp, f0, (hMM _ _ _ _ rfl rfl).trans l2, hI0.ext (Nat.le_refl _) (fun _ _ => rfl) rfl rfl rfl (fun _ _ => rfl) (fun _ _ _ _ _ _ _ => rfl) (hajk 22 (by decide)) (hajk 23 (by decide)) (hajk 34 (by decide)) rfl⟩
  have e1 : F_X0_firstWrong (hp x iv ai aj ar pp f0) a (x + 9) = some (r, hp x iv ai aj1 ar pp f0) := by
    unfold F_X0_firstWrong
    have n1 : hN (hp x iv ai aj ar pp f0) a [(0, 1), (3, 3)] = some pa := (dN ha _).trans (fN e rfl rfl)
    have n2 : hN (hp x iv ai aj ar pp f0) a [(0, 5), (3, 1)] = some c := (dN ha _).trans (fN e rfl rfl)
    rw [n1, Option.bind_some, n2, Option.bind_some, rn_9_0, Option.bind_some, if_pos hpc.kd]
    refine Eq.trans (congrArg (fun o => Option.bind o _) co) ?_
    rw [Option.bind_some]
    exact l1
  rw [e1, Option.bind_some, ← l3]
  show (if 0 ≤ r then some (-20 - r, hp x iv ai aj1 ar pp f0) else some (1, hp x iv ai aj1 ar pp f0)) = _
  by_cases h0 : 0 ≤ r
  · rw [if_pos h0, if_pos h0]
  · rw [if_neg h0, if_neg h0]
theorem chk_s (hI0 : INV x z iv ai aj ar pp f0) {a b K pa q p : Nat} {sp : Bool} {g T : Nat → Int64} (h : SQ x f0 a b K pa sp g T) (hM : MQs ai aj q K p sp g T) (hT : ∀ t, t < 9 → -1000 ≤ T t ∧ T t ≤ 1000) {M : xHp → Option (Int32 × xHp)} (hMM : ∀ (iv' ai' : Nat → Nat → Int32) (aj' : Nat → Nat → Int64) (pp' : Nat → Option Nat), iv' 19 20 = iv 19 20 → ai' 30 = ai 30 → M (hp x iv' ai' aj' ar pp' f0) = F_X11_checkSums (hp x iv' ai' aj' ar pp' f0) (x + 19) (nI q)) : Ow x z ((F_X8_firstWrong (hp x iv ai aj ar pp f0) a (x + 9)).bind (fun q7 => if 0 ≤ q7.1 then some (-20 - q7.1, q7.2) else some (1, q7.2))) M := by
  obtain ⟨s1, s2⟩ := s_first (iv := iv) (ai := ai) (aj := aj) (ar := ar) (pp := pp) h
  by_cases hw : wAll g sp K
  case neg =>
    refine ⟨-29, hp x iv ai aj ar pp f0, ?_, rk_19, iv, ai, aj, ar, pp, f0, (hMM _ _ _ _ rfl rfl).trans ((m_weights hM).2 hw), hI0⟩
    rw [s2 hw, Option.bind_some]
    show (if (0 : Int32) ≤ 9 then some ((-20 : Int32) - 9, hp x iv ai aj ar pp f0) else some (1, hp x iv ai aj ar pp f0)) = _
    rw [if_pos (by decide), show (-20 : Int32) - 9 = -29 by decide]
  obtain ⟨ai1, r, c1, c2, c3⟩ := s_nine (iv := iv) (aj := aj) (ar := ar) (pp := pp) h hT 9 0 xfuel ai (by omega) (by decide)
  have hM1 : MQs ai1 aj q K p sp g T := by
    obtain ⟨h1, h2, h3, h4, h5, h6, h7, h8⟩ := hM
    exact ⟨h1, h2, h3, by rw [c2 33 (by decide) (by decide)]; exact h4, by rw [c2 30 (by decide) (by decide)]; exact h5, by rw [c2 31 (by decide) (by decide)]; exact h6, h7, h8⟩
  obtain ⟨aj1, r', d1, d2, d3⟩ := m_nine (x := x) (iv := iv) (ai := ai1) (ar := ar) (pp := pp) (f0 := f0) (fun t ht => h.tot_b hT ht) h.2.2.2.2.2.2.2 9 0 xfuel aj (by omega) (by decide) hM1
  have hr : (if 0 ≤ r then -20 - r else 1) = r' := by
    rcases c3 with ⟨r1, r2⟩ | ⟨u, r1, r2, r3, r4, r5⟩
    · rcases d3 with ⟨t1, t2⟩ | ⟨v, t1, t2, t3, t4, t5⟩
      · rw [r1, t1]; exact if_neg nn_no
      · exact absurd (r2 v t1 t2) t4
    · rcases d3 with ⟨t1, t2⟩ | ⟨v, t1, t2, t3, t4, t5⟩
      · exact absurd (t2 u r1 r2) r4
      · have huv : u = v := by
          rcases Nat.lt_trichotomy u v with l | l | l
          · exact absurd (t5 u r1 l) r4
          · exact l
          · exact absurd (r5 v t1 l) t4
        rw [r3, t3, huv]
        exact if_pos (nn_9 (by omega))
  refine ⟨r', hp x iv ai1 aj ar pp f0, ?_, rk_19, iv, ai1, aj1, ar, pp, f0, (hMM _ _ _ _ rfl (c2 30 (by decide) (by decide))).trans (((m_weights hM1).1 hw).trans d1), hI0.ext (Nat.le_refl _) (fun _ _ => rfl) rfl rfl rfl (fun _ _ => rfl) (fun k k1 k2 _ _ _ _ => c2 k k1 k2) (d2 22 (by decide)) (d2 23 (by decide)) (d2 34 (by decide)) rfl⟩
  rw [s1 hw]
  refine Eq.trans (congrArg (fun o => Option.bind o _) c1) ?_
  rw [Option.bind_some, ← hr]
  show (if 0 ≤ r then some (-20 - r, hp x iv ai1 aj ar pp f0) else some (1, hp x iv ai1 aj ar pp f0)) = _
  by_cases h0 : 0 ≤ r
  · rw [if_pos h0, if_pos h0]
  · rw [if_neg h0, if_neg h0]
end CHECKCORNERS

/-! coefficients that come to be a polynomial -/
section POLYS
variable {x z : Nat} {iv ai : Nat → Nat → Int32} {aj : Nat → Nat → Int64} {ar : Nat → Nat → Option Nat} {pp : Nat → Option Nat} {f0 : xHp}
theorem up_u2 {α : Type} (f : Nat → Nat → α) (c s : Nat) (v : α) (g : Nat → α) : va_up (u2 f c s v) c g = va_up f c g := up_up _ _ _ _
def cok (D : Nat → Int64) : Prop := ∀ t, t < 9 → -1000 ≤ D t ∧ D t ≤ 1000
theorem op_same (hI0 : INV x z iv ai aj ar pp f0) (p q : Int32) : Or_ (F_X10_same (hp x iv ai aj ar pp f0) x p q) (F_X11_same (hp x iv ai aj ar pp f0) (x + 19) p q) := by
  obtain ⟨hz, own, hT, hS, ⟨n, p1, p2, p3, p4⟩, hB, hR, hQ⟩ := id hI0
  by_cases h1 : 0 ≤ p.toInt ∧ p.toInt < n
  · obtain ⟨j, hj, rfl⟩ := inN (by omega) h1
    obtain ⟨a, b, g, q1, q2, q3, q4, q5, q6⟩ := p4 j hj
    by_cases h2 : 0 ≤ q.toInt ∧ q.toInt < n
    · obtain ⟨k, hk, rfl⟩ := inN (by omega) h2
      obtain ⟨c, d, e, r1, r2, r3, r4, r5, r6⟩ := p4 k hk
      have loop : ∀ (w t m m' : Nat), t + w = 9 → w < m → w < m' → Or_ (L_X10_same_27 (hp x iv ai aj ar pp f0) m a c (nI t)) (L_X11_same_20 (hp x iv ai aj ar pp f0) m' (x + 19) (nI j) (nI k) (nI t)) := by
        intro w
        induction w with
        | zero =>
          intro t m m' ht hm hm'
          obtain ⟨m, rfl⟩ : ∃ y, m = y + 1 := ⟨m - 1, by omega⟩
          obtain ⟨m', rfl⟩ : ∃ y, m' = y + 1 := ⟨m' - 1, by omega⟩
          have : t = 9 := by omega
          subst this
          refine ⟨1, ?_, ?_⟩
          · show F_X10_same_27 _ _ _ _ _ = _
            unfold F_X10_same_27
            rw [if_pos (by decide)]
          · show F_X11_same_20 _ _ _ _ _ _ = _
            unfold F_X11_same_20
            rw [if_pos (by decide)]
        | succ w ih =>
          intro t m m' ht hm hm'
          obtain ⟨m, rfl⟩ : ∃ y, m = y + 1 := ⟨m - 1, by omega⟩
          obtain ⟨m', rfl⟩ : ∃ y, m' = y + 1 := ⟨m' - 1, by omega⟩
          have hb1 : x + 41 ≤ b := q3.1
          have hd1 : x + 41 ≤ d := r3.1
          have e1 : L_X10_same_27 (hp x iv ai aj ar pp f0) (m + 1) a c (nI t) = if g t = e t then L_X10_same_27 (hp x iv ai aj ar pp f0) m a c (nI (t + 1)) else some 0 := by
            show F_X10_same_27 _ _ _ _ _ = _
            unfold F_X10_same_27
            simp (disch := omega) only [dN q2.1, dN r2.1, show hN f0 a [(4, 0)] = some b from fN q4 rfl rfl, show hN f0 c [(4, 0)] = some d from fN r4 rfl rfl, dJld hb1, dJld hd1, fJld q5, fJld r5, Option.bind_some, mul_3, mul_4, mul_5, mul_9, mul_30, mul_160, add_1, add_2, add_3, add_4, add_5, add_6, addl_1, addl_2, addl_3, addl_4, cle_0, cel_0, clt_0, ctl_0, ceq_0, cle_1, cel_1, clt_1, ctl_1, ceq_1, cle_2, cel_2, clt_2, ctl_2, ceq_2, cle_3, cel_3, clt_3, ctl_3, ceq_3, cle_4, cel_4, clt_4, ctl_4, ceq_4, cle_5, cel_5, clt_5, ctl_5, ceq_5, cle_6, cel_6, clt_6, ctl_6, ceq_6, cle_7, cel_7, clt_7, ctl_7, ceq_7, cle_8, cel_8, clt_8, ctl_8, ceq_8, cle_9, cel_9, clt_9, ctl_9, ceq_9, cle_12, cel_12, clt_12, ctl_12, ceq_12, cle_20, cel_20, clt_20, ctl_20, ceq_20, cle_24, cel_24, clt_24, ctl_24, ceq_24, cle_25, cel_25, clt_25, ctl_25, ceq_25, cle_30, cel_30, clt_30, ctl_30, ceq_30, cle_36, cel_36, clt_36, ctl_36, ceq_36, cle_40, cel_40, clt_40, ctl_40, ceq_40, cle_41, cel_41, clt_41, ctl_41, ceq_41, cle_120, cel_120, clt_120, ctl_120, ceq_120, cle_160, cel_160, clt_160, ctl_160, ceq_160, cle_164, cel_164, clt_164, ctl_164, ceq_164, cle_500, cel_500, clt_500, ctl_500, ceq_500, cle_1000, cel_1000, clt_1000, ctl_1000, ceq_1000, ixr, ixq, ixf, neg_nI, leq_nI, lt_nI, eq_nI, cl_nI, nI_add, pk_mul]
            rw [if_neg (by omega)]
          have e2 : L_X11_same_20 (hp x iv ai aj ar pp f0) (m' + 1) (x + 19) (nI j) (nI k) (nI t) = if g t = e t then L_X11_same_20 (hp x iv ai aj ar pp f0) m' (x + 19) (nI j) (nI k) (nI (t + 1)) else some 0 := by
            show F_X11_same_20 _ _ _ _ _ _ = _
            unfold F_X11_same_20
            simp only [rk_19, if_true, m_termOf (show j < 30 by omega) (show t < 9 by omega), m_termOf (show k < 30 by omega) (show t < 9 by omega), Option.bind_some, (q6 t (by omega)).1, (r6 t (by omega)).1]
            rw [if_neg (by rw [cle_9 (by omega)]; omega), add_1]
          rw [e1, e2]
          by_cases hg : g t = e t
          · rw [if_pos hg, if_pos hg]
            exact ih (t + 1) m m' (by omega) (by omega) (by omega)
          · rw [if_neg hg, if_neg hg]
            exact ⟨0, rfl, rfl⟩
      obtain ⟨r, g1, g2⟩ := loop 9 0 xfuel xfuel (by omega) (by decide) (by decide)
      refine ⟨r, ?_, ?_⟩
      · unfold F_X10_same
        simp only [rk_0, if_true, s_polyOk p1 p2 hj, s_polyOk p1 p2 hk, q1, r1, xnul, Option.bind_some]
        exact g1
      · unfold F_X11_same
        simp only [rk_19, if_true, m_isPoly p1 p3, Option.bind_some, if10]
        rw [if_neg (not_not_intro h1), if_neg (not_not_intro h2)]
        exact g2
    · refine ⟨-1, ?_, ?_⟩
      · unfold F_X10_same
        simp only [rk_0, if_true, s_polyOk p1 p2 hj, s_polyNo p1 p2 h2, q1, xnul, Option.bind_some]
      · unfold F_X11_same
        simp only [rk_19, if_true, m_isPoly p1 p3, Option.bind_some, if10]
        rw [if_neg (not_not_intro h1), if_pos h2]
  · refine ⟨-1, ?_, ?_⟩
    · unfold F_X10_same
      by_cases h2 : 0 ≤ q.toInt ∧ q.toInt < n
      · obtain ⟨k, hk, rfl⟩ := inN (by omega) h2
        simp only [rk_0, if_true, s_polyOk p1 p2 hk, s_polyNo p1 p2 h1, xnul, Option.bind_some]
      · simp only [rk_0, if_true, s_polyNo p1 p2 h2, s_polyNo p1 p2 h1, xnul, Option.bind_some]
    · unfold F_X11_same
      simp only [rk_19, if_true, m_isPoly p1 p3, Option.bind_some, if10]
      rw [if_pos h1]
/-- the class's test of coefficients -/
theorem s_areCo {f : xHp} {b : Nat} {g : Nat → Int64} (hb : f b = some (.inr (.inl (9, g)))) : ∃ r : Int32, F_X10_areCoefficients f b = some r ∧ (cok g → r = 1) ∧ (¬ cok g → r = 0) := by
  have loop : ∀ (w t m : Nat), t + w = 9 → w < m → ∃ r : Int32, L_X10_areCoefficients_2 f m b (nI t) = some r ∧ ((∀ i, t ≤ i → i < 9 → -1000 ≤ g i ∧ g i ≤ 1000) → r = 1) ∧ (¬ (∀ i, t ≤ i → i < 9 → -1000 ≤ g i ∧ g i ≤ 1000) → r = 0) := by
    intro w
    induction w with
    | zero =>
      intro t m ht hm
      obtain ⟨m, rfl⟩ : ∃ y, m = y + 1 := ⟨m - 1, by omega⟩
      have : t = 9 := by omega
      subst this
      refine ⟨1, ?_, fun _ => rfl, fun q => absurd (fun i h1 h2 => absurd h2 (by omega)) q⟩
      show F_X10_areCoefficients_2 _ _ _ _ = _
      unfold F_X10_areCoefficients_2
      rw [fLenJ hb, Option.bind_some, if_pos (by decide)]
    | succ w ih =>
      intro t m ht hm
      obtain ⟨m, rfl⟩ : ∃ y, m = y + 1 := ⟨m - 1, by omega⟩
      obtain ⟨r, e1, e2, e3⟩ := ih (t + 1) m (by omega) (by omega)
      have e : L_X10_areCoefficients_2 f (m + 1) b (nI t) = if ¬ (-1000 ≤ g t ∧ g t ≤ 1000) then some 0 else some r := by
        show F_X10_areCoefficients_2 _ _ _ _ = _
        unfold F_X10_areCoefficients_2
        simp (disch := omega) only [fLenJ hb, fJld hb, Option.bind_some, mul_3, mul_4, mul_5, mul_9, mul_30, mul_160, add_1, add_2, add_3, add_4, add_5, add_6, addl_1, addl_2, addl_3, addl_4, cle_0, cel_0, clt_0, ctl_0, ceq_0, cle_1, cel_1, clt_1, ctl_1, ceq_1, cle_2, cel_2, clt_2, ctl_2, ceq_2, cle_3, cel_3, clt_3, ctl_3, ceq_3, cle_4, cel_4, clt_4, ctl_4, ceq_4, cle_5, cel_5, clt_5, ctl_5, ceq_5, cle_6, cel_6, clt_6, ctl_6, ceq_6, cle_7, cel_7, clt_7, ctl_7, ceq_7, cle_8, cel_8, clt_8, ctl_8, ceq_8, cle_9, cel_9, clt_9, ctl_9, ceq_9, cle_12, cel_12, clt_12, ctl_12, ceq_12, cle_20, cel_20, clt_20, ctl_20, ceq_20, cle_24, cel_24, clt_24, ctl_24, ceq_24, cle_25, cel_25, clt_25, ctl_25, ceq_25, cle_30, cel_30, clt_30, ctl_30, ceq_30, cle_36, cel_36, clt_36, ctl_36, ceq_36, cle_40, cel_40, clt_40, ctl_40, ceq_40, cle_41, cel_41, clt_41, ctl_41, ceq_41, cle_120, cel_120, clt_120, ctl_120, ceq_120, cle_160, cel_160, clt_160, ctl_160, ceq_160, cle_164, cel_164, clt_164, ctl_164, ceq_164, cle_500, cel_500, clt_500, ctl_500, ceq_500, cle_1000, cel_1000, clt_1000, ctl_1000, ceq_1000, ixr, ixq, ixf, neg_nI, leq_nI, lt_nI, eq_nI, cl_nI, nI_add, pk_mul, s_isWithin, if10, e1]
        rw [if_neg (by omega)]
      rw [e]
      by_cases h1 : -1000 ≤ g t ∧ g t ≤ 1000
      · rw [if_neg (not_not_intro h1)]
        refine ⟨r, rfl, fun q => e2 (fun i a b => q i (by omega) b), fun q => e3 (fun p => q (fun i a b => ?_))⟩
        by_cases e : i = t
        · rw [e]; exact h1
        · exact p i (by omega) b
      · rw [if_pos h1]
        exact ⟨0, rfl, fun q => absurd (q t (Nat.le_refl _) (by omega)) h1, fun _ => rfl⟩
  obtain ⟨r, e1, e2, e3⟩ := loop 9 0 xfuel (by omega) (by decide)
  exact ⟨r, e1, fun h => e2 (fun i _ b => h i b), fun h => e3 (fun q => h (fun i b => q i (Nat.zero_le _) b))⟩
/-- the class keeps nine coefficients that lie in a new row -/
theorem s_keep (hz : x + 41 ≤ z) {b : Nat} (hb : x + 41 ≤ b ∧ b < z) {D : Nat → Int64} (eb : f0 b = some (.inr (.inl (9, D)))) {n : Nat} (hn : n ≤ 30) (hc : iv 0 6 = nI n) :
    (¬ cok D → F_X10_keepPolynomial z (hp x iv ai aj ar pp f0) x b = some (-2, z, hp x iv ai aj ar pp f0)) ∧ (cok D → n = 30 → F_X10_keepPolynomial z (hp x iv ai aj ar pp f0) x b = some (-4, z, hp x iv ai aj ar pp f0)) ∧
    (cok D → n < 30 → ∃ f1 : xHp, F_X10_keepPolynomial z (hp x iv ai aj ar pp f0) x b = some (nI n, z + 1, hp x (u2 iv 0 6 (nI (n + 1))) ai aj (u2 ar 2 n (some z)) pp f1) ∧ f1 z = some (.inr (.inr (.inr (4, [.ref b])))) ∧ ∀ a, a < z → f1 a = f0 a) := by
  obtain ⟨r, e1, e2, e3⟩ := s_areCo (f := hp x iv ai aj ar pp f0) (b := b) (g := D) (by rw [hp_out hb.1]; exact eb)
  refine ⟨fun h => ?_, fun h h1 => ?_, fun h h1 => ?_⟩
  · unfold F_X10_keepPolynomial
    rw [e1, Option.bind_some, if_pos (e3 h)]
  · unfold F_X10_keepPolynomial
    rw [e1, Option.bind_some, e2 h, if_neg (by decide)]
    simp (disch := omega) only [ri_0_6, hc, Option.bind_some, mul_3, mul_4, mul_5, mul_9, mul_30, mul_160, add_1, add_2, add_3, add_4, add_5, add_6, addl_1, addl_2, addl_3, addl_4, cle_0, cel_0, clt_0, ctl_0, ceq_0, cle_1, cel_1, clt_1, ctl_1, ceq_1, cle_2, cel_2, clt_2, ctl_2, ceq_2, cle_3, cel_3, clt_3, ctl_3, ceq_3, cle_4, cel_4, clt_4, ctl_4, ceq_4, cle_5, cel_5, clt_5, ctl_5, ceq_5, cle_6, cel_6, clt_6, ctl_6, ceq_6, cle_7, cel_7, clt_7, ctl_7, ceq_7, cle_8, cel_8, clt_8, ctl_8, ceq_8, cle_9, cel_9, clt_9, ctl_9, ceq_9, cle_12, cel_12, clt_12, ctl_12, ceq_12, cle_20, cel_20, clt_20, ctl_20, ceq_20, cle_24, cel_24, clt_24, ctl_24, ceq_24, cle_25, cel_25, clt_25, ctl_25, ceq_25, cle_30, cel_30, clt_30, ctl_30, ceq_30, cle_36, cel_36, clt_36, ctl_36, ceq_36, cle_40, cel_40, clt_40, ctl_40, ceq_40, cle_41, cel_41, clt_41, ctl_41, ceq_41, cle_120, cel_120, clt_120, ctl_120, ceq_120, cle_160, cel_160, clt_160, ctl_160, ceq_160, cle_164, cel_164, clt_164, ctl_164, ceq_164, cle_500, cel_500, clt_500, ctl_500, ceq_500, cle_1000, cel_1000, clt_1000, ctl_1000, ceq_1000, ixr, ixq, ixf, neg_nI, leq_nI, lt_nI, eq_nI, cl_nI, nI_add, pk_mul]
    rw [if_neg (by omega)]
  · refine ⟨va_up (va_up f0 z (some (.inr (.inr (.inr (4, [.null])))))) z (some (.inr (.inr (.inr (4, [.ref b]))))), ?_, up_at _ _ _, fun a ha => by rw [up_ne _ _ (by omega), up_ne _ _ (by omega)]⟩
    unfold F_X10_keepPolynomial
    rw [e1, Option.bind_some, e2 h, if_neg (by decide)]
    simp (disch := omega) only [ri_0_6, rn_0_1, hc, Option.bind_some, mul_3, mul_4, mul_5, mul_9, mul_30, mul_160, add_1, add_2, add_3, add_4, add_5, add_6, addl_1, addl_2, addl_3, addl_4, cle_0, cel_0, clt_0, ctl_0, ceq_0, cle_1, cel_1, clt_1, ctl_1, ceq_1, cle_2, cel_2, clt_2, ctl_2, ceq_2, cle_3, cel_3, clt_3, ctl_3, ceq_3, cle_4, cel_4, clt_4, ctl_4, ceq_4, cle_5, cel_5, clt_5, ctl_5, ceq_5, cle_6, cel_6, clt_6, ctl_6, ceq_6, cle_7, cel_7, clt_7, ctl_7, ceq_7, cle_8, cel_8, clt_8, ctl_8, ceq_8, cle_9, cel_9, clt_9, ctl_9, ceq_9, cle_12, cel_12, clt_12, ctl_12, ceq_12, cle_20, cel_20, clt_20, ctl_20, ceq_20, cle_24, cel_24, clt_24, ctl_24, ceq_24, cle_25, cel_25, clt_25, ctl_25, ceq_25, cle_30, cel_30, clt_30, ctl_30, ceq_30, cle_36, cel_36, clt_36, ctl_36, ceq_36, cle_40, cel_40, clt_40, ctl_40, ceq_40, cle_41, cel_41, clt_41, ctl_41, ceq_41, cle_120, cel_120, clt_120, ctl_120, ceq_120, cle_160, cel_160, clt_160, ctl_160, ceq_160, cle_164, cel_164, clt_164, ctl_164, ceq_164, cle_500, cel_500, clt_500, ctl_500, ceq_500, cle_1000, cel_1000, clt_1000, ctl_1000, ceq_1000, ixr, ixq, ixf, neg_nI, leq_nI, lt_nI, eq_nI, cl_nI, nI_add, pk_mul]
    rw [if_pos h1]
    unfold F_X4_init
    rw [hp_dyn hz, dPut (c := 4) (fs := [.null]) (tb := [(4, 0)]) (k := 0) hz _ (up_at _ _ _) rfl (by decide), Option.bind_some, Option.bind_some]
    rw [wq_2 _ z 4 (by rw [dK hz]; exact fK (up_at _ _ _)) rfl]
    simp (disch := omega) only [ri_0_6, wi_0_6, hc, Option.bind_some, mul_3, mul_4, mul_5, mul_9, mul_30, mul_160, add_1, add_2, add_3, add_4, add_5, add_6, addl_1, addl_2, addl_3, addl_4, cle_0, cel_0, clt_0, ctl_0, ceq_0, cle_1, cel_1, clt_1, ctl_1, ceq_1, cle_2, cel_2, clt_2, ctl_2, ceq_2, cle_3, cel_3, clt_3, ctl_3, ceq_3, cle_4, cel_4, clt_4, ctl_4, ceq_4, cle_5, cel_5, clt_5, ctl_5, ceq_5, cle_6, cel_6, clt_6, ctl_6, ceq_6, cle_7, cel_7, clt_7, ctl_7, ceq_7, cle_8, cel_8, clt_8, ctl_8, ceq_8, cle_9, cel_9, clt_9, ctl_9, ceq_9, cle_12, cel_12, clt_12, ctl_12, ceq_12, cle_20, cel_20, clt_20, ctl_20, ceq_20, cle_24, cel_24, clt_24, ctl_24, ceq_24, cle_25, cel_25, clt_25, ctl_25, ceq_25, cle_30, cel_30, clt_30, ctl_30, ceq_30, cle_36, cel_36, clt_36, ctl_36, ceq_36, cle_40, cel_40, clt_40, ctl_40, ceq_40, cle_41, cel_41, clt_41, ctl_41, ceq_41, cle_120, cel_120, clt_120, ctl_120, ceq_120, cle_160, cel_160, clt_160, ctl_160, ceq_160, cle_164, cel_164, clt_164, ctl_164, ceq_164, cle_500, cel_500, clt_500, ctl_500, ceq_500, cle_1000, cel_1000, clt_1000, ctl_1000, ceq_1000, ixr, ixq, ixf, neg_nI, leq_nI, lt_nI, eq_nI, cl_nI, nI_add, pk_mul]
    rfl
/-- what the reference's draft holds, kept as a polynomial -/
def lay9 (f : Nat → Int64) (n j : Nat) (D : Nat → Int64) : Nat → Int64 := fun i => if 9 * n + j ≤ i ∧ i < 9 * n + 9 then D (i - 9 * n) else f i
theorem m_keep_loop {n : Nat} (hn : n < 30) (hc : iv 19 5 = nI n) : ∀ (w j m : Nat) (aj : Nat → Nat → Int64), j + w = 9 → w < m → L_X11_becomes_48 m (hp x iv ai aj ar pp f0) (x + 19) (nI j) = some (nI n, hp x (u2 iv 19 5 (nI (n + 1))) ai (va_up aj 23 (lay9 (aj 23) n j (aj 24))) ar pp f0) := by
  intro w
  induction w with
  | zero =>
    intro j m aj hj hm
    obtain ⟨m, rfl⟩ : ∃ y, m = y + 1 := ⟨m - 1, by omega⟩
    have : j = 9 := by omega
    subst this
    show F_X11_becomes_48 _ _ _ _ = _
    unfold F_X11_becomes_48
    rw [if_pos (by decide)]
    simp (disch := omega) only [ri_19_5, wi_19_5, hc, Option.bind_some, mul_3, mul_4, mul_5, mul_9, mul_30, mul_160, add_1, add_2, add_3, add_4, add_5, add_6, addl_1, addl_2, addl_3, addl_4, cle_0, cel_0, clt_0, ctl_0, ceq_0, cle_1, cel_1, clt_1, ctl_1, ceq_1, cle_2, cel_2, clt_2, ctl_2, ceq_2, cle_3, cel_3, clt_3, ctl_3, ceq_3, cle_4, cel_4, clt_4, ctl_4, ceq_4, cle_5, cel_5, clt_5, ctl_5, ceq_5, cle_6, cel_6, clt_6, ctl_6, ceq_6, cle_7, cel_7, clt_7, ctl_7, ceq_7, cle_8, cel_8, clt_8, ctl_8, ceq_8, cle_9, cel_9, clt_9, ctl_9, ceq_9, cle_12, cel_12, clt_12, ctl_12, ceq_12, cle_20, cel_20, clt_20, ctl_20, ceq_20, cle_24, cel_24, clt_24, ctl_24, ceq_24, cle_25, cel_25, clt_25, ctl_25, ceq_25, cle_30, cel_30, clt_30, ctl_30, ceq_30, cle_36, cel_36, clt_36, ctl_36, ceq_36, cle_40, cel_40, clt_40, ctl_40, ceq_40, cle_41, cel_41, clt_41, ctl_41, ceq_41, cle_120, cel_120, clt_120, ctl_120, ceq_120, cle_160, cel_160, clt_160, ctl_160, ceq_160, cle_164, cel_164, clt_164, ctl_164, ceq_164, cle_500, cel_500, clt_500, ctl_500, ceq_500, cle_1000, cel_1000, clt_1000, ctl_1000, ceq_1000, ixr, ixq, ixf, neg_nI, leq_nI, lt_nI, eq_nI, cl_nI, nI_add, pk_mul, show nI (n + 1) - 1 = nI n from nI_pred n]
    have e : lay9 (aj 23) n 9 (aj 24) = aj 23 := by
      funext i
      unfold lay9
      rw [if_neg (by omega)]
    rw [e, up_self]
    show some (u2 iv 19 5 (nI (n + 1)) 19 5 - 1, _) = _
    rw [show u2 iv 19 5 (nI (n + 1)) 19 5 = nI (n + 1) from rfl, nI_pred]
  | succ w ih =>
    intro j m aj hj hm
    obtain ⟨m, rfl⟩ : ∃ y, m = y + 1 := ⟨m - 1, by omega⟩
    show F_X11_becomes_48 _ _ _ _ = _
    unfold F_X11_becomes_48
    simp (disch := omega) only [ri_19_5, rn_19_6, rn_19_7, ra_24, wa_23, hc, Option.bind_some, mul_3, mul_4, mul_5, mul_9, mul_30, mul_160, add_1, add_2, add_3, add_4, add_5, add_6, addl_1, addl_2, addl_3, addl_4, cle_0, cel_0, clt_0, ctl_0, ceq_0, cle_1, cel_1, clt_1, ctl_1, ceq_1, cle_2, cel_2, clt_2, ctl_2, ceq_2, cle_3, cel_3, clt_3, ctl_3, ceq_3, cle_4, cel_4, clt_4, ctl_4, ceq_4, cle_5, cel_5, clt_5, ctl_5, ceq_5, cle_6, cel_6, clt_6, ctl_6, ceq_6, cle_7, cel_7, clt_7, ctl_7, ceq_7, cle_8, cel_8, clt_8, ctl_8, ceq_8, cle_9, cel_9, clt_9, ctl_9, ceq_9, cle_12, cel_12, clt_12, ctl_12, ceq_12, cle_20, cel_20, clt_20, ctl_20, ceq_20, cle_24, cel_24, clt_24, ctl_24, ceq_24, cle_25, cel_25, clt_25, ctl_25, ceq_25, cle_30, cel_30, clt_30, ctl_30, ceq_30, cle_36, cel_36, clt_36, ctl_36, ceq_36, cle_40, cel_40, clt_40, ctl_40, ceq_40, cle_41, cel_41, clt_41, ctl_41, ceq_41, cle_120, cel_120, clt_120, ctl_120, ceq_120, cle_160, cel_160, clt_160, ctl_160, ceq_160, cle_164, cel_164, clt_164, ctl_164, ceq_164, cle_500, cel_500, clt_500, ctl_500, ceq_500, cle_1000, cel_1000, clt_1000, ctl_1000, ceq_1000, ixr, ixq, ixf, neg_nI, leq_nI, lt_nI, eq_nI, cl_nI, nI_add, pk_mul]
    rw [if_neg (by omega), ih (j + 1) m _ (by omega) (by omega)]
    have e : lay9 (va_up (aj 23) (9 * n + j) (aj 24 j)) n (j + 1) (aj 24) = lay9 (aj 23) n j (aj 24) := by
      funext i
      unfold lay9 va_up
      by_cases h1 : 9 * n + (j + 1) ≤ i ∧ i < 9 * n + 9
      · rw [if_pos h1, if_pos (by omega)]
      · rw [if_neg h1]
        by_cases h2 : i = 9 * n + j
        · rw [if_pos h2, if_pos (by omega), h2, Nat.add_sub_cancel_left]
        · rw [if_neg h2, if_neg (by omega)]
    show some (nI n, hp x (u2 iv 19 5 (nI (n + 1))) ai (va_up (u2 aj 23 (9 * n + j) (aj 24 j)) 23 (lay9 (va_up (aj 23) (9 * n + j) (aj 24 j)) n (j + 1) (aj 24))) ar pp f0) = _
    rw [e, up_u2]
theorem m_keep {n : Nat} (hn : n ≤ 30) (hc : iv 19 5 = nI n) :
    (¬ cok (aj 24) → F_X11_becomes (hp x iv ai aj ar pp f0) (x + 19) 9 = some (-2, hp x iv ai aj ar pp f0)) ∧ (cok (aj 24) → n = 30 → F_X11_becomes (hp x iv ai aj ar pp f0) (x + 19) 9 = some (-4, hp x iv ai aj ar pp f0)) ∧
    (cok (aj 24) → n < 30 → F_X11_becomes (hp x iv ai aj ar pp f0) (x + 19) 9 = some (nI n, hp x (u2 iv 19 5 (nI (n + 1))) ai (va_up aj 23 (lay9 (aj 23) n 0 (aj 24))) ar pp f0)) := by
  have loop : ∀ (w t m : Nat), t + w = 9 → w < m → ((¬ ∀ i, t ≤ i → i < 9 → -1000 ≤ aj 24 i ∧ aj 24 i ≤ 1000) → L_X11_becomes_2 m (hp x iv ai aj ar pp f0) (x + 19) 9 (nI t) = some (-2, hp x iv ai aj ar pp f0)) ∧ ((∀ i, t ≤ i → i < 9 → -1000 ≤ aj 24 i ∧ aj 24 i ≤ 1000) → L_X11_becomes_2 m (hp x iv ai aj ar pp f0) (x + 19) 9 (nI t) = if nI n = 30 then some (-4, hp x iv ai aj ar pp f0) else L_X11_becomes_48 xfuel (hp x iv ai aj ar pp f0) (x + 19) 0) := by
    intro w
    induction w with
    | zero =>
      intro t m ht hm
      obtain ⟨m, rfl⟩ : ∃ y, m = y + 1 := ⟨m - 1, by omega⟩
      have : t = 9 := by omega
      subst this
      refine ⟨fun q => absurd (fun i h1 h2 => absurd h2 (by omega)) q, fun _ => ?_⟩
      show F_X11_becomes_2 _ _ _ _ _ = _
      unfold F_X11_becomes_2
      rw [if_pos (by decide), ri_19_5, hc]
      rfl
    | succ w ih =>
      intro t m ht hm
      obtain ⟨m, rfl⟩ : ∃ y, m = y + 1 := ⟨m - 1, by omega⟩
      obtain ⟨i1, i2⟩ := ih (t + 1) m (by omega) (by omega)
      have e : L_X11_becomes_2 (m + 1) (hp x iv ai aj ar pp f0) (x + 19) 9 (nI t) = if ¬ (-1000 ≤ aj 24 t ∧ aj 24 t ≤ 1000) then some (-2, hp x iv ai aj ar pp f0) else L_X11_becomes_2 m (hp x iv ai aj ar pp f0) (x + 19) 9 (nI (t + 1)) := by
        show F_X11_becomes_2 _ _ _ _ _ = _
        unfold F_X11_becomes_2
        simp (disch := omega) only [rn_19_7, ra_24, Option.bind_some, mul_3, mul_4, mul_5, mul_9, mul_30, mul_160, add_1, add_2, add_3, add_4, add_5, add_6, addl_1, addl_2, addl_3, addl_4, cle_0, cel_0, clt_0, ctl_0, ceq_0, cle_1, cel_1, clt_1, ctl_1, ceq_1, cle_2, cel_2, clt_2, ctl_2, ceq_2, cle_3, cel_3, clt_3, ctl_3, ceq_3, cle_4, cel_4, clt_4, ctl_4, ceq_4, cle_5, cel_5, clt_5, ctl_5, ceq_5, cle_6, cel_6, clt_6, ctl_6, ceq_6, cle_7, cel_7, clt_7, ctl_7, ceq_7, cle_8, cel_8, clt_8, ctl_8, ceq_8, cle_9, cel_9, clt_9, ctl_9, ceq_9, cle_12, cel_12, clt_12, ctl_12, ceq_12, cle_20, cel_20, clt_20, ctl_20, ceq_20, cle_24, cel_24, clt_24, ctl_24, ceq_24, cle_25, cel_25, clt_25, ctl_25, ceq_25, cle_30, cel_30, clt_30, ctl_30, ceq_30, cle_36, cel_36, clt_36, ctl_36, ceq_36, cle_40, cel_40, clt_40, ctl_40, ceq_40, cle_41, cel_41, clt_41, ctl_41, ceq_41, cle_120, cel_120, clt_120, ctl_120, ceq_120, cle_160, cel_160, clt_160, ctl_160, ceq_160, cle_164, cel_164, clt_164, ctl_164, ceq_164, cle_500, cel_500, clt_500, ctl_500, ceq_500, cle_1000, cel_1000, clt_1000, ctl_1000, ceq_1000, ixr, ixq, ixf, neg_nI, leq_nI, lt_nI, eq_nI, cl_nI, nI_add, pk_mul, s_within, if10]
        rw [if_neg (by omega)]
      rw [e]
      by_cases h1 : -1000 ≤ aj 24 t ∧ aj 24 t ≤ 1000
      · rw [if_neg (not_not_intro h1)]
        refine ⟨fun q => i1 (fun p => q (fun i a b => ?_)), fun q => i2 (fun i a b => q i (by omega) b)⟩
        by_cases e : i = t
        · rw [e]; exact h1
        · exact p i (by omega) b
      · rw [if_pos h1]
        exact ⟨fun _ => rfl, fun q => absurd (q t (Nat.le_refl _) (by omega)) h1⟩
  obtain ⟨l1, l2⟩ := loop 9 0 xfuel (by omega) (by decide)
  refine ⟨fun h => ?_, fun h h1 => ?_, fun h h1 => ?_⟩
  · exact l1 (fun q => h (fun i b => q i (Nat.zero_le _) b))
  · refine (l2 (fun i _ b => h i b)).trans ?_
    rw [h1]
    rfl
  · refine (l2 (fun i _ b => h i b)).trans ?_
    rw [if_neg (by rw [ceq_30 (by omega)]; omega)]
    exact m_keep_loop h1 hc 9 0 xfuel aj (by omega) (by decide)
end POLYS

/-! coefficients that come to be a polynomial -/
section POLYS
variable {x z : Nat} {iv ai : Nat → Nat → Int32} {aj : Nat → Nat → Int64} {ar : Nat → Nat → Option Nat} {pp : Nat → Option Nat} {f0 : xHp}
def cok (D : Nat → Int64) : Prop := ∀ t, t < 9 → -1000 ≤ D t ∧ D t ≤ 1000
theorem op_same (hI0 : INV x z iv ai aj ar pp f0) (p q : Int32) : Or_ (F_X10_same (hp x iv ai aj ar pp f0) x p q) (F_X11_same (hp x iv ai aj ar pp f0) (x + 19) p q) := by
  obtain ⟨hz, own, hT, hS, ⟨n, p1, p2, p3, p4⟩, hB, hR, hQ⟩ := id hI0
  by_cases h1 : 0 ≤ p.toInt ∧ p.toInt < n
  · obtain ⟨j, hj, rfl⟩ := inN (by omega) h1
    obtain ⟨a, b, g, q1, q2, q3, q4, q5, q6⟩ := p4 j hj
    by_cases h2 : 0 ≤ q.toInt ∧ q.toInt < n
    · obtain ⟨k, hk, rfl⟩ := inN (by omega) h2
      obtain ⟨c, d, e, r1, r2, r3, r4, r5, r6⟩ := p4 k hk
      have loop : ∀ (w t m m' : Nat), t + w = 9 → w < m → w < m' → Or_ (L_X10_same_27 (hp x iv ai aj ar pp f0) m a c (nI t)) (L_X11_same_20 (hp x iv ai aj ar pp f0) m' (x + 19) (nI j) (nI k) (nI t)) := by
        intro w
        induction w with
        | zero =>
          intro t m m' ht hm hm'
          obtain ⟨m, rfl⟩ : ∃ y, m = y + 1 := ⟨m - 1, by omega⟩
          obtain ⟨m', rfl⟩ : ∃ y, m' = y + 1 := ⟨m' - 1, by omega⟩
          have : t = 9 := by omega
          subst this
          refine ⟨1, ?_, ?_⟩
          · show F_X10_same_27 _ _ _ _ _ = _
            unfold F_X10_same_27
            rw [if_pos (by decide)]
          · show F_X11_same_20 _ _ _ _ _ _ = _
            unfold F_X11_same_20
            rw [if_pos (by decide)]
        | succ w ih =>
          intro t m m' ht hm hm'
          obtain ⟨m, rfl⟩ : ∃ y, m = y + 1 := ⟨m - 1, by omega⟩
          obtain ⟨m', rfl⟩ : ∃ y, m' = y + 1 := ⟨m' - 1, by omega⟩
          have hb1 : x + 41 ≤ b := q3.1
          have hd1 : x + 41 ≤ d := r3.1
          have e1 : L_X10_same_27 (hp x iv ai aj ar pp f0) (m + 1) a c (nI t) = if g t = e t then L_X10_same_27 (hp x iv ai aj ar pp f0) m a c (nI (t + 1)) else some 0 := by
            show F_X10_same_27 _ _ _ _ _ = _
            unfold F_X10_same_27
            simp (disch := omega) only [dN q2.1, dN r2.1, show hN f0 a [(4, 0)] = some b from fN q4 rfl rfl, show hN f0 c [(4, 0)] = some d from fN r4 rfl rfl, dJld hb1, dJld hd1, fJld q5, fJld r5, Option.bind_some, mul_3, mul_4, mul_5, mul_9, mul_30, mul_160, add_1, add_2, add_3, add_4, add_5, add_6, addl_1, addl_2, addl_3, addl_4, cle_0, cel_0, clt_0, ctl_0, ceq_0, cle_1, cel_1, clt_1, ctl_1, ceq_1, cle_2, cel_2, clt_2, ctl_2, ceq_2, cle_3, cel_3, clt_3, ctl_3, ceq_3, cle_4, cel_4, clt_4, ctl_4, ceq_4, cle_5, cel_5, clt_5, ctl_5, ceq_5, cle_6, cel_6, clt_6, ctl_6, ceq_6, cle_7, cel_7, clt_7, ctl_7, ceq_7, cle_8, cel_8, clt_8, ctl_8, ceq_8, cle_9, cel_9, clt_9, ctl_9, ceq_9, cle_12, cel_12, clt_12, ctl_12, ceq_12, cle_20, cel_20, clt_20, ctl_20, ceq_20, cle_24, cel_24, clt_24, ctl_24, ceq_24, cle_25, cel_25, clt_25, ctl_25, ceq_25, cle_30, cel_30, clt_30, ctl_30, ceq_30, cle_36, cel_36, clt_36, ctl_36, ceq_36, cle_40, cel_40, clt_40, ctl_40, ceq_40, cle_41, cel_41, clt_41, ctl_41, ceq_41, cle_120, cel_120, clt_120, ctl_120, ceq_120, cle_160, cel_160, clt_160, ctl_160, ceq_160, cle_164, cel_164, clt_164, ctl_164, ceq_164, cle_500, cel_500, clt_500, ctl_500, ceq_500, cle_1000, cel_1000, clt_1000, ctl_1000, ceq_1000, ixr, ixq, ixf, neg_nI, leq_nI, lt_nI, eq_nI, cl_nI, nI_add, pk_mul]
            rw [if_neg (by omega)]
          have e2 : L_X11_same_20 (hp x iv ai aj ar pp f0) (m' + 1) (x + 19) (nI j) (nI k) (nI t) = if g t = e t then L_X11_same_20 (hp x iv ai aj ar pp f0) m' (x + 19) (nI j) (nI k) (nI (t + 1)) else some 0 := by
            show F_X11_same_20 _ _ _ _ _ _ = _
            unfold F_X11_same_20
            simp only [rk_19, if_true, m_termOf (show j < 30 by omega) (show t < 9 by omega), m_termOf (show k < 30 by omega) (show t < 9 by omega), Option.bind_some, (q6 t (by omega)).1, (r6 t (by omega)).1]
            rw [if_neg (by rw [cle_9 (by omega)]; omega), add_1]
          rw [e1, e2]
          by_cases hg : g t = e t
          · rw [if_pos hg, if_pos hg]
            exact ih (t + 1) m m' (by omega) (by omega) (by omega)
          · rw [if_neg hg, if_neg hg]
            exact ⟨0, rfl, rfl⟩
      obtain ⟨r, g1, g2⟩ := loop 9 0 xfuel xfuel (by omega) (by decide) (by decide)
      refine ⟨r, ?_, ?_⟩
      · unfold F_X10_same
        simp only [rk_0, if_true, s_polyOk p1 p2 hj, s_polyOk p1 p2 hk, q1, r1, xnul, Option.bind_some]
        exact g1
      · unfold F_X11_same
        simp only [rk_19, if_true, m_isPoly p1 p3, Option.bind_some, if10]
        rw [if_neg (not_not_intro h1), if_neg (not_not_intro h2)]
        exact g2
    · refine ⟨-1, ?_, ?_⟩
      · unfold F_X10_same
        simp only [rk_0, if_true, s_polyOk p1 p2 hj, s_polyNo p1 p2 h2, q1, xnul, Option.bind_some]
      · unfold F_X11_same
        simp only [rk_19, if_true, m_isPoly p1 p3, Option.bind_some, if10]
        rw [if_neg (not_not_intro h1), if_pos h2]
  · refine ⟨-1, ?_, ?_⟩
    · unfold F_X10_same
      by_cases h2 : 0 ≤ q.toInt ∧ q.toInt < n
      · obtain ⟨k, hk, rfl⟩ := inN (by omega) h2
        simp only [rk_0, if_true, s_polyOk p1 p2 hk, s_polyNo p1 p2 h1, xnul, Option.bind_some]
      · simp only [rk_0, if_true, s_polyNo p1 p2 h2, s_polyNo p1 p2 h1, xnul, Option.bind_some]
    · unfold F_X11_same
      simp only [rk_19, if_true, m_isPoly p1 p3, Option.bind_some, if10]
      rw [if_pos h1]
/-- the class's test of coefficients -/
theorem s_areCo {f : xHp} {b : Nat} {g : Nat → Int64} (hb : f b = some (.inr (.inl (9, g)))) [Decidable (cok g)] : F_X10_areCoefficients f b = some (if cok g then 1 else 0) := by
  have loop : ∀ (w t m : Nat), t + w = 9 → w < m → L_X10_areCoefficients_2 f m b (nI t) = some (if ∀ i, t ≤ i → i < 9 → -1000 ≤ g i ∧ g i ≤ 1000 then 1 else 0) := by
    intro w
    induction w with
    | zero =>
      intro t m ht hm
      obtain ⟨m, rfl⟩ : ∃ y, m = y + 1 := ⟨m - 1, by omega⟩
      have : t = 9 := by omega
      subst this
      show F_X10_areCoefficients_2 _ _ _ _ = _
      unfold F_X10_areCoefficients_2
      rw [fLenJ hb, Option.bind_some, if_pos (by decide), if_pos (fun i h1 h2 => absurd h2 (by omega))]
    | succ w ih =>
      intro t m ht hm
      obtain ⟨m, rfl⟩ : ∃ y, m = y + 1 := ⟨m - 1, by omega⟩
      show F_X10_areCoefficients_2 _ _ _ _ = _
      unfold F_X10_areCoefficients_2
      simp (disch := omega) only [fLenJ hb, fJld hb, Option.bind_some, mul_3, mul_4, mul_5, mul_9, mul_30, mul_160, add_1, add_2, add_3, add_4, add_5, add_6, addl_1, addl_2, addl_3, addl_4, cle_0, cel_0, clt_0, ctl_0, ceq_0, cle_1, cel_1, clt_1, ctl_1, ceq_1, cle_2, cel_2, clt_2, ctl_2, ceq_2, cle_3, cel_3, clt_3, ctl_3, ceq_3, cle_4, cel_4, clt_4, ctl_4, ceq_4, cle_5, cel_5, clt_5, ctl_5, ceq_5, cle_6, cel_6, clt_6, ctl_6, ceq_6, cle_7, cel_7, clt_7, ctl_7, ceq_7, cle_8, cel_8, clt_8, ctl_8, ceq_8, cle_9, cel_9, clt_9, ctl_9, ceq_9, cle_12, cel_12, clt_12, ctl_12, ceq_12, cle_20, cel_20, clt_20, ctl_20, ceq_20, cle_24, cel_24, clt_24, ctl_24, ceq_24, cle_25, cel_25, clt_25, ctl_25, ceq_25, cle_30, cel_30, clt_30, ctl_30, ceq_30, cle_36, cel_36, clt_36, ctl_36, ceq_36, cle_40, cel_40, clt_40, ctl_40, ceq_40, cle_41, cel_41, clt_41, ctl_41, ceq_41, cle_120, cel_120, clt_120, ctl_120, ceq_120, cle_160, cel_160, clt_160, ctl_160, ceq_160, cle_164, cel_164, clt_164, ctl_164, ceq_164, cle_500, cel_500, clt_500, ctl_500, ceq_500, cle_1000, cel_1000, clt_1000, ctl_1000, ceq_1000, ixr, ixq, ixf, neg_nI, leq_nI, lt_nI, eq_nI, cl_nI, nI_add, pk_mul, s_isWithin, if10]
      rw [if_neg (by omega), ih (t + 1) m (by omega) (by omega)]
      by_cases h1 : -1000 ≤ g t ∧ g t ≤ 1000
      · rw [if_neg (not_not_intro h1)]
        congr 1
        by_cases h2 : ∀ i, t + 1 ≤ i → i < 9 → -1000 ≤ g i ∧ g i ≤ 1000
        · rw [if_pos h2, if_pos (fun i a b => by
            by_cases e : i = t
            · rw [e]; exact h1
            · exact h2 i (by omega) b)]
        · rw [if_neg h2, if_neg (fun q => h2 (fun i a b => q i (by omega) b))]
      · rw [if_pos h1, if_neg (fun q => h1 (q t (Nat.le_refl _) (by omega)))]
  unfold F_X10_areCoefficients
  rw [show (0 : Int32) = nI 0 from rfl, loop 9 0 xfuel (by omega) (by decide)]
  congr 1
  by_cases h : cok g
  · rw [if_pos h, if_pos (fun i _ b => h i b)]
  · rw [if_neg h, if_neg (fun q => h (fun i b => q i (Nat.zero_le _) b))]
end POLYS

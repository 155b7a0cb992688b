section ADD
variable {x z : Nat} {iv ai : Nat → Nat → Int32} {aj : Nat → Nat → Int64} {ar : Nat → Nat → Option Nat} {pp : Nat → Option Nat} {f0 : xHp}
theorem eta3 {α β γ : Type} (o : Option (α × β × γ)) : (Option.bind o fun q => some (q.1, q.2.1, q.2.2)) = o := by cases o <;> rfl
theorem eta2 {α β : Type} (o : Option (α × β)) : (Option.bind o fun q => some (q.1, q.2)) = o := by cases o <;> rfl
theorem up_g {f : xHp} {z a : Nat} (e : Option xE) (h : a < z) : va_up f z e a = f a := up_ne _ _ (by omega)
/-- the class fills a row at z, place by place, with what the two polynomials give -/
theorem s_add_loop (hz : x + 41 ≤ z) {a b c d : Nat} {g e : Nat → Int64} {w32 : Int32} (ha : x + 41 ≤ a ∧ a < z) (hb : x + 41 ≤ b ∧ b < z) (hc : x + 41 ≤ c ∧ c < z) (hd : x + 41 ≤ d ∧ d < z) (fa : f0 a = some (.inr (.inr (.inr (4, [.ref b]))))) (fb : f0 b = some (.inr (.inl (9, g)))) (fc : f0 c = some (.inr (.inr (.inr (4, [.ref d]))))) (fd : f0 d = some (.inr (.inl (9, e)))) : ∀ (w t m : Nat) (f2 : xHp) (G : Nat → Int64), t + w = 9 → w < m → f2 z = some (.inr (.inl (9, G))) → (∀ a, a < z → f2 a = f0 a) → (∀ i, i < t → G i = g i + w32.toInt64 * e i) →
    ∃ (f3 : xHp) (G' : Nat → Int64), L_X10_add_49 m (z + 1) (hp x iv ai aj ar pp f2) x w32 a c z (nI t) = F_X10_keepPolynomial (z + 1) (hp x iv ai aj ar pp f3) x z ∧ f3 z = some (.inr (.inl (9, G'))) ∧ (∀ a, a < z → f3 a = f0 a) ∧ ∀ i, i < 9 → G' i = g i + w32.toInt64 * e i := by
  intro w
  induction w with
  | zero =>
    intro t m f2 G ht hm h1 h2 h3
    obtain ⟨m, rfl⟩ : ∃ y, m = y + 1 := ⟨m - 1, by omega⟩
    have : t = 9 := by omega
    subst this
    refine ⟨f2, G, ?_, h1, h2, h3⟩
    show F_X10_add_49 _ _ _ _ _ _ _ _ _ = _
    unfold F_X10_add_49
    rw [if_pos (by decide), if_pos rk_0, eta3]
  | succ w ih =>
    intro t m f2 G ht hm h1 h2 h3
    obtain ⟨m, rfl⟩ : ∃ y, m = y + 1 := ⟨m - 1, by omega⟩
    obtain ⟨f3, G', e1, e2, e3, e4⟩ := ih (t + 1) m (va_up f2 z (some (.inr (.inl (9, va_up G t (g t + w32.toInt64 * e t)))))) _ (by omega) (by omega) (up_at _ _ _) (fun a h => (up_g _ h).trans (h2 a h)) (fun i hi => by
      by_cases hit : i = t
      · subst hit; rw [up_at]
      · rw [up_ne _ _ hit]; exact h3 i (by omega))
    refine ⟨f3, G', ?_, e2, e3, e4⟩
    rw [← e1]
    show F_X10_add_49 _ _ _ _ _ _ _ _ _ = _
    unfold F_X10_add_49
    have na : hN f2 a [(4, 0)] = some b := fN ((h2 a ha.2).trans fa) rfl rfl
    have nc : hN f2 c [(4, 0)] = some d := fN ((h2 c hc.2).trans fc) rfl rfl
    simp (disch := omega) only [dN ha.1, dN hc.1, na, nc, dJld hb.1, dJld hd.1, fJld ((h2 b hb.2).trans fb), fJld ((h2 d hd.2).trans fd), dJst hz _ _ h1, Option.bind_some, mul_3, mul_4, mul_5, mul_9, mul_30, mul_160, add_1, add_2, add_3, add_4, add_5, add_6, addl_1, addl_2, addl_3, addl_4, cle_0, cel_0, clt_0, ctl_0, ceq_0, cle_1, cel_1, clt_1, ctl_1, ceq_1, cle_2, cel_2, clt_2, ctl_2, ceq_2, cle_3, cel_3, clt_3, ctl_3, ceq_3, cle_4, cel_4, clt_4, ctl_4, ceq_4, cle_5, cel_5, clt_5, ctl_5, ceq_5, cle_6, cel_6, clt_6, ctl_6, ceq_6, cle_7, cel_7, clt_7, ctl_7, ceq_7, cle_8, cel_8, clt_8, ctl_8, ceq_8, cle_9, cel_9, clt_9, ctl_9, ceq_9, cle_12, cel_12, clt_12, ctl_12, ceq_12, cle_20, cel_20, clt_20, ctl_20, ceq_20, cle_24, cel_24, clt_24, ctl_24, ceq_24, cle_25, cel_25, clt_25, ctl_25, ceq_25, cle_30, cel_30, clt_30, ctl_30, ceq_30, cle_36, cel_36, clt_36, ctl_36, ceq_36, cle_40, cel_40, clt_40, ctl_40, ceq_40, cle_41, cel_41, clt_41, ctl_41, ceq_41, cle_120, cel_120, clt_120, ctl_120, ceq_120, cle_160, cel_160, clt_160, ctl_160, ceq_160, cle_164, cel_164, clt_164, ctl_164, ceq_164, cle_500, cel_500, clt_500, ctl_500, ceq_500, cle_1000, cel_1000, clt_1000, ctl_1000, ceq_1000, ixr, ixq, ixf, neg_nI, leq_nI, lt_nI, eq_nI, cl_nI, nI_add, pk_mul]
    rw [if_neg (by omega)]
theorem m_add_loop {j k : Nat} (hj : j < 30) (hk : k < 30) {w32 : Int32} : ∀ (w t m : Nat) (aj : Nat → Nat → Int64), t + w = 9 → w < m → (∀ i, i < t → aj 24 i = aj 23 (9 * j + i) + w32.toInt64 * aj 23 (9 * k + i)) →
    ∃ D : Nat → Int64, L_X11_add_42 m (hp x iv ai aj ar pp f0) (x + 19) (nI j) (nI k) w32 (nI t) = F_X11_becomes (hp x iv ai (va_up aj 24 D) ar pp f0) (x + 19) 9 ∧ ∀ i, i < 9 → D i = aj 23 (9 * j + i) + w32.toInt64 * aj 23 (9 * k + i) := by
  intro w
  induction w with
  | zero =>
    intro t m aj ht hm h3
    obtain ⟨m, rfl⟩ : ∃ y, m = y + 1 := ⟨m - 1, by omega⟩
    have : t = 9 := by omega
    subst this
    refine ⟨aj 24, ?_, h3⟩
    show F_X11_add_42 _ _ _ _ _ _ _ = _
    unfold F_X11_add_42
    rw [if_pos (by decide), if_pos rk_19, eta2, up_self]
  | succ w ih =>
    intro t m aj ht hm h3
    obtain ⟨m, rfl⟩ : ∃ y, m = y + 1 := ⟨m - 1, by omega⟩
    obtain ⟨D, e1, e2⟩ := ih (t + 1) m (u2 aj 24 t (aj 23 (9 * j + t) + w32.toInt64 * aj 23 (9 * k + t))) (by omega) (by omega) (fun i hi => by
      show va_up (aj 24) t _ i = aj 23 (9 * j + i) + w32.toInt64 * aj 23 (9 * k + i)
      by_cases hit : i = t
      · subst hit; rw [up_at]
      · rw [up_ne _ _ hit]; exact h3 i (by omega))
    refine ⟨D, ?_, e2⟩
    rw [up_u2] at e1
    rw [← e1]
    show F_X11_add_42 _ _ _ _ _ _ _ = _
    unfold F_X11_add_42
    simp (disch := omega) only [rk_19, if_true, rn_19_7, m_termOf hj (show t < 9 by omega), m_termOf hk (show t < 9 by omega), wa_24, Option.bind_some, mul_3, mul_4, mul_5, mul_9, mul_30, mul_160, add_1, add_2, add_3, add_4, add_5, add_6, addl_1, addl_2, addl_3, addl_4, cle_0, cel_0, clt_0, ctl_0, ceq_0, cle_1, cel_1, clt_1, ctl_1, ceq_1, cle_2, cel_2, clt_2, ctl_2, ceq_2, cle_3, cel_3, clt_3, ctl_3, ceq_3, cle_4, cel_4, clt_4, ctl_4, ceq_4, cle_5, cel_5, clt_5, ctl_5, ceq_5, cle_6, cel_6, clt_6, ctl_6, ceq_6, cle_7, cel_7, clt_7, ctl_7, ceq_7, cle_8, cel_8, clt_8, ctl_8, ceq_8, cle_9, cel_9, clt_9, ctl_9, ceq_9, cle_12, cel_12, clt_12, ctl_12, ceq_12, cle_20, cel_20, clt_20, ctl_20, ceq_20, cle_24, cel_24, clt_24, ctl_24, ceq_24, cle_25, cel_25, clt_25, ctl_25, ceq_25, cle_30, cel_30, clt_30, ctl_30, ceq_30, cle_36, cel_36, clt_36, ctl_36, ceq_36, cle_40, cel_40, clt_40, ctl_40, ceq_40, cle_41, cel_41, clt_41, ctl_41, ceq_41, cle_120, cel_120, clt_120, ctl_120, ceq_120, cle_160, cel_160, clt_160, ctl_160, ceq_160, cle_164, cel_164, clt_164, ctl_164, ceq_164, cle_500, cel_500, clt_500, ctl_500, ceq_500, cle_1000, cel_1000, clt_1000, ctl_1000, ceq_1000, ixr, ixq, ixf, neg_nI, leq_nI, lt_nI, eq_nI, cl_nI, nI_add, pk_mul]
    rw [if_neg (by omega)]
theorem op_add (hI0 : INV x z iv ai aj ar pp f0) (p q w : Int32) : Oa x (F_X10_add z (hp x iv ai aj ar pp f0) x p q w) (fun h => F_X11_add h (x + 19) p q w) := by
  obtain ⟨hz, own, hT, hS, ⟨n, p1, p2, p3, p4⟩, hB, hR, hQ⟩ := id hI0
  by_cases h1 : 0 ≤ p.toInt ∧ p.toInt < n
  · obtain ⟨j, hj, rfl⟩ := inN (by omega) h1
    obtain ⟨a, b, g, q1, q2, q3, q4, q5, q6⟩ := p4 j hj
    by_cases h2 : 0 ≤ q.toInt ∧ q.toInt < n
    · obtain ⟨k, hk, rfl⟩ := inN (by omega) h2
      obtain ⟨c, d, e, r1, r2, r3, r4, r5, r6⟩ := p4 k hk
      by_cases h3 : -1000 ≤ w.toInt ∧ w.toInt ≤ 1000
      · obtain ⟨f3, G', e1, e2, e3, e4⟩ := s_add_loop (iv := iv) (ai := ai) (aj := aj) (ar := ar) (pp := pp) (f0 := f0) (w32 := w) hz ⟨q2.1, q2.2.1⟩ ⟨q3.1, q3.2.1⟩ ⟨r2.1, r2.2.1⟩ ⟨r3.1, r3.2.1⟩ q4 q5 r4 r5 9 0 xfuel (va_up f0 z (some (.inr (.inl (9, fun _ => 0))))) _ (by omega) (by decide) (up_at _ _ _) (fun a h => up_g _ h) (fun i hi => absurd hi (by omega))
        have ec : F_X10_add z (hp x iv ai aj ar pp f0) x (nI j) (nI k) w = F_X10_keepPolynomial (z + 1) (hp x iv ai aj ar pp f3) x z := by
          rw [← e1]
          unfold F_X10_add
          simp only [rk_0, if_true, s_polyOk p1 p2 hj, s_polyOk p1 p2 hk, q1, r1, xnul, Option.bind_some, s_isWithin, if10, show (-(1000 : Int64)) = -1000 from rfl, Option.bind_some, s_within, if10, w32 (lo := 0) (hi := 3) (l := 0) (h := 3) rfl rfl, w32 (lo := 0) (hi := 2) (l := 0) (h := 2) rfl rfl, w32 (lo := 0) (hi := 8) (l := 0) (h := 8) rfl rfl, w32 (lo := 0) (hi := 1) (l := 0) (h := 1) rfl rfl, w32 (lo := 0) (hi := 500) (l := 0) (h := 500) rfl rfl, w32 (lo := -1000) (hi := 1000) (l := -1000) (h := 1000) rfl rfl, w32 (lo := 0) (hi := 4) (l := 0) (h := 4) rfl rfl, w32 (lo := -2048) (hi := 2048) (l := -2048) (h := 2048) rfl rfl, show hNw (9 : Int32) 9 = some 9 from rfl, hp_dyn hz]
          rw [if_neg (not_not_intro h3)]
          rfl
        rw [ec]
        refine Oa_poly (Nat.lt_succ_self z) hI0 (D := G') e2 e3 (fun iv' ar' f' hiv => ?_)
        obtain ⟨D, g1, g2⟩ := m_add_loop (x := x) (iv := iv') (ai := ai) (ar := ar') (pp := pp) (f0 := f') (show j < 30 by omega) (show k < 30 by omega) (w32 := w) 9 0 xfuel (va_up aj 24 (zero25 (aj 24) 0)) (by omega) (by decide) (fun i hi => absurd hi (by omega))
        refine ⟨D, fun t ht => ?_, ?_⟩
        · rw [g2 t ht, e4 t ht, (q6 t ht).1, (r6 t ht).1]
          rfl
        · show F_X11_add _ _ _ _ _ = _
          unfold F_X11_add
          simp only [rk_19, if_true, m_isPoly (iv := iv') p1 (by rw [hiv]; exact p3), Option.bind_some, s_within, if10, w32 (lo := 0) (hi := 3) (l := 0) (h := 3) rfl rfl, w32 (lo := 0) (hi := 2) (l := 0) (h := 2) rfl rfl, w32 (lo := 0) (hi := 8) (l := 0) (h := 8) rfl rfl, w32 (lo := 0) (hi := 1) (l := 0) (h := 1) rfl rfl, w32 (lo := 0) (hi := 500) (l := 0) (h := 500) rfl rfl, w32 (lo := -1000) (hi := 1000) (l := -1000) (h := 1000) rfl rfl, w32 (lo := 0) (hi := 4) (l := 0) (h := 4) rfl rfl, w32 (lo := -2048) (hi := 2048) (l := -2048) (h := 2048) rfl rfl, m_clearDraft]
          rw [if_neg (not_not_intro h1), if_neg (not_not_intro h2), if_neg (not_not_intro h3), up_up] at *
          exact g1
      · refine Oa_no (r := -2) hI0 ?_ ?_
        · unfold F_X10_add
          simp only [rk_0, if_true, s_polyOk p1 p2 hj, s_polyOk p1 p2 hk, q1, r1, xnul, Option.bind_some, s_isWithin, if10, show (-(1000 : Int64)) = -1000 from rfl, Option.bind_some, s_within, if10, w32 (lo := 0) (hi := 3) (l := 0) (h := 3) rfl rfl, w32 (lo := 0) (hi := 2) (l := 0) (h := 2) rfl rfl, w32 (lo := 0) (hi := 8) (l := 0) (h := 8) rfl rfl, w32 (lo := 0) (hi := 1) (l := 0) (h := 1) rfl rfl, w32 (lo := 0) (hi := 500) (l := 0) (h := 500) rfl rfl, w32 (lo := -1000) (hi := 1000) (l := -1000) (h := 1000) rfl rfl, w32 (lo := 0) (hi := 4) (l := 0) (h := 4) rfl rfl, w32 (lo := -2048) (hi := 2048) (l := -2048) (h := 2048) rfl rfl]
          rw [if_pos h3]
        · show F_X11_add _ _ _ _ _ = _
          unfold F_X11_add
          simp only [rk_19, if_true, m_isPoly p1 p3, Option.bind_some, s_within, if10, w32 (lo := 0) (hi := 3) (l := 0) (h := 3) rfl rfl, w32 (lo := 0) (hi := 2) (l := 0) (h := 2) rfl rfl, w32 (lo := 0) (hi := 8) (l := 0) (h := 8) rfl rfl, w32 (lo := 0) (hi := 1) (l := 0) (h := 1) rfl rfl, w32 (lo := 0) (hi := 500) (l := 0) (h := 500) rfl rfl, w32 (lo := -1000) (hi := 1000) (l := -1000) (h := 1000) rfl rfl, w32 (lo := 0) (hi := 4) (l := 0) (h := 4) rfl rfl, w32 (lo := -2048) (hi := 2048) (l := -2048) (h := 2048) rfl rfl]
          rw [if_neg (not_not_intro h1), if_neg (not_not_intro h2), if_pos h3]
    · refine Oa_no (r := -1) hI0 ?_ ?_
      · unfold F_X10_add
        simp only [rk_0, if_true, s_polyOk p1 p2 hj, s_polyNo p1 p2 h2, q1, xnul, Option.bind_some]
      · show F_X11_add _ _ _ _ _ = _
        unfold F_X11_add
        simp only [rk_19, if_true, m_isPoly p1 p3, Option.bind_some, s_within, if10, w32 (lo := 0) (hi := 3) (l := 0) (h := 3) rfl rfl, w32 (lo := 0) (hi := 2) (l := 0) (h := 2) rfl rfl, w32 (lo := 0) (hi := 8) (l := 0) (h := 8) rfl rfl, w32 (lo := 0) (hi := 1) (l := 0) (h := 1) rfl rfl, w32 (lo := 0) (hi := 500) (l := 0) (h := 500) rfl rfl, w32 (lo := -1000) (hi := 1000) (l := -1000) (h := 1000) rfl rfl, w32 (lo := 0) (hi := 4) (l := 0) (h := 4) rfl rfl, w32 (lo := -2048) (hi := 2048) (l := -2048) (h := 2048) rfl rfl]
        rw [if_neg (not_not_intro h1), if_pos h2]
  · refine Oa_no (r := -1) hI0 ?_ ?_
    · unfold F_X10_add
      by_cases h2 : 0 ≤ q.toInt ∧ q.toInt < n
      · obtain ⟨k, hk, rfl⟩ := inN (by omega) h2
        simp only [rk_0, if_true, s_polyOk p1 p2 hk, s_polyNo p1 p2 h1, xnul, Option.bind_some]
      · simp only [rk_0, if_true, s_polyNo p1 p2 h2, s_polyNo p1 p2 h1, xnul, Option.bind_some]
    · show F_X11_add _ _ _ _ _ = _
      unfold F_X11_add
      simp only [rk_19, if_true, m_isPoly p1 p3, Option.bind_some, s_within, if10, w32 (lo := 0) (hi := 3) (l := 0) (h := 3) rfl rfl, w32 (lo := 0) (hi := 2) (l := 0) (h := 2) rfl rfl, w32 (lo := 0) (hi := 8) (l := 0) (h := 8) rfl rfl, w32 (lo := 0) (hi := 1) (l := 0) (h := 1) rfl rfl, w32 (lo := 0) (hi := 500) (l := 0) (h := 500) rfl rfl, w32 (lo := -1000) (hi := 1000) (l := -1000) (h := 1000) rfl rfl, w32 (lo := 0) (hi := 4) (l := 0) (h := 4) rfl rfl, w32 (lo := -2048) (hi := 2048) (l := -2048) (h := 2048) rfl rfl]
      rw [if_pos h1]
end ADD

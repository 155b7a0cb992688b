/-! form, squares -/
def Od {R : Type} (x z : Nat) (C : Option R) (M : Option (R × xHp)) : Prop := ∃ (r : R) (iv ai : Nat → Nat → Int32) (aj : Nat → Nat → Int64) (ar : Nat → Nat → Option Nat) (pp : Nat → Option Nat) (f0 : xHp), C = some r ∧ M = some (r, hp x iv ai aj ar pp f0) ∧ INV x z iv ai aj ar pp f0
def pcz (x z : Nat) (f0 : xHp) (a : Nat) (g : Nat → Int64) : Prop := ∃ b, x + 41 ≤ a ∧ a < z ∧ x + 41 ≤ b ∧ b < z ∧ f0 a = some (.inr (.inr (.inr (4, [.ref b])))) ∧ f0 b = some (.inr (.inl (9, g)))
section SQUARES
variable {x z : Nat} {iv ai : Nat → Nat → Int32} {aj : Nat → Nat → Int64} {ar : Nat → Nat → Option Nat} {pp : Nat → Option Nat} {f0 : xHp}
theorem pcz.pc {a : Nat} {g : Nat → Int64} {f1 : xHp} (h : pcz x z f0 a g) (e : ∀ c, c < z → f1 c = f0 c) : pcell x f1 a g := by
  obtain ⟨b, h1, h2, h3, h4, h5, h6⟩ := h
  exact ⟨b, h1, h3, (e a h2).trans h5, (e b h4).trans h6⟩
theorem poOk.cz {own : Nat → Nat × Nat} {p : Nat} {r : Option Nat} {ts : Nat → Int64} (h : poOk x z f0 own p r ts) : ∃ (a : Nat) (g : Nat → Int64), r = some a ∧ pcz x z f0 a g ∧ (∀ t, t < 9 → g t = Tm ts p t) ∧ ∀ t, t < 9 → -1000 ≤ g t ∧ g t ≤ 1000 := by
  obtain ⟨a, b, g, q1, q2, q3, q4, q5, q6⟩ := h
  refine ⟨a, g, q1, ⟨b, q2.1, q2.2.1, q3.1, q3.2.1, q4, q5⟩, fun t ht => ?_, fun t ht => (q6 t ht).2⟩
  unfold Tm
  rw [if_pos ht]
  exact (q6 t ht).1
theorem op_form (hI0 : INV x z iv ai aj ar pp f0) (p r c : Int32) : Od x z (F_X10_form (hp x iv ai aj ar pp f0) x p r c) (F_X11_form (hp x iv ai aj ar pp f0) (x + 19) p r c) := by
  obtain ⟨hz, own, hT, hS, ⟨np, p1, p2, p3, p4⟩, hB, hR, hQ⟩ := id hI0
  by_cases h1 : 0 ≤ p.toInt ∧ p.toInt < np
  case neg =>
    refine ⟨-9223372036854775808, iv, ai, aj, ar, pp, f0, ?_, ?_, hI0⟩
    · unfold F_X10_form F_X10_form_38
      rw [if_pos rk_0, s_polyNo p1 p2 h1]
      rfl
    · unfold F_X11_form F_X11_form_40
      rw [if_pos rk_19, m_isPoly p1 p3, Option.bind_some, if_neg h1]
      exact if_pos rfl
  obtain ⟨j, hj, rfl⟩ := inN (by omega) h1
  obtain ⟨a, g, c1, c2, c3, c4⟩ := (p4 j hj).cell
  have hj30 : j < 30 := by omega
  obtain ⟨aj', l1, l2, l3⟩ := m_layForm (x := x) (iv := iv) (ai := ai) (aj := aj) (ar := ar) (pp := pp) (f0 := f0) (Tm (aj 23) j 6) (Tm (aj 23) j 4) (Tm (aj 23) j 3) (Tm (aj 23) j 2) (Tm (aj 23) j 1) (Tm (aj 23) j 0)
  have tm : ∀ t, t < 9 → F_X11_termOf (hp x iv ai aj ar pp f0) (x + 19) (nI j) (nI t) = some (Tm (aj 23) j t) := fun t ht => by
    rw [m_termOf hj30 ht]
    unfold Tm
    rw [if_pos ht]
  have em : F_X11_form (hp x iv ai aj ar pp f0) (x + 19) (nI j) r c = if 0 ≤ r.toInt ∧ r.toInt ≤ 2 then (if 0 ≤ c.toInt ∧ c.toInt ≤ 2 then (if Tm (aj 23) j 5 = 0 ∧ Tm (aj 23) j 7 = 0 ∧ Tm (aj 23) j 8 = 0 then (hJld (hp x iv ai aj' ar pp f0) (x + 28) ((3 : Int32) * r + c)).bind (fun v => some (v, hp x iv ai aj' ar pp f0)) else some (-9223372036854775808, hp x iv ai aj ar pp f0)) else some (-9223372036854775808, hp x iv ai aj ar pp f0)) else some (-9223372036854775808, hp x iv ai aj ar pp f0) := by
    unfold F_X11_form F_X11_form_40
    simp only [rk_19, if_true, m_isPoly p1 p3, Option.bind_some, h1, m_hasOther hj30, show F_X11_termOf (hp x iv ai aj ar pp f0) (x + 19) (nI j) 6 = some (Tm (aj 23) j 6) from tm 6 (by decide), show F_X11_termOf (hp x iv ai aj ar pp f0) (x + 19) (nI j) 4 = some (Tm (aj 23) j 4) from tm 4 (by decide), show F_X11_termOf (hp x iv ai aj ar pp f0) (x + 19) (nI j) 3 = some (Tm (aj 23) j 3) from tm 3 (by decide), show F_X11_termOf (hp x iv ai aj ar pp f0) (x + 19) (nI j) 2 = some (Tm (aj 23) j 2) from tm 2 (by decide), show F_X11_termOf (hp x iv ai aj ar pp f0) (x + 19) (nI j) 1 = some (Tm (aj 23) j 1) from tm 1 (by decide), show F_X11_termOf (hp x iv ai aj ar pp f0) (x + 19) (nI j) 0 = some (Tm (aj 23) j 0) from tm 0 (by decide), l1, rn_19_17, s_within, w32 (lo := 0) (hi := 2) (l := 0) (h := 2) rfl rfl, one0, if_false, and_self]
    by_cases h2 : 0 ≤ r.toInt ∧ r.toInt ≤ 2
    · rw [if_pos h2, if_pos h2, if_neg (show ¬ (1 : Int32) = 0 by decide)]
      by_cases h3 : 0 ≤ c.toInt ∧ c.toInt ≤ 2
      · rw [if_pos h3, if_pos h3, if_neg (show ¬ (1 : Int32) = 0 by decide)]
        by_cases h4 : Tm (aj 23) j 5 = 0 ∧ Tm (aj 23) j 7 = 0 ∧ Tm (aj 23) j 8 = 0
        · rw [if_pos h4, if_pos h4, if_pos rfl]
        · rw [if_neg h4, if_neg h4, if_neg (show ¬ (1 : Int32) = 0 by decide)]
      · rw [if_neg h3, if_neg h3, if_pos rfl]
    · rw [if_neg h2, if_neg h2, if_pos rfl]
  have r3 : ∀ r : Int32, (¬ (0 ≤ r.toInt ∧ r.toInt ≤ 2)) → (r < 0 ∨ 2 < r) := by
    intro r h
    have e2 : (2 : Int32).toInt = 2 := rfl
    have e0 : (0 : Int32).toInt = 0 := rfl
    rcases (show r.toInt < 0 ∨ 2 < r.toInt by omega) with q | q
    · exact Or.inl (Int32.lt_iff_toInt_lt.mpr (by omega))
    · exact Or.inr (Int32.lt_iff_toInt_lt.mpr (by omega))
  have ec : F_X10_form (hp x iv ai aj ar pp f0) x (nI j) r c = if r < 0 then some (-9223372036854775808) else if 2 < r then some (-9223372036854775808) else if c < 0 then some (-9223372036854775808) else if 2 < c then some (-9223372036854775808) else if Tm (aj 23) j 5 = 0 ∧ Tm (aj 23) j 7 = 0 ∧ Tm (aj 23) j 8 = 0 then F_X4_formNumber (hp x iv ai aj ar pp f0) a r c else some (-9223372036854775808) := by
    unfold F_X10_form F_X10_form_38
    rw [if_pos rk_0, s_polyOk p1 p2 hj, Option.bind_some, c1, xnul_s, if_pos c2.kd, s_isForm c2, Option.bind_some, if_pos c2.kd, obs, c3 5 (by decide), c3 7 (by decide), c3 8 (by decide)]
    by_cases h4 : Tm (aj 23) j 5 = 0 ∧ Tm (aj 23) j 7 = 0 ∧ Tm (aj 23) j 8 = 0
    · rw [if_pos h4, if_pos h4, if_neg (show ¬ (1 : Int32) = 0 by decide)]
    · rw [if_neg h4, if_neg h4, if_pos rfl]
  by_cases h2 : 0 ≤ r.toInt ∧ r.toInt ≤ 2
  case neg =>
    refine ⟨-9223372036854775808, iv, ai, aj, ar, pp, f0, ?_, em.trans (if_neg h2), hI0⟩
    rw [ec]
    rcases r3 r h2 with q | q
    · rw [if_pos q]
    · rw [if_pos q]; split <;> rfl
  obtain ⟨u, hu, rfl⟩ := inN (n := 3) (k := r) (by omega) (by omega)
  rw [if_neg (show ¬ nI u < 0 by rw [neg_nI (by omega)]; exact id), if_neg (show ¬ (2 : Int32) < nI u by rw [clt_2 (by omega)]; omega)] at ec
  rw [if_pos h2] at em
  by_cases h3 : 0 ≤ c.toInt ∧ c.toInt ≤ 2
  case neg =>
    refine ⟨-9223372036854775808, iv, ai, aj, ar, pp, f0, ?_, em.trans (if_neg h3), hI0⟩
    rw [ec]
    rcases r3 c h3 with q | q
    · rw [if_pos q]
    · rw [if_pos q]; split <;> rfl
  obtain ⟨v, hv, rfl⟩ := inN (n := 3) (k := c) (by omega) (by omega)
  rw [if_neg (show ¬ nI v < 0 by rw [neg_nI (by omega)]; exact id), if_neg (show ¬ (2 : Int32) < nI v by rw [clt_2 (by omega)]; omega)] at ec
  rw [if_pos h3] at em
  by_cases h4 : Tm (aj 23) j 5 = 0 ∧ Tm (aj 23) j 7 = 0 ∧ Tm (aj 23) j 8 = 0
  case neg => exact ⟨-9223372036854775808, iv, ai, aj, ar, pp, f0, ec.trans (if_neg h4), em.trans (if_neg h4), hI0⟩
  rw [if_pos h4] at ec em
  have sf := s_formNumber (x := x) (iv := iv) (ai := ai) (aj := aj) (ar := ar) (pp := pp) (i := 3 * u + v) c2 (by omega)
  rw [show (3 * u + v) / 3 = u by omega, show (3 * u + v) % 3 = v by omega, c3 0 (by decide), c3 1 (by decide), c3 2 (by decide), c3 3 (by decide), c3 4 (by decide), c3 6 (by decide)] at sf
  refine ⟨_, iv, ai, aj', ar, pp, f0, ec.trans sf, em.trans ?_, ?_⟩
  · rw [mul_3, nI_add, r28 (by omega), Option.bind_some, l2 _ (by omega)]
  · exact hI0.ext (Nat.le_refl _) (fun _ _ => rfl) rfl rfl rfl (fun _ _ => rfl) (fun _ _ _ _ _ _ _ => rfl) (l3 22 (by decide)) (l3 23 (by decide)) (l3 34 (by decide)) rfl
/-! the class's rows -/
def fil (F : Nat → Int64) (i : Nat) : Nat → Int64 := fun j => if j < i then F j else 0
theorem fil_s (F : Nat → Int64) (i : Nat) : va_up (fil F i) i (F i) = fil F (i + 1) := by
  funext j
  unfold fil
  by_cases h : j = i
  · rw [h, up_at, if_pos (by omega)]
  · rw [up_ne _ _ h]
    by_cases h2 : j < i
    · rw [if_pos h2, if_pos (by omega)]
    · rw [if_neg h2, if_neg (by omega)]
theorem fil_0 (F : Nat → Int64) : (fun _ => (0 : Int64)) = fil F 0 := by
  funext j
  unfold fil
  rw [if_neg (by omega)]
theorem s_sq_fill (hz : x + 41 ≤ z) {a more : Nat} {g : Nat → Int64} (h : pcz x z f0 a g) : ∀ (w i m : Nat), i + w = 9 → w < m → L_X4_squareNumbers_7 m (z + 1) (hp x iv ai aj ar pp (va_up f0 z (some (.inr (.inl (9, fil (fm (g 6) (g 4) (g 3) (g 2) (g 1) (g 0)) i)))))) a (nI more) z (nI i) = L_X4_squareNumbers_46 xfuel (z + 2) (hp x iv ai aj ar pp (va_up (va_up f0 z (some (.inr (.inl (9, fil (fm (g 6) (g 4) (g 3) (g 2) (g 1) (g 0)) 9))))) (z + 1) (some (.inr (.inl (15, fun _ => 0)))))) (nI more) z (z + 1) 0 1 0 := by
  intro w
  induction w with
  | zero =>
    intro i m hi hm
    obtain ⟨m, rfl⟩ : ∃ y, m = y + 1 := ⟨m - 1, by omega⟩
    have : i = 9 := by omega
    subst this
    show F_X4_squareNumbers_7 _ _ _ _ _ _ _ = _
    unfold F_X4_squareNumbers_7
    have n15 : hNw 15 15 = some 15 := hNw_nI (n := 15) (Nat.le_refl _) (by decide)
    rw [dLen hz, fLenJ (up_at _ _ _), Option.bind_some, if_pos (show nI 9 ≤ nI 9 by decide), n15, Option.bind_some, hp_dyn (show x + 41 ≤ z + 1 by omega), Option.bind_some]
  | succ w ih =>
    intro i m hi hm
    obtain ⟨m, rfl⟩ : ∃ y, m = y + 1 := ⟨m - 1, by omega⟩
    show F_X4_squareNumbers_7 _ _ _ _ _ _ _ = _
    unfold F_X4_squareNumbers_7
    have pc : pcell x (va_up f0 z (some (.inr (.inl (9, fil (fm (g 6) (g 4) (g 3) (g 2) (g 1) (g 0)) i))))) a g := h.pc (fun c hc => up_ne _ _ (by omega))
    rw [dLen hz, fLenJ (up_at _ _ _), Option.bind_some, if_neg (by rw [leq_nI (by omega) (by omega)]; omega), if_pos pc.kd, div_3 (by omega), rem_3, s_formNumber pc (by omega), Option.bind_some, dst hz (up_at _ _ _) (by omega) (by decide), Option.bind_some, up_up, fil_s, add_1, ih (i + 1) m (by omega) (by omega)]
theorem s_copyOf {y b n : Nat} {N : Nat → Int64} (hy : x + 41 ≤ y) (hb : x + 41 ≤ b) (hyb : y ≠ b) (e : f0 b = some (.inr (.inl (15, N)))) (hn : n ≤ 24) : ∃ G, F_J7_copyOf_c38d5 y (hp x iv ai aj ar pp f0) b (nI n) = some (some y, y + 1, hp x iv ai aj ar pp (va_up f0 y (some (.inr (.inl (n, G)))))) ∧ ∀ i, i < n → i < 15 → G i = N i := by
  unfold F_J7_copyOf_c38d5 F_J9_min_7cf53
  by_cases h : n = 15
  · refine ⟨N, ?_, fun _ _ _ => rfl⟩
    have hcl : hCl (hp x iv ai aj ar pp f0) b 24 = some (15, N) := by
      unfold hCl
      rw [hp_out hb, e]
      rfl
    rw [dLen hb, fLenJ e, Option.bind_some, if_pos (show nI n = nI 15 by rw [h]), hcl, Option.bind_some, hp_dyn hy, Option.bind_some, h]
  · refine ⟨va_cpy N (fun _ => 0) 0 0 (if n < 15 then n else 15), ?_, fun i h1 h2 => ?_⟩
    · rw [dLen hb, fLenJ e, Option.bind_some, if_neg (show ¬ nI n = nI 15 by rw [eq_nI (by omega) (by omega)]; exact h), hNw_nI hn (by decide), Option.bind_some, hp_dyn hy, Option.bind_some, dLen hb, fLenJ ((up_ne _ _ (Ne.symm hyb)).trans e), Option.bind_some]
      have cp : ∀ k, k ≤ 15 → k ≤ n → hJcp (hp x iv ai aj ar pp (va_up f0 y (some (.inr (.inl (n, fun _ => 0)))))) b 0 y 0 (nI k) = some (hp x iv ai aj ar pp (va_up f0 y (some (.inr (.inl (n, va_cpy N (fun _ => 0) 0 0 k)))))) := fun k k1 k2 => by
        refine (dJcp (s := 0) (d := 0) hb hy ((up_ne _ _ (Ne.symm hyb)).trans e) (up_at _ _ _) (by omega) (by omega) (by decide) (by omega)).trans ?_
        rw [up_up]
      by_cases h2 : n < 15
      · rw [if_pos h2, if_pos (show nI n < nI 15 by rw [lt_nI (by omega) (by omega)]; exact h2), Option.bind_some, cp n (by omega) (by omega), Option.bind_some]
      · rw [if_neg h2, if_neg (show ¬ nI n < nI 15 by rw [lt_nI (by omega) (by omega)]; exact h2), Option.bind_some, cp 15 (by omega) (by omega), Option.bind_some]
    · rw [cpy_in (by omega) (by split <;> omega), Nat.zero_add, Nat.sub_zero]
theorem s_squareNumbers (hz : x + 41 ≤ z) {a more : Nat} {g : Nat → Int64} (h : pcz x z f0 a g) (hm : more ≤ 4) :
    (sqN 3 0 (fm (g 6) (g 4) (g 3) (g 2) (g 1) (g 0)) [] 1 = none ∧ ∃ f2, F_X4_squareNumbers z (hp x iv ai aj ar pp f0) a (nI more) = some (none, z + 2, hp x iv ai aj ar pp f2) ∧ ∀ c, c < z → f2 c = f0 c) ∨
    ∃ ns f2 G s, sqN 3 0 (fm (g 6) (g 4) (g 3) (g 2) (g 1) (g 0)) [] 1 = some ns ∧ F_X4_squareNumbers z (hp x iv ai aj ar pp f0) a (nI more) = some (some (z + 2), z + 3, hp x iv ai aj ar pp f2) ∧ f2 (z + 2) = some (.inr (.inl (ns.length + more, G))) ∧ (∀ i, i < ns.length → G i = ns.getD i 0) ∧ (∀ c, c < z → f2 c = f0 c) ∧ ns.length = 5 * s ∧ s ≤ 3 := by
  have n9 : hNw 9 9 = some 9 := hNw_nI (n := 9) (Nat.le_refl _) (by decide)
  have e0 : F_X4_squareNumbers z (hp x iv ai aj ar pp f0) a (nI more) = L_X4_squareNumbers_46 xfuel (z + 2) (hp x iv ai aj ar pp (va_up (va_up f0 z (some (.inr (.inl (9, fil (fm (g 6) (g 4) (g 3) (g 2) (g 1) (g 0)) 9))))) (z + 1) (some (.inr (.inl (15, fun _ => 0)))))) (nI more) z (z + 1) 0 1 0 := by
    unfold F_X4_squareNumbers
    rw [n9, Option.bind_some, hp_dyn hz, Option.bind_some, fil_0 (fm (g 6) (g 4) (g 3) (g 2) (g 1) (g 0))]
    exact s_sq_fill hz h 9 0 xfuel (by omega) (by decide)
  have sl := s_sq_loop (x := x) (iv := iv) (ai := ai) (aj := aj) (ar := ar) (pp := pp) (y := z + 2) (a := z) (b := z + 1) (more := more) hz (by omega) (by omega) 3 0 xfuel (va_up (va_up f0 z (some (.inr (.inl (9, fil (fm (g 6) (g 4) (g 3) (g 2) (g 1) (g 0)) 9))))) (z + 1) (some (.inr (.inl (15, fun _ => 0))))) _ (fun _ => 0) [] 1 (by omega) (by decide) ((up_ne _ _ (by omega)).trans (up_at _ _ _)) (up_at _ _ _) (fun i _ => rfl) (by decide) (by decide)
  have fe : sqN 3 0 (fil (fm (g 6) (g 4) (g 3) (g 2) (g 1) (g 0)) 9) [] 1 = sqN 3 0 (fm (g 6) (g 4) (g 3) (g 2) (g 1) (g 0)) [] 1 := sqN_eq 3 0 _ _ _ _ (by omega) (fun i hi => if_pos hi)
  rw [fe] at sl
  have old : ∀ c, c < z → va_up (va_up f0 z (some (.inr (.inl (9, fil (fm (g 6) (g 4) (g 3) (g 2) (g 1) (g 0)) 9))))) (z + 1) (some (.inr (.inl (15, fun _ => 0)))) c = f0 c := fun c hc => by rw [up_ne _ _ (by omega), up_ne _ _ (by omega)]
  rcases sl with ⟨s1, f2, s2, s3⟩ | ⟨ns, f2, N', s1, s2, s3, s4, s5⟩
  · exact Or.inl ⟨s1, f2, e0.trans s2, fun c hc => (s3 c (by omega) (by omega)).trans (old c hc)⟩
  · obtain ⟨c, c1, c2⟩ := sqN_len _ _ _ _ _ _ s1
    have hlen : ns.length = 5 * c := by rw [c2]; show 0 + 5 * c = _; omega
    obtain ⟨G, k1, k2⟩ := s_copyOf (x := x) (iv := iv) (ai := ai) (aj := aj) (ar := ar) (pp := pp) (y := z + 2) (n := ns.length + more) (by omega) (show x + 41 ≤ z + 1 by omega) (by omega) s3 (by omega)
    refine Or.inr ⟨ns, _, G, c, s1, e0.trans (s2.trans k1), up_at _ _ _, fun i hi => (k2 i (by omega) (by omega)).trans (s4 i (by omega)), fun c hc => ?_, hlen, c1⟩
    rw [up_ne _ _ (by omega), s5 c (by omega) (by omega)]
    exact old c hc
/-! the reference tells squares -/
theorem m_tsq {q s : Nat} (hq : q < 40) (hs : s ≤ 3) (h18 : iv 19 18 = nI s) {kd po bo : Int32} {N : Nat → Int64} (hN : ∀ i, i < 5 * s → aj 29 i = N i) : ∀ (w i m : Nat), i + w = 5 * s → w < m → L_X11_tellSquares_2 m (hp x iv (tA ai q kd po bo i) (va_up aj 34 (layN (aj 34) q N i)) ar pp f0) (x + 19) (nI q) (nI i) = some (hp x iv (tA ai q kd po bo (5 * s)) (va_up aj 34 (layN (aj 34) q N (5 * s))) ar pp f0) := by
  intro w
  induction w with
  | zero =>
    intro i m hi hm
    obtain ⟨m, rfl⟩ : ∃ y, m = y + 1 := ⟨m - 1, by omega⟩
    have : i = 5 * s := by omega
    subst this
    show F_X11_tellSquares_2 _ _ _ _ _ = _
    unfold F_X11_tellSquares_2
    rw [ri_19_18, h18, Option.bind_some, mul_5, if_pos (by rw [leq_nI (by omega) (by omega)]; omega)]
  | succ w ih =>
    intro i m hi hm
    obtain ⟨m, rfl⟩ : ∃ y, m = y + 1 := ⟨m - 1, by omega⟩
    show F_X11_tellSquares_2 _ _ _ _ _ = _
    unfold F_X11_tellSquares_2
    rw [ri_19_18, h18, Option.bind_some, mul_5, if_neg (by rw [leq_nI (by omega) (by omega)]; omega), rn_19_19, Option.bind_some, r29 (by omega), Option.bind_some, if_pos rk_19, up_ne aj _ (show 29 ≠ 34 by decide), hN i (by omega), m_tell hq (by omega), Option.bind_some, add_1, ih (i + 1) m (by omega) (by omega)]
theorem op_squares (hI0 : INV x z iv ai aj ar pp f0) (p : Int32) : Oa x (F_X10_squares z (hp x iv ai aj ar pp f0) x p) (fun h => F_X11_squares h (x + 19) p) := by
  obtain ⟨hz, own, hT, hS, ⟨np, p1, p2, p3, p4⟩, hB, hR, ⟨n, q1, q2, q3, q4⟩⟩ := id hI0
  by_cases h1 : 0 ≤ p.toInt ∧ p.toInt < np
  case neg =>
    refine Oa_no (r := -1) hI0 ?_ ?_
    · unfold F_X10_squares
      rw [if_pos rk_0, s_polyNo p1 p2 h1]
      rfl
    · show F_X11_squares _ _ _ = _
      unfold F_X11_squares
      rw [if_pos rk_19, m_isPoly p1 p3, Option.bind_some, if_neg h1]
      exact if_pos rfl
  obtain ⟨j, hj, rfl⟩ := inN (by omega) h1
  obtain ⟨a, g, c1, cz, c3, c4⟩ := (p4 j hj).cz
  have c2 : pcell x f0 a g := cz.pc (fun _ _ => rfl)
  have hj30 : j < 30 := by omega
  have tm : ∀ (iv' : Nat → Nat → Int32) (ar' : Nat → Nat → Option Nat) (f1 : xHp) (t : Nat), t < 9 → F_X11_termOf (hp x iv' ai aj ar' pp f1) (x + 19) (nI j) (nI t) = some (Tm (aj 23) j t) := fun iv' ar' f1 t ht => by
    rw [m_termOf hj30 ht]
    unfold Tm
    rw [if_pos ht]
  by_cases h4 : Tm (aj 23) j 5 = 0 ∧ Tm (aj 23) j 7 = 0 ∧ Tm (aj 23) j 8 = 0
  case neg =>
    refine Oa_no (r := -3) hI0 ?_ ?_
    · unfold F_X10_squares
      rw [if_pos rk_0, s_polyOk p1 p2 hj, Option.bind_some, c1, xnul_s, if_pos c2.kd, s_isForm c2, Option.bind_some, c3 5 (by decide), c3 7 (by decide), c3 8 (by decide), if_neg h4]
      exact if_pos rfl
    · show F_X11_squares _ _ _ = _
      unfold F_X11_squares
      rw [if_pos rk_19, m_isPoly p1 p3, Option.bind_some, if_pos h1, if_neg (show ¬ (1 : Int32) = 0 by decide), if_pos rk_19, m_hasOther hj30, Option.bind_some, if_neg h4]
      exact if_neg (by decide)
  have em : ∀ (iv' : Nat → Nat → Int32) (ar' : Nat → Nat → Option Nat) (f1 : xHp), iv' 19 5 = nI np → ∃ aj1, (∀ i, i < 9 → aj1 28 i = fm (Tm (aj 23) j 6) (Tm (aj 23) j 4) (Tm (aj 23) j 3) (Tm (aj 23) j 2) (Tm (aj 23) j 1) (Tm (aj 23) j 0) i) ∧ (∀ k, k ≠ 28 → aj1 k = aj k) ∧ F_X11_squares (hp x iv' ai aj ar' pp f1) (x + 19) (nI j) = (F_X11_findSquares (hp x iv' ai aj1 ar' pp f1) (x + 19)).bind (fun q22 => if q22.1 = 0 then (some ((-9 : Int32), q22.2)) else (Option.bind (hI q22.2 (x + 19) [(10, 20)]) fun v24 => if v24 = (40 : Int32) then (some ((-4 : Int32), q22.2)) else (if hKd q22.2 (x + 19) = some 10 then (Option.bind (F_X11_newProof q22.2 (x + 19) (0 : Int32) (nI j) (-9 : Int32)) fun q27 => if hKd q27.2 (x + 19) = some 10 then (Option.bind (F_X11_tellSquares q27.2 (x + 19) q27.1) fun q29 => some (q27.1, q29)) else none) else none))) := by
    intro iv' ar' f1 e5
    obtain ⟨aj1, l1, l2, l3⟩ := m_layForm (x := x) (iv := iv') (ai := ai) (aj := aj) (ar := ar') (pp := pp) (f0 := f1) (Tm (aj 23) j 6) (Tm (aj 23) j 4) (Tm (aj 23) j 3) (Tm (aj 23) j 2) (Tm (aj 23) j 1) (Tm (aj 23) j 0)
    refine ⟨aj1, l2, l3, ?_⟩
    unfold F_X11_squares
    rw [if_pos rk_19, m_isPoly p1 e5, Option.bind_some, if_pos h1, if_neg (show ¬ (1 : Int32) = 0 by decide), if_pos rk_19, m_hasOther hj30, Option.bind_some, if_pos h4, if_pos rfl, if_pos rk_19, show (6 : Int32) = nI 6 from rfl, tm _ _ _ 6 (by decide), Option.bind_some, if_pos rk_19, show (4 : Int32) = nI 4 from rfl, tm _ _ _ 4 (by decide), Option.bind_some, if_pos rk_19, show (3 : Int32) = nI 3 from rfl, tm _ _ _ 3 (by decide), Option.bind_some, if_pos rk_19, show (2 : Int32) = nI 2 from rfl, tm _ _ _ 2 (by decide), Option.bind_some, if_pos rk_19, show (1 : Int32) = nI 1 from rfl, tm _ _ _ 1 (by decide), Option.bind_some, if_pos rk_19]
    have t0 : F_X11_termOf (hp x iv' ai aj ar' pp f1) (x + 19) (nI j) 0 = some (Tm (aj 23) j 0) := tm _ _ _ 0 (by decide)
    rw [t0, Option.bind_some, if_pos rk_19, l1, Option.bind_some, if_pos rk_19]
  have fs : ∀ (iv' : Nat → Nat → Int32) (ar' : Nat → Nat → Option Nat) (f1 : xHp) (aj1 : Nat → Nat → Int64), (∀ i, i < 9 → aj1 28 i = fm (Tm (aj 23) j 6) (Tm (aj 23) j 4) (Tm (aj 23) j 3) (Tm (aj 23) j 2) (Tm (aj 23) j 1) (Tm (aj 23) j 0) i) → (sqN 3 0 (fm (Tm (aj 23) j 6) (Tm (aj 23) j 4) (Tm (aj 23) j 3) (Tm (aj 23) j 2) (Tm (aj 23) j 1) (Tm (aj 23) j 0)) [] 1 = none ∧ ∃ iv2 aj2, F_X11_findSquares (hp x iv' ai aj1 ar' pp f1) (x + 19) = some (0, hp x iv2 ai aj2 ar' pp f1) ∧ Ks (u2 iv' 19 18 0) iv2 aj1 aj2) ∨ ∃ ns iv2 aj2 s, sqN 3 0 (fm (Tm (aj 23) j 6) (Tm (aj 23) j 4) (Tm (aj 23) j 3) (Tm (aj 23) j 2) (Tm (aj 23) j 1) (Tm (aj 23) j 0)) [] 1 = some ns ∧ F_X11_findSquares (hp x iv' ai aj1 ar' pp f1) (x + 19) = some (1, hp x iv2 ai aj2 ar' pp f1) ∧ Ks (u2 iv' 19 18 0) iv2 aj1 aj2 ∧ (∀ i, i < ns.length → aj2 29 i = ns.getD i 0) ∧ iv2 19 18 = nI s ∧ ns.length = 5 * s ∧ s ≤ 3 := by
    intro iv' ar' f1 aj1 l2
    have := m_sq_loop (x := x) (ai := ai) (ar := ar') (pp := pp) (f0 := f1) 3 0 xfuel 0 (u2 iv' 19 18 0) aj1 _ [] 1 (by omega) (by decide) l2 (fun i hi => absurd hi (Nat.not_lt_zero _)) rfl rfl (Nat.le_refl _) (by decide)
    unfold F_X11_findSquares
    rw [wi_19_18, Option.bind_some]
    exact this
  have ge : fm (g 6) (g 4) (g 3) (g 2) (g 1) (g 0) = fm (Tm (aj 23) j 6) (Tm (aj 23) j 4) (Tm (aj 23) j 3) (Tm (aj 23) j 2) (Tm (aj 23) j 1) (Tm (aj 23) j 0) := by rw [c3 0 (by decide), c3 1 (by decide), c3 2 (by decide), c3 3 (by decide), c3 4 (by decide), c3 6 (by decide)]
  have sn := s_squareNumbers (x := x) (iv := iv) (ai := ai) (aj := aj) (ar := ar) (pp := pp) (more := 0) hz cz (by decide)
  rw [ge] at sn
  have ec : F_X10_squares z (hp x iv ai aj ar pp f0) x (nI j) = (F_X4_squareNumbers z (hp x iv ai aj ar pp f0) a (nI 0)).bind (fun q9 => Option.bind (some q9.1) fun o10 => xnul o10 (some ((-9 : Int32), q9.2.1, q9.2.2)) (fun q12 => Option.bind (some (va_up q9.2.2 q9.2.1 (some (.inr (.inr (.inr (7, [.int 0, .null, .int 0, .null]))))))) fun f13 => Option.bind (F_X8_init f13 q9.2.1 (0 : Int32) a (nI j) q12) fun q14 => if hKd q14 x = some 9 then (Option.bind (F_X10_keepProof q14 x q9.2.1) fun q16 => some (q16.1, (q9.2.1 + 1), q16.2)) else none)) := by
    unfold F_X10_squares
    rw [if_pos rk_0, s_polyOk p1 p2 hj, Option.bind_some, c1, xnul_s, if_pos c2.kd, s_isForm c2, Option.bind_some, c3 5 (by decide), c3 7 (by decide), c3 8 (by decide), if_pos h4, if_neg (show ¬ (1 : Int32) = 0 by decide), if_pos c2.kd]
    rfl
  rcases sn with ⟨s1, f2, s2, s3⟩ | ⟨ns, f2, G, s, s1, s2, s3, s4, s5, s6, s7⟩
  · obtain ⟨aj1, l2, l3, e1⟩ := em iv ar f2 p3
    rcases fs iv ar f2 aj1 l2 with ⟨_, iv2, aj2, t2, t3⟩ | ⟨ns, iv2, aj2, s, t1, _⟩
    · refine ⟨-9, z + 2, hp x iv ai aj ar pp f2, ?_, rk_19, iv2, ai, aj2, ar, pp, f2, ?_, ?_⟩
      · rw [ec, s2]
        rfl
      · refine e1.trans ?_
        rw [t2, Option.bind_some]
        exact if_pos rfl
      · refine hI0.ext (by omega) s3 (t3.1 0 (by decide)) (t3.1 5 (by decide)) (congrFun (t3.1 9 (by decide)) 4) (fun s hs => (t3.2.1 s hs).trans (u2_nt _ _ hs)) (fun _ _ _ _ _ _ _ => rfl) ((t3.2.2 22 (by decide) (by decide)).trans (l3 22 (by decide))) ((t3.2.2 23 (by decide) (by decide)).trans (l3 23 (by decide))) ((t3.2.2 34 (by decide) (by decide)).trans (l3 34 (by decide))) rfl
    · rw [s1] at t1; cases t1
  · have eC : F_X10_squares z (hp x iv ai aj ar pp f0) x (nI j) = (F_X10_keepProof (hp x iv ai aj ar pp (va_up (va_up f2 (z + 3) (some (.inr (.inr (.inr (7, [.int 0, .null, .int 0, .null])))))) (z + 3) (some (.inr (.inr (.inr (7, [.int 0, .ref a, .int (nI j), .ref (z + 2)]))))))) x (z + 3)).bind (fun q16 => some (q16.1, z + 4, q16.2)) := by
      rw [ec, s2, Option.bind_some, Option.bind_some, xnul_s, hp_dyn (show x + 41 ≤ z + 3 by omega), Option.bind_some]
      unfold F_X8_init
      rw [s_init5 (show x + 41 ≤ z + 3 by omega) (Or.inr rfl) (up_at _ _ _), Option.bind_some, Option.bind_some, if_pos rk_0]
    rw [up_up] at eC
    generalize hf3 : va_up f2 (z + 3) (some (.inr (.inr (.inr (7, [.int 0, .ref a, .int (nI j), .ref (z + 2)]))))) = f3 at eC
    have g1 : f3 (z + 3) = some (.inr (.inr (.inr (7, [.int 0, .ref a, .int (nI j), .ref (z + 2)])))) := by rw [← hf3, up_at]
    have g2 : f3 (z + 2) = some (.inr (.inl (ns.length + 0, G))) := by rw [← hf3, up_ne _ _ (by omega)]; exact s3
    have g4 : ∀ c, c < z → f3 c = f0 c := fun c hc => by rw [← hf3, up_ne _ _ (by omega)]; exact s5 c hc
    rw [s_keepProof q1 q2 ((dK (show x + 41 ≤ z + 3 by omega)).trans (fK g1)) (Or.inr (Or.inr (Or.inr rfl)))] at eC
    by_cases hn : n < 40
    · rw [if_pos hn, Option.bind_some] at eC
      obtain ⟨aj1, l2, l3, e1⟩ := em (u2 iv 0 8 (nI (n + 1))) (u2 ar 4 n (some (z + 3))) f3 p3
      rcases fs (u2 iv 0 8 (nI (n + 1))) (u2 ar 4 n (some (z + 3))) f3 aj1 l2 with ⟨t1, _⟩ | ⟨ns2, iv2, aj2, s', t1, t2, t3, t4, t5, t6, t7⟩
      · rw [s1] at t1; cases t1
      rw [s1] at t1
      have ens : ns = ns2 := Option.some.inj t1
      subst ens
      have es' : s' = s := by omega
      subst es'
      have e20 : iv2 19 20 = nI n := (t3.2.1 20 (by decide)).trans q3
      have h5' : u2 iv2 19 20 (nI (n + 1)) 19 18 = nI s' := t5
      have hj34 : aj2 34 = aj 34 := (t3.2.2 34 (by decide) (by decide)).trans (l3 34 (by decide))
      have lo := m_tsq (x := x) (iv := u2 iv2 19 20 (nI (n + 1))) (ai := ai) (aj := aj2) (ar := u2 ar 4 n (some (z + 3))) (pp := pp) (f0 := f3) (q := n) (kd := 0) (po := nI j) (bo := -9) (N := fun i => ns.getD i 0) hn t7 h5' (fun i hi => t4 i (by omega)) (5 * s') 0 xfuel (by omega) (Nat.lt_of_le_of_lt (show 5 * s' ≤ 15 by omega) (by decide))
      rw [layN_0, up_self] at lo
      refine ⟨nI n, z + 4, _, eC, rk_19, u2 iv2 19 20 (nI (n + 1)), tA ai n 0 (nI j) (-9) (5 * s'), va_up aj2 34 (layN (aj2 34) n (fun i => ns.getD i 0) (5 * s')), u2 ar 4 n (some (z + 3)), pp, f3, ?_, ?_⟩
      · refine e1.trans ?_
        rw [t2, Option.bind_some, if_neg (show ¬ ((1 : Int32), hp x iv2 ai aj2 (u2 ar 4 n (some (z + 3))) pp f3).1 = 0 from (by decide : ¬ (1 : Int32) = 0)), ri_19_20, e20, Option.bind_some, if_neg (show ¬ nI n = 40 by rw [ceq_40 (by omega)]; omega), if_pos rk_19, m_newProof hn e20, Option.bind_some, if_pos rk_19]
        unfold F_X11_tellSquares
        refine (congrArg (fun o => Option.bind o fun q29 => some (nI n, q29)) lo).trans ?_
        rfl
      · refine hI0.newProof (A := z + 3) (B := z + 2) (m := 5 * s') hn q2 (by omega) g4 (fun s hs => ?_) ?_ ?_ ?_ (fun s a1 a2 => ?_) (u2_tt _ _ _ _) (fun k a1 a2 a3 a4 => tA_ne a1 a2 a3 a4) tA_30 tA_31 tA_32 tA_33 ?_ ?_ (fun i hi => ?_) rfl rfl rfl rfl (fun own => ?_)
        · show iv2 0 s = iv 0 s
          rw [t3.1 0 (by decide), u2_ne _ _ _ (show 0 ≠ 19 by decide)]
          exact u2_nt _ _ hs
        · show iv2 0 8 = nI (n + 1)
          rw [t3.1 0 (by decide)]
          rfl
        · show iv2 5 = iv 5
          rw [t3.1 5 (by decide)]
          rfl
        · show iv2 9 4 = iv 9 4
          rw [t3.1 9 (by decide)]
          rfl
        · rw [u2_nt _ _ a2, t3.2.1 s a1, u2_nt _ _ a1]
          rfl
        · exact (up_ne aj2 _ (by decide)).trans ((t3.2.2 22 (by decide) (by decide)).trans (l3 22 (by decide)))
        · exact (up_ne aj2 _ (by decide)).trans ((t3.2.2 23 (by decide) (by decide)).trans (l3 23 (by decide)))
        · show va_up aj2 34 (layN (aj2 34) n (fun i => ns.getD i 0) (5 * s')) 34 i = aj 34 i
          rw [up_at, layN_lt hi, hj34]
        · have hb := sq_b60 (fm_b (co_b (by rw [← c3 6 (by decide)]; exact c4 6 (by decide))) (co_b (by rw [← c3 4 (by decide)]; exact c4 4 (by decide))) (co_b (by rw [← c3 3 (by decide)]; exact c4 3 (by decide))) (co_b (by rw [← c3 2 (by decide)]; exact c4 2 (by decide))) (co_b (by rw [← c3 1 (by decide)]; exact c4 1 (by decide))) (co_b (by rw [← c3 0 (by decide)]; exact c4 0 (by decide)))) s1
          refine ⟨z + 3, z + 2, 5 * s', j, a, G, rfl, ⟨by omega, by omega, ?_⟩, ⟨by omega, by omega, ?_⟩, ?_, by omega, rfl, ?_, hj30, rfl, c1, fun i hi => ?_, Or.inl ⟨rfl, rfl, g1, s', t7, rfl, fun i hi => ?_⟩⟩
          · unfold ownP
            rw [if_neg (by omega), if_pos rfl]
          · unfold ownP
            rw [if_neg (by omega), if_neg (by omega), if_pos rfl]
          · rw [g2, Nat.add_zero, t6]
          · rw [p2]; exact (nI_ltI (by omega) (by omega)).mpr hj
          · show G i = va_up aj2 34 (layN (aj2 34) n (fun i => ns.getD i 0) (5 * s')) 34 (160 * n + i)
            rw [up_at, layN_at hi, s4 i (by omega)]
          · rw [s4 i (by omega), List.getD_eq_getElem?_getD, List.getElem?_eq_getElem (by omega)]
            exact hb _ (List.getElem_mem _)
    · rw [if_neg hn, Option.bind_some] at eC
      obtain ⟨aj1, l2, l3, e1⟩ := em iv ar f3 p3
      rcases fs iv ar f3 aj1 l2 with ⟨t1, _⟩ | ⟨ns2, iv2, aj2, s', t1, t2, t3, t4, t5, t6, t7⟩
      · rw [s1] at t1; cases t1
      have e20 : iv2 19 20 = nI n := (t3.2.1 20 (by decide)).trans q3
      refine ⟨-4, z + 4, _, eC, rk_19, iv2, ai, aj2, ar, pp, f3, ?_, ?_⟩
      · refine e1.trans ?_
        rw [t2, Option.bind_some, if_neg (show ¬ ((1 : Int32), hp x iv2 ai aj2 ar pp f3).1 = 0 from (by decide : ¬ (1 : Int32) = 0)), ri_19_20, e20, Option.bind_some, if_pos (show nI n = 40 by rw [ceq_40 (by omega)]; omega)]
      · exact hI0.ext (by omega) g4 (t3.1 0 (by decide)) (t3.1 5 (by decide)) (congrFun (t3.1 9 (by decide)) 4) (fun s hs => (t3.2.1 s hs).trans (u2_nt _ _ hs)) (fun _ _ _ _ _ _ _ => rfl) ((t3.2.2 22 (by decide) (by decide)).trans (l3 22 (by decide))) ((t3.2.2 23 (by decide) (by decide)).trans (l3 23 (by decide))) ((t3.2.2 34 (by decide) (by decide)).trans (l3 34 (by decide))) rfl
end SQUARES

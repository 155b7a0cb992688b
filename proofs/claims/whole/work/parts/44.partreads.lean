/-! open, partly, where, least -/
def cntS (st : Nat → Int32) (v : Int32) : Nat → Nat → Int32 → Int32
  | 0, _, s => s
  | n + 1, t, s => cntS st v n (t + 1) (if st t = v then s + 1 else s)
theorem cntS_eq {st st' : Nat → Int32} {v : Int32} {N : Nat} (h : ∀ j, j < N → st j = st' j) : ∀ (n t : Nat) (s : Int32), t + n = N → cntS st v n t s = cntS st' v n t s := by
  intro n
  induction n with
  | zero => intro t s _; rfl
  | succ n ih =>
    intro t s ht
    show cntS st v n (t + 1) _ = cntS st' v n (t + 1) _
    rw [h t (by omega), ih (t + 1) _ (by omega)]
theorem obs {α : Type} (o : Option α) : (Option.bind o fun v => some v) = o := by cases o <;> rfl
section PARTREADS
variable {x z c : Nat} {iv ai : Nat → Nat → Int32} {aj : Nat → Nat → Int64} {ar : Nat → Nat → Option Nat} {pp : Nat → Option Nat} {f0 : xHp}
theorem s_count (hc : PC x c) (hr : rowI x (c + 2) 40) {n : Nat} (hn : n ≤ 40) (h6 : iv c 6 = nI n) (v : Int32) : F_X2_countOf (hp x iv ai aj ar pp f0) (x + c) v = some (cntS (ai (c + 2)) v n 0 0) := by
  have loop : ∀ (w t m : Nat) (s : Int32), t + w = n → w < m → L_X2_countOf_4 (hp x iv ai aj ar pp f0) m (x + c) v s (nI t) = some (cntS (ai (c + 2)) v w t s) := by
    intro w
    induction w with
    | zero =>
      intro t m s ht hm
      obtain ⟨m, rfl⟩ : ∃ y, m = y + 1 := ⟨m - 1, by omega⟩
      show F_X2_countOf_4 _ _ _ _ _ _ = _
      unfold F_X2_countOf_4
      rw [hc.i6, h6, Option.bind_some, if_pos (by rw [leq_nI (by omega) (by omega)]; omega)]
      rfl
    | succ w ih =>
      intro t m s ht hm
      obtain ⟨m, rfl⟩ : ∃ y, m = y + 1 := ⟨m - 1, by omega⟩
      show F_X2_countOf_4 _ _ _ _ _ _ = some (cntS (ai (c + 2)) v w (t + 1) _)
      unfold F_X2_countOf_4 F_X2_countOf_25
      rw [hc.i6, h6, Option.bind_some, if_neg (by rw [leq_nI (by omega) (by omega)]; omega), hc.n1, Option.bind_some, (hr iv ai aj ar pp f0).1 t (by omega), Option.bind_some, add_1]
      by_cases h0 : ai (c + 2) t = v
      · rw [if_pos h0, if_pos h0, ih (t + 1) m _ (by omega) (by omega)]
      · rw [if_neg h0, if_neg h0, ih (t + 1) m _ (by omega) (by omega)]
  exact loop n 0 xfuel 0 (by omega) (Nat.lt_of_le_of_lt hn (by decide))
theorem m_count {n : Nat} (hn : n ≤ 40) (h6 : iv 19 12 = nI n) (v : Int32) : F_X11_countParts (hp x iv ai aj ar pp f0) (x + 19) v = some (cntS (ai 27) v n 0 0) := by
  have loop : ∀ (w t m : Nat) (s : Int32), t + w = n → w < m → L_X11_countParts_4 (hp x iv ai aj ar pp f0) m (x + 19) v s (nI t) = some (cntS (ai 27) v w t s) := by
    intro w
    induction w with
    | zero =>
      intro t m s ht hm
      obtain ⟨m, rfl⟩ : ∃ y, m = y + 1 := ⟨m - 1, by omega⟩
      show F_X11_countParts_4 _ _ _ _ _ _ = _
      unfold F_X11_countParts_4
      rw [ri_19_12, h6, Option.bind_some, if_pos (by rw [leq_nI (by omega) (by omega)]; omega)]
      rfl
    | succ w ih =>
      intro t m s ht hm
      obtain ⟨m, rfl⟩ : ∃ y, m = y + 1 := ⟨m - 1, by omega⟩
      show F_X11_countParts_4 _ _ _ _ _ _ = some (cntS (ai 27) v w (t + 1) _)
      unfold F_X11_countParts_4 F_X11_countParts_28
      rw [ri_19_12, h6, Option.bind_some, if_neg (by rw [leq_nI (by omega) (by omega)]; omega), rn_19_14, Option.bind_some, r27 (by omega), Option.bind_some, add_1]
      by_cases h0 : ai 27 t = v
      · rw [if_pos h0, if_pos h0, ih (t + 1) m _ (by omega) (by omega)]
      · rw [if_neg h0, if_neg h0, ih (t + 1) m _ (by omega) (by omega), Int32.add_zero]
  exact loop n 0 xfuel 0 (by omega) (Nat.lt_of_le_of_lt hn (by decide))
theorem rep_st {S st S' st' : Nat → Int32} {l : List Pt} (h : rep S st l) (h' : rep S' st' l) {i : Nat} (hi : i < l.length) : st i = st' i := congrArg (fun q : Pt => q.2.2.2.2) (rep_row h h' hi)
theorem op_open (hI0 : INV x z iv ai aj ar pp f0) (w : Int32) : Or_ (F_X10_open (hp x iv ai aj ar pp f0) x w) (F_X11_open (hp x iv ai aj ar pp f0) (x + 19) w) := by
  obtain ⟨l, r1, r2, r3, r4, r5, r6, r7, r8⟩ := hI0.parts
  have sc := fun v => s_count (x := x) (c := 5) (iv := iv) (ai := ai) (aj := aj) (ar := ar) (pp := pp) (f0 := f0) (pc_5 x) (row_7 x) r1 r2 v
  have mc := fun v => m_count (x := x) (iv := iv) (ai := ai) (aj := aj) (ar := ar) (pp := pp) (f0 := f0) r1 r3 v
  have ce : ∀ v, cntS (ai (5 + 2)) v l.length 0 0 = cntS (ai 27) v l.length 0 0 := fun v => cntS_eq (fun j hj => rep_st r4 r5 hj) _ _ _ (by omega)
  by_cases h1 : 0 ≤ w.toInt ∧ w.toInt < 5
  · obtain ⟨k, hk, rfl⟩ := inN (n := 5) (k := w) (by omega) (by omega)
    rcases (show k = 0 ∨ k = 1 ∨ k = 2 ∨ k = 3 ∨ k = 4 by omega) with rfl | rfl | rfl | rfl | rfl
    · refine ⟨iv 5 6, ?_, ?_⟩
      · show (Option.bind (hN (hp x iv ai aj ar pp f0) x [(9, 4)]) fun v7 => Option.bind (hI (hp x iv ai aj ar pp f0) v7 [(2, 6)]) fun v8 => some v8) = _
        rw [rn_0_4, Option.bind_some, ri_5_6, Option.bind_some]
      · show (Option.bind (hI (hp x iv ai aj ar pp f0) (x + 19) [(10, 12)]) fun v2 => some v2) = _
        rw [ri_19_12, Option.bind_some, r2, r3]
    · refine ⟨cntS (ai 27) 0 l.length 0 0, ?_, ?_⟩
      · unfold F_X10_open
        rw [if_neg (show ¬ nI 1 < 0 by decide), if_pos (show nI 1 ≤ 4 by decide), if_neg (show ¬ nI 1 = 0 by decide), rn_0_4, Option.bind_some, if_pos rk_5, show nI 1 - 1 = (0 : Int32) from rfl, sc, Option.bind_some, ce]
      · unfold F_X11_open
        rw [if_neg (show ¬ nI 1 = 0 by decide), if_pos (show nI 1 = 1 from rfl), if_pos rk_19, mc, Option.bind_some]
    · refine ⟨cntS (ai 27) 1 l.length 0 0, ?_, ?_⟩
      · unfold F_X10_open
        rw [if_neg (show ¬ nI 2 < 0 by decide), if_pos (show nI 2 ≤ 4 by decide), if_neg (show ¬ nI 2 = 0 by decide), rn_0_4, Option.bind_some, if_pos rk_5, show nI 2 - 1 = (1 : Int32) from rfl, sc, Option.bind_some, ce]
      · unfold F_X11_open
        rw [if_neg (show ¬ nI 2 = 0 by decide), if_neg (show ¬ nI 2 = 1 by decide), if_pos (show nI 2 = 2 from rfl), if_pos rk_19, mc, Option.bind_some]
    · refine ⟨cntS (ai 27) 2 l.length 0 0, ?_, ?_⟩
      · unfold F_X10_open
        rw [if_neg (show ¬ nI 3 < 0 by decide), if_pos (show nI 3 ≤ 4 by decide), if_neg (show ¬ nI 3 = 0 by decide), rn_0_4, Option.bind_some, if_pos rk_5, show nI 3 - 1 = (2 : Int32) from rfl, sc, Option.bind_some, ce]
      · unfold F_X11_open
        rw [if_neg (show ¬ nI 3 = 0 by decide), if_neg (show ¬ nI 3 = 1 by decide), if_neg (show ¬ nI 3 = 2 by decide), if_pos (show nI 3 = 3 from rfl), if_pos rk_19, mc, Option.bind_some]
    · refine ⟨cntS (ai 27) 3 l.length 0 0, ?_, ?_⟩
      · unfold F_X10_open
        rw [if_neg (show ¬ nI 4 < 0 by decide), if_pos (show nI 4 ≤ 4 by decide), if_neg (show ¬ nI 4 = 0 by decide), rn_0_4, Option.bind_some, if_pos rk_5, show nI 4 - 1 = (3 : Int32) from rfl, sc, Option.bind_some, ce]
      · unfold F_X11_open
        rw [if_neg (show ¬ nI 4 = 0 by decide), if_neg (show ¬ nI 4 = 1 by decide), if_neg (show ¬ nI 4 = 2 by decide), if_neg (show ¬ nI 4 = 3 by decide), if_pos (show nI 4 = 4 from rfl), if_pos rk_19, mc, Option.bind_some]
  · refine ⟨-2, ?_, ?_⟩
    · unfold F_X10_open
      by_cases hn : w < 0
      · rw [if_pos hn]
      · rw [if_neg hn, if_neg]
        intro q
        have q1 := Int32.le_iff_toInt_le.mp q
        have q2 := Int32.le_iff_toInt_le.mp (Int32.not_lt.mp hn)
        have e1 : (4 : Int32).toInt = 4 := rfl
        have e2 : (0 : Int32).toInt = 0 := rfl
        exact h1 ⟨by omega, by omega⟩
    · unfold F_X11_open
      have ne : ∀ (k : Nat), k < 5 → ¬ w = nI k := fun k hk e => h1 (by rw [e, toInt_nI (by omega)]; omega)
      rw [if_neg (show ¬ w = 0 from ne 0 (by decide)), if_neg (show ¬ w = 1 from ne 1 (by decide)), if_neg (show ¬ w = 2 from ne 2 (by decide)), if_neg (show ¬ w = 3 from ne 3 (by decide)), if_neg (show ¬ w = 4 from ne 4 (by decide))]
theorem op_partly (hI0 : INV x z iv ai aj ar pp f0) (i w : Int32) : Or_ (F_X10_partly (hp x iv ai aj ar pp f0) x i w) (F_X11_partly (hp x iv ai aj ar pp f0) (x + 19) i w) := by
  obtain ⟨l, r1, r2, r3, r4, r5, r6, r7, r8⟩ := hI0.parts
  have em : ∀ r, (if 0 ≤ i.toInt ∧ i.toInt < (l.length : Int) then (if w = 4 then hIld (hp x iv ai aj ar pp f0) (x + 27) i else if 0 ≤ w.toInt ∧ w.toInt ≤ 3 then hIld (hp x iv ai aj ar pp f0) (x + 26) ((4 : Int32) * i + w) else some (-2)) else some (-1)) = some r → F_X11_partly (hp x iv ai aj ar pp f0) (x + 19) i w = some r := by
    intro r hr
    unfold F_X11_partly
    simp only [ri_19_12, r3, Option.bind_some, s_within, if10, w_ixn (show l.length ≤ 10000 by omega), w32 (lo := 0) (hi := 3) (l := 0) (h := 3) rfl rfl, rn_19_13, rn_19_14, obs]
    rw [← hr]
    by_cases h1 : 0 ≤ i.toInt ∧ i.toInt < (l.length : Int)
    · rw [if_neg (not_not_intro h1), if_pos h1]
      by_cases h2 : w = 4
      · rw [if_pos h2, if_pos h2]
      · rw [if_neg h2, if_neg h2]
        by_cases h3 : 0 ≤ w.toInt ∧ w.toInt ≤ 3
        · rw [if_neg (not_not_intro h3), if_pos h3]
        · rw [if_pos h3, if_neg h3]
    · rw [if_pos h1, if_neg h1]
  have lt : ∀ (k : Nat) , (w = nI k) → k < 5 → 0 ≤ w.toInt ∧ w.toInt < 5 := fun k e hk => by rw [e, toInt_nI (by omega)]; omega
  by_cases h1 : 0 ≤ i.toInt ∧ i.toInt < (l.length : Int)
  case neg =>
    refine ⟨-1, ?_, em _ (if_neg h1)⟩
    unfold F_X10_partly
    by_cases hn : i < 0
    · rw [if_pos hn]
    · rw [if_neg hn, rn_0_4, Option.bind_some, ri_5_6, Option.bind_some, r2, if_neg]
      intro q
      have q1 := Int32.lt_iff_toInt_lt.mp q
      have q2 := Int32.le_iff_toInt_le.mp (Int32.not_lt.mp hn)
      rw [toInt_nI (by omega)] at q1
      have e2 : (0 : Int32).toInt = 0 := rfl
      exact h1 ⟨by omega, by omega⟩
  obtain ⟨j, hj, rfl⟩ := inN (by omega) h1
  have hq := rep_row r4 r5 hj
  have ec : F_X10_partly (hp x iv ai aj ar pp f0) x (nI j) w = if w < 0 then some (-2) else if w ≤ 4 then (if w = 4 then some (ai 7 j) else hIld (hp x iv ai aj ar pp f0) (x + 6) ((4 : Int32) * nI j + w)) else some (-2) := by
    unfold F_X10_partly
    rw [if_neg (by rw [neg_nI (by omega)]; exact id), rn_0_4, Option.bind_some, ri_5_6, Option.bind_some, r2, if_pos (by rw [lt_nI (by omega) (by omega)]; exact hj)]
    simp only [Option.bind_some, rn_5_1, rn_5_0, (row_7 x iv ai aj ar pp f0).1 j (show j < 40 by omega), obs]
  by_cases h2 : 0 ≤ w.toInt ∧ w.toInt < 5
  case neg =>
    refine ⟨-2, ?_, em _ ?_⟩
    · rw [ec]
      by_cases hn : w < 0
      · rw [if_pos hn]
      · rw [if_neg hn, if_neg]
        intro q
        have q1 := Int32.le_iff_toInt_le.mp q
        have q2 := Int32.le_iff_toInt_le.mp (Int32.not_lt.mp hn)
        have e1 : (4 : Int32).toInt = 4 := rfl
        have e2 : (0 : Int32).toInt = 0 := rfl
        exact h2 ⟨by omega, by omega⟩
    · rw [if_pos h1, if_neg (show ¬ w = 4 from fun e => h2 (lt 4 e (by decide))), if_neg (show ¬ (0 ≤ w.toInt ∧ w.toInt ≤ 3) by omega)]
  obtain ⟨k, hk, rfl⟩ := inN (n := 5) (k := w) (by omega) (by omega)
  by_cases h4 : k = 4
  · subst h4
    refine ⟨ai 7 j, ?_, em _ ?_⟩
    · rw [ec]; rfl
    · rw [if_pos h1, if_pos (show nI 4 = 4 from rfl), r27 (by omega)]
      exact congrArg some (rep_st r5 r4 hj)
  · refine ⟨ai 6 (4 * j + k), ?_, em _ ?_⟩
    · rw [ec, if_neg (by rw [neg_nI (by omega)]; exact id), if_pos (by rw [cel_4 (by omega)]; omega), if_neg (by rw [ceq_4 (by omega)]; exact h4), mul_4, nI_add, (row_6 x iv ai aj ar pp f0).1 _ (by omega)]
    · rw [if_pos h1, if_neg (by rw [ceq_4 (by omega)]; exact h4), if_pos (by rw [toInt_nI (by omega)]; omega), mul_4, nI_add, r26 (by omega)]
      refine congrArg some ?_
      rcases (show k = 0 ∨ k = 1 ∨ k = 2 ∨ k = 3 by omega) with rfl | rfl | rfl | rfl
      · exact (congrArg (fun q : Pt => q.1) hq).symm
      · exact (congrArg (fun q : Pt => q.2.1) hq).symm
      · exact (congrArg (fun q : Pt => q.2.2.1) hq).symm
      · exact (congrArg (fun q : Pt => q.2.2.2.1) hq).symm
theorem op_where (hI0 : INV x z iv ai aj ar pp f0) (w : Int32) : Or_ (F_X10_where (hp x iv ai aj ar pp f0) x w) (F_X11_where (hp x iv ai aj ar pp f0) (x + 19) w) := by
  obtain ⟨l, r1, r2, r3, r4, r5, r6, r7, r8⟩ := hI0.parts
  have ec : F_X10_where (hp x iv ai aj ar pp f0) x w = if 0 ≤ w.toInt ∧ w.toInt ≤ 1 then (if iv 5 7 = 0 then some (-9) else if w = 0 then some (iv 5 8) else some (iv 5 9)) else some (-2) := by
    unfold F_X10_where
    simp only [s_isWhich, Option.bind_some, if10, rn_0_4, ri_5_7, ri_5_8, ri_5_9]
    by_cases h1 : 0 ≤ w.toInt ∧ w.toInt ≤ 1
    · rw [if_neg (not_not_intro h1), if_pos h1]
    · rw [if_pos h1, if_neg h1]
  have em : ∀ v, F_X11_firstPart (hp x iv ai aj ar pp f0) (x + 19) 3 = some v → F_X11_where (hp x iv ai aj ar pp f0) (x + 19) w = if 0 ≤ w.toInt ∧ w.toInt ≤ 1 then (if v = -9 then some (-9) else if w = 0 then some (iv 19 15) else some (iv 19 16)) else some (-2) := by
    intro v hv
    unfold F_X11_where
    simp only [s_within, Option.bind_some, if10, w32 (lo := 0) (hi := 1) (l := 0) (h := 1) rfl rfl, rk_19, if_true, hv, ri_19_15, ri_19_16]
    by_cases h1 : 0 ≤ w.toInt ∧ w.toInt ≤ 1
    · rw [if_neg (not_not_intro h1), if_pos h1]
    · rw [if_pos h1, if_neg h1]
  rcases m_fp_loop (x := x) (iv := iv) (ai := ai) (aj := aj) (ar := ar) (pp := pp) (f0 := f0) r1 r3 3 l.length 0 xfuel (by omega) (Nat.lt_of_le_of_lt r1 (by decide)) with ⟨i3, _, hi3, h03, hj3, e3⟩ | ⟨hno3, e3⟩
  · have h3 : anyS l 3 = true := by rw [rep_any r5 3]; exact ⟨i3, hi3, h03⟩
    rw [h3, if_pos rfl] at r6
    have r7' := r7 h3
    rw [Or_, ec, em _ e3, r6, if_neg (show ¬ (1 : Int32) = 0 by decide), if_neg (nI_n9 (show i3 < 2147483648 by omega)), r7'.1, r7'.2]
    by_cases h1 : 0 ≤ w.toInt ∧ w.toInt ≤ 1
    · rw [if_pos h1]
      by_cases h2 : w = 0
      · rw [if_pos h2]; exact ⟨_, rfl, rfl⟩
      · rw [if_neg h2]; exact ⟨_, rfl, rfl⟩
    · rw [if_neg h1]; exact ⟨_, rfl, rfl⟩
  · have h3 : anyS l 3 = false := (anyS_f r5).mp (fun j hj => hno3 j (Nat.zero_le _) hj)
    rw [h3] at r6
    have r6' : iv 5 7 = 0 := r6
    rw [Or_, ec, em _ e3, r6', if_pos rfl, if_pos rfl]
    by_cases h1 : 0 ≤ w.toInt ∧ w.toInt ≤ 1
    · rw [if_pos h1]; exact ⟨_, rfl, rfl⟩
    · rw [if_neg h1]; exact ⟨_, rfl, rfl⟩
/-! least -/
def mn2 (a b : Int64) : Int64 := if b < a then b else a
theorem mn2_assoc (a b c : Int64) : mn2 (mn2 a b) c = mn2 a (mn2 b c) := by
  unfold mn2
  by_cases h1 : b < a
  · rw [if_pos h1]
    by_cases h2 : c < b
    · rw [if_pos h2, if_pos (Int64.lt_trans h2 h1)]
    · rw [if_neg h2, if_pos h1]
  · rw [if_neg h1]
    by_cases h2 : c < b
    · rw [if_pos h2]
    · rw [if_neg h2, if_neg h1]
      rw [if_neg (show ¬ c < a from fun h => h2 (Int64.lt_of_lt_of_le h (Int64.not_lt.mp h1)))]
theorem mnR_zero (G : Nat → Int64) (t : Nat) (s : Int64) : mnR G 0 t s = s := by unfold mnR; rfl
theorem mnR_succ (G : Nat → Int64) (n t : Nat) (s : Int64) : mnR G (n + 1) t s = mnR G n (t + 1) (mn2 s (G t)) := by
  conv => lhs; unfold mnR
  unfold mn2
  rfl
theorem mnR_mn2 (G : Nat → Int64) : ∀ (n t : Nat) (a s : Int64), mnR G n t (mn2 a s) = mn2 a (mnR G n t s) := by
  intro n
  induction n with
  | zero =>
    intro t a s
    rw [mnR_zero, mnR_zero]
  | succ n ih =>
    intro t a s
    rw [mnR_succ, mnR_succ, mn2_assoc, ih]
def mnP (Q : Nat → Nat → Int64) : Nat → Nat → Int64 → Int64
  | 0, _, s => s
  | n + 1, t, s => mnP Q n (t + 1) (mn2 s (mnR (Q t) 8 1 (Q t 0)))
theorem mnP_eq {Q Q' : Nat → Nat → Int64} {N : Nat} (h : ∀ t, t < N → Q t = Q' t) : ∀ (n t : Nat) (s : Int64), t + n = N → mnP Q n t s = mnP Q' n t s := by
  intro n
  induction n with
  | zero => intro t s _; rfl
  | succ n ih =>
    intro t s ht
    show mnP Q n (t + 1) _ = mnP Q' n (t + 1) _
    rw [h t (by omega), ih (t + 1) _ (by omega)]
theorem s_least_loop {n a : Nat} {g T : Nat → Int64} (hg : pcell x f0 a g) (ha : pp 5 = some a) (hT : ∀ t, t < 9 → g t = T t) (hn : n ≤ 40) (h6 : iv 5 6 = nI n) : ∀ (w t m : Nat) (s : Int64) (aj : Nat → Nat → Int64), t + w = n → w < m → ∃ aj', L_X2_leastCorner_6 m (hp x iv ai aj ar pp f0) (x + 5) s (nI t) = some (mnP (fun i k => crn T k (qd (ai 6) (ai 7) i)) w t s, hp x iv ai aj' ar pp f0) ∧ ∀ k, k ≠ 8 → aj' k = aj k := by
  intro w
  induction w with
  | zero =>
    intro t m s aj ht hm
    obtain ⟨m, rfl⟩ : ∃ y, m = y + 1 := ⟨m - 1, by omega⟩
    refine ⟨aj, ?_, fun _ _ => rfl⟩
    show F_X2_leastCorner_6 _ _ _ _ _ = _
    unfold F_X2_leastCorner_6
    rw [ri_5_6, h6, Option.bind_some, if_pos (by rw [leq_nI (by omega) (by omega)]; omega)]
    rfl
  | succ w ih =>
    intro t m s aj ht hm
    obtain ⟨m, rfl⟩ : ∃ y, m = y + 1 := ⟨m - 1, by omega⟩
    have co : F_X4_cornersOn (hp x iv ai aj ar pp f0) a (x + 6) (nI (4 * t)) (x + 8) = some (hp x iv ai (va_up aj 8 (layC (aj 8) g (quad (ai 6) (4 * t)) 0)) ar pp f0) := s_cornersOn (N := 160) hg (fun aj k hk => (row_6 x iv ai aj ar pp f0).1 k hk) (fun aj k v hk => (pc_5 x).sv hk v) (by omega) (by decide)
    have hG : ∀ k, k < 9 → hJld (hp x iv ai (va_up aj 8 (layC (aj 8) g (quad (ai 6) (4 * t)) 0)) ar pp f0) (x + 8) (nI k) = some (crn T k (qd (ai 6) (ai 7) t)) := fun k hk => by
      refine ((pc_5 x).ld hk).trans ?_
      show some (va_up aj 8 (layC (aj 8) g (quad (ai 6) (4 * t)) 0) 8 k) = _
      rw [up_at, layC_at hk, crn_eq hT]
      rfl
    obtain ⟨aj', e1, e2⟩ := ih (t + 1) m (mn2 s (mnR (fun k => crn T k (qd (ai 6) (ai 7) t)) 8 1 (crn T 0 (qd (ai 6) (ai 7) t)))) (va_up aj 8 (layC (aj 8) g (quad (ai 6) (4 * t)) 0)) (by omega) (by omega)
    refine ⟨aj', ?_, fun k hk => (e2 k hk).trans (up_ne _ _ hk)⟩
    show F_X2_leastCorner_6 _ _ _ _ _ = some (mnP _ w (t + 1) _, _)
    unfold F_X2_leastCorner_6 F_J9_min_f86c9
    rw [ri_5_6, h6, Option.bind_some, if_neg (by rw [leq_nI (by omega) (by omega)]; omega), ro_5_3, Option.bind_some, ha, xnul_s, Option.bind_some, rn_5_0, Option.bind_some, rn_5_2, Option.bind_some, Option.bind_some, if_pos hg.kd, mul_4, co, Option.bind_some, rn_5_2, Option.bind_some, s_leastOf rl_8 hG, Option.bind_some, add_1, ← e1]
    unfold mn2
    split <;> rfl
theorem m_least_in {p t : Nat} (hp1 : p < 30) (h10 : iv 19 10 = nI p) (ht : t < 41) (k20 : Nat → Int64 → Int32 → Option Int64) : ∀ (w k m : Nat) (s : Int64), k + w = 9 → w < m → L_X11_least_31 (hp x iv ai aj ar pp f0) k20 m (x + 19) s (nI t) (nI k) = k20 (x + 19) (mnR (fun k => crn (Tm (aj 23) p) k (qd (ai 26) (ai 27) t)) w k s) (nI (t + 1)) := by
  intro w
  induction w with
  | zero =>
    intro k m s hk hm
    obtain ⟨m, rfl⟩ : ∃ y, m = y + 1 := ⟨m - 1, by omega⟩
    have : k = 9 := by omega
    subst this
    show F_X11_least_31 _ _ _ _ _ _ _ = _
    unfold F_X11_least_31
    rw [if_pos (by decide), add_1]
    rfl
  | succ w ih =>
    intro k m s hk hm
    obtain ⟨m, rfl⟩ : ∃ y, m = y + 1 := ⟨m - 1, by omega⟩
    show F_X11_least_31 _ _ _ _ _ _ _ = k20 (x + 19) (mnR _ w (k + 1) _) _
    unfold F_X11_least_31 F_X11_least_60
    rw [if_neg (by rw [cle_9 (by omega)]; omega), if_pos rk_19, m_partCorner hp1 h10 ht (by omega), Option.bind_some, add_1, ih (k + 1) m _ (by omega) (by omega), ih (k + 1) m _ (by omega) (by omega)]
    by_cases hlt : crn (Tm (aj 23) p) k (qd (ai 26) (ai 27) t) < s
    · rw [if_neg (Int64.not_le.mpr hlt), if_pos hlt]
    · rw [if_pos (Int64.not_lt.mp hlt), if_neg hlt]
theorem m_least_loop {p n : Nat} (hp1 : p < 30) (h10 : iv 19 10 = nI p) (hn : n ≤ 40) (h6 : iv 19 12 = nI n) : ∀ (w t m : Nat) (s : Int64), t + w = n → w < m → L_X11_least_20 (hp x iv ai aj ar pp f0) m (x + 19) s (nI t) = some (mnP (fun i k => crn (Tm (aj 23) p) k (qd (ai 26) (ai 27) i)) w t s) := by
  intro w
  induction w with
  | zero =>
    intro t m s ht hm
    obtain ⟨m, rfl⟩ : ∃ y, m = y + 1 := ⟨m - 1, by omega⟩
    show F_X11_least_20 _ _ _ _ _ = _
    unfold F_X11_least_20
    rw [ri_19_12, h6, Option.bind_some, if_pos (by rw [leq_nI (by omega) (by omega)]; omega)]
    rfl
  | succ w ih =>
    intro t m s ht hm
    obtain ⟨m, rfl⟩ : ∃ y, m = y + 1 := ⟨m - 1, by omega⟩
    show F_X11_least_20 _ _ _ _ _ = some (mnP _ w (t + 1) _)
    unfold F_X11_least_20
    rw [ri_19_12, h6, Option.bind_some, if_neg (by rw [leq_nI (by omega) (by omega)]; omega), show (0 : Int32) = nI 0 from rfl, m_least_in hp1 h10 (by omega) _ 9 0 xfuel s (by omega) (by decide), ih (t + 1) m _ (by omega) (by omega), ← mnR_mn2]
    rfl
theorem mn2_max (s : Int64) : mn2 9223372036854775807 s = s := by
  unfold mn2
  by_cases h : s < 9223372036854775807
  · rw [if_pos h]
  · rw [if_neg h]
    have h1 := Int64.le_iff_toInt_le.mp (Int64.not_lt.mp h)
    have h2 := Int64.toInt_le s
    have e1 : (9223372036854775807 : Int64).toInt = 9223372036854775807 := rfl
    have e2 : Int64.maxValue.toInt = 9223372036854775807 := rfl
    apply Int64.toInt_inj.mp
    omega
theorem mn2_self (s : Int64) : mn2 s s = s := by
  unfold mn2
  split <;> rfl
theorem op_least (hI0 : INV x z iv ai aj ar pp f0) : Oc x z (F_X10_least (hp x iv ai aj ar pp f0) x) (fun h => F_X11_least h (x + 19)) := by
  obtain ⟨l, r1, r2, r3, r4, r5, r6, r7, r8⟩ := hI0.parts
  rcases r8 with ⟨rfl, r8⟩ | ⟨p, b, m, a, g, g1, g2, g3, g4, g5, g6, g7, g8, g9, g10, g11, g12, g13, g14, g15⟩
  · refine Oc_no (r := -9223372036854775808) hI0 ?_ ?_
    · unfold F_X10_least
      rw [rn_0_4, Option.bind_some, ro_5_3, Option.bind_some, r8]
      rfl
    · show F_X11_least _ _ = _
      unfold F_X11_least
      rw [ri_19_12, r3, Option.bind_some]
      rfl
  · obtain ⟨aj', e1, e2⟩ := s_least_loop (x := x) (iv := iv) (ai := ai) (ar := ar) g11 g10 g12 r1 r2 l.length 0 xfuel 9223372036854775807 aj (by omega) (Nat.lt_of_le_of_lt r1 (by decide))
    have hj23 : aj' 23 = aj 23 := e2 23 (by decide)
    refine ⟨mnP (fun i k => crn (Tm (aj 23) p) k (qd (ai 6) (ai 7) i)) l.length 0 9223372036854775807, iv, ai, aj', ar, pp, f0, ?_, ?_, ?_⟩
    · unfold F_X10_least F_X2_leastCorner
      rw [rn_0_4, Option.bind_some, ro_5_3, Option.bind_some, g10, xnul_s, Option.bind_some, if_pos rk_5, show (0 : Int32) = nI 0 from rfl, e1, Option.bind_some]
    · show F_X11_least _ _ = _
      unfold F_X11_least
      rw [ri_19_12, r3, Option.bind_some, if_neg (by rw [ceq_0 (by omega)]; omega), if_pos rk_19, show (0 : Int32) = nI 0 from rfl, m_partCorner g2 g6 (by omega) (by decide), Option.bind_some, m_least_loop g2 g6 r1 r3 l.length 0 xfuel _ (by omega) (Nat.lt_of_le_of_lt r1 (by decide)), hj23]
      refine congrArg some ?_
      obtain ⟨n, hn⟩ : ∃ y, l.length = y + 1 := ⟨l.length - 1, by omega⟩
      have hQ : ∀ t, t < l.length → (fun (i k : Nat) => crn (Tm (aj 23) p) k (qd (ai 26) (ai 27) i)) t = (fun (i k : Nat) => crn (Tm (aj 23) p) k (qd (ai 6) (ai 7) i)) t := fun t ht => by
        show (fun k => crn (Tm (aj 23) p) k (qd (ai 26) (ai 27) t)) = _
        rw [rep_row r5 r4 ht]
      rw [mnP_eq hQ l.length 0 _ (by omega), rep_row r5 r4 (show 0 < l.length by omega), hn]
      show mnP _ n 1 (mn2 _ (mnR _ 8 1 _)) = mnP _ n 1 (mn2 _ (mnR _ 8 1 _))
      rw [mn2_max, ← mnR_mn2, mn2_self]
    · exact hI0.newParts rfl rfl (fun _ _ _ _ _ _ => rfl) (fun _ _ _ _ _ _ _ => rfl) (fun k a1 _ => e2 k a1) (by
        obtain ⟨hz, own, hT, hS, hP, hB, hR, hQ⟩ := id hI0
        exact hR)
end PARTREADS

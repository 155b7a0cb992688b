/-! a step of the reference's PARTS is a step of the list -/
theorem odm_f {a b : Int32} (h : rg a b) (e : ¬ od a b = true) : (b - a) - (b - a) / 2 * 2 = 0 := by
  rw [odd_m, len_I h]
  refine od_f ?_
  cases e2 : od a b with
  | false => rfl
  | true => exact absurd e2 e
theorem odm_t {a b : Int32} (h : rg a b) (e : od a b = true) : ¬ ((b - a) - (b - a) / 2 * 2 = 0) := by
  rw [odd_m, len_I h, od_t e]
  decide
section MSTEP
variable {x z : Nat} {iv ai : Nat → Nat → Int32} {aj : Nat → Nat → Int64} {ar : Nat → Nat → Option Nat} {pp : Nat → Option Nat} {f0 : xHp}
theorem r26 {i : Nat} (hi : i < 164) : hIld (hp x iv ai aj ar pp f0) (x + 26) (nI i) = some (ai 26 i) := by rw [ra_26]; simp (disch := omega) only [mul_3, mul_4, mul_5, mul_9, mul_30, mul_160, add_1, add_2, add_3, add_4, add_5, add_6, addl_1, addl_2, addl_3, addl_4, cle_0, cel_0, clt_0, ctl_0, ceq_0, cle_1, cel_1, clt_1, ctl_1, ceq_1, cle_2, cel_2, clt_2, ctl_2, ceq_2, cle_3, cel_3, clt_3, ctl_3, ceq_3, cle_4, cel_4, clt_4, ctl_4, ceq_4, cle_5, cel_5, clt_5, ctl_5, ceq_5, cle_6, cel_6, clt_6, ctl_6, ceq_6, cle_7, cel_7, clt_7, ctl_7, ceq_7, cle_8, cel_8, clt_8, ctl_8, ceq_8, cle_9, cel_9, clt_9, ctl_9, ceq_9, cle_12, cel_12, clt_12, ctl_12, ceq_12, cle_20, cel_20, clt_20, ctl_20, ceq_20, cle_24, cel_24, clt_24, ctl_24, ceq_24, cle_25, cel_25, clt_25, ctl_25, ceq_25, cle_30, cel_30, clt_30, ctl_30, ceq_30, cle_36, cel_36, clt_36, ctl_36, ceq_36, cle_40, cel_40, clt_40, ctl_40, ceq_40, cle_41, cel_41, clt_41, ctl_41, ceq_41, cle_120, cel_120, clt_120, ctl_120, ceq_120, cle_160, cel_160, clt_160, ctl_160, ceq_160, cle_164, cel_164, clt_164, ctl_164, ceq_164, cle_500, cel_500, clt_500, ctl_500, ceq_500, cle_1000, cel_1000, clt_1000, ctl_1000, ceq_1000, ixr, ixq, ixf, neg_nI, leq_nI, lt_nI, eq_nI, cl_nI, nI_add, pk_mul]
theorem r27 {i : Nat} (hi : i < 41) : hIld (hp x iv ai aj ar pp f0) (x + 27) (nI i) = some (ai 27 i) := by rw [ra_27]; simp (disch := omega) only [mul_3, mul_4, mul_5, mul_9, mul_30, mul_160, add_1, add_2, add_3, add_4, add_5, add_6, addl_1, addl_2, addl_3, addl_4, cle_0, cel_0, clt_0, ctl_0, ceq_0, cle_1, cel_1, clt_1, ctl_1, ceq_1, cle_2, cel_2, clt_2, ctl_2, ceq_2, cle_3, cel_3, clt_3, ctl_3, ceq_3, cle_4, cel_4, clt_4, ctl_4, ceq_4, cle_5, cel_5, clt_5, ctl_5, ceq_5, cle_6, cel_6, clt_6, ctl_6, ceq_6, cle_7, cel_7, clt_7, ctl_7, ceq_7, cle_8, cel_8, clt_8, ctl_8, ceq_8, cle_9, cel_9, clt_9, ctl_9, ceq_9, cle_12, cel_12, clt_12, ctl_12, ceq_12, cle_20, cel_20, clt_20, ctl_20, ceq_20, cle_24, cel_24, clt_24, ctl_24, ceq_24, cle_25, cel_25, clt_25, ctl_25, ceq_25, cle_30, cel_30, clt_30, ctl_30, ceq_30, cle_36, cel_36, clt_36, ctl_36, ceq_36, cle_40, cel_40, clt_40, ctl_40, ceq_40, cle_41, cel_41, clt_41, ctl_41, ceq_41, cle_120, cel_120, clt_120, ctl_120, ceq_120, cle_160, cel_160, clt_160, ctl_160, ceq_160, cle_164, cel_164, clt_164, ctl_164, ceq_164, cle_500, cel_500, clt_500, ctl_500, ceq_500, cle_1000, cel_1000, clt_1000, ctl_1000, ceq_1000, ixr, ixq, ixf, neg_nI, leq_nI, lt_nI, eq_nI, cl_nI, nI_add, pk_mul]
theorem w26 {i : Nat} (hi : i < 164) (v : Int32) : hIst (hp x iv ai aj ar pp f0) (x + 26) (nI i) v = some (hp x iv (u2 ai 26 i v) aj ar pp f0) := by rw [wa_26]; simp (disch := omega) only [mul_3, mul_4, mul_5, mul_9, mul_30, mul_160, add_1, add_2, add_3, add_4, add_5, add_6, addl_1, addl_2, addl_3, addl_4, cle_0, cel_0, clt_0, ctl_0, ceq_0, cle_1, cel_1, clt_1, ctl_1, ceq_1, cle_2, cel_2, clt_2, ctl_2, ceq_2, cle_3, cel_3, clt_3, ctl_3, ceq_3, cle_4, cel_4, clt_4, ctl_4, ceq_4, cle_5, cel_5, clt_5, ctl_5, ceq_5, cle_6, cel_6, clt_6, ctl_6, ceq_6, cle_7, cel_7, clt_7, ctl_7, ceq_7, cle_8, cel_8, clt_8, ctl_8, ceq_8, cle_9, cel_9, clt_9, ctl_9, ceq_9, cle_12, cel_12, clt_12, ctl_12, ceq_12, cle_20, cel_20, clt_20, ctl_20, ceq_20, cle_24, cel_24, clt_24, ctl_24, ceq_24, cle_25, cel_25, clt_25, ctl_25, ceq_25, cle_30, cel_30, clt_30, ctl_30, ceq_30, cle_36, cel_36, clt_36, ctl_36, ceq_36, cle_40, cel_40, clt_40, ctl_40, ceq_40, cle_41, cel_41, clt_41, ctl_41, ceq_41, cle_120, cel_120, clt_120, ctl_120, ceq_120, cle_160, cel_160, clt_160, ctl_160, ceq_160, cle_164, cel_164, clt_164, ctl_164, ceq_164, cle_500, cel_500, clt_500, ctl_500, ceq_500, cle_1000, cel_1000, clt_1000, ctl_1000, ceq_1000, ixr, ixq, ixf, neg_nI, leq_nI, lt_nI, eq_nI, cl_nI, nI_add, pk_mul]
theorem w27 {i : Nat} (hi : i < 41) (v : Int32) : hIst (hp x iv ai aj ar pp f0) (x + 27) (nI i) v = some (hp x iv (u2 ai 27 i v) aj ar pp f0) := by rw [wa_27]; simp (disch := omega) only [mul_3, mul_4, mul_5, mul_9, mul_30, mul_160, add_1, add_2, add_3, add_4, add_5, add_6, addl_1, addl_2, addl_3, addl_4, cle_0, cel_0, clt_0, ctl_0, ceq_0, cle_1, cel_1, clt_1, ctl_1, ceq_1, cle_2, cel_2, clt_2, ctl_2, ceq_2, cle_3, cel_3, clt_3, ctl_3, ceq_3, cle_4, cel_4, clt_4, ctl_4, ceq_4, cle_5, cel_5, clt_5, ctl_5, ceq_5, cle_6, cel_6, clt_6, ctl_6, ceq_6, cle_7, cel_7, clt_7, ctl_7, ceq_7, cle_8, cel_8, clt_8, ctl_8, ceq_8, cle_9, cel_9, clt_9, ctl_9, ceq_9, cle_12, cel_12, clt_12, ctl_12, ceq_12, cle_20, cel_20, clt_20, ctl_20, ceq_20, cle_24, cel_24, clt_24, ctl_24, ceq_24, cle_25, cel_25, clt_25, ctl_25, ceq_25, cle_30, cel_30, clt_30, ctl_30, ceq_30, cle_36, cel_36, clt_36, ctl_36, ceq_36, cle_40, cel_40, clt_40, ctl_40, ceq_40, cle_41, cel_41, clt_41, ctl_41, ceq_41, cle_120, cel_120, clt_120, ctl_120, ceq_120, cle_160, cel_160, clt_160, ctl_160, ceq_160, cle_164, cel_164, clt_164, ctl_164, ceq_164, cle_500, cel_500, clt_500, ctl_500, ceq_500, cle_1000, cel_1000, clt_1000, ctl_1000, ceq_1000, ixr, ixq, ixf, neg_nI, leq_nI, lt_nI, eq_nI, cl_nI, nI_add, pk_mul]
theorem m_fp_loop {n : Nat} (hn : n ≤ 40) (h6 : iv 19 12 = nI n) (v : Int32) : ∀ (w t m : Nat), t + w = n → w < m → (∃ i, t ≤ i ∧ i < n ∧ ai 27 i = v ∧ (∀ j, t ≤ j → j < i → ai 27 j ≠ v) ∧ L_X11_firstPart_2 (hp x iv ai aj ar pp f0) m (x + 19) v (nI t) = some (nI i)) ∨ ((∀ j, t ≤ j → j < n → ai 27 j ≠ v) ∧ L_X11_firstPart_2 (hp x iv ai aj ar pp f0) m (x + 19) v (nI t) = some (-9)) := by
  intro w
  induction w with
  | zero =>
    intro t m ht hm
    obtain ⟨m, rfl⟩ : ∃ y, m = y + 1 := ⟨m - 1, by omega⟩
    refine Or.inr ⟨fun j a b => absurd b (by omega), ?_⟩
    show F_X11_firstPart_2 _ _ _ _ _ = _
    unfold F_X11_firstPart_2
    rw [ri_19_12, h6, Option.bind_some, if_pos (by rw [leq_nI (by omega) (by omega)]; omega)]
  | succ w ih =>
    intro t m ht hm
    obtain ⟨m, rfl⟩ : ∃ y, m = y + 1 := ⟨m - 1, by omega⟩
    have e : L_X11_firstPart_2 (hp x iv ai aj ar pp f0) (m + 1) (x + 19) v (nI t) = if ai 27 t = v then some (nI t) else L_X11_firstPart_2 (hp x iv ai aj ar pp f0) m (x + 19) v (nI (t + 1)) := by
      show F_X11_firstPart_2 _ _ _ _ _ = _
      unfold F_X11_firstPart_2
      rw [ri_19_12, h6, Option.bind_some, if_neg (by rw [leq_nI (by omega) (by omega)]; omega), rn_19_14, Option.bind_some, r27 (by omega), Option.bind_some, add_1]
    rw [e]
    by_cases h0 : ai 27 t = v
    · rw [if_pos h0]
      exact Or.inl ⟨t, Nat.le_refl _, by omega, h0, fun j a b => absurd b (by omega), rfl⟩
    · rw [if_neg h0]
      rcases ih (t + 1) m (by omega) (by omega) with ⟨i, a, b, d, f, g⟩ | ⟨a, b⟩
      · refine Or.inl ⟨i, by omega, b, d, fun j u v => ?_, g⟩
        by_cases ej : j = t
        · rw [ej]; exact h0
        · exact f j (by omega) v
      · refine Or.inr ⟨fun j u v => ?_, b⟩
        by_cases ej : j = t
        · rw [ej]; exact h0
        · exact a j (by omega) v
theorem m_partCorner {p i k : Nat} (hp1 : p < 30) (h10 : iv 19 10 = nI p) (hi : i < 41) (hk : k < 9) : F_X11_partCorner (hp x iv ai aj ar pp f0) (x + 19) (nI i) (nI k) = some (crn (Tm (aj 23) p) k (qd (ai 26) (ai 27) i)) := by
  unfold F_X11_partCorner
  rw [ri_19_10, h10, Option.bind_some, rn_19_13, Option.bind_some, mul_4, r26 (by omega), Option.bind_some, Option.bind_some, add_1, r26 (by omega), Option.bind_some, Option.bind_some, add_2, r26 (by omega), Option.bind_some, Option.bind_some, add_3, r26 (by omega), Option.bind_some, if_pos rk_19, m_cornerOf hp1 hk _ _ _ _ 0, Option.bind_some]
  rfl
theorem m_judged_loop {p i : Nat} (hp1 : p < 30) (h10 : iv 19 10 = nI p) (hi : i < 41) : ∀ (w t m : Nat) (b : Int32), t + w = 9 → w < m → (b = 0 ∨ b = 1) → ((b = 1 ∧ ∀ k, t ≤ k → k < 9 → 0 ≤ crn (Tm (aj 23) p) k (qd (ai 26) (ai 27) i)) → L_X11_judged_4 m (hp x iv ai aj ar pp f0) (x + 19) (nI i) b (nI t) = some (1, hp x iv ai aj ar pp f0)) ∧ (¬ (b = 1 ∧ ∀ k, t ≤ k → k < 9 → 0 ≤ crn (Tm (aj 23) p) k (qd (ai 26) (ai 27) i)) → L_X11_judged_4 m (hp x iv ai aj ar pp f0) (x + 19) (nI i) b (nI t) = L_X11_judged_43 xfuel (hp x iv ai aj ar pp f0) (x + 19) (nI i) 0) := by
  intro w
  induction w with
  | zero =>
    intro t m b ht hm hb
    obtain ⟨m, rfl⟩ : ∃ y, m = y + 1 := ⟨m - 1, by omega⟩
    have : t = 9 := by omega
    subst this
    have e : L_X11_judged_4 (m + 1) (hp x iv ai aj ar pp f0) (x + 19) (nI i) b (nI 9) = if b = 0 then L_X11_judged_43 xfuel (hp x iv ai aj ar pp f0) (x + 19) (nI i) 0 else some (1, hp x iv ai aj ar pp f0) := by
      show F_X11_judged_4 _ _ _ _ _ _ = _
      unfold F_X11_judged_4
      rw [if_pos (by decide)]
    rw [e]
    refine ⟨fun h => if_neg (by rw [h.1]; decide), fun h => if_pos ?_⟩
    rcases hb with hb | hb
    · exact hb
    · exact absurd ⟨hb, fun k a b => absurd b (by omega)⟩ h
  | succ w ih =>
    intro t m b ht hm hb
    obtain ⟨m, rfl⟩ : ∃ y, m = y + 1 := ⟨m - 1, by omega⟩
    have e : L_X11_judged_4 (m + 1) (hp x iv ai aj ar pp f0) (x + 19) (nI i) b (nI t) = if crn (Tm (aj 23) p) t (qd (ai 26) (ai 27) i) < 0 then L_X11_judged_4 m (hp x iv ai aj ar pp f0) (x + 19) (nI i) 0 (nI (t + 1)) else L_X11_judged_4 m (hp x iv ai aj ar pp f0) (x + 19) (nI i) b (nI (t + 1)) := by
      show F_X11_judged_4 _ _ _ _ _ _ = _
      unfold F_X11_judged_4 F_X11_judged_27
      rw [if_neg (by rw [cle_9 (by omega)]; omega), if_pos rk_19, m_partCorner hp1 h10 hi (by omega), Option.bind_some, add_1]
      rcases hb with rfl | rfl <;> rfl
    rw [e]
    by_cases hlt : crn (Tm (aj 23) p) t (qd (ai 26) (ai 27) i) < 0
    · rw [if_pos hlt]
      obtain ⟨_, i2⟩ := ih (t + 1) m 0 (by omega) (by omega) (Or.inl rfl)
      refine ⟨fun h => absurd (h.2 t (Nat.le_refl _) (by omega)) (Int64.not_le.mpr hlt), fun _ => i2 (fun h => absurd h.1 (by decide))⟩
    · rw [if_neg hlt]
      obtain ⟨i1, i2⟩ := ih (t + 1) m b (by omega) (by omega) hb
      refine ⟨fun h => i1 ⟨h.1, fun k a b => h.2 k (by omega) b⟩, fun h => i2 (fun q => h ⟨q.1, fun k a b => ?_⟩)⟩
      by_cases ek : k = t
      · rw [ek]; exact Int64.not_lt.mp hlt
      · exact q.2 k (by omega) b
theorem m_43_step {p i k m s e : Nat} (hp1 : p < 30) (h10 : iv 19 10 = nI p) (hi : i < 41) (hk : k < 9) (hs : s = if 3 ≤ k then 1 else 0) (he : e = if k % 3 = 0 then 2 else 3) : L_X11_judged_43 (m + 1) (hp x iv ai aj ar pp f0) (x + 19) (nI i) (nI k) = if 0 ≤ crn (Tm (aj 23) p) k (qd (ai 26) (ai 27) i) then L_X11_judged_43 m (hp x iv ai aj ar pp f0) (x + 19) (nI i) (nI (k + if k = 2 then 4 else 2)) else some (3, hp x (u2 (u2 iv 19 15 (ai 26 (4 * i + s))) 19 16 (ai 26 (4 * i + e))) ai aj ar pp f0) := by
  show F_X11_judged_43 _ _ _ _ _ = _
  unfold F_X11_judged_43 F_X11_judged_120
  rw [if_neg (by rw [cle_9 (by omega)]; omega), if_pos rk_19, m_partCorner hp1 h10 hi hk, Option.bind_some]
  by_cases hc : 0 ≤ crn (Tm (aj 23) p) k (qd (ai 26) (ai 27) i)
  · rw [if_pos hc, if_pos hc]
    by_cases h2 : k = 2
    · rw [if_pos (show nI k = 2 by rw [h2]; rfl), if_pos h2, add_4]
    · rw [if_neg (show ¬ nI k = 2 by rw [ceq_2 (by omega)]; exact h2), if_neg h2, add_2]
  · rw [if_neg hc, if_neg hc, rn_19_13, Option.bind_some]
    have e2 : ∀ (s : Nat) (sI : Int32), sI = nI s → s < 2 → F_X11_judged_78 (hp x iv ai aj ar pp f0) (x + 19) (nI i) (nI k) sI ((4 : Int32) * nI i) (x + 26) (x + 19) = some (3, hp x (u2 (u2 iv 19 15 (ai 26 (4 * i + s))) 19 16 (ai 26 (4 * i + e))) ai aj ar pp f0) := by
      intro s sI hsI hs2
      unfold F_X11_judged_78 F_X11_judged_102
      rw [hsI, mul_4, nI_add, r26 (by omega), Option.bind_some, wi_19_15, Option.bind_some, rn_19_13, Option.bind_some, div_3 (by omega), rem_3]
      by_cases h3 : k % 3 = 0
      · rw [if_pos h3] at he
        rw [if_pos (show nI (k % 3) = 0 by rw [h3]; rfl), add_2, r26 (by omega), Option.bind_some, wi_19_16, Option.bind_some, he]
      · rw [if_neg h3] at he
        rw [if_neg (show ¬ nI (k % 3) = 0 by rw [ceq_0 (by omega)]; exact h3), add_3, r26 (by omega), Option.bind_some, wi_19_16, Option.bind_some, he]
    by_cases h3 : 3 ≤ k
    · rw [if_pos h3] at hs
      rw [if_pos (show (3 : Int32) ≤ nI k by rw [cle_3 (by omega)]; exact h3), e2 1 1 rfl (by decide), hs]
    · rw [if_neg h3] at hs
      rw [if_neg (show ¬ (3 : Int32) ≤ nI k by rw [cle_3 (by omega)]; exact h3), e2 0 0 rfl (by decide), hs]
theorem m_43_end {i m : Nat} (hi : i < 41) (hx : rg (ai 26 (4 * i)) (ai 26 (4 * i + 1))) (hy : rg (ai 26 (4 * i + 2)) (ai 26 (4 * i + 3))) : L_X11_judged_43 (m + 1) (hp x iv ai aj ar pp f0) (x + 19) (nI i) (nI 10) = some (if od (ai 26 (4 * i)) (ai 26 (4 * i + 1)) = true ∧ od (ai 26 (4 * i + 2)) (ai 26 (4 * i + 3)) = true then 2 else 0, hp x iv ai aj ar pp f0) := by
  show F_X11_judged_43 _ _ _ _ _ = _
  unfold F_X11_judged_43 F_X11_judged_154 F_X11_judged_186
  rw [if_pos (by decide), rn_19_13, Option.bind_some, mul_4, add_1, r26 (by omega), Option.bind_some, Option.bind_some, r26 (by omega), Option.bind_some]
  have ey : ∀ (s0 : Int32), (Option.bind (some (x + 26)) fun v1 => Option.bind (hIld (hp x iv ai aj ar pp f0) v1 (nI (4 * i) + (3 : Int32))) fun v2 => Option.bind (some (x + 26)) fun v3 => Option.bind (hIld (hp x iv ai aj ar pp f0) v3 (nI (4 * i) + (2 : Int32))) fun v4 => if ((v2 - v4) - (v2 - v4) / (2 : Int32) * (2 : Int32)) = 0 then (if s0 = 0 then (some ((0 : Int32), hp x iv ai aj ar pp f0)) else (if (0 : Int32) = 0 then (some ((0 : Int32), hp x iv ai aj ar pp f0)) else (some ((2 : Int32), hp x iv ai aj ar pp f0)))) else (if s0 = 0 then (some ((0 : Int32), hp x iv ai aj ar pp f0)) else (if (1 : Int32) = 0 then (some ((0 : Int32), hp x iv ai aj ar pp f0)) else (some ((2 : Int32), hp x iv ai aj ar pp f0))))) = some (if s0 ≠ 0 ∧ od (ai 26 (4 * i + 2)) (ai 26 (4 * i + 3)) = true then 2 else 0, hp x iv ai aj ar pp f0) := by
    intro s0
    rw [Option.bind_some, add_3, r26 (by omega), Option.bind_some, Option.bind_some, add_2, r26 (by omega), Option.bind_some]
    by_cases h0 : s0 = 0
    · have hn : ¬ (s0 ≠ 0 ∧ od (ai 26 (4 * i + 2)) (ai 26 (4 * i + 3)) = true) := fun q => q.1 h0
      rw [if_pos h0, if_pos h0, if_neg hn]
      split <;> rfl
    · rw [if_neg h0, if_neg h0, if_pos rfl, if_neg (show ¬ (1 : Int32) = 0 by decide)]
      by_cases e : od (ai 26 (4 * i + 2)) (ai 26 (4 * i + 3)) = true
      · have hn : s0 ≠ 0 ∧ od (ai 26 (4 * i + 2)) (ai 26 (4 * i + 3)) = true := ⟨h0, e⟩
        rw [if_neg (odm_t hy e), if_pos hn]
      · have hn : ¬ (s0 ≠ 0 ∧ od (ai 26 (4 * i + 2)) (ai 26 (4 * i + 3)) = true) := fun q => e q.2
        rw [if_pos (odm_f hy e), if_neg hn]
  rw [ey 0, ey 1]
  by_cases e : od (ai 26 (4 * i)) (ai 26 (4 * i + 1)) = true
  · rw [if_neg (odm_t hx e)]
    by_cases e2 : od (ai 26 (4 * i + 2)) (ai 26 (4 * i + 3)) = true
    · have h1 : (1 : Int32) ≠ 0 ∧ od (ai 26 (4 * i + 2)) (ai 26 (4 * i + 3)) = true := ⟨by decide, e2⟩
      have h2 : od (ai 26 (4 * i)) (ai 26 (4 * i + 1)) = true ∧ od (ai 26 (4 * i + 2)) (ai 26 (4 * i + 3)) = true := ⟨e, e2⟩
      rw [if_pos h1, if_pos h2]
    · have h1 : ¬ ((1 : Int32) ≠ 0 ∧ od (ai 26 (4 * i + 2)) (ai 26 (4 * i + 3)) = true) := fun q => e2 q.2
      have h2 : ¬ (od (ai 26 (4 * i)) (ai 26 (4 * i + 1)) = true ∧ od (ai 26 (4 * i + 2)) (ai 26 (4 * i + 3)) = true) := fun q => e2 q.2
      rw [if_neg h1, if_neg h2]
  · have h1 : ¬ ((0 : Int32) ≠ 0 ∧ od (ai 26 (4 * i + 2)) (ai 26 (4 * i + 3)) = true) := fun q => q.1 rfl
    have h2 : ¬ (od (ai 26 (4 * i)) (ai 26 (4 * i + 1)) = true ∧ od (ai 26 (4 * i + 2)) (ai 26 (4 * i + 3)) = true) := fun q => e q.1
    rw [if_pos (odm_f hx e), if_neg h1, if_neg h2]
theorem m_judged {p i : Nat} (hp1 : p < 30) (h10 : iv 19 10 = nI p) (hi : i < 41) {q : Pt} (hq : qd (ai 26) (ai 27) i = q) (hrq : rgQ q) {T : Nat → Int64} (hT : Tm (aj 23) p = T) :
    (upAll T q = true → F_X11_judged (hp x iv ai aj ar pp f0) (x + 19) (nI i) = some (1, hp x iv ai aj ar pp f0)) ∧
    (¬ upAll T q = true → (crn T 0 q < 0 ∨ crn T 2 q < 0 ∨ crn T 6 q < 0 ∨ crn T 8 q < 0) → F_X11_judged (hp x iv ai aj ar pp f0) (x + 19) (nI i) = some (3, hp x (u2 (u2 iv 19 15 (lowQ T q).1) 19 16 (lowQ T q).2) ai aj ar pp f0)) ∧
    (¬ upAll T q = true → ¬ (crn T 0 q < 0 ∨ crn T 2 q < 0 ∨ crn T 6 q < 0 ∨ crn T 8 q < 0) → F_X11_judged (hp x iv ai aj ar pp f0) (x + 19) (nI i) = some (if od q.1 q.2.1 = true ∧ od q.2.2.1 q.2.2.2.1 = true then 2 else 0, hp x iv ai aj ar pp f0)) := by
  subst hT
  obtain ⟨l1, l2⟩ := m_judged_loop (iv := iv) (ai := ai) (aj := aj) (ar := ar) (pp := pp) (f0 := f0) (x := x) hp1 h10 hi 9 0 xfuel 1 (by omega) (by decide) (Or.inr rfl)
  rw [hq] at l1 l2
  have q1 : q.1 = ai 26 (4 * i) := by rw [← hq]; rfl
  have q2 : q.2.1 = ai 26 (4 * i + 1) := by rw [← hq]; rfl
  have q3 : q.2.2.1 = ai 26 (4 * i + 2) := by rw [← hq]; rfl
  have q4 : q.2.2.2.1 = ai 26 (4 * i + 3) := by rw [← hq]; rfl
  have e43 : ¬ upAll (Tm (aj 23) p) q = true → F_X11_judged (hp x iv ai aj ar pp f0) (x + 19) (nI i) = if 0 ≤ crn (Tm (aj 23) p) 0 q then (if 0 ≤ crn (Tm (aj 23) p) 2 q then (if 0 ≤ crn (Tm (aj 23) p) 6 q then (if 0 ≤ crn (Tm (aj 23) p) 8 q then some (if od q.1 q.2.1 = true ∧ od q.2.2.1 q.2.2.2.1 = true then 2 else 0, hp x iv ai aj ar pp f0) else some (3, hp x (u2 (u2 iv 19 15 q.2.1) 19 16 q.2.2.2.1) ai aj ar pp f0)) else some (3, hp x (u2 (u2 iv 19 15 q.2.1) 19 16 q.2.2.1) ai aj ar pp f0)) else some (3, hp x (u2 (u2 iv 19 15 q.1) 19 16 q.2.2.2.1) ai aj ar pp f0)) else some (3, hp x (u2 (u2 iv 19 15 q.1) 19 16 q.2.2.1) ai aj ar pp f0) := by
    intro hU
    have e1 : F_X11_judged (hp x iv ai aj ar pp f0) (x + 19) (nI i) = L_X11_judged_43 xfuel (hp x iv ai aj ar pp f0) (x + 19) (nI i) 0 := l2 (fun h => hU (upAll_iff.mpr (fun k hk => h.2 k (Nat.zero_le _) hk)))
    rw [e1]
    show L_X11_judged_43 (4091 + 1 + 1 + 1 + 1 + 1) (hp x iv ai aj ar pp f0) (x + 19) (nI i) (nI 0) = _
    rw [m_43_step (s := 0) (e := 2) hp1 h10 hi (by decide) rfl rfl, show (0 + if 0 = 2 then 4 else 2) = 2 from rfl, m_43_step (s := 0) (e := 3) hp1 h10 hi (by decide) rfl rfl, show (2 + if 2 = 2 then 4 else 2) = 6 from rfl, m_43_step (s := 1) (e := 2) hp1 h10 hi (by decide) rfl rfl, show (6 + if 6 = 2 then 4 else 2) = 8 from rfl, m_43_step (s := 1) (e := 3) hp1 h10 hi (by decide) rfl rfl, show (8 + if 8 = 2 then 4 else 2) = 10 from rfl, m_43_end hi (by rw [← q1, ← q2]; exact hrq.1) (by rw [← q3, ← q4]; exact hrq.2), hq, q1, q2, q3, q4]
    rfl
  refine ⟨fun h => l1 ⟨rfl, fun k _ b => upAll_iff.mp h k b⟩, fun hU hb => ?_, fun hU hb => ?_⟩
  · rw [e43 hU]
    unfold lowQ
    by_cases b0 : 0 ≤ crn (Tm (aj 23) p) 0 q
    case neg => rw [if_neg b0, if_pos (Int64.not_le.mp b0)]
    rw [if_pos b0, if_neg (Int64.not_lt.mpr b0)]
    by_cases b2 : 0 ≤ crn (Tm (aj 23) p) 2 q
    case neg => rw [if_neg b2, if_pos (Int64.not_le.mp b2)]
    rw [if_pos b2, if_neg (Int64.not_lt.mpr b2)]
    by_cases b6 : 0 ≤ crn (Tm (aj 23) p) 6 q
    case neg => rw [if_neg b6, if_pos (Int64.not_le.mp b6)]
    rw [if_pos b6, if_neg (Int64.not_lt.mpr b6)]
    by_cases b8 : 0 ≤ crn (Tm (aj 23) p) 8 q
    case neg => rw [if_neg b8]
    rcases hb with h | h | h | h
    · exact absurd h (Int64.not_lt.mpr b0)
    · exact absurd h (Int64.not_lt.mpr b2)
    · exact absurd h (Int64.not_lt.mpr b6)
    · exact absurd h (Int64.not_lt.mpr b8)
  · rw [e43 hU, if_pos (Int64.not_lt.mp (fun h => hb (Or.inl h))), if_pos (Int64.not_lt.mp (fun h => hb (Or.inr (Or.inl h)))), if_pos (Int64.not_lt.mp (fun h => hb (Or.inr (Or.inr (Or.inl h))))), if_pos (Int64.not_lt.mp (fun h => hb (Or.inr (Or.inr (Or.inr h)))))]
/-! the reference's cut -/
def sh4 (S : Nat → Int32) (k s : Nat) : Nat → Int32 := fun j => if 4 * k + s ≤ j ∧ j < 4 * k + 4 then S (j - 4) else S j
def shS (S : Nat → Int32) (i k : Nat) : Nat → Int32 := fun j => if 4 * (i + 2) ≤ j ∧ j < 4 * (k + 1) then S (j - 4) else S j
def shT (S : Nat → Int32) (i k : Nat) : Nat → Int32 := fun j => if i + 2 ≤ j ∧ j < k + 1 then S (j - 1) else S j
theorem m_99 {k72 : xHp → Nat → Int32 → Int32 → Int32 → Option xHp} {i k : Nat} (hk : 1 ≤ k) (hk2 : k < 41) (b : Int32) : ∀ (w s m : Nat) (ai : Nat → Nat → Int32), s + w = 4 → w < m → L_X11_halve_99 k72 m (hp x iv ai aj ar pp f0) (x + 19) (nI i) b (nI k) (nI s) = k72 (hp x iv (va_up ai 26 (sh4 (ai 26) k s)) aj ar pp f0) (x + 19) (nI i) b (nI k + (-1)) := by
  intro w
  induction w with
  | zero =>
    intro s m ai hs hm
    obtain ⟨m, rfl⟩ : ∃ y, m = y + 1 := ⟨m - 1, by omega⟩
    have : s = 4 := by omega
    subst this
    show F_X11_halve_99 _ _ _ _ _ _ _ _ = _
    unfold F_X11_halve_99
    have e : sh4 (ai 26) k 4 = ai 26 := by
      funext j
      unfold sh4
      rw [if_neg (by omega)]
    rw [if_pos (by decide), e, up_self]
  | succ w ih =>
    intro s m ai hs hm
    obtain ⟨m, rfl⟩ : ∃ y, m = y + 1 := ⟨m - 1, by omega⟩
    show F_X11_halve_99 _ _ _ _ _ _ _ _ = _
    unfold F_X11_halve_99
    rw [if_neg (by rw [cle_4 (by omega)]; omega), rn_19_13, Option.bind_some, Option.bind_some, mul_4, sub_4 (by omega), nI_add, nI_add, r26 (by omega), Option.bind_some, w26 (by omega), Option.bind_some, add_1, ih (s + 1) m _ (by omega) (by omega), u2_cc, up_u2]
    have e : sh4 (va_up (ai 26) (4 * k + s) (ai 26 (4 * k - 4 + s))) k (s + 1) = sh4 (ai 26) k s := by
      funext j
      unfold sh4
      by_cases h1 : 4 * k + (s + 1) ≤ j ∧ j < 4 * k + 4
      · rw [if_pos h1, if_pos (by omega), up_ne _ _ (by omega)]
      · rw [if_neg h1]
        by_cases h2 : j = 4 * k + s
        · rw [h2, up_at, if_pos (by omega)]
          congr 1; omega
        · rw [up_ne _ _ h2, if_neg (by omega)]
    rw [e]
theorem m_72 {i n : Nat} (hi : i < n) (hn : n < 40) (b : Int32) : ∀ (w k m : Nat) (ai : Nat → Nat → Int32), k = i + 1 + w → k ≤ n → w < m → L_X11_halve_72 m (hp x iv ai aj ar pp f0) (x + 19) (nI i) b (nI k) = L_X11_halve_162 xfuel (hp x iv (va_up (va_up ai 26 (shS (ai 26) i k)) 27 (va_up (va_up (shT (ai 27) i k) i 0) (i + 1) 0)) aj ar pp f0) (x + 19) (nI i) b 0 := by
  intro w
  induction w with
  | zero =>
    intro k m ai hk hkn hm
    obtain ⟨m, rfl⟩ : ∃ y, m = y + 1 := ⟨m - 1, by omega⟩
    show F_X11_halve_72 _ _ _ _ _ _ = _
    unfold F_X11_halve_72
    have e1 : shS (ai 26) i k = ai 26 := by
      funext j
      unfold shS
      rw [if_neg (by omega)]
    have e2 : shT (ai 27) i k = ai 27 := by
      funext j
      unfold shT
      rw [if_neg (by omega)]
    rw [add_1, if_pos (by rw [leq_nI (by omega) (by omega)]; omega), rn_19_14, Option.bind_some, w27 (by omega), Option.bind_some, rn_19_14, Option.bind_some, w27 (by omega), Option.bind_some, e1, e2, up_self, u2_u2]
  | succ w ih =>
    intro k m ai hk hkn hm
    obtain ⟨m, rfl⟩ : ∃ y, m = y + 1 := ⟨m - 1, by omega⟩
    obtain ⟨k', rfl⟩ : ∃ y, k = y + 1 := ⟨k - 1, by omega⟩
    show F_X11_halve_72 _ _ _ _ _ _ = _
    unfold F_X11_halve_72
    rw [add_1, if_neg (by rw [leq_nI (by omega) (by omega)]; omega), rn_19_14, Option.bind_some, Option.bind_some, nI_pred, r27 (by omega), Option.bind_some, w27 (by omega), Option.bind_some, show (0 : Int32) = nI 0 from rfl, m_99 (by omega) (by omega) b 4 0 xfuel _ (by omega) (by decide), pk_m1, ih k' m _ (by omega) (by omega) (by omega)]
    have r1 : va_up (u2 ai 27 (k' + 1) (ai 27 k')) 26 (sh4 (u2 ai 27 (k' + 1) (ai 27 k') 26) (k' + 1) 0) 26 = sh4 (ai 26) (k' + 1) 0 := by rw [up_at, u2_ne _ _ _ (by decide)]
    have r2 : va_up (u2 ai 27 (k' + 1) (ai 27 k')) 26 (sh4 (u2 ai 27 (k' + 1) (ai 27 k') 26) (k' + 1) 0) 27 = va_up (ai 27) (k' + 1) (ai 27 k') := by rw [up_ne _ _ (by decide), u2_cc]
    rw [r1, r2]
    have e1 : shS (sh4 (ai 26) (k' + 1) 0) i k' = shS (ai 26) i (k' + 1) := by
      funext j
      unfold shS sh4
      by_cases h1 : 4 * (i + 2) ≤ j ∧ j < 4 * (k' + 1)
      · rw [if_pos h1, if_neg (by omega), if_pos (by omega)]
      · rw [if_neg h1]
        by_cases h2 : 4 * (k' + 1) + 0 ≤ j ∧ j < 4 * (k' + 1) + 4
        · rw [if_pos h2, if_pos (by omega)]
        · rw [if_neg h2, if_neg (by omega)]
    have e2 : shT (va_up (ai 27) (k' + 1) (ai 27 k')) i k' = shT (ai 27) i (k' + 1) := by
      funext j
      unfold shT
      by_cases h1 : i + 2 ≤ j ∧ j < k' + 1
      · rw [if_pos h1, if_pos (by omega), up_ne _ _ (by omega)]
      · rw [if_neg h1]
        by_cases h2 : j = k' + 1
        · rw [h2, up_at, if_pos (by omega)]
          rfl
        · rw [up_ne _ _ h2, if_neg (by omega)]
    rw [e1, e2]
    have e3 : ∀ B C, va_up (va_up (u2 ai 27 (k' + 1) (ai 27 k')) 26 B) 27 C = va_up (va_up ai 26 B) 27 C := by
      intro B C
      funext j
      by_cases h1 : j = 27
      · rw [h1, up_at, up_at]
      · rw [up_ne _ _ h1, up_ne _ _ h1]
        by_cases h2 : j = 26
        · rw [h2, up_at, up_at]
        · rw [up_ne _ _ h2, up_ne _ _ h2, u2_ne _ _ _ h1]
    rw [up_up, e3, show nI 0 = (0 : Int32) from rfl]
def cp4 (S : Nat → Int32) (i s : Nat) : Nat → Int32 := fun j => if 4 * i + 4 + s ≤ j ∧ j < 4 * i + 8 then S (j - 4) else S j
theorem m_162 {i : Nat} (hi : i < 40) (b : Int32) : ∀ (w s m : Nat) (ai : Nat → Nat → Int32), s + w = 4 → w < m → L_X11_halve_162 m (hp x iv ai aj ar pp f0) (x + 19) (nI i) b (nI s) = if b = 0 then F_X11_halve_208 (hp x iv (va_up ai 26 (cp4 (ai 26) i s)) aj ar pp f0) (x + 19) (nI i) 2 else F_X11_halve_208 (hp x iv (va_up ai 26 (cp4 (ai 26) i s)) aj ar pp f0) (x + 19) (nI i) 0 := by
  intro w
  induction w with
  | zero =>
    intro s m ai hs hm
    obtain ⟨m, rfl⟩ : ∃ y, m = y + 1 := ⟨m - 1, by omega⟩
    have : s = 4 := by omega
    subst this
    show F_X11_halve_162 _ _ _ _ _ _ = _
    unfold F_X11_halve_162
    have e : cp4 (ai 26) i 4 = ai 26 := by
      funext j
      unfold cp4
      rw [if_neg (by omega)]
    rw [if_pos (by decide), e, up_self]
  | succ w ih =>
    intro s m ai hs hm
    obtain ⟨m, rfl⟩ : ∃ y, m = y + 1 := ⟨m - 1, by omega⟩
    show F_X11_halve_162 _ _ _ _ _ _ = _
    unfold F_X11_halve_162
    rw [if_neg (by rw [cle_4 (by omega)]; omega), rn_19_13, Option.bind_some, Option.bind_some, mul_4, nI_add, add_4, nI_add, r26 (by omega), Option.bind_some, w26 (by omega), Option.bind_some, add_1, ih (s + 1) m _ (by omega) (by omega), u2_cc, up_u2]
    have e : cp4 (va_up (ai 26) (4 * i + 4 + s) (ai 26 (4 * i + s))) i (s + 1) = cp4 (ai 26) i s := by
      funext j
      unfold cp4
      by_cases h1 : 4 * i + 4 + (s + 1) ≤ j ∧ j < 4 * i + 8
      · rw [if_pos h1, if_pos (by omega), up_ne _ _ (by omega)]
      · rw [if_neg h1]
        by_cases h2 : j = 4 * i + 4 + s
        · rw [h2, up_at, if_pos (by omega)]
          congr 1; omega
        · rw [up_ne _ _ h2, if_neg (by omega)]
    rw [e]
theorem m_208 {i n w : Nat} (hi : i < 40) (hw : w < 2) (h6 : iv 19 12 = nI n) (C : Nat → Int32) (hC : ai 26 = C) : F_X11_halve_208 (hp x iv ai aj ar pp f0) (x + 19) (nI i) (nI (2 * w)) = some (hp x (u2 iv 19 12 (nI (n + 1))) (va_up ai 26 (va_up (va_up C (4 * i + 2 * w + 1) ((C (4 * i + 2 * w) + C (4 * i + 2 * w + 1)) / 2)) (4 * i + 4 + 2 * w) ((C (4 * i + 2 * w) + C (4 * i + 2 * w + 1)) / 2))) aj ar pp f0) := by
  subst hC
  unfold F_X11_halve_208
  rw [rn_19_13, Option.bind_some, mul_4, nI_add, r26 (by omega), Option.bind_some, Option.bind_some, add_1, r26 (by omega), Option.bind_some, Option.bind_some, w26 (by omega), Option.bind_some, rn_19_13, Option.bind_some, add_4, nI_add, w26 (by omega), Option.bind_some, ri_19_12, h6, Option.bind_some, add_1, wi_19_12, Option.bind_some, u2_u2]
theorem m_halve {i n w : Nat} (hi : i < n) (hn : n < 40) (h6 : iv 19 12 = nI n) {S st : Nat → Int32} (hS : ai 26 = S) (hst : ai 27 = st) (hx : rg (S (4 * i)) (S (4 * i + 1))) (hy : rg (S (4 * i + 2)) (S (4 * i + 3))) (ho : ¬ (od (S (4 * i)) (S (4 * i + 1)) = true ∧ od (S (4 * i + 2)) (S (4 * i + 3)) = true)) (hw : w < 2) (hiff : w = 0 ↔ od (S (4 * i)) (S (4 * i + 1)) = false ∧ (od (S (4 * i + 2)) (S (4 * i + 3)) = true ∨ S (4 * i + 3) - S (4 * i + 2) ≤ S (4 * i + 1) - S (4 * i))) :
    ∃ ai', F_X11_halve (hp x iv ai aj ar pp f0) (x + 19) (nI i) = some (hp x (u2 iv 19 12 (nI (n + 1))) ai' aj ar pp f0) ∧ (∀ j, j < 4 * i → ai' 26 j = S j) ∧ (∀ j, 4 * (i + 2) ≤ j → j < 4 * (n + 1) → ai' 26 j = S (j - 4)) ∧ (∀ k, k < 4 → ai' 26 (4 * i + k) = if k = 2 * w + 1 then mid (S (4 * i + 2 * w)) (S (4 * i + 2 * w + 1)) else S (4 * i + k)) ∧ (∀ k, k < 4 → ai' 26 (4 * (i + 1) + k) = if k = 2 * w then mid (S (4 * i + 2 * w)) (S (4 * i + 2 * w + 1)) else S (4 * i + k)) ∧ (∀ j, j < i → ai' 27 j = st j) ∧ ai' 27 i = 0 ∧ ai' 27 (i + 1) = 0 ∧ (∀ j, i + 2 ≤ j → j < n + 1 → ai' 27 j = st (j - 1)) ∧ ∀ k, k ≠ 26 → k ≠ 27 → ai' k = ai k := by
  subst hS hst
  have e64 : ∀ (b : Int32), (b = 0 ∧ w = 1) ∨ (b ≠ 0 ∧ w = 0) → F_X11_halve_64 (hp x iv ai aj ar pp f0) (x + 19) (nI i) b = F_X11_halve_208 (hp x iv (va_up (va_up (va_up ai 26 (shS (ai 26) i n)) 27 (va_up (va_up (shT (ai 27) i n) i 0) (i + 1) 0)) 26 (cp4 (shS (ai 26) i n) i 0)) aj ar pp f0) (x + 19) (nI i) (nI (2 * w)) := by
    intro b hb
    unfold F_X11_halve_64
    rw [ri_19_12, h6, Option.bind_some, m_72 hi hn b (n - (i + 1)) n xfuel ai (by omega) (Nat.le_refl _) (Nat.lt_of_le_of_lt (show n - (i + 1) ≤ 40 by omega) (by decide)), show (0 : Int32) = nI 0 from rfl, m_162 (by omega) b 4 0 xfuel _ (by omega) (by decide)]
    have r : va_up (va_up ai 26 (shS (ai 26) i n)) 27 (va_up (va_up (shT (ai 27) i n) i (nI 0)) (i + 1) (nI 0)) 26 = shS (ai 26) i n := by rw [up_ne _ _ (by decide), up_at]
    rw [r]
    rcases hb with ⟨h, rfl⟩ | ⟨h, rfl⟩
    · rw [if_pos h]; rfl
    · rw [if_neg (by exact h)]; rfl
  have eh : F_X11_halve (hp x iv ai aj ar pp f0) (x + 19) (nI i) = F_X11_halve_64 (hp x iv ai aj ar pp f0) (x + 19) (nI i) (if w = 0 then 1 else 0) := by
    unfold F_X11_halve F_X11_halve_53 F_X11_halve_59
    rw [rn_19_13, Option.bind_some, mul_4, add_1, r26 (by omega), Option.bind_some, Option.bind_some, r26 (by omega), Option.bind_some, Option.bind_some, add_3, r26 (by omega), Option.bind_some, Option.bind_some, add_2, r26 (by omega), Option.bind_some]
    by_cases eX : od (ai 26 (4 * i)) (ai 26 (4 * i + 1)) = true
    · have eY : ¬ od (ai 26 (4 * i + 2)) (ai 26 (4 * i + 3)) = true := fun e => ho ⟨eX, e⟩
      have hw0 : ¬ w = 0 := fun q => by have := (hiff.mp q).1; rw [eX] at this; cases this
      rw [if_neg (odm_t hx eX), if_pos (odm_f hy eY), if_neg hw0]
    · have eX' : od (ai 26 (4 * i)) (ai 26 (4 * i + 1)) = false := by
        cases e : od (ai 26 (4 * i)) (ai 26 (4 * i + 1)) with
        | false => rfl
        | true => exact absurd e eX
      rw [if_pos (odm_f hx eX)]
      by_cases hle : ai 26 (4 * i + 3) - ai 26 (4 * i + 2) ≤ ai 26 (4 * i + 1) - ai 26 (4 * i)
      · rw [if_pos hle, if_pos (hiff.mpr ⟨eX', Or.inr hle⟩)]
      · rw [if_neg hle]
        by_cases eY : od (ai 26 (4 * i + 2)) (ai 26 (4 * i + 3)) = true
        · rw [if_neg (odm_t hy eY), if_pos (hiff.mpr ⟨eX', Or.inl eY⟩)]
        · have hw0 : ¬ w = 0 := fun q => (hiff.mp q).2.elim eY hle
          rw [if_pos (odm_f hy eY), if_neg hw0]
  have hwb : ((if w = 0 then (1 : Int32) else 0) = 0 ∧ w = 1) ∨ ((if w = 0 then (1 : Int32) else 0) ≠ 0 ∧ w = 0) := by
    rcases (show w = 0 ∨ w = 1 by omega) with rfl | rfl
    · exact Or.inr ⟨by decide, rfl⟩
    · exact Or.inl ⟨by decide, rfl⟩
  have hC0 : ∀ k, k < 4 → cp4 (shS (ai 26) i n) i 0 (4 * i + k) = ai 26 (4 * i + k) := fun k hk => by
    unfold cp4 shS
    rw [if_neg (by omega), if_neg (by omega)]
  have hC1 : ∀ k, k < 4 → cp4 (shS (ai 26) i n) i 0 (4 * i + 4 + k) = ai 26 (4 * i + k) := fun k hk => by
    unfold cp4 shS
    rw [if_pos (by omega), if_neg (by omega)]
    congr 1; omega
  have hmid : (cp4 (shS (ai 26) i n) i 0 (4 * i + 2 * w) + cp4 (shS (ai 26) i n) i 0 (4 * i + 2 * w + 1)) / 2 = mid (ai 26 (4 * i + 2 * w)) (ai 26 (4 * i + 2 * w + 1)) := by
    rw [hC0 (2 * w) (by omega), show 4 * i + 2 * w + 1 = 4 * i + (2 * w + 1) by omega, hC0 (2 * w + 1) (by omega)]
    rcases (show w = 0 ∨ w = 1 by omega) with rfl | rfl
    · exact mid_eq hx (od_f (hiff.mp rfl).1)
    · have eY : od (ai 26 (4 * i + 2)) (ai 26 (4 * i + 3)) = false := by
        cases e : od (ai 26 (4 * i + 2)) (ai 26 (4 * i + 3)) with
        | false => rfl
        | true =>
          cases e2 : od (ai 26 (4 * i)) (ai 26 (4 * i + 1)) with
          | true => exact absurd ⟨e2, e⟩ ho
          | false => exact absurd (hiff.mpr ⟨e2, Or.inl e⟩) (by decide)
      exact mid_eq hy (od_f eY)
  refine ⟨_, (eh.trans (e64 _ hwb)).trans (m_208 (by omega) hw h6 _ (up_at _ _ _)), ?_, ?_, ?_, ?_, ?_, ?_, ?_, ?_, ?_⟩
  · intro j hj
    rw [up_at, up_ne _ _ (by omega), up_ne _ _ (by omega)]
    unfold cp4 shS
    rw [if_neg (by omega), if_neg (by omega)]
  · intro j a b
    rw [up_at, up_ne _ _ (by omega), up_ne _ _ (by omega)]
    unfold cp4 shS
    rw [if_neg (by omega), if_pos (by omega)]
  · intro k hk
    rw [up_at, up_ne _ _ (by omega), hmid]
    by_cases g1 : k = 2 * w + 1
    · rw [if_pos g1, g1, show 4 * i + (2 * w + 1) = 4 * i + 2 * w + 1 by omega, up_at]
    · rw [if_neg g1, up_ne _ _ (by omega), hC0 k hk]
  · intro k hk
    rw [up_at, hmid, show 4 * (i + 1) + k = 4 * i + 4 + k by omega]
    by_cases g1 : k = 2 * w
    · rw [if_pos g1, g1, up_at]
    · rw [if_neg g1, up_ne _ _ (by omega), up_ne _ _ (by omega), hC1 k hk]
  · intro j hj
    rw [up_ne _ _ (by decide), up_ne _ _ (by decide), up_at, up_ne _ _ (by omega), up_ne _ _ (by omega)]
    unfold shT
    rw [if_neg (by omega)]
  · rw [up_ne _ _ (by decide), up_ne _ _ (by decide), up_at, up_ne _ _ (by omega), up_at]
  · rw [up_ne _ _ (by decide), up_ne _ _ (by decide), up_at, up_at]
  · intro j a b
    rw [up_ne _ _ (by decide), up_ne _ _ (by decide), up_at, up_ne _ _ (by omega), up_ne _ _ (by omega)]
    unfold shT
    rw [if_pos (by omega)]
  · intro k a b
    rw [up_ne _ _ a, up_ne _ _ a, up_ne _ _ b, up_ne _ _ a]
end MSTEP

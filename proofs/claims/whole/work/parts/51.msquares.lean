/-! squares of a form: the reference; forms -/
section MSQ
variable {x z : Nat} {iv ai : Nat → Nat → Int32} {aj : Nat → Nat → Int64} {ar : Nat → Nat → Option Nat} {pp : Nat → Option Nat} {f0 : xHp}
theorem r28 {i : Nat} (hi : i < 9) : hJld (hp x iv ai aj ar pp f0) (x + 28) (nI i) = some (aj 28 i) := by rw [ra_28]; simp (disch := omega) only [mul_3, mul_4, mul_5, mul_9, mul_30, mul_160, add_1, add_2, add_3, add_4, add_5, add_6, addl_1, addl_2, addl_3, addl_4, cle_0, cel_0, clt_0, ctl_0, ceq_0, cle_1, cel_1, clt_1, ctl_1, ceq_1, cle_2, cel_2, clt_2, ctl_2, ceq_2, cle_3, cel_3, clt_3, ctl_3, ceq_3, cle_4, cel_4, clt_4, ctl_4, ceq_4, cle_5, cel_5, clt_5, ctl_5, ceq_5, cle_6, cel_6, clt_6, ctl_6, ceq_6, cle_7, cel_7, clt_7, ctl_7, ceq_7, cle_8, cel_8, clt_8, ctl_8, ceq_8, cle_9, cel_9, clt_9, ctl_9, ceq_9, cle_12, cel_12, clt_12, ctl_12, ceq_12, cle_20, cel_20, clt_20, ctl_20, ceq_20, cle_24, cel_24, clt_24, ctl_24, ceq_24, cle_25, cel_25, clt_25, ctl_25, ceq_25, cle_30, cel_30, clt_30, ctl_30, ceq_30, cle_36, cel_36, clt_36, ctl_36, ceq_36, cle_40, cel_40, clt_40, ctl_40, ceq_40, cle_41, cel_41, clt_41, ctl_41, ceq_41, cle_120, cel_120, clt_120, ctl_120, ceq_120, cle_160, cel_160, clt_160, ctl_160, ceq_160, cle_164, cel_164, clt_164, ctl_164, ceq_164, cle_500, cel_500, clt_500, ctl_500, ceq_500, cle_1000, cel_1000, clt_1000, ctl_1000, ceq_1000, ixr, ixq, ixf, neg_nI, leq_nI, lt_nI, eq_nI, cl_nI, nI_add, pk_mul]
theorem w28 {i : Nat} (hi : i < 9) (v : Int64) : hJst (hp x iv ai aj ar pp f0) (x + 28) (nI i) v = some (hp x iv ai (u2 aj 28 i v) ar pp f0) := by rw [wa_28]; simp (disch := omega) only [mul_3, mul_4, mul_5, mul_9, mul_30, mul_160, add_1, add_2, add_3, add_4, add_5, add_6, addl_1, addl_2, addl_3, addl_4, cle_0, cel_0, clt_0, ctl_0, ceq_0, cle_1, cel_1, clt_1, ctl_1, ceq_1, cle_2, cel_2, clt_2, ctl_2, ceq_2, cle_3, cel_3, clt_3, ctl_3, ceq_3, cle_4, cel_4, clt_4, ctl_4, ceq_4, cle_5, cel_5, clt_5, ctl_5, ceq_5, cle_6, cel_6, clt_6, ctl_6, ceq_6, cle_7, cel_7, clt_7, ctl_7, ceq_7, cle_8, cel_8, clt_8, ctl_8, ceq_8, cle_9, cel_9, clt_9, ctl_9, ceq_9, cle_12, cel_12, clt_12, ctl_12, ceq_12, cle_20, cel_20, clt_20, ctl_20, ceq_20, cle_24, cel_24, clt_24, ctl_24, ceq_24, cle_25, cel_25, clt_25, ctl_25, ceq_25, cle_30, cel_30, clt_30, ctl_30, ceq_30, cle_36, cel_36, clt_36, ctl_36, ceq_36, cle_40, cel_40, clt_40, ctl_40, ceq_40, cle_41, cel_41, clt_41, ctl_41, ceq_41, cle_120, cel_120, clt_120, ctl_120, ceq_120, cle_160, cel_160, clt_160, ctl_160, ceq_160, cle_164, cel_164, clt_164, ctl_164, ceq_164, cle_500, cel_500, clt_500, ctl_500, ceq_500, cle_1000, cel_1000, clt_1000, ctl_1000, ceq_1000, ixr, ixq, ixf, neg_nI, leq_nI, lt_nI, eq_nI, cl_nI, nI_add, pk_mul]
theorem r29 {i : Nat} (hi : i < 20) : hJld (hp x iv ai aj ar pp f0) (x + 29) (nI i) = some (aj 29 i) := by rw [ra_29]; simp (disch := omega) only [mul_3, mul_4, mul_5, mul_9, mul_30, mul_160, add_1, add_2, add_3, add_4, add_5, add_6, addl_1, addl_2, addl_3, addl_4, cle_0, cel_0, clt_0, ctl_0, ceq_0, cle_1, cel_1, clt_1, ctl_1, ceq_1, cle_2, cel_2, clt_2, ctl_2, ceq_2, cle_3, cel_3, clt_3, ctl_3, ceq_3, cle_4, cel_4, clt_4, ctl_4, ceq_4, cle_5, cel_5, clt_5, ctl_5, ceq_5, cle_6, cel_6, clt_6, ctl_6, ceq_6, cle_7, cel_7, clt_7, ctl_7, ceq_7, cle_8, cel_8, clt_8, ctl_8, ceq_8, cle_9, cel_9, clt_9, ctl_9, ceq_9, cle_12, cel_12, clt_12, ctl_12, ceq_12, cle_20, cel_20, clt_20, ctl_20, ceq_20, cle_24, cel_24, clt_24, ctl_24, ceq_24, cle_25, cel_25, clt_25, ctl_25, ceq_25, cle_30, cel_30, clt_30, ctl_30, ceq_30, cle_36, cel_36, clt_36, ctl_36, ceq_36, cle_40, cel_40, clt_40, ctl_40, ceq_40, cle_41, cel_41, clt_41, ctl_41, ceq_41, cle_120, cel_120, clt_120, ctl_120, ceq_120, cle_160, cel_160, clt_160, ctl_160, ceq_160, cle_164, cel_164, clt_164, ctl_164, ceq_164, cle_500, cel_500, clt_500, ctl_500, ceq_500, cle_1000, cel_1000, clt_1000, ctl_1000, ceq_1000, ixr, ixq, ixf, neg_nI, leq_nI, lt_nI, eq_nI, cl_nI, nI_add, pk_mul]
theorem w29 {i : Nat} (hi : i < 20) (v : Int64) : hJst (hp x iv ai aj ar pp f0) (x + 29) (nI i) v = some (hp x iv ai (u2 aj 29 i v) ar pp f0) := by rw [wa_29]; simp (disch := omega) only [mul_3, mul_4, mul_5, mul_9, mul_30, mul_160, add_1, add_2, add_3, add_4, add_5, add_6, addl_1, addl_2, addl_3, addl_4, cle_0, cel_0, clt_0, ctl_0, ceq_0, cle_1, cel_1, clt_1, ctl_1, ceq_1, cle_2, cel_2, clt_2, ctl_2, ceq_2, cle_3, cel_3, clt_3, ctl_3, ceq_3, cle_4, cel_4, clt_4, ctl_4, ceq_4, cle_5, cel_5, clt_5, ctl_5, ceq_5, cle_6, cel_6, clt_6, ctl_6, ceq_6, cle_7, cel_7, clt_7, ctl_7, ceq_7, cle_8, cel_8, clt_8, ctl_8, ceq_8, cle_9, cel_9, clt_9, ctl_9, ceq_9, cle_12, cel_12, clt_12, ctl_12, ceq_12, cle_20, cel_20, clt_20, ctl_20, ceq_20, cle_24, cel_24, clt_24, ctl_24, ceq_24, cle_25, cel_25, clt_25, ctl_25, ceq_25, cle_30, cel_30, clt_30, ctl_30, ceq_30, cle_36, cel_36, clt_36, ctl_36, ceq_36, cle_40, cel_40, clt_40, ctl_40, ceq_40, cle_41, cel_41, clt_41, ctl_41, ceq_41, cle_120, cel_120, clt_120, ctl_120, ceq_120, cle_160, cel_160, clt_160, ctl_160, ceq_160, cle_164, cel_164, clt_164, ctl_164, ceq_164, cle_500, cel_500, clt_500, ctl_500, ceq_500, cle_1000, cel_1000, clt_1000, ctl_1000, ceq_1000, ixr, ixq, ixf, neg_nI, leq_nI, lt_nI, eq_nI, cl_nI, nI_add, pk_mul]
theorem m_189 {k r : Nat} {p d : Int64} (hp0 : p ≠ 0) (hkr : k < r) (hr : r < 3) (k178 : xHp → Nat → Int64 → Int32 → Int64 → Int32 → Option (Int32 × xHp)) : ∀ (w c m : Nat) (aj : Nat → Nat → Int64), k < c → c + w = 3 → w < m → L_X11_findSquares_189 k178 m (hp x iv ai aj ar pp f0) (x + 19) p (nI k) d (nI r) (nI c) = k178 (hp x iv ai (va_up aj 28 (cl1 (aj 28) k p d r c)) ar pp f0) (x + 19) p (nI k) d (nI (r + 1)) := by
  intro w
  induction w with
  | zero =>
    intro c m aj hkc hc hm
    obtain ⟨m, rfl⟩ : ∃ y, m = y + 1 := ⟨m - 1, by omega⟩
    have : c = 3 := by omega
    subst this
    show F_X11_findSquares_189 _ _ _ _ _ _ _ _ _ = _
    unfold F_X11_findSquares_189
    rw [if_pos (by decide), add_1, cl1_end, up_self]
  | succ w ih =>
    intro c m aj hkc hc hm
    obtain ⟨m, rfl⟩ : ∃ y, m = y + 1 := ⟨m - 1, by omega⟩
    show F_X11_findSquares_189 _ _ _ _ _ _ _ _ _ = _
    unfold F_X11_findSquares_189
    rw [if_neg (by rw [cle_3 (by omega)]; omega), rn_19_17, Option.bind_some, Option.bind_some, mul_3, mul_3, nI_add, nI_add, nI_add, r28 (by omega), Option.bind_some, Option.bind_some, r28 (by omega), Option.bind_some, Option.bind_some, r28 (by omega), Option.bind_some, if_neg hp0, w28 (by omega), Option.bind_some, add_1, ih (c + 1) m _ (by omega) (by omega) (by omega), u2_cc, up_u2, cl1_step hkc hkr (by omega)]
theorem m_178 {k : Nat} {p d : Int64} (hp0 : p ≠ 0) (hk : k < 3) (k9 : xHp → Nat → Int64 → Int32 → Option (Int32 × xHp)) : ∀ (w r m : Nat) (aj : Nat → Nat → Int64), k < r → r + w = 3 → w < m → L_X11_findSquares_178 k9 m (hp x iv ai aj ar pp f0) (x + 19) p (nI k) d (nI r) = k9 (hp x iv ai (va_up aj 28 (cl2 (aj 28) k p d r)) ar pp f0) (x + 19) d (nI (k + 1)) := by
  intro w
  induction w with
  | zero =>
    intro r m aj hkr hr hm
    obtain ⟨m, rfl⟩ : ∃ y, m = y + 1 := ⟨m - 1, by omega⟩
    have : r = 3 := by omega
    subst this
    show F_X11_findSquares_178 _ _ _ _ _ _ _ _ = _
    unfold F_X11_findSquares_178 F_X11_findSquares_263
    rw [if_pos (by decide), add_1, cl2_end, up_self]
  | succ w ih =>
    intro r m aj hkr hr hm
    obtain ⟨m, rfl⟩ : ∃ y, m = y + 1 := ⟨m - 1, by omega⟩
    show F_X11_findSquares_178 _ _ _ _ _ _ _ _ = _
    unfold F_X11_findSquares_178
    rw [if_neg (by rw [cle_3 (by omega)]; omega), add_1, m_189 hp0 hkr (by omega) _ (2 - k) (k + 1) xfuel aj (by omega) (by omega) (Nat.lt_of_le_of_lt (show 2 - k ≤ 2 by omega) (by decide)), ih (r + 1) m _ (by omega) (by omega) (by omega), up_at, up_up, cl2_step hkr (by omega)]
def wrS (A R : Nat → Int64) (u k c : Nat) : Nat → Int64 := fun i => if u + 2 + c ≤ i ∧ i < u + 5 then (if i - u - 2 < k then 0 else R (3 * k + (i - u - 2))) else A i
theorem m_114 {k s : Nat} {p d : Int64} (hk : k < 3) (hs : s ≤ 2) (h18 : iv 19 18 = nI s) (k9 : xHp → Nat → Int64 → Int32 → Option (Int32 × xHp)) : ∀ (w c m : Nat) (aj : Nat → Nat → Int64), c + w = 3 → w < m → L_X11_findSquares_114 k9 m (hp x iv ai aj ar pp f0) (x + 19) p (nI k) d (nI c) = L_X11_findSquares_178 k9 xfuel (hp x (u2 iv 19 18 (nI (s + 1))) ai (va_up aj 29 (wrS (aj 29) (aj 28) (5 * s) k c)) ar pp f0) (x + 19) p (nI k) d (nI (k + 1)) := by
  intro w
  induction w with
  | zero =>
    intro c m aj hc hm
    obtain ⟨m, rfl⟩ : ∃ y, m = y + 1 := ⟨m - 1, by omega⟩
    have : c = 3 := by omega
    subst this
    show F_X11_findSquares_114 _ _ _ _ _ _ _ _ = _
    unfold F_X11_findSquares_114
    have e : wrS (aj 29) (aj 28) (5 * s) k 3 = aj 29 := by
      funext i
      unfold wrS
      rw [if_neg (by omega)]
    rw [if_pos (by decide), ri_19_18, h18, Option.bind_some, add_1, wi_19_18, Option.bind_some, add_1, e, up_self]
  | succ w ih =>
    intro c m aj hc hm
    obtain ⟨m, rfl⟩ : ∃ y, m = y + 1 := ⟨m - 1, by omega⟩
    have st : ∀ v : Int64, v = (if c < k then 0 else aj 28 (3 * k + c)) → F_X11_findSquares_156 (L_X11_findSquares_114 k9 m) (hp x iv ai aj ar pp f0) (x + 19) p (nI k) d (nI c) v (nI (5 * s + 2 + c)) (x + 29) = L_X11_findSquares_178 k9 xfuel (hp x (u2 iv 19 18 (nI (s + 1))) ai (va_up aj 29 (wrS (aj 29) (aj 28) (5 * s) k c)) ar pp f0) (x + 19) p (nI k) d (nI (k + 1)) := by
      intro v hv
      unfold F_X11_findSquares_156
      rw [w29 (by omega), Option.bind_some, add_1, ih (c + 1) m _ (by omega) (by omega), u2_cc, up_u2, u2_ne _ _ _ (show 28 ≠ 29 by decide)]
      have e : wrS (va_up (aj 29) (5 * s + 2 + c) v) (aj 28) (5 * s) k (c + 1) = wrS (aj 29) (aj 28) (5 * s) k c := by
        funext i
        unfold wrS
        by_cases e1 : 5 * s + 2 + (c + 1) ≤ i ∧ i < 5 * s + 5
        · rw [if_pos e1, if_pos (show 5 * s + 2 + c ≤ i ∧ i < 5 * s + 5 by omega)]
        · rw [if_neg e1]
          by_cases e2 : i = 5 * s + 2 + c
          · rw [e2, up_at, if_pos (show 5 * s + 2 + c ≤ 5 * s + 2 + c ∧ 5 * s + 2 + c < 5 * s + 5 by omega), hv, show 5 * s + 2 + c - 5 * s - 2 = c by omega]
          · rw [up_ne _ _ e2, if_neg (show ¬ (5 * s + 2 + c ≤ i ∧ i < 5 * s + 5) by omega)]
      rw [e]
    show F_X11_findSquares_114 _ _ _ _ _ _ _ _ = _
    unfold F_X11_findSquares_114
    rw [if_neg (by rw [cle_3 (by omega)]; omega), rn_19_19, Option.bind_some, ri_19_18, h18, Option.bind_some, rn_19_17, Option.bind_some, mul_3, nI_add, r28 (by omega), Option.bind_some, mul_5, add_2, nI_add]
    by_cases hkc : k ≤ c
    · rw [if_pos (show nI k ≤ nI c by rw [leq_nI (by omega) (by omega)]; exact hkc)]
      exact st _ (by rw [if_neg (by omega)])
    · rw [if_neg (show ¬ nI k ≤ nI c by rw [leq_nI (by omega) (by omega)]; exact hkc)]
      exact st _ (by rw [if_pos (by omega)])
theorem m_45 {k : Nat} {p : Int64} {R : Nat → Int64} (hk : k < 3) (hR : ∀ i, i < 9 → aj 28 i = R i) (k9 : xHp → Nat → Int64 → Int32 → Option (Int32 × xHp)) : L_X11_findSquares_45 k9 xfuel (hp x iv ai aj ar pp f0) (x + 19) p (nI k) (nI (k + 1)) = if bhd R k = true then some (0, hp x iv ai aj ar pp f0) else k9 (hp x iv ai aj ar pp f0) (x + 19) p (nI (k + 1)) := by
  have loop : ∀ (w c m : Nat), k < c → c + w = 3 → w < m → ((∃ j, c ≤ j ∧ j < 3 ∧ R (3 * k + j) ≠ 0) → L_X11_findSquares_45 k9 m (hp x iv ai aj ar pp f0) (x + 19) p (nI k) (nI c) = some (0, hp x iv ai aj ar pp f0)) ∧ ((¬ ∃ j, c ≤ j ∧ j < 3 ∧ R (3 * k + j) ≠ 0) → L_X11_findSquares_45 k9 m (hp x iv ai aj ar pp f0) (x + 19) p (nI k) (nI c) = k9 (hp x iv ai aj ar pp f0) (x + 19) p (nI (k + 1))) := by
    intro w
    induction w with
    | zero =>
      intro c m hkc hc hm
      obtain ⟨m, rfl⟩ : ∃ y, m = y + 1 := ⟨m - 1, by omega⟩
      have : c = 3 := by omega
      subst this
      refine ⟨fun ⟨j, a1, a2, _⟩ => absurd a2 (by omega), fun _ => ?_⟩
      show F_X11_findSquares_45 _ _ _ _ _ _ _ = _
      unfold F_X11_findSquares_45 F_X11_findSquares_263
      rw [if_pos (by decide), add_1]
    | succ w ih =>
      intro c m hkc hc hm
      obtain ⟨m, rfl⟩ : ∃ y, m = y + 1 := ⟨m - 1, by omega⟩
      have e1 : L_X11_findSquares_45 k9 (m + 1) (hp x iv ai aj ar pp f0) (x + 19) p (nI k) (nI c) = if R (3 * k + c) = 0 then L_X11_findSquares_45 k9 m (hp x iv ai aj ar pp f0) (x + 19) p (nI k) (nI (c + 1)) else some (0, hp x iv ai aj ar pp f0) := by
        show F_X11_findSquares_45 _ _ _ _ _ _ _ = _
        unfold F_X11_findSquares_45
        rw [if_neg (by rw [cle_3 (by omega)]; omega), rn_19_17, Option.bind_some, mul_3, nI_add, r28 (by omega), Option.bind_some, add_1, hR _ (by omega)]
      rw [e1]
      obtain ⟨i1, i2⟩ := ih (c + 1) m (by omega) (by omega) (by omega)
      by_cases h0 : R (3 * k + c) = 0
      · rw [if_pos h0]
        refine ⟨fun ⟨j, a1, a2, a3⟩ => i1 ⟨j, ?_, a2, a3⟩, fun h => i2 (fun ⟨j, a1, a2, a3⟩ => h ⟨j, by omega, a2, a3⟩)⟩
        by_cases ej : j = c
        · rw [ej] at a3; exact absurd h0 a3
        · omega
      · rw [if_neg h0]
        exact ⟨fun _ => rfl, fun h => absurd ⟨c, Nat.le_refl _, by omega, h0⟩ h⟩
  obtain ⟨l1, l2⟩ := loop (2 - k) (k + 1) xfuel (by omega) (by omega) (Nat.lt_of_le_of_lt (show 2 - k ≤ 2 by omega) (by decide))
  by_cases h : bhd R k = true
  · rw [if_pos h]
    obtain ⟨c, a1, a2, a3⟩ := bhd_t.mp h
    exact l1 ⟨c, by omega, a2, a3⟩
  · rw [if_neg h]
    exact l2 (fun ⟨j, a1, a2, a3⟩ => h (bhd_t.mpr ⟨j, by omega, a2, a3⟩))
def Ks (iv iv' : Nat → Nat → Int32) (aj aj' : Nat → Nat → Int64) : Prop := (∀ k, k ≠ 19 → iv' k = iv k) ∧ (∀ s, s ≠ 18 → iv' 19 s = iv 19 s) ∧ ∀ k, k ≠ 28 → k ≠ 29 → aj' k = aj k
theorem Ks.trans {iv iv' iv2 : Nat → Nat → Int32} {aj aj' aj2 : Nat → Nat → Int64} (h : Ks iv iv' aj aj') (h2 : Ks iv' iv2 aj' aj2) : Ks iv iv2 aj aj2 := ⟨fun k a => (h2.1 k a).trans (h.1 k a), fun s a => (h2.2.1 s a).trans (h.2.1 s a), fun k a b => (h2.2.2 k a b).trans (h.2.2 k a b)⟩
theorem m_sq_loop : ∀ (w k m s : Nat) (iv : Nat → Nat → Int32) (aj : Nat → Nat → Int64) (R : Nat → Int64) (ns : List Int64) (p : Int64), k + w = 3 → w < m → (∀ i, i < 9 → aj 28 i = R i) → (∀ i, i < ns.length → aj 29 i = ns.getD i 0) → iv 19 18 = nI s → ns.length = 5 * s → s ≤ k → 0 < p →
    (sqN w k R ns p = none ∧ ∃ iv' aj', L_X11_findSquares_9 m (hp x iv ai aj ar pp f0) (x + 19) p (nI k) = some (0, hp x iv' ai aj' ar pp f0) ∧ Ks iv iv' aj aj') ∨
    ∃ ns' iv' aj' s', sqN w k R ns p = some ns' ∧ L_X11_findSquares_9 m (hp x iv ai aj ar pp f0) (x + 19) p (nI k) = some (1, hp x iv' ai aj' ar pp f0) ∧ Ks iv iv' aj aj' ∧ (∀ i, i < ns'.length → aj' 29 i = ns'.getD i 0) ∧ iv' 19 18 = nI s' ∧ ns'.length = 5 * s' ∧ s' ≤ 3 := by
  intro w
  induction w with
  | zero =>
    intro k m s iv aj R ns p hk hm hR hN h18 hl hs hp0
    obtain ⟨m, rfl⟩ : ∃ y, m = y + 1 := ⟨m - 1, by omega⟩
    have : k = 3 := by omega
    subst this
    refine Or.inr ⟨ns, iv, aj, s, rfl, ?_, ⟨fun _ _ => rfl, fun _ _ => rfl, fun _ _ _ => rfl⟩, hN, h18, hl, hs⟩
    show F_X11_findSquares_9 _ _ _ _ _ = _
    unfold F_X11_findSquares_9
    rw [if_pos (by decide)]
  | succ w ih =>
    intro k m s iv aj R ns p hk hm hR hN h18 hl hs hp0
    obtain ⟨m, rfl⟩ : ∃ y, m = y + 1 := ⟨m - 1, by omega⟩
    have hp1 : p ≠ 0 := fun h => by rw [h] at hp0; exact absurd hp0 (by decide)
    have ef : L_X11_findSquares_9 (m + 1) (hp x iv ai aj ar pp f0) (x + 19) p (nI k) = if 0 ≤ R (4 * k) then (if R (4 * k) = 0 then (if bhd R k = true then some (0, hp x iv ai aj ar pp f0) else L_X11_findSquares_9 m (hp x iv ai aj ar pp f0) (x + 19) p (nI (k + 1))) else L_X11_findSquares_9 m (hp x (u2 iv 19 18 (nI (s + 1))) ai (va_up (va_up (u2 (u2 aj 29 (5 * s) 1) 29 (5 * s + 1) (2 * p * R (4 * k))) 29 (wrS (va_up (va_up (aj 29) (5 * s) 1) (5 * s + 1) (2 * p * R (4 * k))) (aj 28) (5 * s) k 0)) 28 (clr (aj 28) k p (R (4 * k)))) ar pp f0) (x + 19) (R (4 * k)) (nI (k + 1))) else some (0, hp x iv ai aj ar pp f0) := by
      show F_X11_findSquares_9 _ _ _ _ _ = _
      unfold F_X11_findSquares_9
      rw [if_neg (by rw [cle_3 (by omega)]; omega), rn_19_17, Option.bind_some, mul_4, r28 (by omega), Option.bind_some, hR _ (by omega), add_1, m_45 (by omega) hR, rn_19_19, Option.bind_some, ri_19_18, h18, Option.bind_some, mul_5, w29 (by omega), Option.bind_some, rn_19_19, Option.bind_some, ri_19_18, h18, Option.bind_some, mul_5, add_1, w29 (by omega), Option.bind_some, show (0 : Int32) = nI 0 from rfl, m_114 (by omega) (by omega) h18 _ 3 0 xfuel _ (by omega) (by decide), m_178 hp1 (by omega) _ (2 - k) (k + 1) xfuel _ (by omega) (by omega) (Nat.lt_of_le_of_lt (show 2 - k ≤ 2 by omega) (by decide)), up_ne _ _ (show 28 ≠ 29 by decide), u2_ne _ _ _ (show 28 ≠ 29 by decide), u2_ne _ _ _ (show 28 ≠ 29 by decide), u2_cc, u2_cc]
      rfl
    have es : sqN (w + 1) k R ns p = if R (4 * k) < 0 then none else if R (4 * k) = 0 then (if bhd R k = true then none else sqN w (k + 1) R ns p) else sqN w (k + 1) (clr R k p (R (4 * k))) (ns ++ sqRow R k p (R (4 * k))) (R (4 * k)) := rfl
    rw [ef, es]
    by_cases h1 : R (4 * k) < 0
    · rw [if_pos h1, if_neg (Int64.not_le.mpr h1)]
      exact Or.inl ⟨rfl, iv, aj, rfl, fun _ _ => rfl, fun _ _ => rfl, fun _ _ _ => rfl⟩
    rw [if_neg h1, if_pos (Int64.not_lt.mp h1)]
    by_cases h2 : R (4 * k) = 0
    · rw [if_pos h2, if_pos h2]
      by_cases h3 : bhd R k = true
      · rw [if_pos h3, if_pos h3]
        exact Or.inl ⟨rfl, iv, aj, rfl, fun _ _ => rfl, fun _ _ => rfl, fun _ _ _ => rfl⟩
      · rw [if_neg h3, if_neg h3]
        exact ih (k + 1) m s iv aj R ns p (by omega) (by omega) hR hN h18 hl (by omega) hp0
    · rw [if_neg h2, if_neg h2]
      have hd0 : 0 < R (4 * k) := by
        have g1 := Int64.le_iff_toInt_le.mp (Int64.not_lt.mp h1)
        refine Int64.lt_iff_toInt_lt.mpr ?_
        have g2 : (R (4 * k)).toInt ≠ (0 : Int64).toInt := fun e => h2 (Int64.toInt_inj.mp e)
        omega
      generalize hd : R (4 * k) = d at h1 h2 hd0
      have hlen : (ns ++ sqRow R k p d).length = ns.length + 5 := by rw [List.length_append]; rfl
      generalize haj : (va_up (va_up (u2 (u2 aj 29 (5 * s) 1) 29 (5 * s + 1) (2 * p * d)) 29 (wrS (va_up (va_up (aj 29) (5 * s) 1) (5 * s + 1) (2 * p * d)) (aj 28) (5 * s) k 0)) 28 (clr (aj 28) k p d)) = aj1
      have j28 : aj1 28 = clr (aj 28) k p d := by rw [← haj, up_at]
      have j29 : aj1 29 = wrS (va_up (va_up (aj 29) (5 * s) 1) (5 * s + 1) (2 * p * d)) (aj 28) (5 * s) k 0 := by rw [← haj, up_ne _ _ (by decide), up_at]
      have jk : ∀ q, q ≠ 28 → q ≠ 29 → aj1 q = aj q := fun q a1 a2 => by rw [← haj, up_ne _ _ a1, up_ne _ _ a2, u2_ne _ _ _ a2, u2_ne _ _ _ a2]
      have ks : Ks iv (u2 iv 19 18 (nI (s + 1))) aj aj1 := ⟨fun k hk => u2_ne _ _ _ hk, fun s hs => u2_nt _ _ hs, jk⟩
      have hN2 : ∀ i, i < (ns ++ sqRow R k p d).length → aj1 29 i = (ns ++ sqRow R k p d).getD i 0 := by
        intro i hi
        rw [hlen] at hi
        rw [getD_row, j29, hl]
        unfold wrS
        by_cases c1 : i < 5 * s
        · rw [if_pos c1, if_neg (show ¬ (5 * s + 2 + 0 ≤ i ∧ i < 5 * s + 5) by omega), up_ne _ _ (by omega), up_ne _ _ (by omega), hN i (by omega)]
        rw [if_neg c1]
        by_cases c2 : i = 5 * s
        · rw [if_pos c2, if_neg (show ¬ (5 * s + 2 + 0 ≤ i ∧ i < 5 * s + 5) by omega), up_ne _ _ (by omega), c2, up_at]
        rw [if_neg c2]
        by_cases c3 : i = 5 * s + 1
        · rw [if_pos c3, if_neg (show ¬ (5 * s + 2 + 0 ≤ i ∧ i < 5 * s + 5) by omega), c3, up_at]
        rw [if_neg c3, if_pos (show 5 * s + 2 + 0 ≤ i ∧ i < 5 * s + 5 by omega), if_pos (show i < 5 * s + 5 by omega)]
        by_cases c5 : i - 5 * s - 2 < k
        · rw [if_pos c5, if_pos c5]
        · rw [if_neg c5, if_neg c5, hR _ (by omega)]
      rcases ih (k + 1) m (s + 1) (u2 iv 19 18 (nI (s + 1))) aj1 (clr R k p d) (ns ++ sqRow R k p d) d (by omega) (by omega) (fun i hi => by rw [j28]; exact clr_eq hR (by omega) _ _ i hi) hN2 (u2_tt _ _ _ _) (by rw [hlen]; omega) (by omega) hd0 with ⟨s1, iv', aj', s2, s3⟩ | ⟨ns', iv', aj', s', s1, s2, s3, s4, s5, s6, s7⟩
      · exact Or.inl ⟨s1, iv', aj', s2, ks.trans s3⟩
      · exact Or.inr ⟨ns', iv', aj', s', s1, s2, ks.trans s3, s4, s5, s6, s7⟩
/-! forms -/
def fm (x2 xy xx y2 y o : Int64) (i : Nat) : Int64 := if i = 0 then 2 * x2 else if i = 1 then xy else if i = 2 then xx else if i = 3 then xy else if i = 4 then 2 * y2 else if i = 5 then y else if i = 6 then xx else if i = 7 then y else 2 * o
theorem m_layForm (x2 xy xx y2 y o : Int64) : ∃ aj', F_X11_layForm (hp x iv ai aj ar pp f0) (x + 19) x2 xy xx y2 y o = some (hp x iv ai aj' ar pp f0) ∧ (∀ i, i < 9 → aj' 28 i = fm x2 xy xx y2 y o i) ∧ ∀ k, k ≠ 28 → aj' k = aj k := by
  refine ⟨u2 (u2 (u2 (u2 (u2 (u2 (u2 (u2 (u2 aj 28 0 (2 * x2)) 28 1 xy) 28 2 xx) 28 3 xy) 28 4 (2 * y2)) 28 5 y) 28 6 xx) 28 7 y) 28 8 (2 * o), ?_, fun i hi => ?_, fun k hk => ?_⟩
  · unfold F_X11_layForm
    simp only [rn_19_17, Option.bind_some, show (0 : Int32) = nI 0 from rfl, show (1 : Int32) = nI 1 from rfl, show (2 : Int32) = nI 2 from rfl, show (3 : Int32) = nI 3 from rfl, show (4 : Int32) = nI 4 from rfl, show (5 : Int32) = nI 5 from rfl, show (6 : Int32) = nI 6 from rfl, show (7 : Int32) = nI 7 from rfl, show (8 : Int32) = nI 8 from rfl, w28 (show 0 < 9 by decide), w28 (show 1 < 9 by decide), w28 (show 2 < 9 by decide), w28 (show 3 < 9 by decide), w28 (show 4 < 9 by decide), w28 (show 5 < 9 by decide), w28 (show 6 < 9 by decide), w28 (show 7 < 9 by decide), w28 (show 8 < 9 by decide)]
  · rcases (show i = 0 ∨ i = 1 ∨ i = 2 ∨ i = 3 ∨ i = 4 ∨ i = 5 ∨ i = 6 ∨ i = 7 ∨ i = 8 by omega) with rfl | rfl | rfl | rfl | rfl | rfl | rfl | rfl | rfl <;> rfl
  · rw [u2_ne _ _ _ hk, u2_ne _ _ _ hk, u2_ne _ _ _ hk, u2_ne _ _ _ hk, u2_ne _ _ _ hk, u2_ne _ _ _ hk, u2_ne _ _ _ hk, u2_ne _ _ _ hk, u2_ne _ _ _ hk]
theorem s_formNumber {a i : Nat} {g : Nat → Int64} (h : pcell x f0 a g) (hi : i < 9) : F_X4_formNumber (hp x iv ai aj ar pp f0) a (nI (i / 3)) (nI (i % 3)) = some (fm (g 6) (g 4) (g 3) (g 2) (g 1) (g 0) i) := by
  obtain ⟨b, h1, h2, h3, h4⟩ := h
  have n1 : hN (hp x iv ai aj ar pp f0) a [(4, 0)] = some b := (dN h1 _).trans (fN h3 rfl rfl)
  have ld : ∀ t, t < 9 → hJld (hp x iv ai aj ar pp f0) b (nI t) = some (g t) := fun t ht => dld h2 h4 ht (by decide)
  have st : ∀ t : Nat, hSt 1 (nI i) = some (nI t) → t < 9 → F_X4_formNumber (hp x iv ai aj ar pp f0) a (nI (i / 3)) (nI (i % 3)) = if i / 3 = i % 3 then some (2 * g t) else some (g t) := by
    intro t h5 h6
    unfold F_X4_formNumber
    rw [n1, Option.bind_some, mul_3, nI_add, show 3 * (i / 3) + i % 3 = i by omega, h5, Option.bind_some, ld t h6, Option.bind_some]
    by_cases e : i / 3 = i % 3
    · rw [if_pos e, if_pos (show nI (i / 3) = nI (i % 3) by rw [e])]
    · rw [if_neg e, if_neg (show ¬ nI (i / 3) = nI (i % 3) by rw [eq_nI (by omega) (by omega)]; exact e)]
  rcases (show i = 0 ∨ i = 1 ∨ i = 2 ∨ i = 3 ∨ i = 4 ∨ i = 5 ∨ i = 6 ∨ i = 7 ∨ i = 8 by omega) with rfl | rfl | rfl | rfl | rfl | rfl | rfl | rfl | rfl
  · exact st 6 rfl (by decide)
  · exact st 4 rfl (by decide)
  · exact st 3 rfl (by decide)
  · exact st 4 rfl (by decide)
  · exact st 2 rfl (by decide)
  · exact st 1 rfl (by decide)
  · exact st 3 rfl (by decide)
  · exact st 1 rfl (by decide)
  · exact st 0 rfl (by decide)
theorem s_isForm {a : Nat} {g : Nat → Int64} (h : pcell x f0 a g) : F_X4_isForm (hp x iv ai aj ar pp f0) a = some (if g 5 = 0 ∧ g 7 = 0 ∧ g 8 = 0 then 1 else 0) := by
  obtain ⟨b, h1, h2, h3, h4⟩ := h
  have n1 : hN (hp x iv ai aj ar pp f0) a [(4, 0)] = some b := (dN h1 _).trans (fN h3 rfl rfl)
  have l5 : hJld (hp x iv ai aj ar pp f0) b 5 = some (g 5) := dld (i := 5) h2 h4 (by decide) (by decide)
  have l7 : hJld (hp x iv ai aj ar pp f0) b 7 = some (g 7) := dld (i := 7) h2 h4 (by decide) (by decide)
  have l8 : hJld (hp x iv ai aj ar pp f0) b 8 = some (g 8) := dld (i := 8) h2 h4 (by decide) (by decide)
  unfold F_X4_isForm
  simp only [n1, Option.bind_some, l5, l7, l8]
  by_cases e5 : g 5 = 0
  · by_cases e7 : g 7 = 0
    · by_cases e8 : g 8 = 0
      · rw [if_pos e5, if_pos e7, if_pos e8, if_pos ⟨e5, e7, e8⟩]
      · rw [if_pos e5, if_pos e7, if_neg e8, if_neg (fun q => e8 q.2.2)]
    · rw [if_pos e5, if_neg e7, if_neg (fun q => e7 q.2.1)]
  · rw [if_neg e5, if_neg (fun q => e5 q.1)]
theorem m_hasOther {p : Nat} (hp1 : p < 30) : F_X11_hasOther (hp x iv ai aj ar pp f0) (x + 19) (nI p) = some (if Tm (aj 23) p 5 = 0 ∧ Tm (aj 23) p 7 = 0 ∧ Tm (aj 23) p 8 = 0 then 0 else 1) := by
  have l5 : F_X11_termOf (hp x iv ai aj ar pp f0) (x + 19) (nI p) 5 = some (Tm (aj 23) p 5) := m_termOf (t := 5) hp1 (by decide)
  have l7 : F_X11_termOf (hp x iv ai aj ar pp f0) (x + 19) (nI p) 7 = some (Tm (aj 23) p 7) := m_termOf (t := 7) hp1 (by decide)
  have l8 : F_X11_termOf (hp x iv ai aj ar pp f0) (x + 19) (nI p) 8 = some (Tm (aj 23) p 8) := m_termOf (t := 8) hp1 (by decide)
  unfold F_X11_hasOther F_X11_hasOther_35
  simp only [rk_19, if_true, Option.bind_some, l5, l7, l8]
  by_cases e5 : Tm (aj 23) p 5 = 0
  · by_cases e7 : Tm (aj 23) p 7 = 0
    · by_cases e8 : Tm (aj 23) p 8 = 0
      · rw [if_pos e5, if_pos e7, if_pos e8, if_pos ⟨e5, e7, e8⟩]
      · rw [if_pos e5, if_pos e7, if_neg e8, if_neg (fun q => e8 q.2.2)]
    · rw [if_pos e5, if_neg e7, if_neg (fun q => e7 q.2.1)]
  · rw [if_neg e5, if_neg (fun q => e5 q.1)]
end MSQ

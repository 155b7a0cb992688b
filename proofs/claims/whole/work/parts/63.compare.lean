/-! check of parts: the numbers against the parts found again, and what is saved and put back -/
theorem no_le {a b : Nat} (ha : a < 2147483648) (hb : b < a) : ¬ nI a ≤ nI b := by
  rw [leq_nI ha (by omega)]; omega
theorem ok_le {a b : Nat} (hb : b < 2147483648) (h : a ≤ b) : nI a ≤ nI b := by
  rw [leq_nI (by omega) hb]; exact h
section COMPARE
variable {H : xHp} {L : Nat} {G : Nat → Int64} {V : Nat → Int32}
theorem cmp_s {a b c d : Nat} (hL : L ≤ 40) (n1 : hN H a [(3, 5)] = some b) (n2 : hLen H b = some (nI (4 * L))) (n3 : ∀ i, i < 4 * L → hJld H b (nI i) = some (G i)) (n4 : hN H c [(2, 0)] = some d) (n5 : ∀ i, i < 4 * L → hIld H d (nI i) = some (V i)) {u : Nat} (hu : u < L) : ∀ (w r m : Nat), r + w = 4 → w < m → ((∀ k, r ≤ k → k < 4 → G (4 * u + k) = (V (4 * u + k)).toInt64) → L_X3_firstWrong_28 m H a c (nI (4 * u + r)) = L_X3_firstWrong_28 (m - w) H a c (nI (4 * (u + 1)))) ∧ ((¬ ∀ k, r ≤ k → k < 4 → G (4 * u + k) = (V (4 * u + k)).toInt64) → L_X3_firstWrong_28 m H a c (nI (4 * u + r)) = some (nI u, H)) := by
  intro w
  induction w with
  | zero =>
    intro r m hr hm
    have : r = 4 := by omega
    subst this
    exact ⟨fun _ => rfl, fun h => absurd (fun k a b => absurd b (by omega)) h⟩
  | succ w ih =>
    intro r m hr hm
    obtain ⟨m, rfl⟩ : ∃ y, m = y + 1 := ⟨m - 1, by omega⟩
    obtain ⟨i1, i2⟩ := ih (r + 1) m (by omega) (by omega)
    have e : L_X3_firstWrong_28 (m + 1) H a c (nI (4 * u + r)) = if G (4 * u + r) = (V (4 * u + r)).toInt64 then L_X3_firstWrong_28 m H a c (nI (4 * u + (r + 1))) else some (nI u, H) := by
      show F_X3_firstWrong_28 _ _ _ _ _ = _
      unfold F_X3_firstWrong_28
      rw [n1, Option.bind_some, n2, Option.bind_some, if_neg (no_le (by omega) (by omega)), Option.bind_some, n3 _ (by omega), Option.bind_some, n4, Option.bind_some, n5 _ (by omega), Option.bind_some, add_1, div_4 (by omega), show (4 * u + r) / 4 = u by omega, show 4 * u + r + 1 = 4 * u + (r + 1) by omega]
    rw [e, show m + 1 - (w + 1) = m - w by omega]
    by_cases h : G (4 * u + r) = (V (4 * u + r)).toInt64
    · rw [if_pos h]
      refine ⟨fun q => i1 (fun k a b => q k (by omega) b), fun q => i2 (fun p => q (fun k a b => ?_))⟩
      by_cases ek : k = r
      · rw [ek]; exact h
      · exact p k (by omega) b
    · rw [if_neg h]
      exact ⟨fun q => absurd (q r (Nat.le_refl _) (by omega)) h, fun _ => rfl⟩
theorem cmp_m {o d : Nat} {qq v1 v2 v3 v4 : Int32} {k129 : xHp → Nat → Int32 → Int32 → Int32 → Int32 → Int32 → Int32 → Int32 → Int32 → Option (Int32 × xHp)} (hL : L ≤ 40) (kd : hKd H o = some 10) (p1 : ∀ i, i < 4 * L → F_X11_proofNumber H o qq (nI i) = some (G i)) (p2 : hN H o [(10, 13)] = some d) (p3 : ∀ i, i < 4 * L → hIld H d (nI i) = some (V i)) {u : Nat} (hu : u < L) : ∀ (w r m : Nat), r + w = 4 → w < m → ((∀ k, r ≤ k → k < 4 → G (4 * u + k) = (V (4 * u + k)).toInt64) → L_X11_checkParts_173 k129 m H o qq v1 v2 v3 v4 (nI L) (nI u) 1 (nI r) = k129 H o qq v1 v2 v3 v4 (-9) (nI L) (nI (u + 1))) ∧ ((¬ ∀ k, r ≤ k → k < 4 → G (4 * u + k) = (V (4 * u + k)).toInt64) → L_X11_checkParts_173 k129 m H o qq v1 v2 v3 v4 (nI L) (nI u) 1 (nI r) = k129 H o qq v1 v2 v3 v4 (nI u) (nI L) (nI (u + 1))) := by
  intro w
  induction w with
  | zero =>
    intro r m hr hm
    obtain ⟨m, rfl⟩ : ∃ y, m = y + 1 := ⟨m - 1, by omega⟩
    have : r = 4 := by omega
    subst this
    refine ⟨fun _ => ?_, fun h => absurd (fun k a b => absurd b (by omega)) h⟩
    show F_X11_checkParts_173 _ _ _ _ _ _ _ _ _ _ _ _ _ = _
    unfold F_X11_checkParts_173 F_X11_checkParts_226 F_X11_checkParts_238
    rw [if_pos (show (4 : Int32) ≤ nI 4 by decide), if_neg e10, add_1]
  | succ w ih =>
    intro r m hr hm
    obtain ⟨m, rfl⟩ : ∃ y, m = y + 1 := ⟨m - 1, by omega⟩
    obtain ⟨i1, i2⟩ := ih (r + 1) m (by omega) (by omega)
    have h4 : ¬ (4 : Int32) ≤ nI r := no_le (a := 4) (by omega) (by omega)
    have z0 : L_X11_checkParts_173 k129 m H o qq v1 v2 v3 v4 (nI L) (nI u) 0 (nI (r + 1)) = k129 H o qq v1 v2 v3 v4 (nI u) (nI L) (nI (u + 1)) := by
      obtain ⟨m', rfl⟩ : ∃ y, m = y + 1 := ⟨m - 1, by omega⟩
      show F_X11_checkParts_173 _ _ _ _ _ _ _ _ _ _ _ _ _ = _
      unfold F_X11_checkParts_173 F_X11_checkParts_226 F_X11_checkParts_238
      rw [if_pos (show (0 : Int32) = 0 from rfl), if_pos (show (0 : Int32) = 0 from rfl), add_1, ite_self]
    have e : L_X11_checkParts_173 k129 (m + 1) H o qq v1 v2 v3 v4 (nI L) (nI u) 1 (nI r) = if G (4 * u + r) = (V (4 * u + r)).toInt64 then L_X11_checkParts_173 k129 m H o qq v1 v2 v3 v4 (nI L) (nI u) 1 (nI (r + 1)) else L_X11_checkParts_173 k129 m H o qq v1 v2 v3 v4 (nI L) (nI u) 0 (nI (r + 1)) := by
      show F_X11_checkParts_173 _ _ _ _ _ _ _ _ _ _ _ _ _ = _
      unfold F_X11_checkParts_173 F_X11_checkParts_218
      rw [if_neg h4, if_neg e10, if_pos kd, mul_4, nI_add, p1 _ (by omega), Option.bind_some, p2, Option.bind_some, p3 _ (by omega), Option.bind_some, add_1]
    rw [e]
    by_cases h : G (4 * u + r) = (V (4 * u + r)).toInt64
    · rw [if_pos h]
      refine ⟨fun q => i1 (fun k a b => q k (by omega) b), fun q => i2 (fun p => q (fun k a b => ?_))⟩
      by_cases ek : k = r
      · rw [ek]; exact h
      · exact p k (by omega) b
    · rw [if_neg h]
      exact ⟨fun q => absurd (q r (Nat.le_refl _) (by omega)) h, fun _ => z0⟩
theorem cmp_both {H2 : xHp} {a b c d o d2 d3 : Nat} {qq v1 v2 v3 v4 : Int32} (hL : L ≤ 40) (n1 : hN H a [(3, 5)] = some b) (n2 : hLen H b = some (nI (4 * L))) (n3 : ∀ i, i < 4 * L → hJld H b (nI i) = some (G i)) (n4 : hN H c [(2, 0)] = some d) (n5 : ∀ i, i < 4 * L → hIld H d (nI i) = some (V i)) (kd : hKd H2 o = some 10) (p1 : ∀ i, i < 4 * L → F_X11_proofNumber H2 o qq (nI i) = some (G i)) (p2 : hN H2 o [(10, 13)] = some d2) (p3 : ∀ i, i < 4 * L → hIld H2 d2 (nI i) = some (V i)) (p4 : hI H2 o [(10, 12)] = some (nI L)) (p5 : hN H2 o [(10, 14)] = some d3) (p6 : ∀ i, i < L → hIld H2 d3 (nI i) = some 1) : ∀ (w u m m' : Nat), u + w = L → 4 * w < m → w + 1 < m' → ∃ r a7 : Int32, L_X3_firstWrong_28 m H a c (nI (4 * u)) = some (r, H) ∧ L_X11_checkParts_129 m' H2 o qq v1 v2 v3 v4 (-9) (nI L) (nI u) = F_X11_checkParts_266 H2 o v1 v2 v3 v4 a7 ∧ (if 0 ≤ r then -20 - r else 1) = (if a7 = -9 then 1 else -20 - a7) := by
  intro w
  induction w with
  | zero =>
    intro u m m' hu hm hm'
    obtain ⟨m, rfl⟩ : ∃ y, m = y + 1 := ⟨m - 1, by omega⟩
    obtain ⟨m', rfl⟩ : ∃ y, m' = y + 1 := ⟨m' - 1, by omega⟩
    have : u = L := by omega
    subst this
    refine ⟨-1, -9, ?_, ?_, by decide⟩
    · show F_X3_firstWrong_28 _ _ _ _ _ = _
      unfold F_X3_firstWrong_28
      rw [n1, Option.bind_some, n2, Option.bind_some, if_pos (ok_le (by omega) (Nat.le_refl _))]
    · show F_X11_checkParts_129 _ _ _ _ _ _ _ _ _ _ _ = _
      unfold F_X11_checkParts_129 F_X11_checkParts_246
      rw [if_pos (ok_le (by omega) (Nat.le_refl _)), if_pos (show (-9 : Int32) = -9 from rfl), p4, Option.bind_some, if_pos (ok_le (by omega) (Nat.le_refl _))]
  | succ w ih =>
    intro u m m' hu hm hm'
    obtain ⟨m', rfl⟩ : ∃ y, m' = y + 1 := ⟨m' - 1, by omega⟩
    obtain ⟨c1, c2⟩ := cmp_s hL n1 n2 n3 n4 n5 (show u < L by omega) 4 0 m (by omega) (by omega)
    obtain ⟨d1, d2'⟩ := cmp_m (k129 := L_X11_checkParts_129 m') (v1 := v1) (v2 := v2) (v3 := v3) (v4 := v4) hL kd p1 p2 p3 (show u < L by omega) 4 0 xfuel (by omega) (by decide)
    have e : L_X11_checkParts_129 (m' + 1) H2 o qq v1 v2 v3 v4 (-9) (nI L) (nI u) = L_X11_checkParts_173 (L_X11_checkParts_129 m') xfuel H2 o qq v1 v2 v3 v4 (nI L) (nI u) 1 (nI 0) := by
      show F_X11_checkParts_129 _ _ _ _ _ _ _ _ _ _ _ = _
      unfold F_X11_checkParts_129 F_X11_checkParts_168
      rw [if_neg (no_le (by omega) (by omega)), if_pos (show (-9 : Int32) = -9 from rfl), p4, Option.bind_some, if_neg (no_le (by omega) (by omega)), p5, Option.bind_some, p6 _ (by omega), Option.bind_some, if_pos (show (1 : Int32) = 1 from rfl)]
      rfl
    rw [e]
    by_cases h : ∀ k, 0 ≤ k → k < 4 → G (4 * u + k) = (V (4 * u + k)).toInt64
    · obtain ⟨r, a7, r1, r2, r3⟩ := ih (u + 1) (m - 4) m' (by omega) (by omega) (by omega)
      exact ⟨r, a7, (c1 h).trans r1, (d1 h).trans r2, r3⟩
    · refine ⟨nI u, nI u, c2 h, (d2' h).trans ?_, ?_⟩
      · obtain ⟨m', rfl⟩ : ∃ y, m' = y + 1 := ⟨m' - 1, by omega⟩
        have h9 : ¬ nI u = -9 := nI_n9 (by omega)
        show F_X11_checkParts_129 _ _ _ _ _ _ _ _ _ _ _ = _
        unfold F_X11_checkParts_129 F_X11_checkParts_246
        rw [if_neg h9, if_neg h9, ite_self]
      · rw [if_pos (nn_9 (by omega)), if_neg (nI_n9 (by omega))]
end COMPARE
/-- row D with places t to n from S -/
def frm (S D : Nat → Int32) (n t : Nat) : Nat → Int32 := fun j => if t ≤ j ∧ j < n then S j else D j
theorem frm_0 {S D : Nat → Int32} {n : Nat} : frm S D n n = D := by
  funext j
  exact if_neg (by omega)
theorem frm_s {S D : Nat → Int32} {n t : Nat} (h : t < n) : frm S (va_up D t (S t)) n (t + 1) = frm S D n t := by
  funext j
  unfold frm
  by_cases h1 : j = t
  · rw [if_neg (by omega), if_pos (by omega), h1, up_at]
  · by_cases h2 : t + 1 ≤ j ∧ j < n
    · rw [if_pos h2, if_pos (by omega)]
    · rw [if_neg h2, if_neg (by omega), up_ne _ _ h1]
theorem frm_in {S D : Nat → Int32} {n j : Nat} (h : j < n) : frm S D n 0 j = S j := if_pos ⟨Nat.zero_le _, h⟩
section SAVE
variable {x : Nat} {iv : Nat → Nat → Int32} {aj : Nat → Nat → Int64} {ar : Nat → Nat → Option Nat} {pp : Nat → Option Nat} {f0 : xHp}
theorem sv_up {ai : Nat → Nat → Int32} {c d n t : Nat} (hcd : d ≠ c) (ht : t < n) : va_up (u2 ai c t (ai d t)) c (frm (u2 ai c t (ai d t) d) (u2 ai c t (ai d t) c) n (t + 1)) = va_up ai c (frm (ai d) (ai c) n t) := by
  rw [u2_ne _ _ _ hcd, u2_cc, frm_s ht]
  funext k
  by_cases hk : k = c
  · rw [hk, up_at, up_at]
  · rw [up_ne _ _ hk, up_ne _ _ hk, u2_ne _ _ _ hk]
theorem r39 {ai : Nat → Nat → Int32} {i : Nat} (hi : i < 164) : hIld (hp x iv ai aj ar pp f0) (x + 39) (nI i) = some (ai 39 i) := by rw [ra_39]; simp (disch := omega) only [mul_3, mul_4, mul_5, mul_9, mul_30, mul_160, add_1, add_2, add_3, add_4, add_5, add_6, addl_1, addl_2, addl_3, addl_4, cle_0, cel_0, clt_0, ctl_0, ceq_0, cle_1, cel_1, clt_1, ctl_1, ceq_1, cle_2, cel_2, clt_2, ctl_2, ceq_2, cle_3, cel_3, clt_3, ctl_3, ceq_3, cle_4, cel_4, clt_4, ctl_4, ceq_4, cle_5, cel_5, clt_5, ctl_5, ceq_5, cle_6, cel_6, clt_6, ctl_6, ceq_6, cle_7, cel_7, clt_7, ctl_7, ceq_7, cle_8, cel_8, clt_8, ctl_8, ceq_8, cle_9, cel_9, clt_9, ctl_9, ceq_9, cle_12, cel_12, clt_12, ctl_12, ceq_12, cle_20, cel_20, clt_20, ctl_20, ceq_20, cle_24, cel_24, clt_24, ctl_24, ceq_24, cle_25, cel_25, clt_25, ctl_25, ceq_25, cle_30, cel_30, clt_30, ctl_30, ceq_30, cle_36, cel_36, clt_36, ctl_36, ceq_36, cle_40, cel_40, clt_40, ctl_40, ceq_40, cle_41, cel_41, clt_41, ctl_41, ceq_41, cle_120, cel_120, clt_120, ctl_120, ceq_120, cle_160, cel_160, clt_160, ctl_160, ceq_160, cle_164, cel_164, clt_164, ctl_164, ceq_164, cle_500, cel_500, clt_500, ctl_500, ceq_500, cle_1000, cel_1000, clt_1000, ctl_1000, ceq_1000, ixr, ixq, ixf, neg_nI, leq_nI, lt_nI, eq_nI, cl_nI, nI_add, pk_mul]
theorem w39 {ai : Nat → Nat → Int32} {i : Nat} (hi : i < 164) (v : Int32) : hIst (hp x iv ai aj ar pp f0) (x + 39) (nI i) v = some (hp x iv (u2 ai 39 i v) aj ar pp f0) := by rw [wa_39]; simp (disch := omega) only [mul_3, mul_4, mul_5, mul_9, mul_30, mul_160, add_1, add_2, add_3, add_4, add_5, add_6, addl_1, addl_2, addl_3, addl_4, cle_0, cel_0, clt_0, ctl_0, ceq_0, cle_1, cel_1, clt_1, ctl_1, ceq_1, cle_2, cel_2, clt_2, ctl_2, ceq_2, cle_3, cel_3, clt_3, ctl_3, ceq_3, cle_4, cel_4, clt_4, ctl_4, ceq_4, cle_5, cel_5, clt_5, ctl_5, ceq_5, cle_6, cel_6, clt_6, ctl_6, ceq_6, cle_7, cel_7, clt_7, ctl_7, ceq_7, cle_8, cel_8, clt_8, ctl_8, ceq_8, cle_9, cel_9, clt_9, ctl_9, ceq_9, cle_12, cel_12, clt_12, ctl_12, ceq_12, cle_20, cel_20, clt_20, ctl_20, ceq_20, cle_24, cel_24, clt_24, ctl_24, ceq_24, cle_25, cel_25, clt_25, ctl_25, ceq_25, cle_30, cel_30, clt_30, ctl_30, ceq_30, cle_36, cel_36, clt_36, ctl_36, ceq_36, cle_40, cel_40, clt_40, ctl_40, ceq_40, cle_41, cel_41, clt_41, ctl_41, ceq_41, cle_120, cel_120, clt_120, ctl_120, ceq_120, cle_160, cel_160, clt_160, ctl_160, ceq_160, cle_164, cel_164, clt_164, ctl_164, ceq_164, cle_500, cel_500, clt_500, ctl_500, ceq_500, cle_1000, cel_1000, clt_1000, ctl_1000, ceq_1000, ixr, ixq, ixf, neg_nI, leq_nI, lt_nI, eq_nI, cl_nI, nI_add, pk_mul]
theorem r40 {ai : Nat → Nat → Int32} {i : Nat} (hi : i < 41) : hIld (hp x iv ai aj ar pp f0) (x + 40) (nI i) = some (ai 40 i) := by rw [ra_40]; simp (disch := omega) only [mul_3, mul_4, mul_5, mul_9, mul_30, mul_160, add_1, add_2, add_3, add_4, add_5, add_6, addl_1, addl_2, addl_3, addl_4, cle_0, cel_0, clt_0, ctl_0, ceq_0, cle_1, cel_1, clt_1, ctl_1, ceq_1, cle_2, cel_2, clt_2, ctl_2, ceq_2, cle_3, cel_3, clt_3, ctl_3, ceq_3, cle_4, cel_4, clt_4, ctl_4, ceq_4, cle_5, cel_5, clt_5, ctl_5, ceq_5, cle_6, cel_6, clt_6, ctl_6, ceq_6, cle_7, cel_7, clt_7, ctl_7, ceq_7, cle_8, cel_8, clt_8, ctl_8, ceq_8, cle_9, cel_9, clt_9, ctl_9, ceq_9, cle_12, cel_12, clt_12, ctl_12, ceq_12, cle_20, cel_20, clt_20, ctl_20, ceq_20, cle_24, cel_24, clt_24, ctl_24, ceq_24, cle_25, cel_25, clt_25, ctl_25, ceq_25, cle_30, cel_30, clt_30, ctl_30, ceq_30, cle_36, cel_36, clt_36, ctl_36, ceq_36, cle_40, cel_40, clt_40, ctl_40, ceq_40, cle_41, cel_41, clt_41, ctl_41, ceq_41, cle_120, cel_120, clt_120, ctl_120, ceq_120, cle_160, cel_160, clt_160, ctl_160, ceq_160, cle_164, cel_164, clt_164, ctl_164, ceq_164, cle_500, cel_500, clt_500, ctl_500, ceq_500, cle_1000, cel_1000, clt_1000, ctl_1000, ceq_1000, ixr, ixq, ixf, neg_nI, leq_nI, lt_nI, eq_nI, cl_nI, nI_add, pk_mul]
theorem w40 {ai : Nat → Nat → Int32} {i : Nat} (hi : i < 41) (v : Int32) : hIst (hp x iv ai aj ar pp f0) (x + 40) (nI i) v = some (hp x iv (u2 ai 40 i v) aj ar pp f0) := by rw [wa_40]; simp (disch := omega) only [mul_3, mul_4, mul_5, mul_9, mul_30, mul_160, add_1, add_2, add_3, add_4, add_5, add_6, addl_1, addl_2, addl_3, addl_4, cle_0, cel_0, clt_0, ctl_0, ceq_0, cle_1, cel_1, clt_1, ctl_1, ceq_1, cle_2, cel_2, clt_2, ctl_2, ceq_2, cle_3, cel_3, clt_3, ctl_3, ceq_3, cle_4, cel_4, clt_4, ctl_4, ceq_4, cle_5, cel_5, clt_5, ctl_5, ceq_5, cle_6, cel_6, clt_6, ctl_6, ceq_6, cle_7, cel_7, clt_7, ctl_7, ceq_7, cle_8, cel_8, clt_8, ctl_8, ceq_8, cle_9, cel_9, clt_9, ctl_9, ceq_9, cle_12, cel_12, clt_12, ctl_12, ceq_12, cle_20, cel_20, clt_20, ctl_20, ceq_20, cle_24, cel_24, clt_24, ctl_24, ceq_24, cle_25, cel_25, clt_25, ctl_25, ceq_25, cle_30, cel_30, clt_30, ctl_30, ceq_30, cle_36, cel_36, clt_36, ctl_36, ceq_36, cle_40, cel_40, clt_40, ctl_40, ceq_40, cle_41, cel_41, clt_41, ctl_41, ceq_41, cle_120, cel_120, clt_120, ctl_120, ceq_120, cle_160, cel_160, clt_160, ctl_160, ceq_160, cle_164, cel_164, clt_164, ctl_164, ceq_164, cle_500, cel_500, clt_500, ctl_500, ceq_500, cle_1000, cel_1000, clt_1000, ctl_1000, ceq_1000, ixr, ixq, ixf, neg_nI, leq_nI, lt_nI, eq_nI, cl_nI, nI_add, pk_mul]
theorem sv_25 {q v1 v2 v3 v4 : Int32} : ∀ (w t m : Nat) (ai : Nat → Nat → Int32), t + w = 164 → w < m → L_X11_checkParts_25 m (hp x iv ai aj ar pp f0) (x + 19) q v1 v2 v3 v4 (nI t) = L_X11_checkParts_56 xfuel (hp x iv (va_up ai 39 (frm (ai 26) (ai 39) 164 t)) aj ar pp f0) (x + 19) q v1 v2 v3 v4 0 := by
  intro w
  induction w with
  | zero =>
    intro t m ai ht hm
    obtain ⟨m, rfl⟩ : ∃ y, m = y + 1 := ⟨m - 1, by omega⟩
    have : t = 164 := by omega
    subst this
    show F_X11_checkParts_25 _ _ _ _ _ _ _ _ _ = _
    unfold F_X11_checkParts_25
    rw [if_pos (show (164 : Int32) ≤ nI 164 by decide), frm_0, up_self]
  | succ w ih =>
    intro t m ai ht hm
    obtain ⟨m, rfl⟩ : ∃ y, m = y + 1 := ⟨m - 1, by omega⟩
    have hn : ¬ (164 : Int32) ≤ nI t := no_le (a := 164) (by omega) (by omega)
    show F_X11_checkParts_25 _ _ _ _ _ _ _ _ _ = _
    unfold F_X11_checkParts_25
    rw [if_neg hn, rn_19_30, Option.bind_some, rn_19_13, Option.bind_some, r26 (by omega), Option.bind_some, w39 (by omega), Option.bind_some, add_1, ih (t + 1) m _ (by omega) (by omega), sv_up (by decide) (by omega)]
theorem sv_56 {q v1 v2 v3 v4 : Int32} : ∀ (w t m : Nat) (ai : Nat → Nat → Int32), t + w = 41 → w < m → L_X11_checkParts_56 m (hp x iv ai aj ar pp f0) (x + 19) q v1 v2 v3 v4 (nI t) = L_X11_checkParts_56 1 (hp x iv (va_up ai 40 (frm (ai 27) (ai 40) 41 t)) aj ar pp f0) (x + 19) q v1 v2 v3 v4 41 := by
  intro w
  induction w with
  | zero =>
    intro t m ai ht hm
    obtain ⟨m, rfl⟩ : ∃ y, m = y + 1 := ⟨m - 1, by omega⟩
    have : t = 41 := by omega
    subst this
    show F_X11_checkParts_56 _ _ _ _ _ _ _ _ _ = F_X11_checkParts_56 _ _ _ _ _ _ _ _ _
    unfold F_X11_checkParts_56
    rw [if_pos (show (41 : Int32) ≤ nI 41 by decide), if_pos (show (41 : Int32) ≤ 41 by decide), frm_0, up_self]
  | succ w ih =>
    intro t m ai ht hm
    obtain ⟨m, rfl⟩ : ∃ y, m = y + 1 := ⟨m - 1, by omega⟩
    have hn : ¬ (41 : Int32) ≤ nI t := no_le (a := 41) (by omega) (by omega)
    have e : L_X11_checkParts_56 (m + 1) (hp x iv ai aj ar pp f0) (x + 19) q v1 v2 v3 v4 (nI t) = L_X11_checkParts_56 m (hp x iv (u2 ai 40 t (ai 27 t)) aj ar pp f0) (x + 19) q v1 v2 v3 v4 (nI (t + 1)) := by
      show F_X11_checkParts_56 _ _ _ _ _ _ _ _ _ = _
      unfold F_X11_checkParts_56
      rw [if_neg hn, rn_19_31, Option.bind_some, rn_19_14, Option.bind_some, r27 (by omega), Option.bind_some, w40 (by omega), Option.bind_some, add_1]
    rw [e, ih (t + 1) m _ (by omega) (by omega), sv_up (by decide) (by omega)]
theorem sv_291 {a7 : Int32} : ∀ (w t m : Nat) (ai : Nat → Nat → Int32), t + w = 164 → w < m → L_X11_checkParts_291 m (hp x iv ai aj ar pp f0) (x + 19) a7 (nI t) = L_X11_checkParts_322 xfuel (hp x iv (va_up ai 26 (frm (ai 39) (ai 26) 164 t)) aj ar pp f0) (x + 19) a7 0 := by
  intro w
  induction w with
  | zero =>
    intro t m ai ht hm
    obtain ⟨m, rfl⟩ : ∃ y, m = y + 1 := ⟨m - 1, by omega⟩
    have : t = 164 := by omega
    subst this
    show F_X11_checkParts_291 _ _ _ _ _ = _
    unfold F_X11_checkParts_291
    rw [if_pos (show (164 : Int32) ≤ nI 164 by decide), frm_0, up_self]
  | succ w ih =>
    intro t m ai ht hm
    obtain ⟨m, rfl⟩ : ∃ y, m = y + 1 := ⟨m - 1, by omega⟩
    have hn : ¬ (164 : Int32) ≤ nI t := no_le (a := 164) (by omega) (by omega)
    show F_X11_checkParts_291 _ _ _ _ _ = _
    unfold F_X11_checkParts_291
    rw [if_neg hn, rn_19_13, Option.bind_some, rn_19_30, Option.bind_some, r39 (by omega), Option.bind_some, w26 (by omega), Option.bind_some, add_1, ih (t + 1) m _ (by omega) (by omega), sv_up (by decide) (by omega)]
theorem sv_322 {a7 : Int32} : ∀ (w t m : Nat) (ai : Nat → Nat → Int32), t + w = 41 → w < m → L_X11_checkParts_322 m (hp x iv ai aj ar pp f0) (x + 19) a7 (nI t) = some (if a7 = -9 then 1 else -20 - a7, hp x iv (va_up ai 27 (frm (ai 40) (ai 27) 41 t)) aj ar pp f0) := by
  intro w
  induction w with
  | zero =>
    intro t m ai ht hm
    obtain ⟨m, rfl⟩ : ∃ y, m = y + 1 := ⟨m - 1, by omega⟩
    have : t = 41 := by omega
    subst this
    show F_X11_checkParts_322 _ _ _ _ _ = _
    unfold F_X11_checkParts_322
    rw [if_pos (show (41 : Int32) ≤ nI 41 by decide), frm_0, up_self]
    by_cases h : a7 = -9
    · rw [if_pos h, if_pos h]
    · rw [if_neg h, if_neg h]
  | succ w ih =>
    intro t m ai ht hm
    obtain ⟨m, rfl⟩ : ∃ y, m = y + 1 := ⟨m - 1, by omega⟩
    have hn : ¬ (41 : Int32) ≤ nI t := no_le (a := 41) (by omega) (by omega)
    show F_X11_checkParts_322 _ _ _ _ _ = _
    unfold F_X11_checkParts_322
    rw [if_neg hn, rn_19_14, Option.bind_some, rn_19_31, Option.bind_some, r40 (by omega), Option.bind_some, w27 (by omega), Option.bind_some, add_1, ih (t + 1) m _ (by omega) (by omega), sv_up (by decide) (by omega)]
end SAVE

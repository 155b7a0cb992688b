/-! sheets -/
section SHEETS
variable {x z : Nat} {iv ai : Nat → Nat → Int32} {aj : Nat → Nat → Int64} {ar : Nat → Nat → Option Nat} {pp : Nat → Option Nat} {f0 : xHp}
/-- 0 comes to the thirty places of sheet k, from place j on -/
def zero30 (f : Nat → Int64) (k j : Nat) : Nat → Int64 := fun i => if 30 * k + j ≤ i ∧ i < 30 * k + 30 then 0 else f i
theorem zero30_end (f : Nat → Int64) (k : Nat) : zero30 f k 30 = f := by
  funext i
  unfold zero30
  rw [if_neg (by omega)]
theorem zero30_step (f : Nat → Int64) {k j : Nat} (hj : j < 30) : zero30 (va_up f (30 * k + j) 0) k (j + 1) = zero30 f k j := by
  funext i
  unfold zero30 va_up
  by_cases h1 : 30 * k + (j + 1) ≤ i ∧ i < 30 * k + 30
  · rw [if_pos h1, if_pos (by omega)]
  · rw [if_neg h1]
    by_cases h2 : i = 30 * k + j
    · rw [if_pos h2, if_pos (by omega)]
    · rw [if_neg h2, if_neg (by omega)]
theorem up_self {α : Type} (f : Nat → α) (c : Nat) : va_up f c (f c) = f := by
  funext k
  unfold va_up
  split
  · rename_i h; rw [h]
  · rfl
set_option maxHeartbeats 4000000 in
theorem m_sheet_loop (k : Nat) (hk : k < 4) : ∀ (d j n : Nat) (aj : Nat → Nat → Int64), j + d = 30 → d < n → L_X11_sheet_67 n (hp x iv ai aj ar pp f0) (x + 19) (nI k) (nI j) = some (1, hp x iv ai (va_up aj 22 (zero30 (aj 22) k j)) ar pp f0) := by
  intro d
  induction d with
  | zero =>
    intro j n aj hj hn
    obtain ⟨n, rfl⟩ : ∃ q, n = q + 1 := ⟨n - 1, by omega⟩
    have : j = 30 := by omega
    subst this
    show F_X11_sheet_67 (L_X11_sheet_67 n) _ _ _ _ = _
    unfold F_X11_sheet_67
    rw [if_pos (by decide), zero30_end, up_self]
  | succ d ih =>
    intro j n aj hj hn
    obtain ⟨n, rfl⟩ : ∃ q, n = q + 1 := ⟨n - 1, by omega⟩
    show F_X11_sheet_67 (L_X11_sheet_67 n) _ _ _ _ = _
    unfold F_X11_sheet_67
    simp (disch := omega) only [rn_19_4, wa_22, Option.bind_some, mul_3, mul_4, mul_5, mul_9, mul_30, mul_160, add_1, add_2, add_3, add_4, add_5, add_6, addl_1, addl_2, addl_3, addl_4, cle_0, cel_0, clt_0, ctl_0, ceq_0, cle_1, cel_1, clt_1, ctl_1, ceq_1, cle_2, cel_2, clt_2, ctl_2, ceq_2, cle_3, cel_3, clt_3, ctl_3, ceq_3, cle_4, cel_4, clt_4, ctl_4, ceq_4, cle_5, cel_5, clt_5, ctl_5, ceq_5, cle_6, cel_6, clt_6, ctl_6, ceq_6, cle_7, cel_7, clt_7, ctl_7, ceq_7, cle_8, cel_8, clt_8, ctl_8, ceq_8, cle_9, cel_9, clt_9, ctl_9, ceq_9, cle_12, cel_12, clt_12, ctl_12, ceq_12, cle_20, cel_20, clt_20, ctl_20, ceq_20, cle_24, cel_24, clt_24, ctl_24, ceq_24, cle_25, cel_25, clt_25, ctl_25, ceq_25, cle_30, cel_30, clt_30, ctl_30, ceq_30, cle_36, cel_36, clt_36, ctl_36, ceq_36, cle_40, cel_40, clt_40, ctl_40, ceq_40, cle_41, cel_41, clt_41, ctl_41, ceq_41, cle_120, cel_120, clt_120, ctl_120, ceq_120, cle_160, cel_160, clt_160, ctl_160, ceq_160, cle_164, cel_164, clt_164, ctl_164, ceq_164, cle_500, cel_500, clt_500, ctl_500, ceq_500, cle_1000, cel_1000, clt_1000, ctl_1000, ceq_1000, ixr, ixq, ixf, neg_nI, leq_nI, lt_nI, eq_nI, cl_nI, nI_add, pk_mul]
    rw [if_neg (by omega), ih (j + 1) n _ (by omega) (by omega)]
    show some (1, hp x iv ai (va_up (u2 aj 22 (30 * k + j) 0) 22 (zero30 (va_up (aj 22) (30 * k + j) 0) k (j + 1))) ar pp f0) = _
    rw [zero30_step _ (by omega), u2_row, up_up]
theorem e_fuel : (4000 : Nat) < xfuel := by decide
set_option maxHeartbeats 4000000 in
/-- the reference's sheet, where it comes to be -/
theorem m_sheet_ok (k : Nat) (hk : k < 4) (ln : Int32) (hl : 0 ≤ ln.toInt ∧ ln.toInt ≤ 2) (n : Nat) (hn : n ≤ 30) : F_X11_sheet (hp x iv ai aj ar pp f0) (x + 19) (nI k) ln (nI n) = some (1, hp x (u2 iv 19 0 0) (u2 (u2 ai 20 k ln) 21 k (nI n)) (va_up aj 22 (zero30 (aj 22) k 0)) ar pp f0) := by
  unfold F_X11_sheet
  simp only [wi_19_0, Option.bind_some, s_within, if10, w32 (lo := 0) (hi := 3) (l := 0) (h := 3) rfl rfl, w32 (lo := 0) (hi := 2) (l := 0) (h := 2) rfl rfl, toInt_nI (show k < 2147483648 by omega)]
  rw [if_neg (not_not_intro (show (0 : Int) ≤ (k : Int) ∧ (k : Int) ≤ 3 by omega)), if_neg (not_not_intro hl)]
  simp (disch := omega) only [rn_19_2, rn_19_3, wa_20, wa_21, Option.bind_some, mul_3, mul_4, mul_5, mul_9, mul_30, mul_160, add_1, add_2, add_3, add_4, add_5, add_6, addl_1, addl_2, addl_3, addl_4, cle_0, cel_0, clt_0, ctl_0, ceq_0, cle_1, cel_1, clt_1, ctl_1, ceq_1, cle_2, cel_2, clt_2, ctl_2, ceq_2, cle_3, cel_3, clt_3, ctl_3, ceq_3, cle_4, cel_4, clt_4, ctl_4, ceq_4, cle_5, cel_5, clt_5, ctl_5, ceq_5, cle_6, cel_6, clt_6, ctl_6, ceq_6, cle_7, cel_7, clt_7, ctl_7, ceq_7, cle_8, cel_8, clt_8, ctl_8, ceq_8, cle_9, cel_9, clt_9, ctl_9, ceq_9, cle_12, cel_12, clt_12, ctl_12, ceq_12, cle_20, cel_20, clt_20, ctl_20, ceq_20, cle_24, cel_24, clt_24, ctl_24, ceq_24, cle_25, cel_25, clt_25, ctl_25, ceq_25, cle_30, cel_30, clt_30, ctl_30, ceq_30, cle_36, cel_36, clt_36, ctl_36, ceq_36, cle_40, cel_40, clt_40, ctl_40, ceq_40, cle_41, cel_41, clt_41, ctl_41, ceq_41, cle_120, cel_120, clt_120, ctl_120, ceq_120, cle_160, cel_160, clt_160, ctl_160, ceq_160, cle_164, cel_164, clt_164, ctl_164, ceq_164, cle_500, cel_500, clt_500, ctl_500, ceq_500, cle_1000, cel_1000, clt_1000, ctl_1000, ceq_1000, ixr, ixq, ixf, neg_nI, leq_nI, lt_nI, eq_nI, cl_nI, nI_add, pk_mul]
  rw [if_pos (by omega), if_pos (by omega)]
  exact m_sheet_loop k hk 30 0 xfuel aj (by omega) (by decide)
end SHEETS

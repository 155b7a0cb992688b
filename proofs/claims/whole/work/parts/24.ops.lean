/-! operations: the class answers, the reference answers the same, and what holds holds again -/
def Or_ {R : Type} (C M : Option R) : Prop := ∃ r : R, C = some r ∧ M = some r
def Ow {R : Type} (x z : Nat) (C : Option (R × xHp)) (M : xHp → Option (R × xHp)) : Prop := ∃ (r : R) (h1 : xHp), C = some (r, h1) ∧ hKd h1 (x + 19) = some 10 ∧ ∃ (iv ai : Nat → Nat → Int32) (aj : Nat → Nat → Int64) (ar : Nat → Nat → Option Nat) (pp : Nat → Option Nat) (f0 : xHp), M h1 = some (r, hp x iv ai aj ar pp f0) ∧ INV x z iv ai aj ar pp f0
def Oa {R : Type} (x : Nat) (C : Option (R × Nat × xHp)) (M : xHp → Option (R × xHp)) : Prop := ∃ (r : R) (z : Nat) (h1 : xHp), C = some (r, z, h1) ∧ hKd h1 (x + 19) = some 10 ∧ ∃ (iv ai : Nat → Nat → Int32) (aj : Nat → Nat → Int64) (ar : Nat → Nat → Option Nat) (pp : Nat → Option Nat) (f0 : xHp), M h1 = some (r, hp x iv ai aj ar pp f0) ∧ INV x z iv ai aj ar pp f0
section OPS2
variable {x z : Nat} {iv ai : Nat → Nat → Int32} {aj : Nat → Nat → Int64} {ar : Nat → Nat → Option Nat} {pp : Nat → Option Nat} {f0 : xHp}
theorem op_told (hI : INV x z iv ai aj ar pp f0) (a : Int32) : Or_ (F_X10_told (hp x iv ai aj ar pp f0) x a) (F_X11_told (hp x iv ai aj ar pp f0) (x + 19) a) := by
  obtain ⟨hz, own, hT, hS, ⟨np, p1, p2, p3, p4⟩, ⟨nb, b1, b2, b3, b4⟩, hR, ⟨nq, q1, q2, q3, q4⟩⟩ := id hI
  refine ⟨_, s_told a, ?_⟩
  rw [m_told, p2, p3, b2, b3, q2, q3]
theorem op_fault (hI : INV x z iv ai aj ar pp f0) : Or_ (F_X10_fault (hp x iv ai aj ar pp f0) x) (F_X11_fault (hp x iv ai aj ar pp f0) (x + 19)) := by
  obtain ⟨hz, own, hT, hR⟩ := id hI
  refine ⟨_, s_fault, ?_⟩
  rw [m_fault, hT.1]
theorem op_trace (hI : INV x z iv ai aj ar pp f0) : Or_ (F_X10_trace (hp x iv ai aj ar pp f0) x) (F_X11_trace (hp x iv ai aj ar pp f0) (x + 19)) := by
  obtain ⟨hz, own, hT, hR⟩ := id hI
  refine ⟨_, s_trace, ?_⟩
  rw [m_trace, hT.2]
/-! boxes -/
set_option maxHeartbeats 4000000 in
theorem m_newBox (a b c d : Int32) (n : Nat) (hn : n < 30) (hc : iv 19 8 = nI n) : F_X11_newBox (hp x iv ai aj ar pp f0) (x + 19) a b c d = some (nI n, hp x (u2 iv 19 8 (nI (n + 1))) (va_up ai 25 (lay4 (ai 25) n a b c d)) aj ar pp f0) := by
  unfold F_X11_newBox
  simp (disch := omega) only [rk_0, rn_0_0, rn_0_1, rn_0_2, rn_0_3, rn_0_4, rn_0_5, ri_0_6, ri_0_7, ri_0_8, ri_0_9, rk_5, rn_5_0, rn_5_1, rn_5_2, ro_5_3, ri_5_4, ri_5_5, ri_5_6, ri_5_7, ri_5_8, ri_5_9, ri_5_10, rk_9, rn_9_0, rn_9_1, rn_9_2, rn_9_3, ri_9_4, rk_11, rn_11_0, rk_13, rn_13_0, rk_15, rn_15_0, rn_15_1, rn_15_2, ro_15_3, ri_15_4, ri_15_5, ri_15_6, ri_15_7, ri_15_8, ri_15_9, ri_15_10, rk_19, ri_19_0, ri_19_1, rn_19_2, rn_19_3, rn_19_4, ri_19_5, rn_19_6, rn_19_7, ri_19_8, rn_19_9, ri_19_10, ri_19_11, ri_19_12, rn_19_13, rn_19_14, ri_19_15, ri_19_16, rn_19_17, ri_19_18, rn_19_19, ri_19_20, rn_19_21, rn_19_22, rn_19_23, rn_19_24, rn_19_25, rn_19_26, rn_19_27, rn_19_28, rn_19_29, rn_19_30, rn_19_31, ra_3, rl_3, ra_6, rl_6, ra_7, rl_7, ra_8, rl_8, ra_10, rl_10, ra_12, rl_12, ra_14, rl_14, ra_16, rl_16, ra_17, rl_17, ra_18, rl_18, ra_20, rl_20, ra_21, rl_21, ra_22, rl_22, ra_23, rl_23, ra_24, rl_24, ra_25, rl_25, ra_26, rl_26, ra_27, rl_27, ra_28, rl_28, ra_29, rl_29, ra_30, rl_30, ra_31, rl_31, ra_32, rl_32, ra_33, rl_33, ra_34, rl_34, ra_35, rl_35, ra_36, rl_36, ra_37, rl_37, ra_38, rl_38, ra_39, rl_39, ra_40, rl_40, ra_1, ra_2, ra_4, wi_0_6, wi_0_7, wi_0_8, wi_0_9, wo_5_3, wi_5_4, wi_5_5, wi_5_6, wi_5_7, wi_5_8, wi_5_9, wi_5_10, wi_9_4, wo_15_3, wi_15_4, wi_15_5, wi_15_6, wi_15_7, wi_15_8, wi_15_9, wi_15_10, wi_19_0, wi_19_1, wi_19_5, wi_19_8, wi_19_10, wi_19_11, wi_19_12, wi_19_15, wi_19_16, wi_19_18, wi_19_20, wa_3, wa_6, wa_7, wa_8, wa_10, wa_12, wa_14, wa_16, wa_17, wa_18, wa_20, wa_21, wa_22, wa_23, wa_24, wa_25, wa_26, wa_27, wa_28, wa_29, wa_30, wa_31, wa_32, wa_33, wa_34, wa_35, wa_36, wa_37, wa_38, wa_39, wa_40, wz_1, wz_2, wz_4, wc_3_3, wc_6_6, wc_7_7, wc_16_16, wc_17_17, wc_3_6, Option.bind_some, hc, mul_3, mul_4, mul_5, mul_9, mul_30, mul_160, add_1, add_2, add_3, add_4, add_5, add_6, addl_1, addl_2, addl_3, addl_4, cle_0, cel_0, clt_0, ctl_0, ceq_0, cle_1, cel_1, clt_1, ctl_1, ceq_1, cle_2, cel_2, clt_2, ctl_2, ceq_2, cle_3, cel_3, clt_3, ctl_3, ceq_3, cle_4, cel_4, clt_4, ctl_4, ceq_4, cle_5, cel_5, clt_5, ctl_5, ceq_5, cle_6, cel_6, clt_6, ctl_6, ceq_6, cle_7, cel_7, clt_7, ctl_7, ceq_7, cle_8, cel_8, clt_8, ctl_8, ceq_8, cle_9, cel_9, clt_9, ctl_9, ceq_9, cle_12, cel_12, clt_12, ctl_12, ceq_12, cle_20, cel_20, clt_20, ctl_20, ceq_20, cle_24, cel_24, clt_24, ctl_24, ceq_24, cle_25, cel_25, clt_25, ctl_25, ceq_25, cle_30, cel_30, clt_30, ctl_30, ceq_30, cle_36, cel_36, clt_36, ctl_36, ceq_36, cle_40, cel_40, clt_40, ctl_40, ceq_40, cle_41, cel_41, clt_41, ctl_41, ceq_41, cle_120, cel_120, clt_120, ctl_120, ceq_120, cle_160, cel_160, clt_160, ctl_160, ceq_160, cle_164, cel_164, clt_164, ctl_164, ceq_164, cle_500, cel_500, clt_500, ctl_500, ceq_500, cle_1000, cel_1000, clt_1000, ctl_1000, ceq_1000, ixr, ixq, ixf, neg_nI, leq_nI, lt_nI, eq_nI, cl_nI, nI_add, pk_mul, u2_u2, up_up, lay4, u2_row, up_at]
  rw [show nI (n + 1) - 1 = nI n from nI_pred n]
set_option maxHeartbeats 4000000 in
theorem m_box (a b c d : Int32) [Decidable (rgB a b)] [Decidable (rgB c d)] (n : Nat) (hn : n ≤ 30) (hc : iv 19 8 = nI n) : F_X11_box (hp x iv ai aj ar pp f0) (x + 19) a b c d = if rgB a b ∧ rgB c d then (if n < 30 then some (nI n, hp x (u2 iv 19 8 (nI (n + 1))) (va_up ai 25 (lay4 (ai 25) n a b c d)) aj ar pp f0) else some (-4, hp x iv ai aj ar pp f0)) else some (-2, hp x iv ai aj ar pp f0) := by
  unfold F_X11_box
  simp only [m_isRange, Option.bind_some, if10]
  by_cases h1 : rgB a b
  · rw [if_neg (not_not_intro h1)]
    by_cases h2 : rgB c d
    · rw [if_neg (not_not_intro h2), if_pos (show rgB a b ∧ rgB c d from ⟨h1, h2⟩)]
      simp (disch := omega) only [ri_19_8, rk_19, Option.bind_some, hc, ceq_30]
      by_cases h3 : n < 30
      · rw [if_neg (by omega), if_pos h3, m_newBox a b c d n h3 hc]
        rfl
      · rw [if_pos (by omega), if_neg h3]
    · rw [if_pos h2, if_neg (fun h => h2 h.2)]
  · rw [if_pos h1, if_neg (fun h => h1 h.1)]
theorem lay4_lt {f : Nat → Int32} {n i : Nat} {a b c d : Int32} (h : i < 4 * n) : lay4 f n a b c d i = f i := by
  unfold lay4
  rw [up_ne _ _ (by omega), up_ne _ _ (by omega), up_ne _ _ (by omega), up_ne _ _ (by omega)]
theorem lay4_at {f : Nat → Int32} {n : Nat} {a b c d : Int32} : lay4 f n a b c d (4 * n) = a ∧ lay4 f n a b c d (4 * n + 1) = b ∧ lay4 f n a b c d (4 * n + 2) = c ∧ lay4 f n a b c d (4 * n + 3) = d := by
  unfold lay4
  refine ⟨?_, ?_, ?_, ?_⟩
  · rw [up_ne _ _ (by omega), up_ne _ _ (by omega), up_ne _ _ (by omega), up_at]
  · rw [up_ne _ _ (by omega), up_ne _ _ (by omega), up_at]
  · rw [up_ne _ _ (by omega), up_at]
  · rw [up_at]
theorem lay4_eq {f g : Nat → Int32} {n : Nat} {a b c d : Int32} (h : ∀ i, i < 4 * n → f i = g i) : ∀ i, i < 4 * (n + 1) → lay4 f n a b c d i = lay4 g n a b c d i := by
  intro i hi
  by_cases h1 : i < 4 * n
  · rw [lay4_lt h1, lay4_lt h1]; exact h i h1
  · rcases (show i = 4 * n ∨ i = 4 * n + 1 ∨ i = 4 * n + 2 ∨ i = 4 * n + 3 by omega) with rfl | rfl | rfl | rfl
    · rw [lay4_at.1, lay4_at.1]
    · rw [lay4_at.2.1, lay4_at.2.1]
    · rw [lay4_at.2.2.1, lay4_at.2.2.1]
    · rw [lay4_at.2.2.2, lay4_at.2.2.2]
/-- boxes that come later change no box -/
theorem bx_keep {f g : Nat → Int32} {n b : Nat} (hb : b < n) (h : ∀ i, i < 4 * n → f i = g i) : bx f b = bx g b := by
  unfold bx
  rw [h _ (by omega), h _ (by omega), h _ (by omega), h _ (by omega)]
theorem nI_inj {a b : Nat} (ha : a < 2147483648) (hb : b < 2147483648) (h : nI a = nI b) : a = b := (nI_eq ha hb).mp h
/-- what speaks of boxes holds on when more of them come -/
theorem iR.boxes {cp : Nat → Int32} {mp mb mm lx ly : Int32} {po : Option Nat} {cs ct ms mt : Nat → Int32} {np : Int32} {n n' : Nat} {r : Nat → Option Nat} {ts : Nat → Int64} {bs bs' : Nat → Int32} (hn : n ≤ n') (hn' : n' ≤ 30) (hb : ∀ i, i < 4 * n → bs' i = bs i) (h : iR cp mp mb mm lx ly po cs ct ms mt np (nI n) r ts bs) : iR cp mp mb mm lx ly po cs ct ms mt np (nI n') r ts bs' := by
  obtain ⟨l, h1, h2, h3, h4, h5, h6, h7, h8⟩ := h
  refine ⟨l, h1, h2, h3, h4, h5, h6, h7, ?_⟩
  rcases h8 with h8 | ⟨p, b, m, g1, g2, g3, g4, g5⟩
  · exact Or.inl h8
  · have hbn : b < n := (nI_ltI (by omega) (by omega)).mp g3
    refine Or.inr ⟨p, b, m, g1, g2, (nI_ltI (by omega) (by omega)).mpr (by omega), g4, ?_⟩
    rw [bx_keep hbn hb]
    exact g5
theorem iQ.boxes {own : Nat → Nat × Nat} {cn mn : Int32} {r : Nat → Option Nat} {kd po bo ln : Nat → Int32} {ns : Nat → Int64} {np : Int32} {n n' : Nat} {pr : Nat → Option Nat} {ts : Nat → Int64} {bs bs' : Nat → Int32} (hn : n ≤ n') (hn' : n' ≤ 30) (hb : ∀ i, i < 4 * n → bs' i = bs i) (h : iQ x z f0 own cn mn r kd po bo ln ns np (nI n) pr ts bs) : iQ x z f0 own cn mn r kd po bo ln ns np (nI n') pr ts bs' := by
  obtain ⟨k, h1, h2, h3, h4⟩ := h
  refine ⟨k, h1, h2, h3, fun q hq => ?_⟩
  obtain ⟨a, b, m, p, pa, g, c1, c2, c3, c4, c5, c6, c7, c8, c9, c10, c11, c12⟩ := h4 q hq
  refine ⟨a, b, m, p, pa, g, c1, c2, c3, c4, c5, c6, c7, c8, c9, c10, c11, ?_⟩
  rcases c12 with c12 | c12 | ⟨c, bn, sd, d1, d2, d3, d4, d5, d6, d7⟩
  · exact Or.inl c12
  · exact Or.inr (Or.inl c12)
  · have hbn : bn < n := (nI_ltI (by omega) (by omega)).mp d3
    refine Or.inr (Or.inr ⟨c, bn, sd, d1, d2, (nI_ltI (by omega) (by omega)).mpr (by omega), d4, d5, fun j hj => by rw [hb _ (by omega)]; exact d6 j hj, ?_⟩)
    rw [bx_keep hbn hb]
    exact d7
theorem op_box (hI : INV x z iv ai aj ar pp f0) (a b c d : Int32) : Ow x z (F_X10_box (hp x iv ai aj ar pp f0) x a b c d) (fun h => F_X11_box h (x + 19) a b c d) := by
  haveI := Classical.propDecidable (rgB a b)
  haveI := Classical.propDecidable (rgB c d)
  obtain ⟨hz, own, hT, hS, hP, ⟨n, b1, b2, b3, b4, b5⟩, hR, hQ⟩ := id hI
  by_cases h : rgB a b ∧ rgB c d
  · by_cases h3 : n < 30
    · refine ⟨nI n, _, (s_box a b c d n b1 b2).trans ((if_pos h).trans (if_pos h3)), rk_19, _, _, _, _, _, _, (m_box a b c d n b1 (by exact b3)).trans ((if_pos h).trans (if_pos h3)), hz, own, hT, hS, hP, ?_, ?_, ?_⟩
      · refine ⟨n + 1, by omega, rfl, rfl, lay4_eq b4, fun k hk => ?_⟩
        show rg (lay4 (ai 25) n a b c d (4 * k)) (lay4 (ai 25) n a b c d (4 * k + 1)) ∧ rg (lay4 (ai 25) n a b c d (4 * k + 2)) (lay4 (ai 25) n a b c d (4 * k + 3))
        by_cases hk2 : k < n
        · rw [lay4_lt (by omega), lay4_lt (by omega), lay4_lt (by omega), lay4_lt (by omega)]
          exact b5 k hk2
        · have : k = n := by omega
          subst this
          rw [lay4_at.1, lay4_at.2.1, lay4_at.2.2.1, lay4_at.2.2.2]
          exact ⟨rgB_rg h.1, rgB_rg h.2⟩
      · rw [b2] at hR
        exact iR.boxes (n' := n + 1) (Nat.le_succ n) (by omega) (fun i hi => lay4_lt hi) hR
      · rw [b2] at hQ
        exact iQ.boxes (n' := n + 1) (Nat.le_succ n) (by omega) (fun i hi => lay4_lt hi) hQ
    · exact ⟨-4, _, (s_box a b c d n b1 b2).trans ((if_pos h).trans (if_neg h3)), rk_19, _, _, _, _, _, _, (m_box a b c d n b1 b3).trans ((if_pos h).trans (if_neg h3)), hI⟩
  · exact ⟨-2, _, (s_box a b c d n b1 b2).trans (if_neg h), rk_19, _, _, _, _, _, _, (m_box a b c d n b1 b3).trans (if_neg h), hI⟩
end OPS2

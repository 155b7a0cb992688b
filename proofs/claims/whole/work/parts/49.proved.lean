/-! proved -/
theorem cntS_nat {st : Nat → Int32} {v : Int32} : ∀ (n t s : Nat), ∃ c, c ≤ n ∧ cntS st v n t (nI s) = nI (s + c) ∧ (c = n → ∀ j, t ≤ j → j < t + n → st j = v) := by
  intro n
  induction n with
  | zero => intro t s; exact ⟨0, Nat.le_refl _, rfl, fun _ j a b => absurd b (by omega)⟩
  | succ n ih =>
    intro t s
    by_cases h : st t = v
    · obtain ⟨c, c1, c2, c3⟩ := ih (t + 1) (s + 1)
      refine ⟨c + 1, by omega, ?_, fun hc j a b => ?_⟩
      · show cntS st v n (t + 1) (if st t = v then nI s + 1 else nI s) = _
        rw [if_pos h, add_1, c2, show s + 1 + c = s + (c + 1) by omega]
      · by_cases ej : j = t
        · rw [ej]; exact h
        · exact c3 (by omega) j (by omega) (by omega)
    · obtain ⟨c, c1, c2, c3⟩ := ih (t + 1) s
      refine ⟨c, by omega, ?_, fun hc j a b => absurd hc (by omega)⟩
      show cntS st v n (t + 1) (if st t = v then nI s + 1 else nI s) = _
      rw [if_neg h, c2]
theorem cntS_all {st : Nat → Int32} {v : Int32} {n : Nat} (hn : n ≤ 10000) (h : cntS st v n 0 0 = nI n) : ∀ j, j < n → st j = v := by
  obtain ⟨c, c1, c2, c3⟩ := cntS_nat (st := st) (v := v) n 0 0
  have h' : cntS st v n 0 (nI 0) = nI n := h
  rw [c2] at h'
  have := nI_inj (by omega) (by omega) h'
  exact fun j hj => c3 (by omega) j (Nat.zero_le _) (by omega)
section PROVED
variable {x z : Nat} {iv ai : Nat → Nat → Int32} {aj : Nat → Nat → Int64} {ar : Nat → Nat → Option Nat} {pp : Nat → Option Nat} {f0 : xHp}
def pvG (S : Nat → Int32) (i : Nat) : Nat → Int64 := fun j => if j < i then (S j).toInt64 else 0
theorem pvG_s (S : Nat → Int32) (i : Nat) : va_up (pvG S i) i (S i).toInt64 = pvG S (i + 1) := by
  funext j
  unfold pvG
  by_cases h : j = i
  · rw [h, up_at, if_pos (by omega)]
  · rw [up_ne _ _ h]
    by_cases h2 : j < i
    · rw [if_pos h2, if_pos (by omega)]
    · rw [if_neg h2, if_neg (by omega)]
theorem s_pv_loop (hz : x + 41 ≤ z) {len p b a : Nat} (hlen : len ≤ 40) (hb : b < 30) (h4 : iv 5 4 = nI p) (h5 : iv 5 5 = nI b) (ha : pp 5 = some a) : ∀ (w i m : Nat), i + w = 4 * len → w < m → L_X10_proved_45 m (z + 1) (hp x iv ai aj ar pp (va_up f0 z (some (.inr (.inl (4 * len, pvG (ai 6) i)))))) x z (nI i) = (F_X10_keepProof (hp x iv ai aj ar pp (va_up (va_up (va_up (va_up f0 z (some (.inr (.inl (4 * len, pvG (ai 6) (4 * len)))))) (z + 1) (some (.inr (.inr (.inr (3, [.int 0, .null, .int 0, .null, .int 0, .null])))))) (z + 2) (some (.inl (4, fun j => if j < 4 then ai 3 (4 * b + j) else 0)))) (z + 1) (some (.inr (.inr (.inr (3, [.int (nI b), .ref (z + 2), .int 2, .ref a, .int (nI p), .ref z]))))))) x (z + 1)).bind (fun q17 => some (q17.1, z + 3, q17.2)) := by
  intro w
  induction w with
  | zero =>
    intro i m hi hm
    obtain ⟨m, rfl⟩ : ∃ y, m = y + 1 := ⟨m - 1, by omega⟩
    have : i = 4 * len := by omega
    subst this
    show F_X10_proved_45 _ _ _ _ _ _ = _
    unfold F_X10_proved_45
    rw [dLen hz, fLenJ (up_at _ _ _), Option.bind_some, if_pos (by rw [leq_nI (by omega) (by omega)]; omega), rn_0_4, Option.bind_some, ri_5_5, h5, Option.bind_some, hp_dyn (show x + 41 ≤ z + 1 by omega), Option.bind_some, rn_0_4, Option.bind_some, ro_5_3, ha, Option.bind_some, Option.bind_some, ri_5_4, h4, Option.bind_some, if_pos rk_0, s_sidesOf (show x + 41 ≤ z + 1 + 1 by omega) hb, Option.bind_some, Option.bind_some, Option.bind_some, Option.bind_some, s_init3 (show x + 41 ≤ z + 1 by omega) ((up_ne _ _ (by omega)).trans (up_at _ _ _)), Option.bind_some, if_pos rk_0]
  | succ w ih =>
    intro i m hi hm
    obtain ⟨m, rfl⟩ : ∃ y, m = y + 1 := ⟨m - 1, by omega⟩
    show F_X10_proved_45 _ _ _ _ _ _ = _
    unfold F_X10_proved_45
    rw [dLen hz, fLenJ (up_at _ _ _), Option.bind_some, if_neg (by rw [leq_nI (by omega) (by omega)]; omega), rn_0_4, Option.bind_some, rn_5_0, Option.bind_some, (row_6 x iv ai aj ar pp _).1 i (by omega), Option.bind_some, dJst hz (nI i) _ (up_at _ _ _), ixr (show i < 4 * len by omega) (by omega), cl_nI (by omega), Option.bind_some, up_up, pvG_s, add_1, ih (i + 1) m (by omega) (by omega)]
theorem m_pv_loop {len q : Nat} (hlen : len ≤ 40) (hq : q < 40) {kd po bo : Int32} (h12 : iv 19 12 = nI len) : ∀ (w i m : Nat), i + w = 4 * len → w < m → L_X11_proved_50 m (hp x iv (tA ai q kd po bo i) (va_up aj 34 (layN (aj 34) q (fun k => (ai 26 k).toInt64) i)) ar pp f0) (x + 19) (nI q) (nI i) = some (nI q, hp x iv (tA ai q kd po bo (4 * len)) (va_up aj 34 (layN (aj 34) q (fun k => (ai 26 k).toInt64) (4 * len))) ar pp f0) := by
  intro w
  induction w with
  | zero =>
    intro i m hi hm
    obtain ⟨m, rfl⟩ : ∃ y, m = y + 1 := ⟨m - 1, by omega⟩
    have : i = 4 * len := by omega
    subst this
    show F_X11_proved_50 _ _ _ _ _ = _
    unfold F_X11_proved_50
    rw [ri_19_12, h12, Option.bind_some, mul_4, if_pos (by rw [leq_nI (by omega) (by omega)]; omega)]
  | succ w ih =>
    intro i m hi hm
    obtain ⟨m, rfl⟩ : ∃ y, m = y + 1 := ⟨m - 1, by omega⟩
    show F_X11_proved_50 _ _ _ _ _ = _
    unfold F_X11_proved_50
    have e := m_tell (x := x) (iv := iv) (ai := ai) (aj := aj) (ar := ar) (pp := pp) (f0 := f0) (m := i) hq (by omega) (kd := kd) (po := po) (bo := bo) (N := fun k => (ai 26 k).toInt64)
    rw [ri_19_12, h12, Option.bind_some, mul_4, if_neg (by rw [leq_nI (by omega) (by omega)]; omega), rn_19_13, Option.bind_some, r26 (by omega), Option.bind_some, if_pos rk_19, tA_ne (by decide) (by decide) (by decide) (by decide), e, Option.bind_some, add_1, ih (i + 1) m (by omega) (by omega)]
theorem rep_sd {S st S' st' : Nat → Int32} {l : List Pt} (h : rep S st l) (h' : rep S' st' l) {k : Nat} (hk : k < 4 * l.length) : S k = S' k := by
  have hr := rep_row h h' (show k / 4 < l.length by omega)
  rcases (show k = 4 * (k / 4) ∨ k = 4 * (k / 4) + 1 ∨ k = 4 * (k / 4) + 2 ∨ k = 4 * (k / 4) + 3 by omega) with e | e | e | e
  · rw [e]; exact congrArg (fun q : Pt => q.1) hr
  · rw [e]; exact congrArg (fun q : Pt => q.2.1) hr
  · rw [e]; exact congrArg (fun q : Pt => q.2.2.1) hr
  · rw [e]; exact congrArg (fun q : Pt => q.2.2.2.1) hr
theorem op_proved (hI0 : INV x z iv ai aj ar pp f0) : Oa x (F_X10_proved z (hp x iv ai aj ar pp f0) x) (fun h => F_X11_proved h (x + 19)) := by
  obtain ⟨l, r1, r2, r3, r4, r5, r6, r7, r8⟩ := hI0.parts
  obtain ⟨hz, own, hT, hS, ⟨np, p1, p2, p3, p4⟩, ⟨nb, b1, b2, b3, b4, b5⟩, hR, ⟨n, q1, q2, q3, q4⟩⟩ := id hI0
  rcases r8 with ⟨rfl, r8⟩ | ⟨p, b, m, a, g, g1, g2, g3, g4, g5, g6, g7, g8, g9, g10, g11, g12, g13, g14, g15⟩
  · refine Oa_no (r := -3) hI0 ?_ ?_
    · unfold F_X10_proved
      rw [rn_0_4, Option.bind_some, ro_5_3, Option.bind_some, r8]
      rfl
    · show F_X11_proved _ _ = _
      unfold F_X11_proved
      rw [ri_19_12, r3, Option.bind_some]
      rfl
  have hbn : b < nb := by rw [b2] at g3; exact (nI_ltI (by omega) (by omega)).mp g3
  have ce : cntS (ai (5 + 2)) 1 l.length 0 0 = cntS (ai 27) 1 l.length 0 0 := cntS_eq (fun j hj => rep_st r4 r5 hj) _ _ _ (by omega)
  have sc := s_count (x := x) (c := 5) (iv := iv) (ai := ai) (aj := aj) (ar := ar) (pp := pp) (f0 := f0) (pc_5 x) (row_7 x) r1 r2 1
  have ec : F_X10_proved z (hp x iv ai aj ar pp f0) x = if cntS (ai 27) 1 l.length 0 0 = nI l.length then L_X10_proved_45 xfuel (z + 1) (hp x iv ai aj ar pp (va_up f0 z (some (.inr (.inl (4 * l.length, pvG (ai 6) 0)))))) x z (nI 0) else some (-3, z, hp x iv ai aj ar pp f0) := by
    have e0 : (fun _ => (0 : Int64)) = pvG (ai 6) 0 := by
      funext j
      unfold pvG
      rw [if_neg (by omega)]
    unfold F_X10_proved
    rw [rn_0_4, Option.bind_some, ro_5_3, Option.bind_some, g10, xnul_s, Option.bind_some, if_pos rk_5, sc, Option.bind_some, Option.bind_some, ri_5_6, r2, Option.bind_some, Option.bind_some, ri_5_6, r2, Option.bind_some, mul_4, hNw_nI (show 4 * l.length ≤ 160 by omega) (by decide), Option.bind_some, hp_dyn hz, Option.bind_some, ce, e0]
    rfl
  have em : ∀ (iv' : Nat → Nat → Int32) (ar' : Nat → Nat → Option Nat) (f1 : xHp), iv' 19 = iv 19 → F_X11_proved (hp x iv' ai aj ar' pp f1) (x + 19) = if cntS (ai 27) 1 l.length 0 0 = nI l.length then (if iv 19 20 = 40 then some (-4, hp x iv' ai aj ar' pp f1) else (F_X11_newProof (hp x iv' ai aj ar' pp f1) (x + 19) 2 (nI p) (nI b)).bind fun q12 => L_X11_proved_50 xfuel q12.2 (x + 19) q12.1 0) else some (-3, hp x iv' ai aj ar' pp f1) := by
    intro iv' ar' f1 e19
    unfold F_X11_proved
    have e12 : iv' 19 12 = nI l.length := by rw [e19]; exact r3
    have mc := m_count (x := x) (iv := iv') (ai := ai) (aj := aj) (ar := ar') (pp := pp) (f0 := f1) r1 e12 1
    rw [ri_19_12, e12, Option.bind_some, if_neg (show ¬ nI l.length = 0 by rw [ceq_0 (by omega)]; omega), if_pos rk_19, mc, Option.bind_some, Option.bind_some, ri_19_20, e19, Option.bind_some, ri_19_10, e19, g6, Option.bind_some, ri_19_11, e19, g8, Option.bind_some, if_pos rk_19]
  by_cases hc : cntS (ai 27) 1 l.length 0 0 = nI l.length
  case neg => exact Oa_no (r := -3) hI0 (ec.trans (if_neg hc)) ((em iv ar f0 rfl).trans (if_neg hc))
  have hall := cntS_all (by omega) hc
  have cc := (ec.trans (if_pos hc)).trans (s_pv_loop (x := x) (iv := iv) (ai := ai) (aj := aj) (ar := ar) (pp := pp) (f0 := f0) hz r1 g4 g5 g7 g10 (4 * l.length) 0 xfuel (by omega) (Nat.lt_of_le_of_lt (show 4 * l.length ≤ 160 by omega) (by decide)))
  generalize hf2 : (va_up (va_up (va_up (va_up f0 z (some (.inr (.inl (4 * l.length, pvG (ai 6) (4 * l.length)))))) (z + 1) (some (.inr (.inr (.inr (3, [.int 0, .null, .int 0, .null, .int 0, .null])))))) (z + 2) (some (.inl (4, fun j => if j < 4 then ai 3 (4 * b + j) else 0)))) (z + 1) (some (.inr (.inr (.inr (3, [.int (nI b), .ref (z + 2), .int 2, .ref a, .int (nI p), .ref z])))))) = f2 at cc
  have k1 : f2 (z + 1) = some (.inr (.inr (.inr (3, [.int (nI b), .ref (z + 2), .int 2, .ref a, .int (nI p), .ref z])))) := by rw [← hf2, up_at]
  have k2 : f2 z = some (.inr (.inl (4 * l.length, pvG (ai 6) (4 * l.length)))) := by rw [← hf2, up_ne _ _ (by omega), up_ne _ _ (by omega), up_ne _ _ (by omega), up_at]
  have k3 : f2 (z + 2) = some (.inl (4, fun j => if j < 4 then ai 3 (4 * b + j) else 0)) := by rw [← hf2, up_ne _ _ (by omega), up_at]
  have k4 : ∀ c, c < z → f2 c = f0 c := fun c hc => by rw [← hf2, up_ne _ _ (by omega), up_ne _ _ (by omega), up_ne _ _ (by omega), up_ne _ _ (by omega)]
  rw [s_keepProof q1 q2 ((dK (show x + 41 ≤ z + 1 by omega)).trans (fK k1)) (Or.inr (Or.inl rfl))] at cc
  by_cases hn : n < 40
  · rw [if_pos hn, Option.bind_some] at cc
    refine ⟨nI n, z + 3, _, cc, rk_19, u2 (u2 iv 0 8 (nI (n + 1))) 19 20 (nI (n + 1)), tA ai n 2 (nI p) (nI b) (4 * l.length), va_up aj 34 (layN (aj 34) n (fun k => (ai 26 k).toInt64) (4 * l.length)), u2 ar 4 n (some (z + 1)), pp, f2, ?_, ?_⟩
    · refine (em (u2 iv 0 8 (nI (n + 1))) _ _ rfl).trans ((if_pos hc).trans ?_)
      have e20 : u2 iv 0 8 (nI (n + 1)) 19 20 = nI n := q3
      rw [if_neg (show ¬ iv 19 20 = 40 by rw [q3, ceq_40 (by omega)]; omega), m_newProof hn e20, Option.bind_some]
      have lo := m_pv_loop (x := x) (iv := u2 (u2 iv 0 8 (nI (n + 1))) 19 20 (nI (n + 1))) (ai := ai) (aj := aj) (ar := u2 ar 4 n (some (z + 1))) (pp := pp) (f0 := f2) (q := n) (kd := 2) (po := nI p) (bo := nI b) r1 hn r3 (4 * l.length) 0 xfuel (by omega) (Nat.lt_of_le_of_lt (show 4 * l.length ≤ 160 by omega) (by decide))
      rw [layN_0, up_self] at lo
      exact lo
    · refine hI0.newProof (A := z + 1) (B := z) (m := 4 * l.length) hn q2 (by omega) k4 (fun s hs => ?_) rfl rfl rfl (fun s a1 a2 => ?_) rfl (fun k a1 a2 a3 a4 => tA_ne a1 a2 a3 a4) tA_30 tA_31 tA_32 tA_33 ?_ ?_ (fun i hi => ?_) rfl rfl rfl rfl (fun own => ?_)
      · show u2 iv 0 8 (nI (n + 1)) 0 s = iv 0 s
        exact u2_nt _ _ hs
      · show u2 (u2 iv 0 8 (nI (n + 1))) 19 20 (nI (n + 1)) 19 s = iv 19 s
        rw [u2_nt _ _ a2]
        rfl
      · exact up_ne aj _ (by decide)
      · exact up_ne aj _ (by decide)
      · show va_up aj 34 (layN (aj 34) n (fun k => (ai 26 k).toInt64) (4 * l.length)) 34 i = aj 34 i
        rw [up_at, layN_lt hi]
      · refine ⟨z + 1, z, 4 * l.length, p, a, pvG (ai 6) (4 * l.length), rfl, ⟨by omega, by omega, ?_⟩, ⟨by omega, by omega, ?_⟩, k2, by omega, rfl, g1, g2, rfl, g9.symm.trans g10, fun i hi => ?_, Or.inr (Or.inr ⟨z + 2, b, _, ⟨by omega, by omega, ?_⟩, k3, g3, g4, rfl, fun i hi => ?_, Or.inr ⟨rfl, k1, m, l, g13, r1, rfl, fun w hw => ?_⟩⟩)⟩
        · unfold ownP
          rw [if_neg (by omega), if_pos rfl]
        · unfold ownP
          rw [if_neg (by omega), if_neg (by omega), if_pos rfl]
        · show pvG (ai 6) (4 * l.length) i = va_up aj 34 (layN (aj 34) n (fun k => (ai 26 k).toInt64) (4 * l.length)) 34 (160 * n + i)
          rw [up_at, layN_at hi]
          unfold pvG
          rw [if_pos hi, rep_sd r4 r5 hi]
        · unfold ownP
          rw [if_neg (by omega), if_neg (by omega), if_neg (by omega)]
        · show (if i < 4 then ai 3 (4 * b + i) else 0) = ai 25 (4 * b + i)
          rw [if_pos hi, b4 _ (by omega)]
        · obtain ⟨i, hi, rfl⟩ := List.getElem_of_mem hw
          rw [rep_get r5 hi]
          exact hall i hi
  · rw [if_neg hn, Option.bind_some] at cc
    refine ⟨-4, z + 3, _, cc, rk_19, iv, ai, aj, ar, pp, f2, ?_, ?_⟩
    · refine (em iv ar f2 rfl).trans ((if_pos hc).trans ?_)
      rw [if_pos (show iv 19 20 = 40 by rw [q3, ceq_40 (by omega)]; omega)]
    · exact hI0.ext (by omega) k4 rfl rfl rfl (fun _ _ => rfl) (fun _ _ _ _ _ _ _ => rfl) rfl rfl rfl rfl
end PROVED

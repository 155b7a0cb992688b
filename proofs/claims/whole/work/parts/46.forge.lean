/-! as, forge -/
section FORGE
variable {x z : Nat} {iv ai : Nat → Nat → Int32} {aj : Nat → Nat → Int64} {ar : Nat → Nat → Option Nat} {pp : Nat → Option Nat} {f0 : xHp}
theorem op_as (hI0 : INV x z iv ai aj ar pp f0) (q w : Int32) : Ow x z (F_X10_as (hp x iv ai aj ar pp f0) x q w) (fun h => F_X11_as h (x + 19) q w) := by
  obtain ⟨hz, own, hT, hS, hP, hB, hR, ⟨n, q1, q2, q3, q4⟩⟩ := id hI0
  have base : ∀ v : Int32, INV x z (u2 (u2 (u2 (u2 iv 0 9 0) 0 9 v) 19 0 0) 19 0 v) ai aj ar pp f0 := fun v => ⟨hz, own, ⟨rfl, hT.2⟩, hS, hP, hB, hR, ⟨n, q1, q2, q3, q4⟩⟩
  have base0 : INV x z (u2 (u2 iv 0 9 0) 19 0 0) ai aj ar pp f0 := ⟨hz, own, ⟨rfl, hT.2⟩, hS, hP, hB, hR, ⟨n, q1, q2, q3, q4⟩⟩
  have q2' : u2 iv 0 9 0 0 8 = nI n := q2
  have q3' : ∀ u : Int32, u2 (u2 iv 0 9 u) 19 0 0 19 20 = nI n := fun _ => q3
  have q3'' : ∀ u v : Int32, u2 (u2 (u2 iv 0 9 u) 0 9 v) 19 0 0 19 20 = nI n := fun _ _ => q3
  by_cases h1 : 0 ≤ q.toInt ∧ q.toInt < n
  case neg =>
    refine ⟨-1, hp x (u2 iv 0 9 0) ai aj ar pp f0, ?_, rk_19, _, _, _, _, _, _, ?_, base0⟩
    · unfold F_X10_as
      rw [wi_0_9, Option.bind_some, if_pos rk_0, s_proofNo q1 q2' h1]
      rfl
    · show F_X11_as _ _ _ _ = _
      unfold F_X11_as
      rw [wi_19_0, Option.bind_some, if_pos rk_19, m_isProof q1 (q3' 0), Option.bind_some, if_neg h1]
      exact if_pos rfl
  obtain ⟨j, hj, rfl⟩ := inN (by omega) h1
  obtain ⟨a, b, m, g, a1, a2, a3, a4, a5, a6⟩ := (q4 j hj).view
  obtain ⟨v1, v2, v3, v4, v5, v6, v7, v8⟩ := id a6
  have hj40 : j < 40 := by omega
  have em : ∀ (iv : Nat → Nat → Int32), u2 iv 19 0 0 19 20 = nI n → F_X11_as (hp x iv ai aj ar pp f0) (x + 19) (nI j) w = if 0 ≤ w.toInt ∧ w.toInt ≤ 4 then (if w = 4 then F_X11_as_66 (hp x (u2 iv 19 0 0) ai aj ar pp f0) (x + 19) else if w = ai 30 j then F_X11_as_66 (hp x (u2 iv 19 0 0) ai aj ar pp f0) (x + 19) else if w = 0 then (if ai 30 j = 3 then F_X11_as_66 (hp x (u2 iv 19 0 0) ai aj ar pp f0) (x + 19) else F_X11_as_56 (hp x (u2 iv 19 0 0) ai aj ar pp f0) (x + 19) w (ai 30 j)) else F_X11_as_56 (hp x (u2 iv 19 0 0) ai aj ar pp f0) (x + 19) w (ai 30 j)) else some (-2, hp x (u2 iv 19 0 0) ai aj ar pp f0) := by
    intro iv h20
    unfold F_X11_as
    rw [wi_19_0, Option.bind_some, if_pos rk_19, m_isProof q1 h20, Option.bind_some, if_pos h1, if_neg (show ¬ (1 : Int32) = 0 by decide), rn_19_21, Option.bind_some, r30 hj40, Option.bind_some]
    simp only [Option.bind_some, s_within, if10, w32 (lo := 0) (hi := 3) (l := 0) (h := 3) rfl rfl, w32 (lo := 0) (hi := 2) (l := 0) (h := 2) rfl rfl, w32 (lo := 0) (hi := 8) (l := 0) (h := 8) rfl rfl, w32 (lo := 0) (hi := 1) (l := 0) (h := 1) rfl rfl, w32 (lo := 0) (hi := 500) (l := 0) (h := 500) rfl rfl, w32 (lo := -1000) (hi := 1000) (l := -1000) (h := 1000) rfl rfl, w32 (lo := 0) (hi := 4) (l := 0) (h := 4) rfl rfl, w32 (lo := -2048) (hi := 2048) (l := -2048) (h := 2048) rfl rfl]
    by_cases h2 : 0 ≤ w.toInt ∧ w.toInt ≤ 4
    · rw [if_neg (not_not_intro h2), if_pos h2]
    · rw [if_pos h2, if_neg h2]
  have ec : F_X10_as (hp x iv ai aj ar pp f0) x (nI j) w = if w < 0 then some (-2, hp x (u2 iv 0 9 0) ai aj ar pp f0) else if w ≤ 4 then (F_X10_isOfKind (hp x (u2 iv 0 9 0) ai aj ar pp f0) a w).bind (fun q8 => if q8 = 0 then some (-12, hp x (u2 (u2 iv 0 9 0) 0 9 2) ai aj ar pp f0) else some (1, hp x (u2 iv 0 9 0) ai aj ar pp f0)) else some (-2, hp x (u2 iv 0 9 0) ai aj ar pp f0) := by
    unfold F_X10_as
    rw [wi_0_9, Option.bind_some, if_pos rk_0, s_proofOk q1 q2' hj, Option.bind_some, a1, xnul_s, if_pos rk_0, s_faulted, Option.bind_some]
    rfl
  by_cases h2 : 0 ≤ w.toInt ∧ w.toInt < 5
  case neg =>
    refine ⟨-2, hp x (u2 iv 0 9 0) ai aj ar pp f0, ?_, rk_19, _, _, _, _, _, _, (em _ (q3' 0)).trans (if_neg (by omega)), base0⟩
    rw [ec]
    by_cases hn : w < 0
    · rw [if_pos hn]
    · rw [if_neg hn, if_neg]
      intro q
      have q1 := Int32.le_iff_toInt_le.mp q
      have q2 := Int32.le_iff_toInt_le.mp (Int32.not_lt.mp hn)
      have e1 : (4 : Int32).toInt = 4 := rfl
      have e2 : (0 : Int32).toInt = 0 := rfl
      exact h2 ⟨by omega, by omega⟩
  obtain ⟨k, hk, rfl⟩ := inN (n := 5) (k := w) (by omega) (by omega)
  have h04 : 0 ≤ (nI k).toInt ∧ (nI k).toInt ≤ 4 := by omega
  have ec' : F_X10_as (hp x iv ai aj ar pp f0) x (nI j) (nI k) = (F_X10_isOfKind (hp x (u2 iv 0 9 0) ai aj ar pp f0) a (nI k)).bind (fun q8 => if q8 = 0 then some (-12, hp x (u2 (u2 iv 0 9 0) 0 9 2) ai aj ar pp f0) else some (1, hp x (u2 iv 0 9 0) ai aj ar pp f0)) := by
    rw [ec, if_neg (show ¬ nI k < 0 by rw [neg_nI (by omega)]; exact id), if_pos (show nI k ≤ 4 by rw [cel_4 (by omega)]; omega)]
  have yes : F_X10_isOfKind (hp x (u2 iv 0 9 0) ai aj ar pp f0) a (nI k) = some 1 → (nI k = 4 ∨ nI k = ai 30 j ∨ (nI k = 0 ∧ ai 30 j = 3) ∨ (nI k = 1 ∧ ai 30 j = 2)) → Ow x z (F_X10_as (hp x iv ai aj ar pp f0) x (nI j) (nI k)) (fun h => F_X11_as h (x + 19) (nI j) (nI k)) := by
    intro e1 e2
    refine ⟨1, hp x (u2 iv 0 9 0) ai aj ar pp f0, ?_, rk_19, _, _, _, _, _, _, ?_, base0⟩
    · rw [ec', e1, Option.bind_some, if_neg (show ¬ (1 : Int32) = 0 by decide)]
    · refine (em _ (q3' 0)).trans ((if_pos h04).trans ?_)
      have e66 : F_X11_as_66 (hp x (u2 (u2 iv 0 9 0) 19 0 0) ai aj ar pp f0) (x + 19) = some (1, hp x (u2 (u2 iv 0 9 0) 19 0 0) ai aj ar pp f0) := by
        unfold F_X11_as_66 F_X11_as_71
        rw [if_neg (show ¬ (1 : Int32) = 0 by decide)]
      by_cases f4 : nI k = 4
      · rw [if_pos f4, e66]
      rw [if_neg f4]
      by_cases fk : nI k = ai 30 j
      · rw [if_pos fk, e66]
      rw [if_neg fk]
      rcases e2 with e2 | e2 | ⟨e2, e3⟩ | ⟨e2, e3⟩
      · exact absurd e2 f4
      · exact absurd e2 fk
      · rw [if_pos e2, if_pos e3, e66]
      · rw [if_neg (show ¬ nI k = 0 by rw [e2]; decide)]
        unfold F_X11_as_56
        rw [if_pos e2, if_pos e3, e66]
  have no : F_X10_isOfKind (hp x (u2 iv 0 9 0) ai aj ar pp f0) a (nI k) = some 0 → ¬ (nI k = 4 ∨ nI k = ai 30 j ∨ (nI k = 0 ∧ ai 30 j = 3) ∨ (nI k = 1 ∧ ai 30 j = 2)) → Ow x z (F_X10_as (hp x iv ai aj ar pp f0) x (nI j) (nI k)) (fun h => F_X11_as h (x + 19) (nI j) (nI k)) := by
    intro e1 e2
    refine ⟨-12, hp x (u2 (u2 iv 0 9 0) 0 9 2) ai aj ar pp f0, ?_, rk_19, u2 (u2 (u2 (u2 iv 0 9 0) 0 9 2) 19 0 0) 19 0 2, ai, aj, ar, pp, f0, ?_, base 2⟩
    · rw [ec', e1, Option.bind_some, if_pos rfl]
    · refine (em _ (q3'' 0 2)).trans ((if_pos h04).trans ?_)
      have e70 : F_X11_as_70 (hp x (u2 (u2 (u2 iv 0 9 0) 0 9 2) 19 0 0) ai aj ar pp f0) (x + 19) = some (-12, hp x (u2 (u2 (u2 (u2 iv 0 9 0) 0 9 2) 19 0 0) 19 0 2) ai aj ar pp f0) := by
        unfold F_X11_as_70 F_X11_as_71
        rw [if_pos rfl, if_pos rk_19, m_fails, Option.bind_some]
        rfl
      have e56 : F_X11_as_56 (hp x (u2 (u2 (u2 iv 0 9 0) 0 9 2) 19 0 0) ai aj ar pp f0) (x + 19) (nI k) (ai 30 j) = some (-12, hp x (u2 (u2 (u2 (u2 iv 0 9 0) 0 9 2) 19 0 0) 19 0 2) ai aj ar pp f0) := by
        unfold F_X11_as_56
        by_cases f1 : nI k = 1
        · rw [if_pos f1, if_neg (fun e => e2 (Or.inr (Or.inr (Or.inr ⟨f1, e⟩)))), e70]
        · rw [if_neg f1, e70]
      rw [if_neg (fun e => e2 (Or.inl e)), if_neg (fun e => e2 (Or.inr (Or.inl e)))]
      by_cases f0 : nI k = 0
      · rw [if_pos f0, if_neg (fun e => e2 (Or.inr (Or.inr (Or.inl ⟨f0, e⟩)))), e56]
      · rw [if_neg f0, e56]
  have ek : ∀ K, hKd f0 a = some K → hKd (hp x (u2 iv 0 9 0) ai aj ar pp f0) a = some K := fun K h => (dK v1).trans h
  rcases v8 with ⟨k1, k2, k3, k4⟩ | ⟨k1, k2, k3, k4⟩ | ⟨k1, k2, k3⟩ | ⟨k1, k2, k3, k4⟩
  all_goals
    rw [k2] at yes no
    have ek1 := ek _ k1
    rcases (show k = 0 ∨ k = 1 ∨ k = 2 ∨ k = 3 ∨ k = 4 by omega) with rfl | rfl | rfl | rfl | rfl
    all_goals first
      | exact yes (by unfold F_X10_isOfKind; rw [ek1]; rfl) (by decide)
      | exact no (by unfold F_X10_isOfKind; rw [ek1]; rfl) (by decide)
theorem pne {a b c d : Nat} (h : a ≠ c) : ¬ ((a, b) = (c, d)) := fun e => h (congrArg Prod.fst e)
theorem pne2 {a b c d : Nat} (h : b ≠ d) : ¬ ((a, b) = (c, d)) := fun e => h (congrArg Prod.snd e)
theorem prOk.ns {own : Nat → Nat × Nat} {q : Nat} {r : Option Nat} {kd po bo ln : Int32} {ns ns' : Nat → Int64} {np nb : Int32} {pr : Nat → Option Nat} {ts : Nat → Int64} {bs : Nat → Int32} (hn : ∀ i, i < 160 → ns' (160 * q + i) = ns (160 * q + i)) (h : prOk x z f0 own q r kd po bo ln ns np nb pr ts bs) : prOk x z f0 own q r kd po bo ln ns' np nb pr ts bs := by
  obtain ⟨a, b, n, p, pa, g, h1, h2, h3, h4, h5, h6, h7, h8, h9, h10, h11, h12⟩ := h
  exact ⟨a, b, n, p, pa, g, h1, h2, h3, h4, h5, h6, h7, h8, h9, h10, fun i hi => (h11 i hi).trans (hn i (by omega)).symm, h12⟩
theorem op_forge (hI0 : INV x z iv ai aj ar pp f0) (q i : Int32) (v : Int64) : Ow x z (F_X10_forge (hp x iv ai aj ar pp f0) x q i v) (fun h => F_X11_forge h (x + 19) q i v) := by
  obtain ⟨hz, own, hT, hS, hP, hB, hR, ⟨n, q1, q2, q3, q4⟩⟩ := id hI0
  by_cases h1 : 0 ≤ q.toInt ∧ q.toInt < n
  case neg =>
    refine Ow_no (r := -1) hI0 ?_ ?_
    · unfold F_X10_forge
      rw [if_pos rk_0, s_proofNo q1 q2 h1]
      rfl
    · show F_X11_forge _ _ _ _ _ = _
      unfold F_X11_forge
      rw [if_pos rk_19, m_isProof q1 q3, Option.bind_some, if_neg h1]
      exact if_pos rfl
  obtain ⟨j, hj, rfl⟩ := inN (by omega) h1
  obtain ⟨a, b, m, g, a1, a2, a3, a4, a5, a6⟩ := (q4 j hj).view
  obtain ⟨v1, v2, v3, v4, v5, v6, v7, v8⟩ := id a6
  have hj40 : j < 40 := by omega
  have em : ∀ (f1 : xHp), F_X11_forge (hp x iv ai aj ar pp f1) (x + 19) (nI j) i v = if 0 ≤ i.toInt ∧ i.toInt < (m : Int) then (if ai 30 j = 1 then F_X11_forge_54 (hp x iv ai aj ar pp f1) (x + 19) (nI j) i v else if -1000000000 ≤ v ∧ v ≤ 1000000000 then F_X11_forge_54 (hp x iv ai aj ar pp f1) (x + 19) (nI j) i v else some (-2, hp x iv ai aj ar pp f1)) else some (-1, hp x iv ai aj ar pp f1) := by
    intro f1
    unfold F_X11_forge
    simp only [rk_19, if_true, m_isProof q1 q3, Option.bind_some, if10, h1, not_true_eq_false, if_false, rn_19_24, rn_19_21, r33 hj40, r30 hj40, a4, s_within, w_ixn (show m ≤ 10000 by omega), one0, and_self]
    by_cases h2 : 0 ≤ i.toInt ∧ i.toInt < (m : Int)
    · rw [if_neg (not_not_intro h2), if_pos h2]
      by_cases h3 : ai 30 j = 1
      · rw [if_pos h3, if_pos h3]
      · rw [if_neg h3, if_neg h3]
        by_cases h4 : -1000000000 ≤ v ∧ v ≤ 1000000000
        · rw [if_neg (not_not_intro h4), if_pos h4]
        · rw [if_pos h4, if_neg h4]
    · rw [if_pos h2, if_neg h2]
  have ec : F_X10_forge (hp x iv ai aj ar pp f0) x (nI j) i v = if 0 ≤ i.toInt ∧ i.toInt < (m : Int) then (if ai 30 j = 1 then F_X10_forge_45 (hp x iv ai aj ar pp f0) i v a else if -1000000000 ≤ v ∧ v ≤ 1000000000 then F_X10_forge_45 (hp x iv ai aj ar pp f0) i v a else some (-2, hp x iv ai aj ar pp f0)) else some (-1, hp x iv ai aj ar pp f0) := by
    unfold F_X10_forge
    rw [if_pos rk_0, s_proofOk q1 q2 hj, Option.bind_some, a1, xnul_s, kindAll _ a6.kinds, s_has a6, Option.bind_some, dI v1, v5, Option.bind_some]
    simp only [if10, s_isWithin, Option.bind_some, show (-(1000000000 : Int64)) = -1000000000 from rfl]
    by_cases h2 : 0 ≤ i.toInt ∧ i.toInt < (m : Int)
    · rw [if_neg (not_not_intro h2), if_pos h2]
      by_cases h3 : ai 30 j = 1
      · rw [if_pos h3, if_pos h3]
      · rw [if_neg h3, if_neg h3]
        by_cases h4 : -1000000000 ≤ v ∧ v ≤ 1000000000
        · rw [if_neg (not_not_intro h4), if_pos h4]
        · rw [if_pos h4, if_neg h4]
    · rw [if_pos h2, if_neg h2]
  by_cases h2 : 0 ≤ i.toInt ∧ i.toInt < (m : Int)
  case neg => exact Ow_no (r := -1) hI0 (ec.trans (if_neg h2)) ((em f0).trans (if_neg h2))
  obtain ⟨k, hk, rfl⟩ := inN (by omega) h2
  have e45 : F_X10_forge_45 (hp x iv ai aj ar pp f0) (nI k) v a = some (1, hp x iv ai aj ar pp (va_up f0 b (some (.inr (.inl (m, va_up g k v)))))) := by
    unfold F_X10_forge_45
    rw [dN v1, v7, Option.bind_some, dJst v2 (nI k) v v3, ixr hk (by omega), cl_nI (by omega), Option.bind_some]
  have e54 : ∀ (f1 : xHp), F_X11_forge_54 (hp x iv ai aj ar pp f1) (x + 19) (nI j) (nI k) v = some (1, hp x iv ai (u2 aj 34 (160 * j + k) v) ar pp f1) := by
    intro f1
    unfold F_X11_forge_54
    rw [rn_19_25, Option.bind_some, mul_160, nI_add, w34 (by omega), Option.bind_some]
  have inv : (ai 30 j = 1 ∨ (-1000000000 ≤ v ∧ v ≤ 1000000000)) → INV x z iv ai (u2 aj 34 (160 * j + k) v) ar pp (va_up f0 b (some (.inr (.inl (m, va_up g k v))))) := by
    intro hv
    have fr : Fr x z z f0 (va_up f0 b (some (.inr (.inl (m, va_up g k v))))) own own (fun t => t = (6, j)) := ⟨Nat.le_refl _, fun c _ _ => ⟨rfl, fun hE => up_ne _ _ (fun e => hE (by rw [e]; exact a3.2.2))⟩⟩
    refine ⟨hz, own, hT, hS.keep fr (fun _ => ⟨pne (by decide), pne (by decide)⟩), hP.keep fr (fun _ => ⟨pne (by decide), pne (by decide)⟩), hB, hR, ⟨n, q1, q2, q3, fun q hq => ?_⟩⟩
    by_cases hqj : q = j
    · subst hqj
      obtain ⟨a', b', m', p, pa, g', c1, c2, c3, c4, c5, c6, c7, c8, c9, c10, c11, c12⟩ := q4 q hq
      have ea : a' = a := Option.some.inj (c1.symm.trans a1)
      subst ea
      have eb : b' = b := by
        have e1 : hN f0 a' [(0, 3), (3, 5), (6, 3), (7, 3)] = some b' := by
          rcases c12 with ⟨_, _, d3, _⟩ | ⟨_, _, d3, _⟩ | ⟨_, _, _, _, _, _, _, _, _, ⟨_, _, d3⟩ | ⟨_, d3, _⟩⟩
          · exact fN d3 rfl rfl
          · exact fN d3 rfl rfl
          · exact fN d3 rfl rfl
          · exact fN d3 rfl rfl
        exact Option.some.inj (e1.symm.trans v7)
      subst eb
      have em2 : (m', g') = (m, g) := Sum.inl.inj (Sum.inr.inj (Option.some.inj (c4.symm.trans v3)))
      have em3 : m' = m := congrArg Prod.fst em2
      have eg : g' = g := congrArg Prod.snd em2
      subst em3
      subst eg
      have hab : a' ≠ b' := ob_ne c2 c3 (by intro e; cases e)
      refine ⟨a', b', m', p, pa, va_up g' k v, c1, c2, c3, up_at _ _ _, c5, c6, c7, c8, c9, c10, fun i hi => ?_, ?_⟩
      · show va_up g' k v i = va_up (aj 34) (160 * q + k) v (160 * q + i)
        by_cases hik : i = k
        · rw [hik, up_at, up_at]
        · rw [up_ne _ _ hik, up_ne _ _ (by omega)]
          exact c11 i hi
      · have hb60 : -1000000000 ≤ v ∧ v ≤ 1000000000 → b60 v := by
          rintro ⟨e1, e2⟩
          exact ⟨Int64.le_trans (by decide) e1, Int64.le_trans e2 (by decide)⟩
        rcases c12 with ⟨d1, d2, d3, w, d4, d5, d6⟩ | ⟨d1, d2, d3, w, d4, d5, d6, d7⟩ | ⟨c, bn, sd, d1, d2, d3, d4, d5, d6, d7⟩
        · have hv' := hb60 (hv.resolve_left (by rw [d1]; decide))
          refine Or.inl ⟨d1, d2, (up_ne _ _ hab).trans d3, w, d4, d5, fun i hi => ?_⟩
          by_cases hik : i = k
          · rw [hik, up_at]; exact hv'
          · rw [up_ne _ _ hik]; exact d6 i hi
        · have hv1 := hv.resolve_left (by rw [d1]; decide)
          refine Or.inr (Or.inl ⟨d1, d2, (up_ne _ _ hab).trans d3, w, d4, d5, fun i hi => ?_, fun i hi hi2 => ?_⟩)
          · by_cases hik : i = k
            · rw [hik, up_at]; exact hb60 hv1
            · rw [up_ne _ _ hik]; exact d6 i hi
          · by_cases hik : i = k
            · rw [hik, up_at]; exact hv1
            · rw [up_ne _ _ hik]; exact d7 i hi hi2
        · have hcb : c ≠ b' := ob_ne d1 c3 (by intro e; cases e)
          refine Or.inr (Or.inr ⟨c, bn, sd, d1, (up_ne _ _ hcb).trans d2, d3, d4, d5, d6, ?_⟩)
          rcases d7 with ⟨e1, e2, e3⟩ | ⟨e1, e2, e3⟩
          · exact Or.inl ⟨e1, e2, (up_ne _ _ hab).trans e3⟩
          · exact Or.inr ⟨e1, (up_ne _ _ hab).trans e2, e3⟩
    · refine ((q4 q hq).keep fr ⟨pne (by decide), pne2 hqj, pne (by decide)⟩).ns (fun i hi => ?_)
      show va_up (aj 34) (160 * j + k) v (160 * q + i) = aj 34 (160 * q + i)
      exact up_ne _ _ (by omega)
  by_cases h3 : ai 30 j = 1
  · exact ⟨1, _, ec.trans ((if_pos h2).trans ((if_pos h3).trans e45)), rk_19, _, _, _, _, _, _, (em _).trans ((if_pos h2).trans ((if_pos h3).trans (e54 _))), inv (Or.inl h3)⟩
  · by_cases h4 : -1000000000 ≤ v ∧ v ≤ 1000000000
    · exact ⟨1, _, ec.trans ((if_pos h2).trans ((if_neg h3).trans ((if_pos h4).trans e45))), rk_19, _, _, _, _, _, _, (em _).trans ((if_pos h2).trans ((if_neg h3).trans ((if_pos h4).trans (e54 _)))), inv (Or.inr h4)⟩
    · exact Ow_no (r := -2) hI0 (ec.trans ((if_pos h2).trans ((if_neg h3).trans (if_neg h4)))) ((em f0).trans ((if_pos h2).trans ((if_neg h3).trans (if_neg h4))))
end FORGE

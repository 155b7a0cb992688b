/-! check -/
theorem rep_side {S st S' st' : Nat → Int32} {l : List Pt} (h : rep S st l) (h' : rep S' st' l) {i : Nat} (hi : i < 4 * l.length) : S i = S' i := by
  have e := rep_row h h' (show i / 4 < l.length by omega)
  unfold qd at e
  have e0 := congrArg (fun q : Pt => q.1) e
  have e1 := congrArg (fun q : Pt => q.2.1) e
  have e2 := congrArg (fun q : Pt => q.2.2.1) e
  have e3 := congrArg (fun q : Pt => q.2.2.2.1) e
  rcases (show i = 4 * (i / 4) ∨ i = 4 * (i / 4) + 1 ∨ i = 4 * (i / 4) + 2 ∨ i = 4 * (i / 4) + 3 by omega) with h | h | h | h
  · rw [h]; exact e0
  · rw [h]; exact e1
  · rw [h]; exact e2
  · rw [h]; exact e3
theorem rep_keep {S st S' st' : Nat → Int32} {l : List Pt} (h : rep S st l) (h1 : ∀ i, i < 4 * l.length → S' i = S i) (h2 : ∀ i, i < l.length → st' i = st i) : rep S' st' l := by
  intro i hi
  rw [h1 _ (by omega), h1 _ (by omega), h1 _ (by omega), h1 _ (by omega), h2 _ hi]
  exact h i hi
theorem shown_any {l : List Pt} (h : ∀ w ∈ l, w.2.2.2.2 = 1) {v : Int32} (hv : ¬ (1 : Int32) = v) : anyS l v = false := by
  unfold anyS
  rw [List.any_eq_false]
  intro q hq
  rw [h q hq]
  simpa using hv
theorem shown_st {S st : Nat → Int32} {l : List Pt} (h : rep S st l) (h1 : ∀ w ∈ l, w.2.2.2.2 = 1) {i : Nat} (hi : i < l.length) : st i = 1 := by
  have e := rep_get h hi
  have e1 := h1 _ (List.getElem_mem hi)
  rw [e] at e1
  exact e1
section CHECK
variable {x z : Nat} {iv ai : Nat → Nat → Int32} {aj : Nat → Nat → Int64} {ar : Nat → Nat → Option Nat} {pp : Nat → Option Nat} {f0 : xHp}
theorem INV.again (hI0 : INV x z iv ai aj ar pp f0) {iv' ai' : Nat → Nat → Int32} {aj' : Nat → Nat → Int64} {pp' : Nat → Option Nat} (h0 : iv' 0 = iv 0) (h5 : iv' 5 = iv 5) (h9 : iv' 9 = iv 9) (h19 : ∀ s, iv' 19 s = iv 19 s) (ha : ∀ k, k ≠ 16 → k ≠ 17 → k ≠ 26 → k ≠ 27 → k ≠ 39 → k ≠ 40 → ai' k = ai k) (h26 : ∀ i, i < 164 → ai' 26 i = ai 26 i) (h27 : ∀ i, i < 41 → ai' 27 i = ai 27 i) (hj : ∀ k, k ≠ 18 → aj' k = aj k) (hp5 : pp' 5 = pp 5) : INV x z iv' ai' aj' ar pp' f0 := by
  obtain ⟨hz, own, hT, hS, hP, hB, ⟨l, r1, r2, r3, r4, r5, r6⟩, hQ⟩ := id hI0
  have A : ∀ k, (k ≠ 16 ∧ k ≠ 17 ∧ k ≠ 26 ∧ k ≠ 27 ∧ k ≠ 39 ∧ k ≠ 40) → ai' k = ai k := fun k h => ha k h.1 h.2.1 h.2.2.1 h.2.2.2.1 h.2.2.2.2.1 h.2.2.2.2.2
  refine ⟨hz, own, ?_, ?_, ?_, ?_, ?_, ?_⟩
  · rw [h0, h9, h19, h19]; exact hT
  · rw [A 20 (by decide), A 21 (by decide), hj 22 (by decide)]; exact hS
  · rw [h0, h19, hj 23 (by decide)]; exact hP
  · rw [h0, h19, A 3 (by decide), A 25 (by decide)]; exact hB
  · rw [h0, h5, h19, h19, h19, h19, h19, hp5, A 6 (by decide), A 7 (by decide), A 25 (by decide), hj 23 (by decide)]
    exact ⟨l, r1, r2, r3, r4, rep_keep r5 (fun i hi => h26 i (by omega)) (fun i hi => h27 i (by omega)), r6⟩
  · rw [h0, h19, hj 23 (by decide), hj 34 (by decide), A 25 (by decide), A 30 (by decide), A 31 (by decide), A 32 (by decide), A 33 (by decide)]; exact hQ
theorem wc_d16 {c : Nat} {sd : Nat → Int32} (hc : x + 41 ≤ c) (e : f0 c = some (.inl (4, sd))) : hIcp (hp x iv ai aj ar pp f0) c 0 (x + 16) 0 4 = some (hp x iv (va_up ai 16 (va_cpy sd (ai 16) 0 0 4)) aj ar pp f0) := by
  unfold hIcp; rw [hp_out hc, e, hp_in 16 (by decide)]
  show (if (0 : Int32) < 0 ∨ (0 : Int32) < 0 ∨ (4 : Int32) < 0 ∨ 4 < (0 : Int32).toNatClampNeg + (4 : Int32).toNatClampNeg ∨ 160 < (0 : Int32).toNatClampNeg + (4 : Int32).toNatClampNeg then none else some (va_up (hp x iv ai aj ar pp f0) (x + 16) (some (.inl (160, va_cpy sd (ai 16) 0 0 4))))) = _
  rw [if_neg (by decide)]
  refine congrArg some (hp_set (k0 := 16) (by decide) ?_ ?_ ?_ ?_ ?_ ?_ ?_ ?_ ?_ ?_ ?_ ?_ ?_ ?_ ?_ ?_ ?_ ?_ ?_ ?_ ?_ ?_ ?_ ?_ ?_ ?_ ?_ ?_ ?_ ?_ ?_ ?_ ?_ ?_ ?_ ?_ ?_ ?_ ?_ ?_ ?_) <;> rfl
theorem chk_2 (hI0 : INV x z iv ai aj ar pp f0) {a b pa c q p bn nb m : Nat} {g T : Nat → Int64} {sd : Nat → Int32} {po bo : Int32} {l : List Pt} (ha : x + 41 ≤ a) (hb : x + 41 ≤ b) (hcc : x + 41 ≤ c) (e : f0 a = some (.inr (.inr (.inr (3, [.int bo, .ref c, .int 2, .ref pa, .int po, .ref b]))))) (eb : f0 b = some (.inr (.inl (4 * l.length, g)))) (ec : f0 c = some (.inl (4, sd))) (hpc : pcell x f0 pa T) (hT : ∀ t, t < 9 → T t = Tm (aj 23) p t) (hq : q < 40) (hp1 : p < 30) (hb1 : bn < 30) (m1 : ai 31 q = nI p) (m2 : ai 32 q = nI bn) (m3 : ai 33 q = nI (4 * l.length)) (hg : ∀ i, i < 4 * l.length → g i = aj 34 (160 * q + i)) (hsd : ∀ j, j < 4 → sd j = ai 25 (4 * bn + j)) (hbn : bn < nb) (b5 : ∀ b, b < nb → rg (ai 25 (4 * b)) (ai 25 (4 * b + 1)) ∧ rg (ai 25 (4 * b + 2)) (ai 25 (4 * b + 3))) (hl : l.length ≤ 40) (hit : itL (Tm (aj 23) p) m [bx (ai 25) bn] = some l) (hsh : ∀ w ∈ l, w.2.2.2.2 = 1) {M : xHp → Option (Int32 × xHp)} (hMM : ∀ (iv' ai' : Nat → Nat → Int32) (aj' : Nat → Nat → Int64) (pp' : Nat → Option Nat), iv' 19 20 = iv 19 20 → ai' 30 = ai 30 → M (hp x iv' ai' aj' ar pp' f0) = F_X11_checkParts (hp x iv' ai' aj' ar pp' f0) (x + 19) (nI q)) : Ow x z ((F_X3_firstWrong (hp x iv ai aj ar pp f0) a (x + 9)).bind (fun q7 => if 0 ≤ q7.1 then some (-20 - q7.1, q7.2) else some (1, q7.2))) M := by
  have hr0 : rgL [bx (ai 25) bn] := bx_rg hbn b5
  have hk := itL_keeps _ _ _ hit (by show 1 ≤ 40; decide) hr0
  have hm : m ≤ 500 := by
    have h1 := shut_le l
    have h2 : [bx (ai 25) bn].length = 1 := rfl
    omega
  have hrun : runL (Tm (aj 23) p) 500 [bx (ai 25) bn] = (m, l) := runL_of m 500 _ _ hit (stepL_shut (shown_any hsh (by decide)) (shown_any hsh (by decide))) hm
  -- the class
  have w17 : ∀ (iv' ai' : Nat → Nat → Int32) (pp' : Nat → Option Nat), hIst (hp x iv' ai' aj ar pp' f0) (x + 17) 0 0 = some (hp x iv' (u2 ai' 17 0 0) aj ar pp' f0) := fun iv' ai' pp' => (row_17 x iv' ai' aj ar pp' f0).2.1 0 0 (by decide)
  have n33 : ∀ (iv' ai' : Nat → Nat → Int32) (aj' : Nat → Nat → Int64) (pp' : Nat → Option Nat) (k v : Nat), ([Value.int bo, .ref c, .int 2, .ref pa, .int po, .ref b])[k]? = some (.ref v) → hN (hp x iv' ai' aj' ar pp' f0) a [(3, k)] = some v := fun iv' ai' aj' pp' k v hv => (dN ha _).trans (fN (k := k) e (by simp [List.lookup]) hv)
  obtain ⟨iv1, ai1, aj1, s0, k1, s1, s2, s3, s4, s5, s6⟩ := s_run (x := x) (c := 15) (ar := ar) (pp := va_up pp 15 (some pa)) (f0 := f0) (pc_15 x) (row_16 x) (row_17 x) hpc (up_at _ _ _) hT 500 0 xfuel [bx (ai 25) bn] (u2 (u2 (u2 iv 15 6 1) 15 7 0) 15 10 0) (u2 (va_up ai 16 (va_cpy sd (ai 16) 0 0 4)) 17 0 0) aj (by omega) (by decide) (by show 1 ≤ 40; decide) (rep_one (by
      show (va_cpy sd (ai 16) 0 0 4 0, va_cpy sd (ai 16) 0 0 4 1, va_cpy sd (ai 16) 0 0 4 2, va_cpy sd (ai 16) 0 0 4 3, (0 : Int32)) = _
      rw [cpy_in (by decide) (by decide), cpy_in (by decide) (by decide), cpy_in (by decide) (by decide), cpy_in (by decide) (by decide), hsd _ (by decide), hsd _ (by decide), hsd _ (by decide), hsd _ (by decide)]
      rfl)) rfl rfl hr0 rfl
  rw [hrun] at s0 s1 s2
  have s0' : L_X2_steps_7 xfuel (hp x (u2 (u2 (u2 iv 15 6 1) 15 7 0) 15 10 0) (u2 (va_up ai 16 (va_cpy sd (ai 16) 0 0 4)) 17 0 0) aj ar (va_up pp 15 (some pa)) f0) (x + 15) 500 0 = some (nI (0 + m), hp x iv1 ai1 aj1 ar (va_up pp 15 (some pa)) f0) := s0
  have ec1 : F_X3_firstWrong (hp x iv ai aj ar pp f0) a (x + 9) = L_X3_firstWrong_28 xfuel (hp x iv1 ai1 aj1 ar (va_up pp 15 (some pa)) f0) a (x + 15) (nI (4 * 0)) := by
    unfold F_X3_firstWrong F_X2_begin F_X2_steps
    rw [rn_9_3, Option.bind_some, n33 iv ai aj pp 3 pa rfl, Option.bind_some, n33 iv ai aj pp 1 c rfl, Option.bind_some, if_pos rk_15, wo_15_3, Option.bind_some, rn_15_0, Option.bind_some, wc_d16 hcc ec, Option.bind_some, rn_15_1, Option.bind_some, w17, Option.bind_some, wi_15_6, Option.bind_some, wi_15_7, Option.bind_some, Option.bind_some, if_pos rk_15, wi_15_10, Option.bind_some, s0', Option.bind_some]
    rfl
  have A1 : ∀ k, k ≠ 16 → k ≠ 17 → ai1 k = ai k := fun k a1 a2 => (k1.2.2.1 k a1 a2).trans ((u2_ne _ _ _ a2).trans (up_ne _ _ a1))
  have I1 : ∀ k, k ≠ 15 → iv1 k = iv k := fun k h => (k1.1 k h).trans (by rw [u2_ne _ _ _ h, u2_ne _ _ _ h, u2_ne _ _ _ h])
  have J1 : ∀ k, k ≠ 18 → aj1 k = aj k := k1.2.2.2
  -- the reference: saved, begun again
  generalize hai2 : va_up (va_up ai1 39 (frm (ai1 26) (ai1 39) 164 0)) 40 (frm (va_up ai1 39 (frm (ai1 26) (ai1 39) 164 0) 27) (va_up ai1 39 (frm (ai1 26) (ai1 39) 164 0) 40) 41 0) = ai2
  have A2 : ∀ k, k ≠ 39 → k ≠ 40 → ai2 k = ai1 k := fun k a1 a2 => by rw [← hai2, up_ne _ _ a2, up_ne _ _ a1]
  have A39 : ∀ i, i < 164 → ai2 39 i = ai 26 i := fun i hi => by rw [← hai2, up_ne _ _ (by decide), up_at, frm_in hi, A1 26 (by decide) (by decide)]
  have A40 : ∀ i, i < 41 → ai2 40 i = ai 27 i := fun i hi => by rw [← hai2, up_at, frm_in hi, up_ne _ _ (by decide), A1 27 (by decide) (by decide)]
  obtain ⟨iv3, ai3, t0, k3, t1, t2, t3⟩ := m_run (x := x) (aj := aj1) (ar := ar) (pp := va_up pp 15 (some pa)) (f0 := f0) hp1 (T := Tm (aj 23) p) (by rw [J1 23 (by decide)]) 500 0 xfuel [bx (ai 25) bn] (u2 (u2 iv1 19 10 (nI p)) 19 12 1) (va_up (u2 ai2 27 0 0) 26 (cpB (ai2 26) (ai2 25) bn 0)) (by omega) (by decide) rfl (by show 1 ≤ 40; decide) (rep_one (by rw [A2 25 (by decide) (by decide), A1 25 (by decide) (by decide)]; rfl)) rfl hr0
  rw [hrun] at t0 t1 t2
  have t0' : ∃ rr, L_X11_cover_27 xfuel (hp x (u2 (u2 iv1 19 10 (nI p)) 19 12 1) (va_up (u2 ai2 27 0 0) 26 (cpB (ai2 26) (ai2 25) bn 0)) aj1 ar (va_up pp 15 (some pa)) f0) (x + 19) 500 0 = some (rr, hp x iv3 ai3 aj1 ar (va_up pp 15 (some pa)) f0) := ⟨_, t0⟩
  obtain ⟨rr, t0'⟩ := t0'
  have A3 : ∀ k, k ≠ 26 → k ≠ 27 → ai3 k = ai2 k := fun k a1 a2 => (k3.2.2 k a1 a2).trans ((up_ne _ _ a1).trans (u2_ne _ _ _ a2))
  have hcov : F_X11_cover (hp x (u2 (u2 iv1 19 10 (nI p)) 19 12 1) (va_up (u2 ai2 27 0 0) 26 (cpB (ai2 26) (ai2 25) bn 0)) aj1 ar (va_up pp 15 (some pa)) f0) (x + 19) 500 = some (rr, hp x iv3 ai3 aj1 ar (va_up pp 15 (some pa)) f0) := by
    unfold F_X11_cover
    rw [s_within, Option.bind_some, if_pos (show (0 : Int64) ≤ (500 : Int32).toInt64 ∧ (500 : Int32).toInt64 ≤ 500 by decide), if_neg e10, ri_19_12, Option.bind_some, if_neg (show ¬ u2 (u2 iv1 19 10 (nI p)) 19 12 1 19 12 = 0 from e10), t0']
  have em1 : F_X11_checkParts (hp x iv1 ai1 aj1 ar (va_up pp 15 (some pa)) f0) (x + 19) (nI q) = L_X11_checkParts_129 xfuel (hp x iv3 ai3 aj1 ar (va_up pp 15 (some pa)) f0) (x + 19) (nI q) (iv 19 12) (iv 19 10) (iv 19 15) (iv 19 16) (-9) (nI l.length) (nI 0) := by
    have e56 : ∀ v1 v2 v3 v4 : Int32, L_X11_checkParts_56 1 (hp x iv1 ai2 aj1 ar (va_up pp 15 (some pa)) f0) (x + 19) (nI q) v1 v2 v3 v4 41 = L_X11_checkParts_129 xfuel (hp x iv3 ai3 aj1 ar (va_up pp 15 (some pa)) f0) (x + 19) (nI q) v1 v2 v3 v4 (-9) (nI l.length) (nI 0) := by
      intro v1 v2 v3 v4
      show F_X11_checkParts_56 _ _ _ _ _ _ _ _ _ = _
      unfold F_X11_checkParts_56
      rw [if_pos (show (41 : Int32) ≤ 41 by decide), rn_19_22, Option.bind_some, r31 hq, Option.bind_some, A2 31 (by decide) (by decide), A1 31 (by decide) (by decide), m1, wi_19_10, Option.bind_some, rn_19_23, Option.bind_some, r32 hq, Option.bind_some, if_pos rk_19, A2 32 (by decide) (by decide), A1 32 (by decide) (by decide), m2, m_begin hb1, Option.bind_some, if_pos rk_19, hcov, Option.bind_some, rn_19_24, Option.bind_some, r33 hq, Option.bind_some, A3 33 (by decide) (by decide), A2 33 (by decide) (by decide), A1 33 (by decide) (by decide), m3, div_4 (by omega), show 4 * l.length / 4 = l.length by omega]
      rfl
    unfold F_X11_checkParts
    rw [ri_19_12, Option.bind_some, ri_19_10, Option.bind_some, ri_19_15, Option.bind_some, ri_19_16, Option.bind_some, I1 19 (by decide)]
    have e25 := sv_25 (x := x) (iv := iv1) (aj := aj1) (ar := ar) (pp := va_up pp 15 (some pa)) (f0 := f0) (q := nI q) (v1 := iv 19 12) (v2 := iv 19 10) (v3 := iv 19 15) (v4 := iv 19 16) 164 0 xfuel ai1 (by omega) (by decide)
    have e56' := sv_56 (x := x) (iv := iv1) (aj := aj1) (ar := ar) (pp := va_up pp 15 (some pa)) (f0 := f0) (q := nI q) (v1 := iv 19 12) (v2 := iv 19 10) (v3 := iv 19 15) (v4 := iv 19 16) 41 0 xfuel (va_up ai1 39 (frm (ai1 26) (ai1 39) 164 0)) (by omega) (by decide)
    rw [hai2] at e56'
    exact e25.trans (e56'.trans (e56 _ _ _ _))
  -- compared
  obtain ⟨r, a7, c1, c2, c3⟩ := cmp_both (L := l.length) (G := g) (V := ai3 26) (H := hp x iv1 ai1 aj1 ar (va_up pp 15 (some pa)) f0) (H2 := hp x iv3 ai3 aj1 ar (va_up pp 15 (some pa)) f0) (a := a) (b := b) (c := x + 15) (d := x + 16) (o := x + 19) (d2 := x + 26) (d3 := x + 27) (qq := nI q) (v1 := iv 19 12) (v2 := iv 19 10) (v3 := iv 19 15) (v4 := iv 19 16) hl (n33 iv1 ai1 aj1 _ 5 b rfl) ((dLen hb).trans (fLenJ eb)) (fun i hi => dld hb eb hi (by omega)) rn_15_0 (fun i hi => ((row_16 x iv1 ai1 aj1 ar _ f0).1 i (by omega)).trans (congrArg some (rep_side s1 t1 hi))) rk_19 (fun i hi => (m_pn hq (by omega)).trans (by rw [J1 34 (by decide), hg i hi])) rn_19_13 (fun i hi => r26 (by omega)) (ri_19_12.trans (congrArg some t2)) rn_19_14 (fun i hi => (r27 (by omega)).trans (congrArg some (shown_st t1 hsh hi))) l.length 0 xfuel xfuel (by omega) (Nat.lt_of_le_of_lt (show 4 * l.length ≤ 160 by omega) (by decide)) (Nat.lt_of_le_of_lt (show l.length + 1 ≤ 41 by omega) (by decide))
  -- put back
  have e266 : F_X11_checkParts_266 (hp x iv3 ai3 aj1 ar (va_up pp 15 (some pa)) f0) (x + 19) (iv 19 12) (iv 19 10) (iv 19 15) (iv 19 16) a7 = some (if a7 = -9 then 1 else -20 - a7, hp x (u2 (u2 (u2 (u2 iv3 19 12 (iv 19 12)) 19 10 (iv 19 10)) 19 15 (iv 19 15)) 19 16 (iv 19 16)) (va_up (va_up ai3 26 (frm (ai3 39) (ai3 26) 164 0)) 27 (frm (va_up ai3 26 (frm (ai3 39) (ai3 26) 164 0) 40) (va_up ai3 26 (frm (ai3 39) (ai3 26) 164 0) 27) 41 0)) aj1 ar (va_up pp 15 (some pa)) f0) := by
    unfold F_X11_checkParts_266
    rw [wi_19_12, Option.bind_some, wi_19_10, Option.bind_some, wi_19_15, Option.bind_some, wi_19_16, Option.bind_some]
    exact (sv_291 164 0 xfuel ai3 (by omega) (by decide)).trans (sv_322 41 0 xfuel _ (by omega) (by decide))
  refine ⟨if 0 ≤ r then -20 - r else 1, hp x iv1 ai1 aj1 ar (va_up pp 15 (some pa)) f0, ?_, rk_19, _, _, _, _, _, _, (hMM _ _ _ _ (by rw [I1 19 (by decide)]) (A1 30 (by decide) (by decide))).trans (em1.trans (c2.trans (e266.trans (by rw [c3])))), ?_⟩
  · rw [ec1, c1, Option.bind_some]
    show (if 0 ≤ r then some (-20 - r, hp x iv1 ai1 aj1 ar (va_up pp 15 (some pa)) f0) else some (1, hp x iv1 ai1 aj1 ar (va_up pp 15 (some pa)) f0)) = _
    by_cases h0 : 0 ≤ r
    · rw [if_pos h0, if_pos h0]
    · rw [if_neg h0, if_neg h0]
  · have I3 : ∀ k, k ≠ 19 → iv3 k = iv1 k := fun k h => (k3.1 k h).trans (by rw [u2_ne _ _ _ h, u2_ne _ _ _ h])
    refine hI0.again ?_ ?_ ?_ (fun s => ?_) (fun k a1 a2 a3 a4 a5 a6 => ?_) (fun i hi => ?_) (fun i hi => ?_) J1 (up_ne _ _ (by decide))
    · rw [u2_ne _ _ _ (by decide), u2_ne _ _ _ (by decide), u2_ne _ _ _ (by decide), u2_ne _ _ _ (by decide), I3 0 (by decide), I1 0 (by decide)]
    · rw [u2_ne _ _ _ (by decide), u2_ne _ _ _ (by decide), u2_ne _ _ _ (by decide), u2_ne _ _ _ (by decide), I3 5 (by decide), I1 5 (by decide)]
    · rw [u2_ne _ _ _ (by decide), u2_ne _ _ _ (by decide), u2_ne _ _ _ (by decide), u2_ne _ _ _ (by decide), I3 9 (by decide), I1 9 (by decide)]
    · by_cases h16 : s = 16
      · rw [h16, u2_tt]
      rw [u2_nt _ _ h16]
      by_cases h15 : s = 15
      · rw [h15, u2_tt]
      rw [u2_nt _ _ h15]
      by_cases h10 : s = 10
      · rw [h10, u2_tt]
      rw [u2_nt _ _ h10]
      by_cases h12 : s = 12
      · rw [h12, u2_tt]
      rw [u2_nt _ _ h12, k3.2.1 s h12 h15 h16, u2_nt _ _ h12, u2_nt _ _ h10, I1 19 (by decide)]
    · rw [up_ne _ _ a4, up_ne _ _ a3, A3 k a3 a4, A2 k a5 a6, A1 k a1 a2]
    · rw [up_ne _ _ (by decide), up_at, frm_in hi, A3 39 (by decide) (by decide), A39 i hi]
    · rw [up_at, frm_in hi, up_ne _ _ (by decide), A3 40 (by decide) (by decide), A40 i hi]
theorem op_check (hI0 : INV x z iv ai aj ar pp f0) (q : Int32) : Ow x z (F_X10_check (hp x iv ai aj ar pp f0) x q) (fun h => F_X11_check h (x + 19) q) := by
  obtain ⟨hz, own, hT, hS, ⟨np, p1, p2, p3, p4⟩, ⟨nb, b1, b2, b3, b4, b5⟩, hR, ⟨n, q1, q2, q3, q4⟩⟩ := id hI0
  by_cases h1 : 0 ≤ q.toInt ∧ q.toInt < n
  case neg =>
    refine Ow_no (r := -1) hI0 ?_ ?_
    · unfold F_X10_check
      rw [if_pos rk_0, s_proofNo q1 q2 h1]
      rfl
    · show F_X11_check _ _ _ = _
      unfold F_X11_check
      rw [if_pos rk_19, m_isProof q1 q3, Option.bind_some, if_neg h1]
      exact if_pos rfl
  obtain ⟨j, hj, rfl⟩ := inN (by omega) h1
  have hj40 : j < 40 := by omega
  obtain ⟨a, b, k, p, pa, g, a1, a2, a3, a4, a5, a6, a7, a8, a9, a10, a11, a12⟩ := q4 j hj
  have hpn : p < np := by
    rw [p2] at a7
    exact (nI_ltI (by omega) (by omega)).mp a7
  obtain ⟨pa', T, c1, c2, c3, c4⟩ := (p4 p hpn).cell
  have epa : pa' = pa := Option.some.inj (c1.symm.trans a10)
  subst epa
  have ec : F_X10_check (hp x iv ai aj ar pp f0) x (nI j) = if hKd (hp x iv ai aj ar pp f0) a = some 0 then ((F_X0_firstWrong (hp x iv ai aj ar pp f0) a (x + 9)).bind (fun q7 => if 0 ≤ q7.1 then some (-20 - q7.1, q7.2) else some (1, q7.2))) else if hKd (hp x iv ai aj ar pp f0) a = some 3 then ((F_X3_firstWrong (hp x iv ai aj ar pp f0) a (x + 9)).bind (fun q7 => if 0 ≤ q7.1 then some (-20 - q7.1, q7.2) else some (1, q7.2))) else if hKd (hp x iv ai aj ar pp f0) a = some 6 then ((F_X8_firstWrong (hp x iv ai aj ar pp f0) a (x + 9)).bind (fun q7 => if 0 ≤ q7.1 then some (-20 - q7.1, q7.2) else some (1, q7.2))) else if hKd (hp x iv ai aj ar pp f0) a = some 7 then ((F_X8_firstWrong (hp x iv ai aj ar pp f0) a (x + 9)).bind (fun q7 => if 0 ≤ q7.1 then some (-20 - q7.1, q7.2) else some (1, q7.2))) else none := by
    unfold F_X10_check
    rw [if_pos rk_0, s_proofOk q1 q2 hj, Option.bind_some, a1, xnul_s, rn_0_5, Option.bind_some]
  have em : ∀ (iv' ai' : Nat → Nat → Int32) (aj' : Nat → Nat → Int64) (pp' : Nat → Option Nat) (h : xHp), h = hp x iv' ai' aj' ar pp' f0 → iv' 19 20 = nI n → (ai' 30 j = 2 → F_X11_check h (x + 19) (nI j) = F_X11_checkParts h (x + 19) (nI j)) ∧ (ai' 30 j = 1 → F_X11_check h (x + 19) (nI j) = L_X11_check_44 xfuel h (x + 19) (nI j) 0) ∧ (ai' 30 j = 0 ∨ ai' 30 j = 3 → F_X11_check h (x + 19) (nI j) = F_X11_checkSums h (x + 19) (nI j)) := by
    intro iv' ai' aj' pp' h eh e20
    subst eh
    have e0 : F_X11_check (hp x iv' ai' aj' ar pp' f0) (x + 19) (nI j) = if ai' 30 j = 2 then F_X11_checkParts (hp x iv' ai' aj' ar pp' f0) (x + 19) (nI j) else if ai' 30 j = 1 then L_X11_check_44 xfuel (hp x iv' ai' aj' ar pp' f0) (x + 19) (nI j) 0 else F_X11_checkSums (hp x iv' ai' aj' ar pp' f0) (x + 19) (nI j) := by
      unfold F_X11_check
      rw [if_pos rk_19, m_isProof q1 e20, Option.bind_some, if_pos h1, if_neg e10, rn_19_21, Option.bind_some, r30 hj40, Option.bind_some, if_pos rk_19, Option.bind_some, r30 hj40, Option.bind_some, if_pos rk_19, obp, obp]
    rw [e0]
    refine ⟨fun h => if_pos h, fun h => ?_, fun h => ?_⟩
    · rw [if_neg (by rw [h]; decide), if_pos h]
    · rcases h with h | h
      · rw [if_neg (by rw [h]; decide), if_neg (by rw [h]; decide)]
      · rw [if_neg (by rw [h]; decide), if_neg (by rw [h]; decide)]
  have hTm : ∀ t, t < 9 → aj 23 (9 * p + t) = T t := fun t ht => by
    rw [c3 t ht]
    unfold Tm
    rw [if_pos ht]
  rcases a12 with ⟨d1, d2, d3, K, d4, d5, d6⟩ | ⟨d1, d2, d3, K, d4, d5, d6, d7⟩ | ⟨c, bn, sd, d1, d2, d3, d4, d5, d6, d7⟩
  · subst d5
    rw [ec, kindCase.1 ((dK a2.1).trans (fK d3))]
    exact chk_s hI0 (sp := false) (K := K) (p := p) (q := j) (g := g) (T := T) ⟨a2.1, a3.1, d4, c2, a4, ⟨_, _, d3⟩, d6, fun e => (by cases e)⟩ ⟨hj40, d4, a8, a6, d1, a9, fun i hi => (a11 i hi).symm, hTm⟩ c4 (fun iv' ai' aj' pp' e20 e30 => (em iv' ai' aj' pp' _ rfl (e20.trans q3)).2.2 (Or.inl (by rw [e30]; exact d1)))
  · subst d5
    rw [ec, kindCase.2.1 ((dK a2.1).trans (fK d3))]
    exact chk_s hI0 (sp := true) (K := K) (p := p) (q := j) (g := g) (T := T) ⟨a2.1, a3.1, d4, c2, a4, ⟨_, _, d3⟩, d6, fun _ => d7⟩ ⟨hj40, d4, a8, a6, d1, a9, fun i hi => (a11 i hi).symm, hTm⟩ c4 (fun iv' ai' aj' pp' e20 e30 => (em iv' ai' aj' pp' _ rfl (e20.trans q3)).2.2 (Or.inr (by rw [e30]; exact d1)))
  · have hbn : bn < nb := by
      rw [b2] at d3
      exact (nI_ltI (by omega) (by omega)).mp d3
    rcases d7 with ⟨f1, f2, f3⟩ | ⟨f1, f2, m, l, f3, f4, f5, f6⟩
    · subst f2
      rw [ec, kindCase.2.2.1 ((dK a2.1).trans (fK f3))]
      exact chk_1 hI0 a2.1 a3.1 d1.1 f3 a4 d2 c2 c3 hj40 a8 d4 a9 d5 a11 d6 (fun iv' ai' aj' pp' e20 e30 => (em iv' ai' aj' pp' _ rfl (e20.trans q3)).2.1 (by rw [e30]; exact f1))
    · subst f5
      rw [ec, kindCase.2.2.2 ((dK a2.1).trans (fK f2))]
      exact chk_2 hI0 a2.1 a3.1 d1.1 f2 a4 d2 c2 c3 hj40 a8 d4 a9 d5 a6 a11 d6 hbn b5 f4 f3 f6 (fun iv' ai' aj' pp' e20 e30 => (em iv' ai' aj' pp' _ rfl (e20.trans q3)).1 (by rw [e30]; exact f1))
end CHECK

/-! squares' numbers are not too large -/
theorem b60_of {v : Int64} (h : v.toInt.natAbs ≤ 1152921504606846976) : b60 v := by
  have e1 : (-1152921504606846976 : Int64).toInt = -1152921504606846976 := rfl
  have e2 : (1152921504606846976 : Int64).toInt = 1152921504606846976 := rfl
  exact ⟨Int64.le_iff_toInt_le.mpr (by omega), Int64.le_iff_toInt_le.mpr (by omega)⟩
theorem mlN {a b : Int} {A B C : Nat} (ha : a.natAbs ≤ A) (hb : b.natAbs ≤ B) (hC : A * B = C) : (a * b).natAbs ≤ C := by
  rw [Int.natAbs_mul, ← hC]
  exact Nat.mul_le_mul ha hb
theorem ml {a b : Int64} {A B C : Nat} (ha : a.toInt.natAbs ≤ A) (hb : b.toInt.natAbs ≤ B) (hC : A * B = C) (h : C < 9223372036854775807) : (a * b).toInt = a.toInt * b.toInt ∧ (a * b).toInt.natAbs ≤ C := by
  have e := mlN ha hb hC
  have e1 : (a * b).toInt = a.toInt * b.toInt := mul64 (by omega) (by omega)
  exact ⟨e1, by rw [e1]; exact e⟩
theorem dv {a p : Int64} (h : a.toInt.natAbs < 9223372036854775807) : (a / p).toInt = a.toInt.tdiv p.toInt ∧ (a / p).toInt.natAbs ≤ a.toInt.natAbs := by
  have h1 : (a.toInt.tdiv p.toInt).natAbs ≤ a.toInt.natAbs := by rw [Int.natAbs_tdiv]; exact Nat.div_le_self _ _
  have h2 : (a / p).toInt = a.toInt.tdiv p.toInt := by rw [Int64.toInt_div, bm64 (by omega) (by omega)]
  exact ⟨h2, by rw [h2]; exact h1⟩
theorem cl_val {a d b c p : Int64} {E F : Nat} (ha : a.toInt.natAbs ≤ E) (hd : d.toInt.natAbs ≤ E) (hb : b.toInt.natAbs ≤ E) (hc : c.toInt.natAbs ≤ E) (hF : E * E = F) (h : F < 4611686018427387903) : ((a * d - b * c) / p).toInt = (a.toInt * d.toInt - b.toInt * c.toInt).tdiv p.toInt ∧ ((a * d - b * c) / p).toInt.natAbs ≤ F + F := by
  obtain ⟨m1, m2⟩ := ml ha hd hF (by omega)
  obtain ⟨m3, m4⟩ := ml hb hc hF (by omega)
  have e1 : (a * d - b * c).toInt = (a * d).toInt - (b * c).toInt := sub64 (by omega) (by omega)
  obtain ⟨d1, d2⟩ := dv (a := a * d - b * c) (p := p) (by rw [e1]; omega)
  refine ⟨by rw [d1, e1, m1, m3], ?_⟩
  rw [e1] at d2
  omega
theorem row_b60 {ns : List Int64} {R : Nat → Int64} {k : Nat} {p d : Int64} {P D : Nat} (h : ∀ v ∈ ns, b60 v) (hp : p.toInt.natAbs ≤ P) (hd : d.toInt.natAbs ≤ D) (hPD : 2 * P * D ≤ 1152921504606846976) (hP : P ≤ 100000000000) (hr : ∀ c, c < 3 → k ≤ c → (R (3 * k + c)).toInt.natAbs ≤ 1152921504606846976) : ∀ v ∈ ns ++ sqRow R k p d, b60 v := by
  intro v hv
  rcases List.mem_append.mp hv with hv | hv
  · exact h v hv
  · unfold sqRow at hv
    simp only [List.mem_cons, List.not_mem_nil, or_false] at hv
    have z0 : b60 0 := b60_of (by decide)
    rcases hv with rfl | rfl | rfl | rfl | rfl
    · exact b60_of (by decide)
    · have e2 : (2 : Int64).toInt.natAbs ≤ 2 := by decide
      obtain ⟨m1, m2⟩ := ml e2 hp rfl (by omega)
      obtain ⟨m3, m4⟩ := ml m2 hd rfl (by omega)
      exact b60_of (by omega)
    · split
      · exact z0
      · exact b60_of (hr 0 (by decide) (by omega))
    · split
      · exact z0
      · exact b60_of (hr 1 (by decide) (by omega))
    · split
      · exact z0
      · exact b60_of (hr 2 (by decide) (by omega))
theorem pos_I {d : Int64} (h1 : ¬ d < 0) (h2 : ¬ d = 0) : 0 < d.toInt := by
  have g1 := Int64.le_iff_toInt_le.mp (Int64.not_lt.mp h1)
  have g2 : d.toInt ≠ (0 : Int64).toInt := fun e => h2 (Int64.toInt_inj.mp e)
  have e0 : (0 : Int64).toInt = 0 := rfl
  omega
theorem sq_2 {R : Nat → Int64} {ns ns' : List Int64} {p : Int64} (h : sqN 1 2 R ns p = some ns') (hn : ∀ v ∈ ns, b60 v) (hp : p.toInt.natAbs ≤ 8000000) (hR : (R 8).toInt.natAbs ≤ 48000000000) : ∀ v ∈ ns', b60 v := by
  have h' : (if R 8 < 0 then none else if R 8 = 0 then (if bhd R 2 = true then none else some ns) else some (ns ++ sqRow R 2 p (R 8))) = some ns' := h
  split at h'
  · cases h'
  split at h'
  · split at h'
    · cases h'
    · cases h'; exact hn
  · cases h'
    refine row_b60 hn hp hR (by decide) (by decide) (fun c h1 h2 => ?_)
    have : c = 2 := by omega
    subst this
    exact Nat.le_trans hR (by decide)
theorem sq_1 {R : Nat → Int64} {ns ns' : List Int64} {p : Int64} (h : sqN 2 1 R ns p = some ns') (hn : ∀ v ∈ ns, b60 v) (hp : p.toInt.natAbs ≤ 2000) (h4 : (R 4).toInt.natAbs ≤ 8000000) (h5 : (R 5).toInt.natAbs ≤ 8000000) (h7 : (R 7).toInt.natAbs ≤ 8000000) (h8 : (R 8).toInt.natAbs ≤ 8000000)
    (K : ((R 4).toInt.natAbs ≤ 2000 ∧ (R 5).toInt.natAbs ≤ 2000 ∧ (R 7).toInt.natAbs ≤ 2000 ∧ (R 8).toInt.natAbs ≤ 2000) ∨ ∃ a b c d e f g k i : Int, 0 < a ∧ a.natAbs ≤ 2000 ∧ b.natAbs ≤ 2000 ∧ c.natAbs ≤ 2000 ∧ d.natAbs ≤ 2000 ∧ e.natAbs ≤ 2000 ∧ f.natAbs ≤ 2000 ∧ g.natAbs ≤ 2000 ∧ k.natAbs ≤ 2000 ∧ i.natAbs ≤ 2000 ∧ p.toInt = a ∧ (R 4).toInt = e * a - d * b ∧ (R 5).toInt = f * a - d * c ∧ (R 7).toInt = k * a - g * b ∧ (R 8).toInt = i * a - g * c) : ∀ v ∈ ns', b60 v := by
  have h' : (if R 4 < 0 then none else if R 4 = 0 then (if bhd R 1 = true then none else sqN 1 2 R ns p) else sqN 1 2 (clr R 1 p (R 4)) (ns ++ sqRow R 1 p (R 4)) (R 4)) = some ns' := h
  split at h'
  · cases h'
  split at h'
  · split at h'
    · cases h'
    · exact sq_2 h' hn (by omega) (by omega)
  · have hrow : ∀ v ∈ ns ++ sqRow R 1 p (R 4), b60 v := by
      refine row_b60 hn hp h4 (by decide) (by decide) (fun c c1 c2 => ?_)
      rcases (show c = 1 ∨ c = 2 by omega) with rfl | rfl
      · exact Nat.le_trans h4 (by decide)
      · exact Nat.le_trans h5 (by decide)
    refine sq_2 h' hrow h4 ?_
    have ev : clr R 1 p (R 4) 8 = (R 8 * R 4 - R 7 * R 5) / p := rfl
    rw [ev]
    rcases K with ⟨k4, k5, k7, k8⟩ | ⟨a, b, c, d, e, f, g, k, i, a0, ha, hb, hc, hd, he, hf, hg, hk, hi, ep, e4, e5, e7, e8⟩
    · have := (cl_val (p := p) k8 k4 k7 k5 rfl (by decide)).2
      omega
    · have v := (cl_val (p := p) h8 h4 h7 h5 rfl (by decide)).1
      rw [v, e8, e4, e7, e5, ep]
      have id1 : (i * a - g * c) * (e * a - d * b) - (k * a - g * b) * (f * a - d * c) = a * (a * e * i - a * f * k - b * d * i + b * f * g + c * d * k - c * e * g) := by grind
      rw [id1, Int.mul_tdiv_cancel_left _ (by omega)]
      have t1 := mlN (mlN ha he rfl) hi rfl
      have t2 := mlN (mlN ha hf rfl) hk rfl
      have t3 := mlN (mlN hb hd rfl) hi rfl
      have t4 := mlN (mlN hb hf rfl) hg rfl
      have t5 := mlN (mlN hc hd rfl) hk rfl
      have t6 := mlN (mlN hc he rfl) hg rfl
      omega
theorem sq_b60 {R : Nat → Int64} (hR : ∀ i, i < 9 → (R i).toInt.natAbs ≤ 2000) {ns : List Int64} (h : sqN 3 0 R [] 1 = some ns) : ∀ v ∈ ns, b60 v := by
  have h' : (if R 0 < 0 then none else if R 0 = 0 then (if bhd R 0 = true then none else sqN 2 1 R [] 1) else sqN 2 1 (clr R 0 1 (R 0)) ([] ++ sqRow R 0 1 (R 0)) (R 0)) = some ns := h
  have n0 : ∀ v ∈ ([] : List Int64), b60 v := fun v hv => absurd hv List.not_mem_nil
  have R' : ∀ i, i < 9 → (R i).toInt.natAbs ≤ 8000000 := fun i hi => Nat.le_trans (hR i hi) (by decide)
  split at h'
  · cases h'
  rename_i g1
  split at h'
  · split at h'
    · cases h'
    · exact sq_1 h' n0 (by decide) (R' 4 (by decide)) (R' 5 (by decide)) (R' 7 (by decide)) (R' 8 (by decide)) (Or.inl ⟨hR 4 (by decide), hR 5 (by decide), hR 7 (by decide), hR 8 (by decide)⟩)
  · rename_i g2
    have hrow : ∀ v ∈ [] ++ sqRow R 0 1 (R 0), b60 v := by
      refine row_b60 (P := 1) n0 (by decide) (hR 0 (by decide)) (by decide) (by decide) (fun c c1 c2 => ?_)
      exact Nat.le_trans (hR (3 * 0 + c) (by omega)) (by decide)
    have c4 := cl_val (p := 1) (hR 4 (by decide)) (hR 0 (by decide)) (hR 3 (by decide)) (hR 1 (by decide)) rfl (by decide)
    have c5 := cl_val (p := 1) (hR 5 (by decide)) (hR 0 (by decide)) (hR 3 (by decide)) (hR 2 (by decide)) rfl (by decide)
    have c7 := cl_val (p := 1) (hR 7 (by decide)) (hR 0 (by decide)) (hR 6 (by decide)) (hR 1 (by decide)) rfl (by decide)
    have c8 := cl_val (p := 1) (hR 8 (by decide)) (hR 0 (by decide)) (hR 6 (by decide)) (hR 2 (by decide)) rfl (by decide)
    have e1 : (1 : Int64).toInt = 1 := rfl
    rw [e1] at c4 c5 c7 c8
    rw [Int.tdiv_one] at c4 c5 c7 c8
    exact sq_1 h' hrow (hR 0 (by decide)) c4.2 c5.2 c7.2 c8.2 (Or.inr ⟨(R 0).toInt, (R 1).toInt, (R 2).toInt, (R 3).toInt, (R 4).toInt, (R 5).toInt, (R 6).toInt, (R 7).toInt, (R 8).toInt, pos_I g1 g2, hR 0 (by decide), hR 1 (by decide), hR 2 (by decide), hR 3 (by decide), hR 4 (by decide), hR 5 (by decide), hR 6 (by decide), hR 7 (by decide), hR 8 (by decide), rfl, c4.1, c5.1, c7.1, c8.1⟩)
theorem fm_b {x2 xy xx y2 y o : Int64} (h1 : x2.toInt.natAbs ≤ 1000) (h2 : xy.toInt.natAbs ≤ 1000) (h3 : xx.toInt.natAbs ≤ 1000) (h4 : y2.toInt.natAbs ≤ 1000) (h5 : y.toInt.natAbs ≤ 1000) (h6 : o.toInt.natAbs ≤ 1000) : ∀ i, i < 9 → (fm x2 xy xx y2 y o i).toInt.natAbs ≤ 2000 := by
  intro i hi
  have e2 : (2 : Int64).toInt.natAbs ≤ 2 := by decide
  have m1 := (ml e2 h1 (C := 2000) rfl (by decide)).2
  have m4 := (ml e2 h4 (C := 2000) rfl (by decide)).2
  have m6 := (ml e2 h6 (C := 2000) rfl (by decide)).2
  rcases (show i = 0 ∨ i = 1 ∨ i = 2 ∨ i = 3 ∨ i = 4 ∨ i = 5 ∨ i = 6 ∨ i = 7 ∨ i = 8 by omega) with rfl | rfl | rfl | rfl | rfl | rfl | rfl | rfl | rfl
  · exact m1
  · exact Nat.le_trans h2 (by decide)
  · exact Nat.le_trans h3 (by decide)
  · exact Nat.le_trans h2 (by decide)
  · exact m4
  · exact Nat.le_trans h5 (by decide)
  · exact Nat.le_trans h3 (by decide)
  · exact Nat.le_trans h5 (by decide)
  · exact m6
theorem co_b {v : Int64} (h : -1000 ≤ v ∧ v ≤ 1000) : v.toInt.natAbs ≤ 1000 := by
  have h5 := Int64.le_iff_toInt_le.mp h.1
  have h6 := Int64.le_iff_toInt_le.mp h.2
  have e5 : (-1000 : Int64).toInt = -1000 := rfl
  have e6 : (1000 : Int64).toInt = 1000 := rfl
  omega

/-! span -/
section SPAN
variable {x z : Nat} {iv ai : Nat → Nat → Int32} {aj : Nat → Nat → Int64} {ar : Nat → Nat → Option Nat} {pp : Nat → Option Nat} {f0 : xHp}
theorem e10 : ¬ (1 : Int32) = 0 := by decide
def spN (ns : List Int64) (m n a b : Int64) : Nat → Int64 := fun i => if i < ns.length then ns.getD i 0 else if i = ns.length then m else if i = ns.length + 1 then n else if i = ns.length + 2 then a else b
theorem op_span (hI0 : INV x z iv ai aj ar pp f0) (p m n a b : Int32) : Oa x (F_X10_span z (hp x iv ai aj ar pp f0) x p m n a b) (fun h => F_X11_span h (x + 19) p m n a b) := by
  haveI := Classical.propDecidable (rgB a b)
  obtain ⟨hz, own, hT, hS, ⟨np, p1, p2, p3, p4⟩, hB, hR, ⟨nq, q1, q2, q3, q4⟩⟩ := id hI0
  by_cases h1 : 0 ≤ p.toInt ∧ p.toInt < np
  case neg =>
    refine Oa_no (r := -1) hI0 ?_ ?_
    · unfold F_X10_span
      rw [if_pos rk_0, s_polyNo p1 p2 h1]
      rfl
    · show F_X11_span _ _ _ _ _ _ _ = _
      unfold F_X11_span
      rw [if_pos rk_19, m_isPoly p1 p3, Option.bind_some, if_neg h1]
      exact if_pos rfl
  obtain ⟨j, hj, rfl⟩ := inN (by omega) h1
  obtain ⟨pa, g, c1, cz, c3, c4⟩ := (p4 j hj).cz
  have c2 : pcell x f0 pa g := cz.pc (fun _ _ => rfl)
  have hj30 : j < 30 := by omega
  have wI : ∀ k : Int32, ((1 : Int64) ≤ k.toInt64 ∧ k.toInt64 ≤ 1000) = (1 ≤ k.toInt ∧ k.toInt ≤ 1000) := fun k => w32 rfl rfl
  by_cases h2 : 1 ≤ m.toInt ∧ m.toInt ≤ 1000
  case neg =>
    refine Oa_no (r := -2) hI0 ?_ ?_
    · unfold F_X10_span
      rw [if_pos rk_0, s_polyOk p1 p2 hj, Option.bind_some, c1, xnul_s, s_isWeight, Option.bind_some, if_neg h2]
      exact if_pos rfl
    · show F_X11_span _ _ _ _ _ _ _ = _
      unfold F_X11_span
      rw [if_pos rk_19, m_isPoly p1 p3, Option.bind_some, if_pos h1, if_neg e10, s_within, Option.bind_some, if_neg (show ¬ ((1 : Int64) ≤ m.toInt64 ∧ m.toInt64 ≤ 1000) by rw [wI]; exact h2)]
      exact if_pos rfl
  have h2' : (1 : Int64) ≤ m.toInt64 ∧ m.toInt64 ≤ 1000 := by rw [wI]; exact h2
  by_cases h3 : 1 ≤ n.toInt ∧ n.toInt ≤ 1000
  case neg =>
    refine Oa_no (r := -2) hI0 ?_ ?_
    · unfold F_X10_span
      rw [if_pos rk_0, s_polyOk p1 p2 hj, Option.bind_some, c1, xnul_s, s_isWeight, Option.bind_some, if_pos h2, if_neg e10, s_isWeight, Option.bind_some, if_neg h3]
      exact if_pos rfl
    · show F_X11_span _ _ _ _ _ _ _ = _
      unfold F_X11_span
      rw [if_pos rk_19, m_isPoly p1 p3, Option.bind_some, if_pos h1, if_neg e10, s_within, Option.bind_some, if_pos h2', if_neg e10, s_within, Option.bind_some, if_neg (show ¬ ((1 : Int64) ≤ n.toInt64 ∧ n.toInt64 ≤ 1000) by rw [wI]; exact h3)]
      exact if_pos rfl
  have h3' : (1 : Int64) ≤ n.toInt64 ∧ n.toInt64 ≤ 1000 := by rw [wI]; exact h3
  by_cases h5 : rgB a b
  case neg =>
    refine Oa_no (r := -2) hI0 ?_ ?_
    · unfold F_X10_span
      rw [if_pos rk_0, s_polyOk p1 p2 hj, Option.bind_some, c1, xnul_s, s_isWeight, Option.bind_some, if_pos h2, if_neg e10, s_isWeight, Option.bind_some, if_pos h3, if_neg e10, s_isRange, Option.bind_some, if_neg h5]
      exact if_pos rfl
    · show F_X11_span _ _ _ _ _ _ _ = _
      unfold F_X11_span
      rw [if_pos rk_19, m_isPoly p1 p3, Option.bind_some, if_pos h1, if_neg e10, s_within, Option.bind_some, if_pos h2', if_neg e10, s_within, Option.bind_some, if_pos h3', if_neg e10, m_isRange, Option.bind_some, if_neg h5]
      exact if_pos rfl
  have eC0 : ∀ K, K = F_X10_span z (hp x iv ai aj ar pp f0) x (nI j) m n a b → K = if g 5 = 0 ∧ g 7 = 0 ∧ g 8 = 0 then (F_X4_lessSpan z (hp x iv ai aj ar pp f0) pa m.toInt64 n.toInt64 a.toInt64 b.toInt64).bind (fun q15 => F_X10_span_68 q15.2.1 q15.2.2 x (nI j) m n a b pa q15.1) else some (-3, z, hp x iv ai aj ar pp f0) := by
    intro K hK
    rw [hK]
    unfold F_X10_span
    rw [if_pos rk_0, s_polyOk p1 p2 hj, Option.bind_some, c1, xnul_s, s_isWeight, Option.bind_some, if_pos h2, if_neg e10, s_isWeight, Option.bind_some, if_pos h3, if_neg e10, s_isRange, Option.bind_some, if_pos h5, if_neg e10, if_pos c2.kd, s_isForm c2, Option.bind_some, if_pos c2.kd]
    by_cases h4 : g 5 = 0 ∧ g 7 = 0 ∧ g 8 = 0
    · rw [if_pos h4, if_pos h4, if_neg e10]
      rfl
    · rw [if_neg h4, if_neg h4, if_pos rfl]
      rfl
  have ec := eC0 _ rfl
  have tm : ∀ (iv' : Nat → Nat → Int32) (ar' : Nat → Nat → Option Nat) (f1 : xHp) (t : Nat), t < 9 → F_X11_termOf (hp x iv' ai aj ar' pp f1) (x + 19) (nI j) (nI t) = some (g t) := fun iv' ar' f1 t ht => by
    rw [m_termOf hj30 ht, c3 t ht]
    unfold Tm
    rw [if_pos ht]
  have ho : ∀ (iv' : Nat → Nat → Int32) (ar' : Nat → Nat → Option Nat) (f1 : xHp), F_X11_hasOther (hp x iv' ai aj ar' pp f1) (x + 19) (nI j) = some (if g 5 = 0 ∧ g 7 = 0 ∧ g 8 = 0 then 0 else 1) := fun iv' ar' f1 => by rw [m_hasOther hj30, c3 5 (by decide), c3 7 (by decide), c3 8 (by decide)]
  by_cases h4 : g 5 = 0 ∧ g 7 = 0 ∧ g 8 = 0
  case neg =>
    refine Oa_no (r := -3) hI0 (ec.trans (if_neg h4)) ?_
    show F_X11_span _ _ _ _ _ _ _ = _
    unfold F_X11_span
    rw [if_pos rk_19, m_isPoly p1 p3, Option.bind_some, if_pos h1, if_neg e10, s_within, Option.bind_some, if_pos h2', if_neg e10, s_within, Option.bind_some, if_pos h3', if_neg e10, m_isRange, Option.bind_some, if_pos h5, if_neg e10, if_pos rk_19, ho, Option.bind_some, if_neg h4]
    exact if_neg (by decide)
  rw [if_pos h4] at ec
  -- numbers
  have eM : m.toInt64.toInt = m.toInt := Int32.toInt_toInt64 m
  have eN : n.toInt64.toInt = n.toInt := Int32.toInt_toInt64 n
  have eA : a.toInt64.toInt = a.toInt := Int32.toInt_toInt64 a
  have eB : b.toInt64.toInt = b.toInt := Int32.toInt_toInt64 b
  have hAB : (a + b).toInt64 = a.toInt64 + b.toInt64 := by
    apply Int64.toInt_inj.mp
    have := h5.1
    have := h5.2.1
    rw [Int32.toInt_toInt64, add32 (by omega) (by omega), add64 (by omega) (by omega), eA, eB]
  have bM : m.toInt64.toInt.natAbs ≤ 1000 := by omega
  have bN : n.toInt64.toInt.natAbs ≤ 1000 := by omega
  have bA : a.toInt64.toInt.natAbs ≤ 2048 := by have := h5.1; omega
  have bB : b.toInt64.toInt.natAbs ≤ 2048 := by have := h5.2.1; omega
  have n256 := ml (a := 256) (b := n.toInt64) (A := 256) (by decide) bN (C := 256000) rfl (by decide)
  have n655 := ml (a := 65536) (b := n.toInt64) (A := 65536) (by decide) bN (C := 65536000) rfl (by decide)
  have i256 : (256 : Int64).toInt = 256 := rfl
  have i655 : (65536 : Int64).toInt = 65536 := rfl
  have i0 : (0 : Int64).toInt = 0 := rfl
  have hN0 : 0 < n.toInt64.toInt := by omega
  have h256 : 0 < ((256 : Int64) * n.toInt64).toInt := by rw [n256.1, i256]; omega
  have h655 : 0 < ((65536 : Int64) * n.toInt64).toInt := by rw [n655.1, i655]; omega
  have zN : n.toInt64 ≠ 0 := fun e => by rw [e] at hN0; exact absurd hN0 (by decide)
  have z256 : (256 : Int64) * n.toInt64 ≠ 0 := fun e => by rw [e] at h256; exact absurd h256 (by decide)
  have z655 : (65536 : Int64) * n.toInt64 ≠ 0 := fun e => by rw [e] at h655; exact absurd h655 (by decide)
  have pN : (0 : Int64) < n.toInt64 := Int64.lt_iff_toInt_lt.mpr (by rw [i0]; exact hN0)
  have bS : (a.toInt64 + b.toInt64).toInt.natAbs ≤ 4096 := by rw [add64 (by omega) (by omega)]; omega
  have bMS := (ml bM bS (C := 4096000) rfl (by decide)).2
  have bMA := (ml bM bA (C := 2048000) rfl (by decide)).2
  have bMAB := (ml bMA bB (C := 4194304000) rfl (by decide)).2
  have s6 := spn (t := g 6) (v := m.toInt64) (w := n.toInt64) (co_b (c4 6 (by decide))) hN0 (by omega) (by omega)
  have s3 := spm (t := g 3) (v := m.toInt64 * (a.toInt64 + b.toInt64)) (w := 256 * n.toInt64) (co_b (c4 3 (by decide))) h256 (by omega) (by omega)
  have s0 := spn (t := g 0) (v := m.toInt64 * a.toInt64 * b.toInt64) (w := 65536 * n.toInt64) (co_b (c4 0 (by decide))) h655 (by omega) (by omega)
  have x3 : g 3 * n.toInt64 * 256 = g 3 * (256 * n.toInt64) := by grind
  have x0 : g 0 * n.toInt64 * 65536 = g 0 * (65536 * n.toInt64) := by grind
  generalize hM : m.toInt64 = M at *
  generalize hNN : n.toInt64 = N at *
  generalize hA : a.toInt64 = A at *
  generalize hBB : b.toInt64 = B at *
  have k6 : (rz (g 6 * N + M) N ∧ in1000 ((g 6 * N + M) / N)) ↔ (rz M N ∧ in1000 (g 6 + M / N)) := by
    constructor
    · rintro ⟨u, v⟩
      have u' : rz M N := s6.1.mp u
      exact ⟨u', by rw [s6.2 u'] at v; exact v⟩
    · rintro ⟨u, v⟩
      exact ⟨s6.1.mpr u, by rw [s6.2 u]; exact v⟩
  have k3 : (rz (g 3 * (256 * N) - M * (A + B)) (256 * N) ∧ in1000 ((g 3 * (256 * N) - M * (A + B)) / (256 * N))) ↔ (rz (M * (A + B)) (256 * N) ∧ in1000 (g 3 - M * (A + B) / (256 * N))) := by
    constructor
    · rintro ⟨u, v⟩
      have u' : rz (M * (A + B)) (256 * N) := s3.1.mp u
      exact ⟨u', by rw [s3.2 u'] at v; exact v⟩
    · rintro ⟨u, v⟩
      exact ⟨s3.1.mpr u, by rw [s3.2 u]; exact v⟩
  have k0 : (rz (g 0 * (65536 * N) + M * A * B) (65536 * N) ∧ in1000 ((g 0 * (65536 * N) + M * A * B) / (65536 * N))) ↔ (rz (M * A * B) (65536 * N) ∧ in1000 (g 0 + M * A * B / (65536 * N))) := by
    constructor
    · rintro ⟨u, v⟩
      have u' : rz (M * A * B) (65536 * N) := s0.1.mp u
      exact ⟨u', by rw [s0.2 u'] at v; exact v⟩
    · rintro ⟨u, v⟩
      exact ⟨s0.1.mpr u, by rw [s0.2 u]; exact v⟩
  haveI d6 := Classical.propDecidable (rz (g 6 * N + M) N ∧ in1000 ((g 6 * N + M) / N))
  haveI d3 := Classical.propDecidable (rz (g 3 * (256 * N) - M * (A + B)) (256 * N) ∧ in1000 ((g 3 * (256 * N) - M * (A + B)) / (256 * N)))
  haveI d0 := Classical.propDecidable (rz (g 0 * (65536 * N) + M * A * B) (65536 * N) ∧ in1000 ((g 0 * (65536 * N) + M * A * B) / (65536 * N)))
  have em : ∀ (iv' : Nat → Nat → Int32) (ar' : Nat → Nat → Option Nat) (f1 : xHp), iv' 19 5 = nI np → F_X11_span (hp x iv' ai aj ar' pp f1) (x + 19) (nI j) m n a b = if rz (g 6 * N + M) N ∧ in1000 ((g 6 * N + M) / N) then (if rz (g 3 * (256 * N) - M * (A + B)) (256 * N) ∧ in1000 ((g 3 * (256 * N) - M * (A + B)) / (256 * N)) then (if rz (g 0 * (65536 * N) + M * A * B) (65536 * N) ∧ in1000 ((g 0 * (65536 * N) + M * A * B) / (65536 * N)) then (F_X11_layForm (hp x iv' ai aj ar' pp f1) (x + 19) ((g 6 * N + M) / N) (g 4) ((g 3 * (256 * N) - M * (A + B)) / (256 * N)) (g 2) (g 1) ((g 0 * (65536 * N) + M * A * B) / (65536 * N))).bind (fun q35 => if hKd q35 (x + 19) = some 10 then (Option.bind (F_X11_findSquares q35 (x + 19)) fun q37 => if q37.1 = 0 then (some ((-9 : Int32), q37.2)) else (Option.bind (hI q37.2 (x + 19) [(10, 20)]) fun v39 => if v39 = (40 : Int32) then (some ((-4 : Int32), q37.2)) else (if hKd q37.2 (x + 19) = some 10 then (Option.bind (F_X11_newProof q37.2 (x + 19) (3 : Int32) (nI j) (-9 : Int32)) fun q42 => if hKd q42.2 (x + 19) = some 10 then (Option.bind (F_X11_tellSquares q42.2 (x + 19) q42.1) fun q44 => if hKd q44 (x + 19) = some 10 then (Option.bind (F_X11_tellNumber q44 (x + 19) q42.1 M) fun q46 => if hKd q46 (x + 19) = some 10 then (Option.bind (F_X11_tellNumber q46 (x + 19) q42.1 N) fun q48 => if hKd q48 (x + 19) = some 10 then (Option.bind (F_X11_tellNumber q48 (x + 19) q42.1 A) fun q50 => if hKd q50 (x + 19) = some 10 then (Option.bind (F_X11_tellNumber q50 (x + 19) q42.1 B) fun q52 => some (q42.1, q52)) else none) else none) else none) else none) else none) else none))) else none) else some (-3, hp x iv' ai aj ar' pp f1)) else some (-3, hp x iv' ai aj ar' pp f1)) else some (-3, hp x iv' ai aj ar' pp f1) := by
    intro iv' ar' f1 e5
    have t := fun t ht => tm iv' ar' f1 t ht
    have t6 : F_X11_termOf (hp x iv' ai aj ar' pp f1) (x + 19) (nI j) 6 = some (g 6) := t 6 (by decide)
    have t4 : F_X11_termOf (hp x iv' ai aj ar' pp f1) (x + 19) (nI j) 4 = some (g 4) := t 4 (by decide)
    have t3 : F_X11_termOf (hp x iv' ai aj ar' pp f1) (x + 19) (nI j) 3 = some (g 3) := t 3 (by decide)
    have t2 : F_X11_termOf (hp x iv' ai aj ar' pp f1) (x + 19) (nI j) 2 = some (g 2) := t 2 (by decide)
    have t1 : F_X11_termOf (hp x iv' ai aj ar' pp f1) (x + 19) (nI j) 1 = some (g 1) := t 1 (by decide)
    have t0 : F_X11_termOf (hp x iv' ai aj ar' pp f1) (x + 19) (nI j) 0 = some (g 0) := t 0 (by decide)
    unfold F_X11_span
    rw [hM, hNN, hA, hBB, hAB, if_pos rk_19, m_isPoly p1 e5, Option.bind_some, if_pos h1, if_neg e10, s_within, Option.bind_some, if_pos h2', if_neg e10, s_within, Option.bind_some, if_pos h3', if_neg e10, m_isRange, Option.bind_some, if_pos h5, if_neg e10, if_pos rk_19, ho, Option.bind_some, if_pos h4, if_pos rfl, if_pos rk_19, t6, Option.bind_some, if_pos rk_19, t3, Option.bind_some, if_pos rk_19, t0, Option.bind_some, x3, x0, m_mayBe zN, Option.bind_some, m_mayBe z256, Option.bind_some, m_mayBe z655, Option.bind_some, if_neg zN, if_pos rk_19, t4, Option.bind_some, if_neg z256, if_pos rk_19, t2, Option.bind_some, if_pos rk_19, t1, Option.bind_some, if_neg z655, if_pos rk_19]
    by_cases u6 : rz (g 6 * N + M) N ∧ in1000 ((g 6 * N + M) / N)
    · rw [if_pos u6, if_pos u6, if_neg e10]
      by_cases u3 : rz (g 3 * (256 * N) - M * (A + B)) (256 * N) ∧ in1000 ((g 3 * (256 * N) - M * (A + B)) / (256 * N))
      · rw [if_pos u3, if_pos u3, if_neg e10]
        by_cases u0 : rz (g 0 * (65536 * N) + M * A * B) (65536 * N) ∧ in1000 ((g 0 * (65536 * N) + M * A * B) / (65536 * N))
        · rw [if_pos u0, if_pos u0, if_neg e10]
        · rw [if_neg u0, if_neg u0, if_pos rfl]
      · rw [if_neg u3, if_neg u3, if_pos rfl]
    · rw [if_neg u6, if_neg u6, if_pos rfl]
  have ls := s_lessSpan (x := x) (iv := iv) (ai := ai) (aj := aj) (ar := ar) (pp := pp) hz cz (m := M) (n := N) (A := A) (B := B) pN zN z256 z655
  rw [lsG_ok c4] at ls
  by_cases hok : rz M N ∧ rz (M * (A + B)) (256 * N) ∧ rz (M * A * B) (65536 * N) ∧ in1000 (g 6 + M / N) ∧ in1000 (g 3 - M * (A + B) / (256 * N)) ∧ in1000 (g 0 + M * A * B / (65536 * N))
  case neg =>
    obtain ⟨y, f2, y1, y2, y3⟩ := ls.1 hok
    refine ⟨-3, y, hp x iv ai aj ar pp f2, ?_, rk_19, iv, ai, aj, ar, pp, f2, ?_, ?_⟩
    · rw [ec, y2]
      rfl
    · refine (em iv ar f2 p3).trans ?_
      by_cases u6 : rz (g 6 * N + M) N ∧ in1000 ((g 6 * N + M) / N)
      · rw [if_pos u6]
        by_cases u3 : rz (g 3 * (256 * N) - M * (A + B)) (256 * N) ∧ in1000 ((g 3 * (256 * N) - M * (A + B)) / (256 * N))
        · rw [if_pos u3, if_neg]
          intro u0
          have v6 := k6.mp u6
          have v3 := k3.mp u3
          have v0 := k0.mp u0
          exact hok ⟨v6.1, v3.1, v0.1, v6.2, v3.2, v0.2⟩
        · rw [if_neg u3]
      · rw [if_neg u6]
    · exact hI0.ext y1 y3 rfl rfl rfl (fun _ _ => rfl) (fun _ _ _ _ _ _ _ => rfl) rfl rfl rfl rfl
  obtain ⟨f1, y2, y3, y4⟩ := ls.2 hok
  have u6 := k6.mpr ⟨hok.1, hok.2.2.2.1⟩
  have u3 := k3.mpr ⟨hok.2.1, hok.2.2.2.2.1⟩
  have u0 := k0.mpr ⟨hok.2.2.1, hok.2.2.2.2.2⟩
  obtain ⟨G6, hg6⟩ : ∃ v, v = g 6 + M / N := ⟨_, rfl⟩
  obtain ⟨G3, hg3⟩ : ∃ v, v = g 3 - M * (A + B) / (256 * N) := ⟨_, rfl⟩
  obtain ⟨G0, hg0⟩ : ∃ v, v = g 0 + M * A * B / (65536 * N) := ⟨_, rfl⟩
  have e6 : (g 6 * N + M) / N = G6 := (s6.2 hok.1).trans hg6.symm
  have e3 : (g 3 * (256 * N) - M * (A + B)) / (256 * N) = G3 := (s3.2 hok.2.1).trans hg3.symm
  have e0 : (g 0 * (65536 * N) + M * A * B) / (65536 * N) = G0 := (s0.2 hok.2.2.1).trans hg0.symm
  have em2 : ∀ (iv' : Nat → Nat → Int32) (ar' : Nat → Nat → Option Nat) (f1 : xHp), iv' 19 5 = nI np → ∃ aj1, (∀ i, i < 9 → aj1 28 i = fm G6 (g 4) G3 (g 2) (g 1) G0 i) ∧ (∀ k, k ≠ 28 → aj1 k = aj k) ∧ F_X11_span (hp x iv' ai aj ar' pp f1) (x + 19) (nI j) m n a b = Option.bind (F_X11_findSquares (hp x iv' ai aj1 ar' pp f1) (x + 19)) fun q37 => if q37.1 = 0 then (some ((-9 : Int32), q37.2)) else (Option.bind (hI q37.2 (x + 19) [(10, 20)]) fun v39 => if v39 = (40 : Int32) then (some ((-4 : Int32), q37.2)) else (if hKd q37.2 (x + 19) = some 10 then (Option.bind (F_X11_newProof q37.2 (x + 19) (3 : Int32) (nI j) (-9 : Int32)) fun q42 => if hKd q42.2 (x + 19) = some 10 then (Option.bind (F_X11_tellSquares q42.2 (x + 19) q42.1) fun q44 => if hKd q44 (x + 19) = some 10 then (Option.bind (F_X11_tellNumber q44 (x + 19) q42.1 M) fun q46 => if hKd q46 (x + 19) = some 10 then (Option.bind (F_X11_tellNumber q46 (x + 19) q42.1 N) fun q48 => if hKd q48 (x + 19) = some 10 then (Option.bind (F_X11_tellNumber q48 (x + 19) q42.1 A) fun q50 => if hKd q50 (x + 19) = some 10 then (Option.bind (F_X11_tellNumber q50 (x + 19) q42.1 B) fun q52 => some (q42.1, q52)) else none) else none) else none) else none) else none) else none)) := by
    intro iv' ar' f1 e5
    obtain ⟨aj1, l1, l2, l3⟩ := m_layForm (x := x) (iv := iv') (ai := ai) (aj := aj) (ar := ar') (pp := pp) (f0 := f1) G6 (g 4) G3 (g 2) (g 1) G0
    refine ⟨aj1, l2, l3, ?_⟩
    rw [em iv' ar' f1 e5, if_pos u6, if_pos u3, if_pos u0, e6, e3, e0, l1, Option.bind_some, if_pos rk_19]
  have fs : ∀ (iv' : Nat → Nat → Int32) (ar' : Nat → Nat → Option Nat) (f1 : xHp) (aj1 : Nat → Nat → Int64), (∀ i, i < 9 → aj1 28 i = fm G6 (g 4) G3 (g 2) (g 1) G0 i) → (sqN 3 0 (fm G6 (g 4) G3 (g 2) (g 1) G0) [] 1 = none ∧ ∃ iv2 aj2, F_X11_findSquares (hp x iv' ai aj1 ar' pp f1) (x + 19) = some (0, hp x iv2 ai aj2 ar' pp f1) ∧ Ks (u2 iv' 19 18 0) iv2 aj1 aj2) ∨ ∃ ns iv2 aj2 s, sqN 3 0 (fm G6 (g 4) G3 (g 2) (g 1) G0) [] 1 = some ns ∧ F_X11_findSquares (hp x iv' ai aj1 ar' pp f1) (x + 19) = some (1, hp x iv2 ai aj2 ar' pp f1) ∧ Ks (u2 iv' 19 18 0) iv2 aj1 aj2 ∧ (∀ i, i < ns.length → aj2 29 i = ns.getD i 0) ∧ iv2 19 18 = nI s ∧ ns.length = 5 * s ∧ s ≤ 3 := by
    intro iv' ar' f1 aj1 l2
    have := m_sq_loop (x := x) (ai := ai) (ar := ar') (pp := pp) (f0 := f1) 3 0 xfuel 0 (u2 iv' 19 18 0) aj1 _ [] 1 (by omega) (by decide) l2 (fun i hi => absurd hi (Nat.not_lt_zero _)) rfl rfl (Nat.le_refl _) (by decide)
    unfold F_X11_findSquares
    rw [wi_19_18, Option.bind_some]
    exact this
  have sn := s_squareNumbers (x := x) (iv := iv) (ai := ai) (aj := aj) (ar := ar) (pp := pp) (more := 4) (show x + 41 ≤ z + 2 by omega) y4 (Nat.le_refl _)
  have fG : fm (lsG g (M / N) (M * (A + B) / (256 * N)) (M * A * B / (65536 * N)) 6) (lsG g (M / N) (M * (A + B) / (256 * N)) (M * A * B / (65536 * N)) 4) (lsG g (M / N) (M * (A + B) / (256 * N)) (M * A * B / (65536 * N)) 3) (lsG g (M / N) (M * (A + B) / (256 * N)) (M * A * B / (65536 * N)) 2) (lsG g (M / N) (M * (A + B) / (256 * N)) (M * A * B / (65536 * N)) 1) (lsG g (M / N) (M * (A + B) / (256 * N)) (M * A * B / (65536 * N)) 0) = fm G6 (g 4) G3 (g 2) (g 1) G0 := by
    rw [hg6, hg3, hg0]
    rfl
  rw [fG] at sn
  have kd4 : hKd (hp x iv ai aj ar pp f1) (z + 1) = some 4 := (y4.pc (fun _ _ => rfl)).kd
  have ec2 : F_X10_span z (hp x iv ai aj ar pp f0) x (nI j) m n a b = (F_X4_squareNumbers (z + 2) (hp x iv ai aj ar pp f1) (z + 1) (nI 4)).bind (fun q4 => Option.bind (some q4.1) fun o5 => xnul o5 (some ((-9 : Int32), q4.2.1, q4.2.2)) (fun q7 => Option.bind (hLen q4.2.2 q7) fun v8 => Option.bind (hJst q4.2.2 q7 (v8 - (4 : Int32)) M) fun f9 => Option.bind (hJst f9 q7 ((v8 - (4 : Int32)) + (1 : Int32)) N) fun f10 => Option.bind (hJst f10 q7 ((v8 - (4 : Int32)) + (2 : Int32)) A) fun f11 => Option.bind (hJst f11 q7 ((v8 - (4 : Int32)) + (3 : Int32)) B) fun f12 => Option.bind (some (va_up f12 q4.2.1 (some (.inr (.inr (.inr (6, [.int 0, .null, .int 0, .null]))))))) fun f13 => Option.bind (F_X7_init f13 q4.2.1 pa (nI j) q7) fun q14 => if hKd q14 x = some 9 then (Option.bind (F_X10_keepProof q14 x q4.2.1) fun q16 => some (q16.1, (q4.2.1 + 1), q16.2)) else none)) := by
    rw [ec, y2, Option.bind_some]
    unfold F_X10_span_68
    rw [xnul_s, if_pos kd4, hM, hNN, hA, hBB]
    rfl
  rcases sn with ⟨s1, f2, s2, s3'⟩ | ⟨ns, f2, G, s, s1, s2, s3', s4, s5, s6', s7⟩
  · obtain ⟨aj1, l2, l3, e1⟩ := em2 iv ar f2 p3
    rcases fs iv ar f2 aj1 l2 with ⟨_, iv2, aj2, t2, t3⟩ | ⟨ns, iv2, aj2, s, t1, _⟩
    · refine ⟨-9, z + 4, hp x iv ai aj ar pp f2, ?_, rk_19, iv2, ai, aj2, ar, pp, f2, ?_, ?_⟩
      · rw [ec2, s2]
        rfl
      · refine e1.trans ?_
        rw [t2, Option.bind_some]
        exact if_pos rfl
      · refine hI0.ext (by omega) (fun c hc => (s3' c (by omega)).trans (y3 c hc)) (t3.1 0 (by decide)) (t3.1 5 (by decide)) (congrFun (t3.1 9 (by decide)) 4) (fun s hs => (t3.2.1 s hs).trans (u2_nt _ _ hs)) (fun _ _ _ _ _ _ _ => rfl) ((t3.2.2 22 (by decide) (by decide)).trans (l3 22 (by decide))) ((t3.2.2 23 (by decide) (by decide)).trans (l3 23 (by decide))) ((t3.2.2 34 (by decide) (by decide)).trans (l3 34 (by decide))) rfl
    · rw [s1] at t1; cases t1
  · have hlt : ns.length ≤ 15 := by omega
    have eC : F_X10_span z (hp x iv ai aj ar pp f0) x (nI j) m n a b = (F_X10_keepProof (hp x iv ai aj ar pp (va_up (va_up f2 (z + 4) (some (.inr (.inl (ns.length + 4, va_up (va_up (va_up (va_up G ns.length M) (ns.length + 1) N) (ns.length + 2) A) (ns.length + 3) B))))) (z + 5) (some (.inr (.inr (.inr (6, [.int 3, .ref pa, .int (nI j), .ref (z + 4)]))))))) x (z + 5)).bind (fun q16 => some (q16.1, z + 6, q16.2)) := by
      have hw : x + 41 ≤ z + 2 + 2 := by omega
      rw [ec2, s2, Option.bind_some, Option.bind_some, xnul_s, dLen hw, fLenJ s3', Option.bind_some, sub_4 (by omega), Nat.add_sub_cancel, dst hw s3' (by omega) (by omega), Option.bind_some, add_1, dst hw (up_at _ _ _) (by omega) (by omega), Option.bind_some, add_2, dst hw (up_at _ _ _) (by omega) (by omega), Option.bind_some, add_3, dst hw (up_at _ _ _) (by omega) (by omega), Option.bind_some, hp_dyn (show x + 41 ≤ z + 2 + 3 by omega), Option.bind_some]
      unfold F_X7_init F_X8_init
      rw [s_init5 (show x + 41 ≤ z + 2 + 3 by omega) (Or.inl rfl) (up_at _ _ _), Option.bind_some, Option.bind_some, Option.bind_some, if_pos rk_0, up_up, up_up, up_up, up_up]
    generalize hf3 : va_up (va_up f2 (z + 4) (some (.inr (.inl (ns.length + 4, va_up (va_up (va_up (va_up G ns.length M) (ns.length + 1) N) (ns.length + 2) A) (ns.length + 3) B))))) (z + 5) (some (.inr (.inr (.inr (6, [.int 3, .ref pa, .int (nI j), .ref (z + 4)]))))) = f3 at eC
    have g1 : f3 (z + 5) = some (.inr (.inr (.inr (6, [.int 3, .ref pa, .int (nI j), .ref (z + 4)])))) := by rw [← hf3, up_at]
    have g2 : f3 (z + 4) = some (.inr (.inl (ns.length + 4, va_up (va_up (va_up (va_up G ns.length M) (ns.length + 1) N) (ns.length + 2) A) (ns.length + 3) B))) := by rw [← hf3, up_ne _ _ (by omega), up_at]
    have g4 : ∀ c, c < z → f3 c = f0 c := fun c hc => by rw [← hf3, up_ne _ _ (by omega), up_ne _ _ (by omega), s5 c (by omega)]; exact y3 c hc
    have gN : ∀ i, i < ns.length + 4 → va_up (va_up (va_up (va_up G ns.length M) (ns.length + 1) N) (ns.length + 2) A) (ns.length + 3) B i = spN ns M N A B i := by
      intro i hi
      unfold spN
      by_cases i0 : i < ns.length
      · rw [if_pos i0, up_ne _ _ (by omega), up_ne _ _ (by omega), up_ne _ _ (by omega), up_ne _ _ (by omega), s4 i i0]
      rw [if_neg i0]
      by_cases i1 : i = ns.length
      · rw [if_pos i1, up_ne _ _ (by omega), up_ne _ _ (by omega), up_ne _ _ (by omega), i1, up_at]
      rw [if_neg i1]
      by_cases i2 : i = ns.length + 1
      · rw [if_pos i2, up_ne _ _ (by omega), up_ne _ _ (by omega), i2, up_at]
      rw [if_neg i2]
      by_cases i3 : i = ns.length + 2
      · rw [if_pos i3, up_ne _ _ (by omega), i3, up_at]
      rw [if_neg i3, show i = ns.length + 3 by omega, up_at]
    generalize hGG : va_up (va_up (va_up (va_up G ns.length M) (ns.length + 1) N) (ns.length + 2) A) (ns.length + 3) B = GG at g2 gN
    rw [s_keepProof q1 q2 ((dK (show x + 41 ≤ z + 5 by omega)).trans (fK g1)) (Or.inr (Or.inr (Or.inl rfl)))] at eC
    by_cases hn : nq < 40
    · rw [if_pos hn, Option.bind_some] at eC
      obtain ⟨aj1, l2, l3, e1⟩ := em2 (u2 iv 0 8 (nI (nq + 1))) (u2 ar 4 nq (some (z + 5))) f3 p3
      rcases fs (u2 iv 0 8 (nI (nq + 1))) (u2 ar 4 nq (some (z + 5))) f3 aj1 l2 with ⟨t1, _⟩ | ⟨ns2, iv2, aj2, s', t1, t2, t3, t4, t5, t6, t7⟩
      · rw [s1] at t1; cases t1
      rw [s1] at t1
      have ens : ns = ns2 := Option.some.inj t1
      subst ens
      have es' : s' = s := by omega
      subst es'
      have e20 : iv2 19 20 = nI nq := (t3.2.1 20 (by decide)).trans q3
      have h5' : u2 iv2 19 20 (nI (nq + 1)) 19 18 = nI s' := t5
      have hj34 : aj2 34 = aj 34 := (t3.2.2 34 (by decide) (by decide)).trans (l3 34 (by decide))
      have lo := m_tsq (x := x) (iv := u2 iv2 19 20 (nI (nq + 1))) (ai := ai) (aj := aj2) (ar := u2 ar 4 nq (some (z + 5))) (pp := pp) (f0 := f3) (q := nq) (kd := 3) (po := nI j) (bo := -9) (N := spN ns M N A B) hn t7 h5' (fun i hi => (t4 i (by omega)).trans (by unfold spN; rw [if_pos (by omega)])) (5 * s') 0 xfuel (by omega) (Nat.lt_of_le_of_lt (show 5 * s' ≤ 15 by omega) (by decide))
      rw [layN_0, up_self] at lo
      have mt := fun k hk => m_tell (x := x) (iv := u2 iv2 19 20 (nI (nq + 1))) (ai := ai) (aj := aj2) (ar := u2 ar 4 nq (some (z + 5))) (pp := pp) (f0 := f3) (q := nq) (m := k) (kd := 3) (po := nI j) (bo := -9) (N := spN ns M N A B) hn hk
      have v0 : spN ns M N A B (5 * s') = M := by unfold spN; rw [if_neg (by omega), if_pos (by omega)]
      have v1 : spN ns M N A B (5 * s' + 1) = N := by unfold spN; rw [if_neg (by omega), if_neg (by omega), if_pos (by omega)]
      have v2 : spN ns M N A B (5 * s' + 1 + 1) = A := by unfold spN; rw [if_neg (by omega), if_neg (by omega), if_neg (by omega), if_pos (by omega)]
      have v3 : spN ns M N A B (5 * s' + 1 + 1 + 1) = B := by unfold spN; rw [if_neg (by omega), if_neg (by omega), if_neg (by omega), if_neg (by omega)]
      have m0 := mt (5 * s') (by omega)
      have m1 := mt (5 * s' + 1) (by omega)
      have m2 := mt (5 * s' + 1 + 1) (by omega)
      have m3 := mt (5 * s' + 1 + 1 + 1) (by omega)
      rw [v0] at m0
      rw [v1] at m1
      rw [v2] at m2
      rw [v3] at m3
      refine ⟨nI nq, z + 6, _, eC, rk_19, u2 iv2 19 20 (nI (nq + 1)), tA ai nq 3 (nI j) (-9) (5 * s' + 4), va_up aj2 34 (layN (aj2 34) nq (spN ns M N A B) (5 * s' + 4)), u2 ar 4 nq (some (z + 5)), pp, f3, ?_, ?_⟩
      · refine e1.trans ?_
        have lo' : F_X11_tellSquares (hp x (u2 iv2 19 20 (nI (nq + 1))) (u2 (u2 (u2 (u2 ai 30 nq 3) 31 nq (nI j)) 32 nq (-9)) 33 nq 0) aj2 (u2 ar 4 nq (some (z + 5))) pp f3) (x + 19) (nI nq) = some (hp x (u2 iv2 19 20 (nI (nq + 1))) (tA ai nq 3 (nI j) (-9) (5 * s')) (va_up aj2 34 (layN (aj2 34) nq (spN ns M N A B) (5 * s'))) (u2 ar 4 nq (some (z + 5))) pp f3) := lo
        rw [t2, Option.bind_some, if_neg (show ¬ ((1 : Int32), hp x iv2 ai aj2 (u2 ar 4 nq (some (z + 5))) pp f3).1 = 0 from e10), ri_19_20, e20, Option.bind_some, if_neg (show ¬ nI nq = 40 by rw [ceq_40 (by omega)]; omega), if_pos rk_19, m_newProof hn e20, Option.bind_some, if_pos rk_19, lo', Option.bind_some, if_pos rk_19, m0, Option.bind_some, if_pos rk_19, m1, Option.bind_some, if_pos rk_19, m2, Option.bind_some, if_pos rk_19, m3, Option.bind_some]
      · refine hI0.newProof (A := z + 5) (B := z + 4) (m := 5 * s' + 4) hn q2 (by omega) g4 (fun s hs => ?_) ?_ ?_ ?_ (fun s a1 a2 => ?_) (u2_tt _ _ _ _) (fun k a1 a2 a3 a4 => tA_ne a1 a2 a3 a4) tA_30 tA_31 tA_32 tA_33 ?_ ?_ (fun i hi => ?_) rfl rfl rfl rfl (fun own => ?_)
        · show iv2 0 s = iv 0 s
          rw [t3.1 0 (by decide), u2_ne _ _ _ (show 0 ≠ 19 by decide)]
          exact u2_nt _ _ hs
        · show iv2 0 8 = nI (nq + 1)
          rw [t3.1 0 (by decide)]
          rfl
        · show iv2 5 = iv 5
          rw [t3.1 5 (by decide)]
          rfl
        · show iv2 9 4 = iv 9 4
          rw [t3.1 9 (by decide)]
          rfl
        · rw [u2_nt _ _ a2, t3.2.1 s a1, u2_nt _ _ a1]
          rfl
        · exact (up_ne aj2 _ (by decide)).trans ((t3.2.2 22 (by decide) (by decide)).trans (l3 22 (by decide)))
        · exact (up_ne aj2 _ (by decide)).trans ((t3.2.2 23 (by decide) (by decide)).trans (l3 23 (by decide)))
        · show va_up aj2 34 (layN (aj2 34) nq (spN ns M N A B) (5 * s' + 4)) 34 i = aj 34 i
          rw [up_at, layN_lt hi, hj34]
        · have hb := sq_b60 (fm_b (co_b (by rw [hg6]; exact hok.2.2.2.1)) (co_b (c4 4 (by decide))) (co_b (by rw [hg3]; exact hok.2.2.2.2.1)) (co_b (c4 2 (by decide))) (co_b (c4 1 (by decide))) (co_b (by rw [hg0]; exact hok.2.2.2.2.2))) s1
          have bs : ∀ v : Int64, v.toInt.natAbs ≤ 2048 → (-1000000000 ≤ v ∧ v ≤ 1000000000) := by
            intro v hv
            have w1 : (-1000000000 : Int64).toInt = -1000000000 := rfl
            have w2 : (1000000000 : Int64).toInt = 1000000000 := rfl
            exact ⟨Int64.le_iff_toInt_le.mpr (by omega), Int64.le_iff_toInt_le.mpr (by omega)⟩
          have last : ∀ i, 5 * s' ≤ i → i < 5 * s' + 4 → (GG i).toInt.natAbs ≤ 2048 := by
            intro i i1 i2
            rw [gN i (by omega)]
            unfold spN
            rw [if_neg (by omega)]
            split
            · omega
            · split
              · omega
              · split
                · exact bA
                · exact bB
          refine ⟨z + 5, z + 4, 5 * s' + 4, j, pa, GG, rfl, ⟨by omega, by omega, ?_⟩, ⟨by omega, by omega, ?_⟩, ?_, by omega, rfl, ?_, hj30, rfl, c1, fun i hi => ?_, Or.inr (Or.inl ⟨rfl, rfl, g1, s', t7, rfl, fun i hi => ?_, fun i i1 i2 => bs _ (last i i1 i2)⟩)⟩
          · unfold ownP
            rw [if_neg (by omega), if_pos rfl]
          · unfold ownP
            rw [if_neg (by omega), if_neg (by omega), if_pos rfl]
          · rw [g2, t6]
          · rw [p2]; exact (nI_ltI (by omega) (by omega)).mpr hj
          · show GG i = va_up aj2 34 (layN (aj2 34) nq (spN ns M N A B) (5 * s' + 4)) 34 (160 * nq + i)
            rw [up_at, layN_at hi, gN i (by omega)]
          · by_cases il : i < 5 * s'
            · rw [gN i (by omega)]
              unfold spN
              rw [if_pos (by omega), List.getD_eq_getElem?_getD, List.getElem?_eq_getElem (by omega)]
              exact hb _ (List.getElem_mem _)
            · exact b60_of (Nat.le_trans (last i (by omega) hi) (by decide))
    · rw [if_neg hn, Option.bind_some] at eC
      obtain ⟨aj1, l2, l3, e1⟩ := em2 iv ar f3 p3
      rcases fs iv ar f3 aj1 l2 with ⟨t1, _⟩ | ⟨ns2, iv2, aj2, s', t1, t2, t3, t4, t5, t6, t7⟩
      · rw [s1] at t1; cases t1
      have e20 : iv2 19 20 = nI nq := (t3.2.1 20 (by decide)).trans q3
      refine ⟨-4, z + 6, _, eC, rk_19, iv2, ai, aj2, ar, pp, f3, ?_, ?_⟩
      · refine e1.trans ?_
        rw [t2, Option.bind_some, if_neg (show ¬ ((1 : Int32), hp x iv2 ai aj2 ar pp f3).1 = 0 from e10), ri_19_20, e20, Option.bind_some, if_pos (show nI nq = 40 by rw [ceq_40 (by omega)]; omega)]
      · exact hI0.ext (by omega) g4 (t3.1 0 (by decide)) (t3.1 5 (by decide)) (congrFun (t3.1 9 (by decide)) 4) (fun s hs => (t3.2.1 s hs).trans (u2_nt _ _ hs)) (fun _ _ _ _ _ _ _ => rfl) ((t3.2.2 22 (by decide) (by decide)).trans (l3 22 (by decide))) ((t3.2.2 23 (by decide) (by decide)).trans (l3 23 (by decide))) ((t3.2.2 34 (by decide) (by decide)).trans (l3 34 (by decide))) rfl
end SPAN

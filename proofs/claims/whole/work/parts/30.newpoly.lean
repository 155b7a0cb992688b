/-! a polynomial comes on both sides -/
section NEWPOLY
variable {x z : Nat} {iv ai : Nat → Nat → Int32} {aj : Nat → Nat → Int64} {ar : Nat → Nat → Option Nat} {pp : Nat → Option Nat} {f0 : xHp}
theorem Oa_no {C : Option (Int32 × Nat × xHp)} {M : xHp → Option (Int32 × xHp)} {r : Int32} (hI0 : INV x z iv ai aj ar pp f0) (h1 : C = some (r, z, hp x iv ai aj ar pp f0)) (h2 : M (hp x iv ai aj ar pp f0) = some (r, hp x iv ai aj ar pp f0)) : Oa x C M := ⟨r, z, _, h1, rk_19, iv, ai, aj, ar, pp, f0, h2, hI0⟩
theorem Ow_no {R : Type} {C : Option (R × xHp)} {M : xHp → Option (R × xHp)} {r : R} (hI0 : INV x z iv ai aj ar pp f0) (h1 : C = some (r, hp x iv ai aj ar pp f0)) (h2 : M (hp x iv ai aj ar pp f0) = some (r, hp x iv ai aj ar pp f0)) : Ow x z C M := ⟨r, _, h1, rk_19, iv, ai, aj, ar, pp, f0, h2, hI0⟩
theorem Tm_keep {ts ts' : Nat → Int64} {n p : Nat} (hp1 : p < n) (h : ∀ i, i < 9 * n → ts' i = ts i) : Tm ts' p = Tm ts p := by
  funext t
  unfold Tm
  by_cases ht : t < 9
  · rw [if_pos ht, if_pos ht]; exact h _ (by omega)
  · rw [if_neg ht, if_neg ht]
theorem iR.polys {cp : Nat → Int32} {mp mb mm lx ly : Int32} {po : Option Nat} {cs ct ms mt : Nat → Int32} {nb : Int32} {n n' : Nat} {r r' : Nat → Option Nat} {ts ts' : Nat → Int64} {bs : Nat → Int32} (hn : n ≤ n') (hn' : n' ≤ 30) (hr : ∀ p, p < n → r' p = r p) (ht : ∀ i, i < 9 * n → ts' i = ts i) (h : iR cp mp mb mm lx ly po cs ct ms mt (nI n) nb r ts bs) : iR cp mp mb mm lx ly po cs ct ms mt (nI n') nb r' ts' bs := by
  obtain ⟨l, h1, h2, h3, h4, h5, h6, h7, h8⟩ := h
  refine ⟨l, h1, h2, h3, h4, h5, h6, h7, ?_⟩
  rcases h8 with h8 | ⟨p, b, m, g1, g2, g3, g4, g5, g6, g7, g8, g9, g10, g11⟩
  · exact Or.inl h8
  · have hpn : p < n := (nI_ltI (by omega) (by omega)).mp g1
    refine Or.inr ⟨p, b, m, (nI_ltI (by omega) (by omega)).mpr (by omega), g2, g3, g4, g5, g6, g7, g8, by rw [hr p hpn]; exact g9, g10, ?_⟩
    rw [Tm_keep hpn ht]
    exact g11
theorem iQ.polys {own : Nat → Nat × Nat} {cn mn : Int32} {r : Nat → Option Nat} {kd po bo ln : Nat → Int32} {ns : Nat → Int64} {nb : Int32} {n n' : Nat} {pr pr' : Nat → Option Nat} {ts ts' : Nat → Int64} {bs : Nat → Int32} (hn : n ≤ n') (hn' : n' ≤ 30) (hr : ∀ p, p < n → pr' p = pr p) (ht : ∀ i, i < 9 * n → ts' i = ts i) (h : iQ x z f0 own cn mn r kd po bo ln ns (nI n) nb pr ts bs) : iQ x z f0 own cn mn r kd po bo ln ns (nI n') nb pr' ts' bs := by
  obtain ⟨k, h1, h2, h3, h4⟩ := h
  refine ⟨k, h1, h2, h3, fun q hq => ?_⟩
  obtain ⟨a, b, m, p, pa, g, c1, c2, c3, c4, c5, c6, c7, c8, c9, c10, c11, c12⟩ := h4 q hq
  have hpn : p < n := (nI_ltI (by omega) (by omega)).mp c7
  refine ⟨a, b, m, p, pa, g, c1, c2, c3, c4, c5, c6, (nI_ltI (by omega) (by omega)).mpr (by omega), c8, c9, by rw [hr p hpn]; exact c10, c11, ?_⟩
  rw [Tm_keep hpn ht]
  exact c12
theorem lay9_lt {f : Nat → Int64} {n i : Nat} {D : Nat → Int64} (h : i < 9 * n) : lay9 f n 0 D i = f i := by
  unfold lay9
  rw [if_neg (by omega)]
theorem lay9_at {f : Nat → Int64} {n t : Nat} {D : Nat → Int64} (h : t < 9) : lay9 f n 0 D (9 * n + t) = D t := by
  unfold lay9
  rw [if_pos (by omega), Nat.add_sub_cancel_left]
/-- cells that come behind, and the draft, change nothing -/
theorem INV.junk {y : Nat} {f2 : xHp} {D : Nat → Int64} (hI0 : INV x z iv ai aj ar pp f0) (hy : z ≤ y) (h2 : ∀ a, a < z → f2 a = f0 a) : INV x y iv ai (va_up aj 24 D) ar pp f2 := by
  obtain ⟨hz, own, hT, hS, hP, hB, hR, hQ⟩ := id hI0
  have hF : Fr x z y f0 f2 own own (fun _ => False) := ⟨by omega, fun a _ h => ⟨rfl, fun _ => h2 a h⟩⟩
  exact ⟨by omega, own, hT, hS.keep hF (fun _ => ⟨not_false, not_false⟩), hP.keep hF (fun _ => ⟨not_false, not_false⟩), hB, hR, hQ.keep hF (fun _ => ⟨not_false, not_false, not_false⟩)⟩
/-- the class has its coefficients in a new row at z, the reference the same ones in its draft -/
theorem Oa_polyZ {w : Int32} {y : Nat} (hy : z < y) (hI0 : INV x z (u2 iv 19 0 w) ai aj ar pp f0) {D : Nat → Int64} {f2 : xHp} (h1 : f2 z = some (.inr (.inl (9, D)))) (h2 : ∀ a, a < z → f2 a = f0 a) {M : xHp → Option (Int32 × xHp)}
    (hM : ∀ (iv' : Nat → Nat → Int32) (ar' : Nat → Nat → Option Nat) (f' : xHp), iv' 19 = iv 19 → ∃ D' : Nat → Int64, (∀ t, t < 9 → D' t = D t) ∧ M (hp x iv' ai aj ar' pp f') = F_X11_becomes (hp x (u2 iv' 19 0 w) ai (va_up aj 24 D') ar' pp f') (x + 19) 9) : Oa x (F_X10_keepPolynomial y (hp x iv ai aj ar pp f2) x z) M := by
  obtain ⟨hz, own, hT, hS, ⟨n, p1, p2, p3, p4⟩, hB, hR, hQ⟩ := id hI0
  have hP : iP x z f0 own ((u2 iv 19 0 w) 0 6) ((u2 iv 19 0 w) 19 5) (ar 2) (aj 23) := ⟨n, p1, p2, p3, p4⟩
  obtain ⟨k1, k2, k3⟩ := s_keep (x := x) (z := y) (iv := iv) (ai := ai) (aj := aj) (ar := ar) (pp := pp) (f0 := f2) (by omega) (b := z) ⟨hz, by omega⟩ h1 p1 p2
  have hcD : ∀ D' : Nat → Int64, (∀ t, t < 9 → D' t = D t) → (cok D ↔ cok (va_up aj 24 D' 24)) := by
    intro D' hD
    have e : va_up aj 24 D' 24 = D' := up_at _ _ _
    rw [e]
    constructor
    · intro h t ht; rw [hD t ht]; exact h t ht
    · intro h t ht; rw [← hD t ht]; exact h t ht
  have hF : Fr x z y f0 f2 own own (fun _ => False) := ⟨by omega, fun a _ h => ⟨rfl, fun _ => h2 a h⟩⟩
  have base : ∀ D' : Nat → Int64, INV x y (u2 iv 19 0 w) ai (va_up aj 24 D') ar pp f2 := fun D' => ⟨by omega, own, hT, hS.keep hF (fun _ => ⟨not_false, not_false⟩), hP.keep hF (fun _ => ⟨not_false, not_false⟩), hB, hR, hQ.keep hF (fun _ => ⟨not_false, not_false, not_false⟩)⟩
  by_cases hc : cok D
  · by_cases hn : n < 30
    · obtain ⟨f3, e1, e2, e3⟩ := k3 hc hn
      obtain ⟨D', hD, hM1⟩ := hM (u2 iv 0 6 (nI (n + 1))) (u2 ar 2 n (some y)) f3 rfl
      have hm := (m_keep (x := x) (iv := u2 (u2 iv 0 6 (nI (n + 1))) 19 0 w) (ai := ai) (aj := va_up aj 24 D') (ar := u2 ar 2 n (some y)) (pp := pp) (f0 := f3) p1 p3).2.2 ((hcD D' hD).mp hc) hn
      refine ⟨nI n, y + 1, _, e1, rk_19, _, _, _, _, _, _, hM1.trans hm, by omega, va_up (va_up own z (4, n)) y (3, n), hT, ?_, ?_, hB, ?_, ?_⟩
      · exact hS.keep (E := fun _ => False) ⟨by omega, fun a _ h => ⟨by rw [up_ne _ _ (by omega), up_ne _ _ (by omega)], fun _ => (e3 a (by omega)).trans (h2 a h)⟩⟩ (fun _ => ⟨not_false, not_false⟩)
      · refine ⟨n + 1, by omega, rfl, rfl, fun p hp1 => ?_⟩
        show poOk x (y + 1) f3 _ p (va_up (ar 2) n (some y) p) (lay9 (aj 23) n 0 (va_up aj 24 D' 24))
        by_cases hpn : p = n
        · subst hpn
          refine ⟨y, z, D, up_at _ _ _, ⟨by omega, by omega, up_at _ _ _⟩, ⟨hz, by omega, by rw [up_ne _ _ (by omega), up_at]⟩, e2, (e3 z (by omega)).trans h1, fun t ht => ⟨?_, hc t ht⟩⟩
          rw [lay9_at ht]
          exact (hD t ht).symm
        · rw [up_ne _ _ hpn]
          obtain ⟨a, b, g, q1, q2, q3, q4, q5, q6⟩ := (p4 p (by omega)).keep (E := fun _ => False) (z' := y + 1) (f1 := f3) (own' := va_up (va_up own z (4, n)) y (3, n)) ⟨by omega, fun a _ h => ⟨by rw [up_ne _ _ (by omega), up_ne _ _ (by omega)], fun _ => (e3 a (by omega)).trans (h2 a h)⟩⟩ ⟨not_false, not_false⟩
          refine ⟨a, b, g, q1, q2, q3, q4, q5, fun t ht => ⟨?_, (q6 t ht).2⟩⟩
          rw [lay9_lt (by omega)]
          exact (q6 t ht).1
      · rw [show (u2 iv 19 0 w) 0 6 = nI n from p2] at hR
        exact iR.polys (n' := n + 1) (Nat.le_succ n) (by omega) (fun p hp1 => up_ne _ _ (by omega)) (fun i hi => lay9_lt hi) hR
      · rw [show (u2 iv 19 0 w) 0 6 = nI n from p2] at hQ
        exact iQ.polys (n' := n + 1) (Nat.le_succ n) (by omega) (fun p hp1 => up_ne _ _ (by omega)) (fun i hi => lay9_lt hi) (hQ.keep (E := fun _ => False) (z' := y + 1) (f1 := f3) ⟨by omega, fun a _ h => ⟨by rw [up_ne _ _ (by omega), up_ne _ _ (by omega)], fun _ => (e3 a (by omega)).trans (h2 a h)⟩⟩ (fun _ => ⟨not_false, not_false, not_false⟩))
    · have hn : n = 30 := by omega
      obtain ⟨D', hD, hM1⟩ := hM iv ar f2 rfl
      exact ⟨-4, y, _, k2 hc hn, rk_19, _, _, _, _, _, _, hM1.trans ((m_keep (iv := u2 iv 19 0 w) (aj := va_up aj 24 D') p1 p3).2.1 ((hcD D' hD).mp hc) hn), base D'⟩
  · obtain ⟨D', hD, hM1⟩ := hM iv ar f2 rfl
    exact ⟨-2, y, _, k1 hc, rk_19, _, _, _, _, _, _, hM1.trans ((m_keep (iv := u2 iv 19 0 w) (aj := va_up aj 24 D') p1 p3).1 (fun h => hc ((hcD D' hD).mpr h))), base D'⟩
theorem u2_self {α : Type} (f : Nat → Nat → α) (c s : Nat) : u2 f c s (f c s) = f := by
  unfold u2
  rw [up_self, up_self]
theorem Oa_polyW {w : Int32} (hI0 : INV x z (u2 iv 19 0 w) ai aj ar pp f0) {D : Nat → Int64} {f2 : xHp} (h1 : f2 z = some (.inr (.inl (9, D)))) (h2 : ∀ a, a < z → f2 a = f0 a) {M : xHp → Option (Int32 × xHp)}
    (hM : ∀ (iv' : Nat → Nat → Int32) (ar' : Nat → Nat → Option Nat) (f' : xHp), iv' 19 = iv 19 → ∃ D' : Nat → Int64, (∀ t, t < 9 → D' t = D t) ∧ M (hp x iv' ai aj ar' pp f') = F_X11_becomes (hp x (u2 iv' 19 0 w) ai (va_up aj 24 D') ar' pp f') (x + 19) 9) : Oa x (F_X10_keepPolynomial (z + 1) (hp x iv ai aj ar pp f2) x z) M := Oa_polyZ (by omega) hI0 h1 h2 hM
theorem Oa_poly {y : Nat} (hy : z < y) (hI0 : INV x z iv ai aj ar pp f0) {D : Nat → Int64} {f2 : xHp} (h1 : f2 z = some (.inr (.inl (9, D)))) (h2 : ∀ a, a < z → f2 a = f0 a) {M : xHp → Option (Int32 × xHp)}
    (hM : ∀ (iv' : Nat → Nat → Int32) (ar' : Nat → Nat → Option Nat) (f' : xHp), iv' 19 = iv 19 → ∃ D' : Nat → Int64, (∀ t, t < 9 → D' t = D t) ∧ M (hp x iv' ai aj ar' pp f') = F_X11_becomes (hp x iv' ai (va_up aj 24 D') ar' pp f') (x + 19) 9) : Oa x (F_X10_keepPolynomial y (hp x iv ai aj ar pp f2) x z) M := by
  refine Oa_polyZ hy (w := iv 19 0) (by rw [u2_self]; exact hI0) h1 h2 (fun iv' ar' f' hiv => ?_)
  rw [← hiv, u2_self]
  exact hM iv' ar' f' hiv
/-- the draft is cleared -/
def zero25 (f : Nat → Int64) (j : Nat) : Nat → Int64 := fun i => if j ≤ i ∧ i < 25 then 0 else f i
theorem m_clear : ∀ (w j m : Nat) (aj : Nat → Nat → Int64), j + w = 25 → w < m → L_X11_clearDraft_2 m (hp x iv ai aj ar pp f0) (x + 19) (nI j) = some (hp x iv ai (va_up aj 24 (zero25 (aj 24) j)) ar pp f0) := by
  intro w
  induction w with
  | zero =>
    intro j m aj hj hm
    obtain ⟨m, rfl⟩ : ∃ y, m = y + 1 := ⟨m - 1, by omega⟩
    have : j = 25 := by omega
    subst this
    show F_X11_clearDraft_2 _ _ _ _ = _
    unfold F_X11_clearDraft_2
    have e : zero25 (aj 24) 25 = aj 24 := by
      funext i
      unfold zero25
      rw [if_neg (by omega)]
    rw [if_pos (by decide), e, up_self]
  | succ w ih =>
    intro j m aj hj hm
    obtain ⟨m, rfl⟩ : ∃ y, m = y + 1 := ⟨m - 1, by omega⟩
    show F_X11_clearDraft_2 _ _ _ _ = _
    unfold F_X11_clearDraft_2
    simp (disch := omega) only [rn_19_7, wa_24, Option.bind_some, mul_3, mul_4, mul_5, mul_9, mul_30, mul_160, add_1, add_2, add_3, add_4, add_5, add_6, addl_1, addl_2, addl_3, addl_4, cle_0, cel_0, clt_0, ctl_0, ceq_0, cle_1, cel_1, clt_1, ctl_1, ceq_1, cle_2, cel_2, clt_2, ctl_2, ceq_2, cle_3, cel_3, clt_3, ctl_3, ceq_3, cle_4, cel_4, clt_4, ctl_4, ceq_4, cle_5, cel_5, clt_5, ctl_5, ceq_5, cle_6, cel_6, clt_6, ctl_6, ceq_6, cle_7, cel_7, clt_7, ctl_7, ceq_7, cle_8, cel_8, clt_8, ctl_8, ceq_8, cle_9, cel_9, clt_9, ctl_9, ceq_9, cle_12, cel_12, clt_12, ctl_12, ceq_12, cle_20, cel_20, clt_20, ctl_20, ceq_20, cle_24, cel_24, clt_24, ctl_24, ceq_24, cle_25, cel_25, clt_25, ctl_25, ceq_25, cle_30, cel_30, clt_30, ctl_30, ceq_30, cle_36, cel_36, clt_36, ctl_36, ceq_36, cle_40, cel_40, clt_40, ctl_40, ceq_40, cle_41, cel_41, clt_41, ctl_41, ceq_41, cle_120, cel_120, clt_120, ctl_120, ceq_120, cle_160, cel_160, clt_160, ctl_160, ceq_160, cle_164, cel_164, clt_164, ctl_164, ceq_164, cle_500, cel_500, clt_500, ctl_500, ceq_500, cle_1000, cel_1000, clt_1000, ctl_1000, ceq_1000, ixr, ixq, ixf, neg_nI, leq_nI, lt_nI, eq_nI, cl_nI, nI_add, pk_mul]
    rw [if_neg (by omega), ih (j + 1) m _ (by omega) (by omega)]
    have e : zero25 (va_up (aj 24) j 0) (j + 1) = zero25 (aj 24) j := by
      funext i
      unfold zero25 va_up
      by_cases h1 : j + 1 ≤ i ∧ i < 25
      · rw [if_pos h1, if_pos (by omega)]
      · rw [if_neg h1]
        by_cases h2 : i = j
        · rw [if_pos h2, if_pos (by omega)]
        · rw [if_neg h2, if_neg (by omega)]
    show some (hp x iv ai (va_up (u2 aj 24 j 0) 24 (zero25 (va_up (aj 24) j 0) (j + 1))) ar pp f0) = _
    rw [e, up_u2]
theorem m_clearDraft : F_X11_clearDraft (hp x iv ai aj ar pp f0) (x + 19) = some (hp x iv ai (va_up aj 24 (zero25 (aj 24) 0)) ar pp f0) := m_clear 25 0 xfuel aj (by omega) (by decide)
end NEWPOLY

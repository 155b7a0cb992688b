/-! a sum of squares, in the reference -/
/-- what the reference holds of a proof by squares or by span -/
def MQs (ai : Nat → Nat → Int32) (aj : Nat → Nat → Int64) (q K p : Nat) (sp : Bool) (g T : Nat → Int64) : Prop :=
  q < 40 ∧ K ≤ 3 ∧ p < 30 ∧ ai 33 q = nI (5 * K + (if sp = true then 4 else 0)) ∧ (ai 30 q = if sp = true then 3 else 0) ∧ ai 31 q = nI p ∧ (∀ i, i < 5 * K + (if sp = true then 4 else 0) → aj 34 (160 * q + i) = g i) ∧ ∀ t, t < 9 → aj 23 (9 * p + t) = T t
theorem MQs.kl {ai : Nat → Nat → Int32} {aj aj' : Nat → Nat → Int64} {q K p : Nat} {sp : Bool} {g T : Nat → Int64} (h : MQs ai aj q K p sp g T) (hk : Kl aj aj') : MQs ai aj' q K p sp g T := by
  obtain ⟨h1, h2, h3, h4, h5, h6, h7, h8⟩ := h
  exact ⟨h1, h2, h3, h4, h5, h6, fun i hi => by rw [hk 34 (by omega)]; exact h7 i hi, fun t ht => by rw [hk 23 (by omega)]; exact h8 t ht⟩
theorem Kl.trans {aj aj' aj2 : Nat → Nat → Int64} (h : Kl aj aj') (h2 : Kl aj' aj2) : Kl aj aj2 := fun k hk => (h2 k hk).trans (h k hk)
theorem Kl.up {aj : Nat → Nat → Int64} {c : Nat} (hc : 35 ≤ c ∧ c < 39) (P : Nat → Int64) : Kl aj (va_up aj c P) := fun k hk => up_ne _ _ (by omega)
theorem sd_m (v N : Int) (u : Int) : v * u * N * 65536 = v * (u * (65536 * N)) := by grind
section MSUMS
variable {x : Nat} {iv ai : Nat → Nat → Int32} {aj : Nat → Nat → Int64} {ar : Nat → Nat → Option Nat} {pp : Nat → Option Nat} {f0 : xHp} {q K p : Nat} {sp : Bool} {g T : Nat → Int64}
theorem MQs.pn (h : MQs ai aj q K p sp g T) {i : Nat} (hi : i < 5 * K + (if sp = true then 4 else 0)) : F_X11_proofNumber (hp x iv ai aj ar pp f0) (x + 19) (nI q) (nI i) = some (g i) := by
  have hq := h.1
  have hK := h.2.1
  have hi2 : i < 160 := by
    split at hi <;> omega
  unfold F_X11_proofNumber
  rw [rn_19_25, Option.bind_some, mul_160, nI_add, r34 (by omega), Option.bind_some, h.2.2.2.2.2.2.1 i hi]
theorem MQs.kind (h : MQs ai aj q K p sp g T) : hIld (hp x iv ai aj ar pp f0) (x + 30) (nI q) = some (if sp = true then 3 else 0) := by rw [r30 h.1, h.2.2.2.2.1]
theorem MQs.si (h : MQs ai aj q K p sp g T) : F_X11_squaresIn (hp x iv ai aj ar pp f0) (x + 19) (nI q) = some (nI K) := by
  have hK := h.2.1
  unfold F_X11_squaresIn F_X11_squaresIn_21
  rw [rn_19_24, Option.bind_some, r33 h.1, Option.bind_some, rn_19_21, Option.bind_some, h.kind, Option.bind_some, h.2.2.2.1]
  cases sp with
  | true =>
    rw [if_pos (show (if true = true then (3 : Int32) else 0) = 3 from rfl)]
    show some ((nI (5 * K + 4) - 4) / 5) = _
    rw [sub_4 (by omega), Nat.add_sub_cancel, div_5 (by omega), show 5 * K / 5 = K by omega]
  | false =>
    rw [if_neg (show ¬ (if false = true then (3 : Int32) else 0) = 3 by decide)]
    show some ((nI (5 * K + 0) - 0) / 5) = _
    rw [Int32.sub_zero, Nat.add_zero, div_5 (by omega), show 5 * K / 5 = K by omega]
/-- what timesOthers brings beside the squares' weights -/
def fz (sp own : Bool) (g : Nat → Int64) (K : Nat) : Int := if own = true then 1 else sdv sp g K
theorem m_times (own : Bool) {but : Int32} {bt : Nat} (hbt : ∀ s, s < K → (nI s = but ↔ s = bt)) (hown : own = true ↔ but = nI K) : ∀ (w s m : Nat) (aj : Nat → Nat → Int64), s + w = K → w < m → MQs ai aj q K p sp g T → b24 (aj 35) → ∃ aj', L_X11_timesOthers_9 m (hp x iv ai aj ar pp f0) (x + 19) (nI q) but (nI K) (nI s) = some (hp x iv ai aj' ar pp f0) ∧ Kl aj aj' ∧ aj' 38 = aj 38 ∧ b24 (aj' 35) ∧ ∀ v, mR (aj 35) v → mR (aj' 35) (v * (oth (fun s => (g (5 * s + 1)).toInt) bt w s * fz sp own g K)) := by
  intro w
  induction w with
  | zero =>
    intro s m aj hs hm h h5
    obtain ⟨m, rfl⟩ : ∃ y, m = y + 1 := ⟨m - 1, by omega⟩
    have hK := h.2.1
    have e0 : L_X11_timesOthers_9 (m + 1) (hp x iv ai aj ar pp f0) (x + 19) (nI q) but (nI K) (nI s) = if (if sp = true then (3 : Int32) else 0) = 3 then (if but = nI K then some (hp x iv ai aj ar pp f0) else (F_X11_proofNumber (hp x iv ai aj ar pp f0) (x + 19) (nI q) (nI (5 * K + 1))).bind (fun q7 => Option.bind (F_X11_multiply (hp x iv ai aj ar pp f0) (x + 19) q7) fun q9 => if hKd q9 (x + 19) = some 10 then (Option.bind (F_X11_multiply q9 (x + 19) (65536 : Int64)) fun q11 => some q11) else none)) else some (hp x iv ai aj ar pp f0) := by
      show F_X11_timesOthers_9 _ _ _ _ _ _ _ = _
      unfold F_X11_timesOthers_9
      rw [if_pos (show nI K ≤ nI s by rw [leq_nI (by omega) (by omega)]; omega), rn_19_21, Option.bind_some, h.kind, Option.bind_some]
      simp only [rk_19, if_true, mul_5, add_1]
    have stay : fz sp own g K = 1 → ∃ aj', some (hp x iv ai aj ar pp f0) = some (hp x iv ai aj' ar pp f0) ∧ Kl aj aj' ∧ aj' 38 = aj 38 ∧ b24 (aj' 35) ∧ ∀ v, mR (aj 35) v → mR (aj' 35) (v * (oth (fun s => (g (5 * s + 1)).toInt) bt 0 s * fz sp own g K)) := fun e => ⟨aj, rfl, fun _ _ => rfl, rfl, h5, fun v hv => by
      rw [e]
      show mR (aj 35) (v * (1 * 1))
      rw [Int.mul_one, Int.mul_one]
      exact hv⟩
    rw [e0]
    cases sp with
    | false =>
      rw [if_neg (show ¬ (if false = true then (3 : Int32) else 0) = 3 by decide)]
      refine stay ?_
      unfold fz sdv
      cases own <;> rfl
    | true =>
      rw [if_pos (show (if true = true then (3 : Int32) else 0) = 3 from rfl)]
      by_cases hb : but = nI K
      · rw [if_pos hb]
        refine stay ?_
        unfold fz
        rw [if_pos (hown.mpr hb)]
      · rw [if_neg hb, h.pn (show 5 * K + 1 < 5 * K + 4 by omega), Option.bind_some]
        obtain ⟨aj1, a1, a2, a3, a4, a5⟩ := m_mul (x := x) (iv := iv) (ai := ai) (aj := aj) (ar := ar) (pp := pp) (f0 := f0) (g (5 * K + 1)) h5
        obtain ⟨aj2, b1, b2, b3, b4, b5⟩ := m_mul (x := x) (iv := iv) (ai := ai) (aj := aj1) (ar := ar) (pp := pp) (f0 := f0) 65536 a4
        refine ⟨aj2, ?_, a2.trans b2, b3.trans a3, b4, fun v hv => ?_⟩
        · rw [a1, Option.bind_some, if_pos rk_19, b1, Option.bind_some]
        · have := b5 _ (a5 _ hv)
          have e6 : (65536 : Int64).toInt = 65536 := rfl
          have eo : ¬ own = true := fun e => hb (hown.mp e)
          rw [e6] at this
          unfold fz sdv
          rw [if_neg eo, if_pos rfl]
          show mR (aj2 35) (v * (1 * (65536 * (g (5 * K + 1)).toInt)))
          have e7 := sd_m v (g (5 * K + 1)).toInt 1
          rw [Int.mul_one] at e7
          rw [← e7]
          exact this
  | succ w ih =>
    intro s m aj hs hm h h5
    obtain ⟨m, rfl⟩ : ∃ y, m = y + 1 := ⟨m - 1, by omega⟩
    have hK := h.2.1
    have e0 : L_X11_timesOthers_9 (m + 1) (hp x iv ai aj ar pp f0) (x + 19) (nI q) but (nI K) (nI s) = if nI s = but then L_X11_timesOthers_9 m (hp x iv ai aj ar pp f0) (x + 19) (nI q) but (nI K) (nI (s + 1)) else (F_X11_multiply (hp x iv ai aj ar pp f0) (x + 19) (g (5 * s + 1))).bind (fun q16 => L_X11_timesOthers_9 m q16 (x + 19) (nI q) but (nI K) (nI (s + 1))) := by
      show F_X11_timesOthers_9 _ _ _ _ _ _ _ = _
      unfold F_X11_timesOthers_9 F_X11_timesOthers_36
      rw [if_neg (show ¬ nI K ≤ nI s by rw [leq_nI (by omega) (by omega)]; omega), if_pos rk_19, mul_5, add_1 (5 * s), h.pn (show 5 * s + 1 < 5 * K + (if sp = true then 4 else 0) by omega), Option.bind_some, if_pos rk_19, add_1 s]
    rw [e0]
    by_cases hb : nI s = but
    · have hsb := (hbt s (by omega)).mp hb
      obtain ⟨aj', e1, e2, e3, e4, e5⟩ := ih (s + 1) m aj (by omega) (by omega) h h5
      refine ⟨aj', by rw [if_pos hb, e1], e2, e3, e4, fun v hv => ?_⟩
      show mR (aj' 35) (v * (((if s = bt then 1 else _) * _) * _))
      rw [if_pos hsb, Int.one_mul]
      exact e5 v hv
    · have hsb : ¬ s = bt := fun e => hb ((hbt s (by omega)).mpr e)
      obtain ⟨aj1, a1, a2, a3, a4, a5⟩ := m_mul (x := x) (iv := iv) (ai := ai) (aj := aj) (ar := ar) (pp := pp) (f0 := f0) (g (5 * s + 1)) h5
      obtain ⟨aj', e1, e2, e3, e4, e5⟩ := ih (s + 1) m aj1 (by omega) (by omega) (h.kl a2) a4
      refine ⟨aj', ?_, a2.trans e2, e3.trans a3, e4, fun v hv => ?_⟩
      · rw [if_neg hb, a1, Option.bind_some, e1]
      · show mR (aj' 35) (v * (((if s = bt then 1 else _) * _) * _))
        rw [if_neg hsb, Int.mul_assoc, ← Int.mul_assoc]
        exact e5 _ (a5 v hv)
theorem m_timesF (h : MQs ai aj q K p sp g T) (h5 : b24 (aj 35)) (own : Bool) {but : Int32} {bt : Nat} (hbt : ∀ s, s < K → (nI s = but ↔ s = bt)) (hown : own = true ↔ but = nI K) : ∃ aj', F_X11_timesOthers (hp x iv ai aj ar pp f0) (x + 19) (nI q) but = some (hp x iv ai aj' ar pp f0) ∧ Kl aj aj' ∧ aj' 38 = aj 38 ∧ b24 (aj' 35) ∧ ∀ v, mR (aj 35) v → mR (aj' 35) (v * (oth (fun s => (g (5 * s + 1)).toInt) bt K 0 * fz sp own g K)) := by
  obtain ⟨aj', e1, e2⟩ := m_times (x := x) (iv := iv) (ai := ai) (ar := ar) (pp := pp) (f0 := f0) own hbt hown K 0 xfuel aj (by omega) (Nat.lt_of_le_of_lt h.2.1 (by decide)) h h5
  refine ⟨aj', ?_, e2⟩
  unfold F_X11_timesOthers
  rw [if_pos rk_19, h.si, Option.bind_some]
  exact e1
theorem oth_no {N : Nat → Int} {bt bt' : Nat} : ∀ (w s : Nat), (∀ k, s ≤ k → k < s + w → k ≠ bt ∧ k ≠ bt') → oth N bt w s = oth N bt' w s := by
  intro w
  induction w with
  | zero => intro s _; rfl
  | succ w ih =>
    intro s h
    have h0 := h s (Nat.le_refl _) (by omega)
    show (if s = bt then 1 else N s) * oth N bt w (s + 1) = (if s = bt' then 1 else N s) * oth N bt' w (s + 1)
    rw [if_neg h0.1, if_neg h0.2, ih (s + 1) (fun k a b => h k (by omega) (by omega))]
theorem lastR (v a o d s1 s2 : Int) : v + s1 + s2 + -1 * (a * (o * d)) = v + (-a * o * d + s1 + s2) := by grind
/-- the reference's last steps of a term -/
theorem m_262 (h : MQs ai aj q K p sp g T) (h8 : b24 (aj 38)) {t : Nat} (ht : t < 9) {v : Int} (hv : mR (aj 38) v) : ∃ aj', F_X11_isRight_262 (hp x iv ai aj ar pp f0) (x + 19) (nI q) (nI t) = some (if lvl (aj' 38) 24 0 = 0 then 1 else 0, hp x iv ai aj' ar pp f0) ∧ Kl aj aj' ∧ mR (aj' 38) (v + -1 * ((T t).toInt * (oth (fun s => (g (5 * s + 1)).toInt) 99 K 0 * sdv sp g K))) := by
  have hK := h.2.1
  obtain ⟨P, e1, c1⟩ := m_bgp (x := x) (iv := iv) (ai := ai) (aj := aj) (ar := ar) (pp := pp) (f0 := f0) (T t)
  have hk1 : Kl aj (va_up aj 35 P) := Kl.up (by omega) P
  have n9 : ∀ s, s < K → (nI s = -9 ↔ s = 99) := fun s hs => ⟨fun e => absurd e (nI_n9 (by omega)), fun e => by omega⟩
  obtain ⟨aj2, e2, k2, s2, b2, c2⟩ := m_timesF (x := x) (iv := iv) (ar := ar) (pp := pp) (f0 := f0) (h.kl hk1) (by rw [up_at]; exact c1.1) false (but := -9) (bt := 99) n9 ⟨fun e => (by cases e), fun e => absurd e.symm (nI_n9 (by omega))⟩
  have v1 := c2 _ (by rw [up_at]; exact c1)
  have hs2 : aj2 38 = aj 38 := s2.trans (up_ne _ _ (by decide))
  obtain ⟨T', e3, b3, c3⟩ := m_add (x := x) (iv := iv) (ai := ai) (aj := aj2) (ar := ar) (pp := pp) (f0 := f0) 1 (-1) (Or.inr ⟨by decide, rfl⟩) b2 (by rw [hs2]; exact h8)
  have v2 := c3 _ _ (by rw [hs2]; exact hv) v1
  refine ⟨va_up aj2 38 T', ?_, (hk1.trans k2).trans (Kl.up (by omega) T'), by rw [up_at]; exact v2⟩
  have en := m_nought (x := x) (iv := iv) (ai := ai) (aj := va_up aj2 38 T') (ar := ar) (pp := pp) (f0 := f0)
  have tt : F_X11_termOf (hp x iv ai aj ar pp f0) (x + 19) (nI p) (nI t) = some (T t) := by rw [m_termOf h.2.2.1 ht, h.2.2.2.2.2.2.2 t ht]
  unfold F_X11_isRight_262
  rw [rn_19_22, Option.bind_some, r31 h.1, Option.bind_some, h.2.2.2.2.2.1, if_pos rk_19, tt, Option.bind_some, if_pos rk_19, e1, Option.bind_some, if_pos rk_19, e2, Option.bind_some, if_pos rk_19, e3, Option.bind_some, if_pos rk_19, en, Option.bind_some]
  unfold hZ
  by_cases hd : lvl (va_up aj2 38 T' 38) 24 0 = 0
  · rw [if_pos hd]
    rfl
  · rw [if_neg hd]
    rfl
theorem sps_none {g : Nat → Int64} {sp : Bool} {K t : Nat} (h : sp = false ∨ (t ≠ 0 ∧ t ≠ 3 ∧ t ≠ 6)) : sps g sp K t = 0 := by
  unfold sps spt
  rcases h with h | ⟨h0, h3, h6⟩
  · rw [h, if_neg (by decide)]
  · rw [if_neg h0, if_neg h3, if_neg h6]
    split
    · rw [Int.mul_zero, Int.zero_mul]
    · rfl
theorem spsR (M s o : Int) : M * s * (o * 1) = M * s * o := by grind
theorem spaR (M a b : Int) : M * -a * b = M * -(a * b) := by grind
theorem m_140 (h : MQs ai aj q K p sp g T) (hsp : sp = true → ∀ i, 5 * K ≤ i → i < 5 * K + 4 → -1000000000 ≤ g i ∧ g i ≤ 1000000000) (h8 : b24 (aj 38)) {t : Nat} (ht : t < 9) {v : Int} (hv : mR (aj 38) v) : ∃ aj', F_X11_isRight_140 (hp x iv ai aj ar pp f0) (x + 19) (nI q) (nI t) (nI K) = some (if lvl (aj' 38) 24 0 = 0 then 1 else 0, hp x iv ai aj' ar pp f0) ∧ Kl aj aj' ∧ mR (aj' 38) (v + sps g sp K t + -1 * ((T t).toInt * (oth (fun s => (g (5 * s + 1)).toInt) 99 K 0 * sdv sp g K))) := by
  have hK := h.2.1
  have skip : sps g sp K t = 0 → F_X11_isRight_140 (hp x iv ai aj ar pp f0) (x + 19) (nI q) (nI t) (nI K) = F_X11_isRight_262 (hp x iv ai aj ar pp f0) (x + 19) (nI q) (nI t) → ∃ aj', F_X11_isRight_140 (hp x iv ai aj ar pp f0) (x + 19) (nI q) (nI t) (nI K) = some (if lvl (aj' 38) 24 0 = 0 then 1 else 0, hp x iv ai aj' ar pp f0) ∧ Kl aj aj' ∧ mR (aj' 38) (v + sps g sp K t + -1 * ((T t).toInt * (oth (fun s => (g (5 * s + 1)).toInt) 99 K 0 * sdv sp g K))) := by
    intro e1 e2
    obtain ⟨aj', f1, f2, f3⟩ := m_262 (x := x) (iv := iv) (ar := ar) (pp := pp) (f0 := f0) h h8 ht hv
    exact ⟨aj', e2.trans f1, f2, by rw [e1, Int.add_zero]; exact f3⟩
  cases sp with
  | false =>
    refine skip (sps_none (Or.inl rfl)) ?_
    unfold F_X11_isRight_140
    rw [rn_19_21, Option.bind_some, h.kind, Option.bind_some, if_neg (show ¬ (if false = true then (3 : Int32) else 0) = 3 by decide)]
  | true =>
    have e140 : F_X11_isRight_140 (hp x iv ai aj ar pp f0) (x + 19) (nI q) (nI t) (nI K) = if t = 6 ∨ t = 3 ∨ t = 0 then F_X11_isRight_165 (hp x iv ai aj ar pp f0) (x + 19) (nI q) (nI t) (nI K) else F_X11_isRight_262 (hp x iv ai aj ar pp f0) (x + 19) (nI q) (nI t) := by
      unfold F_X11_isRight_140
      rw [rn_19_21, Option.bind_some, h.kind, Option.bind_some, if_pos (show (if true = true then (3 : Int32) else 0) = 3 from rfl)]
      by_cases t6 : t = 6
      · rw [if_pos (show nI t = 6 by rw [t6]; rfl), if_pos (Or.inl t6)]
      rw [if_neg (show ¬ nI t = 6 by rw [ceq_6 (by omega)]; exact t6)]
      by_cases t3 : t = 3
      · rw [if_pos (show nI t = 3 by rw [t3]; rfl), if_pos (Or.inr (Or.inl t3))]
      rw [if_neg (show ¬ nI t = 3 by rw [ceq_3 (by omega)]; exact t3)]
      by_cases t0 : t = 0
      · rw [if_pos (show nI t = 0 by rw [t0]; rfl), if_pos (Or.inr (Or.inr t0))]
      · rw [if_neg (show ¬ nI t = 0 by rw [ceq_0 (by omega)]; exact t0), if_neg (show ¬ (t = 6 ∨ t = 3 ∨ t = 0) by omega)]
    by_cases h603 : t = 6 ∨ t = 3 ∨ t = 0
    case neg =>
      refine skip (sps_none (Or.inr ⟨by omega, by omega, by omega⟩)) ?_
      rw [e140, if_neg h603]
    have h2 := b9_I (hsp rfl (5 * K + 2) (by omega) (by omega))
    have h3 := b9_I (hsp rfl (5 * K + 3) (by omega) (by omega))
    have n0 : F_X11_proofNumber (hp x iv ai aj ar pp f0) (x + 19) (nI q) (nI (5 * K)) = some (g (5 * K)) := h.pn (show 5 * K < 5 * K + 4 by omega)
    have n2 : F_X11_proofNumber (hp x iv ai aj ar pp f0) (x + 19) (nI q) (nI (5 * K + 2)) = some (g (5 * K + 2)) := h.pn (show 5 * K + 2 < 5 * K + 4 by omega)
    have n3 : F_X11_proofNumber (hp x iv ai aj ar pp f0) (x + 19) (nI q) (nI (5 * K + 3)) = some (g (5 * K + 3)) := h.pn (show 5 * K + 3 < 5 * K + 4 by omega)
    obtain ⟨P, e1, c1⟩ := m_bgp (x := x) (iv := iv) (ai := ai) (aj := aj) (ar := ar) (pp := pp) (f0 := f0) (g (5 * K))
    have hk1 : Kl aj (va_up aj 35 P) := Kl.up (by omega) P
    -- behind the span's term
    have e251 : ∀ aj1, Kl aj aj1 → aj1 38 = aj 38 → b24 (aj1 35) → mR (aj1 35) ((g (5 * K)).toInt * spt g K t) → F_X11_isRight_140 (hp x iv ai aj ar pp f0) (x + 19) (nI q) (nI t) (nI K) = F_X11_isRight_251 (hp x iv ai aj1 ar pp f0) (x + 19) (nI q) (nI t) (nI K) → ∃ aj', F_X11_isRight_140 (hp x iv ai aj ar pp f0) (x + 19) (nI q) (nI t) (nI K) = some (if lvl (aj' 38) 24 0 = 0 then 1 else 0, hp x iv ai aj' ar pp f0) ∧ Kl aj aj' ∧ mR (aj' 38) (v + sps g true K t + -1 * ((T t).toInt * (oth (fun s => (g (5 * s + 1)).toInt) 99 K 0 * sdv true g K))) := by
      intro aj1 k1 s1 b1 r1 eL
      obtain ⟨aj2, e2, k2, s2, b2, c2⟩ := m_timesF (x := x) (iv := iv) (ar := ar) (pp := pp) (f0 := f0) (h.kl k1) b1 true (but := nI K) (bt := K) (fun s hs => by rw [eq_nI (by omega) (by omega)]) ⟨fun _ => rfl, fun _ => rfl⟩
      have v1 := c2 _ r1
      have hs2 : aj2 38 = aj 38 := s2.trans s1
      obtain ⟨T', e3, b3, c3⟩ := m_add (x := x) (iv := iv) (ai := ai) (aj := aj2) (ar := ar) (pp := pp) (f0 := f0) 0 1 (Or.inl ⟨rfl, rfl⟩) b2 (by rw [hs2]; exact h8)
      have v2 := c3 _ _ (by rw [hs2]; exact hv) v1
      have esp : 1 * ((g (5 * K)).toInt * spt g K t * (oth (fun s => (g (5 * s + 1)).toInt) K K 0 * fz true true g K)) = sps g true K t := by
        have e1 : fz true true g K = 1 := rfl
        have e2 : sps g true K t = (g (5 * K)).toInt * spt g K t * oth (fun s => (g (5 * s + 1)).toInt) 99 K 0 := rfl
        rw [Int.one_mul, e1, e2, spsR, oth_no (bt := K) (bt' := 99) K 0 (fun k a b => ⟨by omega, by omega⟩)]
      rw [esp] at v2
      have k3 : Kl aj2 (va_up aj2 38 T') := Kl.up (by omega) T'
      obtain ⟨aj', f1, f2, f3⟩ := m_262 (x := x) (iv := iv) (ar := ar) (pp := pp) (f0 := f0) (((h.kl k1).kl k2).kl k3) (by rw [up_at]; exact b3) ht (by rw [up_at]; exact v2)
      refine ⟨aj', ?_, ((k1.trans k2).trans k3).trans f2, f3⟩
      rw [eL]
      unfold F_X11_isRight_251
      rw [if_pos rk_19, e2, Option.bind_some, if_pos rk_19, e3, Option.bind_some, f1]
    have e165 : F_X11_isRight_140 (hp x iv ai aj ar pp f0) (x + 19) (nI q) (nI t) (nI K) = if nI t = 6 then (F_X11_multiply (hp x iv ai (va_up aj 35 P) ar pp f0) (x + 19) (-65536)).bind (fun q18 => F_X11_isRight_251 q18 (x + 19) (nI q) (nI t) (nI K)) else if nI t = 3 then (F_X11_multiply (hp x iv ai (va_up aj 35 P) ar pp f0) (x + 19) (256 * (g (5 * K + 2) + g (5 * K + 3)))).bind (fun q16 => F_X11_isRight_251 q16 (x + 19) (nI q) (nI t) (nI K)) else (F_X11_multiply (hp x iv ai (va_up aj 35 P) ar pp f0) (x + 19) (-(g (5 * K + 2)))).bind (fun q12 => if hKd q12 (x + 19) = some 10 then (Option.bind (F_X11_multiply q12 (x + 19) (g (5 * K + 3))) fun q14 => F_X11_isRight_251 q14 (x + 19) (nI q) (nI t) (nI K)) else none) := by
      rw [e140, if_pos h603]
      unfold F_X11_isRight_165
      rw [if_pos rk_19, mul_5, add_2, n2, Option.bind_some, if_pos rk_19, add_3, n3, Option.bind_some, if_pos rk_19, n0, Option.bind_some, if_pos rk_19, e1, Option.bind_some, if_pos rk_19, if_pos rk_19, if_pos rk_19]
    have c35 : b24 (va_up aj 35 P 35) := by rw [up_at]; exact c1.1
    have one : ∀ d : Int64, d.toInt = spt g K t → F_X11_isRight_140 (hp x iv ai aj ar pp f0) (x + 19) (nI q) (nI t) (nI K) = (F_X11_multiply (hp x iv ai (va_up aj 35 P) ar pp f0) (x + 19) d).bind (fun q18 => F_X11_isRight_251 q18 (x + 19) (nI q) (nI t) (nI K)) → ∃ aj', F_X11_isRight_140 (hp x iv ai aj ar pp f0) (x + 19) (nI q) (nI t) (nI K) = some (if lvl (aj' 38) 24 0 = 0 then 1 else 0, hp x iv ai aj' ar pp f0) ∧ Kl aj aj' ∧ mR (aj' 38) (v + sps g true K t + -1 * ((T t).toInt * (oth (fun s => (g (5 * s + 1)).toInt) 99 K 0 * sdv true g K))) := by
      intro d hd eL
      obtain ⟨aj1, a1, a2, a3, a4, a5⟩ := m_mul (x := x) (iv := iv) (ai := ai) (aj := va_up aj 35 P) (ar := ar) (pp := pp) (f0 := f0) d c35
      have r1 := a5 _ (by rw [up_at]; exact c1)
      rw [hd] at r1
      refine e251 aj1 (hk1.trans a2) (a3.trans (up_ne _ _ (by decide))) a4 r1 ?_
      rw [eL, a1, Option.bind_some]
    by_cases t6 : t = 6
    · refine one (-65536) ?_ ?_
      · unfold spt
        rw [if_neg (show ¬ t = 0 by omega), if_neg (show ¬ t = 3 by omega), if_pos t6]
        rfl
      · rw [e165, if_pos (show nI t = 6 by rw [t6]; rfl)]
    rw [if_neg (show ¬ nI t = 6 by rw [ceq_6 (by omega)]; exact t6)] at e165
    by_cases t3 : t = 3
    · have a1 : (g (5 * K + 2) + g (5 * K + 3)).toInt = (g (5 * K + 2)).toInt + (g (5 * K + 3)).toInt := add64 (by omega) (by omega)
      have m2 := ml (a := 256) (b := g (5 * K + 2) + g (5 * K + 3)) (A := 256) (by decide) (B := 2000000000) (by omega) (C := 512000000000) rfl (by decide)
      have e256 : (256 : Int64).toInt = 256 := rfl
      refine one (256 * (g (5 * K + 2) + g (5 * K + 3))) ?_ ?_
      · unfold spt
        rw [if_neg (show ¬ t = 0 by omega), if_pos t3, m2.1, e256, a1]
      · rw [e165, if_pos (show nI t = 3 by rw [t3]; rfl)]
    rw [if_neg (show ¬ nI t = 3 by rw [ceq_3 (by omega)]; exact t3)] at e165
    have hn : (-(g (5 * K + 2))).toInt = -(g (5 * K + 2)).toInt := by rw [Int64.toInt_neg, bm64 (by omega) (by omega)]
    obtain ⟨aj1, a1, a2, a3, a4, a5⟩ := m_mul (x := x) (iv := iv) (ai := ai) (aj := va_up aj 35 P) (ar := ar) (pp := pp) (f0 := f0) (-(g (5 * K + 2))) c35
    obtain ⟨aj2, b1, b2, b3, b4, b5⟩ := m_mul (x := x) (iv := iv) (ai := ai) (aj := aj1) (ar := ar) (pp := pp) (f0 := f0) (g (5 * K + 3)) a4
    have r1 := b5 _ (a5 _ (by rw [up_at]; exact c1))
    rw [hn, spaR] at r1
    have est : spt g K t = -((g (5 * K + 2)).toInt * (g (5 * K + 3)).toInt) := by
      unfold spt
      rw [if_pos (show t = 0 by omega)]
    rw [← est] at r1
    refine e251 aj2 ((hk1.trans a2).trans b2) (b3.trans (a3.trans (up_ne _ _ (by decide)))) b4 r1 ?_
    rw [e165, a1, Option.bind_some, if_pos rk_19, b1, Option.bind_some]
theorem m_isOther {f : xHp} {t : Nat} (ht : t < 9) : F_X11_isOther f (nI t) = some (if ot t = true then 1 else 0) := by
  rcases (show t = 0 ∨ t = 1 ∨ t = 2 ∨ t = 3 ∨ t = 4 ∨ t = 5 ∨ t = 6 ∨ t = 7 ∨ t = 8 by omega) with rfl | rfl | rfl | rfl | rfl | rfl | rfl | rfl | rfl <;> rfl
theorem m_fo {f : xHp} {t : Nat} (ht : t < 9) (ho : ot t = false) : F_X11_firstOf f (nI t) = some (nI (fo t)) ∧ F_X11_secondOf f (nI t) = some (nI (so t)) := by
  rcases (show t = 0 ∨ t = 1 ∨ t = 2 ∨ t = 3 ∨ t = 4 ∨ t = 5 ∨ t = 6 ∨ t = 7 ∨ t = 8 by omega) with rfl | rfl | rfl | rfl | rfl | rfl | rfl | rfl | rfl
  · exact ⟨rfl, rfl⟩
  · exact ⟨rfl, rfl⟩
  · exact ⟨rfl, rfl⟩
  · exact ⟨rfl, rfl⟩
  · exact ⟨rfl, rfl⟩
  · cases ho
  · exact ⟨rfl, rfl⟩
  · cases ho
  · cases ho
theorem m_30 (hsp : sp = true → ∀ i, 5 * K ≤ i → i < 5 * K + 4 → -1000000000 ≤ g i ∧ g i ≤ 1000000000) {t : Nat} (ht : t < 9) : ∀ (w s m : Nat) (aj : Nat → Nat → Int64) (v : Int), s + w = K → w < m → MQs ai aj q K p sp g T → b24 (aj 38) → mR (aj 38) v → ∃ aj', L_X11_isRight_30 m (hp x iv ai aj ar pp f0) (x + 19) (nI q) (nI t) (nI K) (nI s) = some (if lvl (aj' 38) 24 0 = 0 then 1 else 0, hp x iv ai aj' ar pp f0) ∧ Kl aj aj' ∧ mR (aj' 38) (v + shs g sp K t w s + sps g sp K t + -1 * ((T t).toInt * (oth (fun s => (g (5 * s + 1)).toInt) 99 K 0 * sdv sp g K))) := by
  intro w
  induction w with
  | zero =>
    intro s m aj v hs hm h h8 hv
    obtain ⟨m, rfl⟩ : ∃ y, m = y + 1 := ⟨m - 1, by omega⟩
    have hK := h.2.1
    obtain ⟨aj', e1, e2, e3⟩ := m_140 (x := x) (iv := iv) (ar := ar) (pp := pp) (f0 := f0) h hsp h8 ht hv
    refine ⟨aj', ?_, e2, by show mR (aj' 38) (v + 0 + _ + _); rw [Int.add_zero]; exact e3⟩
    show F_X11_isRight_30 _ _ _ _ _ _ _ = _
    unfold F_X11_isRight_30
    rw [if_pos (show nI K ≤ nI s by rw [leq_nI (by omega) (by omega)]; omega), e1]
  | succ w ih =>
    intro s m aj v hs hm h h8 hv
    obtain ⟨m, rfl⟩ : ∃ y, m = y + 1 := ⟨m - 1, by omega⟩
    have hK := h.2.1
    cases ho : ot t with
    | true =>
      obtain ⟨aj', e1, e2, e3⟩ := m_140 (x := x) (iv := iv) (ar := ar) (pp := pp) (f0 := f0) h hsp h8 ht hv
      have hz : ∀ w s, shs g sp K t w s = 0 := by
        intro w
        induction w with
        | zero => intro s; rfl
        | succ w ihw =>
          intro s
          show (if ot t = true then 0 else _) + shs g sp K t w (s + 1) = 0
          rw [if_pos ho, ihw]
          rfl
      refine ⟨aj', ?_, e2, by rw [hz, Int.add_zero]; exact e3⟩
      show F_X11_isRight_30 _ _ _ _ _ _ _ = _
      unfold F_X11_isRight_30
      rw [if_neg (show ¬ nI K ≤ nI s by rw [leq_nI (by omega) (by omega)]; omega), m_isOther ht, Option.bind_some, ho, if_pos rfl, if_neg e10, e1]
    | false =>
      obtain ⟨s1, s2⟩ := m_fo (f := hp x iv ai aj ar pp f0) ht ho
      have hfo := fo_lt t
      have nb : ∀ i, i < 5 * K → i < 5 * K + (if sp = true then 4 else 0) := fun i hi => by omega
      obtain ⟨P, e1, c1⟩ := m_bgp (x := x) (iv := iv) (ai := ai) (aj := aj) (ar := ar) (pp := pp) (f0 := f0) (g (5 * s))
      have k1 : Kl aj (va_up aj 35 P) := Kl.up (by omega) P
      obtain ⟨aj2, a1, a2, a3, a4, a5⟩ := m_mul (x := x) (iv := iv) (ai := ai) (aj := va_up aj 35 P) (ar := ar) (pp := pp) (f0 := f0) (g (5 * s + 2 + fo t)) (by rw [up_at]; exact c1.1)
      obtain ⟨aj3, b1, b2, b3, b4, b5⟩ := m_mul (x := x) (iv := iv) (ai := ai) (aj := aj2) (ar := ar) (pp := pp) (f0 := f0) (g (5 * s + 2 + so t)) a4
      obtain ⟨tw, htw, htw2⟩ : ∃ tw : Int64, tw.toInt = (if fo t = so t then 1 else 2) ∧ tw = (if fo t = so t then 1 else 2) := by
        by_cases e : fo t = so t
        · exact ⟨1, by rw [if_pos e]; rfl, by rw [if_pos e]⟩
        · exact ⟨2, by rw [if_neg e]; rfl, by rw [if_neg e]⟩
      obtain ⟨aj4, d1, d2, d3, d4, d5⟩ := m_mul (x := x) (iv := iv) (ai := ai) (aj := aj3) (ar := ar) (pp := pp) (f0 := f0) tw b4
      have kk := ((k1.trans a2).trans b2).trans d2
      obtain ⟨aj5, f1, f2, f3, f4, f5⟩ := m_timesF (x := x) (iv := iv) (ar := ar) (pp := pp) (f0 := f0) (h.kl kk) d4 false (but := nI s) (bt := s) (bt_s hK (by omega)) ⟨fun e => (by cases e), fun e => absurd (nI_inj (by omega) (by omega) e) (by omega)⟩
      have hs5 : aj5 38 = aj 38 := f3.trans (d3.trans (b3.trans (a3.trans (up_ne _ _ (by decide)))))
      obtain ⟨T', g1, g2, g3⟩ := m_add (x := x) (iv := iv) (ai := ai) (aj := aj5) (ar := ar) (pp := pp) (f0 := f0) 0 1 (Or.inl ⟨rfl, rfl⟩) f4 (by rw [hs5]; exact h8)
      have v1 := a5 _ (by rw [up_at]; exact c1)
      have v2 := f5 _ (d5 _ (b5 _ v1))
      have v3 := g3 _ _ (by rw [hs5]; exact hv) v2
      have esh : 1 * ((g (5 * s)).toInt * (g (5 * s + 2 + fo t)).toInt * (g (5 * s + 2 + so t)).toInt * tw.toInt * (oth (fun s => (g (5 * s + 1)).toInt) s K 0 * fz sp false g K)) = shr g sp K t s := by
        have e1 : fz sp false g K = sdv sp g K := rfl
        rw [Int.one_mul, e1, htw, ← Int.mul_assoc]
        rfl
      rw [esh] at v3
      have k6 : Kl aj5 (va_up aj5 38 T') := Kl.up (by omega) T'
      have kall := (kk.trans f2).trans k6
      obtain ⟨aj', r1, r2, r3⟩ := ih (s + 1) m (va_up aj5 38 T') (v + shr g sp K t s) (by omega) (by omega) (h.kl kall) (by rw [up_at]; exact g2) (by rw [up_at]; exact v3)
      refine ⟨aj', ?_, kall.trans r2, ?_⟩
      · have e119 : F_X11_isRight_119 (L_X11_isRight_30 m) (hp x iv ai aj3 ar pp f0) (x + 19) (nI q) (nI t) (nI K) (nI s) tw (x + 19) = some (if lvl (aj' 38) 24 0 = 0 then 1 else 0, hp x iv ai aj' ar pp f0) := by
          unfold F_X11_isRight_119
          rw [if_pos rk_19, d1, Option.bind_some, if_pos rk_19, f1, Option.bind_some, if_pos rk_19, g1, Option.bind_some, add_1, r1]
        show F_X11_isRight_30 _ _ _ _ _ _ _ = _
        unfold F_X11_isRight_30
        have p0 := h.pn (x := x) (iv := iv) (ar := ar) (pp := pp) (f0 := f0) (nb (5 * s) (by omega))
        have p1' := (h.kl k1).pn (x := x) (iv := iv) (ar := ar) (pp := pp) (f0 := f0) (nb (5 * s + 2 + fo t) (by omega))
        have p2' := (h.kl (k1.trans a2)).pn (x := x) (iv := iv) (ar := ar) (pp := pp) (f0 := f0) (nb (5 * s + 2 + so t) (by omega))
        rw [if_neg (show ¬ nI K ≤ nI s by rw [leq_nI (by omega) (by omega)]; omega), m_isOther ht, Option.bind_some, ho, if_neg (show ¬ (false = true) by decide), if_pos rfl, s1, Option.bind_some, s2, Option.bind_some, if_pos rk_19, mul_5, p0, Option.bind_some, if_pos rk_19, e1, Option.bind_some, if_pos rk_19, add_2, nI_add, nI_add, p1', Option.bind_some, if_pos rk_19, a1, Option.bind_some, if_pos rk_19, p2', Option.bind_some, if_pos rk_19, b1, Option.bind_some]
        by_cases e : fo t = so t
        · rw [if_pos (show nI (fo t) = nI (so t) by rw [e])]
          rw [if_pos e] at htw2
          rw [htw2] at e119
          exact e119
        · rw [if_neg (show ¬ nI (fo t) = nI (so t) by rw [eq_nI (by omega) (by omega)]; exact e)]
          rw [if_neg e] at htw2
          rw [htw2] at e119
          exact e119
      · show mR (aj' 38) (v + ((if ot t = true then 0 else shr g sp K t s) + shs g sp K t w (s + 1)) + _ + _)
        rw [ho, if_neg (show ¬ (false = true) by decide), ← Int.add_assoc v]
        exact r3
theorem m_right2 {t : Nat} : ∀ (n i m : Nat) (aj : Nat → Nat → Int64), i + n = 24 → n < m → MQs ai aj q K p sp g T → L_X11_isRight_2 m (hp x iv ai aj ar pp f0) (x + 19) (nI q) (nI t) (nI i) = L_X11_isRight_30 xfuel (hp x iv ai (va_up aj 38 (zb (aj 38) i)) ar pp f0) (x + 19) (nI q) (nI t) (nI K) 0 := by
  intro n
  induction n with
  | zero =>
    intro i m aj hi hm h
    obtain ⟨m, rfl⟩ : ∃ y, m = y + 1 := ⟨m - 1, by omega⟩
    have : i = 24 := by omega
    subst this
    show F_X11_isRight_2 _ _ _ _ _ _ = _
    unfold F_X11_isRight_2
    rw [if_pos (by decide), if_pos rk_19, h.si, Option.bind_some, zb_end, up_self]
  | succ n ih =>
    intro i m aj hi hm h
    obtain ⟨m, rfl⟩ : ∃ y, m = y + 1 := ⟨m - 1, by omega⟩
    show F_X11_isRight_2 _ _ _ _ _ _ = _
    unfold F_X11_isRight_2
    have hk : Kl aj (u2 aj 38 i 0) := fun k hk => u2_ne _ _ _ (by omega)
    rw [if_neg (by rw [cle_24 (by omega)]; omega), rn_19_29, Option.bind_some, w38 (by omega), Option.bind_some, add_1, ih (i + 1) m _ (by omega) (by omega) (h.kl hk), u2_cc, up_u2, zb_step _ (by omega)]
theorem m_isRight (h : MQs ai aj q K p sp g T) (hsp : sp = true → ∀ i, 5 * K ≤ i → i < 5 * K + 4 → -1000000000 ≤ g i ∧ g i ≤ 1000000000) {t : Nat} (ht : t < 9) : ∃ aj', F_X11_isRight (hp x iv ai aj ar pp f0) (x + 19) (nI q) (nI t) = some (if lvl (aj' 38) 24 0 = 0 then 1 else 0, hp x iv ai aj' ar pp f0) ∧ Kl aj aj' ∧ mR (aj' 38) (tot g T sp K t) := by
  have e0 := m_right2 (x := x) (iv := iv) (ar := ar) (pp := pp) (f0 := f0) (t := t) 24 0 xfuel aj (by omega) (by decide) h
  have k1 : Kl aj (va_up aj 38 (zb (aj 38) 0)) := Kl.up (by omega) _
  obtain ⟨aj', e1, e2, e3⟩ := m_30 (x := x) (iv := iv) (ar := ar) (pp := pp) (f0 := f0) hsp ht K 0 xfuel (va_up aj 38 (zb (aj 38) 0)) 0 (by omega) (Nat.lt_of_le_of_lt h.2.1 (by decide)) (h.kl k1) (by rw [up_at]; exact zb_b _) (by rw [up_at]; exact zb_R _)
  refine ⟨aj', e0.trans e1, k1.trans e2, ?_⟩
  rw [lastR, Int.zero_add] at e3
  exact e3
end MSUMS

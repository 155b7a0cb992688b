/-! a sum of squares, in the class: what is multiplied out -/
/-- a product of all but one -/
def oth (N : Nat → Int) (bt : Nat) : Nat → Nat → Int
  | 0, _ => 1
  | w + 1, s => (if s = bt then 1 else N s) * oth N bt w (s + 1)
/-- a proof by squares or by span: K squares, its numbers, its polynomial's terms -/
def SQ (x : Nat) (f0 : xHp) (a b K pa : Nat) (sp : Bool) (g T : Nat → Int64) : Prop :=
  x + 41 ≤ a ∧ x + 41 ≤ b ∧ K ≤ 3 ∧ pcell x f0 pa T ∧ f0 b = some (.inr (.inl (5 * K + (if sp = true then 4 else 0), g))) ∧ (∃ k po : Int32, f0 a = some (.inr (.inr (.inr (if sp = true then 6 else 7, [.int k, .ref pa, .int po, .ref b]))))) ∧ (∀ i, i < 5 * K + (if sp = true then 4 else 0) → b60 (g i)) ∧ (sp = true → ∀ i, 5 * K ≤ i → i < 5 * K + 4 → -1000000000 ≤ g i ∧ g i ≤ 1000000000)
theorem b60_min {v : Int64} (h : b60 v) : -9223372036854775808 < v.toInt := by
  have h1 := Int64.le_iff_toInt_le.mp h.1
  have e1 : (-1152921504606846976 : Int64).toInt = -1152921504606846976 := rfl
  omega
theorem b9_I {v : Int64} (h : -1000000000 ≤ v ∧ v ≤ 1000000000) : v.toInt.natAbs ≤ 1000000000 := by
  have h1 := Int64.le_iff_toInt_le.mp h.1
  have h2 := Int64.le_iff_toInt_le.mp h.2
  have e1 : (-1000000000 : Int64).toInt = -1000000000 := rfl
  have e2 : (1000000000 : Int64).toInt = 1000000000 := rfl
  omega
theorem if67 {α : Type} {o : Option Nat} (A : Option α) (h : o = some 6 ∨ o = some 7) : (if o = some 6 then A else if o = some 7 then A else none) = A := by
  rcases h with h | h
  · rw [if_pos h]
  · rw [h, if_neg (some_ne (by decide)), if_pos rfl]
theorem if67b {α β : Type} {o : Option Nat} {p6 p7 : Option β} (F : β → Option α) {v : β} (h : (o = some 6 ∧ p6 = some v) ∨ (o = some 7 ∧ p7 = some v)) : (if o = some 6 then Option.bind p6 F else if o = some 7 then Option.bind p7 F else none) = F v := by
  rcases h with ⟨h, e⟩ | ⟨h, e⟩
  · rw [if_pos h, e, Option.bind_some]
  · rw [h, if_neg (some_ne (by decide)), if_pos rfl, e, Option.bind_some]
section SSUMS
variable {x : Nat} {iv ai : Nat → Nat → Int32} {aj : Nat → Nat → Int64} {ar : Nat → Nat → Option Nat} {pp : Nat → Option Nat} {f0 : xHp} {a b K pa : Nat} {sp : Bool} {g T : Nat → Int64}
theorem SQ.kd (h : SQ x f0 a b K pa sp g T) : hKd (hp x iv ai aj ar pp f0) a = some (if sp = true then 6 else 7) := by
  obtain ⟨h1, h2, h3, h4, h5, ⟨k, po, h6⟩, h7, h8⟩ := h
  rw [dK h1]; exact fK h6
theorem SQ.k67 (h : SQ x f0 a b K pa sp g T) : hKd (hp x iv ai aj ar pp f0) a = some 6 ∨ hKd (hp x iv ai aj ar pp f0) a = some 7 := by
  rw [h.kd]
  cases sp
  · exact Or.inr rfl
  · exact Or.inl rfl
theorem SQ.num (h : SQ x f0 a b K pa sp g T) : hN (hp x iv ai aj ar pp f0) a [(6, 3), (7, 3)] = some b := by
  obtain ⟨h1, h2, h3, h4, h5, ⟨k, po, h6⟩, h7, h8⟩ := h
  rw [dN h1]
  cases sp
  · exact fN h6 rfl rfl
  · exact fN h6 rfl rfl
theorem SQ.pol (h : SQ x f0 a b K pa sp g T) : hN (hp x iv ai aj ar pp f0) a [(6, 1), (7, 1)] = some pa := by
  obtain ⟨h1, h2, h3, h4, h5, ⟨k, po, h6⟩, h7, h8⟩ := h
  rw [dN h1]
  cases sp
  · exact fN h6 rfl rfl
  · exact fN h6 rfl rfl
theorem SQ.ld (h : SQ x f0 a b K pa sp g T) {i : Nat} (hi : i < 5 * K + (if sp = true then 4 else 0)) : hJld (hp x iv ai aj ar pp f0) b (nI i) = some (g i) := by
  have hK := h.2.2.1
  refine dld h.2.1 h.2.2.2.2.1 hi ?_
  split <;> omega
theorem SQ.len (h : SQ x f0 a b K pa sp g T) : hLen (hp x iv ai aj ar pp f0) b = some (nI (5 * K + (if sp = true then 4 else 0))) := by
  rw [dLen h.2.1]
  exact fLenJ h.2.2.2.2.1
theorem SQ.from (h : SQ x f0 a b K pa true g T) : F_X7_spanFrom (hp x iv ai aj ar pp f0) a = some (nI (5 * K)) := by
  have hl := h.len (iv := iv) (ai := ai) (aj := aj) (ar := ar) (pp := pp)
  obtain ⟨h1, h2, h3, h4, h5, ⟨k, po, h6⟩, h7, h8⟩ := h
  have n3 : hN (hp x iv ai aj ar pp f0) a [(6, 3)] = some b := (dN h1 _).trans (fN h6 rfl rfl)
  unfold F_X7_spanFrom
  rw [n3, Option.bind_some, hl, Option.bind_some]
  exact congrArg some (sub_4 (show 4 ≤ 5 * K + 4 by omega))
theorem SQ.n3 (h : SQ x f0 a b K pa true g T) : hN (hp x iv ai aj ar pp f0) a [(6, 3)] = some b := by
  obtain ⟨h1, h2, h3, h4, h5, ⟨k, po, h6⟩, h7, h8⟩ := h
  exact (dN h1 _).trans (fN h6 rfl rfl)
theorem SQ.pcs (h : SQ x f0 a b K pa sp g T) : (hKd (hp x iv ai aj ar pp f0) a = some 6 ∧ F_X7_pieces (hp x iv ai aj ar pp f0) a = some (nI K)) ∨ (hKd (hp x iv ai aj ar pp f0) a = some 7 ∧ F_X8_pieces (hp x iv ai aj ar pp f0) a = some (nI K)) := by
  have hK := h.2.2.1
  have hk := h.kd (iv := iv) (ai := ai) (aj := aj) (ar := ar) (pp := pp)
  cases sp with
  | true =>
    refine Or.inl ⟨hk, ?_⟩
    unfold F_X7_pieces
    have hk' : hKd (hp x iv ai aj ar pp f0) a = some 6 := hk
    rw [if_pos hk', h.from, Option.bind_some, div_5 (by omega), show 5 * K / 5 = K by omega]
  | false =>
    refine Or.inr ⟨hk, ?_⟩
    unfold F_X8_pieces
    rw [h.num, Option.bind_some, h.len, Option.bind_some]
    show some (nI (5 * K + 0) / 5) = _
    rw [Nat.add_zero, div_5 (by omega), show 5 * K / 5 = K by omega]
/-- what a span is multiplied by -/
def sdv (sp : Bool) (g : Nat → Int64) (K : Nat) : Int := if sp = true then 65536 * (g (5 * K + 1)).toInt else 1
theorem SQ.div (h : SQ x f0 a b K pa sp g T) : ∃ d : Int64, d.toInt = sdv sp g K ∧ -9223372036854775808 < d.toInt ∧ ((hKd (hp x iv ai aj ar pp f0) a = some 6 ∧ F_X7_spanDivisor (hp x iv ai aj ar pp f0) a = some d) ∨ (hKd (hp x iv ai aj ar pp f0) a = some 7 ∧ F_X8_spanDivisor (hp x iv ai aj ar pp f0) a = some d)) := by
  have hk := h.kd (iv := iv) (ai := ai) (aj := aj) (ar := ar) (pp := pp)
  cases sp with
  | true =>
    have h9 := b9_I (h.2.2.2.2.2.2.2 rfl (5 * K + 1) (by omega) (by omega))
    have hm := ml (a := 65536) (b := g (5 * K + 1)) (A := 65536) (by decide) h9 (C := 65536000000000) rfl (by decide)
    have e6 : (65536 : Int64).toInt = 65536 := rfl
    refine ⟨65536 * g (5 * K + 1), ?_, by omega, Or.inl ⟨hk, ?_⟩⟩
    · rw [hm.1, e6]; rfl
    · unfold F_X7_spanDivisor
      have hk' : hKd (hp x iv ai aj ar pp f0) a = some 6 := hk
      rw [h.n3, Option.bind_some, if_pos hk', h.from, Option.bind_some, add_1, h.ld (show 5 * K + 1 < 5 * K + 4 by omega), Option.bind_some]
  | false => exact ⟨1, rfl, by decide, Or.inr ⟨hk, rfl⟩⟩
theorem s_others (h : SQ x f0 a b K pa sp g T) {but : Int32} {bt : Nat} (hbt : ∀ s, s < K → (nI s = but ↔ s = bt)) : ∀ (w s m : Nat) (ai : Nat → Nat → Int32), s + w = K → w < m → ∃ D', L_X8_multiplyByOthers_2 m (hp x iv ai aj ar pp f0) a (x + 13) but (nI s) = some (hp x iv (va_up ai 14 D') aj ar pp f0) ∧ ∀ v, cR (ai 14) v → cR D' (v * oth (fun s => (g (5 * s + 1)).toInt) bt w s) := by
  have hK := h.2.2.1
  intro w
  induction w with
  | zero =>
    intro s m ai hs hm
    obtain ⟨m, rfl⟩ : ∃ y, m = y + 1 := ⟨m - 1, by omega⟩
    refine ⟨ai 14, ?_, fun v hv => by show cR (ai 14) (v * 1); rw [Int.mul_one]; exact hv⟩
    show F_X8_multiplyByOthers_2 _ _ _ _ _ _ = _
    unfold F_X8_multiplyByOthers_2
    rw [if67b _ h.pcs, if_pos (show nI K ≤ nI s by rw [leq_nI (by omega) (by omega)]; omega), up_self]
  | succ w ih =>
    intro s m ai hs hm
    obtain ⟨m, rfl⟩ : ∃ y, m = y + 1 := ⟨m - 1, by omega⟩
    have e0 : L_X8_multiplyByOthers_2 (m + 1) (hp x iv ai aj ar pp f0) a (x + 13) but (nI s) = if nI s = but then L_X8_multiplyByOthers_2 m (hp x iv ai aj ar pp f0) a (x + 13) but (nI (s + 1)) else (F_X9_multiplyBy (hp x iv ai aj ar pp f0) (x + 13) (g (5 * s + 1))).bind (fun q8 => L_X8_multiplyByOthers_2 m q8 a (x + 13) but (nI (s + 1))) := by
      show F_X8_multiplyByOthers_2 _ _ _ _ _ _ = _
      unfold F_X8_multiplyByOthers_2 F_X8_multiplyByOthers_29
      rw [if67b _ h.pcs, if_neg (show ¬ nI K ≤ nI s by rw [leq_nI (by omega) (by omega)]; omega), h.num, Option.bind_some, mul_5, add_1 (5 * s), h.ld (show 5 * s + 1 < 5 * K + (if sp = true then 4 else 0) by omega), Option.bind_some, if_pos rk_13, add_1 s]
    by_cases hb : nI s = but
    · have hsb := (hbt s (by omega)).mp hb
      obtain ⟨D', e1, e2⟩ := ih (s + 1) m ai (by omega) (by omega)
      refine ⟨D', by rw [e0, if_pos hb, e1], fun v hv => ?_⟩
      show cR D' (v * ((if s = bt then 1 else _) * _))
      rw [if_pos hsb, Int.one_mul]
      exact e2 v hv
    · have hsb : ¬ s = bt := fun e => hb ((hbt s (by omega)).mpr e)
      obtain ⟨D1, t1, t2⟩ := s_mulBy (x := x) (c := 13) (iv := iv) (ai := ai) (aj := aj) (ar := ar) (pp := pp) (f0 := f0) (wc_13 x) (p := g (5 * s + 1)) (b60_min (h.2.2.2.2.2.2.1 (5 * s + 1) (by omega)))
      obtain ⟨D', e1, e2⟩ := ih (s + 1) m (va_up ai (13 + 1) D1) (by omega) (by omega)
      refine ⟨D', ?_, fun v hv => ?_⟩
      · rw [e0, if_neg hb, t1, Option.bind_some, e1, up_up]
      · show cR D' (v * ((if s = bt then 1 else _) * _))
        rw [if_neg hsb, ← Int.mul_assoc]
        exact e2 _ (by rw [up_at]; exact t2 v hv)
theorem s_otherF (h : SQ x f0 a b K pa sp g T) {but : Int32} {bt : Nat} (hbt : ∀ s, s < K → (nI s = but ↔ s = bt)) : ∃ D', F_X8_multiplyByOthers (hp x iv ai aj ar pp f0) a (x + 13) but = some (hp x iv (va_up ai 14 D') aj ar pp f0) ∧ ∀ v, cR (ai 14) v → cR D' (v * oth (fun s => (g (5 * s + 1)).toInt) bt K 0) := s_others h hbt K 0 xfuel ai (by omega) (Nat.lt_of_le_of_lt h.2.2.1 (by decide))
theorem bt_none (hK : K ≤ 3) : ∀ s, s < K → (nI s = -1 ↔ s = 99) := by
  intro s hs
  constructor
  · intro e
    have h1 := toInt_nI (show s < 2147483648 by omega)
    rw [e] at h1
    have h2 : (-1 : Int32).toInt = -1 := rfl
    omega
  · intro e; omega
theorem bt_s {s0 : Nat} (hK : K ≤ 3) (h0 : s0 < K) : ∀ s, s < K → (nI s = nI s0 ↔ s = s0) := fun s hs => by rw [eq_nI (by omega) (by omega)]
/-- the two of x, y, 1 of a term -/
def fo (t : Nat) : Nat := if t = 6 ∨ t = 4 ∨ t = 3 then 0 else if t = 2 ∨ t = 1 then 1 else 2
def so (t : Nat) : Nat := if t = 6 then 0 else if t = 4 ∨ t = 2 then 1 else 2
def ot (t : Nat) : Bool := decide (t = 5 ∨ t = 7 ∨ t = 8)
/-- the share of square s to term t -/
def shr (g : Nat → Int64) (sp : Bool) (K t s : Nat) : Int := (g (5 * s)).toInt * (g (5 * s + 2 + fo t)).toInt * (g (5 * s + 2 + so t)).toInt * (if fo t = so t then 1 else 2) * oth (fun s => (g (5 * s + 1)).toInt) s K 0 * sdv sp g K
theorem st_fo {t : Nat} (ht : t < 9) (h : ot t = false) : hSt 2 (nI t) = some (nI (fo t)) ∧ hSt 3 (nI t) = some (nI (so t)) := by
  rcases (show t = 0 ∨ t = 1 ∨ t = 2 ∨ t = 3 ∨ t = 4 ∨ t = 5 ∨ t = 6 ∨ t = 7 ∨ t = 8 by omega) with rfl | rfl | rfl | rfl | rfl | rfl | rfl | rfl | rfl
  · exact ⟨rfl, rfl⟩
  · exact ⟨rfl, rfl⟩
  · exact ⟨rfl, rfl⟩
  · exact ⟨rfl, rfl⟩
  · exact ⟨rfl, rfl⟩
  · cases h
  · exact ⟨rfl, rfl⟩
  · cases h
  · cases h
theorem st_ot {t : Nat} (ht : t < 9) (h : ot t = true) : hSt 2 (nI t) = some (-1) := by
  rcases (show t = 0 ∨ t = 1 ∨ t = 2 ∨ t = 3 ∨ t = 4 ∨ t = 5 ∨ t = 6 ∨ t = 7 ∨ t = 8 by omega) with rfl | rfl | rfl | rfl | rfl | rfl | rfl | rfl | rfl
  · cases h
  · cases h
  · cases h
  · cases h
  · cases h
  · rfl
  · cases h
  · rfl
  · rfl
theorem fo_lt (t : Nat) : fo t < 3 ∧ so t < 3 := by
  unfold fo so
  constructor <;> repeat' split
  all_goals decide
theorem s_share (h : SQ x f0 a b K pa sp g T) {t s : Nat} (ht : t < 9) (hs : s < K) (ho : ot t = false) : ∃ D', F_X8_squareShare (hp x iv ai aj ar pp f0) a (nI t) (nI s) (x + 13) = some (hp x iv (va_up ai 14 D') aj ar pp f0) ∧ cR D' (shr g sp K t s) := by
  have hK := h.2.2.1
  have hfo := fo_lt t
  have nb : ∀ i, i < 5 * K → i < 5 * K + (if sp = true then 4 else 0) := fun i hi => by omega
  obtain ⟨D1, e1, c1⟩ := s_become (x := x) (c := 13) (iv := iv) (ai := ai) (aj := aj) (ar := ar) (pp := pp) (f0 := f0) (wc_13 x) (g (5 * s))
  obtain ⟨D2, e2, c2⟩ := s_mulBy (x := x) (c := 13) (iv := iv) (ai := va_up ai (13 + 1) D1) (aj := aj) (ar := ar) (pp := pp) (f0 := f0) (wc_13 x) (p := g (5 * s + 2 + fo t)) (b60_min (h.2.2.2.2.2.2.1 _ (nb _ (by omega))))
  obtain ⟨D3, e3, c3⟩ := s_mulBy (x := x) (c := 13) (iv := iv) (ai := va_up ai (13 + 1) D2) (aj := aj) (ar := ar) (pp := pp) (f0 := f0) (wc_13 x) (p := g (5 * s + 2 + so t)) (b60_min (h.2.2.2.2.2.2.1 _ (nb _ (by omega))))
  obtain ⟨tw, htw, htw2⟩ : ∃ tw : Int64, tw.toInt = (if fo t = so t then 1 else 2) ∧ -9223372036854775808 < tw.toInt ∧ tw = (if fo t = so t then 1 else 2) := by
    by_cases e : fo t = so t
    · exact ⟨1, by rw [if_pos e]; rfl, by decide, by rw [if_pos e]⟩
    · exact ⟨2, by rw [if_neg e]; rfl, by decide, by rw [if_neg e]⟩
  obtain ⟨D4, e4, c4⟩ := s_mulBy (x := x) (c := 13) (iv := iv) (ai := va_up ai (13 + 1) D3) (aj := aj) (ar := ar) (pp := pp) (f0 := f0) (wc_13 x) (p := tw) htw2.1
  obtain ⟨D5, e5, c5⟩ := s_otherF (iv := iv) (ai := va_up ai (13 + 1) D4) (aj := aj) (ar := ar) (pp := pp) h (but := nI s) (bt := s) (bt_s hK hs)
  obtain ⟨d, d1, d2, d3⟩ := h.div (iv := iv) (ai := va_up ai 14 D5) (aj := aj) (ar := ar) (pp := pp)
  obtain ⟨D6, e6, c6⟩ := s_mulBy (x := x) (c := 13) (iv := iv) (ai := va_up ai 14 D5) (aj := aj) (ar := ar) (pp := pp) (f0 := f0) (wc_13 x) (p := d) d2
  rw [up_up] at e2 e3 e4 e5 e6
  refine ⟨D6, ?_, ?_⟩
  · obtain ⟨s1, s2⟩ := st_fo ht ho
    have e77 : F_X8_squareShare_77 (hp x iv (va_up ai (13 + 1) D3) aj ar pp f0) a (nI s) (x + 13) tw (x + 13) = some (hp x iv (va_up ai 14 D6) aj ar pp f0) := by
      unfold F_X8_squareShare_77
      rw [if_pos rk_13, e4, Option.bind_some, if67 _ h.k67, e5, Option.bind_some, if67b _ d3, if_pos rk_13, e6, Option.bind_some]
    unfold F_X8_squareShare
    rw [s1, Option.bind_some, s2, Option.bind_some, h.num, Option.bind_some, mul_5, h.ld (nb _ (by omega)), Option.bind_some, if_pos rk_13, e1, Option.bind_some, h.num, Option.bind_some, add_2, nI_add, nI_add, h.ld (nb _ (by omega)), Option.bind_some, if_pos rk_13, e2, Option.bind_some, h.num, Option.bind_some, h.ld (nb _ (by omega)), Option.bind_some, if_pos rk_13, e3, Option.bind_some]
    by_cases e : fo t = so t
    · rw [if_pos (show nI (fo t) = nI (so t) by rw [e])]
      rw [if_pos e] at htw2
      rw [htw2.2] at e77
      exact e77
    · rw [if_neg (show ¬ nI (fo t) = nI (so t) by rw [eq_nI (by omega) (by omega)]; exact e)]
      rw [if_neg e] at htw2
      rw [htw2.2] at e77
      exact e77
  · have v1 := c2 _ (by rw [up_at]; exact c1)
    have v2 := c3 _ (by rw [up_at]; exact v1)
    have v3 := c4 _ (by rw [up_at]; exact v2)
    have v4 := c5 _ (by rw [up_at]; exact v3)
    have v5 := c6 _ (by rw [up_at]; exact v4)
    rw [d1, htw] at v5
    exact v5
/-- the span's term, times 65536 -/
def spt (g : Nat → Int64) (K t : Nat) : Int := if t = 0 then -((g (5 * K + 2)).toInt * (g (5 * K + 3)).toInt) else if t = 3 then 256 * ((g (5 * K + 2)).toInt + (g (5 * K + 3)).toInt) else if t = 6 then -65536 else 0
/-- the span's share -/
def sps (g : Nat → Int64) (sp : Bool) (K t : Nat) : Int := if sp = true then (g (5 * K)).toInt * spt g K t * oth (fun s => (g (5 * s + 1)).toInt) 99 K 0 else 0
theorem s_spanTerm (h : SQ x f0 a b K pa true g T) {t : Nat} (ht : t < 9) : ∃ d : Int64, F_X7_spanTerm (hp x iv ai aj ar pp f0) a (nI t) = some d ∧ d.toInt = spt g K t ∧ -9223372036854775808 < d.toInt := by
  have hk : hKd (hp x iv ai aj ar pp f0) a = some 6 := h.kd
  have h2 := b9_I (h.2.2.2.2.2.2.2 rfl (5 * K + 2) (by omega) (by omega))
  have h3 := b9_I (h.2.2.2.2.2.2.2 rfl (5 * K + 3) (by omega) (by omega))
  have hn : (-(g (5 * K + 2))).toInt = -(g (5 * K + 2)).toInt := by rw [Int64.toInt_neg, bm64 (by omega) (by omega)]
  have m1 := ml (a := -(g (5 * K + 2))) (b := g (5 * K + 3)) (A := 1000000000) (by omega) h3 (C := 1000000000000000000) rfl (by decide)
  have a1 : (g (5 * K + 2) + g (5 * K + 3)).toInt = (g (5 * K + 2)).toInt + (g (5 * K + 3)).toInt := add64 (by omega) (by omega)
  have m2 := ml (a := 256) (b := g (5 * K + 2) + g (5 * K + 3)) (A := 256) (by decide) (B := 2000000000) (by omega) (C := 512000000000) rfl (by decide)
  have e256 : (256 : Int64).toInt = 256 := rfl
  have e0 : F_X7_spanTerm (hp x iv ai aj ar pp f0) a (nI t) = if nI t = 0 then some (-(g (5 * K + 2)) * g (5 * K + 3)) else if nI t = 3 then some (256 * (g (5 * K + 2) + g (5 * K + 3))) else if nI t = 6 then some (-65536) else some 0 := by
    unfold F_X7_spanTerm
    rw [h.n3, Option.bind_some, if_pos hk, h.from, Option.bind_some, add_2, h.ld (show 5 * K + 2 < 5 * K + 4 by omega), Option.bind_some, Option.bind_some, if_pos hk, Option.bind_some, add_3, h.ld (show 5 * K + 3 < 5 * K + 4 by omega), Option.bind_some]
  unfold spt
  by_cases t0 : t = 0
  · refine ⟨_, by rw [e0, if_pos (show nI t = 0 by rw [t0]; rfl)], ?_, by omega⟩
    rw [if_pos t0, m1.1, hn, Int.neg_mul]
  rw [if_neg (show ¬ nI t = 0 by rw [ceq_0 (by omega)]; exact t0)] at e0
  rw [if_neg t0]
  by_cases t3 : t = 3
  · refine ⟨_, by rw [e0, if_pos (show nI t = 3 by rw [t3]; rfl)], ?_, by omega⟩
    rw [if_pos t3, m2.1, e256, a1]
  rw [if_neg (show ¬ nI t = 3 by rw [ceq_3 (by omega)]; exact t3)] at e0
  rw [if_neg t3]
  by_cases t6 : t = 6
  · refine ⟨-65536, by rw [e0, if_pos (show nI t = 6 by rw [t6]; rfl)], ?_, by decide⟩
    rw [if_pos t6]
    rfl
  · refine ⟨0, by rw [e0, if_neg (show ¬ nI t = 6 by rw [ceq_6 (by omega)]; exact t6)], ?_, by decide⟩
    rw [if_neg t6]
    rfl
/-- the class's last steps of a term: the span's share, and whether all is nought -/
theorem s_hold77 (h : SQ x f0 a b K pa sp g T) {t : Nat} (ht : t < 9) {v : Int} (hv : cR (ai 12) v) : ∃ ai', F_X8_holds_77 (hp x iv ai aj ar pp f0) a (nI t) (x + 11) (x + 13) = some (if dvl (ai' 12) 12 0 = 0 then 1 else 0, hp x iv ai' aj ar pp f0) ∧ cR (ai' 12) (v + sps g sp K t) ∧ ∀ k, k ≠ 12 → k ≠ 14 → ai' k = ai k := by
  have hK := h.2.2.1
  have fin : ∀ D', cR D' (sps g sp K t) → ∃ D2, ((F_X9_take (hp x iv (va_up ai 14 D') aj ar pp f0) (x + 11) (x + 13)).bind (fun q4 => if hKd q4 (x + 11) = some 8 then (Option.bind (F_X9_isNought q4 (x + 11)) fun q6 => Option.bind (hZ q6) fun v7 => some (v7, q4)) else none)) = some (if dvl D2 12 0 = 0 then 1 else 0, hp x iv (va_up (va_up ai 14 D') 12 D2) aj ar pp f0) ∧ cR D2 (v + sps g sp K t) := by
    intro D' hD
    obtain ⟨D2, e1, e2⟩ := s_take (x := x) (c := 11) (e := 13) (iv := iv) (ai := va_up ai 14 D') (aj := aj) (ar := ar) (pp := pp) (f0 := f0) (wc_11 x) (wc_13 x) (by decide)
    refine ⟨D2, ?_, e2 _ _ (by rw [up_ne _ _ (by decide)]; exact hv) (by rw [up_at]; exact hD)⟩
    have en := s_nought (x := x) (c := 11) (iv := iv) (ai := va_up (va_up ai 14 D') 12 D2) (aj := aj) (ar := ar) (pp := pp) (f0 := f0) (wc_11 x)
    rw [show va_up (va_up ai 14 D') 12 D2 (11 + 1) = D2 from up_at _ _ _] at en
    rw [e1, Option.bind_some, if_pos rk_11, en, Option.bind_some]
    unfold hZ
    by_cases hd : dvl D2 12 0 = 0
    · rw [if_pos hd]
      rfl
    · rw [if_neg hd]
      rfl
  have hk := h.kd (iv := iv) (ai := ai) (aj := aj) (ar := ar) (pp := pp)
  cases sp with
  | true =>
    have hk6 : ∀ ai' : Nat → Nat → Int32, hKd (hp x iv ai' aj ar pp f0) a = some 6 := fun ai' => h.kd
    obtain ⟨D1, e1, c1⟩ := s_become (x := x) (c := 13) (iv := iv) (ai := ai) (aj := aj) (ar := ar) (pp := pp) (f0 := f0) (wc_13 x) (g (5 * K))
    obtain ⟨d, d1, d2, d3⟩ := s_spanTerm (iv := iv) (ai := va_up ai (13 + 1) D1) (aj := aj) (ar := ar) (pp := pp) h ht
    obtain ⟨D2, e2, c2⟩ := s_mulBy (x := x) (c := 13) (iv := iv) (ai := va_up ai (13 + 1) D1) (aj := aj) (ar := ar) (pp := pp) (f0 := f0) (wc_13 x) (p := d) d3
    obtain ⟨D3, e3, c3⟩ := s_otherF (iv := iv) (ai := va_up ai (13 + 1) D2) (aj := aj) (ar := ar) (pp := pp) h (but := -1) (bt := 99) (bt_none hK)
    rw [up_up] at e2 e3
    have v1 := c2 _ (by rw [up_at]; exact c1)
    have v2 := c3 _ (by rw [up_at]; exact v1)
    rw [d2] at v2
    obtain ⟨D4, f1, f2⟩ := fin D3 v2
    refine ⟨va_up (va_up ai 14 D3) 12 D4, ?_, by rw [up_at]; exact f2, fun k k1 k2 => by rw [up_ne _ _ k1, up_ne _ _ k2]⟩
    have es : F_X7_spanShare (hp x iv ai aj ar pp f0) a (nI t) (x + 13) = some (hp x iv (va_up ai 14 D3) aj ar pp f0) := by
      unfold F_X7_spanShare
      rw [h.n3, Option.bind_some, if_pos (hk6 _), h.from, Option.bind_some, h.ld (show 5 * K < 5 * K + 4 by omega), Option.bind_some, if_pos rk_13, e1, Option.bind_some, if_pos (hk6 _), d1, Option.bind_some, if_pos rk_13, e2, Option.bind_some, if_pos (hk6 _), e3, Option.bind_some]
    unfold F_X8_holds_77
    rw [if_pos (hk6 _), es, Option.bind_some, if_pos rk_11, f1, up_at]
  | false =>
    have hk7 : ∀ ai' : Nat → Nat → Int32, hKd (hp x iv ai' aj ar pp f0) a = some 7 := fun ai' => h.kd
    obtain ⟨D1, e1, c1⟩ := s_become (x := x) (c := 13) (iv := iv) (ai := ai) (aj := aj) (ar := ar) (pp := pp) (f0 := f0) (wc_13 x) 0
    obtain ⟨D4, f1, f2⟩ := fin D1 c1
    refine ⟨va_up (va_up ai 14 D1) 12 D4, ?_, by rw [up_at]; exact f2, fun k k1 k2 => by rw [up_ne _ _ k1, up_ne _ _ k2]⟩
    unfold F_X8_holds_77 F_X8_spanShare
    rw [if_neg (show ¬ hKd (hp x iv ai aj ar pp f0) a = some 6 by rw [hk7]; exact some_ne (by decide)), if_pos (hk7 _), if_pos rk_13, e1, Option.bind_some, Option.bind_some, if_pos rk_11]
    refine f1.trans ?_
    rw [up_at]
/-- shares of squares from s on -/
def shs (g : Nat → Int64) (sp : Bool) (K t : Nat) : Nat → Nat → Int
  | 0, _ => 0
  | w + 1, s => (if ot t = true then 0 else shr g sp K t s) + shs g sp K t w (s + 1)
theorem s_hold41 (h : SQ x f0 a b K pa sp g T) {t : Nat} (ht : t < 9) : ∀ (w s m : Nat) (ai : Nat → Nat → Int32) (v : Int), s + w = K → w < m → cR (ai 12) v → ∃ ai', L_X8_holds_41 m (hp x iv ai aj ar pp f0) a (nI t) (x + 11) (x + 13) (nI s) = some (if dvl (ai' 12) 12 0 = 0 then 1 else 0, hp x iv ai' aj ar pp f0) ∧ cR (ai' 12) (v + shs g sp K t w s + sps g sp K t) ∧ ∀ k, k ≠ 12 → k ≠ 14 → ai' k = ai k := by
  have hK := h.2.2.1
  intro w
  induction w with
  | zero =>
    intro s m ai v hs hm hv
    obtain ⟨m, rfl⟩ : ∃ y, m = y + 1 := ⟨m - 1, by omega⟩
    obtain ⟨ai', e1, e2, e3⟩ := s_hold77 (iv := iv) (ai := ai) (aj := aj) (ar := ar) (pp := pp) h ht hv
    refine ⟨ai', ?_, by show cR (ai' 12) (v + 0 + _); rw [Int.add_zero]; exact e2, e3⟩
    show F_X8_holds_41 _ _ _ _ _ _ _ = _
    unfold F_X8_holds_41
    rw [if67b _ h.pcs, if_pos (show nI K ≤ nI s by rw [leq_nI (by omega) (by omega)]; omega), e1]
  | succ w ih =>
    intro s m ai v hs hm hv
    obtain ⟨m, rfl⟩ : ∃ y, m = y + 1 := ⟨m - 1, by omega⟩
    have e0 : ∀ r : Int32, hSt 2 (nI t) = some r → L_X8_holds_41 (m + 1) (hp x iv ai aj ar pp f0) a (nI t) (x + 11) (x + 13) (nI s) = if r < 0 then F_X8_holds_77 (hp x iv ai aj ar pp f0) a (nI t) (x + 11) (x + 13) else (F_X8_squareShare (hp x iv ai aj ar pp f0) a (nI t) (nI s) (x + 13)).bind (fun q7 => if hKd q7 (x + 11) = some 8 then (Option.bind (F_X9_take q7 (x + 11) (x + 13)) fun q9 => L_X8_holds_41 m q9 a (nI t) (x + 11) (x + 13) (nI (s + 1))) else none) := by
      intro r hr
      show F_X8_holds_41 _ _ _ _ _ _ _ = _
      unfold F_X8_holds_41
      rw [if67b _ h.pcs, if_neg (show ¬ nI K ≤ nI s by rw [leq_nI (by omega) (by omega)]; omega), hr, Option.bind_some, if67 _ h.k67, add_1]
    cases ho : ot t with
    | true =>
      obtain ⟨ai', e1, e2, e3⟩ := s_hold77 (iv := iv) (ai := ai) (aj := aj) (ar := ar) (pp := pp) h ht hv
      have hz : ∀ w s, shs g sp K t w s = 0 := by
        intro w
        induction w with
        | zero => intro s; rfl
        | succ w ihw =>
          intro s
          show (if ot t = true then 0 else _) + shs g sp K t w (s + 1) = 0
          rw [if_pos ho, ihw]
          rfl
      refine ⟨ai', ?_, by rw [hz, Int.add_zero]; exact e2, e3⟩
      rw [e0 _ (st_ot ht ho), if_pos (show (-1 : Int32) < 0 by decide), e1]
    | false =>
      obtain ⟨s1, s2⟩ := st_fo ht ho
      have hfo := fo_lt t
      obtain ⟨D1, d1, d2⟩ := s_share (iv := iv) (ai := ai) (aj := aj) (ar := ar) (pp := pp) h ht (show s < K by omega) ho
      obtain ⟨D2, t1, t2⟩ := s_take (x := x) (c := 11) (e := 13) (iv := iv) (ai := va_up ai 14 D1) (aj := aj) (ar := ar) (pp := pp) (f0 := f0) (wc_11 x) (wc_13 x) (by decide)
      have v2 := t2 _ _ (by rw [up_ne _ _ (by decide)]; exact hv) (by rw [up_at]; exact d2)
      obtain ⟨ai', e1, e2, e3⟩ := ih (s + 1) m (va_up (va_up ai 14 D1) (11 + 1) D2) (v + shr g sp K t s) (by omega) (by omega) (by rw [up_at]; exact v2)
      refine ⟨ai', ?_, ?_, fun k k1 k2 => (e3 k k1 k2).trans (by rw [up_ne _ _ k1, up_ne _ _ k2])⟩
      · rw [e0 _ s1, if_neg (show ¬ nI (fo t) < 0 by rw [neg_nI (by omega)]; exact id), d1, Option.bind_some, if_pos rk_11, t1, Option.bind_some, e1]
      · show cR (ai' 12) (v + ((if ot t = true then 0 else shr g sp K t s) + shs g sp K t w (s + 1)) + _)
        rw [ho, if_neg (show ¬ (false = true) by decide), ← Int.add_assoc]
        exact e2
/-- what must be nought of a term -/
def tot (g T : Nat → Int64) (sp : Bool) (K t : Nat) : Int := -(T t).toInt * oth (fun s => (g (5 * s + 1)).toInt) 99 K 0 * sdv sp g K + shs g sp K t K 0 + sps g sp K t
theorem s_holds (h : SQ x f0 a b K pa sp g T) (hT : ∀ t, t < 9 → -1000 ≤ T t ∧ T t ≤ 1000) {t : Nat} (ht : t < 9) : ∃ ai', F_X8_holds (hp x iv ai aj ar pp f0) a (nI t) (x + 11) (x + 13) = some (if dvl (ai' 12) 12 0 = 0 then 1 else 0, hp x iv ai' aj ar pp f0) ∧ cR (ai' 12) (tot g T sp K t) ∧ ∀ k, k ≠ 12 → k ≠ 14 → ai' k = ai k := by
  have hK := h.2.2.1
  obtain ⟨tb, p1, p2, p3, p4⟩ := id h.2.2.2.1
  have hTt := co_b (hT t ht)
  have hn : (-(T t)).toInt = -(T t).toInt := by rw [Int64.toInt_neg, bm64 (by omega) (by omega)]
  obtain ⟨D1, e1, c1⟩ := s_become (x := x) (c := 13) (iv := iv) (ai := ai) (aj := aj) (ar := ar) (pp := pp) (f0 := f0) (wc_13 x) (-(T t))
  obtain ⟨D2, e2, c2⟩ := s_otherF (iv := iv) (ai := va_up ai (13 + 1) D1) (aj := aj) (ar := ar) (pp := pp) h (but := -1) (bt := 99) (bt_none hK)
  obtain ⟨d, d1, d2, d3⟩ := h.div (iv := iv) (ai := va_up (va_up ai (13 + 1) D1) 14 D2) (aj := aj) (ar := ar) (pp := pp)
  obtain ⟨D3, e3, c3⟩ := s_mulBy (x := x) (c := 13) (iv := iv) (ai := va_up (va_up ai (13 + 1) D1) 14 D2) (aj := aj) (ar := ar) (pp := pp) (f0 := f0) (wc_13 x) (p := d) d2
  obtain ⟨D4, e4, c4⟩ := s_become (x := x) (c := 11) (iv := iv) (ai := va_up (va_up (va_up ai (13 + 1) D1) 14 D2) (13 + 1) D3) (aj := aj) (ar := ar) (pp := pp) (f0 := f0) (wc_11 x) 0
  obtain ⟨D5, e5, c5⟩ := s_take (x := x) (c := 11) (e := 13) (iv := iv) (ai := va_up (va_up (va_up (va_up ai (13 + 1) D1) 14 D2) (13 + 1) D3) (11 + 1) D4) (aj := aj) (ar := ar) (pp := pp) (f0 := f0) (wc_11 x) (wc_13 x) (by decide)
  have v1 := c2 _ (by rw [up_at]; exact c1)
  have v2 := c3 _ (by rw [up_at]; exact v1)
  have v3 := c5 _ _ (by rw [up_at]; exact c4) (by rw [up_ne _ _ (by decide), up_at]; exact v2)
  rw [hn, d1] at v3
  have i0 : (0 : Int64).toInt = 0 := rfl
  rw [i0, Int.zero_add] at v3
  obtain ⟨ai', f1, f2, f3⟩ := s_hold41 (iv := iv) (aj := aj) (ar := ar) (pp := pp) h ht K 0 xfuel (va_up (va_up (va_up (va_up (va_up ai (13 + 1) D1) 14 D2) (13 + 1) D3) (11 + 1) D4) (11 + 1) D5) _ (by omega) (Nat.lt_of_le_of_lt hK (by decide)) (by rw [up_at]; exact v3)
  refine ⟨ai', ?_, f2, fun k k1 k2 => (f3 k k1 k2).trans (by rw [up_ne _ _ k1, up_ne _ _ k1, up_ne _ _ k2, up_ne _ _ k2, up_ne _ _ k2])⟩
  have n4 : hN (hp x iv ai aj ar pp f0) pa [(4, 0)] = some tb := (dN p1 _).trans (fN p3 rfl rfl)
  have l4 : hJld (hp x iv ai aj ar pp f0) tb (nI t) = some (T t) := dld p2 p4 ht (by decide)
  unfold F_X8_holds
  rw [h.pol, Option.bind_some, n4, Option.bind_some, l4, Option.bind_some, if_pos rk_13, e1, Option.bind_some]
  have tail : ∀ q : xHp, q = hp x iv (va_up (va_up ai (13 + 1) D1) 14 D2) aj ar pp f0 → (if hKd q a = some 6 then (Option.bind (F_X7_spanDivisor q a) fun q9 => if hKd q (x + 13) = some 8 then (Option.bind (F_X9_multiplyBy q (x + 13) q9) fun q11 => if hKd q11 (x + 11) = some 8 then (Option.bind (F_X9_become q11 (x + 11) (0 : Int64)) fun q13 => if hKd q13 (x + 11) = some 8 then (Option.bind (F_X9_take q13 (x + 11) (x + 13)) fun q15 => L_X8_holds_41 xfuel q15 a (nI t) (x + 11) (x + 13) (0 : Int32)) else none) else none) else none) else if hKd q a = some 7 then (Option.bind (F_X8_spanDivisor q a) fun q17 => if hKd q (x + 13) = some 8 then (Option.bind (F_X9_multiplyBy q (x + 13) q17) fun q19 => if hKd q19 (x + 11) = some 8 then (Option.bind (F_X9_become q19 (x + 11) (0 : Int64)) fun q21 => if hKd q21 (x + 11) = some 8 then (Option.bind (F_X9_take q21 (x + 11) (x + 13)) fun q23 => L_X8_holds_41 xfuel q23 a (nI t) (x + 11) (x + 13) (0 : Int32)) else none) else none) else none) else none) = some (if dvl (ai' 12) 12 0 = 0 then 1 else 0, hp x iv ai' aj ar pp f0) := by
    intro q hq
    rw [hq, if67b _ d3, if_pos rk_13, e3, Option.bind_some, if_pos rk_11, e4, Option.bind_some, if_pos rk_11, e5, Option.bind_some]
    exact f1
  rcases h.k67 (iv := iv) (ai := va_up ai (13 + 1) D1) (aj := aj) (ar := ar) (pp := pp) with k6 | k7
  · rw [if_pos k6, e2, Option.bind_some]
    exact tail _ rfl
  · rw [if_neg (show ¬ hKd (hp x iv (va_up ai (13 + 1) D1) aj ar pp f0) a = some 6 by rw [k7]; exact some_ne (by decide)), if_pos k7, e2, Option.bind_some]
    exact tail _ rfl
end SSUMS

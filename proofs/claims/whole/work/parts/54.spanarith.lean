/-! span: what is whole -/
theorem remI {v w : Int64} (hv : v.toInt.natAbs < 4611686018427387904) : ((v - v / w * w = 0) ↔ v.toInt - v.toInt.tdiv w.toInt * w.toInt = 0) := by
  obtain ⟨d1, d2⟩ := dv (a := v) (p := w) (by omega)
  have m0 : (v.toInt.tdiv w.toInt * w.toInt).natAbs ≤ v.toInt.natAbs := by
    rw [Int.natAbs_mul, Int.natAbs_tdiv]
    exact Nat.div_mul_le_self _ _
  have m1 : (v / w * w).toInt = v.toInt.tdiv w.toInt * w.toInt := by
    rw [mul64] <;> rw [d1] <;> omega
  have m2 : (v - v / w * w).toInt = v.toInt - v.toInt.tdiv w.toInt * w.toInt := by
    rw [sub64] <;> rw [m1] <;> omega
  have e0 : (0 : Int64).toInt = 0 := rfl
  constructor
  · intro h
    rw [← m2, h, e0]
  · intro h
    exact Int64.toInt_inj.mp (by rw [m2, h, e0])
theorem remD {v w : Int64} (hv : v.toInt.natAbs < 4611686018427387904) (hw : 0 < w.toInt) : ((v - v / w * w = 0) ↔ ∃ k, v.toInt = w.toInt * k) := by
  rw [remI hv]
  constructor
  · intro h
    refine ⟨v.toInt.tdiv w.toInt, ?_⟩
    rw [Int.mul_comm]
    omega
  · rintro ⟨k, hk⟩
    rw [hk, Int.mul_tdiv_cancel_left _ (by omega), Int.mul_comm k, Int.sub_self]
theorem quoD {v w : Int64} {k : Int} (hv : v.toInt.natAbs < 4611686018427387904) (hw : 0 < w.toInt) (hk : v.toInt = w.toInt * k) : (v / w).toInt = k := by
  rw [(dv (a := v) (p := w) (by omega)).1, hk, Int.mul_tdiv_cancel_left _ (by omega)]
theorem spn {t v w : Int64} (ht : t.toInt.natAbs ≤ 1000) (hw : 0 < w.toInt) (hw2 : w.toInt.natAbs ≤ 65536000) (hv : v.toInt.natAbs ≤ 4194304000) : ((t * w + v - (t * w + v) / w * w = 0) ↔ (v - v / w * w = 0)) ∧ ((v - v / w * w = 0) → (t * w + v) / w = t + v / w) := by
  obtain ⟨m1, m2⟩ := ml ht hw2 (C := 65536000000) rfl (by decide)
  have a1 : (t * w + v).toInt = t.toInt * w.toInt + v.toInt := by rw [add64] <;> rw [m1] <;> omega
  have hu : (t * w + v).toInt.natAbs < 4611686018427387904 := by rw [a1]; omega
  have key : ∀ k, v.toInt = w.toInt * k → (t * w + v).toInt = w.toInt * (t.toInt + k) := fun k hk => by rw [a1, hk]; grind
  refine ⟨?_, fun h => ?_⟩
  · rw [remD hu hw, remD (by omega) hw]
    constructor
    · rintro ⟨k, hk⟩
      exact ⟨k - t.toInt, by rw [a1] at hk; grind⟩
    · rintro ⟨k, hk⟩
      exact ⟨t.toInt + k, key k hk⟩
  · obtain ⟨k, hk⟩ := (remD (by omega) hw).mp h
    have q1 := quoD hu hw (key k hk)
    have q2 := quoD (by omega) hw hk
    have q3 := (dv (a := v) (p := w) (by omega)).2
    apply Int64.toInt_inj.mp
    rw [q1, add64] <;> rw [q2] <;> omega
theorem spm {t v w : Int64} (ht : t.toInt.natAbs ≤ 1000) (hw : 0 < w.toInt) (hw2 : w.toInt.natAbs ≤ 65536000) (hv : v.toInt.natAbs ≤ 4194304000) : ((t * w - v - (t * w - v) / w * w = 0) ↔ (v - v / w * w = 0)) ∧ ((v - v / w * w = 0) → (t * w - v) / w = t - v / w) := by
  obtain ⟨m1, m2⟩ := ml ht hw2 (C := 65536000000) rfl (by decide)
  have a1 : (t * w - v).toInt = t.toInt * w.toInt - v.toInt := by rw [sub64] <;> rw [m1] <;> omega
  have hu : (t * w - v).toInt.natAbs < 4611686018427387904 := by rw [a1]; omega
  have key : ∀ k, v.toInt = w.toInt * k → (t * w - v).toInt = w.toInt * (t.toInt - k) := fun k hk => by rw [a1, hk]; grind
  refine ⟨?_, fun h => ?_⟩
  · rw [remD hu hw, remD (by omega) hw]
    constructor
    · rintro ⟨k, hk⟩
      exact ⟨t.toInt - k, by rw [a1] at hk; grind⟩
    · rintro ⟨k, hk⟩
      exact ⟨t.toInt - k, key k hk⟩
  · obtain ⟨k, hk⟩ := (remD (by omega) hw).mp h
    have q1 := quoD hu hw (key k hk)
    have q2 := quoD (by omega) hw hk
    have q3 := (dv (a := v) (p := w) (by omega)).2
    apply Int64.toInt_inj.mp
    rw [q1, sub64] <;> rw [q2] <;> omega
/-- what class and reference ask of a span -/
def spW (n : Int64) : Int64 × Int64 × Int64 := (n, 256 * n, 65536 * n)
def rz (v w : Int64) : Prop := v - v / w * w = 0
def in1000 (v : Int64) : Prop := -1000 ≤ v ∧ v ≤ 1000
theorem m_mayBe {f : xHp} {u w : Int64} (hw : w ≠ 0) [Decidable (rz u w ∧ in1000 (u / w))] : F_X11_mayBe f u w = some (if rz u w ∧ in1000 (u / w) then 1 else 0) := by
  unfold F_X11_mayBe
  rw [if_neg hw, if_neg hw, s_within, Option.bind_some]
  by_cases h1 : u - u / w * w = 0
  · rw [if_pos h1]
    by_cases h2 : -1000 ≤ u / w ∧ u / w ≤ 1000
    · rw [if_pos h2, if_neg (show ¬ (1 : Int32) = 0 by decide), if_pos (show rz u w ∧ in1000 (u / w) from ⟨h1, h2⟩)]
    · rw [if_neg h2, if_pos rfl, if_neg (show ¬ (rz u w ∧ in1000 (u / w)) from fun q => h2 q.2)]
  · rw [if_neg h1, if_neg (show ¬ (rz u w ∧ in1000 (u / w)) from fun q => h1 q.1)]
section LESS
variable {x z : Nat} {iv ai : Nat → Nat → Int32} {aj : Nat → Nat → Int64} {ar : Nat → Nat → Option Nat} {pp : Nat → Option Nat} {f0 : xHp}
def lsG (g : Nat → Int64) (q6 q3 q0 : Int64) : Nat → Int64 := va_up (va_up (va_up g 6 (g 6 + q6)) 3 (g 3 - q3)) 0 (g 0 + q0)
theorem lsG_ok {g : Nat → Int64} {q6 q3 q0 : Int64} (hg : ∀ t, t < 9 → -1000 ≤ g t ∧ g t ≤ 1000) : cok (lsG g q6 q3 q0) ↔ in1000 (g 6 + q6) ∧ in1000 (g 3 - q3) ∧ in1000 (g 0 + q0) := by
  constructor
  · intro h
    exact ⟨h 6 (by decide), h 3 (by decide), h 0 (by decide)⟩
  · rintro ⟨a, b, c⟩ t ht
    unfold lsG
    by_cases t0 : t = 0
    · rw [t0, up_at]; exact c
    rw [up_ne _ _ t0]
    by_cases t3 : t = 3
    · rw [t3, up_at]; exact b
    rw [up_ne _ _ t3]
    by_cases t6 : t = 6
    · rw [t6, up_at]; exact a
    rw [up_ne _ _ t6]
    exact hg t ht
theorem s_lessSpan (hz : x + 41 ≤ z) {a : Nat} {g : Nat → Int64} (h : pcz x z f0 a g) {m n A B : Int64} (hn : 0 < n) (h0 : n ≠ 0) (h2 : (256 : Int64) * n ≠ 0) (h3 : (65536 : Int64) * n ≠ 0) :
    ((¬ (rz m n ∧ rz (m * (A + B)) (256 * n) ∧ rz (m * A * B) (65536 * n) ∧ cok (lsG g (m / n) (m * (A + B) / (256 * n)) (m * A * B / (65536 * n))))) → ∃ y f2, z ≤ y ∧ F_X4_lessSpan z (hp x iv ai aj ar pp f0) a m n A B = some (none, y, hp x iv ai aj ar pp f2) ∧ ∀ c, c < z → f2 c = f0 c) ∧
    ((rz m n ∧ rz (m * (A + B)) (256 * n) ∧ rz (m * A * B) (65536 * n) ∧ cok (lsG g (m / n) (m * (A + B) / (256 * n)) (m * A * B / (65536 * n)))) → ∃ f2, F_X4_lessSpan z (hp x iv ai aj ar pp f0) a m n A B = some (some (z + 1), z + 2, hp x iv ai aj ar pp f2) ∧ (∀ c, c < z → f2 c = f0 c) ∧ pcz x (z + 2) f2 (z + 1) (lsG g (m / n) (m * (A + B) / (256 * n)) (m * A * B / (65536 * n)))) := by
  obtain ⟨b, a1, a2, b1, b2, e1, e2⟩ := id h
  have n1 : hN (hp x iv ai aj ar pp f0) a [(4, 0)] = some b := (dN a1 _).trans (fN e1 rfl rfl)
  have cp : F_J7_copyOf_c38d5 z (hp x iv ai aj ar pp f0) b 9 = some (some z, z + 1, hp x iv ai aj ar pp (va_up f0 z (some (.inr (.inl (9, g)))))) := by
    unfold F_J7_copyOf_c38d5
    have hcl : hCl (hp x iv ai aj ar pp f0) b 24 = some (9, g) := by
      unfold hCl
      rw [hp_out b1, e2]
      rfl
    rw [dLen b1, fLenJ e2, Option.bind_some, if_pos (show (9 : Int32) = nI 9 from rfl), hcl, Option.bind_some, hp_dyn hz, Option.bind_some]
  obtain ⟨r, r1, r2, r3⟩ := s_areCo (f := hp x iv ai aj ar pp (va_up f0 z (some (.inr (.inl (9, lsG g (m / n) (m * (A + B) / (256 * n)) (m * A * B / (65536 * n)))))))) (b := z) (g := lsG g (m / n) (m * (A + B) / (256 * n)) (m * A * B / (65536 * n))) (by rw [hp_out hz, up_at])
  have big : rz m n → rz (m * (A + B)) (256 * n) → rz (m * A * B) (65536 * n) → F_X4_lessSpan z (hp x iv ai aj ar pp f0) a m n A B = if r = 0 then some (none, z + 1, hp x iv ai aj ar pp (va_up f0 z (some (.inr (.inl (9, lsG g (m / n) (m * (A + B) / (256 * n)) (m * A * B / (65536 * n)))))))) else some (some (z + 1), z + 2, hp x iv ai aj ar pp (va_up (va_up (va_up f0 z (some (.inr (.inl (9, lsG g (m / n) (m * (A + B) / (256 * n)) (m * A * B / (65536 * n))))))) (z + 1) (some (.inr (.inr (.inr (4, [.null])))))) (z + 1) (some (.inr (.inr (.inr (4, [.ref z]))))))) := by
    intro d1 d2 d3
    unfold rz at d1 d2 d3
    unfold F_X4_lessSpan
    have l6 : ∀ (R : Nat → Int64), hJld (hp x iv ai aj ar pp (va_up f0 z (some (.inr (.inl (9, R)))))) z 6 = some (R 6) := fun R => dld (i := 6) hz (up_at _ _ _) (by decide) (by decide)
    have l3 : ∀ (R : Nat → Int64), hJld (hp x iv ai aj ar pp (va_up f0 z (some (.inr (.inl (9, R)))))) z 3 = some (R 3) := fun R => dld (i := 3) hz (up_at _ _ _) (by decide) (by decide)
    have l0 : ∀ (R : Nat → Int64), hJld (hp x iv ai aj ar pp (va_up f0 z (some (.inr (.inl (9, R)))))) z 0 = some (R 0) := fun R => dld (i := 0) hz (up_at _ _ _) (by decide) (by decide)
    have w6 : ∀ (R : Nat → Int64) (v : Int64), hJst (hp x iv ai aj ar pp (va_up f0 z (some (.inr (.inl (9, R)))))) z 6 v = some (hp x iv ai aj ar pp (va_up f0 z (some (.inr (.inl (9, va_up R 6 v)))))) := fun R v => (dst (i := 6) hz (up_at _ _ _) (by decide) (by decide) v).trans (by rw [up_up])
    have w3 : ∀ (R : Nat → Int64) (v : Int64), hJst (hp x iv ai aj ar pp (va_up f0 z (some (.inr (.inl (9, R)))))) z 3 v = some (hp x iv ai aj ar pp (va_up f0 z (some (.inr (.inl (9, va_up R 3 v)))))) := fun R v => (dst (i := 3) hz (up_at _ _ _) (by decide) (by decide) v).trans (by rw [up_up])
    have w0 : ∀ (R : Nat → Int64) (v : Int64), hJst (hp x iv ai aj ar pp (va_up f0 z (some (.inr (.inl (9, R)))))) z 0 v = some (hp x iv ai aj ar pp (va_up f0 z (some (.inr (.inl (9, va_up R 0 v)))))) := fun R v => (dst (i := 0) hz (up_at _ _ _) (by decide) (by decide) v).trans (by rw [up_up])
    have v3 : va_up g 6 (g 6 + m / n) 3 = g 3 := up_ne _ _ (by decide)
    have v0 : va_up (va_up g 6 (g 6 + m / n)) 3 (g 3 - m * (A + B) / (256 * n)) 0 = g 0 := by rw [up_ne _ _ (by decide), up_ne _ _ (by decide)]
    rw [if_neg (Int64.not_le.mpr hn), if_neg h0, if_pos d1, if_neg h2, if_pos d2, if_neg h3, if_pos d3, n1, Option.bind_some, cp, Option.bind_some, Option.bind_some, Option.bind_some, l6, Option.bind_some, if_neg h0, w6, Option.bind_some, l3, Option.bind_some, if_neg h2, v3, w3, Option.bind_some, l0, Option.bind_some, if_neg h3, v0, w0, Option.bind_some]
    refine (congrArg (fun o => Option.bind o _) r1).trans ?_
    rw [Option.bind_some]
    by_cases hr : r = 0
    · rw [if_pos hr, if_pos hr]
      rfl
    · rw [if_neg hr, if_neg hr]
      unfold F_X4_init
      rw [hp_dyn (show x + 41 ≤ z + 1 by omega), Option.bind_some, dPut (c := 4) (fs := [.null]) (tb := [(4, 0)]) (k := 0) (show x + 41 ≤ z + 1 by omega) _ (up_at _ _ _) rfl (by decide), Option.bind_some, Option.bind_some]
      rfl
  refine ⟨fun hno => ?_, fun ⟨d1, d2, d3, hc⟩ => ?_⟩
  · by_cases d1 : rz m n
    case neg =>
      refine ⟨z, f0, Nat.le_refl _, ?_, fun _ _ => rfl⟩
      unfold F_X4_lessSpan F_X4_lessSpan_58
      unfold rz at d1
      rw [if_neg (Int64.not_le.mpr hn), if_neg h0, if_neg d1]
    by_cases d2 : rz (m * (A + B)) (256 * n)
    case neg =>
      refine ⟨z, f0, Nat.le_refl _, ?_, fun _ _ => rfl⟩
      unfold F_X4_lessSpan F_X4_lessSpan_58
      unfold rz at d1 d2
      rw [if_neg (Int64.not_le.mpr hn), if_neg h0, if_pos d1, if_neg h2, if_neg d2]
    by_cases d3 : rz (m * A * B) (65536 * n)
    case neg =>
      refine ⟨z, f0, Nat.le_refl _, ?_, fun _ _ => rfl⟩
      unfold F_X4_lessSpan F_X4_lessSpan_58
      unfold rz at d1 d2 d3
      rw [if_neg (Int64.not_le.mpr hn), if_neg h0, if_pos d1, if_neg h2, if_pos d2, if_neg h3, if_neg d3]
    refine ⟨z + 1, _, by omega, (big d1 d2 d3).trans (if_pos (r3 (fun hc => hno ⟨d1, d2, d3, hc⟩))), fun c hc => up_ne _ _ (by omega)⟩
  · refine ⟨_, (big d1 d2 d3).trans (if_neg (by rw [r2 hc]; decide)), fun c hc => by rw [up_ne _ _ (by omega), up_ne _ _ (by omega), up_ne _ _ (by omega)], z, by omega, by omega, hz, by omega, up_at _ _ _, by rw [up_ne _ _ (by omega), up_ne _ _ (by omega), up_at]⟩
end LESS

theorem xite {α : Type} {c : Prop} [Decidable c] {n a b : α} (h : a = b) : (if c then n else a) = (if c then n else b) := by rw [h]
/-! the fixed cells: what lies where. iv: the whole numbers of objects (cell, slot), ai, aj, ar: rows of ints, longs, references (cell, place), pp: the polynomial of PARTS -/
def u2 {α : Type} (f : Nat → Nat → α) (c s : Nat) (v : α) : Nat → Nat → α := va_up f c (va_up (f c) s v)
def fx (x : Nat) (iv ai : Nat → Nat → Int32) (aj : Nat → Nat → Int64) (ar : Nat → Nat → Option Nat) (pp : Nat → Option Nat) (k : Nat) : xE := match k with
  | 0 => .inr (.inr (.inr (9, [.ref (x + 1), .ref (x + 2), .ref (x + 3), .ref (x + 4), .ref (x + 5), .ref (x + 9), .int (iv 0 6), .int (iv 0 7), .int (iv 0 8), .int (iv 0 9)])))
  | 1 => .inr (.inr (.inl (2, 4, ar 1)))
  | 2 => .inr (.inr (.inl (3, 30, ar 2)))
  | 3 => .inl (120, ai 3)
  | 4 => .inr (.inr (.inl (4, 40, ar 4)))
  | 5 => .inr (.inr (.inr (2, [.ref (x + 6), .ref (x + 7), .ref (x + 8), va_rf (pp 5), .int (iv 5 4), .int (iv 5 5), .int (iv 5 6), .int (iv 5 7), .int (iv 5 8), .int (iv 5 9), .int (iv 5 10)])))
  | 6 => .inl (160, ai 6)
  | 7 => .inl (40, ai 7)
  | 8 => .inr (.inl (9, aj 8))
  | 9 => .inr (.inr (.inr (1, [.ref (x + 10), .ref (x + 11), .ref (x + 13), .ref (x + 15), .int (iv 9 4)])))
  | 10 => .inr (.inl (9, aj 10))
  | 11 => .inr (.inr (.inr (8, [.ref (x + 12)])))
  | 12 => .inl (12, ai 12)
  | 13 => .inr (.inr (.inr (8, [.ref (x + 14)])))
  | 14 => .inl (12, ai 14)
  | 15 => .inr (.inr (.inr (2, [.ref (x + 16), .ref (x + 17), .ref (x + 18), va_rf (pp 15), .int (iv 15 4), .int (iv 15 5), .int (iv 15 6), .int (iv 15 7), .int (iv 15 8), .int (iv 15 9), .int (iv 15 10)])))
  | 16 => .inl (160, ai 16)
  | 17 => .inl (40, ai 17)
  | 18 => .inr (.inl (9, aj 18))
  | 19 => .inr (.inr (.inr (10, [.int (iv 19 0), .int (iv 19 1), .ref (x + 20), .ref (x + 21), .ref (x + 22), .int (iv 19 5), .ref (x + 23), .ref (x + 24), .int (iv 19 8), .ref (x + 25), .int (iv 19 10), .int (iv 19 11), .int (iv 19 12), .ref (x + 26), .ref (x + 27), .int (iv 19 15), .int (iv 19 16), .ref (x + 28), .int (iv 19 18), .ref (x + 29), .int (iv 19 20), .ref (x + 30), .ref (x + 31), .ref (x + 32), .ref (x + 33), .ref (x + 34), .ref (x + 35), .ref (x + 36), .ref (x + 37), .ref (x + 38), .ref (x + 39), .ref (x + 40)])))
  | 20 => .inl (4, ai 20)
  | 21 => .inl (4, ai 21)
  | 22 => .inr (.inl (120, aj 22))
  | 23 => .inr (.inl (270, aj 23))
  | 24 => .inr (.inl (25, aj 24))
  | 25 => .inl (120, ai 25)
  | 26 => .inl (164, ai 26)
  | 27 => .inl (41, ai 27)
  | 28 => .inr (.inl (9, aj 28))
  | 29 => .inr (.inl (20, aj 29))
  | 30 => .inl (40, ai 30)
  | 31 => .inl (40, ai 31)
  | 32 => .inl (40, ai 32)
  | 33 => .inl (40, ai 33)
  | 34 => .inr (.inl (6400, aj 34))
  | 35 => .inr (.inl (24, aj 35))
  | 36 => .inr (.inl (24, aj 36))
  | 37 => .inr (.inl (24, aj 37))
  | 38 => .inr (.inl (24, aj 38))
  | 39 => .inl (164, ai 39)
  | _ => .inl (41, ai 40)
def hp (x : Nat) (iv ai : Nat → Nat → Int32) (aj : Nat → Nat → Int64) (ar : Nat → Nat → Option Nat) (pp : Nat → Option Nat) (f0 : xHp) : xHp := fun a => if x ≤ a ∧ a < x + 41 then some (fx x iv ai aj ar pp (a - x)) else f0 a
section HP
variable {x : Nat} {iv ai iv' ai' : Nat → Nat → Int32} {aj aj' : Nat → Nat → Int64} {ar ar' : Nat → Nat → Option Nat} {pp pp' : Nat → Option Nat} {f0 : xHp}
theorem hp_in (k : Nat) (hk : k < 41) : hp x iv ai aj ar pp f0 (x + k) = some (fx x iv ai aj ar pp k) := by
  unfold hp
  rw [if_pos ⟨Nat.le_add_right x k, Nat.add_lt_add_left hk x⟩, Nat.add_sub_cancel_left]
theorem hp_in0 : hp x iv ai aj ar pp f0 x = some (fx x iv ai aj ar pp 0) := hp_in 0 (by decide)
theorem hp_out {a : Nat} (h : x + 41 ≤ a) : hp x iv ai aj ar pp f0 a = f0 a := by
  unfold hp
  rw [if_neg (by omega)]
theorem hp_setG {k0 : Nat} (hk0 : k0 < 41) {e : xE} (h : ∀ k, k < 41 → fx x iv' ai' aj' ar' pp' k = if k = k0 then e else fx x iv ai aj ar pp k) : va_up (hp x iv ai aj ar pp f0) (x + k0) (some e) = hp x iv' ai' aj' ar' pp' f0 := by
  funext a
  unfold va_up hp
  by_cases ha : x ≤ a ∧ a < x + 41
  · rw [if_pos ha, if_pos ha, h (a - x) (by omega)]
    by_cases hk : a = x + k0
    · rw [if_pos hk, if_pos (by omega)]
    · rw [if_neg hk, if_neg (by omega)]
  · rw [if_neg ha, if_neg ha, if_neg (by omega)]
theorem hp_dyn {a : Nat} (h : x + 41 ≤ a) (e : Option xE) : va_up (hp x iv ai aj ar pp f0) a e = hp x iv ai aj ar pp (va_up f0 a e) := by
  funext b
  unfold va_up hp
  by_cases hb : x ≤ b ∧ b < x + 41
  · rw [if_pos hb, if_pos hb, if_neg (by omega)]
  · rw [if_neg hb, if_neg hb]
/-- a statement of every fixed cell, by its place -/
theorem co41 {P : Nat → Prop} (h0 : P 0) (h1 : P 1) (h2 : P 2) (h3 : P 3) (h4 : P 4) (h5 : P 5) (h6 : P 6) (h7 : P 7) (h8 : P 8) (h9 : P 9) (h10 : P 10) (h11 : P 11) (h12 : P 12) (h13 : P 13) (h14 : P 14) (h15 : P 15) (h16 : P 16) (h17 : P 17) (h18 : P 18) (h19 : P 19) (h20 : P 20) (h21 : P 21) (h22 : P 22) (h23 : P 23) (h24 : P 24) (h25 : P 25) (h26 : P 26) (h27 : P 27) (h28 : P 28) (h29 : P 29) (h30 : P 30) (h31 : P 31) (h32 : P 32) (h33 : P 33) (h34 : P 34) (h35 : P 35) (h36 : P 36) (h37 : P 37) (h38 : P 38) (h39 : P 39) (h40 : P 40) {k : Nat} (hk : k < 41) : P k := by
  match k, hk with
  | 0, _ => exact h0
  | 1, _ => exact h1
  | 2, _ => exact h2
  | 3, _ => exact h3
  | 4, _ => exact h4
  | 5, _ => exact h5
  | 6, _ => exact h6
  | 7, _ => exact h7
  | 8, _ => exact h8
  | 9, _ => exact h9
  | 10, _ => exact h10
  | 11, _ => exact h11
  | 12, _ => exact h12
  | 13, _ => exact h13
  | 14, _ => exact h14
  | 15, _ => exact h15
  | 16, _ => exact h16
  | 17, _ => exact h17
  | 18, _ => exact h18
  | 19, _ => exact h19
  | 20, _ => exact h20
  | 21, _ => exact h21
  | 22, _ => exact h22
  | 23, _ => exact h23
  | 24, _ => exact h24
  | 25, _ => exact h25
  | 26, _ => exact h26
  | 27, _ => exact h27
  | 28, _ => exact h28
  | 29, _ => exact h29
  | 30, _ => exact h30
  | 31, _ => exact h31
  | 32, _ => exact h32
  | 33, _ => exact h33
  | 34, _ => exact h34
  | 35, _ => exact h35
  | 36, _ => exact h36
  | 37, _ => exact h37
  | 38, _ => exact h38
  | 39, _ => exact h39
  | 40, _ => exact h40
  | k + 41, hk => exact absurd hk (by omega)
theorem hp_set {k0 : Nat} (hk0 : k0 < 41) {e : xE} (h0 : fx x iv' ai' aj' ar' pp' 0 = if 0 = k0 then e else fx x iv ai aj ar pp 0) (h1 : fx x iv' ai' aj' ar' pp' 1 = if 1 = k0 then e else fx x iv ai aj ar pp 1) (h2 : fx x iv' ai' aj' ar' pp' 2 = if 2 = k0 then e else fx x iv ai aj ar pp 2) (h3 : fx x iv' ai' aj' ar' pp' 3 = if 3 = k0 then e else fx x iv ai aj ar pp 3) (h4 : fx x iv' ai' aj' ar' pp' 4 = if 4 = k0 then e else fx x iv ai aj ar pp 4) (h5 : fx x iv' ai' aj' ar' pp' 5 = if 5 = k0 then e else fx x iv ai aj ar pp 5) (h6 : fx x iv' ai' aj' ar' pp' 6 = if 6 = k0 then e else fx x iv ai aj ar pp 6) (h7 : fx x iv' ai' aj' ar' pp' 7 = if 7 = k0 then e else fx x iv ai aj ar pp 7) (h8 : fx x iv' ai' aj' ar' pp' 8 = if 8 = k0 then e else fx x iv ai aj ar pp 8) (h9 : fx x iv' ai' aj' ar' pp' 9 = if 9 = k0 then e else fx x iv ai aj ar pp 9) (h10 : fx x iv' ai' aj' ar' pp' 10 = if 10 = k0 then e else fx x iv ai aj ar pp 10) (h11 : fx x iv' ai' aj' ar' pp' 11 = if 11 = k0 then e else fx x iv ai aj ar pp 11) (h12 : fx x iv' ai' aj' ar' pp' 12 = if 12 = k0 then e else fx x iv ai aj ar pp 12) (h13 : fx x iv' ai' aj' ar' pp' 13 = if 13 = k0 then e else fx x iv ai aj ar pp 13) (h14 : fx x iv' ai' aj' ar' pp' 14 = if 14 = k0 then e else fx x iv ai aj ar pp 14) (h15 : fx x iv' ai' aj' ar' pp' 15 = if 15 = k0 then e else fx x iv ai aj ar pp 15) (h16 : fx x iv' ai' aj' ar' pp' 16 = if 16 = k0 then e else fx x iv ai aj ar pp 16) (h17 : fx x iv' ai' aj' ar' pp' 17 = if 17 = k0 then e else fx x iv ai aj ar pp 17) (h18 : fx x iv' ai' aj' ar' pp' 18 = if 18 = k0 then e else fx x iv ai aj ar pp 18) (h19 : fx x iv' ai' aj' ar' pp' 19 = if 19 = k0 then e else fx x iv ai aj ar pp 19) (h20 : fx x iv' ai' aj' ar' pp' 20 = if 20 = k0 then e else fx x iv ai aj ar pp 20) (h21 : fx x iv' ai' aj' ar' pp' 21 = if 21 = k0 then e else fx x iv ai aj ar pp 21) (h22 : fx x iv' ai' aj' ar' pp' 22 = if 22 = k0 then e else fx x iv ai aj ar pp 22) (h23 : fx x iv' ai' aj' ar' pp' 23 = if 23 = k0 then e else fx x iv ai aj ar pp 23) (h24 : fx x iv' ai' aj' ar' pp' 24 = if 24 = k0 then e else fx x iv ai aj ar pp 24) (h25 : fx x iv' ai' aj' ar' pp' 25 = if 25 = k0 then e else fx x iv ai aj ar pp 25) (h26 : fx x iv' ai' aj' ar' pp' 26 = if 26 = k0 then e else fx x iv ai aj ar pp 26) (h27 : fx x iv' ai' aj' ar' pp' 27 = if 27 = k0 then e else fx x iv ai aj ar pp 27) (h28 : fx x iv' ai' aj' ar' pp' 28 = if 28 = k0 then e else fx x iv ai aj ar pp 28) (h29 : fx x iv' ai' aj' ar' pp' 29 = if 29 = k0 then e else fx x iv ai aj ar pp 29) (h30 : fx x iv' ai' aj' ar' pp' 30 = if 30 = k0 then e else fx x iv ai aj ar pp 30) (h31 : fx x iv' ai' aj' ar' pp' 31 = if 31 = k0 then e else fx x iv ai aj ar pp 31) (h32 : fx x iv' ai' aj' ar' pp' 32 = if 32 = k0 then e else fx x iv ai aj ar pp 32) (h33 : fx x iv' ai' aj' ar' pp' 33 = if 33 = k0 then e else fx x iv ai aj ar pp 33) (h34 : fx x iv' ai' aj' ar' pp' 34 = if 34 = k0 then e else fx x iv ai aj ar pp 34) (h35 : fx x iv' ai' aj' ar' pp' 35 = if 35 = k0 then e else fx x iv ai aj ar pp 35) (h36 : fx x iv' ai' aj' ar' pp' 36 = if 36 = k0 then e else fx x iv ai aj ar pp 36) (h37 : fx x iv' ai' aj' ar' pp' 37 = if 37 = k0 then e else fx x iv ai aj ar pp 37) (h38 : fx x iv' ai' aj' ar' pp' 38 = if 38 = k0 then e else fx x iv ai aj ar pp 38) (h39 : fx x iv' ai' aj' ar' pp' 39 = if 39 = k0 then e else fx x iv ai aj ar pp 39) (h40 : fx x iv' ai' aj' ar' pp' 40 = if 40 = k0 then e else fx x iv ai aj ar pp 40) : va_up (hp x iv ai aj ar pp f0) (x + k0) (some e) = hp x iv' ai' aj' ar' pp' f0 := hp_setG hk0 (fun k hk => co41 (P := fun k => fx x iv' ai' aj' ar' pp' k = if k = k0 then e else fx x iv ai aj ar pp k) h0 h1 h2 h3 h4 h5 h6 h7 h8 h9 h10 h11 h12 h13 h14 h15 h16 h17 h18 h19 h20 h21 h22 h23 h24 h25 h26 h27 h28 h29 h30 h31 h32 h33 h34 h35 h36 h37 h38 h39 h40 hk)
theorem hp_set0 {e : xE} (h0 : fx x iv' ai' aj' ar' pp' 0 = if 0 = 0 then e else fx x iv ai aj ar pp 0) (h1 : fx x iv' ai' aj' ar' pp' 1 = if 1 = 0 then e else fx x iv ai aj ar pp 1) (h2 : fx x iv' ai' aj' ar' pp' 2 = if 2 = 0 then e else fx x iv ai aj ar pp 2) (h3 : fx x iv' ai' aj' ar' pp' 3 = if 3 = 0 then e else fx x iv ai aj ar pp 3) (h4 : fx x iv' ai' aj' ar' pp' 4 = if 4 = 0 then e else fx x iv ai aj ar pp 4) (h5 : fx x iv' ai' aj' ar' pp' 5 = if 5 = 0 then e else fx x iv ai aj ar pp 5) (h6 : fx x iv' ai' aj' ar' pp' 6 = if 6 = 0 then e else fx x iv ai aj ar pp 6) (h7 : fx x iv' ai' aj' ar' pp' 7 = if 7 = 0 then e else fx x iv ai aj ar pp 7) (h8 : fx x iv' ai' aj' ar' pp' 8 = if 8 = 0 then e else fx x iv ai aj ar pp 8) (h9 : fx x iv' ai' aj' ar' pp' 9 = if 9 = 0 then e else fx x iv ai aj ar pp 9) (h10 : fx x iv' ai' aj' ar' pp' 10 = if 10 = 0 then e else fx x iv ai aj ar pp 10) (h11 : fx x iv' ai' aj' ar' pp' 11 = if 11 = 0 then e else fx x iv ai aj ar pp 11) (h12 : fx x iv' ai' aj' ar' pp' 12 = if 12 = 0 then e else fx x iv ai aj ar pp 12) (h13 : fx x iv' ai' aj' ar' pp' 13 = if 13 = 0 then e else fx x iv ai aj ar pp 13) (h14 : fx x iv' ai' aj' ar' pp' 14 = if 14 = 0 then e else fx x iv ai aj ar pp 14) (h15 : fx x iv' ai' aj' ar' pp' 15 = if 15 = 0 then e else fx x iv ai aj ar pp 15) (h16 : fx x iv' ai' aj' ar' pp' 16 = if 16 = 0 then e else fx x iv ai aj ar pp 16) (h17 : fx x iv' ai' aj' ar' pp' 17 = if 17 = 0 then e else fx x iv ai aj ar pp 17) (h18 : fx x iv' ai' aj' ar' pp' 18 = if 18 = 0 then e else fx x iv ai aj ar pp 18) (h19 : fx x iv' ai' aj' ar' pp' 19 = if 19 = 0 then e else fx x iv ai aj ar pp 19) (h20 : fx x iv' ai' aj' ar' pp' 20 = if 20 = 0 then e else fx x iv ai aj ar pp 20) (h21 : fx x iv' ai' aj' ar' pp' 21 = if 21 = 0 then e else fx x iv ai aj ar pp 21) (h22 : fx x iv' ai' aj' ar' pp' 22 = if 22 = 0 then e else fx x iv ai aj ar pp 22) (h23 : fx x iv' ai' aj' ar' pp' 23 = if 23 = 0 then e else fx x iv ai aj ar pp 23) (h24 : fx x iv' ai' aj' ar' pp' 24 = if 24 = 0 then e else fx x iv ai aj ar pp 24) (h25 : fx x iv' ai' aj' ar' pp' 25 = if 25 = 0 then e else fx x iv ai aj ar pp 25) (h26 : fx x iv' ai' aj' ar' pp' 26 = if 26 = 0 then e else fx x iv ai aj ar pp 26) (h27 : fx x iv' ai' aj' ar' pp' 27 = if 27 = 0 then e else fx x iv ai aj ar pp 27) (h28 : fx x iv' ai' aj' ar' pp' 28 = if 28 = 0 then e else fx x iv ai aj ar pp 28) (h29 : fx x iv' ai' aj' ar' pp' 29 = if 29 = 0 then e else fx x iv ai aj ar pp 29) (h30 : fx x iv' ai' aj' ar' pp' 30 = if 30 = 0 then e else fx x iv ai aj ar pp 30) (h31 : fx x iv' ai' aj' ar' pp' 31 = if 31 = 0 then e else fx x iv ai aj ar pp 31) (h32 : fx x iv' ai' aj' ar' pp' 32 = if 32 = 0 then e else fx x iv ai aj ar pp 32) (h33 : fx x iv' ai' aj' ar' pp' 33 = if 33 = 0 then e else fx x iv ai aj ar pp 33) (h34 : fx x iv' ai' aj' ar' pp' 34 = if 34 = 0 then e else fx x iv ai aj ar pp 34) (h35 : fx x iv' ai' aj' ar' pp' 35 = if 35 = 0 then e else fx x iv ai aj ar pp 35) (h36 : fx x iv' ai' aj' ar' pp' 36 = if 36 = 0 then e else fx x iv ai aj ar pp 36) (h37 : fx x iv' ai' aj' ar' pp' 37 = if 37 = 0 then e else fx x iv ai aj ar pp 37) (h38 : fx x iv' ai' aj' ar' pp' 38 = if 38 = 0 then e else fx x iv ai aj ar pp 38) (h39 : fx x iv' ai' aj' ar' pp' 39 = if 39 = 0 then e else fx x iv ai aj ar pp 39) (h40 : fx x iv' ai' aj' ar' pp' 40 = if 40 = 0 then e else fx x iv ai aj ar pp 40) : va_up (hp x iv ai aj ar pp f0) x (some e) = hp x iv' ai' aj' ar' pp' f0 := hp_set (k0 := 0) (by decide) h0 h1 h2 h3 h4 h5 h6 h7 h8 h9 h10 h11 h12 h13 h14 h15 h16 h17 h18 h19 h20 h21 h22 h23 h24 h25 h26 h27 h28 h29 h30 h31 h32 h33 h34 h35 h36 h37 h38 h39 h40
theorem rk_0 : hKd (hp x iv ai aj ar pp f0) x = some 9 := by unfold hKd; rw [hp_in0]; rfl
theorem rn_0_0 : hN (hp x iv ai aj ar pp f0) x [(9, 0)] = some (x + 1) := by unfold hN hV; rw [hp_in0]; rfl
theorem rn_0_1 : hN (hp x iv ai aj ar pp f0) x [(9, 1)] = some (x + 2) := by unfold hN hV; rw [hp_in0]; rfl
theorem rn_0_2 : hN (hp x iv ai aj ar pp f0) x [(9, 2)] = some (x + 3) := by unfold hN hV; rw [hp_in0]; rfl
theorem rn_0_3 : hN (hp x iv ai aj ar pp f0) x [(9, 3)] = some (x + 4) := by unfold hN hV; rw [hp_in0]; rfl
theorem rn_0_4 : hN (hp x iv ai aj ar pp f0) x [(9, 4)] = some (x + 5) := by unfold hN hV; rw [hp_in0]; rfl
theorem rn_0_5 : hN (hp x iv ai aj ar pp f0) x [(9, 5)] = some (x + 9) := by unfold hN hV; rw [hp_in0]; rfl
theorem ri_0_6 : hI (hp x iv ai aj ar pp f0) x [(9, 6)] = some (iv 0 6) := by unfold hI hV; rw [hp_in0]; rfl
theorem wi_0_6 (v : Int32) : hPut (hp x iv ai aj ar pp f0) x [(9, 6)] (.int v) = some (hp x (u2 iv 0 6 v) ai aj ar pp f0) := by
  unfold hPut; rw [hp_in0]; refine congrArg some (hp_set0 ?_ ?_ ?_ ?_ ?_ ?_ ?_ ?_ ?_ ?_ ?_ ?_ ?_ ?_ ?_ ?_ ?_ ?_ ?_ ?_ ?_ ?_ ?_ ?_ ?_ ?_ ?_ ?_ ?_ ?_ ?_ ?_ ?_ ?_ ?_ ?_ ?_ ?_ ?_ ?_ ?_) <;> rfl
theorem ri_0_7 : hI (hp x iv ai aj ar pp f0) x [(9, 7)] = some (iv 0 7) := by unfold hI hV; rw [hp_in0]; rfl
theorem wi_0_7 (v : Int32) : hPut (hp x iv ai aj ar pp f0) x [(9, 7)] (.int v) = some (hp x (u2 iv 0 7 v) ai aj ar pp f0) := by
  unfold hPut; rw [hp_in0]; refine congrArg some (hp_set0 ?_ ?_ ?_ ?_ ?_ ?_ ?_ ?_ ?_ ?_ ?_ ?_ ?_ ?_ ?_ ?_ ?_ ?_ ?_ ?_ ?_ ?_ ?_ ?_ ?_ ?_ ?_ ?_ ?_ ?_ ?_ ?_ ?_ ?_ ?_ ?_ ?_ ?_ ?_ ?_ ?_) <;> rfl
theorem ri_0_8 : hI (hp x iv ai aj ar pp f0) x [(9, 8)] = some (iv 0 8) := by unfold hI hV; rw [hp_in0]; rfl
theorem wi_0_8 (v : Int32) : hPut (hp x iv ai aj ar pp f0) x [(9, 8)] (.int v) = some (hp x (u2 iv 0 8 v) ai aj ar pp f0) := by
  unfold hPut; rw [hp_in0]; refine congrArg some (hp_set0 ?_ ?_ ?_ ?_ ?_ ?_ ?_ ?_ ?_ ?_ ?_ ?_ ?_ ?_ ?_ ?_ ?_ ?_ ?_ ?_ ?_ ?_ ?_ ?_ ?_ ?_ ?_ ?_ ?_ ?_ ?_ ?_ ?_ ?_ ?_ ?_ ?_ ?_ ?_ ?_ ?_) <;> rfl
theorem ri_0_9 : hI (hp x iv ai aj ar pp f0) x [(9, 9)] = some (iv 0 9) := by unfold hI hV; rw [hp_in0]; rfl
theorem wi_0_9 (v : Int32) : hPut (hp x iv ai aj ar pp f0) x [(9, 9)] (.int v) = some (hp x (u2 iv 0 9 v) ai aj ar pp f0) := by
  unfold hPut; rw [hp_in0]; refine congrArg some (hp_set0 ?_ ?_ ?_ ?_ ?_ ?_ ?_ ?_ ?_ ?_ ?_ ?_ ?_ ?_ ?_ ?_ ?_ ?_ ?_ ?_ ?_ ?_ ?_ ?_ ?_ ?_ ?_ ?_ ?_ ?_ ?_ ?_ ?_ ?_ ?_ ?_ ?_ ?_ ?_ ?_ ?_) <;> rfl
theorem rk_5 : hKd (hp x iv ai aj ar pp f0) (x + 5) = some 2 := by unfold hKd; rw [hp_in 5 (by decide)]; rfl
theorem rn_5_0 : hN (hp x iv ai aj ar pp f0) (x + 5) [(2, 0)] = some (x + 6) := by unfold hN hV; rw [hp_in 5 (by decide)]; rfl
theorem rn_5_1 : hN (hp x iv ai aj ar pp f0) (x + 5) [(2, 1)] = some (x + 7) := by unfold hN hV; rw [hp_in 5 (by decide)]; rfl
theorem rn_5_2 : hN (hp x iv ai aj ar pp f0) (x + 5) [(2, 2)] = some (x + 8) := by unfold hN hV; rw [hp_in 5 (by decide)]; rfl
theorem ro_5_3 : hR (hp x iv ai aj ar pp f0) (x + 5) [(2, 3)] = some (pp 5) := by
  have h : hV (hp x iv ai aj ar pp f0) (x + 5) [(2, 3)] = some (va_rf (pp 5)) := by unfold hV; rw [hp_in 5 (by decide)]; rfl
  unfold hR; rw [h]; cases pp 5 <;> rfl
theorem wo_5_3 (v : Nat) : hPut (hp x iv ai aj ar pp f0) (x + 5) [(2, 3)] (.ref v) = some (hp x iv ai aj ar (va_up pp 5 (some v)) f0) := by
  unfold hPut; rw [hp_in 5 (by decide)]; refine congrArg some (hp_set (k0 := 5) (by decide) ?_ ?_ ?_ ?_ ?_ ?_ ?_ ?_ ?_ ?_ ?_ ?_ ?_ ?_ ?_ ?_ ?_ ?_ ?_ ?_ ?_ ?_ ?_ ?_ ?_ ?_ ?_ ?_ ?_ ?_ ?_ ?_ ?_ ?_ ?_ ?_ ?_ ?_ ?_ ?_ ?_) <;> rfl
theorem ri_5_4 : hI (hp x iv ai aj ar pp f0) (x + 5) [(2, 4)] = some (iv 5 4) := by unfold hI hV; rw [hp_in 5 (by decide)]; rfl
theorem wi_5_4 (v : Int32) : hPut (hp x iv ai aj ar pp f0) (x + 5) [(2, 4)] (.int v) = some (hp x (u2 iv 5 4 v) ai aj ar pp f0) := by
  unfold hPut; rw [hp_in 5 (by decide)]; refine congrArg some (hp_set (k0 := 5) (by decide) ?_ ?_ ?_ ?_ ?_ ?_ ?_ ?_ ?_ ?_ ?_ ?_ ?_ ?_ ?_ ?_ ?_ ?_ ?_ ?_ ?_ ?_ ?_ ?_ ?_ ?_ ?_ ?_ ?_ ?_ ?_ ?_ ?_ ?_ ?_ ?_ ?_ ?_ ?_ ?_ ?_) <;> rfl
theorem ri_5_5 : hI (hp x iv ai aj ar pp f0) (x + 5) [(2, 5)] = some (iv 5 5) := by unfold hI hV; rw [hp_in 5 (by decide)]; rfl
theorem wi_5_5 (v : Int32) : hPut (hp x iv ai aj ar pp f0) (x + 5) [(2, 5)] (.int v) = some (hp x (u2 iv 5 5 v) ai aj ar pp f0) := by
  unfold hPut; rw [hp_in 5 (by decide)]; refine congrArg some (hp_set (k0 := 5) (by decide) ?_ ?_ ?_ ?_ ?_ ?_ ?_ ?_ ?_ ?_ ?_ ?_ ?_ ?_ ?_ ?_ ?_ ?_ ?_ ?_ ?_ ?_ ?_ ?_ ?_ ?_ ?_ ?_ ?_ ?_ ?_ ?_ ?_ ?_ ?_ ?_ ?_ ?_ ?_ ?_ ?_) <;> rfl
theorem ri_5_6 : hI (hp x iv ai aj ar pp f0) (x + 5) [(2, 6)] = some (iv 5 6) := by unfold hI hV; rw [hp_in 5 (by decide)]; rfl
theorem wi_5_6 (v : Int32) : hPut (hp x iv ai aj ar pp f0) (x + 5) [(2, 6)] (.int v) = some (hp x (u2 iv 5 6 v) ai aj ar pp f0) := by
  unfold hPut; rw [hp_in 5 (by decide)]; refine congrArg some (hp_set (k0 := 5) (by decide) ?_ ?_ ?_ ?_ ?_ ?_ ?_ ?_ ?_ ?_ ?_ ?_ ?_ ?_ ?_ ?_ ?_ ?_ ?_ ?_ ?_ ?_ ?_ ?_ ?_ ?_ ?_ ?_ ?_ ?_ ?_ ?_ ?_ ?_ ?_ ?_ ?_ ?_ ?_ ?_ ?_) <;> rfl
theorem ri_5_7 : hI (hp x iv ai aj ar pp f0) (x + 5) [(2, 7)] = some (iv 5 7) := by unfold hI hV; rw [hp_in 5 (by decide)]; rfl
theorem wi_5_7 (v : Int32) : hPut (hp x iv ai aj ar pp f0) (x + 5) [(2, 7)] (.int v) = some (hp x (u2 iv 5 7 v) ai aj ar pp f0) := by
  unfold hPut; rw [hp_in 5 (by decide)]; refine congrArg some (hp_set (k0 := 5) (by decide) ?_ ?_ ?_ ?_ ?_ ?_ ?_ ?_ ?_ ?_ ?_ ?_ ?_ ?_ ?_ ?_ ?_ ?_ ?_ ?_ ?_ ?_ ?_ ?_ ?_ ?_ ?_ ?_ ?_ ?_ ?_ ?_ ?_ ?_ ?_ ?_ ?_ ?_ ?_ ?_ ?_) <;> rfl
theorem ri_5_8 : hI (hp x iv ai aj ar pp f0) (x + 5) [(2, 8)] = some (iv 5 8) := by unfold hI hV; rw [hp_in 5 (by decide)]; rfl
theorem wi_5_8 (v : Int32) : hPut (hp x iv ai aj ar pp f0) (x + 5) [(2, 8)] (.int v) = some (hp x (u2 iv 5 8 v) ai aj ar pp f0) := by
  unfold hPut; rw [hp_in 5 (by decide)]; refine congrArg some (hp_set (k0 := 5) (by decide) ?_ ?_ ?_ ?_ ?_ ?_ ?_ ?_ ?_ ?_ ?_ ?_ ?_ ?_ ?_ ?_ ?_ ?_ ?_ ?_ ?_ ?_ ?_ ?_ ?_ ?_ ?_ ?_ ?_ ?_ ?_ ?_ ?_ ?_ ?_ ?_ ?_ ?_ ?_ ?_ ?_) <;> rfl
theorem ri_5_9 : hI (hp x iv ai aj ar pp f0) (x + 5) [(2, 9)] = some (iv 5 9) := by unfold hI hV; rw [hp_in 5 (by decide)]; rfl
theorem wi_5_9 (v : Int32) : hPut (hp x iv ai aj ar pp f0) (x + 5) [(2, 9)] (.int v) = some (hp x (u2 iv 5 9 v) ai aj ar pp f0) := by
  unfold hPut; rw [hp_in 5 (by decide)]; refine congrArg some (hp_set (k0 := 5) (by decide) ?_ ?_ ?_ ?_ ?_ ?_ ?_ ?_ ?_ ?_ ?_ ?_ ?_ ?_ ?_ ?_ ?_ ?_ ?_ ?_ ?_ ?_ ?_ ?_ ?_ ?_ ?_ ?_ ?_ ?_ ?_ ?_ ?_ ?_ ?_ ?_ ?_ ?_ ?_ ?_ ?_) <;> rfl
theorem ri_5_10 : hI (hp x iv ai aj ar pp f0) (x + 5) [(2, 10)] = some (iv 5 10) := by unfold hI hV; rw [hp_in 5 (by decide)]; rfl
theorem wi_5_10 (v : Int32) : hPut (hp x iv ai aj ar pp f0) (x + 5) [(2, 10)] (.int v) = some (hp x (u2 iv 5 10 v) ai aj ar pp f0) := by
  unfold hPut; rw [hp_in 5 (by decide)]; refine congrArg some (hp_set (k0 := 5) (by decide) ?_ ?_ ?_ ?_ ?_ ?_ ?_ ?_ ?_ ?_ ?_ ?_ ?_ ?_ ?_ ?_ ?_ ?_ ?_ ?_ ?_ ?_ ?_ ?_ ?_ ?_ ?_ ?_ ?_ ?_ ?_ ?_ ?_ ?_ ?_ ?_ ?_ ?_ ?_ ?_ ?_) <;> rfl
theorem rk_9 : hKd (hp x iv ai aj ar pp f0) (x + 9) = some 1 := by unfold hKd; rw [hp_in 9 (by decide)]; rfl
theorem rn_9_0 : hN (hp x iv ai aj ar pp f0) (x + 9) [(1, 0)] = some (x + 10) := by unfold hN hV; rw [hp_in 9 (by decide)]; rfl
theorem rn_9_1 : hN (hp x iv ai aj ar pp f0) (x + 9) [(1, 1)] = some (x + 11) := by unfold hN hV; rw [hp_in 9 (by decide)]; rfl
theorem rn_9_2 : hN (hp x iv ai aj ar pp f0) (x + 9) [(1, 2)] = some (x + 13) := by unfold hN hV; rw [hp_in 9 (by decide)]; rfl
theorem rn_9_3 : hN (hp x iv ai aj ar pp f0) (x + 9) [(1, 3)] = some (x + 15) := by unfold hN hV; rw [hp_in 9 (by decide)]; rfl
theorem ri_9_4 : hI (hp x iv ai aj ar pp f0) (x + 9) [(1, 4)] = some (iv 9 4) := by unfold hI hV; rw [hp_in 9 (by decide)]; rfl
theorem wi_9_4 (v : Int32) : hPut (hp x iv ai aj ar pp f0) (x + 9) [(1, 4)] (.int v) = some (hp x (u2 iv 9 4 v) ai aj ar pp f0) := by
  unfold hPut; rw [hp_in 9 (by decide)]; refine congrArg some (hp_set (k0 := 9) (by decide) ?_ ?_ ?_ ?_ ?_ ?_ ?_ ?_ ?_ ?_ ?_ ?_ ?_ ?_ ?_ ?_ ?_ ?_ ?_ ?_ ?_ ?_ ?_ ?_ ?_ ?_ ?_ ?_ ?_ ?_ ?_ ?_ ?_ ?_ ?_ ?_ ?_ ?_ ?_ ?_ ?_) <;> rfl
theorem rk_11 : hKd (hp x iv ai aj ar pp f0) (x + 11) = some 8 := by unfold hKd; rw [hp_in 11 (by decide)]; rfl
theorem rn_11_0 : hN (hp x iv ai aj ar pp f0) (x + 11) [(8, 0)] = some (x + 12) := by unfold hN hV; rw [hp_in 11 (by decide)]; rfl
theorem rk_13 : hKd (hp x iv ai aj ar pp f0) (x + 13) = some 8 := by unfold hKd; rw [hp_in 13 (by decide)]; rfl
theorem rn_13_0 : hN (hp x iv ai aj ar pp f0) (x + 13) [(8, 0)] = some (x + 14) := by unfold hN hV; rw [hp_in 13 (by decide)]; rfl
theorem rk_15 : hKd (hp x iv ai aj ar pp f0) (x + 15) = some 2 := by unfold hKd; rw [hp_in 15 (by decide)]; rfl
theorem rn_15_0 : hN (hp x iv ai aj ar pp f0) (x + 15) [(2, 0)] = some (x + 16) := by unfold hN hV; rw [hp_in 15 (by decide)]; rfl
theorem rn_15_1 : hN (hp x iv ai aj ar pp f0) (x + 15) [(2, 1)] = some (x + 17) := by unfold hN hV; rw [hp_in 15 (by decide)]; rfl
theorem rn_15_2 : hN (hp x iv ai aj ar pp f0) (x + 15) [(2, 2)] = some (x + 18) := by unfold hN hV; rw [hp_in 15 (by decide)]; rfl
theorem ro_15_3 : hR (hp x iv ai aj ar pp f0) (x + 15) [(2, 3)] = some (pp 15) := by
  have h : hV (hp x iv ai aj ar pp f0) (x + 15) [(2, 3)] = some (va_rf (pp 15)) := by unfold hV; rw [hp_in 15 (by decide)]; rfl
  unfold hR; rw [h]; cases pp 15 <;> rfl
theorem wo_15_3 (v : Nat) : hPut (hp x iv ai aj ar pp f0) (x + 15) [(2, 3)] (.ref v) = some (hp x iv ai aj ar (va_up pp 15 (some v)) f0) := by
  unfold hPut; rw [hp_in 15 (by decide)]; refine congrArg some (hp_set (k0 := 15) (by decide) ?_ ?_ ?_ ?_ ?_ ?_ ?_ ?_ ?_ ?_ ?_ ?_ ?_ ?_ ?_ ?_ ?_ ?_ ?_ ?_ ?_ ?_ ?_ ?_ ?_ ?_ ?_ ?_ ?_ ?_ ?_ ?_ ?_ ?_ ?_ ?_ ?_ ?_ ?_ ?_ ?_) <;> rfl
theorem ri_15_4 : hI (hp x iv ai aj ar pp f0) (x + 15) [(2, 4)] = some (iv 15 4) := by unfold hI hV; rw [hp_in 15 (by decide)]; rfl
theorem wi_15_4 (v : Int32) : hPut (hp x iv ai aj ar pp f0) (x + 15) [(2, 4)] (.int v) = some (hp x (u2 iv 15 4 v) ai aj ar pp f0) := by
  unfold hPut; rw [hp_in 15 (by decide)]; refine congrArg some (hp_set (k0 := 15) (by decide) ?_ ?_ ?_ ?_ ?_ ?_ ?_ ?_ ?_ ?_ ?_ ?_ ?_ ?_ ?_ ?_ ?_ ?_ ?_ ?_ ?_ ?_ ?_ ?_ ?_ ?_ ?_ ?_ ?_ ?_ ?_ ?_ ?_ ?_ ?_ ?_ ?_ ?_ ?_ ?_ ?_) <;> rfl
theorem ri_15_5 : hI (hp x iv ai aj ar pp f0) (x + 15) [(2, 5)] = some (iv 15 5) := by unfold hI hV; rw [hp_in 15 (by decide)]; rfl
theorem wi_15_5 (v : Int32) : hPut (hp x iv ai aj ar pp f0) (x + 15) [(2, 5)] (.int v) = some (hp x (u2 iv 15 5 v) ai aj ar pp f0) := by
  unfold hPut; rw [hp_in 15 (by decide)]; refine congrArg some (hp_set (k0 := 15) (by decide) ?_ ?_ ?_ ?_ ?_ ?_ ?_ ?_ ?_ ?_ ?_ ?_ ?_ ?_ ?_ ?_ ?_ ?_ ?_ ?_ ?_ ?_ ?_ ?_ ?_ ?_ ?_ ?_ ?_ ?_ ?_ ?_ ?_ ?_ ?_ ?_ ?_ ?_ ?_ ?_ ?_) <;> rfl
theorem ri_15_6 : hI (hp x iv ai aj ar pp f0) (x + 15) [(2, 6)] = some (iv 15 6) := by unfold hI hV; rw [hp_in 15 (by decide)]; rfl
theorem wi_15_6 (v : Int32) : hPut (hp x iv ai aj ar pp f0) (x + 15) [(2, 6)] (.int v) = some (hp x (u2 iv 15 6 v) ai aj ar pp f0) := by
  unfold hPut; rw [hp_in 15 (by decide)]; refine congrArg some (hp_set (k0 := 15) (by decide) ?_ ?_ ?_ ?_ ?_ ?_ ?_ ?_ ?_ ?_ ?_ ?_ ?_ ?_ ?_ ?_ ?_ ?_ ?_ ?_ ?_ ?_ ?_ ?_ ?_ ?_ ?_ ?_ ?_ ?_ ?_ ?_ ?_ ?_ ?_ ?_ ?_ ?_ ?_ ?_ ?_) <;> rfl
theorem ri_15_7 : hI (hp x iv ai aj ar pp f0) (x + 15) [(2, 7)] = some (iv 15 7) := by unfold hI hV; rw [hp_in 15 (by decide)]; rfl
theorem wi_15_7 (v : Int32) : hPut (hp x iv ai aj ar pp f0) (x + 15) [(2, 7)] (.int v) = some (hp x (u2 iv 15 7 v) ai aj ar pp f0) := by
  unfold hPut; rw [hp_in 15 (by decide)]; refine congrArg some (hp_set (k0 := 15) (by decide) ?_ ?_ ?_ ?_ ?_ ?_ ?_ ?_ ?_ ?_ ?_ ?_ ?_ ?_ ?_ ?_ ?_ ?_ ?_ ?_ ?_ ?_ ?_ ?_ ?_ ?_ ?_ ?_ ?_ ?_ ?_ ?_ ?_ ?_ ?_ ?_ ?_ ?_ ?_ ?_ ?_) <;> rfl
theorem ri_15_8 : hI (hp x iv ai aj ar pp f0) (x + 15) [(2, 8)] = some (iv 15 8) := by unfold hI hV; rw [hp_in 15 (by decide)]; rfl
theorem wi_15_8 (v : Int32) : hPut (hp x iv ai aj ar pp f0) (x + 15) [(2, 8)] (.int v) = some (hp x (u2 iv 15 8 v) ai aj ar pp f0) := by
  unfold hPut; rw [hp_in 15 (by decide)]; refine congrArg some (hp_set (k0 := 15) (by decide) ?_ ?_ ?_ ?_ ?_ ?_ ?_ ?_ ?_ ?_ ?_ ?_ ?_ ?_ ?_ ?_ ?_ ?_ ?_ ?_ ?_ ?_ ?_ ?_ ?_ ?_ ?_ ?_ ?_ ?_ ?_ ?_ ?_ ?_ ?_ ?_ ?_ ?_ ?_ ?_ ?_) <;> rfl
theorem ri_15_9 : hI (hp x iv ai aj ar pp f0) (x + 15) [(2, 9)] = some (iv 15 9) := by unfold hI hV; rw [hp_in 15 (by decide)]; rfl
theorem wi_15_9 (v : Int32) : hPut (hp x iv ai aj ar pp f0) (x + 15) [(2, 9)] (.int v) = some (hp x (u2 iv 15 9 v) ai aj ar pp f0) := by
  unfold hPut; rw [hp_in 15 (by decide)]; refine congrArg some (hp_set (k0 := 15) (by decide) ?_ ?_ ?_ ?_ ?_ ?_ ?_ ?_ ?_ ?_ ?_ ?_ ?_ ?_ ?_ ?_ ?_ ?_ ?_ ?_ ?_ ?_ ?_ ?_ ?_ ?_ ?_ ?_ ?_ ?_ ?_ ?_ ?_ ?_ ?_ ?_ ?_ ?_ ?_ ?_ ?_) <;> rfl
theorem ri_15_10 : hI (hp x iv ai aj ar pp f0) (x + 15) [(2, 10)] = some (iv 15 10) := by unfold hI hV; rw [hp_in 15 (by decide)]; rfl
theorem wi_15_10 (v : Int32) : hPut (hp x iv ai aj ar pp f0) (x + 15) [(2, 10)] (.int v) = some (hp x (u2 iv 15 10 v) ai aj ar pp f0) := by
  unfold hPut; rw [hp_in 15 (by decide)]; refine congrArg some (hp_set (k0 := 15) (by decide) ?_ ?_ ?_ ?_ ?_ ?_ ?_ ?_ ?_ ?_ ?_ ?_ ?_ ?_ ?_ ?_ ?_ ?_ ?_ ?_ ?_ ?_ ?_ ?_ ?_ ?_ ?_ ?_ ?_ ?_ ?_ ?_ ?_ ?_ ?_ ?_ ?_ ?_ ?_ ?_ ?_) <;> rfl
theorem rk_19 : hKd (hp x iv ai aj ar pp f0) (x + 19) = some 10 := by unfold hKd; rw [hp_in 19 (by decide)]; rfl
theorem ri_19_0 : hI (hp x iv ai aj ar pp f0) (x + 19) [(10, 0)] = some (iv 19 0) := by unfold hI hV; rw [hp_in 19 (by decide)]; rfl
theorem wi_19_0 (v : Int32) : hPut (hp x iv ai aj ar pp f0) (x + 19) [(10, 0)] (.int v) = some (hp x (u2 iv 19 0 v) ai aj ar pp f0) := by
  unfold hPut; rw [hp_in 19 (by decide)]; refine congrArg some (hp_set (k0 := 19) (by decide) ?_ ?_ ?_ ?_ ?_ ?_ ?_ ?_ ?_ ?_ ?_ ?_ ?_ ?_ ?_ ?_ ?_ ?_ ?_ ?_ ?_ ?_ ?_ ?_ ?_ ?_ ?_ ?_ ?_ ?_ ?_ ?_ ?_ ?_ ?_ ?_ ?_ ?_ ?_ ?_ ?_) <;> rfl
theorem ri_19_1 : hI (hp x iv ai aj ar pp f0) (x + 19) [(10, 1)] = some (iv 19 1) := by unfold hI hV; rw [hp_in 19 (by decide)]; rfl
theorem wi_19_1 (v : Int32) : hPut (hp x iv ai aj ar pp f0) (x + 19) [(10, 1)] (.int v) = some (hp x (u2 iv 19 1 v) ai aj ar pp f0) := by
  unfold hPut; rw [hp_in 19 (by decide)]; refine congrArg some (hp_set (k0 := 19) (by decide) ?_ ?_ ?_ ?_ ?_ ?_ ?_ ?_ ?_ ?_ ?_ ?_ ?_ ?_ ?_ ?_ ?_ ?_ ?_ ?_ ?_ ?_ ?_ ?_ ?_ ?_ ?_ ?_ ?_ ?_ ?_ ?_ ?_ ?_ ?_ ?_ ?_ ?_ ?_ ?_ ?_) <;> rfl
theorem rn_19_2 : hN (hp x iv ai aj ar pp f0) (x + 19) [(10, 2)] = some (x + 20) := by unfold hN hV; rw [hp_in 19 (by decide)]; rfl
theorem rn_19_3 : hN (hp x iv ai aj ar pp f0) (x + 19) [(10, 3)] = some (x + 21) := by unfold hN hV; rw [hp_in 19 (by decide)]; rfl
theorem rn_19_4 : hN (hp x iv ai aj ar pp f0) (x + 19) [(10, 4)] = some (x + 22) := by unfold hN hV; rw [hp_in 19 (by decide)]; rfl
theorem ri_19_5 : hI (hp x iv ai aj ar pp f0) (x + 19) [(10, 5)] = some (iv 19 5) := by unfold hI hV; rw [hp_in 19 (by decide)]; rfl
theorem wi_19_5 (v : Int32) : hPut (hp x iv ai aj ar pp f0) (x + 19) [(10, 5)] (.int v) = some (hp x (u2 iv 19 5 v) ai aj ar pp f0) := by
  unfold hPut; rw [hp_in 19 (by decide)]; refine congrArg some (hp_set (k0 := 19) (by decide) ?_ ?_ ?_ ?_ ?_ ?_ ?_ ?_ ?_ ?_ ?_ ?_ ?_ ?_ ?_ ?_ ?_ ?_ ?_ ?_ ?_ ?_ ?_ ?_ ?_ ?_ ?_ ?_ ?_ ?_ ?_ ?_ ?_ ?_ ?_ ?_ ?_ ?_ ?_ ?_ ?_) <;> rfl
theorem rn_19_6 : hN (hp x iv ai aj ar pp f0) (x + 19) [(10, 6)] = some (x + 23) := by unfold hN hV; rw [hp_in 19 (by decide)]; rfl
theorem rn_19_7 : hN (hp x iv ai aj ar pp f0) (x + 19) [(10, 7)] = some (x + 24) := by unfold hN hV; rw [hp_in 19 (by decide)]; rfl
theorem ri_19_8 : hI (hp x iv ai aj ar pp f0) (x + 19) [(10, 8)] = some (iv 19 8) := by unfold hI hV; rw [hp_in 19 (by decide)]; rfl
theorem wi_19_8 (v : Int32) : hPut (hp x iv ai aj ar pp f0) (x + 19) [(10, 8)] (.int v) = some (hp x (u2 iv 19 8 v) ai aj ar pp f0) := by
  unfold hPut; rw [hp_in 19 (by decide)]; refine congrArg some (hp_set (k0 := 19) (by decide) ?_ ?_ ?_ ?_ ?_ ?_ ?_ ?_ ?_ ?_ ?_ ?_ ?_ ?_ ?_ ?_ ?_ ?_ ?_ ?_ ?_ ?_ ?_ ?_ ?_ ?_ ?_ ?_ ?_ ?_ ?_ ?_ ?_ ?_ ?_ ?_ ?_ ?_ ?_ ?_ ?_) <;> rfl
theorem rn_19_9 : hN (hp x iv ai aj ar pp f0) (x + 19) [(10, 9)] = some (x + 25) := by unfold hN hV; rw [hp_in 19 (by decide)]; rfl
theorem ri_19_10 : hI (hp x iv ai aj ar pp f0) (x + 19) [(10, 10)] = some (iv 19 10) := by unfold hI hV; rw [hp_in 19 (by decide)]; rfl
theorem wi_19_10 (v : Int32) : hPut (hp x iv ai aj ar pp f0) (x + 19) [(10, 10)] (.int v) = some (hp x (u2 iv 19 10 v) ai aj ar pp f0) := by
  unfold hPut; rw [hp_in 19 (by decide)]; refine congrArg some (hp_set (k0 := 19) (by decide) ?_ ?_ ?_ ?_ ?_ ?_ ?_ ?_ ?_ ?_ ?_ ?_ ?_ ?_ ?_ ?_ ?_ ?_ ?_ ?_ ?_ ?_ ?_ ?_ ?_ ?_ ?_ ?_ ?_ ?_ ?_ ?_ ?_ ?_ ?_ ?_ ?_ ?_ ?_ ?_ ?_) <;> rfl
theorem ri_19_11 : hI (hp x iv ai aj ar pp f0) (x + 19) [(10, 11)] = some (iv 19 11) := by unfold hI hV; rw [hp_in 19 (by decide)]; rfl
theorem wi_19_11 (v : Int32) : hPut (hp x iv ai aj ar pp f0) (x + 19) [(10, 11)] (.int v) = some (hp x (u2 iv 19 11 v) ai aj ar pp f0) := by
  unfold hPut; rw [hp_in 19 (by decide)]; refine congrArg some (hp_set (k0 := 19) (by decide) ?_ ?_ ?_ ?_ ?_ ?_ ?_ ?_ ?_ ?_ ?_ ?_ ?_ ?_ ?_ ?_ ?_ ?_ ?_ ?_ ?_ ?_ ?_ ?_ ?_ ?_ ?_ ?_ ?_ ?_ ?_ ?_ ?_ ?_ ?_ ?_ ?_ ?_ ?_ ?_ ?_) <;> rfl
theorem ri_19_12 : hI (hp x iv ai aj ar pp f0) (x + 19) [(10, 12)] = some (iv 19 12) := by unfold hI hV; rw [hp_in 19 (by decide)]; rfl
theorem wi_19_12 (v : Int32) : hPut (hp x iv ai aj ar pp f0) (x + 19) [(10, 12)] (.int v) = some (hp x (u2 iv 19 12 v) ai aj ar pp f0) := by
  unfold hPut; rw [hp_in 19 (by decide)]; refine congrArg some (hp_set (k0 := 19) (by decide) ?_ ?_ ?_ ?_ ?_ ?_ ?_ ?_ ?_ ?_ ?_ ?_ ?_ ?_ ?_ ?_ ?_ ?_ ?_ ?_ ?_ ?_ ?_ ?_ ?_ ?_ ?_ ?_ ?_ ?_ ?_ ?_ ?_ ?_ ?_ ?_ ?_ ?_ ?_ ?_ ?_) <;> rfl
theorem rn_19_13 : hN (hp x iv ai aj ar pp f0) (x + 19) [(10, 13)] = some (x + 26) := by unfold hN hV; rw [hp_in 19 (by decide)]; rfl
theorem rn_19_14 : hN (hp x iv ai aj ar pp f0) (x + 19) [(10, 14)] = some (x + 27) := by unfold hN hV; rw [hp_in 19 (by decide)]; rfl
theorem ri_19_15 : hI (hp x iv ai aj ar pp f0) (x + 19) [(10, 15)] = some (iv 19 15) := by unfold hI hV; rw [hp_in 19 (by decide)]; rfl
theorem wi_19_15 (v : Int32) : hPut (hp x iv ai aj ar pp f0) (x + 19) [(10, 15)] (.int v) = some (hp x (u2 iv 19 15 v) ai aj ar pp f0) := by
  unfold hPut; rw [hp_in 19 (by decide)]; refine congrArg some (hp_set (k0 := 19) (by decide) ?_ ?_ ?_ ?_ ?_ ?_ ?_ ?_ ?_ ?_ ?_ ?_ ?_ ?_ ?_ ?_ ?_ ?_ ?_ ?_ ?_ ?_ ?_ ?_ ?_ ?_ ?_ ?_ ?_ ?_ ?_ ?_ ?_ ?_ ?_ ?_ ?_ ?_ ?_ ?_ ?_) <;> rfl
theorem ri_19_16 : hI (hp x iv ai aj ar pp f0) (x + 19) [(10, 16)] = some (iv 19 16) := by unfold hI hV; rw [hp_in 19 (by decide)]; rfl
theorem wi_19_16 (v : Int32) : hPut (hp x iv ai aj ar pp f0) (x + 19) [(10, 16)] (.int v) = some (hp x (u2 iv 19 16 v) ai aj ar pp f0) := by
  unfold hPut; rw [hp_in 19 (by decide)]; refine congrArg some (hp_set (k0 := 19) (by decide) ?_ ?_ ?_ ?_ ?_ ?_ ?_ ?_ ?_ ?_ ?_ ?_ ?_ ?_ ?_ ?_ ?_ ?_ ?_ ?_ ?_ ?_ ?_ ?_ ?_ ?_ ?_ ?_ ?_ ?_ ?_ ?_ ?_ ?_ ?_ ?_ ?_ ?_ ?_ ?_ ?_) <;> rfl
theorem rn_19_17 : hN (hp x iv ai aj ar pp f0) (x + 19) [(10, 17)] = some (x + 28) := by unfold hN hV; rw [hp_in 19 (by decide)]; rfl
theorem ri_19_18 : hI (hp x iv ai aj ar pp f0) (x + 19) [(10, 18)] = some (iv 19 18) := by unfold hI hV; rw [hp_in 19 (by decide)]; rfl
theorem wi_19_18 (v : Int32) : hPut (hp x iv ai aj ar pp f0) (x + 19) [(10, 18)] (.int v) = some (hp x (u2 iv 19 18 v) ai aj ar pp f0) := by
  unfold hPut; rw [hp_in 19 (by decide)]; refine congrArg some (hp_set (k0 := 19) (by decide) ?_ ?_ ?_ ?_ ?_ ?_ ?_ ?_ ?_ ?_ ?_ ?_ ?_ ?_ ?_ ?_ ?_ ?_ ?_ ?_ ?_ ?_ ?_ ?_ ?_ ?_ ?_ ?_ ?_ ?_ ?_ ?_ ?_ ?_ ?_ ?_ ?_ ?_ ?_ ?_ ?_) <;> rfl
theorem rn_19_19 : hN (hp x iv ai aj ar pp f0) (x + 19) [(10, 19)] = some (x + 29) := by unfold hN hV; rw [hp_in 19 (by decide)]; rfl
theorem ri_19_20 : hI (hp x iv ai aj ar pp f0) (x + 19) [(10, 20)] = some (iv 19 20) := by unfold hI hV; rw [hp_in 19 (by decide)]; rfl
theorem wi_19_20 (v : Int32) : hPut (hp x iv ai aj ar pp f0) (x + 19) [(10, 20)] (.int v) = some (hp x (u2 iv 19 20 v) ai aj ar pp f0) := by
  unfold hPut; rw [hp_in 19 (by decide)]; refine congrArg some (hp_set (k0 := 19) (by decide) ?_ ?_ ?_ ?_ ?_ ?_ ?_ ?_ ?_ ?_ ?_ ?_ ?_ ?_ ?_ ?_ ?_ ?_ ?_ ?_ ?_ ?_ ?_ ?_ ?_ ?_ ?_ ?_ ?_ ?_ ?_ ?_ ?_ ?_ ?_ ?_ ?_ ?_ ?_ ?_ ?_) <;> rfl
theorem rn_19_21 : hN (hp x iv ai aj ar pp f0) (x + 19) [(10, 21)] = some (x + 30) := by unfold hN hV; rw [hp_in 19 (by decide)]; rfl
theorem rn_19_22 : hN (hp x iv ai aj ar pp f0) (x + 19) [(10, 22)] = some (x + 31) := by unfold hN hV; rw [hp_in 19 (by decide)]; rfl
theorem rn_19_23 : hN (hp x iv ai aj ar pp f0) (x + 19) [(10, 23)] = some (x + 32) := by unfold hN hV; rw [hp_in 19 (by decide)]; rfl
theorem rn_19_24 : hN (hp x iv ai aj ar pp f0) (x + 19) [(10, 24)] = some (x + 33) := by unfold hN hV; rw [hp_in 19 (by decide)]; rfl
theorem rn_19_25 : hN (hp x iv ai aj ar pp f0) (x + 19) [(10, 25)] = some (x + 34) := by unfold hN hV; rw [hp_in 19 (by decide)]; rfl
theorem rn_19_26 : hN (hp x iv ai aj ar pp f0) (x + 19) [(10, 26)] = some (x + 35) := by unfold hN hV; rw [hp_in 19 (by decide)]; rfl
theorem rn_19_27 : hN (hp x iv ai aj ar pp f0) (x + 19) [(10, 27)] = some (x + 36) := by unfold hN hV; rw [hp_in 19 (by decide)]; rfl
theorem rn_19_28 : hN (hp x iv ai aj ar pp f0) (x + 19) [(10, 28)] = some (x + 37) := by unfold hN hV; rw [hp_in 19 (by decide)]; rfl
theorem rn_19_29 : hN (hp x iv ai aj ar pp f0) (x + 19) [(10, 29)] = some (x + 38) := by unfold hN hV; rw [hp_in 19 (by decide)]; rfl
theorem rn_19_30 : hN (hp x iv ai aj ar pp f0) (x + 19) [(10, 30)] = some (x + 39) := by unfold hN hV; rw [hp_in 19 (by decide)]; rfl
theorem rn_19_31 : hN (hp x iv ai aj ar pp f0) (x + 19) [(10, 31)] = some (x + 40) := by unfold hN hV; rw [hp_in 19 (by decide)]; rfl
theorem ra_3 (i : Int32) : hIld (hp x iv ai aj ar pp f0) (x + 3) i = if i < 0 ∨ 120 ≤ i.toNatClampNeg then none else some (ai 3 i.toNatClampNeg) := by unfold hIld; rw [hp_in 3 (by decide)]; rfl
theorem wa_3 (i v : Int32) : hIst (hp x iv ai aj ar pp f0) (x + 3) i v = if i < 0 ∨ 120 ≤ i.toNatClampNeg then none else some (hp x iv (u2 ai 3 i.toNatClampNeg v) aj ar pp f0) := by
  unfold hIst; rw [hp_in 3 (by decide)]
  refine xite (congrArg some (hp_set (k0 := 3) (by decide) ?_ ?_ ?_ ?_ ?_ ?_ ?_ ?_ ?_ ?_ ?_ ?_ ?_ ?_ ?_ ?_ ?_ ?_ ?_ ?_ ?_ ?_ ?_ ?_ ?_ ?_ ?_ ?_ ?_ ?_ ?_ ?_ ?_ ?_ ?_ ?_ ?_ ?_ ?_ ?_ ?_)) <;> rfl
theorem rl_3 : hLen (hp x iv ai aj ar pp f0) (x + 3) = some 120 := by unfold hLen; rw [hp_in 3 (by decide)]; rfl
theorem ra_6 (i : Int32) : hIld (hp x iv ai aj ar pp f0) (x + 6) i = if i < 0 ∨ 160 ≤ i.toNatClampNeg then none else some (ai 6 i.toNatClampNeg) := by unfold hIld; rw [hp_in 6 (by decide)]; rfl
theorem wa_6 (i v : Int32) : hIst (hp x iv ai aj ar pp f0) (x + 6) i v = if i < 0 ∨ 160 ≤ i.toNatClampNeg then none else some (hp x iv (u2 ai 6 i.toNatClampNeg v) aj ar pp f0) := by
  unfold hIst; rw [hp_in 6 (by decide)]
  refine xite (congrArg some (hp_set (k0 := 6) (by decide) ?_ ?_ ?_ ?_ ?_ ?_ ?_ ?_ ?_ ?_ ?_ ?_ ?_ ?_ ?_ ?_ ?_ ?_ ?_ ?_ ?_ ?_ ?_ ?_ ?_ ?_ ?_ ?_ ?_ ?_ ?_ ?_ ?_ ?_ ?_ ?_ ?_ ?_ ?_ ?_ ?_)) <;> rfl
theorem rl_6 : hLen (hp x iv ai aj ar pp f0) (x + 6) = some 160 := by unfold hLen; rw [hp_in 6 (by decide)]; rfl
theorem ra_7 (i : Int32) : hIld (hp x iv ai aj ar pp f0) (x + 7) i = if i < 0 ∨ 40 ≤ i.toNatClampNeg then none else some (ai 7 i.toNatClampNeg) := by unfold hIld; rw [hp_in 7 (by decide)]; rfl
theorem wa_7 (i v : Int32) : hIst (hp x iv ai aj ar pp f0) (x + 7) i v = if i < 0 ∨ 40 ≤ i.toNatClampNeg then none else some (hp x iv (u2 ai 7 i.toNatClampNeg v) aj ar pp f0) := by
  unfold hIst; rw [hp_in 7 (by decide)]
  refine xite (congrArg some (hp_set (k0 := 7) (by decide) ?_ ?_ ?_ ?_ ?_ ?_ ?_ ?_ ?_ ?_ ?_ ?_ ?_ ?_ ?_ ?_ ?_ ?_ ?_ ?_ ?_ ?_ ?_ ?_ ?_ ?_ ?_ ?_ ?_ ?_ ?_ ?_ ?_ ?_ ?_ ?_ ?_ ?_ ?_ ?_ ?_)) <;> rfl
theorem rl_7 : hLen (hp x iv ai aj ar pp f0) (x + 7) = some 40 := by unfold hLen; rw [hp_in 7 (by decide)]; rfl
theorem ra_8 (i : Int32) : hJld (hp x iv ai aj ar pp f0) (x + 8) i = if i < 0 ∨ 9 ≤ i.toNatClampNeg then none else some (aj 8 i.toNatClampNeg) := by unfold hJld; rw [hp_in 8 (by decide)]; rfl
theorem wa_8 (i : Int32) (v : Int64) : hJst (hp x iv ai aj ar pp f0) (x + 8) i v = if i < 0 ∨ 9 ≤ i.toNatClampNeg then none else some (hp x iv ai (u2 aj 8 i.toNatClampNeg v) ar pp f0) := by
  unfold hJst; rw [hp_in 8 (by decide)]
  refine xite (congrArg some (hp_set (k0 := 8) (by decide) ?_ ?_ ?_ ?_ ?_ ?_ ?_ ?_ ?_ ?_ ?_ ?_ ?_ ?_ ?_ ?_ ?_ ?_ ?_ ?_ ?_ ?_ ?_ ?_ ?_ ?_ ?_ ?_ ?_ ?_ ?_ ?_ ?_ ?_ ?_ ?_ ?_ ?_ ?_ ?_ ?_)) <;> rfl
theorem rl_8 : hLen (hp x iv ai aj ar pp f0) (x + 8) = some 9 := by unfold hLen; rw [hp_in 8 (by decide)]; rfl
theorem ra_10 (i : Int32) : hJld (hp x iv ai aj ar pp f0) (x + 10) i = if i < 0 ∨ 9 ≤ i.toNatClampNeg then none else some (aj 10 i.toNatClampNeg) := by unfold hJld; rw [hp_in 10 (by decide)]; rfl
theorem wa_10 (i : Int32) (v : Int64) : hJst (hp x iv ai aj ar pp f0) (x + 10) i v = if i < 0 ∨ 9 ≤ i.toNatClampNeg then none else some (hp x iv ai (u2 aj 10 i.toNatClampNeg v) ar pp f0) := by
  unfold hJst; rw [hp_in 10 (by decide)]
  refine xite (congrArg some (hp_set (k0 := 10) (by decide) ?_ ?_ ?_ ?_ ?_ ?_ ?_ ?_ ?_ ?_ ?_ ?_ ?_ ?_ ?_ ?_ ?_ ?_ ?_ ?_ ?_ ?_ ?_ ?_ ?_ ?_ ?_ ?_ ?_ ?_ ?_ ?_ ?_ ?_ ?_ ?_ ?_ ?_ ?_ ?_ ?_)) <;> rfl
theorem rl_10 : hLen (hp x iv ai aj ar pp f0) (x + 10) = some 9 := by unfold hLen; rw [hp_in 10 (by decide)]; rfl
theorem ra_12 (i : Int32) : hIld (hp x iv ai aj ar pp f0) (x + 12) i = if i < 0 ∨ 12 ≤ i.toNatClampNeg then none else some (ai 12 i.toNatClampNeg) := by unfold hIld; rw [hp_in 12 (by decide)]; rfl
theorem wa_12 (i v : Int32) : hIst (hp x iv ai aj ar pp f0) (x + 12) i v = if i < 0 ∨ 12 ≤ i.toNatClampNeg then none else some (hp x iv (u2 ai 12 i.toNatClampNeg v) aj ar pp f0) := by
  unfold hIst; rw [hp_in 12 (by decide)]
  refine xite (congrArg some (hp_set (k0 := 12) (by decide) ?_ ?_ ?_ ?_ ?_ ?_ ?_ ?_ ?_ ?_ ?_ ?_ ?_ ?_ ?_ ?_ ?_ ?_ ?_ ?_ ?_ ?_ ?_ ?_ ?_ ?_ ?_ ?_ ?_ ?_ ?_ ?_ ?_ ?_ ?_ ?_ ?_ ?_ ?_ ?_ ?_)) <;> rfl
theorem rl_12 : hLen (hp x iv ai aj ar pp f0) (x + 12) = some 12 := by unfold hLen; rw [hp_in 12 (by decide)]; rfl
theorem ra_14 (i : Int32) : hIld (hp x iv ai aj ar pp f0) (x + 14) i = if i < 0 ∨ 12 ≤ i.toNatClampNeg then none else some (ai 14 i.toNatClampNeg) := by unfold hIld; rw [hp_in 14 (by decide)]; rfl
theorem wa_14 (i v : Int32) : hIst (hp x iv ai aj ar pp f0) (x + 14) i v = if i < 0 ∨ 12 ≤ i.toNatClampNeg then none else some (hp x iv (u2 ai 14 i.toNatClampNeg v) aj ar pp f0) := by
  unfold hIst; rw [hp_in 14 (by decide)]
  refine xite (congrArg some (hp_set (k0 := 14) (by decide) ?_ ?_ ?_ ?_ ?_ ?_ ?_ ?_ ?_ ?_ ?_ ?_ ?_ ?_ ?_ ?_ ?_ ?_ ?_ ?_ ?_ ?_ ?_ ?_ ?_ ?_ ?_ ?_ ?_ ?_ ?_ ?_ ?_ ?_ ?_ ?_ ?_ ?_ ?_ ?_ ?_)) <;> rfl
theorem rl_14 : hLen (hp x iv ai aj ar pp f0) (x + 14) = some 12 := by unfold hLen; rw [hp_in 14 (by decide)]; rfl
theorem ra_16 (i : Int32) : hIld (hp x iv ai aj ar pp f0) (x + 16) i = if i < 0 ∨ 160 ≤ i.toNatClampNeg then none else some (ai 16 i.toNatClampNeg) := by unfold hIld; rw [hp_in 16 (by decide)]; rfl
theorem wa_16 (i v : Int32) : hIst (hp x iv ai aj ar pp f0) (x + 16) i v = if i < 0 ∨ 160 ≤ i.toNatClampNeg then none else some (hp x iv (u2 ai 16 i.toNatClampNeg v) aj ar pp f0) := by
  unfold hIst; rw [hp_in 16 (by decide)]
  refine xite (congrArg some (hp_set (k0 := 16) (by decide) ?_ ?_ ?_ ?_ ?_ ?_ ?_ ?_ ?_ ?_ ?_ ?_ ?_ ?_ ?_ ?_ ?_ ?_ ?_ ?_ ?_ ?_ ?_ ?_ ?_ ?_ ?_ ?_ ?_ ?_ ?_ ?_ ?_ ?_ ?_ ?_ ?_ ?_ ?_ ?_ ?_)) <;> rfl
theorem rl_16 : hLen (hp x iv ai aj ar pp f0) (x + 16) = some 160 := by unfold hLen; rw [hp_in 16 (by decide)]; rfl
theorem ra_17 (i : Int32) : hIld (hp x iv ai aj ar pp f0) (x + 17) i = if i < 0 ∨ 40 ≤ i.toNatClampNeg then none else some (ai 17 i.toNatClampNeg) := by unfold hIld; rw [hp_in 17 (by decide)]; rfl
theorem wa_17 (i v : Int32) : hIst (hp x iv ai aj ar pp f0) (x + 17) i v = if i < 0 ∨ 40 ≤ i.toNatClampNeg then none else some (hp x iv (u2 ai 17 i.toNatClampNeg v) aj ar pp f0) := by
  unfold hIst; rw [hp_in 17 (by decide)]
  refine xite (congrArg some (hp_set (k0 := 17) (by decide) ?_ ?_ ?_ ?_ ?_ ?_ ?_ ?_ ?_ ?_ ?_ ?_ ?_ ?_ ?_ ?_ ?_ ?_ ?_ ?_ ?_ ?_ ?_ ?_ ?_ ?_ ?_ ?_ ?_ ?_ ?_ ?_ ?_ ?_ ?_ ?_ ?_ ?_ ?_ ?_ ?_)) <;> rfl
theorem rl_17 : hLen (hp x iv ai aj ar pp f0) (x + 17) = some 40 := by unfold hLen; rw [hp_in 17 (by decide)]; rfl
theorem ra_18 (i : Int32) : hJld (hp x iv ai aj ar pp f0) (x + 18) i = if i < 0 ∨ 9 ≤ i.toNatClampNeg then none else some (aj 18 i.toNatClampNeg) := by unfold hJld; rw [hp_in 18 (by decide)]; rfl
theorem wa_18 (i : Int32) (v : Int64) : hJst (hp x iv ai aj ar pp f0) (x + 18) i v = if i < 0 ∨ 9 ≤ i.toNatClampNeg then none else some (hp x iv ai (u2 aj 18 i.toNatClampNeg v) ar pp f0) := by
  unfold hJst; rw [hp_in 18 (by decide)]
  refine xite (congrArg some (hp_set (k0 := 18) (by decide) ?_ ?_ ?_ ?_ ?_ ?_ ?_ ?_ ?_ ?_ ?_ ?_ ?_ ?_ ?_ ?_ ?_ ?_ ?_ ?_ ?_ ?_ ?_ ?_ ?_ ?_ ?_ ?_ ?_ ?_ ?_ ?_ ?_ ?_ ?_ ?_ ?_ ?_ ?_ ?_ ?_)) <;> rfl
theorem rl_18 : hLen (hp x iv ai aj ar pp f0) (x + 18) = some 9 := by unfold hLen; rw [hp_in 18 (by decide)]; rfl
theorem ra_20 (i : Int32) : hIld (hp x iv ai aj ar pp f0) (x + 20) i = if i < 0 ∨ 4 ≤ i.toNatClampNeg then none else some (ai 20 i.toNatClampNeg) := by unfold hIld; rw [hp_in 20 (by decide)]; rfl
theorem wa_20 (i v : Int32) : hIst (hp x iv ai aj ar pp f0) (x + 20) i v = if i < 0 ∨ 4 ≤ i.toNatClampNeg then none else some (hp x iv (u2 ai 20 i.toNatClampNeg v) aj ar pp f0) := by
  unfold hIst; rw [hp_in 20 (by decide)]
  refine xite (congrArg some (hp_set (k0 := 20) (by decide) ?_ ?_ ?_ ?_ ?_ ?_ ?_ ?_ ?_ ?_ ?_ ?_ ?_ ?_ ?_ ?_ ?_ ?_ ?_ ?_ ?_ ?_ ?_ ?_ ?_ ?_ ?_ ?_ ?_ ?_ ?_ ?_ ?_ ?_ ?_ ?_ ?_ ?_ ?_ ?_ ?_)) <;> rfl
theorem rl_20 : hLen (hp x iv ai aj ar pp f0) (x + 20) = some 4 := by unfold hLen; rw [hp_in 20 (by decide)]; rfl
theorem ra_21 (i : Int32) : hIld (hp x iv ai aj ar pp f0) (x + 21) i = if i < 0 ∨ 4 ≤ i.toNatClampNeg then none else some (ai 21 i.toNatClampNeg) := by unfold hIld; rw [hp_in 21 (by decide)]; rfl
theorem wa_21 (i v : Int32) : hIst (hp x iv ai aj ar pp f0) (x + 21) i v = if i < 0 ∨ 4 ≤ i.toNatClampNeg then none else some (hp x iv (u2 ai 21 i.toNatClampNeg v) aj ar pp f0) := by
  unfold hIst; rw [hp_in 21 (by decide)]
  refine xite (congrArg some (hp_set (k0 := 21) (by decide) ?_ ?_ ?_ ?_ ?_ ?_ ?_ ?_ ?_ ?_ ?_ ?_ ?_ ?_ ?_ ?_ ?_ ?_ ?_ ?_ ?_ ?_ ?_ ?_ ?_ ?_ ?_ ?_ ?_ ?_ ?_ ?_ ?_ ?_ ?_ ?_ ?_ ?_ ?_ ?_ ?_)) <;> rfl
theorem rl_21 : hLen (hp x iv ai aj ar pp f0) (x + 21) = some 4 := by unfold hLen; rw [hp_in 21 (by decide)]; rfl
theorem ra_22 (i : Int32) : hJld (hp x iv ai aj ar pp f0) (x + 22) i = if i < 0 ∨ 120 ≤ i.toNatClampNeg then none else some (aj 22 i.toNatClampNeg) := by unfold hJld; rw [hp_in 22 (by decide)]; rfl
theorem wa_22 (i : Int32) (v : Int64) : hJst (hp x iv ai aj ar pp f0) (x + 22) i v = if i < 0 ∨ 120 ≤ i.toNatClampNeg then none else some (hp x iv ai (u2 aj 22 i.toNatClampNeg v) ar pp f0) := by
  unfold hJst; rw [hp_in 22 (by decide)]
  refine xite (congrArg some (hp_set (k0 := 22) (by decide) ?_ ?_ ?_ ?_ ?_ ?_ ?_ ?_ ?_ ?_ ?_ ?_ ?_ ?_ ?_ ?_ ?_ ?_ ?_ ?_ ?_ ?_ ?_ ?_ ?_ ?_ ?_ ?_ ?_ ?_ ?_ ?_ ?_ ?_ ?_ ?_ ?_ ?_ ?_ ?_ ?_)) <;> rfl
theorem rl_22 : hLen (hp x iv ai aj ar pp f0) (x + 22) = some 120 := by unfold hLen; rw [hp_in 22 (by decide)]; rfl
theorem ra_23 (i : Int32) : hJld (hp x iv ai aj ar pp f0) (x + 23) i = if i < 0 ∨ 270 ≤ i.toNatClampNeg then none else some (aj 23 i.toNatClampNeg) := by unfold hJld; rw [hp_in 23 (by decide)]; rfl
theorem wa_23 (i : Int32) (v : Int64) : hJst (hp x iv ai aj ar pp f0) (x + 23) i v = if i < 0 ∨ 270 ≤ i.toNatClampNeg then none else some (hp x iv ai (u2 aj 23 i.toNatClampNeg v) ar pp f0) := by
  unfold hJst; rw [hp_in 23 (by decide)]
  refine xite (congrArg some (hp_set (k0 := 23) (by decide) ?_ ?_ ?_ ?_ ?_ ?_ ?_ ?_ ?_ ?_ ?_ ?_ ?_ ?_ ?_ ?_ ?_ ?_ ?_ ?_ ?_ ?_ ?_ ?_ ?_ ?_ ?_ ?_ ?_ ?_ ?_ ?_ ?_ ?_ ?_ ?_ ?_ ?_ ?_ ?_ ?_)) <;> rfl
theorem rl_23 : hLen (hp x iv ai aj ar pp f0) (x + 23) = some 270 := by unfold hLen; rw [hp_in 23 (by decide)]; rfl
theorem ra_24 (i : Int32) : hJld (hp x iv ai aj ar pp f0) (x + 24) i = if i < 0 ∨ 25 ≤ i.toNatClampNeg then none else some (aj 24 i.toNatClampNeg) := by unfold hJld; rw [hp_in 24 (by decide)]; rfl
theorem wa_24 (i : Int32) (v : Int64) : hJst (hp x iv ai aj ar pp f0) (x + 24) i v = if i < 0 ∨ 25 ≤ i.toNatClampNeg then none else some (hp x iv ai (u2 aj 24 i.toNatClampNeg v) ar pp f0) := by
  unfold hJst; rw [hp_in 24 (by decide)]
  refine xite (congrArg some (hp_set (k0 := 24) (by decide) ?_ ?_ ?_ ?_ ?_ ?_ ?_ ?_ ?_ ?_ ?_ ?_ ?_ ?_ ?_ ?_ ?_ ?_ ?_ ?_ ?_ ?_ ?_ ?_ ?_ ?_ ?_ ?_ ?_ ?_ ?_ ?_ ?_ ?_ ?_ ?_ ?_ ?_ ?_ ?_ ?_)) <;> rfl
theorem rl_24 : hLen (hp x iv ai aj ar pp f0) (x + 24) = some 25 := by unfold hLen; rw [hp_in 24 (by decide)]; rfl
theorem ra_25 (i : Int32) : hIld (hp x iv ai aj ar pp f0) (x + 25) i = if i < 0 ∨ 120 ≤ i.toNatClampNeg then none else some (ai 25 i.toNatClampNeg) := by unfold hIld; rw [hp_in 25 (by decide)]; rfl
theorem wa_25 (i v : Int32) : hIst (hp x iv ai aj ar pp f0) (x + 25) i v = if i < 0 ∨ 120 ≤ i.toNatClampNeg then none else some (hp x iv (u2 ai 25 i.toNatClampNeg v) aj ar pp f0) := by
  unfold hIst; rw [hp_in 25 (by decide)]
  refine xite (congrArg some (hp_set (k0 := 25) (by decide) ?_ ?_ ?_ ?_ ?_ ?_ ?_ ?_ ?_ ?_ ?_ ?_ ?_ ?_ ?_ ?_ ?_ ?_ ?_ ?_ ?_ ?_ ?_ ?_ ?_ ?_ ?_ ?_ ?_ ?_ ?_ ?_ ?_ ?_ ?_ ?_ ?_ ?_ ?_ ?_ ?_)) <;> rfl
theorem rl_25 : hLen (hp x iv ai aj ar pp f0) (x + 25) = some 120 := by unfold hLen; rw [hp_in 25 (by decide)]; rfl
theorem ra_26 (i : Int32) : hIld (hp x iv ai aj ar pp f0) (x + 26) i = if i < 0 ∨ 164 ≤ i.toNatClampNeg then none else some (ai 26 i.toNatClampNeg) := by unfold hIld; rw [hp_in 26 (by decide)]; rfl
theorem wa_26 (i v : Int32) : hIst (hp x iv ai aj ar pp f0) (x + 26) i v = if i < 0 ∨ 164 ≤ i.toNatClampNeg then none else some (hp x iv (u2 ai 26 i.toNatClampNeg v) aj ar pp f0) := by
  unfold hIst; rw [hp_in 26 (by decide)]
  refine xite (congrArg some (hp_set (k0 := 26) (by decide) ?_ ?_ ?_ ?_ ?_ ?_ ?_ ?_ ?_ ?_ ?_ ?_ ?_ ?_ ?_ ?_ ?_ ?_ ?_ ?_ ?_ ?_ ?_ ?_ ?_ ?_ ?_ ?_ ?_ ?_ ?_ ?_ ?_ ?_ ?_ ?_ ?_ ?_ ?_ ?_ ?_)) <;> rfl
theorem rl_26 : hLen (hp x iv ai aj ar pp f0) (x + 26) = some 164 := by unfold hLen; rw [hp_in 26 (by decide)]; rfl
theorem ra_27 (i : Int32) : hIld (hp x iv ai aj ar pp f0) (x + 27) i = if i < 0 ∨ 41 ≤ i.toNatClampNeg then none else some (ai 27 i.toNatClampNeg) := by unfold hIld; rw [hp_in 27 (by decide)]; rfl
theorem wa_27 (i v : Int32) : hIst (hp x iv ai aj ar pp f0) (x + 27) i v = if i < 0 ∨ 41 ≤ i.toNatClampNeg then none else some (hp x iv (u2 ai 27 i.toNatClampNeg v) aj ar pp f0) := by
  unfold hIst; rw [hp_in 27 (by decide)]
  refine xite (congrArg some (hp_set (k0 := 27) (by decide) ?_ ?_ ?_ ?_ ?_ ?_ ?_ ?_ ?_ ?_ ?_ ?_ ?_ ?_ ?_ ?_ ?_ ?_ ?_ ?_ ?_ ?_ ?_ ?_ ?_ ?_ ?_ ?_ ?_ ?_ ?_ ?_ ?_ ?_ ?_ ?_ ?_ ?_ ?_ ?_ ?_)) <;> rfl
theorem rl_27 : hLen (hp x iv ai aj ar pp f0) (x + 27) = some 41 := by unfold hLen; rw [hp_in 27 (by decide)]; rfl
theorem ra_28 (i : Int32) : hJld (hp x iv ai aj ar pp f0) (x + 28) i = if i < 0 ∨ 9 ≤ i.toNatClampNeg then none else some (aj 28 i.toNatClampNeg) := by unfold hJld; rw [hp_in 28 (by decide)]; rfl
theorem wa_28 (i : Int32) (v : Int64) : hJst (hp x iv ai aj ar pp f0) (x + 28) i v = if i < 0 ∨ 9 ≤ i.toNatClampNeg then none else some (hp x iv ai (u2 aj 28 i.toNatClampNeg v) ar pp f0) := by
  unfold hJst; rw [hp_in 28 (by decide)]
  refine xite (congrArg some (hp_set (k0 := 28) (by decide) ?_ ?_ ?_ ?_ ?_ ?_ ?_ ?_ ?_ ?_ ?_ ?_ ?_ ?_ ?_ ?_ ?_ ?_ ?_ ?_ ?_ ?_ ?_ ?_ ?_ ?_ ?_ ?_ ?_ ?_ ?_ ?_ ?_ ?_ ?_ ?_ ?_ ?_ ?_ ?_ ?_)) <;> rfl
theorem rl_28 : hLen (hp x iv ai aj ar pp f0) (x + 28) = some 9 := by unfold hLen; rw [hp_in 28 (by decide)]; rfl
theorem ra_29 (i : Int32) : hJld (hp x iv ai aj ar pp f0) (x + 29) i = if i < 0 ∨ 20 ≤ i.toNatClampNeg then none else some (aj 29 i.toNatClampNeg) := by unfold hJld; rw [hp_in 29 (by decide)]; rfl
theorem wa_29 (i : Int32) (v : Int64) : hJst (hp x iv ai aj ar pp f0) (x + 29) i v = if i < 0 ∨ 20 ≤ i.toNatClampNeg then none else some (hp x iv ai (u2 aj 29 i.toNatClampNeg v) ar pp f0) := by
  unfold hJst; rw [hp_in 29 (by decide)]
  refine xite (congrArg some (hp_set (k0 := 29) (by decide) ?_ ?_ ?_ ?_ ?_ ?_ ?_ ?_ ?_ ?_ ?_ ?_ ?_ ?_ ?_ ?_ ?_ ?_ ?_ ?_ ?_ ?_ ?_ ?_ ?_ ?_ ?_ ?_ ?_ ?_ ?_ ?_ ?_ ?_ ?_ ?_ ?_ ?_ ?_ ?_ ?_)) <;> rfl
theorem rl_29 : hLen (hp x iv ai aj ar pp f0) (x + 29) = some 20 := by unfold hLen; rw [hp_in 29 (by decide)]; rfl
theorem ra_30 (i : Int32) : hIld (hp x iv ai aj ar pp f0) (x + 30) i = if i < 0 ∨ 40 ≤ i.toNatClampNeg then none else some (ai 30 i.toNatClampNeg) := by unfold hIld; rw [hp_in 30 (by decide)]; rfl
theorem wa_30 (i v : Int32) : hIst (hp x iv ai aj ar pp f0) (x + 30) i v = if i < 0 ∨ 40 ≤ i.toNatClampNeg then none else some (hp x iv (u2 ai 30 i.toNatClampNeg v) aj ar pp f0) := by
  unfold hIst; rw [hp_in 30 (by decide)]
  refine xite (congrArg some (hp_set (k0 := 30) (by decide) ?_ ?_ ?_ ?_ ?_ ?_ ?_ ?_ ?_ ?_ ?_ ?_ ?_ ?_ ?_ ?_ ?_ ?_ ?_ ?_ ?_ ?_ ?_ ?_ ?_ ?_ ?_ ?_ ?_ ?_ ?_ ?_ ?_ ?_ ?_ ?_ ?_ ?_ ?_ ?_ ?_)) <;> rfl
theorem rl_30 : hLen (hp x iv ai aj ar pp f0) (x + 30) = some 40 := by unfold hLen; rw [hp_in 30 (by decide)]; rfl
theorem ra_31 (i : Int32) : hIld (hp x iv ai aj ar pp f0) (x + 31) i = if i < 0 ∨ 40 ≤ i.toNatClampNeg then none else some (ai 31 i.toNatClampNeg) := by unfold hIld; rw [hp_in 31 (by decide)]; rfl
theorem wa_31 (i v : Int32) : hIst (hp x iv ai aj ar pp f0) (x + 31) i v = if i < 0 ∨ 40 ≤ i.toNatClampNeg then none else some (hp x iv (u2 ai 31 i.toNatClampNeg v) aj ar pp f0) := by
  unfold hIst; rw [hp_in 31 (by decide)]
  refine xite (congrArg some (hp_set (k0 := 31) (by decide) ?_ ?_ ?_ ?_ ?_ ?_ ?_ ?_ ?_ ?_ ?_ ?_ ?_ ?_ ?_ ?_ ?_ ?_ ?_ ?_ ?_ ?_ ?_ ?_ ?_ ?_ ?_ ?_ ?_ ?_ ?_ ?_ ?_ ?_ ?_ ?_ ?_ ?_ ?_ ?_ ?_)) <;> rfl
theorem rl_31 : hLen (hp x iv ai aj ar pp f0) (x + 31) = some 40 := by unfold hLen; rw [hp_in 31 (by decide)]; rfl
theorem ra_32 (i : Int32) : hIld (hp x iv ai aj ar pp f0) (x + 32) i = if i < 0 ∨ 40 ≤ i.toNatClampNeg then none else some (ai 32 i.toNatClampNeg) := by unfold hIld; rw [hp_in 32 (by decide)]; rfl
theorem wa_32 (i v : Int32) : hIst (hp x iv ai aj ar pp f0) (x + 32) i v = if i < 0 ∨ 40 ≤ i.toNatClampNeg then none else some (hp x iv (u2 ai 32 i.toNatClampNeg v) aj ar pp f0) := by
  unfold hIst; rw [hp_in 32 (by decide)]
  refine xite (congrArg some (hp_set (k0 := 32) (by decide) ?_ ?_ ?_ ?_ ?_ ?_ ?_ ?_ ?_ ?_ ?_ ?_ ?_ ?_ ?_ ?_ ?_ ?_ ?_ ?_ ?_ ?_ ?_ ?_ ?_ ?_ ?_ ?_ ?_ ?_ ?_ ?_ ?_ ?_ ?_ ?_ ?_ ?_ ?_ ?_ ?_)) <;> rfl
theorem rl_32 : hLen (hp x iv ai aj ar pp f0) (x + 32) = some 40 := by unfold hLen; rw [hp_in 32 (by decide)]; rfl
theorem ra_33 (i : Int32) : hIld (hp x iv ai aj ar pp f0) (x + 33) i = if i < 0 ∨ 40 ≤ i.toNatClampNeg then none else some (ai 33 i.toNatClampNeg) := by unfold hIld; rw [hp_in 33 (by decide)]; rfl
theorem wa_33 (i v : Int32) : hIst (hp x iv ai aj ar pp f0) (x + 33) i v = if i < 0 ∨ 40 ≤ i.toNatClampNeg then none else some (hp x iv (u2 ai 33 i.toNatClampNeg v) aj ar pp f0) := by
  unfold hIst; rw [hp_in 33 (by decide)]
  refine xite (congrArg some (hp_set (k0 := 33) (by decide) ?_ ?_ ?_ ?_ ?_ ?_ ?_ ?_ ?_ ?_ ?_ ?_ ?_ ?_ ?_ ?_ ?_ ?_ ?_ ?_ ?_ ?_ ?_ ?_ ?_ ?_ ?_ ?_ ?_ ?_ ?_ ?_ ?_ ?_ ?_ ?_ ?_ ?_ ?_ ?_ ?_)) <;> rfl
theorem rl_33 : hLen (hp x iv ai aj ar pp f0) (x + 33) = some 40 := by unfold hLen; rw [hp_in 33 (by decide)]; rfl
theorem ra_34 (i : Int32) : hJld (hp x iv ai aj ar pp f0) (x + 34) i = if i < 0 ∨ 6400 ≤ i.toNatClampNeg then none else some (aj 34 i.toNatClampNeg) := by unfold hJld; rw [hp_in 34 (by decide)]; rfl
theorem wa_34 (i : Int32) (v : Int64) : hJst (hp x iv ai aj ar pp f0) (x + 34) i v = if i < 0 ∨ 6400 ≤ i.toNatClampNeg then none else some (hp x iv ai (u2 aj 34 i.toNatClampNeg v) ar pp f0) := by
  unfold hJst; rw [hp_in 34 (by decide)]
  refine xite (congrArg some (hp_set (k0 := 34) (by decide) ?_ ?_ ?_ ?_ ?_ ?_ ?_ ?_ ?_ ?_ ?_ ?_ ?_ ?_ ?_ ?_ ?_ ?_ ?_ ?_ ?_ ?_ ?_ ?_ ?_ ?_ ?_ ?_ ?_ ?_ ?_ ?_ ?_ ?_ ?_ ?_ ?_ ?_ ?_ ?_ ?_)) <;> rfl
theorem rl_34 : hLen (hp x iv ai aj ar pp f0) (x + 34) = some 6400 := by unfold hLen; rw [hp_in 34 (by decide)]; rfl
theorem ra_35 (i : Int32) : hJld (hp x iv ai aj ar pp f0) (x + 35) i = if i < 0 ∨ 24 ≤ i.toNatClampNeg then none else some (aj 35 i.toNatClampNeg) := by unfold hJld; rw [hp_in 35 (by decide)]; rfl
theorem wa_35 (i : Int32) (v : Int64) : hJst (hp x iv ai aj ar pp f0) (x + 35) i v = if i < 0 ∨ 24 ≤ i.toNatClampNeg then none else some (hp x iv ai (u2 aj 35 i.toNatClampNeg v) ar pp f0) := by
  unfold hJst; rw [hp_in 35 (by decide)]
  refine xite (congrArg some (hp_set (k0 := 35) (by decide) ?_ ?_ ?_ ?_ ?_ ?_ ?_ ?_ ?_ ?_ ?_ ?_ ?_ ?_ ?_ ?_ ?_ ?_ ?_ ?_ ?_ ?_ ?_ ?_ ?_ ?_ ?_ ?_ ?_ ?_ ?_ ?_ ?_ ?_ ?_ ?_ ?_ ?_ ?_ ?_ ?_)) <;> rfl
theorem rl_35 : hLen (hp x iv ai aj ar pp f0) (x + 35) = some 24 := by unfold hLen; rw [hp_in 35 (by decide)]; rfl
theorem ra_36 (i : Int32) : hJld (hp x iv ai aj ar pp f0) (x + 36) i = if i < 0 ∨ 24 ≤ i.toNatClampNeg then none else some (aj 36 i.toNatClampNeg) := by unfold hJld; rw [hp_in 36 (by decide)]; rfl
theorem wa_36 (i : Int32) (v : Int64) : hJst (hp x iv ai aj ar pp f0) (x + 36) i v = if i < 0 ∨ 24 ≤ i.toNatClampNeg then none else some (hp x iv ai (u2 aj 36 i.toNatClampNeg v) ar pp f0) := by
  unfold hJst; rw [hp_in 36 (by decide)]
  refine xite (congrArg some (hp_set (k0 := 36) (by decide) ?_ ?_ ?_ ?_ ?_ ?_ ?_ ?_ ?_ ?_ ?_ ?_ ?_ ?_ ?_ ?_ ?_ ?_ ?_ ?_ ?_ ?_ ?_ ?_ ?_ ?_ ?_ ?_ ?_ ?_ ?_ ?_ ?_ ?_ ?_ ?_ ?_ ?_ ?_ ?_ ?_)) <;> rfl
theorem rl_36 : hLen (hp x iv ai aj ar pp f0) (x + 36) = some 24 := by unfold hLen; rw [hp_in 36 (by decide)]; rfl
theorem ra_37 (i : Int32) : hJld (hp x iv ai aj ar pp f0) (x + 37) i = if i < 0 ∨ 24 ≤ i.toNatClampNeg then none else some (aj 37 i.toNatClampNeg) := by unfold hJld; rw [hp_in 37 (by decide)]; rfl
theorem wa_37 (i : Int32) (v : Int64) : hJst (hp x iv ai aj ar pp f0) (x + 37) i v = if i < 0 ∨ 24 ≤ i.toNatClampNeg then none else some (hp x iv ai (u2 aj 37 i.toNatClampNeg v) ar pp f0) := by
  unfold hJst; rw [hp_in 37 (by decide)]
  refine xite (congrArg some (hp_set (k0 := 37) (by decide) ?_ ?_ ?_ ?_ ?_ ?_ ?_ ?_ ?_ ?_ ?_ ?_ ?_ ?_ ?_ ?_ ?_ ?_ ?_ ?_ ?_ ?_ ?_ ?_ ?_ ?_ ?_ ?_ ?_ ?_ ?_ ?_ ?_ ?_ ?_ ?_ ?_ ?_ ?_ ?_ ?_)) <;> rfl
theorem rl_37 : hLen (hp x iv ai aj ar pp f0) (x + 37) = some 24 := by unfold hLen; rw [hp_in 37 (by decide)]; rfl
theorem ra_38 (i : Int32) : hJld (hp x iv ai aj ar pp f0) (x + 38) i = if i < 0 ∨ 24 ≤ i.toNatClampNeg then none else some (aj 38 i.toNatClampNeg) := by unfold hJld; rw [hp_in 38 (by decide)]; rfl
theorem wa_38 (i : Int32) (v : Int64) : hJst (hp x iv ai aj ar pp f0) (x + 38) i v = if i < 0 ∨ 24 ≤ i.toNatClampNeg then none else some (hp x iv ai (u2 aj 38 i.toNatClampNeg v) ar pp f0) := by
  unfold hJst; rw [hp_in 38 (by decide)]
  refine xite (congrArg some (hp_set (k0 := 38) (by decide) ?_ ?_ ?_ ?_ ?_ ?_ ?_ ?_ ?_ ?_ ?_ ?_ ?_ ?_ ?_ ?_ ?_ ?_ ?_ ?_ ?_ ?_ ?_ ?_ ?_ ?_ ?_ ?_ ?_ ?_ ?_ ?_ ?_ ?_ ?_ ?_ ?_ ?_ ?_ ?_ ?_)) <;> rfl
theorem rl_38 : hLen (hp x iv ai aj ar pp f0) (x + 38) = some 24 := by unfold hLen; rw [hp_in 38 (by decide)]; rfl
theorem ra_39 (i : Int32) : hIld (hp x iv ai aj ar pp f0) (x + 39) i = if i < 0 ∨ 164 ≤ i.toNatClampNeg then none else some (ai 39 i.toNatClampNeg) := by unfold hIld; rw [hp_in 39 (by decide)]; rfl
theorem wa_39 (i v : Int32) : hIst (hp x iv ai aj ar pp f0) (x + 39) i v = if i < 0 ∨ 164 ≤ i.toNatClampNeg then none else some (hp x iv (u2 ai 39 i.toNatClampNeg v) aj ar pp f0) := by
  unfold hIst; rw [hp_in 39 (by decide)]
  refine xite (congrArg some (hp_set (k0 := 39) (by decide) ?_ ?_ ?_ ?_ ?_ ?_ ?_ ?_ ?_ ?_ ?_ ?_ ?_ ?_ ?_ ?_ ?_ ?_ ?_ ?_ ?_ ?_ ?_ ?_ ?_ ?_ ?_ ?_ ?_ ?_ ?_ ?_ ?_ ?_ ?_ ?_ ?_ ?_ ?_ ?_ ?_)) <;> rfl
theorem rl_39 : hLen (hp x iv ai aj ar pp f0) (x + 39) = some 164 := by unfold hLen; rw [hp_in 39 (by decide)]; rfl
theorem ra_40 (i : Int32) : hIld (hp x iv ai aj ar pp f0) (x + 40) i = if i < 0 ∨ 41 ≤ i.toNatClampNeg then none else some (ai 40 i.toNatClampNeg) := by unfold hIld; rw [hp_in 40 (by decide)]; rfl
theorem wa_40 (i v : Int32) : hIst (hp x iv ai aj ar pp f0) (x + 40) i v = if i < 0 ∨ 41 ≤ i.toNatClampNeg then none else some (hp x iv (u2 ai 40 i.toNatClampNeg v) aj ar pp f0) := by
  unfold hIst; rw [hp_in 40 (by decide)]
  refine xite (congrArg some (hp_set (k0 := 40) (by decide) ?_ ?_ ?_ ?_ ?_ ?_ ?_ ?_ ?_ ?_ ?_ ?_ ?_ ?_ ?_ ?_ ?_ ?_ ?_ ?_ ?_ ?_ ?_ ?_ ?_ ?_ ?_ ?_ ?_ ?_ ?_ ?_ ?_ ?_ ?_ ?_ ?_ ?_ ?_ ?_ ?_)) <;> rfl
theorem rl_40 : hLen (hp x iv ai aj ar pp f0) (x + 40) = some 41 := by unfold hLen; rw [hp_in 40 (by decide)]; rfl
theorem ra_1 (i : Int32) : hRld (hp x iv ai aj ar pp f0) (x + 1) i = if i < 0 ∨ 4 ≤ i.toNatClampNeg then none else some (ar 1 i.toNatClampNeg) := by
  unfold hRld; rw [hp_in 1 (by decide)]
  by_cases h : i < 0 ∨ 4 ≤ i.toNatClampNeg
  · rw [if_pos h]; exact if_pos (Or.inr h)
  · rw [if_neg h]; exact if_neg (fun q => q.elim (by decide) h)
theorem wz_1 (i : Int32) : hRstN (hp x iv ai aj ar pp f0) (x + 1) i = if i < 0 ∨ 4 ≤ i.toNatClampNeg then none else some (hp x iv ai aj (u2 ar 1 i.toNatClampNeg none) pp f0) := by
  unfold hRstN; rw [hp_in 1 (by decide)]
  by_cases h : i < 0 ∨ 4 ≤ i.toNatClampNeg
  · rw [if_pos h]; exact if_pos (Or.inr h)
  · rw [if_neg h]; refine (if_neg (fun q => q.elim (by decide) h)).trans (congrArg some (hp_set (k0 := 1) (by decide) ?_ ?_ ?_ ?_ ?_ ?_ ?_ ?_ ?_ ?_ ?_ ?_ ?_ ?_ ?_ ?_ ?_ ?_ ?_ ?_ ?_ ?_ ?_ ?_ ?_ ?_ ?_ ?_ ?_ ?_ ?_ ?_ ?_ ?_ ?_ ?_ ?_ ?_ ?_ ?_ ?_)) <;> rfl
theorem wq_1 (i : Int32) (v c : Nat) (hv : hKd (hp x iv ai aj ar pp f0) v = some c) (hc : c = 5) : hRst (hp x iv ai aj ar pp f0) (x + 1) i v = if i < 0 ∨ 4 ≤ i.toNatClampNeg then none else some (hp x iv ai aj (u2 ar 1 i.toNatClampNeg (some v)) pp f0) := by
  unfold hRst; rw [hp_in 1 (by decide)]
  by_cases h : i < 0 ∨ 4 ≤ i.toNatClampNeg
  · rw [if_pos h]; exact if_pos h
  · rw [if_neg h]
    refine (if_neg h).trans ?_
    rw [hv, Option.bind_some]
    refine (if_pos (by rcases hc with rfl <;> rfl)).trans (congrArg some (hp_set (k0 := 1) (by decide) ?_ ?_ ?_ ?_ ?_ ?_ ?_ ?_ ?_ ?_ ?_ ?_ ?_ ?_ ?_ ?_ ?_ ?_ ?_ ?_ ?_ ?_ ?_ ?_ ?_ ?_ ?_ ?_ ?_ ?_ ?_ ?_ ?_ ?_ ?_ ?_ ?_ ?_ ?_ ?_ ?_)) <;> rfl
theorem ra_2 (i : Int32) : hRld (hp x iv ai aj ar pp f0) (x + 2) i = if i < 0 ∨ 30 ≤ i.toNatClampNeg then none else some (ar 2 i.toNatClampNeg) := by
  unfold hRld; rw [hp_in 2 (by decide)]
  by_cases h : i < 0 ∨ 30 ≤ i.toNatClampNeg
  · rw [if_pos h]; exact if_pos (Or.inr h)
  · rw [if_neg h]; exact if_neg (fun q => q.elim (by decide) h)
theorem wz_2 (i : Int32) : hRstN (hp x iv ai aj ar pp f0) (x + 2) i = if i < 0 ∨ 30 ≤ i.toNatClampNeg then none else some (hp x iv ai aj (u2 ar 2 i.toNatClampNeg none) pp f0) := by
  unfold hRstN; rw [hp_in 2 (by decide)]
  by_cases h : i < 0 ∨ 30 ≤ i.toNatClampNeg
  · rw [if_pos h]; exact if_pos (Or.inr h)
  · rw [if_neg h]; refine (if_neg (fun q => q.elim (by decide) h)).trans (congrArg some (hp_set (k0 := 2) (by decide) ?_ ?_ ?_ ?_ ?_ ?_ ?_ ?_ ?_ ?_ ?_ ?_ ?_ ?_ ?_ ?_ ?_ ?_ ?_ ?_ ?_ ?_ ?_ ?_ ?_ ?_ ?_ ?_ ?_ ?_ ?_ ?_ ?_ ?_ ?_ ?_ ?_ ?_ ?_ ?_ ?_)) <;> rfl
theorem wq_2 (i : Int32) (v c : Nat) (hv : hKd (hp x iv ai aj ar pp f0) v = some c) (hc : c = 4) : hRst (hp x iv ai aj ar pp f0) (x + 2) i v = if i < 0 ∨ 30 ≤ i.toNatClampNeg then none else some (hp x iv ai aj (u2 ar 2 i.toNatClampNeg (some v)) pp f0) := by
  unfold hRst; rw [hp_in 2 (by decide)]
  by_cases h : i < 0 ∨ 30 ≤ i.toNatClampNeg
  · rw [if_pos h]; exact if_pos h
  · rw [if_neg h]
    refine (if_neg h).trans ?_
    rw [hv, Option.bind_some]
    refine (if_pos (by rcases hc with rfl <;> rfl)).trans (congrArg some (hp_set (k0 := 2) (by decide) ?_ ?_ ?_ ?_ ?_ ?_ ?_ ?_ ?_ ?_ ?_ ?_ ?_ ?_ ?_ ?_ ?_ ?_ ?_ ?_ ?_ ?_ ?_ ?_ ?_ ?_ ?_ ?_ ?_ ?_ ?_ ?_ ?_ ?_ ?_ ?_ ?_ ?_ ?_ ?_ ?_)) <;> rfl
theorem ra_4 (i : Int32) : hRld (hp x iv ai aj ar pp f0) (x + 4) i = if i < 0 ∨ 40 ≤ i.toNatClampNeg then none else some (ar 4 i.toNatClampNeg) := by
  unfold hRld; rw [hp_in 4 (by decide)]
  by_cases h : i < 0 ∨ 40 ≤ i.toNatClampNeg
  · rw [if_pos h]; exact if_pos (Or.inr h)
  · rw [if_neg h]; exact if_neg (fun q => q.elim (by decide) h)
theorem wz_4 (i : Int32) : hRstN (hp x iv ai aj ar pp f0) (x + 4) i = if i < 0 ∨ 40 ≤ i.toNatClampNeg then none else some (hp x iv ai aj (u2 ar 4 i.toNatClampNeg none) pp f0) := by
  unfold hRstN; rw [hp_in 4 (by decide)]
  by_cases h : i < 0 ∨ 40 ≤ i.toNatClampNeg
  · rw [if_pos h]; exact if_pos (Or.inr h)
  · rw [if_neg h]; refine (if_neg (fun q => q.elim (by decide) h)).trans (congrArg some (hp_set (k0 := 4) (by decide) ?_ ?_ ?_ ?_ ?_ ?_ ?_ ?_ ?_ ?_ ?_ ?_ ?_ ?_ ?_ ?_ ?_ ?_ ?_ ?_ ?_ ?_ ?_ ?_ ?_ ?_ ?_ ?_ ?_ ?_ ?_ ?_ ?_ ?_ ?_ ?_ ?_ ?_ ?_ ?_ ?_)) <;> rfl
theorem wq_4 (i : Int32) (v c : Nat) (hv : hKd (hp x iv ai aj ar pp f0) v = some c) (hc : c = 0 ∨ c = 3 ∨ c = 6 ∨ c = 7) : hRst (hp x iv ai aj ar pp f0) (x + 4) i v = if i < 0 ∨ 40 ≤ i.toNatClampNeg then none else some (hp x iv ai aj (u2 ar 4 i.toNatClampNeg (some v)) pp f0) := by
  unfold hRst; rw [hp_in 4 (by decide)]
  by_cases h : i < 0 ∨ 40 ≤ i.toNatClampNeg
  · rw [if_pos h]; exact if_pos h
  · rw [if_neg h]
    refine (if_neg h).trans ?_
    rw [hv, Option.bind_some]
    refine (if_pos (by rcases hc with rfl | rfl | rfl | rfl <;> rfl)).trans (congrArg some (hp_set (k0 := 4) (by decide) ?_ ?_ ?_ ?_ ?_ ?_ ?_ ?_ ?_ ?_ ?_ ?_ ?_ ?_ ?_ ?_ ?_ ?_ ?_ ?_ ?_ ?_ ?_ ?_ ?_ ?_ ?_ ?_ ?_ ?_ ?_ ?_ ?_ ?_ ?_ ?_ ?_ ?_ ?_ ?_ ?_)) <;> rfl
theorem wc_3_3 (sp dp n : Int32) : hIcp (hp x iv ai aj ar pp f0) (x + 3) sp (x + 3) dp n = if sp < 0 ∨ dp < 0 ∨ n < 0 ∨ 120 < sp.toNatClampNeg + n.toNatClampNeg ∨ 120 < dp.toNatClampNeg + n.toNatClampNeg then none else some (hp x iv (va_up ai 3 (va_cpy (ai 3) (ai 3) sp.toNatClampNeg dp.toNatClampNeg n.toNatClampNeg)) aj ar pp f0) := by
  unfold hIcp; rw [hp_in 3 (by decide)]
  refine xite (congrArg some (hp_set (k0 := 3) (by decide) ?_ ?_ ?_ ?_ ?_ ?_ ?_ ?_ ?_ ?_ ?_ ?_ ?_ ?_ ?_ ?_ ?_ ?_ ?_ ?_ ?_ ?_ ?_ ?_ ?_ ?_ ?_ ?_ ?_ ?_ ?_ ?_ ?_ ?_ ?_ ?_ ?_ ?_ ?_ ?_ ?_)) <;> rfl
theorem wc_6_6 (sp dp n : Int32) : hIcp (hp x iv ai aj ar pp f0) (x + 6) sp (x + 6) dp n = if sp < 0 ∨ dp < 0 ∨ n < 0 ∨ 160 < sp.toNatClampNeg + n.toNatClampNeg ∨ 160 < dp.toNatClampNeg + n.toNatClampNeg then none else some (hp x iv (va_up ai 6 (va_cpy (ai 6) (ai 6) sp.toNatClampNeg dp.toNatClampNeg n.toNatClampNeg)) aj ar pp f0) := by
  unfold hIcp; rw [hp_in 6 (by decide)]
  refine xite (congrArg some (hp_set (k0 := 6) (by decide) ?_ ?_ ?_ ?_ ?_ ?_ ?_ ?_ ?_ ?_ ?_ ?_ ?_ ?_ ?_ ?_ ?_ ?_ ?_ ?_ ?_ ?_ ?_ ?_ ?_ ?_ ?_ ?_ ?_ ?_ ?_ ?_ ?_ ?_ ?_ ?_ ?_ ?_ ?_ ?_ ?_)) <;> rfl
theorem wc_7_7 (sp dp n : Int32) : hIcp (hp x iv ai aj ar pp f0) (x + 7) sp (x + 7) dp n = if sp < 0 ∨ dp < 0 ∨ n < 0 ∨ 40 < sp.toNatClampNeg + n.toNatClampNeg ∨ 40 < dp.toNatClampNeg + n.toNatClampNeg then none else some (hp x iv (va_up ai 7 (va_cpy (ai 7) (ai 7) sp.toNatClampNeg dp.toNatClampNeg n.toNatClampNeg)) aj ar pp f0) := by
  unfold hIcp; rw [hp_in 7 (by decide)]
  refine xite (congrArg some (hp_set (k0 := 7) (by decide) ?_ ?_ ?_ ?_ ?_ ?_ ?_ ?_ ?_ ?_ ?_ ?_ ?_ ?_ ?_ ?_ ?_ ?_ ?_ ?_ ?_ ?_ ?_ ?_ ?_ ?_ ?_ ?_ ?_ ?_ ?_ ?_ ?_ ?_ ?_ ?_ ?_ ?_ ?_ ?_ ?_)) <;> rfl
theorem wc_16_16 (sp dp n : Int32) : hIcp (hp x iv ai aj ar pp f0) (x + 16) sp (x + 16) dp n = if sp < 0 ∨ dp < 0 ∨ n < 0 ∨ 160 < sp.toNatClampNeg + n.toNatClampNeg ∨ 160 < dp.toNatClampNeg + n.toNatClampNeg then none else some (hp x iv (va_up ai 16 (va_cpy (ai 16) (ai 16) sp.toNatClampNeg dp.toNatClampNeg n.toNatClampNeg)) aj ar pp f0) := by
  unfold hIcp; rw [hp_in 16 (by decide)]
  refine xite (congrArg some (hp_set (k0 := 16) (by decide) ?_ ?_ ?_ ?_ ?_ ?_ ?_ ?_ ?_ ?_ ?_ ?_ ?_ ?_ ?_ ?_ ?_ ?_ ?_ ?_ ?_ ?_ ?_ ?_ ?_ ?_ ?_ ?_ ?_ ?_ ?_ ?_ ?_ ?_ ?_ ?_ ?_ ?_ ?_ ?_ ?_)) <;> rfl
theorem wc_17_17 (sp dp n : Int32) : hIcp (hp x iv ai aj ar pp f0) (x + 17) sp (x + 17) dp n = if sp < 0 ∨ dp < 0 ∨ n < 0 ∨ 40 < sp.toNatClampNeg + n.toNatClampNeg ∨ 40 < dp.toNatClampNeg + n.toNatClampNeg then none else some (hp x iv (va_up ai 17 (va_cpy (ai 17) (ai 17) sp.toNatClampNeg dp.toNatClampNeg n.toNatClampNeg)) aj ar pp f0) := by
  unfold hIcp; rw [hp_in 17 (by decide)]
  refine xite (congrArg some (hp_set (k0 := 17) (by decide) ?_ ?_ ?_ ?_ ?_ ?_ ?_ ?_ ?_ ?_ ?_ ?_ ?_ ?_ ?_ ?_ ?_ ?_ ?_ ?_ ?_ ?_ ?_ ?_ ?_ ?_ ?_ ?_ ?_ ?_ ?_ ?_ ?_ ?_ ?_ ?_ ?_ ?_ ?_ ?_ ?_)) <;> rfl
theorem wc_3_6 (sp dp n : Int32) : hIcp (hp x iv ai aj ar pp f0) (x + 3) sp (x + 6) dp n = if sp < 0 ∨ dp < 0 ∨ n < 0 ∨ 120 < sp.toNatClampNeg + n.toNatClampNeg ∨ 160 < dp.toNatClampNeg + n.toNatClampNeg then none else some (hp x iv (va_up ai 6 (va_cpy (ai 3) (ai 6) sp.toNatClampNeg dp.toNatClampNeg n.toNatClampNeg)) aj ar pp f0) := by
  unfold hIcp; rw [hp_in 3 (by decide), hp_in 6 (by decide)]
  refine xite (congrArg some (hp_set (k0 := 6) (by decide) ?_ ?_ ?_ ?_ ?_ ?_ ?_ ?_ ?_ ?_ ?_ ?_ ?_ ?_ ?_ ?_ ?_ ?_ ?_ ?_ ?_ ?_ ?_ ?_ ?_ ?_ ?_ ?_ ?_ ?_ ?_ ?_ ?_ ?_ ?_ ?_ ?_ ?_ ?_ ?_ ?_)) <;> rfl
end HP

/-! the law: a step of the script, the script -/
section LAW
variable {x z : Nat} {iv ai : Nat → Nat → Int32} {aj : Nat → Nat → Int64} {ar : Nat → Nat → Option Nat} {pp : Nat → Option Nat} {f0 : xHp}
/-- a step goes on in a good state -/
def Go (x : Nat) (C : Option (Nat × xHp)) : Prop := ∃ (z : Nat) (iv ai : Nat → Nat → Int32) (aj : Nat → Nat → Int64) (ar : Nat → Nat → Option Nat) (pp : Nat → Option Nat) (f0 : xHp), C = some (z, hp x iv ai aj ar pp f0) ∧ INV x z iv ai aj ar pp f0
theorem go_w {R : Type} [DecidableEq R] {C : Option (R × xHp)} {M : xHp → Option (R × xHp)} (h : Ow x z C M) : Go x (C.bind fun q => if hKd q.2 (x + 19) = some 10 then ((M q.2).bind fun r => if q.1 = r.1 then some (z, r.2) else none) else none) := by
  obtain ⟨r, h1, e1, e2, iv, ai, aj, ar, pp, f0, e3, e4⟩ := h
  refine ⟨z, iv, ai, aj, ar, pp, f0, ?_, e4⟩
  rw [e1, Option.bind_some]
  show (if hKd h1 (x + 19) = some 10 then ((M h1).bind fun r' => if r = r'.1 then some (z, r'.2) else none) else none) = _
  rw [if_pos e2, e3, Option.bind_some]
  exact if_pos rfl
theorem go_a {R : Type} [DecidableEq R] {C : Option (R × Nat × xHp)} {M : xHp → Option (R × xHp)} (h : Oa x C M) : Go x (C.bind fun q => if hKd q.2.2 (x + 19) = some 10 then ((M q.2.2).bind fun r => if q.1 = r.1 then some (q.2.1, r.2) else none) else none) := by
  obtain ⟨r, y, h1, e1, e2, iv, ai, aj, ar, pp, f0, e3, e4⟩ := h
  refine ⟨y, iv, ai, aj, ar, pp, f0, ?_, e4⟩
  rw [e1, Option.bind_some]
  show (if hKd h1 (x + 19) = some 10 then ((M h1).bind fun r' => if r = r'.1 then some (y, r'.2) else none) else none) = _
  rw [if_pos e2, e3, Option.bind_some]
  exact if_pos rfl
theorem go_r {R : Type} [DecidableEq R] {C M : Option R} (hI0 : INV x z iv ai aj ar pp f0) (h : Or_ C M) : Go x (C.bind fun q => if hKd (hp x iv ai aj ar pp f0) (x + 19) = some 10 then (M.bind fun r => if q = r then some (z, hp x iv ai aj ar pp f0) else none) else none) := by
  obtain ⟨r, e1, e2⟩ := h
  refine ⟨z, iv, ai, aj, ar, pp, f0, ?_, hI0⟩
  rw [e1, Option.bind_some, if_pos rk_19, e2, Option.bind_some, if_pos rfl]
theorem go_c {R : Type} [DecidableEq R] {C : Option (R × xHp)} {M : xHp → Option R} (h : Oc x z C M) : Go x (C.bind fun q => if hKd q.2 (x + 19) = some 10 then ((M q.2).bind fun r => if q.1 = r then some (z, q.2) else none) else none) := by
  obtain ⟨r, iv, ai, aj, ar, pp, f0, e1, e3, e4⟩ := h
  refine ⟨z, iv, ai, aj, ar, pp, f0, ?_, e4⟩
  rw [e1, Option.bind_some]
  show (if hKd (hp x iv ai aj ar pp f0) (x + 19) = some 10 then ((M (hp x iv ai aj ar pp f0)).bind fun r' => if r = r' then some (z, hp x iv ai aj ar pp f0) else none) else none) = _
  rw [if_pos rk_19, e3, Option.bind_some]
  exact if_pos rfl
theorem go_d {R : Type} [DecidableEq R] {C : Option R} {M : Option (R × xHp)} (h : Od x z C M) : Go x (C.bind fun q => if hKd (hp x iv ai aj ar pp f0) (x + 19) = some 10 then (M.bind fun r => if q = r.1 then some (z, r.2) else none) else none) := by
  obtain ⟨r, iv', ai', aj', ar', pp', f1, e1, e3, e4⟩ := h
  refine ⟨z, iv', ai', aj', ar', pp', f1, ?_, e4⟩
  rw [e1, Option.bind_some, if_pos rk_19, e3, Option.bind_some]
  exact if_pos rfl
variable {xs : Nat → Int32} {L : Nat} {i y1 y2 y3 y4 y5 : Int32}
theorem law_0 (hI0 : INV x z iv ai aj ar pp f0) (h1 : hSc xs L (i + 1) = some y1) (h2 : hSc xs L (i + 2) = some y2) (h3 : hSc xs L (i + 3) = some y3) : Go x (S_law_0 xs L x (x + 19) z (hp x iv ai aj ar pp f0) i) := by
  unfold S_law_0
  simp only [h1, h2, h3, Option.bind_some]
  rw [if_pos rk_0]
  exact go_a (op_sheet hI0 _ _ _)
theorem law_1 (hI0 : INV x z iv ai aj ar pp f0) (h1 : hSc xs L (i + 1) = some y1) : Go x (S_law_1 xs L x (x + 19) z (hp x iv ai aj ar pp f0) i) := by
  unfold S_law_1
  simp only [h1, Option.bind_some]
  rw [if_pos rk_0]
  exact go_w (op_lose hI0 _)
theorem law_2 (hI0 : INV x z iv ai aj ar pp f0) (h1 : hSc xs L (i + 1) = some y1) (h2 : hSc xs L (i + 2) = some y2) (h3 : hSc xs L (i + 3) = some y3) (h4 : hSc xs L (i + 4) = some y4) : Go x (S_law_2 xs L x (x + 19) z (hp x iv ai aj ar pp f0) i) := by
  unfold S_law_2
  simp only [h1, h2, h3, h4, Option.bind_some]
  rw [if_pos rk_0]
  exact go_w (op_put hI0 _ _ _)
theorem law_3 (hI0 : INV x z iv ai aj ar pp f0) (h1 : hSc xs L (i + 1) = some y1) (h2 : hSc xs L (i + 2) = some y2) (h3 : hSc xs L (i + 3) = some y3) : Go x (S_law_3 xs L x (x + 19) z (hp x iv ai aj ar pp f0) i) := by
  unfold S_law_3
  simp only [h1, h2, h3, Option.bind_some]
  rw [if_pos rk_0]
  exact go_w (op_at hI0 _ _ _)
theorem law_4 (hI0 : INV x z iv ai aj ar pp f0) (h1 : hSc xs L (i + 1) = some y1) (h2 : hSc xs L (i + 2) = some y2) (h3 : hSc xs L (i + 3) = some y3) (h4 : hSc xs L (i + 4) = some y4) : Go x (S_law_4 xs L x (x + 19) z (hp x iv ai aj ar pp f0) i) := by
  unfold S_law_4
  simp only [h1, h2, h3, h4, Option.bind_some]
  rw [if_pos rk_0]
  exact go_a (op_poly hI0 _ _ _ _)
theorem law_5 (hI0 : INV x z iv ai aj ar pp f0) (h1 : hSc xs L (i + 1) = some y1) (h2 : hSc xs L (i + 2) = some y2) (h3 : hSc xs L (i + 3) = some y3) : Go x (S_law_5 xs L x (x + 19) z (hp x iv ai aj ar pp f0) i) := by
  unfold S_law_5
  simp only [h1, h2, h3, Option.bind_some]
  rw [if_pos rk_0]
  exact go_a (op_add hI0 _ _ _)
theorem law_6 (hI0 : INV x z iv ai aj ar pp f0) (h1 : hSc xs L (i + 1) = some y1) (h2 : hSc xs L (i + 2) = some y2) : Go x (S_law_6 xs L x (x + 19) z (hp x iv ai aj ar pp f0) i) := by
  unfold S_law_6
  simp only [h1, h2, Option.bind_some]
  rw [if_pos rk_0]
  exact go_a (op_times hI0 _ _)
theorem law_7 (hI0 : INV x z iv ai aj ar pp f0) (h1 : hSc xs L (i + 1) = some y1) (h2 : hSc xs L (i + 2) = some y2) : Go x (S_law_7 xs L x (x + 19) z (hp x iv ai aj ar pp f0) i) := by
  unfold S_law_7
  simp only [h1, h2, Option.bind_some]
  rw [if_pos rk_0]
  exact go_a (op_slope hI0 _ _)
theorem law_8 (hI0 : INV x z iv ai aj ar pp f0) (h1 : hSc xs L (i + 1) = some y1) (h2 : hSc xs L (i + 2) = some y2) : Go x (S_law_8 xs L x (x + 19) z (hp x iv ai aj ar pp f0) i) := by
  unfold S_law_8
  simp only [h1, h2, Option.bind_some]
  rw [if_pos rk_0]
  exact go_r hI0 (op_term hI0 _ _)
theorem law_9 (hI0 : INV x z iv ai aj ar pp f0) (h1 : hSc xs L (i + 1) = some y1) (h2 : hSc xs L (i + 2) = some y2) (h3 : hSc xs L (i + 3) = some y3) : Go x (S_law_9 xs L x (x + 19) z (hp x iv ai aj ar pp f0) i) := by
  unfold S_law_9
  simp only [h1, h2, h3, Option.bind_some]
  rw [if_pos rk_0]
  exact go_r hI0 (op_value hI0 _ _ _)
theorem law_10 (hI0 : INV x z iv ai aj ar pp f0) (h1 : hSc xs L (i + 1) = some y1) (h2 : hSc xs L (i + 2) = some y2) : Go x (S_law_10 xs L x (x + 19) z (hp x iv ai aj ar pp f0) i) := by
  unfold S_law_10
  simp only [h1, h2, Option.bind_some]
  rw [if_pos rk_0]
  exact go_r hI0 (op_same hI0 _ _)
theorem law_11 (hI0 : INV x z iv ai aj ar pp f0) (h1 : hSc xs L (i + 1) = some y1) (h2 : hSc xs L (i + 2) = some y2) (h3 : hSc xs L (i + 3) = some y3) (h4 : hSc xs L (i + 4) = some y4) : Go x (S_law_11 xs L x (x + 19) z (hp x iv ai aj ar pp f0) i) := by
  unfold S_law_11
  simp only [h1, h2, h3, h4, Option.bind_some]
  rw [if_pos rk_0]
  exact go_w (op_box hI0 _ _ _ _)
theorem law_12 (hI0 : INV x z iv ai aj ar pp f0) (h1 : hSc xs L (i + 1) = some y1) (h2 : hSc xs L (i + 2) = some y2) : Go x (S_law_12 xs L x (x + 19) z (hp x iv ai aj ar pp f0) i) := by
  unfold S_law_12
  simp only [h1, h2, Option.bind_some]
  rw [if_pos rk_0]
  exact go_r hI0 (op_side hI0 _ _)
theorem law_13 (hI0 : INV x z iv ai aj ar pp f0) (h1 : hSc xs L (i + 1) = some y1) (h2 : hSc xs L (i + 2) = some y2) (h3 : hSc xs L (i + 3) = some y3) : Go x (S_law_13 xs L x (x + 19) z (hp x iv ai aj ar pp f0) i) := by
  unfold S_law_13
  simp only [h1, h2, h3, Option.bind_some]
  rw [if_pos rk_0]
  exact go_r hI0 (op_corner hI0 _ _ _)
theorem law_14 (hI0 : INV x z iv ai aj ar pp f0) (h1 : hSc xs L (i + 1) = some y1) (h2 : hSc xs L (i + 2) = some y2) (h3 : hSc xs L (i + 3) = some y3) : Go x (S_law_14 xs L x (x + 19) z (hp x iv ai aj ar pp f0) i) := by
  unfold S_law_14
  simp only [h1, h2, h3, Option.bind_some]
  rw [if_pos rk_0]
  exact go_c (op_bound hI0 _ _ _)
theorem law_15 (hI0 : INV x z iv ai aj ar pp f0) (h1 : hSc xs L (i + 1) = some y1) (h2 : hSc xs L (i + 2) = some y2) : Go x (S_law_15 xs L x (x + 19) z (hp x iv ai aj ar pp f0) i) := by
  unfold S_law_15
  simp only [h1, h2, Option.bind_some]
  rw [if_pos rk_0]
  exact go_w (op_cut hI0 _ _)
theorem law_16 (hI0 : INV x z iv ai aj ar pp f0) (h1 : hSc xs L (i + 1) = some y1) (h2 : hSc xs L (i + 2) = some y2) : Go x (S_law_16 xs L x (x + 19) z (hp x iv ai aj ar pp f0) i) := by
  unfold S_law_16
  simp only [h1, h2, Option.bind_some]
  rw [if_pos rk_0]
  exact go_w (op_parts hI0 _ _)
theorem law_17 (hI0 : INV x z iv ai aj ar pp f0) (h1 : hSc xs L (i + 1) = some y1) : Go x (S_law_17 xs L x (x + 19) z (hp x iv ai aj ar pp f0) i) := by
  unfold S_law_17
  simp only [h1, Option.bind_some]
  rw [if_pos rk_0]
  exact go_w (op_cover hI0 _)
theorem law_18 (hI0 : INV x z iv ai aj ar pp f0) (h1 : hSc xs L (i + 1) = some y1) : Go x (S_law_18 xs L x (x + 19) z (hp x iv ai aj ar pp f0) i) := by
  unfold S_law_18
  simp only [h1, Option.bind_some]
  rw [if_pos rk_0]
  exact go_r hI0 (op_open hI0 _)
theorem law_19 (hI0 : INV x z iv ai aj ar pp f0) (h1 : hSc xs L (i + 1) = some y1) (h2 : hSc xs L (i + 2) = some y2) : Go x (S_law_19 xs L x (x + 19) z (hp x iv ai aj ar pp f0) i) := by
  unfold S_law_19
  simp only [h1, h2, Option.bind_some]
  rw [if_pos rk_0]
  exact go_r hI0 (op_partly hI0 _ _)
theorem law_20 (hI0 : INV x z iv ai aj ar pp f0) (h1 : hSc xs L (i + 1) = some y1) : Go x (S_law_20 xs L x (x + 19) z (hp x iv ai aj ar pp f0) i) := by
  unfold S_law_20
  simp only [h1, Option.bind_some]
  rw [if_pos rk_0]
  exact go_r hI0 (op_where hI0 _)
theorem law_21 (hI0 : INV x z iv ai aj ar pp f0) : Go x (S_law_21 xs L x (x + 19) z (hp x iv ai aj ar pp f0) i) := by
  unfold S_law_21
  rw [if_pos rk_0]
  exact go_c (op_least hI0)
theorem law_22 (hI0 : INV x z iv ai aj ar pp f0) (h1 : hSc xs L (i + 1) = some y1) (h2 : hSc xs L (i + 2) = some y2) (h3 : hSc xs L (i + 3) = some y3) : Go x (S_law_22 xs L x (x + 19) z (hp x iv ai aj ar pp f0) i) := by
  unfold S_law_22
  simp only [h1, h2, h3, Option.bind_some]
  rw [if_pos rk_0]
  exact go_d (op_form hI0 _ _ _)
theorem law_23 (hI0 : INV x z iv ai aj ar pp f0) (h1 : hSc xs L (i + 1) = some y1) : Go x (S_law_23 xs L x (x + 19) z (hp x iv ai aj ar pp f0) i) := by
  unfold S_law_23
  simp only [h1, Option.bind_some]
  rw [if_pos rk_0]
  exact go_a (op_squares hI0 _)
theorem law_24 (hI0 : INV x z iv ai aj ar pp f0) (h1 : hSc xs L (i + 1) = some y1) (h2 : hSc xs L (i + 2) = some y2) : Go x (S_law_24 xs L x (x + 19) z (hp x iv ai aj ar pp f0) i) := by
  unfold S_law_24
  simp only [h1, h2, Option.bind_some]
  rw [if_pos rk_0]
  exact go_a (op_corners hI0 _ _)
theorem law_25 (hI0 : INV x z iv ai aj ar pp f0) : Go x (S_law_25 xs L x (x + 19) z (hp x iv ai aj ar pp f0) i) := by
  unfold S_law_25
  rw [if_pos rk_0]
  exact go_a (op_proved hI0)
theorem law_26 (hI0 : INV x z iv ai aj ar pp f0) (h1 : hSc xs L (i + 1) = some y1) (h2 : hSc xs L (i + 2) = some y2) (h3 : hSc xs L (i + 3) = some y3) (h4 : hSc xs L (i + 4) = some y4) (h5 : hSc xs L (i + 5) = some y5) : Go x (S_law_26 xs L x (x + 19) z (hp x iv ai aj ar pp f0) i) := by
  unfold S_law_26
  simp only [h1, h2, h3, h4, h5, Option.bind_some]
  rw [if_pos rk_0]
  exact go_a (op_span hI0 _ _ _ _ _)
theorem law_27 (hI0 : INV x z iv ai aj ar pp f0) (h1 : hSc xs L (i + 1) = some y1) (h2 : hSc xs L (i + 2) = some y2) : Go x (S_law_27 xs L x (x + 19) z (hp x iv ai aj ar pp f0) i) := by
  unfold S_law_27
  simp only [h1, h2, Option.bind_some]
  rw [if_pos rk_0]
  exact go_r hI0 (op_proof hI0 _ _)
theorem law_28 (hI0 : INV x z iv ai aj ar pp f0) (h1 : hSc xs L (i + 1) = some y1) (h2 : hSc xs L (i + 2) = some y2) : Go x (S_law_28 xs L x (x + 19) z (hp x iv ai aj ar pp f0) i) := by
  unfold S_law_28
  simp only [h1, h2, Option.bind_some]
  rw [if_pos rk_0]
  exact go_r hI0 (op_number hI0 _ _)
theorem law_29 (hI0 : INV x z iv ai aj ar pp f0) (h1 : hSc xs L (i + 1) = some y1) (h2 : hSc xs L (i + 2) = some y2) (h3 : hSc xs L (i + 3) = some y3) (h4 : hSc xs L (i + 4) = some y4) : Go x (S_law_29 xs L x (x + 19) z (hp x iv ai aj ar pp f0) i) := by
  unfold S_law_29
  simp only [h1, h2, h3, h4, Option.bind_some]
  rw [if_pos rk_0]
  exact go_w (op_forge hI0 _ _ _)
theorem law_30 (hI0 : INV x z iv ai aj ar pp f0) (h1 : hSc xs L (i + 1) = some y1) : Go x (S_law_30 xs L x (x + 19) z (hp x iv ai aj ar pp f0) i) := by
  unfold S_law_30
  simp only [h1, Option.bind_some]
  rw [if_pos rk_0]
  exact go_w (op_check hI0 _)
theorem law_31 (hI0 : INV x z iv ai aj ar pp f0) (h1 : hSc xs L (i + 1) = some y1) (h2 : hSc xs L (i + 2) = some y2) : Go x (S_law_31 xs L x (x + 19) z (hp x iv ai aj ar pp f0) i) := by
  unfold S_law_31
  simp only [h1, h2, Option.bind_some]
  rw [if_pos rk_0]
  exact go_w (op_as hI0 _ _)
theorem law_32 (hI0 : INV x z iv ai aj ar pp f0) (h1 : hSc xs L (i + 1) = some y1) : Go x (S_law_32 xs L x (x + 19) z (hp x iv ai aj ar pp f0) i) := by
  unfold S_law_32
  simp only [h1, Option.bind_some]
  rw [if_pos rk_0]
  exact go_w (op_tell hI0 _)
theorem law_33 (hI0 : INV x z iv ai aj ar pp f0) (h1 : hSc xs L (i + 1) = some y1) : Go x (S_law_33 xs L x (x + 19) z (hp x iv ai aj ar pp f0) i) := by
  unfold S_law_33
  simp only [h1, Option.bind_some]
  rw [if_pos rk_0]
  exact go_w (op_cost hI0 _)
theorem law_34 (hI0 : INV x z iv ai aj ar pp f0) : Go x (S_law_34 xs L x (x + 19) z (hp x iv ai aj ar pp f0) i) := by
  unfold S_law_34
  rw [if_pos rk_0]
  exact go_r hI0 (op_trace hI0)
theorem law_35 (hI0 : INV x z iv ai aj ar pp f0) : Go x (S_law_35 xs L x (x + 19) z (hp x iv ai aj ar pp f0) i) := by
  unfold S_law_35
  rw [if_pos rk_0]
  exact go_r hI0 (op_fault hI0)
theorem law_36 (hI0 : INV x z iv ai aj ar pp f0) (h1 : hSc xs L (i + 1) = some y1) : Go x (S_law_36 xs L x (x + 19) z (hp x iv ai aj ar pp f0) i) := by
  unfold S_law_36
  simp only [h1, Option.bind_some]
  rw [if_pos rk_0]
  exact go_r hI0 (op_told hI0 _)
theorem law_step (hI0 : INV x z iv ai aj ar pp f0) {y0 : Int32} (h0 : hSc xs L i = some y0) (h1 : hSc xs L (i + 1) = some y1) (h2 : hSc xs L (i + 2) = some y2) (h3 : hSc xs L (i + 3) = some y3) (h4 : hSc xs L (i + 4) = some y4) (h5 : hSc xs L (i + 5) = some y5) : Go x (F_law_step xs L x (x + 19) z (hp x iv ai aj ar pp f0) i) := by
  unfold F_law_step
  rw [h0, Option.bind_some]
  by_cases e0 : y0 &&& 63 = 0
  · rw [if_pos e0]; exact law_0 hI0 h1 h2 h3
  rw [if_neg e0]
  by_cases e1 : y0 &&& 63 = 1
  · rw [if_pos e1]; exact law_1 hI0 h1
  rw [if_neg e1]
  by_cases e2 : y0 &&& 63 = 2
  · rw [if_pos e2]; exact law_2 hI0 h1 h2 h3 h4
  rw [if_neg e2]
  by_cases e3 : y0 &&& 63 = 3
  · rw [if_pos e3]; exact law_3 hI0 h1 h2 h3
  rw [if_neg e3]
  by_cases e4 : y0 &&& 63 = 4
  · rw [if_pos e4]; exact law_4 hI0 h1 h2 h3 h4
  rw [if_neg e4]
  by_cases e5 : y0 &&& 63 = 5
  · rw [if_pos e5]; exact law_5 hI0 h1 h2 h3
  rw [if_neg e5]
  by_cases e6 : y0 &&& 63 = 6
  · rw [if_pos e6]; exact law_6 hI0 h1 h2
  rw [if_neg e6]
  by_cases e7 : y0 &&& 63 = 7
  · rw [if_pos e7]; exact law_7 hI0 h1 h2
  rw [if_neg e7]
  by_cases e8 : y0 &&& 63 = 8
  · rw [if_pos e8]; exact law_8 hI0 h1 h2
  rw [if_neg e8]
  by_cases e9 : y0 &&& 63 = 9
  · rw [if_pos e9]; exact law_9 hI0 h1 h2 h3
  rw [if_neg e9]
  by_cases e10 : y0 &&& 63 = 10
  · rw [if_pos e10]; exact law_10 hI0 h1 h2
  rw [if_neg e10]
  by_cases e11 : y0 &&& 63 = 11
  · rw [if_pos e11]; exact law_11 hI0 h1 h2 h3 h4
  rw [if_neg e11]
  by_cases e12 : y0 &&& 63 = 12
  · rw [if_pos e12]; exact law_12 hI0 h1 h2
  rw [if_neg e12]
  by_cases e13 : y0 &&& 63 = 13
  · rw [if_pos e13]; exact law_13 hI0 h1 h2 h3
  rw [if_neg e13]
  by_cases e14 : y0 &&& 63 = 14
  · rw [if_pos e14]; exact law_14 hI0 h1 h2 h3
  rw [if_neg e14]
  by_cases e15 : y0 &&& 63 = 15
  · rw [if_pos e15]; exact law_15 hI0 h1 h2
  rw [if_neg e15]
  by_cases e16 : y0 &&& 63 = 16
  · rw [if_pos e16]; exact law_16 hI0 h1 h2
  rw [if_neg e16]
  by_cases e17 : y0 &&& 63 = 17
  · rw [if_pos e17]; exact law_17 hI0 h1
  rw [if_neg e17]
  by_cases e18 : y0 &&& 63 = 18
  · rw [if_pos e18]; exact law_18 hI0 h1
  rw [if_neg e18]
  by_cases e19 : y0 &&& 63 = 19
  · rw [if_pos e19]; exact law_19 hI0 h1 h2
  rw [if_neg e19]
  by_cases e20 : y0 &&& 63 = 20
  · rw [if_pos e20]; exact law_20 hI0 h1
  rw [if_neg e20]
  by_cases e21 : y0 &&& 63 = 21
  · rw [if_pos e21]; exact law_21 hI0
  rw [if_neg e21]
  by_cases e22 : y0 &&& 63 = 22
  · rw [if_pos e22]; exact law_22 hI0 h1 h2 h3
  rw [if_neg e22]
  by_cases e23 : y0 &&& 63 = 23
  · rw [if_pos e23]; exact law_23 hI0 h1
  rw [if_neg e23]
  by_cases e24 : y0 &&& 63 = 24
  · rw [if_pos e24]; exact law_24 hI0 h1 h2
  rw [if_neg e24]
  by_cases e25 : y0 &&& 63 = 25
  · rw [if_pos e25]; exact law_25 hI0
  rw [if_neg e25]
  by_cases e26 : y0 &&& 63 = 26
  · rw [if_pos e26]; exact law_26 hI0 h1 h2 h3 h4 h5
  rw [if_neg e26]
  by_cases e27 : y0 &&& 63 = 27
  · rw [if_pos e27]; exact law_27 hI0 h1 h2
  rw [if_neg e27]
  by_cases e28 : y0 &&& 63 = 28
  · rw [if_pos e28]; exact law_28 hI0 h1 h2
  rw [if_neg e28]
  by_cases e29 : y0 &&& 63 = 29
  · rw [if_pos e29]; exact law_29 hI0 h1 h2 h3 h4
  rw [if_neg e29]
  by_cases e30 : y0 &&& 63 = 30
  · rw [if_pos e30]; exact law_30 hI0 h1
  rw [if_neg e30]
  by_cases e31 : y0 &&& 63 = 31
  · rw [if_pos e31]; exact law_31 hI0 h1 h2
  rw [if_neg e31]
  by_cases e32 : y0 &&& 63 = 32
  · rw [if_pos e32]; exact law_32 hI0 h1
  rw [if_neg e32]
  by_cases e33 : y0 &&& 63 = 33
  · rw [if_pos e33]; exact law_33 hI0 h1
  rw [if_neg e33]
  by_cases e34 : y0 &&& 63 = 34
  · rw [if_pos e34]; exact law_34 hI0
  rw [if_neg e34]
  by_cases e35 : y0 &&& 63 = 35
  · rw [if_pos e35]; exact law_35 hI0
  rw [if_neg e35]
  by_cases e36 : y0 &&& 63 = 36
  · rw [if_pos e36]; exact law_36 hI0 h1
  rw [if_neg e36]
  exact ⟨z, iv, ai, aj, ar, pp, f0, rfl, hI0⟩
theorem lt6 {L t : Nat} (hL : L ≤ 3072) (ht : t ≤ 3072) : (Int32.ofNat L - 6 < nI t) ↔ L < t + 6 := by
  have e1 : (nI L).toInt = L := toInt_nI (by omega)
  have e2 : (nI t).toInt = t := toInt_nI (by omega)
  have e3 : (nI L - 6).toInt = (L : Int) - 6 := by
    rw [Int32.toInt_sub, e1, show (6 : Int32).toInt = 6 from rfl, Int.bmod_def]
    omega
  show nI L - 6 < nI t ↔ _
  rw [Int32.lt_iff_toInt_lt, e3, e2]
  omega
theorem sc_at {t : Nat} (hL : L ≤ 3072) (ht : t < L) : hSc xs L (nI t) = some (xs t) := by
  unfold hSc
  rw [ixr ht (by omega), cl_nI (by omega)]
theorem law_loop (hL : L ≤ 3072) : ∀ (n t z : Nat) (iv ai : Nat → Nat → Int32) (aj : Nat → Nat → Int64) (ar : Nat → Nat → Option Nat) (pp : Nat → Option Nat) (f0 : xHp), 3078 ≤ t + 6 * n → t ≤ L → INV x z iv ai aj ar pp f0 → L_law xs L x (x + 19) n z (hp x iv ai aj ar pp f0) (nI t) = some () := by
  intro n
  induction n with
  | zero => intro t z iv ai aj ar pp f0 h1 h2 _; omega
  | succ n ih =>
    intro t z iv ai aj ar pp f0 h1 h2 hI0
    show (if Int32.ofNat L - (6 : Int32) < nI t then some () else Option.bind (F_law_step xs L x (x + 19) z (hp x iv ai aj ar pp f0) (nI t)) fun q => L_law xs L x (x + 19) n q.1 q.2 (nI t + 6)) = _
    by_cases h : L < t + 6
    · rw [if_pos ((lt6 hL (by omega)).mpr h)]
    · rw [if_neg (fun e => h ((lt6 hL (by omega)).mp e))]
      obtain ⟨z', iv', ai', aj', ar', pp', f1, e1, e2⟩ := law_step (xs := xs) (L := L) (i := nI t) hI0 (sc_at hL (show t < L by omega)) (by rw [add_1]; exact sc_at hL (by omega)) (by rw [add_2]; exact sc_at hL (by omega)) (by rw [add_3]; exact sc_at hL (by omega)) (by rw [add_4]; exact sc_at hL (by omega)) (by rw [add_5]; exact sc_at hL (by omega))
      rw [e1, Option.bind_some]
      show L_law xs L x (x + 19) n z' (hp x iv' ai' aj' ar' pp' f1) (nI t + 6) = _
      rw [add_6]
      exact ih (t + 6) z' iv' ai' aj' ar' pp' f1 (by omega) (by omega) e2
end LAW

/-! the class's PARTS: cells c (the object), c + 1 (sides), c + 2 (what each is), c + 3 (nine) -/
def PC (x c : Nat) : Prop := ∀ (iv ai : Nat → Nat → Int32) (aj : Nat → Nat → Int64) (ar : Nat → Nat → Option Nat) (pp : Nat → Option Nat) (f0 : xHp),
  hKd (hp x iv ai aj ar pp f0) (x + c) = some 2 ∧ hN (hp x iv ai aj ar pp f0) (x + c) [(2, 0)] = some (x + (c + 1)) ∧ hN (hp x iv ai aj ar pp f0) (x + c) [(2, 1)] = some (x + (c + 2)) ∧ hN (hp x iv ai aj ar pp f0) (x + c) [(2, 2)] = some (x + (c + 3)) ∧ hR (hp x iv ai aj ar pp f0) (x + c) [(2, 3)] = some (pp c) ∧
  (hI (hp x iv ai aj ar pp f0) (x + c) [(2, 6)] = some (iv c 6) ∧ hI (hp x iv ai aj ar pp f0) (x + c) [(2, 7)] = some (iv c 7) ∧ hI (hp x iv ai aj ar pp f0) (x + c) [(2, 10)] = some (iv c 10)) ∧
  ((∀ v, hPut (hp x iv ai aj ar pp f0) (x + c) [(2, 6)] (.int v) = some (hp x (u2 iv c 6 v) ai aj ar pp f0)) ∧ (∀ v, hPut (hp x iv ai aj ar pp f0) (x + c) [(2, 7)] (.int v) = some (hp x (u2 iv c 7 v) ai aj ar pp f0)) ∧ (∀ v, hPut (hp x iv ai aj ar pp f0) (x + c) [(2, 8)] (.int v) = some (hp x (u2 iv c 8 v) ai aj ar pp f0)) ∧ (∀ v, hPut (hp x iv ai aj ar pp f0) (x + c) [(2, 9)] (.int v) = some (hp x (u2 iv c 9 v) ai aj ar pp f0)) ∧ ∀ v, hPut (hp x iv ai aj ar pp f0) (x + c) [(2, 10)] (.int v) = some (hp x (u2 iv c 10 v) ai aj ar pp f0)) ∧
  (∀ i, i < 9 → hJld (hp x iv ai aj ar pp f0) (x + (c + 3)) (nI i) = some (aj (c + 3) i)) ∧ (∀ i v, i < 9 → hJst (hp x iv ai aj ar pp f0) (x + (c + 3)) (nI i) v = some (hp x iv ai (u2 aj (c + 3) i v) ar pp f0)) ∧ hLen (hp x iv ai aj ar pp f0) (x + (c + 3)) = some 9
theorem pc_5 (x : Nat) : PC x 5 := fun iv ai aj ar pp f0 => ⟨rk_5, rn_5_0, rn_5_1, rn_5_2, ro_5_3, ⟨ri_5_6, ri_5_7, ri_5_10⟩, ⟨wi_5_6, wi_5_7, wi_5_8, wi_5_9, wi_5_10⟩, fun i hi => by show hJld _ (x + 8) _ = some (aj 8 i); rw [ra_8]; simp (disch := omega) only [mul_3, mul_4, mul_5, mul_9, mul_30, mul_160, add_1, add_2, add_3, add_4, add_5, add_6, addl_1, addl_2, addl_3, addl_4, cle_0, cel_0, clt_0, ctl_0, ceq_0, cle_1, cel_1, clt_1, ctl_1, ceq_1, cle_2, cel_2, clt_2, ctl_2, ceq_2, cle_3, cel_3, clt_3, ctl_3, ceq_3, cle_4, cel_4, clt_4, ctl_4, ceq_4, cle_5, cel_5, clt_5, ctl_5, ceq_5, cle_6, cel_6, clt_6, ctl_6, ceq_6, cle_7, cel_7, clt_7, ctl_7, ceq_7, cle_8, cel_8, clt_8, ctl_8, ceq_8, cle_9, cel_9, clt_9, ctl_9, ceq_9, cle_12, cel_12, clt_12, ctl_12, ceq_12, cle_20, cel_20, clt_20, ctl_20, ceq_20, cle_24, cel_24, clt_24, ctl_24, ceq_24, cle_25, cel_25, clt_25, ctl_25, ceq_25, cle_30, cel_30, clt_30, ctl_30, ceq_30, cle_36, cel_36, clt_36, ctl_36, ceq_36, cle_40, cel_40, clt_40, ctl_40, ceq_40, cle_41, cel_41, clt_41, ctl_41, ceq_41, cle_120, cel_120, clt_120, ctl_120, ceq_120, cle_160, cel_160, clt_160, ctl_160, ceq_160, cle_164, cel_164, clt_164, ctl_164, ceq_164, cle_500, cel_500, clt_500, ctl_500, ceq_500, cle_1000, cel_1000, clt_1000, ctl_1000, ceq_1000, ixr, ixq, ixf, neg_nI, leq_nI, lt_nI, eq_nI, cl_nI, nI_add, pk_mul], fun i v hi => by show hJst _ (x + 8) _ _ = some (hp x iv ai (u2 aj 8 i v) ar pp f0); rw [wa_8]; simp (disch := omega) only [mul_3, mul_4, mul_5, mul_9, mul_30, mul_160, add_1, add_2, add_3, add_4, add_5, add_6, addl_1, addl_2, addl_3, addl_4, cle_0, cel_0, clt_0, ctl_0, ceq_0, cle_1, cel_1, clt_1, ctl_1, ceq_1, cle_2, cel_2, clt_2, ctl_2, ceq_2, cle_3, cel_3, clt_3, ctl_3, ceq_3, cle_4, cel_4, clt_4, ctl_4, ceq_4, cle_5, cel_5, clt_5, ctl_5, ceq_5, cle_6, cel_6, clt_6, ctl_6, ceq_6, cle_7, cel_7, clt_7, ctl_7, ceq_7, cle_8, cel_8, clt_8, ctl_8, ceq_8, cle_9, cel_9, clt_9, ctl_9, ceq_9, cle_12, cel_12, clt_12, ctl_12, ceq_12, cle_20, cel_20, clt_20, ctl_20, ceq_20, cle_24, cel_24, clt_24, ctl_24, ceq_24, cle_25, cel_25, clt_25, ctl_25, ceq_25, cle_30, cel_30, clt_30, ctl_30, ceq_30, cle_36, cel_36, clt_36, ctl_36, ceq_36, cle_40, cel_40, clt_40, ctl_40, ceq_40, cle_41, cel_41, clt_41, ctl_41, ceq_41, cle_120, cel_120, clt_120, ctl_120, ceq_120, cle_160, cel_160, clt_160, ctl_160, ceq_160, cle_164, cel_164, clt_164, ctl_164, ceq_164, cle_500, cel_500, clt_500, ctl_500, ceq_500, cle_1000, cel_1000, clt_1000, ctl_1000, ceq_1000, ixr, ixq, ixf, neg_nI, leq_nI, lt_nI, eq_nI, cl_nI, nI_add, pk_mul], rl_8⟩
theorem pc_15 (x : Nat) : PC x 15 := fun iv ai aj ar pp f0 => ⟨rk_15, rn_15_0, rn_15_1, rn_15_2, ro_15_3, ⟨ri_15_6, ri_15_7, ri_15_10⟩, ⟨wi_15_6, wi_15_7, wi_15_8, wi_15_9, wi_15_10⟩, fun i hi => by show hJld _ (x + 18) _ = some (aj 18 i); rw [ra_18]; simp (disch := omega) only [mul_3, mul_4, mul_5, mul_9, mul_30, mul_160, add_1, add_2, add_3, add_4, add_5, add_6, addl_1, addl_2, addl_3, addl_4, cle_0, cel_0, clt_0, ctl_0, ceq_0, cle_1, cel_1, clt_1, ctl_1, ceq_1, cle_2, cel_2, clt_2, ctl_2, ceq_2, cle_3, cel_3, clt_3, ctl_3, ceq_3, cle_4, cel_4, clt_4, ctl_4, ceq_4, cle_5, cel_5, clt_5, ctl_5, ceq_5, cle_6, cel_6, clt_6, ctl_6, ceq_6, cle_7, cel_7, clt_7, ctl_7, ceq_7, cle_8, cel_8, clt_8, ctl_8, ceq_8, cle_9, cel_9, clt_9, ctl_9, ceq_9, cle_12, cel_12, clt_12, ctl_12, ceq_12, cle_20, cel_20, clt_20, ctl_20, ceq_20, cle_24, cel_24, clt_24, ctl_24, ceq_24, cle_25, cel_25, clt_25, ctl_25, ceq_25, cle_30, cel_30, clt_30, ctl_30, ceq_30, cle_36, cel_36, clt_36, ctl_36, ceq_36, cle_40, cel_40, clt_40, ctl_40, ceq_40, cle_41, cel_41, clt_41, ctl_41, ceq_41, cle_120, cel_120, clt_120, ctl_120, ceq_120, cle_160, cel_160, clt_160, ctl_160, ceq_160, cle_164, cel_164, clt_164, ctl_164, ceq_164, cle_500, cel_500, clt_500, ctl_500, ceq_500, cle_1000, cel_1000, clt_1000, ctl_1000, ceq_1000, ixr, ixq, ixf, neg_nI, leq_nI, lt_nI, eq_nI, cl_nI, nI_add, pk_mul], fun i v hi => by show hJst _ (x + 18) _ _ = some (hp x iv ai (u2 aj 18 i v) ar pp f0); rw [wa_18]; simp (disch := omega) only [mul_3, mul_4, mul_5, mul_9, mul_30, mul_160, add_1, add_2, add_3, add_4, add_5, add_6, addl_1, addl_2, addl_3, addl_4, cle_0, cel_0, clt_0, ctl_0, ceq_0, cle_1, cel_1, clt_1, ctl_1, ceq_1, cle_2, cel_2, clt_2, ctl_2, ceq_2, cle_3, cel_3, clt_3, ctl_3, ceq_3, cle_4, cel_4, clt_4, ctl_4, ceq_4, cle_5, cel_5, clt_5, ctl_5, ceq_5, cle_6, cel_6, clt_6, ctl_6, ceq_6, cle_7, cel_7, clt_7, ctl_7, ceq_7, cle_8, cel_8, clt_8, ctl_8, ceq_8, cle_9, cel_9, clt_9, ctl_9, ceq_9, cle_12, cel_12, clt_12, ctl_12, ceq_12, cle_20, cel_20, clt_20, ctl_20, ceq_20, cle_24, cel_24, clt_24, ctl_24, ceq_24, cle_25, cel_25, clt_25, ctl_25, ceq_25, cle_30, cel_30, clt_30, ctl_30, ceq_30, cle_36, cel_36, clt_36, ctl_36, ceq_36, cle_40, cel_40, clt_40, ctl_40, ceq_40, cle_41, cel_41, clt_41, ctl_41, ceq_41, cle_120, cel_120, clt_120, ctl_120, ceq_120, cle_160, cel_160, clt_160, ctl_160, ceq_160, cle_164, cel_164, clt_164, ctl_164, ceq_164, cle_500, cel_500, clt_500, ctl_500, ceq_500, cle_1000, cel_1000, clt_1000, ctl_1000, ceq_1000, ixr, ixq, ixf, neg_nI, leq_nI, lt_nI, eq_nI, cl_nI, nI_add, pk_mul], rl_18⟩
theorem u2_ne {α : Type} (f : Nat → Nat → α) {c k : Nat} (s : Nat) (v : α) (h : k ≠ c) : u2 f c s v k = f k := up_ne _ _ h
theorem u2_nt {α : Type} (f : Nat → Nat → α) {c s t : Nat} (v : α) (h : t ≠ s) : u2 f c s v c t = f c t := by
  unfold u2
  rw [up_at, up_ne _ _ h]
theorem u2_tt {α : Type} (f : Nat → Nat → α) (c s : Nat) (v : α) : u2 f c s v c s = v := by
  unfold u2
  rw [up_at, up_at]
theorem u2_cc {α : Type} (f : Nat → Nat → α) (c s : Nat) (v : α) : u2 f c s v c = va_up (f c) s v := by
  unfold u2
  rw [up_at]
/-- where it is below: the first of corners 0, 2, 6, 8 -/
def lowQ (T : Nat → Int64) (q : Pt) : Int32 × Int32 := if crn T 0 q < 0 then (q.1, q.2.2.1) else if crn T 2 q < 0 then (q.1, q.2.2.2.1) else if crn T 6 q < 0 then (q.2.1, q.2.2.1) else (q.2.1, q.2.2.2.1)
def lowL (T : Nat → Int64) (l : List Pt) : Int32 × Int32 := match l.findIdx? (fun q => q.2.2.2.2 == 0) with
  | none => (0, 0)
  | some i => lowQ T (l.getD i (0, 0, 0, 0, 0))
theorem lowL_at {T : Nat → Int64} {sd st : Nat → Int32} {l : List Pt} (h : rep sd st l) {i : Nat} (hi : i < l.length) (h0 : st i = 0) (hj : ∀ j, j < i → st j ≠ 0) : lowL T l = lowQ T (qd sd st i) := by
  unfold lowL
  rw [rep_first h hi h0 hj]
  show lowQ T (l.getD i (0, 0, 0, 0, 0)) = _
  rw [List.getD_eq_getElem?_getD, List.getElem?_eq_getElem hi, rep_get h hi]
  rfl
def fullL (l : List Pt) : Bool := !(anyS l 3) && anyS l 0
theorem anyS_f {S st : Nat → Int32} {l : List Pt} (h : rep S st l) {v : Int32} : (∀ j, j < l.length → st j ≠ v) ↔ anyS l v = false := by
  have e := rep_any h v
  constructor
  · intro q
    cases ha : anyS l v with
    | false => rfl
    | true =>
      rw [ha] at e
      obtain ⟨i, hi, hv⟩ := e.mp rfl
      exact absurd hv (q i hi)
  · intro q j hj hv
    rw [q] at e
    exact absurd (e.mpr ⟨j, hj, hv⟩) (by decide)
/-- what PARTS' steps may change -/
def Kp (c : Nat) (iv iv' ai ai' : Nat → Nat → Int32) (aj aj' : Nat → Nat → Int64) : Prop := (∀ k, k ≠ c → iv' k = iv k) ∧ (∀ s, s < 6 → iv' c s = iv c s) ∧ (∀ k, k ≠ c + 1 → k ≠ c + 2 → ai' k = ai k) ∧ ∀ k, k ≠ c + 3 → aj' k = aj k
theorem Kp.trans {c : Nat} {iv iv' iv2 ai ai' ai2 : Nat → Nat → Int32} {aj aj' aj2 : Nat → Nat → Int64} (h : Kp c iv iv' ai ai' aj aj') (h2 : Kp c iv' iv2 ai' ai2 aj' aj2) : Kp c iv iv2 ai ai2 aj aj2 :=
  ⟨fun k hk => (h2.1 k hk).trans (h.1 k hk), fun s hs => (h2.2.1 s hs).trans (h.2.1 s hs), fun k a b => (h2.2.2.1 k a b).trans (h.2.2.1 k a b), fun k a => (h2.2.2.2 k a).trans (h.2.2.2 k a)⟩
theorem Kp.refl (c : Nat) (iv ai : Nat → Nat → Int32) (aj : Nat → Nat → Int64) : Kp c iv iv ai ai aj aj := ⟨fun _ _ => rfl, fun _ _ => rfl, fun _ _ _ => rfl, fun _ _ => rfl⟩
section STEP
variable {x z c : Nat} {iv ai : Nat → Nat → Int32} {aj : Nat → Nat → Int64} {ar : Nat → Nat → Option Nat} {pp : Nat → Option Nat} {f0 : xHp}
theorem PC.kd (h : PC x c) : hKd (hp x iv ai aj ar pp f0) (x + c) = some 2 := (h iv ai aj ar pp f0).1
theorem PC.n0 (h : PC x c) : hN (hp x iv ai aj ar pp f0) (x + c) [(2, 0)] = some (x + (c + 1)) := (h iv ai aj ar pp f0).2.1
theorem PC.n1 (h : PC x c) : hN (hp x iv ai aj ar pp f0) (x + c) [(2, 1)] = some (x + (c + 2)) := (h iv ai aj ar pp f0).2.2.1
theorem PC.n2 (h : PC x c) : hN (hp x iv ai aj ar pp f0) (x + c) [(2, 2)] = some (x + (c + 3)) := (h iv ai aj ar pp f0).2.2.2.1
theorem PC.r3 (h : PC x c) : hR (hp x iv ai aj ar pp f0) (x + c) [(2, 3)] = some (pp c) := (h iv ai aj ar pp f0).2.2.2.2.1
theorem PC.i6 (h : PC x c) : hI (hp x iv ai aj ar pp f0) (x + c) [(2, 6)] = some (iv c 6) := (h iv ai aj ar pp f0).2.2.2.2.2.1.1
theorem PC.i7 (h : PC x c) : hI (hp x iv ai aj ar pp f0) (x + c) [(2, 7)] = some (iv c 7) := (h iv ai aj ar pp f0).2.2.2.2.2.1.2.1
theorem PC.i10 (h : PC x c) : hI (hp x iv ai aj ar pp f0) (x + c) [(2, 10)] = some (iv c 10) := (h iv ai aj ar pp f0).2.2.2.2.2.1.2.2
theorem PC.w6 (h : PC x c) (v : Int32) : hPut (hp x iv ai aj ar pp f0) (x + c) [(2, 6)] (.int v) = some (hp x (u2 iv c 6 v) ai aj ar pp f0) := (h iv ai aj ar pp f0).2.2.2.2.2.2.1.1 v
theorem PC.w7 (h : PC x c) (v : Int32) : hPut (hp x iv ai aj ar pp f0) (x + c) [(2, 7)] (.int v) = some (hp x (u2 iv c 7 v) ai aj ar pp f0) := (h iv ai aj ar pp f0).2.2.2.2.2.2.1.2.1 v
theorem PC.w8 (h : PC x c) (v : Int32) : hPut (hp x iv ai aj ar pp f0) (x + c) [(2, 8)] (.int v) = some (hp x (u2 iv c 8 v) ai aj ar pp f0) := (h iv ai aj ar pp f0).2.2.2.2.2.2.1.2.2.1 v
theorem PC.w9 (h : PC x c) (v : Int32) : hPut (hp x iv ai aj ar pp f0) (x + c) [(2, 9)] (.int v) = some (hp x (u2 iv c 9 v) ai aj ar pp f0) := (h iv ai aj ar pp f0).2.2.2.2.2.2.1.2.2.2.1 v
theorem PC.w10 (h : PC x c) (v : Int32) : hPut (hp x iv ai aj ar pp f0) (x + c) [(2, 10)] (.int v) = some (hp x (u2 iv c 10 v) ai aj ar pp f0) := (h iv ai aj ar pp f0).2.2.2.2.2.2.1.2.2.2.2 v
theorem PC.ld (h : PC x c) {i : Nat} (hi : i < 9) : hJld (hp x iv ai aj ar pp f0) (x + (c + 3)) (nI i) = some (aj (c + 3) i) := (h iv ai aj ar pp f0).2.2.2.2.2.2.2.1 i hi
theorem PC.sv (h : PC x c) {i : Nat} (hi : i < 9) (v : Int64) : hJst (hp x iv ai aj ar pp f0) (x + (c + 3)) (nI i) v = some (hp x iv ai (u2 aj (c + 3) i v) ar pp f0) := (h iv ai aj ar pp f0).2.2.2.2.2.2.2.2.1 i v hi
theorem PC.ln (h : PC x c) : hLen (hp x iv ai aj ar pp f0) (x + (c + 3)) = some 9 := (h iv ai aj ar pp f0).2.2.2.2.2.2.2.2.2
theorem s_fo_loop (hc : PC x c) (hr : rowI x (c + 2) 40) {n : Nat} (hn : n ≤ 40) (h6 : iv c 6 = nI n) : ∀ (w t m : Nat), t + w = n → w < m → (∃ i, t ≤ i ∧ i < n ∧ ai (c + 2) i = 0 ∧ (∀ j, t ≤ j → j < i → ai (c + 2) j ≠ 0) ∧ L_X2_firstOpen_2 (hp x iv ai aj ar pp f0) m (x + c) (nI t) = some (nI i)) ∨ ((∀ j, t ≤ j → j < n → ai (c + 2) j ≠ 0) ∧ L_X2_firstOpen_2 (hp x iv ai aj ar pp f0) m (x + c) (nI t) = some (-1)) := by
  intro w
  induction w with
  | zero =>
    intro t m ht hm
    obtain ⟨m, rfl⟩ : ∃ y, m = y + 1 := ⟨m - 1, by omega⟩
    refine Or.inr ⟨fun j a b => absurd b (by omega), ?_⟩
    show F_X2_firstOpen_2 _ _ _ _ = _
    unfold F_X2_firstOpen_2
    rw [hc.i6, h6, Option.bind_some, if_pos (by rw [leq_nI (by omega) (by omega)]; omega)]
  | succ w ih =>
    intro t m ht hm
    obtain ⟨m, rfl⟩ : ∃ y, m = y + 1 := ⟨m - 1, by omega⟩
    have e : L_X2_firstOpen_2 (hp x iv ai aj ar pp f0) (m + 1) (x + c) (nI t) = if ai (c + 2) t = 0 then some (nI t) else L_X2_firstOpen_2 (hp x iv ai aj ar pp f0) m (x + c) (nI (t + 1)) := by
      show F_X2_firstOpen_2 _ _ _ _ = _
      unfold F_X2_firstOpen_2
      rw [hc.i6, h6, Option.bind_some, if_neg (by rw [leq_nI (by omega) (by omega)]; omega), hc.n1, Option.bind_some, (hr iv ai aj ar pp f0).1 t (by omega), Option.bind_some, add_1]
    rw [e]
    by_cases h0 : ai (c + 2) t = 0
    · rw [if_pos h0]
      exact Or.inl ⟨t, Nat.le_refl _, by omega, h0, fun j a b => absurd b (by omega), rfl⟩
    · rw [if_neg h0]
      rcases ih (t + 1) m (by omega) (by omega) with ⟨i, a, b, d, f, g⟩ | ⟨a, b⟩
      · refine Or.inl ⟨i, by omega, b, d, fun j u v => ?_, g⟩
        by_cases ej : j = t
        · rw [ej]; exact h0
        · exact f j (by omega) v
      · refine Or.inr ⟨fun j u v => ?_, b⟩
        by_cases ej : j = t
        · rw [ej]; exact h0
        · exact a j (by omega) v
theorem s_mark (hc : PC x c) (h1 : rowI x (c + 1) 160) (h2 : rowI x (c + 2) 40) {i k : Nat} (hi : i < 40) (hk : k < 4) : F_X2_markBelow (hp x iv ai aj ar pp f0) (x + c) (nI i) (nI k) = some (hp x (u2 (u2 (u2 iv c 7 1) c 8 (ai (c + 1) (4 * i + k / 2))) c 9 (ai (c + 1) (4 * i + 2 + k % 2))) (u2 ai (c + 2) i 3) aj ar pp f0) := by
  unfold F_X2_markBelow
  rw [hc.n1, Option.bind_some, (h2 iv ai aj ar pp f0).2.1 i _ hi, Option.bind_some, hc.w7, Option.bind_some, hc.n0, Option.bind_some, mul_4, div_2 (by omega), rem_2, nI_add, add_2, nI_add, (h1 _ _ aj ar pp f0).1 _ (by omega), Option.bind_some, hc.w8, Option.bind_some, hc.n0, Option.bind_some, (h1 _ _ aj ar pp f0).1 _ (by omega), Option.bind_some, hc.w9, Option.bind_some, u2_ne ai _ _ (by omega)]
theorem s_odd {a b : Int32} (h : rg a b) (f : xHp) : F_X10_isOdd f (b - a) = some (if od a b = true then 1 else 0) := by
  rw [s_isOdd, len_I h]
  cases e : od a b with
  | false => rw [if_pos (od_f e)]; rfl
  | true => rw [if_neg (by rw [od_t e]; decide)]; rfl
theorem s_odd_t {a b : Int32} (h : rg a b) {f : xHp} (e : od a b = true) : F_X10_isOdd f (b - a) = some 1 := by rw [s_odd h, if_pos e]
theorem s_odd_f {a b : Int32} (h : rg a b) {f : xHp} (e : ¬ od a b = true) : F_X10_isOdd f (b - a) = some 0 := by rw [s_odd h, if_neg e]
theorem s_cut87 (hc : PC x c) (h1 : rowI x (c + 1) 160) (h2 : rowI x (c + 2) 40) {i n w : Nat} (hi : i < n) (hn : n < 40) (h6 : iv c 6 = nI n) {s0 : Int32} (hw : w < 2) (hs : (s0 = 0 ∧ w = 1) ∨ (s0 ≠ 0 ∧ w = 0)) : ∃ ai', F_X2_cutPart_87 (hp x iv ai aj ar pp f0) (x + c) (nI i) s0 = some (1, hp x (u2 iv c 6 (nI (n + 1))) ai' aj ar pp f0) ∧ ai' (c + 1) = hlv (va_cpy (ai (c + 1)) (ai (c + 1)) (4 * (i + 1)) (4 * (i + 2)) (4 * (n - i - 1))) (4 * i) w (4 * i) (4 * (i + 1)) ∧ ai' (c + 2) = va_up (va_cpy (ai (c + 2)) (ai (c + 2)) (i + 1) (i + 2) (n - i - 1)) (i + 1) 0 ∧ ∀ k, k ≠ c + 1 → k ≠ c + 2 → ai' k = ai k := by
  have e1 : ∀ (A : Nat → Nat → Int32), F_X2_cutPart_160 (hp x iv A aj ar pp f0) (x + c) (nI i) (nI w) (nI (4 * i)) (x + (c + 1)) = some (1, hp x (u2 iv c 6 (nI (n + 1))) (u2 (va_up A (c + 1) (hlv (A (c + 1)) (4 * i) w (4 * i) (4 * (i + 1)))) (c + 2) (i + 1) 0) aj ar pp f0) := by
    intro A
    unfold F_X2_cutPart_160
    rw [mul_4, add_1, mul_4, s_halve h1 (by decide) (by omega) (by omega) (by omega) hw, Option.bind_some, hc.n1, Option.bind_some, (h2 iv _ aj ar pp f0).2.1 _ _ (by omega), Option.bind_some, hc.i6, h6, Option.bind_some, add_1, hc.w6, Option.bind_some]
  have e2 : F_X2_cutPart_87 (hp x iv ai aj ar pp f0) (x + c) (nI i) s0 = F_X2_cutPart_160 (hp x iv (va_up (va_up ai (c + 1) (va_cpy (ai (c + 1)) (ai (c + 1)) (4 * (i + 1)) (4 * (i + 2)) (4 * (n - i - 1)))) (c + 2) (va_cpy (ai (c + 2)) (ai (c + 2)) (i + 1) (i + 2) (n - i - 1))) aj ar pp f0) (x + c) (nI i) (nI w) (nI (4 * i)) (x + (c + 1)) := by
    unfold F_X2_cutPart_87
    rw [hc.i6, h6, Option.bind_some, hc.n0, Option.bind_some, Option.bind_some, add_1, add_2, mul_4, mul_4, mul_4, pk_sub (by omega), sub_1 (by omega), mul_4, (h1 iv ai aj ar pp f0).2.2 _ _ _ (by omega) (by omega), Option.bind_some, hc.n1, Option.bind_some, Option.bind_some, (h2 iv _ aj ar pp f0).2.2 _ _ _ (by omega) (by omega), Option.bind_some, hc.n0, Option.bind_some, up_ne ai _ (show c + 2 ≠ c + 1 by omega)]
    rcases hs with ⟨a, rfl⟩ | ⟨a, rfl⟩
    · rw [if_pos a]; rfl
    · rw [if_neg a]; rfl
  refine ⟨_, e2.trans (e1 _), ?_, ?_, ?_⟩
  · rw [u2_ne _ _ _ (show c + 1 ≠ c + 2 by omega), up_at, up_ne _ _ (show c + 1 ≠ c + 2 by omega), up_at]
  · rw [u2_cc, up_ne _ _ (show c + 2 ≠ c + 1 by omega), up_at]
  · intro k a b
    rw [u2_ne _ _ _ b, up_ne _ _ a, up_ne _ _ b, up_ne _ _ a]
theorem s_cutPart (hc : PC x c) (h1 : rowI x (c + 1) 160) (h2 : rowI x (c + 2) 40) {i n : Nat} (hi : i < n) (hn : n ≤ 40) (h6 : iv c 6 = nI n) (hx : rg (ai (c + 1) (4 * i)) (ai (c + 1) (4 * i + 1))) (hy : rg (ai (c + 1) (4 * i + 2)) (ai (c + 1) (4 * i + 3))) :
    (od (ai (c + 1) (4 * i)) (ai (c + 1) (4 * i + 1)) = true ∧ od (ai (c + 1) (4 * i + 2)) (ai (c + 1) (4 * i + 3)) = true → F_X2_cutPart (hp x iv ai aj ar pp f0) (x + c) (nI i) = some (1, hp x iv (u2 ai (c + 2) i 2) aj ar pp f0)) ∧
    (¬ (od (ai (c + 1) (4 * i)) (ai (c + 1) (4 * i + 1)) = true ∧ od (ai (c + 1) (4 * i + 2)) (ai (c + 1) (4 * i + 3)) = true) → 40 ≤ n → F_X2_cutPart (hp x iv ai aj ar pp f0) (x + c) (nI i) = some (0, hp x (u2 iv c 10 1) ai aj ar pp f0)) ∧
    (¬ (od (ai (c + 1) (4 * i)) (ai (c + 1) (4 * i + 1)) = true ∧ od (ai (c + 1) (4 * i + 2)) (ai (c + 1) (4 * i + 3)) = true) → n < 40 → ∃ (w : Nat) (ai' : Nat → Nat → Int32), w < 2 ∧ (w = 0 ↔ od (ai (c + 1) (4 * i)) (ai (c + 1) (4 * i + 1)) = false ∧ (od (ai (c + 1) (4 * i + 2)) (ai (c + 1) (4 * i + 3)) = true ∨ ai (c + 1) (4 * i + 3) - ai (c + 1) (4 * i + 2) ≤ ai (c + 1) (4 * i + 1) - ai (c + 1) (4 * i))) ∧ F_X2_cutPart (hp x iv ai aj ar pp f0) (x + c) (nI i) = some (1, hp x (u2 iv c 6 (nI (n + 1))) ai' aj ar pp f0) ∧ ai' (c + 1) = hlv (va_cpy (ai (c + 1)) (ai (c + 1)) (4 * (i + 1)) (4 * (i + 2)) (4 * (n - i - 1))) (4 * i) w (4 * i) (4 * (i + 1)) ∧ ai' (c + 2) = va_up (va_cpy (ai (c + 2)) (ai (c + 2)) (i + 1) (i + 2) (n - i - 1)) (i + 1) 0 ∧ ∀ k, k ≠ c + 1 → k ≠ c + 2 → ai' k = ai k) := by
  have l0 := s_lengthOf (iv := iv) (ai := ai) (aj := aj) (ar := ar) (pp := pp) (f0 := f0) h1 (by decide) (show 4 * i + 3 < 160 by omega) (w := 0) (by decide)
  have l1 := s_lengthOf (iv := iv) (ai := ai) (aj := aj) (ar := ar) (pp := pp) (f0 := f0) h1 (by decide) (show 4 * i + 3 < 160 by omega) (w := 1) (by decide)
  rw [show 4 * i + 2 * 0 + 1 = 4 * i + 1 by omega, show 4 * i + 2 * 0 = 4 * i by omega] at l0
  rw [show 4 * i + 2 * 1 + 1 = 4 * i + 3 by omega, show 4 * i + 2 * 1 = 4 * i + 2 by omega] at l1
  have e0 : F_X2_cutPart (hp x iv ai aj ar pp f0) (x + c) (nI i) = if od (ai (c + 1) (4 * i)) (ai (c + 1) (4 * i + 1)) = true ∧ od (ai (c + 1) (4 * i + 2)) (ai (c + 1) (4 * i + 3)) = true then some (1, hp x iv (u2 ai (c + 2) i 2) aj ar pp f0) else F_X2_cutPart_47 (hp x iv ai aj ar pp f0) (x + c) (nI i) (ai (c + 1) (4 * i + 1) - ai (c + 1) (4 * i)) (ai (c + 1) (4 * i + 3) - ai (c + 1) (4 * i + 2)) := by
    unfold F_X2_cutPart
    rw [hc.n0, Option.bind_some, mul_4, show (0 : Int32) = nI 0 from rfl, l0, Option.bind_some, Option.bind_some, show (1 : Int32) = nI 1 from rfl, l1, Option.bind_some]
    by_cases eX : od (ai (c + 1) (4 * i)) (ai (c + 1) (4 * i + 1)) = true
    · rw [s_odd_t hx eX, Option.bind_some, if_neg (by decide)]
      by_cases eY : od (ai (c + 1) (4 * i + 2)) (ai (c + 1) (4 * i + 3)) = true
      · rw [s_odd_t hy eY, Option.bind_some, if_neg (by decide), hc.n1, Option.bind_some, (h2 iv ai aj ar pp f0).2.1 _ _ (by omega), Option.bind_some, if_pos ⟨eX, eY⟩]
      · have hn : ¬ (od (ai (c + 1) (4 * i)) (ai (c + 1) (4 * i + 1)) = true ∧ od (ai (c + 1) (4 * i + 2)) (ai (c + 1) (4 * i + 3)) = true) := fun q => eY q.2
        rw [s_odd_f hy eY, Option.bind_some, if_pos (show (0 : Int32) = nI 0 from rfl), if_neg hn]
    · have hn : ¬ (od (ai (c + 1) (4 * i)) (ai (c + 1) (4 * i + 1)) = true ∧ od (ai (c + 1) (4 * i + 2)) (ai (c + 1) (4 * i + 3)) = true) := fun q => eX q.1
      rw [s_odd_f hx eX, Option.bind_some, if_pos (show (0 : Int32) = nI 0 from rfl), if_neg hn]
  refine ⟨fun h => by rw [e0, if_pos h], fun h h40 => ?_, fun h h40 => ?_⟩
  · rw [e0, if_neg h]
    unfold F_X2_cutPart_47
    rw [hc.i6, h6, Option.bind_some, if_neg (by rw [ctl_40 (by omega)]; omega), hc.w10, Option.bind_some]
  · have e47 : F_X2_cutPart_47 (hp x iv ai aj ar pp f0) (x + c) (nI i) (ai (c + 1) (4 * i + 1) - ai (c + 1) (4 * i)) (ai (c + 1) (4 * i + 3) - ai (c + 1) (4 * i + 2)) = if od (ai (c + 1) (4 * i)) (ai (c + 1) (4 * i + 1)) = false ∧ (od (ai (c + 1) (4 * i + 2)) (ai (c + 1) (4 * i + 3)) = true ∨ ai (c + 1) (4 * i + 3) - ai (c + 1) (4 * i + 2) ≤ ai (c + 1) (4 * i + 1) - ai (c + 1) (4 * i)) then F_X2_cutPart_87 (hp x iv ai aj ar pp f0) (x + c) (nI i) 1 else F_X2_cutPart_87 (hp x iv ai aj ar pp f0) (x + c) (nI i) 0 := by
      unfold F_X2_cutPart_47
      rw [hc.i6, h6, Option.bind_some, if_pos (by rw [ctl_40 (by omega)]; omega)]
      by_cases eX : od (ai (c + 1) (4 * i)) (ai (c + 1) (4 * i + 1)) = true
      · have hn : ¬ (od (ai (c + 1) (4 * i)) (ai (c + 1) (4 * i + 1)) = false ∧ (od (ai (c + 1) (4 * i + 2)) (ai (c + 1) (4 * i + 3)) = true ∨ ai (c + 1) (4 * i + 3) - ai (c + 1) (4 * i + 2) ≤ ai (c + 1) (4 * i + 1) - ai (c + 1) (4 * i))) := fun q => by rw [eX] at q; cases q.1
        rw [s_odd_t hx eX, Option.bind_some, if_neg (by decide), if_neg hn]
        unfold F_X2_cutPart_86
        rfl
      · have eX' : od (ai (c + 1) (4 * i)) (ai (c + 1) (4 * i + 1)) = false := by
          cases e : od (ai (c + 1) (4 * i)) (ai (c + 1) (4 * i + 1)) with
          | false => rfl
          | true => exact absurd e eX
        rw [s_odd_f hx eX, Option.bind_some, if_pos rfl]
        by_cases eY : od (ai (c + 1) (4 * i + 2)) (ai (c + 1) (4 * i + 3)) = true
        · have hn : od (ai (c + 1) (4 * i)) (ai (c + 1) (4 * i + 1)) = false ∧ (od (ai (c + 1) (4 * i + 2)) (ai (c + 1) (4 * i + 3)) = true ∨ ai (c + 1) (4 * i + 3) - ai (c + 1) (4 * i + 2) ≤ ai (c + 1) (4 * i + 1) - ai (c + 1) (4 * i)) := ⟨eX', Or.inl eY⟩
          rw [s_odd_t hy eY, Option.bind_some, if_neg (by decide), if_pos hn]
          unfold F_X2_cutPart_82
          rfl
        · rw [s_odd_f hy eY, Option.bind_some, if_pos rfl]
          by_cases hl : ai (c + 1) (4 * i + 1) - ai (c + 1) (4 * i) < ai (c + 1) (4 * i + 3) - ai (c + 1) (4 * i + 2)
          · have hn : ¬ (od (ai (c + 1) (4 * i)) (ai (c + 1) (4 * i + 1)) = false ∧ (od (ai (c + 1) (4 * i + 2)) (ai (c + 1) (4 * i + 3)) = true ∨ ai (c + 1) (4 * i + 3) - ai (c + 1) (4 * i + 2) ≤ ai (c + 1) (4 * i + 1) - ai (c + 1) (4 * i))) := fun q => q.2.elim eY (fun q => absurd hl (Int32.not_lt.mpr q))
            rw [if_pos hl, if_neg hn]
            unfold F_X2_cutPart_86
            rfl
          · have hn : od (ai (c + 1) (4 * i)) (ai (c + 1) (4 * i + 1)) = false ∧ (od (ai (c + 1) (4 * i + 2)) (ai (c + 1) (4 * i + 3)) = true ∨ ai (c + 1) (4 * i + 3) - ai (c + 1) (4 * i + 2) ≤ ai (c + 1) (4 * i + 1) - ai (c + 1) (4 * i)) := ⟨eX', Or.inr (Int32.not_lt.mp hl)⟩
            rw [if_neg hl, if_pos hn]
            unfold F_X2_cutPart_82
            rfl
    by_cases hw : od (ai (c + 1) (4 * i)) (ai (c + 1) (4 * i + 1)) = false ∧ (od (ai (c + 1) (4 * i + 2)) (ai (c + 1) (4 * i + 3)) = true ∨ ai (c + 1) (4 * i + 3) - ai (c + 1) (4 * i + 2) ≤ ai (c + 1) (4 * i + 1) - ai (c + 1) (4 * i))
    · obtain ⟨ai', a1, a2, a3, a4⟩ := s_cut87 (iv := iv) (ai := ai) (aj := aj) (ar := ar) (pp := pp) (f0 := f0) (w := 0) (s0 := 1) hc h1 h2 hi h40 h6 (by decide) (Or.inr ⟨by decide, rfl⟩)
      exact ⟨0, ai', by decide, ⟨fun _ => hw, fun _ => rfl⟩, (e0.trans (if_neg h)).trans ((e47.trans (if_pos hw)).trans a1), a2, a3, a4⟩
    · obtain ⟨ai', a1, a2, a3, a4⟩ := s_cut87 (iv := iv) (ai := ai) (aj := aj) (ar := ar) (pp := pp) (f0 := f0) (w := 1) (s0 := 0) hc h1 h2 hi h40 h6 (by decide) (Or.inl ⟨rfl, rfl⟩)
      exact ⟨1, ai', by decide, ⟨fun q => absurd q (by decide), fun q => absurd q hw⟩, (e0.trans (if_neg h)).trans ((e47.trans (if_neg hw)).trans a1), a2, a3, a4⟩
theorem s_70_step (hc : PC x c) {k m i o : Nat} (hk : k < 4) (ho : o < 9) (hs : hSt 0 (nI k) = some (nI o)) : L_X2_step_70 (m + 1) (hp x iv ai aj ar pp f0) (x + c) (nI i) (nI k) = if 0 ≤ aj (c + 3) o then L_X2_step_70 m (hp x iv ai aj ar pp f0) (x + c) (nI i) (nI (k + 1)) else (F_X2_markBelow (hp x iv ai aj ar pp f0) (x + c) (nI i) (nI k)).bind (fun q => some (1, q)) := by
  show F_X2_step_70 _ _ _ _ _ = _
  unfold F_X2_step_70
  rw [if_neg (by rw [cle_4 (by omega)]; omega), hc.n2, Option.bind_some, hs, Option.bind_some, hc.ld ho, Option.bind_some, add_1, if_pos hc.kd]
theorem s_70_end (hc : PC x c) {m i : Nat} : L_X2_step_70 (m + 1) (hp x iv ai aj ar pp f0) (x + c) (nI i) (nI 4) = (F_X2_cutPart (hp x iv ai aj ar pp f0) (x + c) (nI i)).bind (fun q3 => (hZ q3.1).bind (fun v4 => some (v4, q3.2))) := by
  show F_X2_step_70 _ _ _ _ _ = _
  unfold F_X2_step_70
  rw [if_pos (by decide), if_pos hc.kd]
/-- the rows of a class's cut -/
theorem hlv_cut {S : Nat → Int32} {i n w : Nat} (hi : i < n) (hw : w < 2) : let C := va_cpy S S (4 * (i + 1)) (4 * (i + 2)) (4 * (n - i - 1)); let S' := hlv C (4 * i) w (4 * i) (4 * (i + 1)); (∀ j, j < 4 * i → S' j = S j) ∧ (∀ j, 4 * (i + 2) ≤ j → j < 4 * (n + 1) → S' j = S (j - 4)) ∧ (∀ k, k < 4 → S' (4 * i + k) = if k = 2 * w + 1 then mid (S (4 * i + 2 * w)) (S (4 * i + 2 * w + 1)) else S (4 * i + k)) ∧ ∀ k, k < 4 → S' (4 * (i + 1) + k) = if k = 2 * w then mid (S (4 * i + 2 * w)) (S (4 * i + 2 * w + 1)) else S (4 * i + k) := by
  intro C S'
  have hC : ∀ k, k < 4 * (i + 1) → C k = S k := fun k hk => cpy_out (by omega)
  have hC2 : ∀ j, 4 * (i + 2) ≤ j → j < 4 * (n + 1) → C j = S (j - 4) := fun j a b => by
    show va_cpy S S _ _ _ j = _
    rw [cpy_in a (by omega)]
    congr 1; omega
  refine ⟨fun j hj => ?_, fun j a b => ?_, fun k hk => ?_, fun k hk => ?_⟩
  · show hlv C _ _ _ _ j = _
    unfold hlv
    rw [up_ne _ _ (by omega), cpy_out (by omega), up_ne _ _ (by omega), cpy_out (by omega), hC j (by omega)]
  · show hlv C _ _ _ _ j = _
    unfold hlv
    rw [up_ne _ _ (by omega), cpy_out (by omega), up_ne _ _ (by omega), cpy_out (by omega), hC2 j a b]
  · show hlv C _ _ _ _ _ = _
    unfold hlv
    rw [hC (4 * i + 2 * w) (by omega), hC (4 * i + 2 * w + 1) (by omega)]
    by_cases g1 : k = 2 * w + 1
    · rw [if_pos g1, show 4 * i + k = 4 * i + 2 * w + 1 by omega, up_at]
    · rw [if_neg g1, up_ne _ _ (by omega), cpy_in (by omega) (by omega), up_ne _ _ (by omega), cpy_out (by omega), show 4 * i + (4 * i + k - 4 * i) = 4 * i + k by omega, hC _ (by omega)]
  · show hlv C _ _ _ _ _ = _
    unfold hlv
    rw [hC (4 * i + 2 * w) (by omega), hC (4 * i + 2 * w + 1) (by omega)]
    by_cases g1 : k = 2 * w
    · rw [if_pos g1, up_ne _ _ (by omega), cpy_out (by omega), g1, up_at]
    · rw [if_neg g1, up_ne _ _ (by omega), cpy_out (by omega), up_ne _ _ (by omega), cpy_in (by omega) (by omega), show 4 * i + (4 * (i + 1) + k - 4 * (i + 1)) = 4 * i + k by omega, hC _ (by omega)]
/-- what becomes of a part that is cut, as a pair of parts -/
def cutQ (w : Nat) (q : Pt) : Pt × Pt := if w = 0 then ((q.1, mid q.1 q.2.1, q.2.2.1, q.2.2.2.1, 0), (mid q.1 q.2.1, q.2.1, q.2.2.1, q.2.2.2.1, 0)) else ((q.1, q.2.1, q.2.2.1, mid q.2.2.1 q.2.2.2.1, 0), (q.1, q.2.1, mid q.2.2.1 q.2.2.2.1, q.2.2.2.1, 0))
theorem qd_cut {S S' st' st : Nat → Int32} {i w : Nat} (hw : w < 2) (h1 : ∀ k, k < 4 → S' (4 * i + k) = if k = 2 * w + 1 then mid (S (4 * i + 2 * w)) (S (4 * i + 2 * w + 1)) else S (4 * i + k)) (h2 : ∀ k, k < 4 → S' (4 * (i + 1) + k) = if k = 2 * w then mid (S (4 * i + 2 * w)) (S (4 * i + 2 * w + 1)) else S (4 * i + k)) (h3 : st' i = 0) (h4 : st' (i + 1) = 0) : qd S' st' i = (cutQ w (qd S st i)).1 ∧ qd S' st' (i + 1) = (cutQ w (qd S st i)).2 := by
  have a0 := h1 0 (by decide)
  have a1 := h1 1 (by decide)
  have a2 := h1 2 (by decide)
  have a3 := h1 3 (by decide)
  have b0 := h2 0 (by decide)
  have b1 := h2 1 (by decide)
  have b2 := h2 2 (by decide)
  have b3 := h2 3 (by decide)
  rw [Nat.add_zero] at a0 b0
  unfold qd cutQ
  rw [a0, a1, a2, a3, b0, b1, b2, b3, h3, h4]
  rcases (show w = 0 ∨ w = 1 by omega) with rfl | rfl
  · exact ⟨rfl, rfl⟩
  · exact ⟨rfl, rfl⟩
theorem stepP_cut {T : Nat → Int64} {q : Pt} {w : Nat} (h1 : ¬ upAll T q = true) (h2 : ¬ (crn T 0 q < 0 ∨ crn T 2 q < 0 ∨ crn T 6 q < 0 ∨ crn T 8 q < 0)) (h3 : ¬ (od q.1 q.2.1 = true ∧ od q.2.2.1 q.2.2.2.1 = true)) (hw : w = 0 ↔ od q.1 q.2.1 = false ∧ (od q.2.2.1 q.2.2.2.1 = true ∨ q.2.2.2.1 - q.2.2.1 ≤ q.2.1 - q.1)) : stepP T q = .inr (cutQ w q) := by
  unfold stepP cutQ
  rw [if_neg h1, if_neg h2, if_neg h3]
  by_cases h4 : od q.1 q.2.1 = false ∧ (od q.2.2.1 q.2.2.2.1 = true ∨ q.2.2.2.1 - q.2.2.1 ≤ q.2.1 - q.1)
  · rw [if_pos h4, if_pos (hw.mpr h4)]
  · rw [if_neg h4, if_neg (fun e => h4 (hw.mp e))]
end STEP

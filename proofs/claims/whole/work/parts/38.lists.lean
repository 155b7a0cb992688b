/-! PARTS as lists: first of a state, a step, runs -/
def qd (sd st : Nat → Int32) (i : Nat) : Pt := (sd (4 * i), sd (4 * i + 1), sd (4 * i + 2), sd (4 * i + 3), st i)
def anyS (l : List Pt) (v : Int32) : Bool := l.any (fun q => q.2.2.2.2 == v)
theorem rep_get {sd st : Nat → Int32} {l : List Pt} (h : rep sd st l) {i : Nat} (hi : i < l.length) : l[i] = qd sd st i := by
  have := h i hi
  rw [List.getElem?_eq_getElem hi] at this
  exact Option.some.inj this
theorem rep_any {sd st : Nat → Int32} {l : List Pt} (h : rep sd st l) (v : Int32) : (anyS l v = true) = ∃ i, i < l.length ∧ st i = v := by
  apply propext
  unfold anyS
  rw [List.any_eq_true]
  constructor
  · rintro ⟨q, hq, e⟩
    obtain ⟨i, hi, rfl⟩ := List.getElem_of_mem hq
    rw [rep_get h hi] at e
    exact ⟨i, hi, by simpa [qd] using e⟩
  · rintro ⟨i, hi, e⟩
    refine ⟨l[i], List.getElem_mem hi, ?_⟩
    rw [rep_get h hi]
    simpa [qd] using e
theorem rep_first {sd st : Nat → Int32} {l : List Pt} (h : rep sd st l) {i : Nat} (hi : i < l.length) (h0 : st i = 0) (hj : ∀ j, j < i → st j ≠ 0) : l.findIdx? (fun q => q.2.2.2.2 == 0) = some i := by
  rw [List.findIdx?_eq_some_iff_getElem]
  refine ⟨hi, ?_, fun j hji => ?_⟩
  · rw [rep_get h hi]; simpa [qd] using h0
  · rw [rep_get h (by omega)]; simpa [qd] using hj j hji
theorem stepL_below {T : Nat → Int64} {l : List Pt} (h : anyS l 3 = true) : stepL T l = none := by
  unfold stepL
  exact if_pos h
theorem stepL_shut {T : Nat → Int64} {l : List Pt} (h : anyS l 3 = false) (h0 : anyS l 0 = false) : stepL T l = none := by
  unfold stepL
  rw [if_neg (by unfold anyS at h; rw [h]; decide)]
  have : l.findIdx? (fun q => q.2.2.2.2 == 0) = none := by
    rw [List.findIdx?_eq_none_iff]
    intro q hq
    unfold anyS at h0
    rw [List.any_eq_false] at h0
    simpa using h0 q hq
  rw [this]
theorem stepL_open {T : Nat → Int64} {sd st : Nat → Int32} {l : List Pt} (h : rep sd st l) (h3 : anyS l 3 = false) {i : Nat} (hi : i < l.length) (h0 : st i = 0) (hj : ∀ j, j < i → st j ≠ 0) : stepL T l = match stepP T (qd sd st i) with
    | .inl q => some (l.set i q)
    | .inr w => if 40 ≤ l.length then none else some (l.take i ++ w.1 :: w.2 :: l.drop (i + 1)) := by
  unfold stepL
  rw [if_neg (by unfold anyS at h3; rw [h3]; decide), rep_first h hi h0 hj]
  have : l.getD i (0, 0, 0, 0, 0) = qd sd st i := by
    rw [List.getD_eq_getElem?_getD, List.getElem?_eq_getElem hi, rep_get h hi]
    rfl
  show (match stepP T (l.getD i (0, 0, 0, 0, 0)) with
    | .inl q => some (l.set i q)
    | .inr (q1, q2) => if 40 ≤ l.length then none else some (l.take i ++ q1 :: q2 :: l.drop (i + 1))) = _
  rw [this]
  cases stepP T (qd sd st i) with
  | inl q => rfl
  | inr w => cases w; rfl
def runL (T : Nat → Int64) : Nat → List Pt → Nat × List Pt
  | 0, l => (0, l)
  | n + 1, l => match stepL T l with
    | none => (0, l)
    | some l' => ((runL T n l').1 + 1, (runL T n l').2)
theorem runL_none {T : Nat → Int64} {n : Nat} {l : List Pt} (h : stepL T l = none) : runL T n l = (0, l) := by
  cases n with
  | zero => rfl
  | succ n => unfold runL; rw [h]
theorem runL_some {T : Nat → Int64} {n : Nat} {l l' : List Pt} (h : stepL T l = some l') : runL T (n + 1) l = ((runL T n l').1 + 1, (runL T n l').2) := by
  conv => lhs; unfold runL
  rw [h]
theorem itL_add {T : Nat → Int64} : ∀ (a b : Nat) (l l1 l2 : List Pt), itL T a l = some l1 → itL T b l1 = some l2 → itL T (a + b) l = some l2 := by
  intro a
  induction a with
  | zero =>
    intro b l l1 l2 h1 h2
    have e : l = l1 := Option.some.inj h1
    rw [e, Nat.zero_add]
    exact h2
  | succ a ih =>
    intro b l l1 l2 h1 h2
    rw [show a + 1 + b = (a + b) + 1 by omega]
    have h1' : (stepL T l).bind (itL T a) = some l1 := h1
    show (stepL T l).bind (itL T (a + b)) = some l2
    cases hs : stepL T l with
    | none => rw [hs] at h1'; cases h1'
    | some l' =>
      rw [hs] at h1'
      exact ih b l' l1 l2 h1' h2
theorem runL_it {T : Nat → Int64} : ∀ (n : Nat) (l : List Pt), itL T (runL T n l).1 l = some (runL T n l).2 := by
  intro n
  induction n with
  | zero => intro l; rfl
  | succ n ih =>
    intro l
    cases hs : stepL T l with
    | none => rw [runL_none hs]; rfl
    | some l' =>
      rw [runL_some hs]
      show (stepL T l).bind (itL T (runL T n l').1) = some (runL T n l').2
      rw [hs]
      exact ih l'
theorem runL_of {T : Nat → Int64} : ∀ (m n : Nat) (l l1 : List Pt), itL T m l = some l1 → stepL T l1 = none → m ≤ n → runL T n l = (m, l1) := by
  intro m
  induction m with
  | zero =>
    intro n l l1 h1 h2 _
    have e : l = l1 := Option.some.inj h1
    rw [e]
    exact runL_none h2
  | succ m ih =>
    intro n l l1 h1 h2 hn
    obtain ⟨n, rfl⟩ : ∃ y, n = y + 1 := ⟨n - 1, by omega⟩
    have h1' : (stepL T l).bind (itL T m) = some l1 := h1
    cases hs : stepL T l with
    | none => rw [hs] at h1'; cases h1'
    | some l' =>
      rw [hs] at h1'
      rw [runL_some hs, ih n l' l1 h1' h2 (by omega)]
/-! what a step keeps -/
def rgQ (q : Pt) : Prop := rg q.1 q.2.1 ∧ rg q.2.2.1 q.2.2.2.1
def rgL (l : List Pt) : Prop := ∀ q ∈ l, rgQ q
theorem od_f {a b : Int32} (h : od a b = false) : (b.toInt - a.toInt) % 2 = 0 := by
  unfold od at h
  have := of_decide_eq_false h
  omega
theorem od_t {a b : Int32} (h : od a b = true) : (b.toInt - a.toInt) % 2 = 1 := of_decide_eq_true h
theorem stepP_inl {T : Nat → Int64} {q w : Pt} (h : stepP T q = .inl w) : w.1 = q.1 ∧ w.2.1 = q.2.1 ∧ w.2.2.1 = q.2.2.1 ∧ w.2.2.2.1 = q.2.2.2.1 ∧ (w.2.2.2.2 = 1 ∨ w.2.2.2.2 = 2 ∨ w.2.2.2.2 = 3) := by
  unfold stepP at h
  split at h
  · cases h; exact ⟨rfl, rfl, rfl, rfl, Or.inl rfl⟩
  split at h
  · cases h; exact ⟨rfl, rfl, rfl, rfl, Or.inr (Or.inr rfl)⟩
  split at h
  · cases h; exact ⟨rfl, rfl, rfl, rfl, Or.inr (Or.inl rfl)⟩
  split at h
  · cases h
  · cases h
theorem stepP_inr {T : Nat → Int64} {q w v : Pt} (h : stepP T q = .inr (w, v)) (hq : rgQ q) : rgQ w ∧ rgQ v ∧ w.2.2.2.2 = 0 ∧ v.2.2.2.2 = 0 := by
  unfold stepP at h
  split at h
  · cases h
  split at h
  · cases h
  split at h
  · cases h
  rename_i h1
  split at h
  · rename_i h2
    cases h
    have := mid_rg hq.1 (od_f h2.1)
    exact ⟨⟨this.1, hq.2⟩, ⟨this.2, hq.2⟩, rfl, rfl⟩
  · rename_i h2
    cases h
    have hy : od q.2.2.1 q.2.2.2.1 = false := by
      cases hy : od q.2.2.1 q.2.2.2.1 with
      | false => rfl
      | true =>
        cases hx : od q.1 q.2.1 with
        | true => exact absurd ⟨hx, hy⟩ h1
        | false => exact absurd ⟨hx, Or.inl hy⟩ h2
    have := mid_rg hq.2 (od_f hy)
    exact ⟨⟨hq.1, this.1⟩, ⟨hq.1, this.2⟩, rfl, rfl⟩
def shut (l : List Pt) : Nat := l.countP (fun q => q.2.2.2.2 != 0)
/-- a step, looked at: one part is shut, or cut in two -/
theorem stepL_cases {T : Nat → Int64} {l l' : List Pt} (h : stepL T l = some l') : ∃ i, ∃ hi : i < l.length, l[i].2.2.2.2 = 0 ∧ ((∃ q, stepP T l[i] = .inl q ∧ l' = l.set i q) ∨ ∃ q1 q2, stepP T l[i] = .inr (q1, q2) ∧ l.length < 40 ∧ l' = l.take i ++ q1 :: q2 :: l.drop (i + 1)) := by
  unfold stepL at h
  split at h
  · cases h
  split at h
  · cases h
  · rename_i i hf
    rw [List.findIdx?_eq_some_iff_getElem] at hf
    obtain ⟨hi, h0, _⟩ := hf
    have e : l.getD i (0, 0, 0, 0, 0) = l[i] := by
      rw [List.getD_eq_getElem?_getD, List.getElem?_eq_getElem hi]
      rfl
    rw [e] at h
    refine ⟨i, hi, by simpa using h0, ?_⟩
    split at h
    · rename_i q hq
      cases h
      exact Or.inl ⟨q, hq, rfl⟩
    · rename_i q1 q2 hq
      split at h
      · cases h
      · cases h
        exact Or.inr ⟨q1, q2, hq, by omega, rfl⟩
theorem cut_split {l : List Pt} {i : Nat} (hi : i < l.length) : l = l.take i ++ l[i] :: l.drop (i + 1) := by
  rw [← List.drop_eq_getElem_cons hi, List.take_append_drop]
theorem stepL_keeps {T : Nat → Int64} {l l' : List Pt} (h : stepL T l = some l') (h1 : l.length ≤ 40) (h2 : rgL l) : l'.length ≤ 40 ∧ rgL l' ∧ l'.length + shut l' = l.length + shut l + 1 := by
  obtain ⟨i, hi, h0, ⟨q, hq, rfl⟩ | ⟨q1, q2, hq, hl, rfl⟩⟩ := stepL_cases h
  · obtain ⟨e1, e2, e3, e4, e5⟩ := stepP_inl hq
    refine ⟨by rw [List.length_set]; exact h1, fun w hw => ?_, ?_⟩
    · rcases List.mem_or_eq_of_mem_set hw with hw | rfl
      · exact h2 w hw
      · have := h2 _ (List.getElem_mem hi)
        unfold rgQ at this ⊢
        rw [e1, e2, e3, e4]
        exact this
    · have e6 : (q.2.2.2.2 != 0) = true := by
        rcases e5 with e | e | e <;> rw [e] <;> decide
      have e7 : (l[i].2.2.2.2 != 0) = false := by rw [h0]; decide
      unfold shut
      rw [List.countP_set hi, List.length_set, e6, e7]
      simp
      omega
  · obtain ⟨r1, r2, r3, r4⟩ := stepP_inr hq (h2 _ (List.getElem_mem hi))
    have hs := cut_split hi
    refine ⟨?_, fun w hw => ?_, ?_⟩
    · simp only [List.length_append, List.length_take, List.length_cons, List.length_drop]
      omega
    · rw [List.mem_append, List.mem_cons, List.mem_cons] at hw
      rcases hw with hw | rfl | rfl | hw
      · exact h2 w (List.mem_of_mem_take hw)
      · exact r1
      · exact r2
      · exact h2 w (List.mem_of_mem_drop hw)
    · have e7 : (l[i].2.2.2.2 != 0) = false := by rw [h0]; decide
      have e8 : shut l = (l.take i).countP (fun q => q.2.2.2.2 != 0) + (l.drop (i + 1)).countP (fun q => q.2.2.2.2 != 0) := by
        unfold shut
        conv => lhs; rw [hs]
        rw [List.countP_append, List.countP_cons, e7]
        simp
      rw [e8]
      unfold shut
      rw [List.countP_append, List.countP_cons, List.countP_cons, r3, r4]
      simp only [List.length_append, List.length_take, List.length_cons, List.length_drop, bne_self_eq_false, Bool.false_eq_true, if_false]
      omega
theorem shut_le (l : List Pt) : shut l ≤ l.length := List.countP_le_length
theorem itL_keeps {T : Nat → Int64} : ∀ (m : Nat) (l l' : List Pt), itL T m l = some l' → l.length ≤ 40 → rgL l → l'.length ≤ 40 ∧ rgL l' ∧ l'.length + shut l' = l.length + shut l + m := by
  intro m
  induction m with
  | zero =>
    intro l l' h h1 h2
    have e : l = l' := Option.some.inj h
    rw [← e]
    exact ⟨h1, h2, rfl⟩
  | succ m ih =>
    intro l l' h h1 h2
    have h' : (stepL T l).bind (itL T m) = some l' := h
    cases hs : stepL T l with
    | none => rw [hs] at h'; cases h'
    | some w =>
      rw [hs] at h'
      obtain ⟨a1, a2, a3⟩ := stepL_keeps hs h1 h2
      obtain ⟨b1, b2, b3⟩ := ih w l' h' a1 a2
      exact ⟨b1, b2, by omega⟩
/-- rows that hold the parts behind a cut -/
theorem rep_cut {S st S' st' : Nat → Int32} {l : List Pt} {i : Nat} {q1 q2 : Pt} (h : rep S st l) (hi : i < l.length) (h1 : ∀ j, j < 4 * i → S' j = S j) (h1' : ∀ j, j < i → st' j = st j) (h2 : qd S' st' i = q1) (h3 : qd S' st' (i + 1) = q2) (h4 : ∀ j, 4 * (i + 2) ≤ j → j < 4 * (l.length + 1) → S' j = S (j - 4)) (h4' : ∀ j, i + 2 ≤ j → j < l.length + 1 → st' j = st (j - 1)) : rep S' st' (l.take i ++ q1 :: q2 :: l.drop (i + 1)) := by
  intro j hj
  have hl : (l.take i).length = i := by rw [List.length_take]; omega
  have hj' : j < l.length + 1 := by
    simp only [List.length_append, List.length_take, List.length_cons, List.length_drop] at hj
    omega
  show _ = some (qd S' st' j)
  by_cases c1 : j < i
  · rw [List.getElem?_append_left (by omega), List.getElem?_take_of_lt c1]
    refine (h j (by omega)).trans ?_
    unfold qd
    rw [h1 _ (by omega), h1 _ (by omega), h1 _ (by omega), h1 _ (by omega), h1' _ c1]
  · rw [List.getElem?_append_right (by omega), hl]
    by_cases c2 : j = i
    · subst c2
      rw [Nat.sub_self, List.getElem?_cons_zero, h2]
    · by_cases c3 : j = i + 1
      · subst c3
        rw [show i + 1 - i = 1 by omega, List.getElem?_cons_succ, List.getElem?_cons_zero, h3]
      · obtain ⟨k, rfl⟩ : ∃ k, j = i + 2 + k := ⟨j - (i + 2), by omega⟩
        rw [show i + 2 + k - i = k + 1 + 1 by omega, List.getElem?_cons_succ, List.getElem?_cons_succ, List.getElem?_drop]
        refine (h (i + 1 + k) (by omega)).trans ?_
        unfold qd
        rw [h4 _ (by omega) (by omega), h4 _ (by omega) (by omega), h4 _ (by omega) (by omega), h4 _ (by omega) (by omega), h4' _ (by omega) (by omega)]
        rw [show 4 * (i + 2 + k) - 4 = 4 * (i + 1 + k) by omega, show 4 * (i + 2 + k) + 1 - 4 = 4 * (i + 1 + k) + 1 by omega, show 4 * (i + 2 + k) + 2 - 4 = 4 * (i + 1 + k) + 2 by omega, show 4 * (i + 2 + k) + 3 - 4 = 4 * (i + 1 + k) + 3 by omega, show i + 2 + k - 1 = i + 1 + k by omega]
theorem rep_set {S st : Nat → Int32} {l : List Pt} {i : Nat} (h : rep S st l) (hi : i < l.length) (v : Int32) : rep S (va_up st i v) (l.set i (qd S (va_up st i v) i)) := by
  intro j hj
  rw [List.length_set] at hj
  show _ = some (qd S (va_up st i v) j)
  by_cases c : j = i
  · subst c
    rw [List.getElem?_set_self hi]
  · rw [List.getElem?_set_ne (by omega)]
    refine (h j hj).trans ?_
    unfold qd
    rw [up_ne _ _ c]
theorem upAll_iff {T : Nat → Int64} {q : Pt} : (upAll T q = true) ↔ ∀ k, k < 9 → 0 ≤ crn T k q := by
  unfold upAll
  rw [List.all_eq_true]
  constructor
  · intro h k hk
    exact of_decide_eq_true (h k (List.mem_range.mpr hk))
  · intro h k hk
    exact decide_eq_true (h k (List.mem_range.mp hk))
theorem mnR_nn (G : Nat → Int64) : ∀ (n t : Nat) (s : Int64), (0 ≤ mnR G n t s) ↔ (0 ≤ s ∧ ∀ i, t ≤ i → i < t + n → 0 ≤ G i) := by
  intro n
  induction n with
  | zero =>
    intro t s
    exact ⟨fun h => ⟨h, fun i a b => absurd b (by omega)⟩, fun h => h.1⟩
  | succ n ih =>
    intro t s
    show 0 ≤ mnR G n (t + 1) _ ↔ _
    rw [ih]
    constructor
    · rintro ⟨a, b⟩
      by_cases hlt : G t < s
      · rw [if_pos hlt] at a
        have hs : 0 ≤ s := Int64.le_trans a (Int64.le_of_lt hlt)
        refine ⟨hs, fun i c d => ?_⟩
        by_cases e : i = t
        · rw [e]; exact a
        · exact b i (by omega) (by omega)
      · rw [if_neg hlt] at a
        refine ⟨a, fun i c d => ?_⟩
        by_cases e : i = t
        · rw [e]; exact Int64.le_trans a (Int64.not_lt.mp hlt)
        · exact b i (by omega) (by omega)
    · rintro ⟨a, b⟩
      refine ⟨?_, fun i c d => b i (by omega) (by omega)⟩
      split
      · exact b t (Nat.le_refl _) (by omega)
      · exact a
theorem least_nn (G : Nat → Int64) : (0 ≤ mnR G 8 1 (G 0)) ↔ ∀ k, k < 9 → 0 ≤ G k := by
  rw [mnR_nn]
  constructor
  · rintro ⟨a, b⟩ k hk
    by_cases e : k = 0
    · rw [e]; exact a
    · exact b k (by omega) (by omega)
  · intro h
    exact ⟨h 0 (by decide), fun i a b => h i (by omega)⟩

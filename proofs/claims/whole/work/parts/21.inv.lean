/-! PARTS, as lists: a, b, c, d and what each is (0 OPEN, 1 SHOWN, 2 STUCK, 3 BELOW) -/
abbrev Pt : Type := Int32 × Int32 × Int32 × Int32 × Int32
/-- what becomes of a polynomial between two ends -/
def btw (T : Nat → Int64) (u v s r : Int64) : Int64 := (((((T 0) * 131072) + ((T 1) * (256 * (s + r)))) + ((T 2) * ((2 * s) * r))) * 131072) + ((((T 3) * 131072) + ((T 4) * (256 * (s + r)))) + ((T 5) * ((2 * s) * r))) * (256 * (u + v)) + ((((T 6) * 131072) + ((T 7) * (256 * (s + r)))) + ((T 8) * ((2 * s) * r))) * ((2 * u) * v)
def crn (T : Nat → Int64) (k : Nat) (q : Pt) : Int64 := btw T (if k / 3 = 2 then q.2.1 else q.1).toInt64 (if k / 3 = 0 then q.1 else q.2.1).toInt64 (if k % 3 = 2 then q.2.2.2.1 else q.2.2.1).toInt64 (if k % 3 = 0 then q.2.2.1 else q.2.2.2.1).toInt64
def upAll (T : Nat → Int64) (q : Pt) : Bool := (List.range 9).all (fun k => decide (0 ≤ crn T k q))
def od (a b : Int32) : Bool := decide ((b.toInt - a.toInt) % 2 = 1)
def mid (a b : Int32) : Int32 := a + (b - a) / 2
def stepP (T : Nat → Int64) (q : Pt) : Pt ⊕ (Pt × Pt) :=
  if upAll T q = true then .inl (q.1, q.2.1, q.2.2.1, q.2.2.2.1, 1)
  else if crn T 0 q < 0 ∨ crn T 2 q < 0 ∨ crn T 6 q < 0 ∨ crn T 8 q < 0 then .inl (q.1, q.2.1, q.2.2.1, q.2.2.2.1, 3)
  else if od q.1 q.2.1 = true ∧ od q.2.2.1 q.2.2.2.1 = true then .inl (q.1, q.2.1, q.2.2.1, q.2.2.2.1, 2)
  else if od q.1 q.2.1 = false ∧ (od q.2.2.1 q.2.2.2.1 = true ∨ q.2.2.2.1 - q.2.2.1 ≤ q.2.1 - q.1) then .inr ((q.1, mid q.1 q.2.1, q.2.2.1, q.2.2.2.1, 0), (mid q.1 q.2.1, q.2.1, q.2.2.1, q.2.2.2.1, 0))
  else .inr ((q.1, q.2.1, q.2.2.1, mid q.2.2.1 q.2.2.2.1, 0), (q.1, q.2.1, mid q.2.2.1 q.2.2.2.1, q.2.2.2.1, 0))
def stepL (T : Nat → Int64) (l : List Pt) : Option (List Pt) :=
  if l.any (fun q => q.2.2.2.2 == 3) = true then none else match l.findIdx? (fun q => q.2.2.2.2 == 0) with
    | none => none
    | some i => match stepP T (l.getD i (0, 0, 0, 0, 0)) with
      | .inl q => some (l.set i q)
      | .inr (q1, q2) => if 40 ≤ l.length then none else some (l.take i ++ q1 :: q2 :: l.drop (i + 1))
def itL (T : Nat → Int64) : Nat → List Pt → Option (List Pt)
  | 0, l => some l
  | n + 1, l => (stepL T l).bind (itL T n)
/-- the coefficients of polynomial p, the sides of box b, as the reference has them -/
def Tm (ts : Nat → Int64) (p : Nat) : Nat → Int64 := fun t => if t < 9 then ts (9 * p + t) else 0
def bx (bs : Nat → Int32) (b : Nat) : Pt := (bs (4 * b), bs (4 * b + 1), bs (4 * b + 2), bs (4 * b + 3), 0)
/-- two rows hold a list of parts -/
def rep (sd st : Nat → Int32) (l : List Pt) : Prop := ∀ i, i < l.length → l[i]? = some (sd (4 * i), sd (4 * i + 1), sd (4 * i + 2), sd (4 * i + 3), st i)
/-! what holds between the class's cells and the reference's -/
/-- a cell of ours behind the fixed ones, known by its owner -/
def ob (x z : Nat) (own : Nat → Nat × Nat) (a : Nat) (t : Nat × Nat) : Prop := x + 41 ≤ a ∧ a < z ∧ own a = t
theorem ob_ne {x z : Nat} {own : Nat → Nat × Nat} {a b : Nat} {t u : Nat × Nat} (ha : ob x z own a t) (hb : ob x z own b u) (h : t ≠ u) : a ≠ b := fun e => h (by rw [← ha.2.2, ← hb.2.2, e])
/-- faults and traces -/
def iT (cf ct mf mt : Int32) : Prop := cf = mf ∧ ct = mt
/-- a sheet: its row, its lane, its length, its numbers -/
def shOk (x z : Nat) (f0 : xHp) (own : Nat → Nat × Nat) (k : Nat) (r : Option Nat) (ln sl : Int32) (cs : Nat → Int64) : Prop :=
  (r = none ∧ ln = -9) ∨ ∃ (a b n : Nat) (g : Nat → Int64), r = some a ∧ ob x z own a (1, k) ∧ ob x z own b (2, k) ∧ f0 a = some (.inr (.inr (.inr (5, [.int ln, .ref b])))) ∧ f0 b = some (.inr (.inl (n, g))) ∧ (ln = 0 ∨ ln = 1 ∨ ln = 2) ∧ n ≤ 30 ∧ sl = nI n ∧ ∀ i, i < n → g i = cs (30 * k + i)
def iS (x z : Nat) (f0 : xHp) (own : Nat → Nat × Nat) (r : Nat → Option Nat) (ln sl : Nat → Int32) (cs : Nat → Int64) : Prop := ∀ k, k < 4 → shOk x z f0 own k (r k) (ln k) (sl k) cs
/-- a polynomial: its object, its row -/
def poOk (x z : Nat) (f0 : xHp) (own : Nat → Nat × Nat) (p : Nat) (r : Option Nat) (ts : Nat → Int64) : Prop :=
  ∃ (a b : Nat) (g : Nat → Int64), r = some a ∧ ob x z own a (3, p) ∧ ob x z own b (4, p) ∧ f0 a = some (.inr (.inr (.inr (4, [.ref b])))) ∧ f0 b = some (.inr (.inl (9, g))) ∧ ∀ t, t < 9 → g t = ts (9 * p + t) ∧ -1000 ≤ g t ∧ g t ≤ 1000
def iP (x z : Nat) (f0 : xHp) (own : Nat → Nat × Nat) (cn mn : Int32) (r : Nat → Option Nat) (ts : Nat → Int64) : Prop := ∃ n, n ≤ 30 ∧ cn = nI n ∧ mn = nI n ∧ ∀ p, p < n → poOk x z f0 own p (r p) ts
/-- boxes -/
def rg (a b : Int32) : Prop := -2048 ≤ a ∧ b ≤ 2048 ∧ a < b
def iB (cn mn : Int32) (cs ms : Nat → Int32) : Prop := ∃ n, n ≤ 30 ∧ cn = nI n ∧ mn = nI n ∧ (∀ i, i < 4 * n → cs i = ms i) ∧ ∀ b, b < n → rg (ms (4 * b)) (ms (4 * b + 1)) ∧ rg (ms (4 * b + 2)) (ms (4 * b + 3))
/-- parts: cp the class's object's whole numbers, mp, mb, mm, lx, ly the reference's -/
def iR (cp : Nat → Int32) (mp mb mm lx ly : Int32) (po : Option Nat) (cs ct ms mt : Nat → Int32) (np nb : Int32) (r : Nat → Option Nat) (ts : Nat → Int64) (bs : Nat → Int32) : Prop :=
  ∃ l : List Pt, l.length ≤ 40 ∧ cp 6 = nI l.length ∧ mm = nI l.length ∧ rep cs ct l ∧ rep ms mt l ∧ (cp 7 = if l.any (fun q => q.2.2.2.2 == 3) = true then 1 else 0) ∧ (l.any (fun q => q.2.2.2.2 == 3) = true → cp 8 = lx ∧ cp 9 = ly) ∧
    ((l = [] ∧ po = none) ∨ ∃ p b m : Nat, nI p < np ∧ p < 30 ∧ nI b < nb ∧ b < 30 ∧ cp 4 = nI p ∧ mp = nI p ∧ cp 5 = nI b ∧ mb = nI b ∧ po = r p ∧ po ≠ none ∧ itL (Tm ts p) m [bx bs b] = some l)
/-- a number of squares is not too large -/
def b60 (v : Int64) : Prop := -1152921504606846976 ≤ v ∧ v ≤ 1152921504606846976
/-- a proof -/
def prOk (x z : Nat) (f0 : xHp) (own : Nat → Nat × Nat) (q : Nat) (r : Option Nat) (kd po bo ln : Int32) (ns : Nat → Int64) (np nb : Int32) (pr : Nat → Option Nat) (ts : Nat → Int64) (bs : Nat → Int32) : Prop :=
  ∃ (a b n p pa : Nat) (g : Nat → Int64), r = some a ∧ ob x z own a (5, q) ∧ ob x z own b (6, q) ∧ f0 b = some (.inr (.inl (n, g))) ∧ n ≤ 160 ∧ ln = nI n ∧ nI p < np ∧ p < 30 ∧ po = nI p ∧ pr p = some pa ∧ (∀ i, i < n → g i = ns (160 * q + i)) ∧
    ((kd = 0 ∧ bo = -9 ∧ f0 a = some (.inr (.inr (.inr (7, [.int 0, .ref pa, .int po, .ref b])))) ∧ ∃ k, k ≤ 3 ∧ n = 5 * k ∧ ∀ i, i < n → b60 (g i))
    ∨ (kd = 3 ∧ bo = -9 ∧ f0 a = some (.inr (.inr (.inr (6, [.int 3, .ref pa, .int po, .ref b])))) ∧ ∃ k, k ≤ 3 ∧ n = 5 * k + 4 ∧ (∀ i, i < n → b60 (g i)) ∧ ∀ i, 5 * k ≤ i → i < n → -1000000000 ≤ g i ∧ g i ≤ 1000000000)
    ∨ ∃ (c bn : Nat) (sd : Nat → Int32), ob x z own c (7, q) ∧ f0 c = some (.inl (4, sd)) ∧ nI bn < nb ∧ bn < 30 ∧ bo = nI bn ∧ (∀ j, j < 4 → sd j = bs (4 * bn + j)) ∧
      ((kd = 1 ∧ n = 9 ∧ f0 a = some (.inr (.inr (.inr (0, [.int 1, .ref pa, .int po, .ref b, .int bo, .ref c])))))
      ∨ (kd = 2 ∧ f0 a = some (.inr (.inr (.inr (3, [.int bo, .ref c, .int 2, .ref pa, .int po, .ref b])))) ∧ ∃ (m : Nat) (l : List Pt), itL (Tm ts p) m [bx bs bn] = some l ∧ l.length ≤ 40 ∧ n = 4 * l.length ∧ ∀ w ∈ l, w.2.2.2.2 = 1)))
def iQ (x z : Nat) (f0 : xHp) (own : Nat → Nat × Nat) (cn mn : Int32) (r : Nat → Option Nat) (kd po bo ln : Nat → Int32) (ns : Nat → Int64) (np nb : Int32) (pr : Nat → Option Nat) (ts : Nat → Int64) (bs : Nat → Int32) : Prop := ∃ n, n ≤ 40 ∧ cn = nI n ∧ mn = nI n ∧ ∀ q, q < n → prOk x z f0 own q (r q) (kd q) (po q) (bo q) (ln q) ns np nb pr ts bs
def INV (x z : Nat) (iv ai : Nat → Nat → Int32) (aj : Nat → Nat → Int64) (ar : Nat → Nat → Option Nat) (pp : Nat → Option Nat) (f0 : xHp) : Prop :=
  x + 41 ≤ z ∧ ∃ own : Nat → Nat × Nat, iT (iv 0 9) (iv 9 4) (iv 19 0) (iv 19 1) ∧ iS x z f0 own (ar 1) (ai 20) (ai 21) (aj 22) ∧ iP x z f0 own (iv 0 6) (iv 19 5) (ar 2) (aj 23) ∧ iB (iv 0 7) (iv 19 8) (ai 3) (ai 25) ∧
    iR (iv 5) (iv 19 10) (iv 19 11) (iv 19 12) (iv 19 15) (iv 19 16) (pp 5) (ai 6) (ai 7) (ai 26) (ai 27) (iv 0 6) (iv 0 7) (ar 2) (aj 23) (ai 25) ∧
    iQ x z f0 own (iv 0 8) (iv 19 20) (ar 4) (ai 30) (ai 31) (ai 32) (ai 33) (aj 34) (iv 0 6) (iv 0 7) (ar 2) (aj 23) (ai 25)
/-! what is kept when cells come, or one changes -/
def Fr (x z z' : Nat) (f0 f1 : xHp) (own own' : Nat → Nat × Nat) (E : Nat × Nat → Prop) : Prop := z ≤ z' ∧ ∀ a, x + 41 ≤ a → a < z → own' a = own a ∧ (¬ E (own a) → f1 a = f0 a)
section FRAME
variable {x z z' : Nat} {f0 f1 : xHp} {own own' : Nat → Nat × Nat} {E : Nat × Nat → Prop}
theorem Fr.kp (h : Fr x z z' f0 f1 own own' E) {a : Nat} {t : Nat × Nat} (ha : ob x z own a t) : ob x z' own' a t := ⟨ha.1, Nat.lt_of_lt_of_le ha.2.1 h.1, (h.2 a ha.1 ha.2.1).1.trans ha.2.2⟩
theorem Fr.sm (h : Fr x z z' f0 f1 own own' E) {a : Nat} {t : Nat × Nat} (ha : ob x z own a t) (hE : ¬ E t) : f1 a = f0 a := (h.2 a ha.1 ha.2.1).2 (by rw [ha.2.2]; exact hE)
theorem shOk.keep (h : Fr x z z' f0 f1 own own' E) {k : Nat} (hE : ¬ E (1, k) ∧ ¬ E (2, k)) {r : Option Nat} {ln sl : Int32} {cs : Nat → Int64} (hs : shOk x z f0 own k r ln sl cs) : shOk x z' f1 own' k r ln sl cs := by
  rcases hs with hs | ⟨a, b, n, g, h1, h2, h3, h4, h5, h6⟩
  · exact Or.inl hs
  · exact Or.inr ⟨a, b, n, g, h1, h.kp h2, h.kp h3, (h.sm h2 hE.1).trans h4, (h.sm h3 hE.2).trans h5, h6⟩
theorem iS.keep (h : Fr x z z' f0 f1 own own' E) (hE : ∀ k, ¬ E (1, k) ∧ ¬ E (2, k)) {r : Nat → Option Nat} {ln sl : Nat → Int32} {cs : Nat → Int64} (hs : iS x z f0 own r ln sl cs) : iS x z' f1 own' r ln sl cs := fun k hk => (hs k hk).keep h (hE k)
theorem poOk.keep (h : Fr x z z' f0 f1 own own' E) {p : Nat} (hE : ¬ E (3, p) ∧ ¬ E (4, p)) {r : Option Nat} {ts : Nat → Int64} (hs : poOk x z f0 own p r ts) : poOk x z' f1 own' p r ts := by
  obtain ⟨a, b, g, h1, h2, h3, h4, h5, h6⟩ := hs
  exact ⟨a, b, g, h1, h.kp h2, h.kp h3, (h.sm h2 hE.1).trans h4, (h.sm h3 hE.2).trans h5, h6⟩
theorem iP.keep (h : Fr x z z' f0 f1 own own' E) (hE : ∀ p, ¬ E (3, p) ∧ ¬ E (4, p)) {cn mn : Int32} {r : Nat → Option Nat} {ts : Nat → Int64} (hs : iP x z f0 own cn mn r ts) : iP x z' f1 own' cn mn r ts := by
  obtain ⟨n, h1, h2, h3, h4⟩ := hs
  exact ⟨n, h1, h2, h3, fun p hp => (h4 p hp).keep h (hE p)⟩
theorem prOk.keep (h : Fr x z z' f0 f1 own own' E) {q : Nat} (hE : ¬ E (5, q) ∧ ¬ E (6, q) ∧ ¬ E (7, q)) {r : Option Nat} {kd po bo ln : Int32} {ns : Nat → Int64} {np nb : Int32} {pr : Nat → Option Nat} {ts : Nat → Int64} {bs : Nat → Int32} (hs : prOk x z f0 own q r kd po bo ln ns np nb pr ts bs) : prOk x z' f1 own' q r kd po bo ln ns np nb pr ts bs := by
  obtain ⟨a, b, n, p, pa, g, h1, h2, h3, h4, h5, h6, h7, h8, h9, h10, h11, h12⟩ := hs
  refine ⟨a, b, n, p, pa, g, h1, h.kp h2, h.kp h3, (h.sm h3 hE.2.1).trans h4, h5, h6, h7, h8, h9, h10, h11, ?_⟩
  rcases h12 with ⟨c1, c2, c3, c4⟩ | ⟨c1, c2, c3, c4⟩ | ⟨c, bn, sd, d1, d2, d3, d4, d5, d6, d7⟩
  · exact Or.inl ⟨c1, c2, (h.sm h2 hE.1).trans c3, c4⟩
  · exact Or.inr (Or.inl ⟨c1, c2, (h.sm h2 hE.1).trans c3, c4⟩)
  · refine Or.inr (Or.inr ⟨c, bn, sd, h.kp d1, (h.sm d1 hE.2.2).trans d2, d3, d4, d5, d6, ?_⟩)
    rcases d7 with ⟨e1, e2, e3⟩ | ⟨e1, e2, e3⟩
    · exact Or.inl ⟨e1, e2, (h.sm h2 hE.1).trans e3⟩
    · exact Or.inr ⟨e1, (h.sm h2 hE.1).trans e2, e3⟩
theorem iQ.keep (h : Fr x z z' f0 f1 own own' E) (hE : ∀ q, ¬ E (5, q) ∧ ¬ E (6, q) ∧ ¬ E (7, q)) {cn mn : Int32} {r : Nat → Option Nat} {kd po bo ln : Nat → Int32} {ns : Nat → Int64} {np nb : Int32} {pr : Nat → Option Nat} {ts : Nat → Int64} {bs : Nat → Int32} (hs : iQ x z f0 own cn mn r kd po bo ln ns np nb pr ts bs) : iQ x z' f1 own' cn mn r kd po bo ln ns np nb pr ts bs := by
  obtain ⟨n, h1, h2, h3, h4⟩ := hs
  exact ⟨n, h1, h2, h3, fun q hq => (h4 q hq).keep h (hE q)⟩
end FRAME

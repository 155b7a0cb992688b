/-! the abstract heap: rows of ints, of longs, of references (of a kind), objects (of a kind, by their slots); what it stands for -/
abbrev xE : Type := (Nat × (Nat → Int32)) ⊕ (Nat × (Nat → Int64)) ⊕ (Nat × Nat × (Nat → Option Nat)) ⊕ (Nat × List Value)
abbrev xHp : Type := Nat → Option xE
abbrev xG : Type := (Nat → ClassId) × (Nat → Nat → Nat) × (Nat → ClassId) × (Nat → Nat) × Nat
abbrev xD (G : xG) : va_G := (G.1, G.2.1)
abbrev xcy (G : xG) : Nat → ClassId := G.2.2.1
abbrev xst (G : xG) : Nat → Nat := G.2.2.2.1
abbrev xbs (G : xG) : Nat := G.2.2.2.2
abbrev xtys (G : xG) : List (ClassId × FieldType) := [(xcy G 0, .int), (xcy G 1, .long), (xcy G 2, .object RX6), (xcy G 3, .object RX4), (xcy G 4, .object RX5)]
def xc (G : xG) (e : xE) : va_E := match e with
  | .inl (n, g) => .inl (xcy G 0, n, .inl g)
  | .inr (.inl (n, g)) => .inl (xcy G 1, n, .inr (.inl g))
  | .inr (.inr (.inl (k, n, g))) => .inl (xcy G k, n, .inr (.inr (.inr (.inr g))))
  | .inr (.inr (.inr o)) => .inr o
def xA (G : xG) : Nat → Prop := fun q => xbs G ≤ q
def xW (G : xG) (z : Nat) (f : xHp) (H : Heap) : Prop := H.size = z ∧ xbs G ≤ z ∧ ∀ (a : Nat) (e : xE), f a = some e → xbs G ≤ a ∧ va_at (xD G) vwCl (a, xc G e) H
theorem xW.at {G : xG} {z : Nat} {f : xHp} {H : Heap} (h : xW G z f H) {a : Nat} {e : xE} (he : f a = some e) : va_at (xD G) vwCl (a, xc G e) H := (h.2.2 a e he).2
theorem xW.one {G : xG} {z : Nat} {f : xHp} {H : Heap} (h : xW G z f H) {a : Nat} {e : xE} (he : f a = some e) : va_P (xD G) vwCl [(a, xc G e)] H := by
  intro k q hq
  match k, hq with
  | 0, hq => cases hq; exact h.at he
theorem xW.set {G : xG} {z : Nat} {f : xHp} {H H1 : Heap} (h : xW G z f H) {a : Nat} {x0 x : xE} (e : f a = some x0) (hx : va_at (xD G) vwCl (a, xc G x) H1) (hz : H1.size = H.size) (oq : ∀ q : Nat, q ≠ a → H1[q]? = H[q]?) : xW G z (va_up f a (some x)) H1 := by
  refine ⟨hz.trans h.1, h.2.1, fun b y hb => ?_⟩
  by_cases hab : b = a
  · subst hab
    rw [va_up, if_pos rfl] at hb
    cases hb
    exact ⟨(h.2.2 _ _ e).1, hx⟩
  · rw [va_up, if_neg hab] at hb
    exact ⟨(h.2.2 _ _ hb).1, (h.2.2 _ _ hb).2.kept (oq _ hab)⟩
theorem xW.push {G : xG} {z : Nat} {f : xHp} {H H1 : Heap} (h : xW G z f H) {x : xE} (hx : va_at (xD G) vwCl (z, xc G x) H1) (hz : H1.size = z + 1) (oq : ∀ q : Nat, q < z → H1[q]? = H[q]?) : xW G (z + 1) (va_up f z (some x)) H1 := by
  refine ⟨hz, Nat.le_succ_of_le h.2.1, fun b y hb => ?_⟩
  by_cases hab : b = z
  · subst hab
    rw [va_up, if_pos rfl] at hb
    cases hb
    exact ⟨h.2.1, hx⟩
  · rw [va_up, if_neg hab] at hb
    have hlt : b < H.size := (h.2.2 _ _ hb).2.lt
    exact ⟨(h.2.2 _ _ hb).1, (h.2.2 _ _ hb).2.kept (oq _ (by rw [← h.1]; exact hlt))⟩
/-! the statics' rows -/
def xsn (k : Nat) : String := match k with
  | 0 => "OWN_CORNERS"
  | 1 => "TERM_OF_FORM"
  | 2 => "FIRST_OF_TERM"
  | _ => "SECOND_OF_TERM"
def xsv (k : Nat) : List Int32 := match k with
  | 0 => [0, 2, 6, 8]
  | 1 => [6, 4, 3, 4, 2, 1, 3, 1, 0]
  | 2 => [2, 1, 1, 0, 0, -1, 0, -1, -1]
  | _ => [2, 2, 1, 2, 1, -1, 0, -1, -1]
def xSt (G : xG) (U : State) (H : Heap) : Prop := ∀ k, k < 4 → va_Z "NeverBelow" (xsn k) "[I" (.ref (xst G k)) (xA G) U H ∧ va_T .int (xst G k) (xsv k).length (fun j => .int ((xsv k).getD j 0)) (xA G) U H
/-! pairs of classes that are not castable: kinds 0 corners, 3 parts, 6 span, 7 squares -/
def xnc : List (String × String) := [(RX0, RX8), (RX3, RX8), (RX8, RX0), (RX7, RX0), (RX0, RX3), (RX8, RX3), (RX7, RX3), (RX8, RX7), (RX0, RX7), (RX3, RX7)]
def xK (G : xG) (U : State) : Prop := va_K (xD G) vwCl (xtys G) U ∧ xSt G U U.heap ∧ ∀ q ∈ xnc, va_Nc q.1 q.2 U
theorem xK.moved {G : xG} {u U : State} (hvm : u.vm.Alike U.vm) (hq : ∀ a : Nat, a < u.heap.size → ¬ xA G a → U.heap[a]? = u.heap[a]?) (h : xK G u) : xK G U :=
  ⟨va_K.moved hvm h.1, fun k hk => ⟨((h.2.1 k hk).1.moved hvm).kept hq, ((h.2.1 k hk).2.moved hvm).kept hq⟩, fun q hq => va_Nc.moved hvm (h.2.2 q hq)⟩
/-! the words that every method may use -/
def xg (w : Cond) : Bool := match w with
  | .fieldLinkNest .. => true
  | .methodLinkNest .. => true
  | .declares _ => true
  | .castable .. => true
  | .arrayOver (.object _) => true
  | w => goodWord w
def xsel2 : List Cond := [.selects RX7 yX8_holds yX8_holds, .selects RX7 yX8_squareShare yX8_squareShare]
def xws : List Cond := (xsel2 ++ lw_tbl).filter xg
theorem xws_in {w : Cond} (i : Nat) (h : (match (xsel2 ++ lw_tbl)[i]? with | some v => decide (v = w) && xg v | none => false) = true) : w ∈ xws := by
  cases hv : (xsel2 ++ lw_tbl)[i]? with
  | none => rw [hv] at h; cases h
  | some v =>
    rw [hv] at h
    simp only [Bool.and_eq_true, decide_eq_true_eq] at h
    rw [← h.1]
    exact List.mem_filter.mpr ⟨List.mem_of_getElem? hv, h.2⟩
theorem xg_warm {w : Cond} (hg : xg w = true) {args a' : Array Value} {s U : State} (hW : s.WarmedH U.vm) (h : w.before args s = true) : w.before a' U = true := by
  unfold xg at hg
  split at hg
  · exact va_Nw.use rfl (va_Nw.warmF hW (va_Nw.of rfl h))
  · exact va_Nw.use rfl (va_Nw.warmM hW (va_Nw.of rfl h))
  · exact va_Nw.use rfl (va_Nw.warmD hW (va_Nw.of rfl h))
  · exact va_Nw.use rfl (va_Nw.warmC hW (va_Nw.of rfl h))
  · exact va_AO.use (va_AO.moved hW.alike (va_AO.of h))
  · exact word_at hW (good_of_word hg) h
theorem xws_warm {args : Array Value} {s : State} (ht : ∀ w ∈ xws, w.before args s = true) : ∀ w ∈ xws, ∀ (a' : Array Value) (U : State), s.WarmedH U.vm → w.before a' U = true :=
  fun w hw _ _ hW => xg_warm (List.mem_filter.mp hw).2 hW (ht w hw)
/-! reading and writing -/
theorem xlook {tb : List (Nat × Nat)} {c k : Nat} (h : tb.lookup c = some k) : (c, k) ∈ tb := by
  induction tb with
  | nil => cases h
  | cons q l ih =>
    obtain ⟨c', k'⟩ := q
    rw [List.lookup_cons] at h
    by_cases hc : c = c'
    · subst hc
      simp at h
      rw [h]
      exact List.mem_cons_self
    · have hb : (c == c') = false := by simp [hc]
      rw [hb] at h
      exact List.mem_cons_of_mem _ (ih h)
def hV (f : xHp) (a : Nat) (tb : List (Nat × Nat)) : Option Value := match f a with
  | some (.inr (.inr (.inr (c, fs)))) => (tb.lookup c).bind (fun k => fs[k]?)
  | _ => none
def hI (f : xHp) (a : Nat) (tb : List (Nat × Nat)) : Option Int32 := match hV f a tb with
  | some (.int v) => some v
  | _ => none
def hN (f : xHp) (a : Nat) (tb : List (Nat × Nat)) : Option Nat := match hV f a tb with
  | some (.ref v) => some v
  | _ => none
def hR (f : xHp) (a : Nat) (tb : List (Nat × Nat)) : Option (Option Nat) := match hV f a tb with
  | some (.ref v) => some (some v)
  | some .null => some none
  | _ => none
def hPut (f : xHp) (a : Nat) (tb : List (Nat × Nat)) (v : Value) : Option xHp := match f a with
  | some (.inr (.inr (.inr (c, fs)))) => (tb.lookup c).bind (fun k => if k < fs.length then some (va_up f a (some (.inr (.inr (.inr (c, fs.set k v)))))) else none)
  | _ => none
def hKd (f : xHp) (a : Nat) : Option Nat := match f a with
  | some (.inr (.inr (.inr (c, _)))) => some c
  | _ => none
def hIld (f : xHp) (a : Nat) (i : Int32) : Option Int32 := match f a with
  | some (.inl (n, g)) => if i < 0 ∨ n ≤ i.toNatClampNeg then none else some (g i.toNatClampNeg)
  | _ => none
def hIst (f : xHp) (a : Nat) (i v : Int32) : Option xHp := match f a with
  | some (.inl (n, g)) => if i < 0 ∨ n ≤ i.toNatClampNeg then none else some (va_up f a (some (.inl (n, upd g i.toNatClampNeg v))))
  | _ => none
def hJld (f : xHp) (a : Nat) (i : Int32) : Option Int64 := match f a with
  | some (.inr (.inl (n, g))) => if i < 0 ∨ n ≤ i.toNatClampNeg then none else some (g i.toNatClampNeg)
  | _ => none
def hJst (f : xHp) (a : Nat) (i : Int32) (v : Int64) : Option xHp := match f a with
  | some (.inr (.inl (n, g))) => if i < 0 ∨ n ≤ i.toNatClampNeg then none else some (va_up f a (some (.inr (.inl (n, vp_updL g i.toNatClampNeg v)))))
  | _ => none
def hRld (f : xHp) (a : Nat) (i : Int32) : Option (Option Nat) := match f a with
  | some (.inr (.inr (.inl (k, n, g)))) => if (k < 2 ∨ 4 < k) ∨ (i < 0 ∨ n ≤ i.toNatClampNeg) then none else some (g i.toNatClampNeg)
  | _ => none
/-- which kinds of objects a row of references of a kind takes -/
def xfit (k c : Nat) : Bool := (k == 2 && c == 5) || (k == 3 && c == 4) || (k == 4 && (c == 0 || c == 3 || c == 6 || c == 7))
def hRst (f : xHp) (a : Nat) (i : Int32) (v : Nat) : Option xHp := match f a with
  | some (.inr (.inr (.inl (k, n, g)))) => if i < 0 ∨ n ≤ i.toNatClampNeg then none else (hKd f v).bind (fun c => if xfit k c = true then some (va_up f a (some (.inr (.inr (.inl (k, n, va_up g i.toNatClampNeg (some v))))))) else none)
  | _ => none
def hRstN (f : xHp) (a : Nat) (i : Int32) : Option xHp := match f a with
  | some (.inr (.inr (.inl (k, n, g)))) => if (k < 2 ∨ 4 < k) ∨ (i < 0 ∨ n ≤ i.toNatClampNeg) then none else some (va_up f a (some (.inr (.inr (.inl (k, n, va_up g i.toNatClampNeg none))))))
  | _ => none
def hLen (f : xHp) (a : Nat) : Option Int32 := match f a with
  | some (.inl (n, _)) => some (Int32.ofNat n)
  | some (.inr (.inl (n, _))) => some (Int32.ofNat n)
  | _ => none
def hIcp (f : xHp) (a0 : Nat) (sp : Int32) (a : Nat) (dp n : Int32) : Option xHp := match f a0, f a with
  | some (.inl (n0, g0)), some (.inl (n1, g)) => if sp < 0 ∨ dp < 0 ∨ n < 0 ∨ n0 < sp.toNatClampNeg + n.toNatClampNeg ∨ n1 < dp.toNatClampNeg + n.toNatClampNeg then none else some (va_up f a (some (.inl (n1, va_cpy g0 g sp.toNatClampNeg dp.toNatClampNeg n.toNatClampNeg))))
  | _, _ => none
def hJcp (f : xHp) (a0 : Nat) (sp : Int32) (a : Nat) (dp n : Int32) : Option xHp := match f a0, f a with
  | some (.inr (.inl (n0, g0))), some (.inr (.inl (n1, g))) => if sp < 0 ∨ dp < 0 ∨ n < 0 ∨ n0 < sp.toNatClampNeg + n.toNatClampNeg ∨ n1 < dp.toNatClampNeg + n.toNatClampNeg then none else some (va_up f a (some (.inr (.inl (n1, va_cpy g0 g sp.toNatClampNeg dp.toNatClampNeg n.toNatClampNeg)))))
  | _, _ => none
/-- a row of a length within a bound -/
def hNw (n : Int32) (b : Nat) : Option Nat := if n < 0 ∨ b < n.toNatClampNeg then none else some n.toNatClampNeg
/-- place i of a static's row -/
def hSt (k : Nat) (i : Int32) : Option Int32 := if i < 0 ∨ (xsv k).length ≤ i.toNatClampNeg then none else some ((xsv k).getD i.toNatClampNeg 0)

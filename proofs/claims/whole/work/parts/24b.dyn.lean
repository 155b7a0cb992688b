/-! cells behind the fixed ones -/
section DYN
variable {x z : Nat} {iv ai : Nat → Nat → Int32} {aj : Nat → Nat → Int64} {ar : Nat → Nat → Option Nat} {pp : Nat → Option Nat} {f0 : xHp} {a : Nat}
theorem dI (h : x + 41 ≤ a) (tb : List (Nat × Nat)) : hI (hp x iv ai aj ar pp f0) a tb = hI f0 a tb := by unfold hI hV; rw [hp_out h]
theorem dN (h : x + 41 ≤ a) (tb : List (Nat × Nat)) : hN (hp x iv ai aj ar pp f0) a tb = hN f0 a tb := by unfold hN hV; rw [hp_out h]
theorem dK (h : x + 41 ≤ a) : hKd (hp x iv ai aj ar pp f0) a = hKd f0 a := by unfold hKd; rw [hp_out h]
theorem dIld (h : x + 41 ≤ a) (i : Int32) : hIld (hp x iv ai aj ar pp f0) a i = hIld f0 a i := by unfold hIld; rw [hp_out h]
theorem dJld (h : x + 41 ≤ a) (i : Int32) : hJld (hp x iv ai aj ar pp f0) a i = hJld f0 a i := by unfold hJld; rw [hp_out h]
theorem dLen (h : x + 41 ≤ a) : hLen (hp x iv ai aj ar pp f0) a = hLen f0 a := by unfold hLen; rw [hp_out h]
theorem dPut (h : x + 41 ≤ a) {c k : Nat} {fs : List Value} {tb : List (Nat × Nat)} (v : Value) (e : f0 a = some (.inr (.inr (.inr (c, fs))))) (ht : tb.lookup c = some k) (hk : k < fs.length) : hPut (hp x iv ai aj ar pp f0) a tb v = some (hp x iv ai aj ar pp (va_up f0 a (some (.inr (.inr (.inr (c, fs.set k v))))))) := by
  unfold hPut
  rw [hp_out h, e]
  show (tb.lookup c).bind _ = _
  rw [ht, Option.bind_some, if_pos hk, hp_dyn h]
theorem dJst (h : x + 41 ≤ a) {n : Nat} {g : Nat → Int64} (i : Int32) (v : Int64) (e : f0 a = some (.inr (.inl (n, g)))) : hJst (hp x iv ai aj ar pp f0) a i v = if i < 0 ∨ n ≤ i.toNatClampNeg then none else some (hp x iv ai aj ar pp (va_up f0 a (some (.inr (.inl (n, va_up g i.toNatClampNeg v)))))) := by
  unfold hJst
  rw [hp_out h, e]
  refine xite ?_
  rw [hp_dyn h]
  rfl
theorem fI {f : xHp} {c k : Nat} {fs : List Value} {tb : List (Nat × Nat)} {v : Int32} (e : f a = some (.inr (.inr (.inr (c, fs))))) (ht : tb.lookup c = some k) (hv : fs[k]? = some (.int v)) : hI f a tb = some v := by
  have : hV f a tb = some (.int v) := by
    unfold hV
    rw [e]
    show (tb.lookup c).bind _ = _
    rw [ht, Option.bind_some, hv]
  unfold hI
  rw [this]
theorem fN {f : xHp} {c k : Nat} {fs : List Value} {tb : List (Nat × Nat)} {v : Nat} (e : f a = some (.inr (.inr (.inr (c, fs))))) (ht : tb.lookup c = some k) (hv : fs[k]? = some (.ref v)) : hN f a tb = some v := by
  have : hV f a tb = some (.ref v) := by
    unfold hV
    rw [e]
    show (tb.lookup c).bind _ = _
    rw [ht, Option.bind_some, hv]
  unfold hN
  rw [this]
theorem fK {f : xHp} {c : Nat} {fs : List Value} (e : f a = some (.inr (.inr (.inr (c, fs))))) : hKd f a = some c := by
  unfold hKd
  rw [e]
theorem fJld {f : xHp} {n : Nat} {g : Nat → Int64} (e : f a = some (.inr (.inl (n, g)))) (i : Int32) : hJld f a i = if i < 0 ∨ n ≤ i.toNatClampNeg then none else some (g i.toNatClampNeg) := by
  unfold hJld
  rw [e]
theorem fIld {f : xHp} {n : Nat} {g : Nat → Int32} (e : f a = some (.inl (n, g))) (i : Int32) : hIld f a i = if i < 0 ∨ n ≤ i.toNatClampNeg then none else some (g i.toNatClampNeg) := by
  unfold hIld
  rw [e]
theorem fLenJ {f : xHp} {n : Nat} {g : Nat → Int64} (e : f a = some (.inr (.inl (n, g)))) : hLen f a = some (nI n) := by
  unfold hLen
  rw [e]
  rfl
theorem fLenI {f : xHp} {n : Nat} {g : Nat → Int32} (e : f a = some (.inl (n, g))) : hLen f a = some (nI n) := by
  unfold hLen
  rw [e]
  rfl
theorem hNw_nI {n b : Nat} (h : n ≤ b) (hb : b < 2147483648) : hNw (nI n) b = some n := by
  unfold hNw
  rw [if_neg, nI_clamp (by omega)]
  rintro (q | q)
  · exact nI_pos (by omega) q
  · rw [nI_clamp (by omega)] at q; omega
end DYN

/-! the law -/
def hSc (xs : Nat → Int32) (L : Nat) (i : Int32) : Option Int32 := if i < 0 ∨ L ≤ i.toNatClampNeg then none else some (xs i.toNatClampNeg)
section XLAW
variable {p : Program} {l : Launch} {e : Env} {R : Room} {s : State} {m : MethodId} {args : Array Value} {below : List Frame} {meth : Method} {c : Code} {H : Heap} {locs : List Loc} {cells slots : Nat} {Q : State → Prop}
variable {cc : ByteArray} {pc : Nat} {ls : Array Slot} {rest : List Value} {G : xG} {z : Nat} {f : xHp} {own : String} {nL : Nat}
/-- the script, as it lies ahead of all -/
abbrev xSc (G : xG) (s : State) (b L : Nat) (xs : Nat → Int32) : Prop := va_X b L xs s s.heap ∧ b < s.heap.size ∧ ¬ xA G b
theorem q_scr (X : xC G p m c s args own cc nL) (Y : xY G z f s H locs) {b L : Nat} {xs : Nat → Int32} (hX : xSc G s b L xs) {i v : Int32} (e1 : hSc xs L i = some v) (hdg : decode cc pc = .ok (.iaload, 1))
    (kk : W p l e R s m args below meth c H locs cells slots Q (F0 m (pc + 1) ls (.int v :: rest))) : W p l e R s m args below meth c H locs cells slots Q (F0 m pc ls (.int i :: .ref b :: rest)) := by
  unfold hSc at e1
  split at e1
  · cases e1
  · rename_i hin
    cases e1
    exact va_sld X.1.1 X.1.2.1 hX.1 hX.2.1 hX.2.2 Y.2.1 hin hdg kk
end XLAW
def S_law_0 (xs : Nat → Int32) (L x mo z : Nat) (f : xHp) (i : Int32) : Option (Nat × xHp) := Option.bind (hSc xs L (i + (1 : Int32))) fun v1 => Option.bind (hSc xs L (i + (2 : Int32))) fun v2 => Option.bind (hSc xs L (i + (3 : Int32))) fun v3 => if hKd f x = some 9 then (Option.bind (F_X10_sheet z f x v1 v2 v3) fun q5 => Option.bind (hSc xs L (i + (1 : Int32))) fun v6 => Option.bind (hSc xs L (i + (2 : Int32))) fun v7 => Option.bind (hSc xs L (i + (3 : Int32))) fun v8 => if hKd q5.2.2 mo = some 10 then (Option.bind (F_X11_sheet q5.2.2 mo v6 v7 v8) fun q10 => if q5.1 = q10.1 then some (q5.2.1, q10.2) else none) else none) else none
def S_law_1 (xs : Nat → Int32) (L x mo z : Nat) (f : xHp) (i : Int32) : Option (Nat × xHp) := Option.bind (hSc xs L (i + (1 : Int32))) fun v1 => if hKd f x = some 9 then (Option.bind (F_X10_lose f x v1) fun q3 => Option.bind (hSc xs L (i + (1 : Int32))) fun v4 => if hKd q3.2 mo = some 10 then (Option.bind (F_X11_lose q3.2 mo v4) fun q6 => if q3.1 = q6.1 then some (z, q6.2) else none) else none) else none
def S_law_2 (xs : Nat → Int32) (L x mo z : Nat) (f : xHp) (i : Int32) : Option (Nat × xHp) := Option.bind (hSc xs L (i + (1 : Int32))) fun v1 => Option.bind (hSc xs L (i + (2 : Int32))) fun v2 => Option.bind (hSc xs L (i + (3 : Int32))) fun v3 => Option.bind (hSc xs L (i + (4 : Int32))) fun v4 => if hKd f x = some 9 then (Option.bind (F_X10_put f x v1 v2 ((v3.toInt64 <<< ((32 : Int32).toInt64 &&& 63)) ||| (v4.toInt64 &&& (4294967295 : Int64)))) fun q6 => Option.bind (hSc xs L (i + (1 : Int32))) fun v7 => Option.bind (hSc xs L (i + (2 : Int32))) fun v8 => Option.bind (hSc xs L (i + (3 : Int32))) fun v9 => Option.bind (hSc xs L (i + (4 : Int32))) fun v10 => if hKd q6.2 mo = some 10 then (Option.bind (F_X11_put q6.2 mo v7 v8 ((v9.toInt64 <<< ((32 : Int32).toInt64 &&& 63)) ||| (v10.toInt64 &&& (4294967295 : Int64)))) fun q12 => if q6.1 = q12.1 then some (z, q12.2) else none) else none) else none
def S_law_3 (xs : Nat → Int32) (L x mo z : Nat) (f : xHp) (i : Int32) : Option (Nat × xHp) := Option.bind (hSc xs L (i + (1 : Int32))) fun v1 => Option.bind (hSc xs L (i + (2 : Int32))) fun v2 => Option.bind (hSc xs L (i + (3 : Int32))) fun v3 => if hKd f x = some 9 then (Option.bind (F_X10_at f x v1 v2 v3) fun q5 => Option.bind (hSc xs L (i + (1 : Int32))) fun v6 => Option.bind (hSc xs L (i + (2 : Int32))) fun v7 => Option.bind (hSc xs L (i + (3 : Int32))) fun v8 => if hKd q5.2 mo = some 10 then (Option.bind (F_X11_at q5.2 mo v6 v7 v8) fun q10 => if q5.1 = q10.1 then some (z, q10.2) else none) else none) else none
def S_law_4 (xs : Nat → Int32) (L x mo z : Nat) (f : xHp) (i : Int32) : Option (Nat × xHp) := Option.bind (hSc xs L (i + (1 : Int32))) fun v1 => Option.bind (hSc xs L (i + (2 : Int32))) fun v2 => Option.bind (hSc xs L (i + (3 : Int32))) fun v3 => Option.bind (hSc xs L (i + (4 : Int32))) fun v4 => if hKd f x = some 9 then (Option.bind (F_X10_poly z f x v1 v2 v3 v4) fun q6 => Option.bind (hSc xs L (i + (1 : Int32))) fun v7 => Option.bind (hSc xs L (i + (2 : Int32))) fun v8 => Option.bind (hSc xs L (i + (3 : Int32))) fun v9 => Option.bind (hSc xs L (i + (4 : Int32))) fun v10 => if hKd q6.2.2 mo = some 10 then (Option.bind (F_X11_poly q6.2.2 mo v7 v8 v9 v10) fun q12 => if q6.1 = q12.1 then some (q6.2.1, q12.2) else none) else none) else none
def S_law_5 (xs : Nat → Int32) (L x mo z : Nat) (f : xHp) (i : Int32) : Option (Nat × xHp) := Option.bind (hSc xs L (i + (1 : Int32))) fun v1 => Option.bind (hSc xs L (i + (2 : Int32))) fun v2 => Option.bind (hSc xs L (i + (3 : Int32))) fun v3 => if hKd f x = some 9 then (Option.bind (F_X10_add z f x v1 v2 v3) fun q5 => Option.bind (hSc xs L (i + (1 : Int32))) fun v6 => Option.bind (hSc xs L (i + (2 : Int32))) fun v7 => Option.bind (hSc xs L (i + (3 : Int32))) fun v8 => if hKd q5.2.2 mo = some 10 then (Option.bind (F_X11_add q5.2.2 mo v6 v7 v8) fun q10 => if q5.1 = q10.1 then some (q5.2.1, q10.2) else none) else none) else none
def S_law_6 (xs : Nat → Int32) (L x mo z : Nat) (f : xHp) (i : Int32) : Option (Nat × xHp) := Option.bind (hSc xs L (i + (1 : Int32))) fun v1 => Option.bind (hSc xs L (i + (2 : Int32))) fun v2 => if hKd f x = some 9 then (Option.bind (F_X10_times z f x v1 v2) fun q4 => Option.bind (hSc xs L (i + (1 : Int32))) fun v5 => Option.bind (hSc xs L (i + (2 : Int32))) fun v6 => if hKd q4.2.2 mo = some 10 then (Option.bind (F_X11_times q4.2.2 mo v5 v6) fun q8 => if q4.1 = q8.1 then some (q4.2.1, q8.2) else none) else none) else none
def S_law_7 (xs : Nat → Int32) (L x mo z : Nat) (f : xHp) (i : Int32) : Option (Nat × xHp) := Option.bind (hSc xs L (i + (1 : Int32))) fun v1 => Option.bind (hSc xs L (i + (2 : Int32))) fun v2 => if hKd f x = some 9 then (Option.bind (F_X10_slope z f x v1 v2) fun q4 => Option.bind (hSc xs L (i + (1 : Int32))) fun v5 => Option.bind (hSc xs L (i + (2 : Int32))) fun v6 => if hKd q4.2.2 mo = some 10 then (Option.bind (F_X11_slope q4.2.2 mo v5 v6) fun q8 => if q4.1 = q8.1 then some (q4.2.1, q8.2) else none) else none) else none
def S_law_8 (xs : Nat → Int32) (L x mo z : Nat) (f : xHp) (i : Int32) : Option (Nat × xHp) := Option.bind (hSc xs L (i + (1 : Int32))) fun v1 => Option.bind (hSc xs L (i + (2 : Int32))) fun v2 => if hKd f x = some 9 then (Option.bind (F_X10_term f x v1 v2) fun q4 => Option.bind (hSc xs L (i + (1 : Int32))) fun v5 => Option.bind (hSc xs L (i + (2 : Int32))) fun v6 => if hKd f mo = some 10 then (Option.bind (F_X11_term f mo v5 v6) fun q8 => if q4 = q8 then some (z, f) else none) else none) else none
def S_law_9 (xs : Nat → Int32) (L x mo z : Nat) (f : xHp) (i : Int32) : Option (Nat × xHp) := Option.bind (hSc xs L (i + (1 : Int32))) fun v1 => Option.bind (hSc xs L (i + (2 : Int32))) fun v2 => Option.bind (hSc xs L (i + (3 : Int32))) fun v3 => if hKd f x = some 9 then (Option.bind (F_X10_value f x v1 v2 v3) fun q5 => Option.bind (hSc xs L (i + (1 : Int32))) fun v6 => Option.bind (hSc xs L (i + (2 : Int32))) fun v7 => Option.bind (hSc xs L (i + (3 : Int32))) fun v8 => if hKd f mo = some 10 then (Option.bind (F_X11_value f mo v6 v7 v8) fun q10 => if q5 = q10 then some (z, f) else none) else none) else none
def S_law_10 (xs : Nat → Int32) (L x mo z : Nat) (f : xHp) (i : Int32) : Option (Nat × xHp) := Option.bind (hSc xs L (i + (1 : Int32))) fun v1 => Option.bind (hSc xs L (i + (2 : Int32))) fun v2 => if hKd f x = some 9 then (Option.bind (F_X10_same f x v1 v2) fun q4 => Option.bind (hSc xs L (i + (1 : Int32))) fun v5 => Option.bind (hSc xs L (i + (2 : Int32))) fun v6 => if hKd f mo = some 10 then (Option.bind (F_X11_same f mo v5 v6) fun q8 => if q4 = q8 then some (z, f) else none) else none) else none
def S_law_11 (xs : Nat → Int32) (L x mo z : Nat) (f : xHp) (i : Int32) : Option (Nat × xHp) := Option.bind (hSc xs L (i + (1 : Int32))) fun v1 => Option.bind (hSc xs L (i + (2 : Int32))) fun v2 => Option.bind (hSc xs L (i + (3 : Int32))) fun v3 => Option.bind (hSc xs L (i + (4 : Int32))) fun v4 => if hKd f x = some 9 then (Option.bind (F_X10_box f x v1 v2 v3 v4) fun q6 => Option.bind (hSc xs L (i + (1 : Int32))) fun v7 => Option.bind (hSc xs L (i + (2 : Int32))) fun v8 => Option.bind (hSc xs L (i + (3 : Int32))) fun v9 => Option.bind (hSc xs L (i + (4 : Int32))) fun v10 => if hKd q6.2 mo = some 10 then (Option.bind (F_X11_box q6.2 mo v7 v8 v9 v10) fun q12 => if q6.1 = q12.1 then some (z, q12.2) else none) else none) else none
def S_law_12 (xs : Nat → Int32) (L x mo z : Nat) (f : xHp) (i : Int32) : Option (Nat × xHp) := Option.bind (hSc xs L (i + (1 : Int32))) fun v1 => Option.bind (hSc xs L (i + (2 : Int32))) fun v2 => if hKd f x = some 9 then (Option.bind (F_X10_side f x v1 v2) fun q4 => Option.bind (hSc xs L (i + (1 : Int32))) fun v5 => Option.bind (hSc xs L (i + (2 : Int32))) fun v6 => if hKd f mo = some 10 then (Option.bind (F_X11_side f mo v5 v6) fun q8 => if q4 = q8 then some (z, f) else none) else none) else none
def S_law_13 (xs : Nat → Int32) (L x mo z : Nat) (f : xHp) (i : Int32) : Option (Nat × xHp) := Option.bind (hSc xs L (i + (1 : Int32))) fun v1 => Option.bind (hSc xs L (i + (2 : Int32))) fun v2 => Option.bind (hSc xs L (i + (3 : Int32))) fun v3 => if hKd f x = some 9 then (Option.bind (F_X10_corner f x v1 v2 v3) fun q5 => Option.bind (hSc xs L (i + (1 : Int32))) fun v6 => Option.bind (hSc xs L (i + (2 : Int32))) fun v7 => Option.bind (hSc xs L (i + (3 : Int32))) fun v8 => if hKd f mo = some 10 then (Option.bind (F_X11_corner f mo v6 v7 v8) fun q10 => if q5 = q10 then some (z, f) else none) else none) else none
def S_law_14 (xs : Nat → Int32) (L x mo z : Nat) (f : xHp) (i : Int32) : Option (Nat × xHp) := Option.bind (hSc xs L (i + (1 : Int32))) fun v1 => Option.bind (hSc xs L (i + (2 : Int32))) fun v2 => Option.bind (hSc xs L (i + (3 : Int32))) fun v3 => if hKd f x = some 9 then (Option.bind (F_X10_bound f x v1 v2 v3) fun q5 => Option.bind (hSc xs L (i + (1 : Int32))) fun v6 => Option.bind (hSc xs L (i + (2 : Int32))) fun v7 => Option.bind (hSc xs L (i + (3 : Int32))) fun v8 => if hKd q5.2 mo = some 10 then (Option.bind (F_X11_bound q5.2 mo v6 v7 v8) fun q10 => if q5.1 = q10 then some (z, q5.2) else none) else none) else none
def S_law_15 (xs : Nat → Int32) (L x mo z : Nat) (f : xHp) (i : Int32) : Option (Nat × xHp) := Option.bind (hSc xs L (i + (1 : Int32))) fun v1 => Option.bind (hSc xs L (i + (2 : Int32))) fun v2 => if hKd f x = some 9 then (Option.bind (F_X10_cut f x v1 v2) fun q4 => Option.bind (hSc xs L (i + (1 : Int32))) fun v5 => Option.bind (hSc xs L (i + (2 : Int32))) fun v6 => if hKd q4.2 mo = some 10 then (Option.bind (F_X11_cut q4.2 mo v5 v6) fun q8 => if q4.1 = q8.1 then some (z, q8.2) else none) else none) else none
def S_law_16 (xs : Nat → Int32) (L x mo z : Nat) (f : xHp) (i : Int32) : Option (Nat × xHp) := Option.bind (hSc xs L (i + (1 : Int32))) fun v1 => Option.bind (hSc xs L (i + (2 : Int32))) fun v2 => if hKd f x = some 9 then (Option.bind (F_X10_parts f x v1 v2) fun q4 => Option.bind (hSc xs L (i + (1 : Int32))) fun v5 => Option.bind (hSc xs L (i + (2 : Int32))) fun v6 => if hKd q4.2 mo = some 10 then (Option.bind (F_X11_parts q4.2 mo v5 v6) fun q8 => if q4.1 = q8.1 then some (z, q8.2) else none) else none) else none
def S_law_17 (xs : Nat → Int32) (L x mo z : Nat) (f : xHp) (i : Int32) : Option (Nat × xHp) := Option.bind (hSc xs L (i + (1 : Int32))) fun v1 => if hKd f x = some 9 then (Option.bind (F_X10_cover f x v1) fun q3 => Option.bind (hSc xs L (i + (1 : Int32))) fun v4 => if hKd q3.2 mo = some 10 then (Option.bind (F_X11_cover q3.2 mo v4) fun q6 => if q3.1 = q6.1 then some (z, q6.2) else none) else none) else none
def S_law_18 (xs : Nat → Int32) (L x mo z : Nat) (f : xHp) (i : Int32) : Option (Nat × xHp) := Option.bind (hSc xs L (i + (1 : Int32))) fun v1 => if hKd f x = some 9 then (Option.bind (F_X10_open f x v1) fun q3 => Option.bind (hSc xs L (i + (1 : Int32))) fun v4 => if hKd f mo = some 10 then (Option.bind (F_X11_open f mo v4) fun q6 => if q3 = q6 then some (z, f) else none) else none) else none
def S_law_19 (xs : Nat → Int32) (L x mo z : Nat) (f : xHp) (i : Int32) : Option (Nat × xHp) := Option.bind (hSc xs L (i + (1 : Int32))) fun v1 => Option.bind (hSc xs L (i + (2 : Int32))) fun v2 => if hKd f x = some 9 then (Option.bind (F_X10_partly f x v1 v2) fun q4 => Option.bind (hSc xs L (i + (1 : Int32))) fun v5 => Option.bind (hSc xs L (i + (2 : Int32))) fun v6 => if hKd f mo = some 10 then (Option.bind (F_X11_partly f mo v5 v6) fun q8 => if q4 = q8 then some (z, f) else none) else none) else none
def S_law_20 (xs : Nat → Int32) (L x mo z : Nat) (f : xHp) (i : Int32) : Option (Nat × xHp) := Option.bind (hSc xs L (i + (1 : Int32))) fun v1 => if hKd f x = some 9 then (Option.bind (F_X10_where f x v1) fun q3 => Option.bind (hSc xs L (i + (1 : Int32))) fun v4 => if hKd f mo = some 10 then (Option.bind (F_X11_where f mo v4) fun q6 => if q3 = q6 then some (z, f) else none) else none) else none
def S_law_21 (xs : Nat → Int32) (L x mo z : Nat) (f : xHp) (i : Int32) : Option (Nat × xHp) := if hKd f x = some 9 then (Option.bind (F_X10_least f x) fun q2 => if hKd q2.2 mo = some 10 then (Option.bind (F_X11_least q2.2 mo) fun q4 => if q2.1 = q4 then some (z, q2.2) else none) else none) else none
def S_law_22 (xs : Nat → Int32) (L x mo z : Nat) (f : xHp) (i : Int32) : Option (Nat × xHp) := Option.bind (hSc xs L (i + (1 : Int32))) fun v1 => Option.bind (hSc xs L (i + (2 : Int32))) fun v2 => Option.bind (hSc xs L (i + (3 : Int32))) fun v3 => if hKd f x = some 9 then (Option.bind (F_X10_form f x v1 v2 v3) fun q5 => Option.bind (hSc xs L (i + (1 : Int32))) fun v6 => Option.bind (hSc xs L (i + (2 : Int32))) fun v7 => Option.bind (hSc xs L (i + (3 : Int32))) fun v8 => if hKd f mo = some 10 then (Option.bind (F_X11_form f mo v6 v7 v8) fun q10 => if q5 = q10.1 then some (z, q10.2) else none) else none) else none
def S_law_23 (xs : Nat → Int32) (L x mo z : Nat) (f : xHp) (i : Int32) : Option (Nat × xHp) := Option.bind (hSc xs L (i + (1 : Int32))) fun v1 => if hKd f x = some 9 then (Option.bind (F_X10_squares z f x v1) fun q3 => Option.bind (hSc xs L (i + (1 : Int32))) fun v4 => if hKd q3.2.2 mo = some 10 then (Option.bind (F_X11_squares q3.2.2 mo v4) fun q6 => if q3.1 = q6.1 then some (q3.2.1, q6.2) else none) else none) else none
def S_law_24 (xs : Nat → Int32) (L x mo z : Nat) (f : xHp) (i : Int32) : Option (Nat × xHp) := Option.bind (hSc xs L (i + (1 : Int32))) fun v1 => Option.bind (hSc xs L (i + (2 : Int32))) fun v2 => if hKd f x = some 9 then (Option.bind (F_X10_corners z f x v1 v2) fun q4 => Option.bind (hSc xs L (i + (1 : Int32))) fun v5 => Option.bind (hSc xs L (i + (2 : Int32))) fun v6 => if hKd q4.2.2 mo = some 10 then (Option.bind (F_X11_corners q4.2.2 mo v5 v6) fun q8 => if q4.1 = q8.1 then some (q4.2.1, q8.2) else none) else none) else none
def S_law_25 (xs : Nat → Int32) (L x mo z : Nat) (f : xHp) (i : Int32) : Option (Nat × xHp) := if hKd f x = some 9 then (Option.bind (F_X10_proved z f x) fun q2 => if hKd q2.2.2 mo = some 10 then (Option.bind (F_X11_proved q2.2.2 mo) fun q4 => if q2.1 = q4.1 then some (q2.2.1, q4.2) else none) else none) else none
def S_law_26 (xs : Nat → Int32) (L x mo z : Nat) (f : xHp) (i : Int32) : Option (Nat × xHp) := Option.bind (hSc xs L (i + (1 : Int32))) fun v1 => Option.bind (hSc xs L (i + (2 : Int32))) fun v2 => Option.bind (hSc xs L (i + (3 : Int32))) fun v3 => Option.bind (hSc xs L (i + (4 : Int32))) fun v4 => Option.bind (hSc xs L (i + (5 : Int32))) fun v5 => if hKd f x = some 9 then (Option.bind (F_X10_span z f x v1 v2 v3 v4 v5) fun q7 => Option.bind (hSc xs L (i + (1 : Int32))) fun v8 => Option.bind (hSc xs L (i + (2 : Int32))) fun v9 => Option.bind (hSc xs L (i + (3 : Int32))) fun v10 => Option.bind (hSc xs L (i + (4 : Int32))) fun v11 => Option.bind (hSc xs L (i + (5 : Int32))) fun v12 => if hKd q7.2.2 mo = some 10 then (Option.bind (F_X11_span q7.2.2 mo v8 v9 v10 v11 v12) fun q14 => if q7.1 = q14.1 then some (q7.2.1, q14.2) else none) else none) else none
def S_law_27 (xs : Nat → Int32) (L x mo z : Nat) (f : xHp) (i : Int32) : Option (Nat × xHp) := Option.bind (hSc xs L (i + (1 : Int32))) fun v1 => Option.bind (hSc xs L (i + (2 : Int32))) fun v2 => if hKd f x = some 9 then (Option.bind (F_X10_proof f x v1 v2) fun q4 => Option.bind (hSc xs L (i + (1 : Int32))) fun v5 => Option.bind (hSc xs L (i + (2 : Int32))) fun v6 => if hKd f mo = some 10 then (Option.bind (F_X11_proof f mo v5 v6) fun q8 => if q4 = q8 then some (z, f) else none) else none) else none
def S_law_28 (xs : Nat → Int32) (L x mo z : Nat) (f : xHp) (i : Int32) : Option (Nat × xHp) := Option.bind (hSc xs L (i + (1 : Int32))) fun v1 => Option.bind (hSc xs L (i + (2 : Int32))) fun v2 => if hKd f x = some 9 then (Option.bind (F_X10_number f x v1 v2) fun q4 => Option.bind (hSc xs L (i + (1 : Int32))) fun v5 => Option.bind (hSc xs L (i + (2 : Int32))) fun v6 => if hKd f mo = some 10 then (Option.bind (F_X11_number f mo v5 v6) fun q8 => if q4 = q8 then some (z, f) else none) else none) else none
def S_law_29 (xs : Nat → Int32) (L x mo z : Nat) (f : xHp) (i : Int32) : Option (Nat × xHp) := Option.bind (hSc xs L (i + (1 : Int32))) fun v1 => Option.bind (hSc xs L (i + (2 : Int32))) fun v2 => Option.bind (hSc xs L (i + (3 : Int32))) fun v3 => Option.bind (hSc xs L (i + (4 : Int32))) fun v4 => if hKd f x = some 9 then (Option.bind (F_X10_forge f x v1 v2 ((v3.toInt64 <<< ((32 : Int32).toInt64 &&& 63)) ||| (v4.toInt64 &&& (4294967295 : Int64)))) fun q6 => Option.bind (hSc xs L (i + (1 : Int32))) fun v7 => Option.bind (hSc xs L (i + (2 : Int32))) fun v8 => Option.bind (hSc xs L (i + (3 : Int32))) fun v9 => Option.bind (hSc xs L (i + (4 : Int32))) fun v10 => if hKd q6.2 mo = some 10 then (Option.bind (F_X11_forge q6.2 mo v7 v8 ((v9.toInt64 <<< ((32 : Int32).toInt64 &&& 63)) ||| (v10.toInt64 &&& (4294967295 : Int64)))) fun q12 => if q6.1 = q12.1 then some (z, q12.2) else none) else none) else none
def S_law_30 (xs : Nat → Int32) (L x mo z : Nat) (f : xHp) (i : Int32) : Option (Nat × xHp) := Option.bind (hSc xs L (i + (1 : Int32))) fun v1 => if hKd f x = some 9 then (Option.bind (F_X10_check f x v1) fun q3 => Option.bind (hSc xs L (i + (1 : Int32))) fun v4 => if hKd q3.2 mo = some 10 then (Option.bind (F_X11_check q3.2 mo v4) fun q6 => if q3.1 = q6.1 then some (z, q6.2) else none) else none) else none
def S_law_31 (xs : Nat → Int32) (L x mo z : Nat) (f : xHp) (i : Int32) : Option (Nat × xHp) := Option.bind (hSc xs L (i + (1 : Int32))) fun v1 => Option.bind (hSc xs L (i + (2 : Int32))) fun v2 => if hKd f x = some 9 then (Option.bind (F_X10_as f x v1 v2) fun q4 => Option.bind (hSc xs L (i + (1 : Int32))) fun v5 => Option.bind (hSc xs L (i + (2 : Int32))) fun v6 => if hKd q4.2 mo = some 10 then (Option.bind (F_X11_as q4.2 mo v5 v6) fun q8 => if q4.1 = q8.1 then some (z, q8.2) else none) else none) else none
def S_law_32 (xs : Nat → Int32) (L x mo z : Nat) (f : xHp) (i : Int32) : Option (Nat × xHp) := Option.bind (hSc xs L (i + (1 : Int32))) fun v1 => if hKd f x = some 9 then (Option.bind (F_X10_tell f x v1) fun q3 => Option.bind (hSc xs L (i + (1 : Int32))) fun v4 => if hKd q3.2 mo = some 10 then (Option.bind (F_X11_tell q3.2 mo v4) fun q6 => if q3.1 = q6.1 then some (z, q6.2) else none) else none) else none
def S_law_33 (xs : Nat → Int32) (L x mo z : Nat) (f : xHp) (i : Int32) : Option (Nat × xHp) := Option.bind (hSc xs L (i + (1 : Int32))) fun v1 => if hKd f x = some 9 then (Option.bind (F_X10_cost f x v1) fun q3 => Option.bind (hSc xs L (i + (1 : Int32))) fun v4 => if hKd q3.2 mo = some 10 then (Option.bind (F_X11_cost q3.2 mo v4) fun q6 => if q3.1 = q6.1 then some (z, q6.2) else none) else none) else none
def S_law_34 (xs : Nat → Int32) (L x mo z : Nat) (f : xHp) (i : Int32) : Option (Nat × xHp) := if hKd f x = some 9 then (Option.bind (F_X10_trace f x) fun q2 => if hKd f mo = some 10 then (Option.bind (F_X11_trace f mo) fun q4 => if q2 = q4 then some (z, f) else none) else none) else none
def S_law_35 (xs : Nat → Int32) (L x mo z : Nat) (f : xHp) (i : Int32) : Option (Nat × xHp) := if hKd f x = some 9 then (Option.bind (F_X10_fault f x) fun q2 => if hKd f mo = some 10 then (Option.bind (F_X11_fault f mo) fun q4 => if q2 = q4 then some (z, f) else none) else none) else none
def S_law_36 (xs : Nat → Int32) (L x mo z : Nat) (f : xHp) (i : Int32) : Option (Nat × xHp) := Option.bind (hSc xs L (i + (1 : Int32))) fun v1 => if hKd f x = some 9 then (Option.bind (F_X10_told f x v1) fun q3 => Option.bind (hSc xs L (i + (1 : Int32))) fun v4 => if hKd f mo = some 10 then (Option.bind (F_X11_told f mo v4) fun q6 => if q3 = q6 then some (z, f) else none) else none) else none
def F_law_step (xs : Nat → Int32) (L x mo z : Nat) (f : xHp) (i : Int32) : Option (Nat × xHp) := Option.bind (hSc xs L i) fun v => if (v &&& (63 : Int32)) = 0 then S_law_0 xs L x mo z f i else if (v &&& (63 : Int32)) = 1 then S_law_1 xs L x mo z f i else if (v &&& (63 : Int32)) = 2 then S_law_2 xs L x mo z f i else if (v &&& (63 : Int32)) = 3 then S_law_3 xs L x mo z f i else if (v &&& (63 : Int32)) = 4 then S_law_4 xs L x mo z f i else if (v &&& (63 : Int32)) = 5 then S_law_5 xs L x mo z f i else if (v &&& (63 : Int32)) = 6 then S_law_6 xs L x mo z f i else if (v &&& (63 : Int32)) = 7 then S_law_7 xs L x mo z f i else if (v &&& (63 : Int32)) = 8 then S_law_8 xs L x mo z f i else if (v &&& (63 : Int32)) = 9 then S_law_9 xs L x mo z f i else if (v &&& (63 : Int32)) = 10 then S_law_10 xs L x mo z f i else if (v &&& (63 : Int32)) = 11 then S_law_11 xs L x mo z f i else if (v &&& (63 : Int32)) = 12 then S_law_12 xs L x mo z f i else if (v &&& (63 : Int32)) = 13 then S_law_13 xs L x mo z f i else if (v &&& (63 : Int32)) = 14 then S_law_14 xs L x mo z f i else if (v &&& (63 : Int32)) = 15 then S_law_15 xs L x mo z f i else if (v &&& (63 : Int32)) = 16 then S_law_16 xs L x mo z f i else if (v &&& (63 : Int32)) = 17 then S_law_17 xs L x mo z f i else if (v &&& (63 : Int32)) = 18 then S_law_18 xs L x mo z f i else if (v &&& (63 : Int32)) = 19 then S_law_19 xs L x mo z f i else if (v &&& (63 : Int32)) = 20 then S_law_20 xs L x mo z f i else if (v &&& (63 : Int32)) = 21 then S_law_21 xs L x mo z f i else if (v &&& (63 : Int32)) = 22 then S_law_22 xs L x mo z f i else if (v &&& (63 : Int32)) = 23 then S_law_23 xs L x mo z f i else if (v &&& (63 : Int32)) = 24 then S_law_24 xs L x mo z f i else if (v &&& (63 : Int32)) = 25 then S_law_25 xs L x mo z f i else if (v &&& (63 : Int32)) = 26 then S_law_26 xs L x mo z f i else if (v &&& (63 : Int32)) = 27 then S_law_27 xs L x mo z f i else if (v &&& (63 : Int32)) = 28 then S_law_28 xs L x mo z f i else if (v &&& (63 : Int32)) = 29 then S_law_29 xs L x mo z f i else if (v &&& (63 : Int32)) = 30 then S_law_30 xs L x mo z f i else if (v &&& (63 : Int32)) = 31 then S_law_31 xs L x mo z f i else if (v &&& (63 : Int32)) = 32 then S_law_32 xs L x mo z f i else if (v &&& (63 : Int32)) = 33 then S_law_33 xs L x mo z f i else if (v &&& (63 : Int32)) = 34 then S_law_34 xs L x mo z f i else if (v &&& (63 : Int32)) = 35 then S_law_35 xs L x mo z f i else if (v &&& (63 : Int32)) = 36 then S_law_36 xs L x mo z f i else some (z, f)
set_option maxRecDepth 100000 in
set_option maxHeartbeats 4000000 in
theorem w_law_0 {p : Program} {l : Launch} {e : Env} {s : State} {m : MethodId} {below : List Frame} {meth : Method} {c : Code} {H : Heap} {locs : List Loc} {cells slots : Nat} {Q : State → Prop} {ls : Array Slot} {G : xG} {z : Nat} {f : xHp} {b L x mo : Nat} {xs : Nat → Int32} {i : Int32} {rs : Nat × xHp} (X : xC G p m c s #[Value.ref b] RL cL_law 4) (hX : xSc G s b L xs) (Y : xY G z f s H locs) (hl : lv_has ls 4 [(0, .ref b), (1, .ref x), (2, .ref mo), (3, .int i)]) (hc : cells + 8 ≤ 600000) (hs : slots + 256 ≤ 7302250) (h : S_law_0 xs L x mo z f i = some rs) (kk : ∀ (H1 : Heap) (locs1 : List Loc) (ls : Array Slot), xY G rs.1 rs.2 s H1 locs1 → lv_has ls 4 [(0, .ref b), (1, .ref x), (2, .ref mo), (3, .int i)] → W p l e room_1 s m #[Value.ref b] below meth c H1 locs1 (cells + 8) (slots + 256) Q (F0 m 1475 ls [])) : W p l e room_1 s m #[Value.ref b] below meth c H locs cells slots Q (F0 m 196 ls []) := by
  have hx := X.1.1
  have hb := X.1.2.1
  unfold S_law_0 at h
  refine lv_aload_n hx hb dL_law_196 rfl (lv_at hl 1 rfl) ?_
  refine lv_aload_n hx hb dL_law_197 rfl (lv_at hl 0 rfl) ?_
  refine lv_iload_n hx hb dL_law_198 rfl (lv_at hl 3 rfl) ?_
  refine lv_iconst (v := 1) hx hb dL_law_199 (by decide) ?_
  refine lv_iadd hx hb dL_law_200 ?_
  replace h := xb h
  obtain ⟨v1, ev1, h⟩ := h
  refine q_scr X Y hX ev1 dL_law_201 ?_
  refine lv_aload_n hx hb dL_law_202 rfl (lv_at hl 0 rfl) ?_
  refine lv_iload_n hx hb dL_law_203 rfl (lv_at hl 3 rfl) ?_
  refine lv_iconst (v := 2) hx hb dL_law_204 (by decide) ?_
  refine lv_iadd hx hb dL_law_205 ?_
  replace h := xb h
  obtain ⟨v2, ev2, h⟩ := h
  refine q_scr X Y hX ev2 dL_law_206 ?_
  refine lv_aload_n hx hb dL_law_207 rfl (lv_at hl 0 rfl) ?_
  refine lv_iload_n hx hb dL_law_208 rfl (lv_at hl 3 rfl) ?_
  refine lv_iconst (v := 3) hx hb dL_law_209 (by decide) ?_
  refine lv_iadd hx hb dL_law_210 ?_
  replace h := xb h
  obtain ⟨v3, ev3, h⟩ := h
  refine q_scr X Y hX ev3 dL_law_211 ?_
  by_cases c4 : hKd f x = some 9
  case neg => exact absurd (Eq.trans (if_neg c4).symm h) (by intro q; cases q)
  replace h := Eq.trans (if_pos c4).symm h
  replace h := xb h
  obtain ⟨q5, eq5, h⟩ := h
  refine q_callV X Y hl.1 (rest := []) (As := [.int v1, .int v2, .int v3]) (c_X10_sheet l G z f x v1 v2 v3 _ eq5) cd_X10_sheet lv_L_13_9 c4 ⟨(Nat.le_of_ble_eq_true rfl), (Nat.le_of_ble_eq_true rfl)⟩ ⟨by show cells + 2 ≤ 600000; omega, by show slots + 32 ≤ 7302250; omega⟩ rfl rfl (Nat.le_of_ble_eq_true rfl) dL_law_212 (fun H locs Y => ?_)
  refine W.widen (k := cells + 2) (n := slots + 32) (by show cells + 2 ≤ cells + 2; omega) (by show slots + 32 ≤ slots + 32; omega) ?_
  refine W.eq (g2 := F0 m 215 ls [.int q5.1]) rfl ?_
  refine lv_aload_n hx hb dL_law_215 rfl (lv_at hl 2 rfl) ?_
  refine lv_aload_n hx hb dL_law_216 rfl (lv_at hl 0 rfl) ?_
  refine lv_iload_n hx hb dL_law_217 rfl (lv_at hl 3 rfl) ?_
  refine lv_iconst (v := 1) hx hb dL_law_218 (by decide) ?_
  refine lv_iadd hx hb dL_law_219 ?_
  replace h := xb h
  obtain ⟨v6, ev6, h⟩ := h
  refine q_scr X Y hX ev6 dL_law_220 ?_
  refine lv_aload_n hx hb dL_law_221 rfl (lv_at hl 0 rfl) ?_
  refine lv_iload_n hx hb dL_law_222 rfl (lv_at hl 3 rfl) ?_
  refine lv_iconst (v := 2) hx hb dL_law_223 (by decide) ?_
  refine lv_iadd hx hb dL_law_224 ?_
  replace h := xb h
  obtain ⟨v7, ev7, h⟩ := h
  refine q_scr X Y hX ev7 dL_law_225 ?_
  refine lv_aload_n hx hb dL_law_226 rfl (lv_at hl 0 rfl) ?_
  refine lv_iload_n hx hb dL_law_227 rfl (lv_at hl 3 rfl) ?_
  refine lv_iconst (v := 3) hx hb dL_law_228 (by decide) ?_
  refine lv_iadd hx hb dL_law_229 ?_
  replace h := xb h
  obtain ⟨v8, ev8, h⟩ := h
  refine q_scr X Y hX ev8 dL_law_230 ?_
  by_cases c9 : hKd q5.2.2 mo = some 10
  case neg => exact absurd (Eq.trans (if_neg c9).symm h) (by intro q; cases q)
  replace h := Eq.trans (if_pos c9).symm h
  replace h := xb h
  obtain ⟨q10, eq10, h⟩ := h
  refine q_callV X Y hl.1 (rest := [.int q5.1]) (As := [.int v6, .int v7, .int v8]) (c_X11_sheet l G q5.2.1 q5.2.2 mo v6 v7 v8 _ eq10) cd_X11_sheet lv_L_17_10 c9 ⟨(Nat.le_of_ble_eq_true rfl), (Nat.le_of_ble_eq_true rfl)⟩ ⟨by show cells + 2 + 0 ≤ 600000; omega, by show slots + 32 + 0 ≤ 7302250; omega⟩ rfl rfl (Nat.le_of_ble_eq_true rfl) dL_law_231 (fun H locs Y => ?_)
  refine W.widen (k := cells + 2) (n := slots + 32) (by show cells + 2 + 0 ≤ cells + 2; omega) (by show slots + 32 + 0 ≤ slots + 32; omega) ?_
  refine W.eq (g2 := F0 m 234 ls [.int q10.1, .int q5.1]) rfl ?_
  refine lv_icmp_eq (tgt := 1475) hx hb dL_law_234 (by decide) (fun c11 => ?_) (fun c11 => ?_)
  · replace h := Option.some.inj (Eq.trans (if_pos c11).symm h)
    subst h
    refine W.widen (k := cells + 8) (n := slots + 256) (by omega) (by omega) ?_
    exact kk _ _ _ Y hl
  · exact absurd (Eq.trans (if_neg c11).symm h) (by intro q; cases q)
set_option maxRecDepth 100000 in
set_option maxHeartbeats 4000000 in
theorem w_law_1 {p : Program} {l : Launch} {e : Env} {s : State} {m : MethodId} {below : List Frame} {meth : Method} {c : Code} {H : Heap} {locs : List Loc} {cells slots : Nat} {Q : State → Prop} {ls : Array Slot} {G : xG} {z : Nat} {f : xHp} {b L x mo : Nat} {xs : Nat → Int32} {i : Int32} {rs : Nat × xHp} (X : xC G p m c s #[Value.ref b] RL cL_law 4) (hX : xSc G s b L xs) (Y : xY G z f s H locs) (hl : lv_has ls 4 [(0, .ref b), (1, .ref x), (2, .ref mo), (3, .int i)]) (hc : cells + 8 ≤ 600000) (hs : slots + 256 ≤ 7302250) (h : S_law_1 xs L x mo z f i = some rs) (kk : ∀ (H1 : Heap) (locs1 : List Loc) (ls : Array Slot), xY G rs.1 rs.2 s H1 locs1 → lv_has ls 4 [(0, .ref b), (1, .ref x), (2, .ref mo), (3, .int i)] → W p l e room_1 s m #[Value.ref b] below meth c H1 locs1 (cells + 8) (slots + 256) Q (F0 m 1475 ls [])) : W p l e room_1 s m #[Value.ref b] below meth c H locs cells slots Q (F0 m 239 ls []) := by
  have hx := X.1.1
  have hb := X.1.2.1
  unfold S_law_1 at h
  refine lv_aload_n hx hb dL_law_239 rfl (lv_at hl 1 rfl) ?_
  refine lv_aload_n hx hb dL_law_240 rfl (lv_at hl 0 rfl) ?_
  refine lv_iload_n hx hb dL_law_241 rfl (lv_at hl 3 rfl) ?_
  refine lv_iconst (v := 1) hx hb dL_law_242 (by decide) ?_
  refine lv_iadd hx hb dL_law_243 ?_
  replace h := xb h
  obtain ⟨v1, ev1, h⟩ := h
  refine q_scr X Y hX ev1 dL_law_244 ?_
  by_cases c2 : hKd f x = some 9
  case neg => exact absurd (Eq.trans (if_neg c2).symm h) (by intro q; cases q)
  replace h := Eq.trans (if_pos c2).symm h
  replace h := xb h
  obtain ⟨q3, eq3, h⟩ := h
  refine q_callV X Y hl.1 (rest := []) (As := [.int v1]) (c_X10_lose l G z f x v1 _ eq3) cd_X10_lose lv_L_18_9 c2 ⟨(Nat.le_of_ble_eq_true rfl), (Nat.le_of_ble_eq_true rfl)⟩ ⟨by show cells + 0 ≤ 600000; omega, by show slots + 0 ≤ 7302250; omega⟩ rfl rfl (Nat.le_of_ble_eq_true rfl) dL_law_245 (fun H locs Y => ?_)
  refine W.widen (k := cells + 0) (n := slots + 0) (by show cells + 0 ≤ cells + 0; omega) (by show slots + 0 ≤ slots + 0; omega) ?_
  refine W.eq (g2 := F0 m 248 ls [.int q3.1]) rfl ?_
  refine lv_aload_n hx hb dL_law_248 rfl (lv_at hl 2 rfl) ?_
  refine lv_aload_n hx hb dL_law_249 rfl (lv_at hl 0 rfl) ?_
  refine lv_iload_n hx hb dL_law_250 rfl (lv_at hl 3 rfl) ?_
  refine lv_iconst (v := 1) hx hb dL_law_251 (by decide) ?_
  refine lv_iadd hx hb dL_law_252 ?_
  replace h := xb h
  obtain ⟨v4, ev4, h⟩ := h
  refine q_scr X Y hX ev4 dL_law_253 ?_
  by_cases c5 : hKd q3.2 mo = some 10
  case neg => exact absurd (Eq.trans (if_neg c5).symm h) (by intro q; cases q)
  replace h := Eq.trans (if_pos c5).symm h
  replace h := xb h
  obtain ⟨q6, eq6, h⟩ := h
  refine q_callV X Y hl.1 (rest := [.int q3.1]) (As := [.int v4]) (c_X11_lose l G z q3.2 mo v4 _ eq6) cd_X11_lose lv_L_22_10 c5 ⟨(Nat.le_of_ble_eq_true rfl), (Nat.le_of_ble_eq_true rfl)⟩ ⟨by show cells + 0 ≤ 600000; omega, by show slots + 0 ≤ 7302250; omega⟩ rfl rfl (Nat.le_of_ble_eq_true rfl) dL_law_254 (fun H locs Y => ?_)
  refine W.widen (k := cells + 0) (n := slots + 0) (by show cells + 0 + 0 ≤ cells + 0; omega) (by show slots + 0 + 0 ≤ slots + 0; omega) ?_
  refine W.eq (g2 := F0 m 257 ls [.int q6.1, .int q3.1]) rfl ?_
  refine lv_icmp_eq (tgt := 1475) hx hb dL_law_257 (by decide) (fun c7 => ?_) (fun c7 => ?_)
  · replace h := Option.some.inj (Eq.trans (if_pos c7).symm h)
    subst h
    refine W.widen (k := cells + 8) (n := slots + 256) (by omega) (by omega) ?_
    exact kk _ _ _ Y hl
  · exact absurd (Eq.trans (if_neg c7).symm h) (by intro q; cases q)
set_option maxRecDepth 100000 in
set_option maxHeartbeats 4000000 in
theorem w_law_2 {p : Program} {l : Launch} {e : Env} {s : State} {m : MethodId} {below : List Frame} {meth : Method} {c : Code} {H : Heap} {locs : List Loc} {cells slots : Nat} {Q : State → Prop} {ls : Array Slot} {G : xG} {z : Nat} {f : xHp} {b L x mo : Nat} {xs : Nat → Int32} {i : Int32} {rs : Nat × xHp} (X : xC G p m c s #[Value.ref b] RL cL_law 4) (hX : xSc G s b L xs) (Y : xY G z f s H locs) (hl : lv_has ls 4 [(0, .ref b), (1, .ref x), (2, .ref mo), (3, .int i)]) (hc : cells + 8 ≤ 600000) (hs : slots + 256 ≤ 7302250) (h : S_law_2 xs L x mo z f i = some rs) (kk : ∀ (H1 : Heap) (locs1 : List Loc) (ls : Array Slot), xY G rs.1 rs.2 s H1 locs1 → lv_has ls 4 [(0, .ref b), (1, .ref x), (2, .ref mo), (3, .int i)] → W p l e room_1 s m #[Value.ref b] below meth c H1 locs1 (cells + 8) (slots + 256) Q (F0 m 1475 ls [])) : W p l e room_1 s m #[Value.ref b] below meth c H locs cells slots Q (F0 m 262 ls []) := by
  have hx := X.1.1
  have hb := X.1.2.1
  unfold S_law_2 at h
  refine lv_aload_n hx hb dL_law_262 rfl (lv_at hl 1 rfl) ?_
  refine lv_aload_n hx hb dL_law_263 rfl (lv_at hl 0 rfl) ?_
  refine lv_iload_n hx hb dL_law_264 rfl (lv_at hl 3 rfl) ?_
  refine lv_iconst (v := 1) hx hb dL_law_265 (by decide) ?_
  refine lv_iadd hx hb dL_law_266 ?_
  replace h := xb h
  obtain ⟨v1, ev1, h⟩ := h
  refine q_scr X Y hX ev1 dL_law_267 ?_
  refine lv_aload_n hx hb dL_law_268 rfl (lv_at hl 0 rfl) ?_
  refine lv_iload_n hx hb dL_law_269 rfl (lv_at hl 3 rfl) ?_
  refine lv_iconst (v := 2) hx hb dL_law_270 (by decide) ?_
  refine lv_iadd hx hb dL_law_271 ?_
  replace h := xb h
  obtain ⟨v2, ev2, h⟩ := h
  refine q_scr X Y hX ev2 dL_law_272 ?_
  refine lv_aload_n hx hb dL_law_273 rfl (lv_at hl 0 rfl) ?_
  refine lv_iload_n hx hb dL_law_274 rfl (lv_at hl 3 rfl) ?_
  refine lv_iconst (v := 3) hx hb dL_law_275 (by decide) ?_
  refine lv_iadd hx hb dL_law_276 ?_
  replace h := xb h
  obtain ⟨v3, ev3, h⟩ := h
  refine q_scr X Y hX ev3 dL_law_277 ?_
  refine lv_i2l hx hb dL_law_278 rfl ?_
  refine lv_bipush (v := 32) hx hb dL_law_279 (by decide) ?_
  refine lv_lshl hx hb dL_law_281 rfl ?_
  refine lv_aload_n hx hb dL_law_282 rfl (lv_at hl 0 rfl) ?_
  refine lv_iload_n hx hb dL_law_283 rfl (lv_at hl 3 rfl) ?_
  refine lv_iconst (v := 4) hx hb dL_law_284 (by decide) ?_
  refine lv_iadd hx hb dL_law_285 ?_
  replace h := xb h
  obtain ⟨v4, ev4, h⟩ := h
  refine q_scr X Y hX ev4 dL_law_286 ?_
  refine lv_i2l hx hb dL_law_287 rfl ?_
  refine lv_ldc2 (v := 4294967295) hx hb X.1.2.2.2.1 (X.1.2.2.2.2 _ xw_1241) dL_law_288 ?_
  refine lv_land hx hb dL_law_291 ?_
  refine lv_lor hx hb dL_law_292 ?_
  by_cases c5 : hKd f x = some 9
  case neg => exact absurd (Eq.trans (if_neg c5).symm h) (by intro q; cases q)
  replace h := Eq.trans (if_pos c5).symm h
  replace h := xb h
  obtain ⟨q6, eq6, h⟩ := h
  refine q_callV X Y hl.1 (rest := []) (As := [.int v1, .int v2, .long ((v3.toInt64 <<< ((32 : Int32).toInt64 &&& 63)) ||| (v4.toInt64 &&& (4294967295 : Int64)))]) (c_X10_put l G z f x v1 v2 ((v3.toInt64 <<< ((32 : Int32).toInt64 &&& 63)) ||| (v4.toInt64 &&& (4294967295 : Int64))) _ eq6) cd_X10_put lv_L_25_9 c5 ⟨(Nat.le_of_ble_eq_true rfl), (Nat.le_of_ble_eq_true rfl)⟩ ⟨by show cells + 0 ≤ 600000; omega, by show slots + 0 ≤ 7302250; omega⟩ rfl rfl (Nat.le_of_ble_eq_true rfl) dL_law_293 (fun H locs Y => ?_)
  refine W.widen (k := cells + 0) (n := slots + 0) (by show cells + 0 ≤ cells + 0; omega) (by show slots + 0 ≤ slots + 0; omega) ?_
  refine W.eq (g2 := F0 m 296 ls [.int q6.1]) rfl ?_
  refine lv_aload_n hx hb dL_law_296 rfl (lv_at hl 2 rfl) ?_
  refine lv_aload_n hx hb dL_law_297 rfl (lv_at hl 0 rfl) ?_
  refine lv_iload_n hx hb dL_law_298 rfl (lv_at hl 3 rfl) ?_
  refine lv_iconst (v := 1) hx hb dL_law_299 (by decide) ?_
  refine lv_iadd hx hb dL_law_300 ?_
  replace h := xb h
  obtain ⟨v7, ev7, h⟩ := h
  refine q_scr X Y hX ev7 dL_law_301 ?_
  refine lv_aload_n hx hb dL_law_302 rfl (lv_at hl 0 rfl) ?_
  refine lv_iload_n hx hb dL_law_303 rfl (lv_at hl 3 rfl) ?_
  refine lv_iconst (v := 2) hx hb dL_law_304 (by decide) ?_
  refine lv_iadd hx hb dL_law_305 ?_
  replace h := xb h
  obtain ⟨v8, ev8, h⟩ := h
  refine q_scr X Y hX ev8 dL_law_306 ?_
  refine lv_aload_n hx hb dL_law_307 rfl (lv_at hl 0 rfl) ?_
  refine lv_iload_n hx hb dL_law_308 rfl (lv_at hl 3 rfl) ?_
  refine lv_iconst (v := 3) hx hb dL_law_309 (by decide) ?_
  refine lv_iadd hx hb dL_law_310 ?_
  replace h := xb h
  obtain ⟨v9, ev9, h⟩ := h
  refine q_scr X Y hX ev9 dL_law_311 ?_
  refine lv_i2l hx hb dL_law_312 rfl ?_
  refine lv_bipush (v := 32) hx hb dL_law_313 (by decide) ?_
  refine lv_lshl hx hb dL_law_315 rfl ?_
  refine lv_aload_n hx hb dL_law_316 rfl (lv_at hl 0 rfl) ?_
  refine lv_iload_n hx hb dL_law_317 rfl (lv_at hl 3 rfl) ?_
  refine lv_iconst (v := 4) hx hb dL_law_318 (by decide) ?_
  refine lv_iadd hx hb dL_law_319 ?_
  replace h := xb h
  obtain ⟨v10, ev10, h⟩ := h
  refine q_scr X Y hX ev10 dL_law_320 ?_
  refine lv_i2l hx hb dL_law_321 rfl ?_
  refine lv_ldc2 (v := 4294967295) hx hb X.1.2.2.2.1 (X.1.2.2.2.2 _ xw_1241) dL_law_322 ?_
  refine lv_land hx hb dL_law_325 ?_
  refine lv_lor hx hb dL_law_326 ?_
  by_cases c11 : hKd q6.2 mo = some 10
  case neg => exact absurd (Eq.trans (if_neg c11).symm h) (by intro q; cases q)
  replace h := Eq.trans (if_pos c11).symm h
  replace h := xb h
  obtain ⟨q12, eq12, h⟩ := h
  refine q_callV X Y hl.1 (rest := [.int q6.1]) (As := [.int v7, .int v8, .long ((v9.toInt64 <<< ((32 : Int32).toInt64 &&& 63)) ||| (v10.toInt64 &&& (4294967295 : Int64)))]) (c_X11_put l G z q6.2 mo v7 v8 ((v9.toInt64 <<< ((32 : Int32).toInt64 &&& 63)) ||| (v10.toInt64 &&& (4294967295 : Int64))) _ eq12) cd_X11_put lv_L_29_10 c11 ⟨(Nat.le_of_ble_eq_true rfl), (Nat.le_of_ble_eq_true rfl)⟩ ⟨by show cells + 0 ≤ 600000; omega, by show slots + 0 ≤ 7302250; omega⟩ rfl rfl (Nat.le_of_ble_eq_true rfl) dL_law_327 (fun H locs Y => ?_)
  refine W.widen (k := cells + 0) (n := slots + 0) (by show cells + 0 + 0 ≤ cells + 0; omega) (by show slots + 0 + 0 ≤ slots + 0; omega) ?_
  refine W.eq (g2 := F0 m 330 ls [.int q12.1, .int q6.1]) rfl ?_
  refine lv_icmp_eq (tgt := 1475) hx hb dL_law_330 (by decide) (fun c13 => ?_) (fun c13 => ?_)
  · replace h := Option.some.inj (Eq.trans (if_pos c13).symm h)
    subst h
    refine W.widen (k := cells + 8) (n := slots + 256) (by omega) (by omega) ?_
    exact kk _ _ _ Y hl
  · exact absurd (Eq.trans (if_neg c13).symm h) (by intro q; cases q)
set_option maxRecDepth 100000 in
set_option maxHeartbeats 4000000 in
theorem w_law_3 {p : Program} {l : Launch} {e : Env} {s : State} {m : MethodId} {below : List Frame} {meth : Method} {c : Code} {H : Heap} {locs : List Loc} {cells slots : Nat} {Q : State → Prop} {ls : Array Slot} {G : xG} {z : Nat} {f : xHp} {b L x mo : Nat} {xs : Nat → Int32} {i : Int32} {rs : Nat × xHp} (X : xC G p m c s #[Value.ref b] RL cL_law 4) (hX : xSc G s b L xs) (Y : xY G z f s H locs) (hl : lv_has ls 4 [(0, .ref b), (1, .ref x), (2, .ref mo), (3, .int i)]) (hc : cells + 8 ≤ 600000) (hs : slots + 256 ≤ 7302250) (h : S_law_3 xs L x mo z f i = some rs) (kk : ∀ (H1 : Heap) (locs1 : List Loc) (ls : Array Slot), xY G rs.1 rs.2 s H1 locs1 → lv_has ls 4 [(0, .ref b), (1, .ref x), (2, .ref mo), (3, .int i)] → W p l e room_1 s m #[Value.ref b] below meth c H1 locs1 (cells + 8) (slots + 256) Q (F0 m 1475 ls [])) : W p l e room_1 s m #[Value.ref b] below meth c H locs cells slots Q (F0 m 335 ls []) := by
  have hx := X.1.1
  have hb := X.1.2.1
  unfold S_law_3 at h
  refine lv_aload_n hx hb dL_law_335 rfl (lv_at hl 1 rfl) ?_
  refine lv_aload_n hx hb dL_law_336 rfl (lv_at hl 0 rfl) ?_
  refine lv_iload_n hx hb dL_law_337 rfl (lv_at hl 3 rfl) ?_
  refine lv_iconst (v := 1) hx hb dL_law_338 (by decide) ?_
  refine lv_iadd hx hb dL_law_339 ?_
  replace h := xb h
  obtain ⟨v1, ev1, h⟩ := h
  refine q_scr X Y hX ev1 dL_law_340 ?_
  refine lv_aload_n hx hb dL_law_341 rfl (lv_at hl 0 rfl) ?_
  refine lv_iload_n hx hb dL_law_342 rfl (lv_at hl 3 rfl) ?_
  refine lv_iconst (v := 2) hx hb dL_law_343 (by decide) ?_
  refine lv_iadd hx hb dL_law_344 ?_
  replace h := xb h
  obtain ⟨v2, ev2, h⟩ := h
  refine q_scr X Y hX ev2 dL_law_345 ?_
  refine lv_aload_n hx hb dL_law_346 rfl (lv_at hl 0 rfl) ?_
  refine lv_iload_n hx hb dL_law_347 rfl (lv_at hl 3 rfl) ?_
  refine lv_iconst (v := 3) hx hb dL_law_348 (by decide) ?_
  refine lv_iadd hx hb dL_law_349 ?_
  replace h := xb h
  obtain ⟨v3, ev3, h⟩ := h
  refine q_scr X Y hX ev3 dL_law_350 ?_
  by_cases c4 : hKd f x = some 9
  case neg => exact absurd (Eq.trans (if_neg c4).symm h) (by intro q; cases q)
  replace h := Eq.trans (if_pos c4).symm h
  replace h := xb h
  obtain ⟨q5, eq5, h⟩ := h
  refine q_callV X Y hl.1 (rest := []) (As := [.int v1, .int v2, .int v3]) (c_X10_at l G z f x v1 v2 v3 _ eq5) cd_X10_at lv_L_30_9 c4 ⟨(Nat.le_of_ble_eq_true rfl), (Nat.le_of_ble_eq_true rfl)⟩ ⟨by show cells + 0 ≤ 600000; omega, by show slots + 0 ≤ 7302250; omega⟩ rfl rfl (Nat.le_of_ble_eq_true rfl) dL_law_351 (fun H locs Y => ?_)
  refine W.widen (k := cells + 0) (n := slots + 0) (by show cells + 0 ≤ cells + 0; omega) (by show slots + 0 ≤ slots + 0; omega) ?_
  refine W.eq (g2 := F0 m 354 ls [.long q5.1]) rfl ?_
  refine lv_aload_n hx hb dL_law_354 rfl (lv_at hl 2 rfl) ?_
  refine lv_aload_n hx hb dL_law_355 rfl (lv_at hl 0 rfl) ?_
  refine lv_iload_n hx hb dL_law_356 rfl (lv_at hl 3 rfl) ?_
  refine lv_iconst (v := 1) hx hb dL_law_357 (by decide) ?_
  refine lv_iadd hx hb dL_law_358 ?_
  replace h := xb h
  obtain ⟨v6, ev6, h⟩ := h
  refine q_scr X Y hX ev6 dL_law_359 ?_
  refine lv_aload_n hx hb dL_law_360 rfl (lv_at hl 0 rfl) ?_
  refine lv_iload_n hx hb dL_law_361 rfl (lv_at hl 3 rfl) ?_
  refine lv_iconst (v := 2) hx hb dL_law_362 (by decide) ?_
  refine lv_iadd hx hb dL_law_363 ?_
  replace h := xb h
  obtain ⟨v7, ev7, h⟩ := h
  refine q_scr X Y hX ev7 dL_law_364 ?_
  refine lv_aload_n hx hb dL_law_365 rfl (lv_at hl 0 rfl) ?_
  refine lv_iload_n hx hb dL_law_366 rfl (lv_at hl 3 rfl) ?_
  refine lv_iconst (v := 3) hx hb dL_law_367 (by decide) ?_
  refine lv_iadd hx hb dL_law_368 ?_
  replace h := xb h
  obtain ⟨v8, ev8, h⟩ := h
  refine q_scr X Y hX ev8 dL_law_369 ?_
  by_cases c9 : hKd q5.2 mo = some 10
  case neg => exact absurd (Eq.trans (if_neg c9).symm h) (by intro q; cases q)
  replace h := Eq.trans (if_pos c9).symm h
  replace h := xb h
  obtain ⟨q10, eq10, h⟩ := h
  refine q_callV X Y hl.1 (rest := [.long q5.1]) (As := [.int v6, .int v7, .int v8]) (c_X11_at l G z q5.2 mo v6 v7 v8 _ eq10) cd_X11_at lv_L_34_10 c9 ⟨(Nat.le_of_ble_eq_true rfl), (Nat.le_of_ble_eq_true rfl)⟩ ⟨by show cells + 0 ≤ 600000; omega, by show slots + 0 ≤ 7302250; omega⟩ rfl rfl (Nat.le_of_ble_eq_true rfl) dL_law_370 (fun H locs Y => ?_)
  refine W.widen (k := cells + 0) (n := slots + 0) (by show cells + 0 + 0 ≤ cells + 0; omega) (by show slots + 0 + 0 ≤ slots + 0; omega) ?_
  refine W.eq (g2 := F0 m 373 ls [.long q10.1, .long q5.1]) rfl ?_
  refine q_lcmp_eq (tgt := 1475) hx hb dL_law_373 dL_law_374 (by decide) (fun c11 => ?_) (fun c11 => ?_)
  · replace h := Option.some.inj (Eq.trans (if_pos c11).symm h)
    subst h
    refine W.widen (k := cells + 8) (n := slots + 256) (by omega) (by omega) ?_
    exact kk _ _ _ Y hl
  · exact absurd (Eq.trans (if_neg c11).symm h) (by intro q; cases q)
set_option maxRecDepth 100000 in
set_option maxHeartbeats 4000000 in
theorem w_law_4 {p : Program} {l : Launch} {e : Env} {s : State} {m : MethodId} {below : List Frame} {meth : Method} {c : Code} {H : Heap} {locs : List Loc} {cells slots : Nat} {Q : State → Prop} {ls : Array Slot} {G : xG} {z : Nat} {f : xHp} {b L x mo : Nat} {xs : Nat → Int32} {i : Int32} {rs : Nat × xHp} (X : xC G p m c s #[Value.ref b] RL cL_law 4) (hX : xSc G s b L xs) (Y : xY G z f s H locs) (hl : lv_has ls 4 [(0, .ref b), (1, .ref x), (2, .ref mo), (3, .int i)]) (hc : cells + 8 ≤ 600000) (hs : slots + 256 ≤ 7302250) (h : S_law_4 xs L x mo z f i = some rs) (kk : ∀ (H1 : Heap) (locs1 : List Loc) (ls : Array Slot), xY G rs.1 rs.2 s H1 locs1 → lv_has ls 4 [(0, .ref b), (1, .ref x), (2, .ref mo), (3, .int i)] → W p l e room_1 s m #[Value.ref b] below meth c H1 locs1 (cells + 8) (slots + 256) Q (F0 m 1475 ls [])) : W p l e room_1 s m #[Value.ref b] below meth c H locs cells slots Q (F0 m 379 ls []) := by
  have hx := X.1.1
  have hb := X.1.2.1
  unfold S_law_4 at h
  refine lv_aload_n hx hb dL_law_379 rfl (lv_at hl 1 rfl) ?_
  refine lv_aload_n hx hb dL_law_380 rfl (lv_at hl 0 rfl) ?_
  refine lv_iload_n hx hb dL_law_381 rfl (lv_at hl 3 rfl) ?_
  refine lv_iconst (v := 1) hx hb dL_law_382 (by decide) ?_
  refine lv_iadd hx hb dL_law_383 ?_
  replace h := xb h
  obtain ⟨v1, ev1, h⟩ := h
  refine q_scr X Y hX ev1 dL_law_384 ?_
  refine lv_aload_n hx hb dL_law_385 rfl (lv_at hl 0 rfl) ?_
  refine lv_iload_n hx hb dL_law_386 rfl (lv_at hl 3 rfl) ?_
  refine lv_iconst (v := 2) hx hb dL_law_387 (by decide) ?_
  refine lv_iadd hx hb dL_law_388 ?_
  replace h := xb h
  obtain ⟨v2, ev2, h⟩ := h
  refine q_scr X Y hX ev2 dL_law_389 ?_
  refine lv_aload_n hx hb dL_law_390 rfl (lv_at hl 0 rfl) ?_
  refine lv_iload_n hx hb dL_law_391 rfl (lv_at hl 3 rfl) ?_
  refine lv_iconst (v := 3) hx hb dL_law_392 (by decide) ?_
  refine lv_iadd hx hb dL_law_393 ?_
  replace h := xb h
  obtain ⟨v3, ev3, h⟩ := h
  refine q_scr X Y hX ev3 dL_law_394 ?_
  refine lv_aload_n hx hb dL_law_395 rfl (lv_at hl 0 rfl) ?_
  refine lv_iload_n hx hb dL_law_396 rfl (lv_at hl 3 rfl) ?_
  refine lv_iconst (v := 4) hx hb dL_law_397 (by decide) ?_
  refine lv_iadd hx hb dL_law_398 ?_
  replace h := xb h
  obtain ⟨v4, ev4, h⟩ := h
  refine q_scr X Y hX ev4 dL_law_399 ?_
  by_cases c5 : hKd f x = some 9
  case neg => exact absurd (Eq.trans (if_neg c5).symm h) (by intro q; cases q)
  replace h := Eq.trans (if_pos c5).symm h
  replace h := xb h
  obtain ⟨q6, eq6, h⟩ := h
  refine q_callV X Y hl.1 (rest := []) (As := [.int v1, .int v2, .int v3, .int v4]) (c_X10_poly l G z f x v1 v2 v3 v4 _ eq6) cd_X10_poly lv_L_35_9 c5 ⟨(Nat.le_of_ble_eq_true rfl), (Nat.le_of_ble_eq_true rfl)⟩ ⟨by show cells + 2 ≤ 600000; omega, by show slots + 10 ≤ 7302250; omega⟩ rfl rfl (Nat.le_of_ble_eq_true rfl) dL_law_400 (fun H locs Y => ?_)
  refine W.widen (k := cells + 2) (n := slots + 10) (by show cells + 2 ≤ cells + 2; omega) (by show slots + 10 ≤ slots + 10; omega) ?_
  refine W.eq (g2 := F0 m 403 ls [.int q6.1]) rfl ?_
  refine lv_aload_n hx hb dL_law_403 rfl (lv_at hl 2 rfl) ?_
  refine lv_aload_n hx hb dL_law_404 rfl (lv_at hl 0 rfl) ?_
  refine lv_iload_n hx hb dL_law_405 rfl (lv_at hl 3 rfl) ?_
  refine lv_iconst (v := 1) hx hb dL_law_406 (by decide) ?_
  refine lv_iadd hx hb dL_law_407 ?_
  replace h := xb h
  obtain ⟨v7, ev7, h⟩ := h
  refine q_scr X Y hX ev7 dL_law_408 ?_
  refine lv_aload_n hx hb dL_law_409 rfl (lv_at hl 0 rfl) ?_
  refine lv_iload_n hx hb dL_law_410 rfl (lv_at hl 3 rfl) ?_
  refine lv_iconst (v := 2) hx hb dL_law_411 (by decide) ?_
  refine lv_iadd hx hb dL_law_412 ?_
  replace h := xb h
  obtain ⟨v8, ev8, h⟩ := h
  refine q_scr X Y hX ev8 dL_law_413 ?_
  refine lv_aload_n hx hb dL_law_414 rfl (lv_at hl 0 rfl) ?_
  refine lv_iload_n hx hb dL_law_415 rfl (lv_at hl 3 rfl) ?_
  refine lv_iconst (v := 3) hx hb dL_law_416 (by decide) ?_
  refine lv_iadd hx hb dL_law_417 ?_
  replace h := xb h
  obtain ⟨v9, ev9, h⟩ := h
  refine q_scr X Y hX ev9 dL_law_418 ?_
  refine lv_aload_n hx hb dL_law_419 rfl (lv_at hl 0 rfl) ?_
  refine lv_iload_n hx hb dL_law_420 rfl (lv_at hl 3 rfl) ?_
  refine lv_iconst (v := 4) hx hb dL_law_421 (by decide) ?_
  refine lv_iadd hx hb dL_law_422 ?_
  replace h := xb h
  obtain ⟨v10, ev10, h⟩ := h
  refine q_scr X Y hX ev10 dL_law_423 ?_
  by_cases c11 : hKd q6.2.2 mo = some 10
  case neg => exact absurd (Eq.trans (if_neg c11).symm h) (by intro q; cases q)
  replace h := Eq.trans (if_pos c11).symm h
  replace h := xb h
  obtain ⟨q12, eq12, h⟩ := h
  refine q_callV X Y hl.1 (rest := [.int q6.1]) (As := [.int v7, .int v8, .int v9, .int v10]) (c_X11_poly l G q6.2.1 q6.2.2 mo v7 v8 v9 v10 _ eq12) cd_X11_poly lv_L_39_10 c11 ⟨(Nat.le_of_ble_eq_true rfl), (Nat.le_of_ble_eq_true rfl)⟩ ⟨by show cells + 2 + 0 ≤ 600000; omega, by show slots + 10 + 0 ≤ 7302250; omega⟩ rfl rfl (Nat.le_of_ble_eq_true rfl) dL_law_424 (fun H locs Y => ?_)
  refine W.widen (k := cells + 2) (n := slots + 10) (by show cells + 2 + 0 ≤ cells + 2; omega) (by show slots + 10 + 0 ≤ slots + 10; omega) ?_
  refine W.eq (g2 := F0 m 427 ls [.int q12.1, .int q6.1]) rfl ?_
  refine lv_icmp_eq (tgt := 1475) hx hb dL_law_427 (by decide) (fun c13 => ?_) (fun c13 => ?_)
  · replace h := Option.some.inj (Eq.trans (if_pos c13).symm h)
    subst h
    refine W.widen (k := cells + 8) (n := slots + 256) (by omega) (by omega) ?_
    exact kk _ _ _ Y hl
  · exact absurd (Eq.trans (if_neg c13).symm h) (by intro q; cases q)
set_option maxRecDepth 100000 in
set_option maxHeartbeats 4000000 in
theorem w_law_5 {p : Program} {l : Launch} {e : Env} {s : State} {m : MethodId} {below : List Frame} {meth : Method} {c : Code} {H : Heap} {locs : List Loc} {cells slots : Nat} {Q : State → Prop} {ls : Array Slot} {G : xG} {z : Nat} {f : xHp} {b L x mo : Nat} {xs : Nat → Int32} {i : Int32} {rs : Nat × xHp} (X : xC G p m c s #[Value.ref b] RL cL_law 4) (hX : xSc G s b L xs) (Y : xY G z f s H locs) (hl : lv_has ls 4 [(0, .ref b), (1, .ref x), (2, .ref mo), (3, .int i)]) (hc : cells + 8 ≤ 600000) (hs : slots + 256 ≤ 7302250) (h : S_law_5 xs L x mo z f i = some rs) (kk : ∀ (H1 : Heap) (locs1 : List Loc) (ls : Array Slot), xY G rs.1 rs.2 s H1 locs1 → lv_has ls 4 [(0, .ref b), (1, .ref x), (2, .ref mo), (3, .int i)] → W p l e room_1 s m #[Value.ref b] below meth c H1 locs1 (cells + 8) (slots + 256) Q (F0 m 1475 ls [])) : W p l e room_1 s m #[Value.ref b] below meth c H locs cells slots Q (F0 m 432 ls []) := by
  have hx := X.1.1
  have hb := X.1.2.1
  unfold S_law_5 at h
  refine lv_aload_n hx hb dL_law_432 rfl (lv_at hl 1 rfl) ?_
  refine lv_aload_n hx hb dL_law_433 rfl (lv_at hl 0 rfl) ?_
  refine lv_iload_n hx hb dL_law_434 rfl (lv_at hl 3 rfl) ?_
  refine lv_iconst (v := 1) hx hb dL_law_435 (by decide) ?_
  refine lv_iadd hx hb dL_law_436 ?_
  replace h := xb h
  obtain ⟨v1, ev1, h⟩ := h
  refine q_scr X Y hX ev1 dL_law_437 ?_
  refine lv_aload_n hx hb dL_law_438 rfl (lv_at hl 0 rfl) ?_
  refine lv_iload_n hx hb dL_law_439 rfl (lv_at hl 3 rfl) ?_
  refine lv_iconst (v := 2) hx hb dL_law_440 (by decide) ?_
  refine lv_iadd hx hb dL_law_441 ?_
  replace h := xb h
  obtain ⟨v2, ev2, h⟩ := h
  refine q_scr X Y hX ev2 dL_law_442 ?_
  refine lv_aload_n hx hb dL_law_443 rfl (lv_at hl 0 rfl) ?_
  refine lv_iload_n hx hb dL_law_444 rfl (lv_at hl 3 rfl) ?_
  refine lv_iconst (v := 3) hx hb dL_law_445 (by decide) ?_
  refine lv_iadd hx hb dL_law_446 ?_
  replace h := xb h
  obtain ⟨v3, ev3, h⟩ := h
  refine q_scr X Y hX ev3 dL_law_447 ?_
  by_cases c4 : hKd f x = some 9
  case neg => exact absurd (Eq.trans (if_neg c4).symm h) (by intro q; cases q)
  replace h := Eq.trans (if_pos c4).symm h
  replace h := xb h
  obtain ⟨q5, eq5, h⟩ := h
  refine q_callV X Y hl.1 (rest := []) (As := [.int v1, .int v2, .int v3]) (c_X10_add l G z f x v1 v2 v3 _ eq5) cd_X10_add lv_L_40_9 c4 ⟨(Nat.le_of_ble_eq_true rfl), (Nat.le_of_ble_eq_true rfl)⟩ ⟨by show cells + 2 ≤ 600000; omega, by show slots + 10 ≤ 7302250; omega⟩ rfl rfl (Nat.le_of_ble_eq_true rfl) dL_law_448 (fun H locs Y => ?_)
  refine W.widen (k := cells + 2) (n := slots + 10) (by show cells + 2 ≤ cells + 2; omega) (by show slots + 10 ≤ slots + 10; omega) ?_
  refine W.eq (g2 := F0 m 451 ls [.int q5.1]) rfl ?_
  refine lv_aload_n hx hb dL_law_451 rfl (lv_at hl 2 rfl) ?_
  refine lv_aload_n hx hb dL_law_452 rfl (lv_at hl 0 rfl) ?_
  refine lv_iload_n hx hb dL_law_453 rfl (lv_at hl 3 rfl) ?_
  refine lv_iconst (v := 1) hx hb dL_law_454 (by decide) ?_
  refine lv_iadd hx hb dL_law_455 ?_
  replace h := xb h
  obtain ⟨v6, ev6, h⟩ := h
  refine q_scr X Y hX ev6 dL_law_456 ?_
  refine lv_aload_n hx hb dL_law_457 rfl (lv_at hl 0 rfl) ?_
  refine lv_iload_n hx hb dL_law_458 rfl (lv_at hl 3 rfl) ?_
  refine lv_iconst (v := 2) hx hb dL_law_459 (by decide) ?_
  refine lv_iadd hx hb dL_law_460 ?_
  replace h := xb h
  obtain ⟨v7, ev7, h⟩ := h
  refine q_scr X Y hX ev7 dL_law_461 ?_
  refine lv_aload_n hx hb dL_law_462 rfl (lv_at hl 0 rfl) ?_
  refine lv_iload_n hx hb dL_law_463 rfl (lv_at hl 3 rfl) ?_
  refine lv_iconst (v := 3) hx hb dL_law_464 (by decide) ?_
  refine lv_iadd hx hb dL_law_465 ?_
  replace h := xb h
  obtain ⟨v8, ev8, h⟩ := h
  refine q_scr X Y hX ev8 dL_law_466 ?_
  by_cases c9 : hKd q5.2.2 mo = some 10
  case neg => exact absurd (Eq.trans (if_neg c9).symm h) (by intro q; cases q)
  replace h := Eq.trans (if_pos c9).symm h
  replace h := xb h
  obtain ⟨q10, eq10, h⟩ := h
  refine q_callV X Y hl.1 (rest := [.int q5.1]) (As := [.int v6, .int v7, .int v8]) (c_X11_add l G q5.2.1 q5.2.2 mo v6 v7 v8 _ eq10) cd_X11_add lv_L_43_10 c9 ⟨(Nat.le_of_ble_eq_true rfl), (Nat.le_of_ble_eq_true rfl)⟩ ⟨by show cells + 2 + 0 ≤ 600000; omega, by show slots + 10 + 0 ≤ 7302250; omega⟩ rfl rfl (Nat.le_of_ble_eq_true rfl) dL_law_467 (fun H locs Y => ?_)
  refine W.widen (k := cells + 2) (n := slots + 10) (by show cells + 2 + 0 ≤ cells + 2; omega) (by show slots + 10 + 0 ≤ slots + 10; omega) ?_
  refine W.eq (g2 := F0 m 470 ls [.int q10.1, .int q5.1]) rfl ?_
  refine lv_icmp_eq (tgt := 1475) hx hb dL_law_470 (by decide) (fun c11 => ?_) (fun c11 => ?_)
  · replace h := Option.some.inj (Eq.trans (if_pos c11).symm h)
    subst h
    refine W.widen (k := cells + 8) (n := slots + 256) (by omega) (by omega) ?_
    exact kk _ _ _ Y hl
  · exact absurd (Eq.trans (if_neg c11).symm h) (by intro q; cases q)
set_option maxRecDepth 100000 in
set_option maxHeartbeats 4000000 in
theorem w_law_6 {p : Program} {l : Launch} {e : Env} {s : State} {m : MethodId} {below : List Frame} {meth : Method} {c : Code} {H : Heap} {locs : List Loc} {cells slots : Nat} {Q : State → Prop} {ls : Array Slot} {G : xG} {z : Nat} {f : xHp} {b L x mo : Nat} {xs : Nat → Int32} {i : Int32} {rs : Nat × xHp} (X : xC G p m c s #[Value.ref b] RL cL_law 4) (hX : xSc G s b L xs) (Y : xY G z f s H locs) (hl : lv_has ls 4 [(0, .ref b), (1, .ref x), (2, .ref mo), (3, .int i)]) (hc : cells + 8 ≤ 600000) (hs : slots + 256 ≤ 7302250) (h : S_law_6 xs L x mo z f i = some rs) (kk : ∀ (H1 : Heap) (locs1 : List Loc) (ls : Array Slot), xY G rs.1 rs.2 s H1 locs1 → lv_has ls 4 [(0, .ref b), (1, .ref x), (2, .ref mo), (3, .int i)] → W p l e room_1 s m #[Value.ref b] below meth c H1 locs1 (cells + 8) (slots + 256) Q (F0 m 1475 ls [])) : W p l e room_1 s m #[Value.ref b] below meth c H locs cells slots Q (F0 m 475 ls []) := by
  have hx := X.1.1
  have hb := X.1.2.1
  unfold S_law_6 at h
  refine lv_aload_n hx hb dL_law_475 rfl (lv_at hl 1 rfl) ?_
  refine lv_aload_n hx hb dL_law_476 rfl (lv_at hl 0 rfl) ?_
  refine lv_iload_n hx hb dL_law_477 rfl (lv_at hl 3 rfl) ?_
  refine lv_iconst (v := 1) hx hb dL_law_478 (by decide) ?_
  refine lv_iadd hx hb dL_law_479 ?_
  replace h := xb h
  obtain ⟨v1, ev1, h⟩ := h
  refine q_scr X Y hX ev1 dL_law_480 ?_
  refine lv_aload_n hx hb dL_law_481 rfl (lv_at hl 0 rfl) ?_
  refine lv_iload_n hx hb dL_law_482 rfl (lv_at hl 3 rfl) ?_
  refine lv_iconst (v := 2) hx hb dL_law_483 (by decide) ?_
  refine lv_iadd hx hb dL_law_484 ?_
  replace h := xb h
  obtain ⟨v2, ev2, h⟩ := h
  refine q_scr X Y hX ev2 dL_law_485 ?_
  by_cases c3 : hKd f x = some 9
  case neg => exact absurd (Eq.trans (if_neg c3).symm h) (by intro q; cases q)
  replace h := Eq.trans (if_pos c3).symm h
  replace h := xb h
  obtain ⟨q4, eq4, h⟩ := h
  refine q_callV X Y hl.1 (rest := []) (As := [.int v1, .int v2]) (c_X10_times l G z f x v1 v2 _ eq4) cd_X10_times lv_L_44_9 c3 ⟨(Nat.le_of_ble_eq_true rfl), (Nat.le_of_ble_eq_true rfl)⟩ ⟨by show cells + 3 ≤ 600000; omega, by show slots + 35 ≤ 7302250; omega⟩ rfl rfl (Nat.le_of_ble_eq_true rfl) dL_law_486 (fun H locs Y => ?_)
  refine W.widen (k := cells + 3) (n := slots + 35) (by show cells + 3 ≤ cells + 3; omega) (by show slots + 35 ≤ slots + 35; omega) ?_
  refine W.eq (g2 := F0 m 489 ls [.int q4.1]) rfl ?_
  refine lv_aload_n hx hb dL_law_489 rfl (lv_at hl 2 rfl) ?_
  refine lv_aload_n hx hb dL_law_490 rfl (lv_at hl 0 rfl) ?_
  refine lv_iload_n hx hb dL_law_491 rfl (lv_at hl 3 rfl) ?_
  refine lv_iconst (v := 1) hx hb dL_law_492 (by decide) ?_
  refine lv_iadd hx hb dL_law_493 ?_
  replace h := xb h
  obtain ⟨v5, ev5, h⟩ := h
  refine q_scr X Y hX ev5 dL_law_494 ?_
  refine lv_aload_n hx hb dL_law_495 rfl (lv_at hl 0 rfl) ?_
  refine lv_iload_n hx hb dL_law_496 rfl (lv_at hl 3 rfl) ?_
  refine lv_iconst (v := 2) hx hb dL_law_497 (by decide) ?_
  refine lv_iadd hx hb dL_law_498 ?_
  replace h := xb h
  obtain ⟨v6, ev6, h⟩ := h
  refine q_scr X Y hX ev6 dL_law_499 ?_
  by_cases c7 : hKd q4.2.2 mo = some 10
  case neg => exact absurd (Eq.trans (if_neg c7).symm h) (by intro q; cases q)
  replace h := Eq.trans (if_pos c7).symm h
  replace h := xb h
  obtain ⟨q8, eq8, h⟩ := h
  refine q_callV X Y hl.1 (rest := [.int q4.1]) (As := [.int v5, .int v6]) (c_X11_times l G q4.2.1 q4.2.2 mo v5 v6 _ eq8) cd_X11_times lv_L_48_10 c7 ⟨(Nat.le_of_ble_eq_true rfl), (Nat.le_of_ble_eq_true rfl)⟩ ⟨by show cells + 3 + 0 ≤ 600000; omega, by show slots + 35 + 0 ≤ 7302250; omega⟩ rfl rfl (Nat.le_of_ble_eq_true rfl) dL_law_500 (fun H locs Y => ?_)
  refine W.widen (k := cells + 3) (n := slots + 35) (by show cells + 3 + 0 ≤ cells + 3; omega) (by show slots + 35 + 0 ≤ slots + 35; omega) ?_
  refine W.eq (g2 := F0 m 503 ls [.int q8.1, .int q4.1]) rfl ?_
  refine lv_icmp_eq (tgt := 1475) hx hb dL_law_503 (by decide) (fun c9 => ?_) (fun c9 => ?_)
  · replace h := Option.some.inj (Eq.trans (if_pos c9).symm h)
    subst h
    refine W.widen (k := cells + 8) (n := slots + 256) (by omega) (by omega) ?_
    exact kk _ _ _ Y hl
  · exact absurd (Eq.trans (if_neg c9).symm h) (by intro q; cases q)
set_option maxRecDepth 100000 in
set_option maxHeartbeats 4000000 in
theorem w_law_7 {p : Program} {l : Launch} {e : Env} {s : State} {m : MethodId} {below : List Frame} {meth : Method} {c : Code} {H : Heap} {locs : List Loc} {cells slots : Nat} {Q : State → Prop} {ls : Array Slot} {G : xG} {z : Nat} {f : xHp} {b L x mo : Nat} {xs : Nat → Int32} {i : Int32} {rs : Nat × xHp} (X : xC G p m c s #[Value.ref b] RL cL_law 4) (hX : xSc G s b L xs) (Y : xY G z f s H locs) (hl : lv_has ls 4 [(0, .ref b), (1, .ref x), (2, .ref mo), (3, .int i)]) (hc : cells + 8 ≤ 600000) (hs : slots + 256 ≤ 7302250) (h : S_law_7 xs L x mo z f i = some rs) (kk : ∀ (H1 : Heap) (locs1 : List Loc) (ls : Array Slot), xY G rs.1 rs.2 s H1 locs1 → lv_has ls 4 [(0, .ref b), (1, .ref x), (2, .ref mo), (3, .int i)] → W p l e room_1 s m #[Value.ref b] below meth c H1 locs1 (cells + 8) (slots + 256) Q (F0 m 1475 ls [])) : W p l e room_1 s m #[Value.ref b] below meth c H locs cells slots Q (F0 m 508 ls []) := by
  have hx := X.1.1
  have hb := X.1.2.1
  unfold S_law_7 at h
  refine lv_aload_n hx hb dL_law_508 rfl (lv_at hl 1 rfl) ?_
  refine lv_aload_n hx hb dL_law_509 rfl (lv_at hl 0 rfl) ?_
  refine lv_iload_n hx hb dL_law_510 rfl (lv_at hl 3 rfl) ?_
  refine lv_iconst (v := 1) hx hb dL_law_511 (by decide) ?_
  refine lv_iadd hx hb dL_law_512 ?_
  replace h := xb h
  obtain ⟨v1, ev1, h⟩ := h
  refine q_scr X Y hX ev1 dL_law_513 ?_
  refine lv_aload_n hx hb dL_law_514 rfl (lv_at hl 0 rfl) ?_
  refine lv_iload_n hx hb dL_law_515 rfl (lv_at hl 3 rfl) ?_
  refine lv_iconst (v := 2) hx hb dL_law_516 (by decide) ?_
  refine lv_iadd hx hb dL_law_517 ?_
  replace h := xb h
  obtain ⟨v2, ev2, h⟩ := h
  refine q_scr X Y hX ev2 dL_law_518 ?_
  by_cases c3 : hKd f x = some 9
  case neg => exact absurd (Eq.trans (if_neg c3).symm h) (by intro q; cases q)
  replace h := Eq.trans (if_pos c3).symm h
  replace h := xb h
  obtain ⟨q4, eq4, h⟩ := h
  refine q_callV X Y hl.1 (rest := []) (As := [.int v1, .int v2]) (c_X10_slope l G z f x v1 v2 _ eq4) cd_X10_slope lv_L_49_9 c3 ⟨(Nat.le_of_ble_eq_true rfl), (Nat.le_of_ble_eq_true rfl)⟩ ⟨by show cells + 2 ≤ 600000; omega, by show slots + 10 ≤ 7302250; omega⟩ rfl rfl (Nat.le_of_ble_eq_true rfl) dL_law_519 (fun H locs Y => ?_)
  refine W.widen (k := cells + 2) (n := slots + 10) (by show cells + 2 ≤ cells + 2; omega) (by show slots + 10 ≤ slots + 10; omega) ?_
  refine W.eq (g2 := F0 m 522 ls [.int q4.1]) rfl ?_
  refine lv_aload_n hx hb dL_law_522 rfl (lv_at hl 2 rfl) ?_
  refine lv_aload_n hx hb dL_law_523 rfl (lv_at hl 0 rfl) ?_
  refine lv_iload_n hx hb dL_law_524 rfl (lv_at hl 3 rfl) ?_
  refine lv_iconst (v := 1) hx hb dL_law_525 (by decide) ?_
  refine lv_iadd hx hb dL_law_526 ?_
  replace h := xb h
  obtain ⟨v5, ev5, h⟩ := h
  refine q_scr X Y hX ev5 dL_law_527 ?_
  refine lv_aload_n hx hb dL_law_528 rfl (lv_at hl 0 rfl) ?_
  refine lv_iload_n hx hb dL_law_529 rfl (lv_at hl 3 rfl) ?_
  refine lv_iconst (v := 2) hx hb dL_law_530 (by decide) ?_
  refine lv_iadd hx hb dL_law_531 ?_
  replace h := xb h
  obtain ⟨v6, ev6, h⟩ := h
  refine q_scr X Y hX ev6 dL_law_532 ?_
  by_cases c7 : hKd q4.2.2 mo = some 10
  case neg => exact absurd (Eq.trans (if_neg c7).symm h) (by intro q; cases q)
  replace h := Eq.trans (if_pos c7).symm h
  replace h := xb h
  obtain ⟨q8, eq8, h⟩ := h
  refine q_callV X Y hl.1 (rest := [.int q4.1]) (As := [.int v5, .int v6]) (c_X11_slope l G q4.2.1 q4.2.2 mo v5 v6 _ eq8) cd_X11_slope lv_L_52_10 c7 ⟨(Nat.le_of_ble_eq_true rfl), (Nat.le_of_ble_eq_true rfl)⟩ ⟨by show cells + 2 + 0 ≤ 600000; omega, by show slots + 10 + 0 ≤ 7302250; omega⟩ rfl rfl (Nat.le_of_ble_eq_true rfl) dL_law_533 (fun H locs Y => ?_)
  refine W.widen (k := cells + 2) (n := slots + 10) (by show cells + 2 + 0 ≤ cells + 2; omega) (by show slots + 10 + 0 ≤ slots + 10; omega) ?_
  refine W.eq (g2 := F0 m 536 ls [.int q8.1, .int q4.1]) rfl ?_
  refine lv_icmp_eq (tgt := 1475) hx hb dL_law_536 (by decide) (fun c9 => ?_) (fun c9 => ?_)
  · replace h := Option.some.inj (Eq.trans (if_pos c9).symm h)
    subst h
    refine W.widen (k := cells + 8) (n := slots + 256) (by omega) (by omega) ?_
    exact kk _ _ _ Y hl
  · exact absurd (Eq.trans (if_neg c9).symm h) (by intro q; cases q)
set_option maxRecDepth 100000 in
set_option maxHeartbeats 4000000 in
theorem w_law_8 {p : Program} {l : Launch} {e : Env} {s : State} {m : MethodId} {below : List Frame} {meth : Method} {c : Code} {H : Heap} {locs : List Loc} {cells slots : Nat} {Q : State → Prop} {ls : Array Slot} {G : xG} {z : Nat} {f : xHp} {b L x mo : Nat} {xs : Nat → Int32} {i : Int32} {rs : Nat × xHp} (X : xC G p m c s #[Value.ref b] RL cL_law 4) (hX : xSc G s b L xs) (Y : xY G z f s H locs) (hl : lv_has ls 4 [(0, .ref b), (1, .ref x), (2, .ref mo), (3, .int i)]) (hc : cells + 8 ≤ 600000) (hs : slots + 256 ≤ 7302250) (h : S_law_8 xs L x mo z f i = some rs) (kk : ∀ (H1 : Heap) (locs1 : List Loc) (ls : Array Slot), xY G rs.1 rs.2 s H1 locs1 → lv_has ls 4 [(0, .ref b), (1, .ref x), (2, .ref mo), (3, .int i)] → W p l e room_1 s m #[Value.ref b] below meth c H1 locs1 (cells + 8) (slots + 256) Q (F0 m 1475 ls [])) : W p l e room_1 s m #[Value.ref b] below meth c H locs cells slots Q (F0 m 541 ls []) := by
  have hx := X.1.1
  have hb := X.1.2.1
  unfold S_law_8 at h
  refine lv_aload_n hx hb dL_law_541 rfl (lv_at hl 1 rfl) ?_
  refine lv_aload_n hx hb dL_law_542 rfl (lv_at hl 0 rfl) ?_
  refine lv_iload_n hx hb dL_law_543 rfl (lv_at hl 3 rfl) ?_
  refine lv_iconst (v := 1) hx hb dL_law_544 (by decide) ?_
  refine lv_iadd hx hb dL_law_545 ?_
  replace h := xb h
  obtain ⟨v1, ev1, h⟩ := h
  refine q_scr X Y hX ev1 dL_law_546 ?_
  refine lv_aload_n hx hb dL_law_547 rfl (lv_at hl 0 rfl) ?_
  refine lv_iload_n hx hb dL_law_548 rfl (lv_at hl 3 rfl) ?_
  refine lv_iconst (v := 2) hx hb dL_law_549 (by decide) ?_
  refine lv_iadd hx hb dL_law_550 ?_
  replace h := xb h
  obtain ⟨v2, ev2, h⟩ := h
  refine q_scr X Y hX ev2 dL_law_551 ?_
  by_cases c3 : hKd f x = some 9
  case neg => exact absurd (Eq.trans (if_neg c3).symm h) (by intro q; cases q)
  replace h := Eq.trans (if_pos c3).symm h
  replace h := xb h
  obtain ⟨q4, eq4, h⟩ := h
  refine q_callV X Y hl.1 (rest := []) (As := [.int v1, .int v2]) (c_X10_term l G z f x v1 v2 _ eq4) cd_X10_term lv_L_53_9 c3 ⟨(Nat.le_of_ble_eq_true rfl), (Nat.le_of_ble_eq_true rfl)⟩ ⟨by show cells + 0 ≤ 600000; omega, by show slots + 0 ≤ 7302250; omega⟩ rfl rfl (Nat.le_of_ble_eq_true rfl) dL_law_552 (fun H locs Y => ?_)
  refine W.widen (k := cells + 0) (n := slots + 0) (by show cells + 0 ≤ cells + 0; omega) (by show slots + 0 ≤ slots + 0; omega) ?_
  refine W.eq (g2 := F0 m 555 ls [.long q4]) rfl ?_
  refine lv_aload_n hx hb dL_law_555 rfl (lv_at hl 2 rfl) ?_
  refine lv_aload_n hx hb dL_law_556 rfl (lv_at hl 0 rfl) ?_
  refine lv_iload_n hx hb dL_law_557 rfl (lv_at hl 3 rfl) ?_
  refine lv_iconst (v := 1) hx hb dL_law_558 (by decide) ?_
  refine lv_iadd hx hb dL_law_559 ?_
  replace h := xb h
  obtain ⟨v5, ev5, h⟩ := h
  refine q_scr X Y hX ev5 dL_law_560 ?_
  refine lv_aload_n hx hb dL_law_561 rfl (lv_at hl 0 rfl) ?_
  refine lv_iload_n hx hb dL_law_562 rfl (lv_at hl 3 rfl) ?_
  refine lv_iconst (v := 2) hx hb dL_law_563 (by decide) ?_
  refine lv_iadd hx hb dL_law_564 ?_
  replace h := xb h
  obtain ⟨v6, ev6, h⟩ := h
  refine q_scr X Y hX ev6 dL_law_565 ?_
  by_cases c7 : hKd f mo = some 10
  case neg => exact absurd (Eq.trans (if_neg c7).symm h) (by intro q; cases q)
  replace h := Eq.trans (if_pos c7).symm h
  replace h := xb h
  obtain ⟨q8, eq8, h⟩ := h
  refine q_callV X Y hl.1 (rest := [.long q4]) (As := [.int v5, .int v6]) (c_X11_term l G z f mo v5 v6 _ eq8) cd_X11_term lv_L_57_10 c7 ⟨(Nat.le_of_ble_eq_true rfl), (Nat.le_of_ble_eq_true rfl)⟩ ⟨by show cells + 0 ≤ 600000; omega, by show slots + 0 ≤ 7302250; omega⟩ rfl rfl (Nat.le_of_ble_eq_true rfl) dL_law_566 (fun H locs Y => ?_)
  refine W.widen (k := cells + 0) (n := slots + 0) (by show cells + 0 + 0 ≤ cells + 0; omega) (by show slots + 0 + 0 ≤ slots + 0; omega) ?_
  refine W.eq (g2 := F0 m 569 ls [.long q8, .long q4]) rfl ?_
  refine q_lcmp_eq (tgt := 1475) hx hb dL_law_569 dL_law_570 (by decide) (fun c9 => ?_) (fun c9 => ?_)
  · replace h := Option.some.inj (Eq.trans (if_pos c9).symm h)
    subst h
    refine W.widen (k := cells + 8) (n := slots + 256) (by omega) (by omega) ?_
    exact kk _ _ _ Y hl
  · exact absurd (Eq.trans (if_neg c9).symm h) (by intro q; cases q)
set_option maxRecDepth 100000 in
set_option maxHeartbeats 4000000 in
theorem w_law_9 {p : Program} {l : Launch} {e : Env} {s : State} {m : MethodId} {below : List Frame} {meth : Method} {c : Code} {H : Heap} {locs : List Loc} {cells slots : Nat} {Q : State → Prop} {ls : Array Slot} {G : xG} {z : Nat} {f : xHp} {b L x mo : Nat} {xs : Nat → Int32} {i : Int32} {rs : Nat × xHp} (X : xC G p m c s #[Value.ref b] RL cL_law 4) (hX : xSc G s b L xs) (Y : xY G z f s H locs) (hl : lv_has ls 4 [(0, .ref b), (1, .ref x), (2, .ref mo), (3, .int i)]) (hc : cells + 8 ≤ 600000) (hs : slots + 256 ≤ 7302250) (h : S_law_9 xs L x mo z f i = some rs) (kk : ∀ (H1 : Heap) (locs1 : List Loc) (ls : Array Slot), xY G rs.1 rs.2 s H1 locs1 → lv_has ls 4 [(0, .ref b), (1, .ref x), (2, .ref mo), (3, .int i)] → W p l e room_1 s m #[Value.ref b] below meth c H1 locs1 (cells + 8) (slots + 256) Q (F0 m 1475 ls [])) : W p l e room_1 s m #[Value.ref b] below meth c H locs cells slots Q (F0 m 575 ls []) := by
  have hx := X.1.1
  have hb := X.1.2.1
  unfold S_law_9 at h
  refine lv_aload_n hx hb dL_law_575 rfl (lv_at hl 1 rfl) ?_
  refine lv_aload_n hx hb dL_law_576 rfl (lv_at hl 0 rfl) ?_
  refine lv_iload_n hx hb dL_law_577 rfl (lv_at hl 3 rfl) ?_
  refine lv_iconst (v := 1) hx hb dL_law_578 (by decide) ?_
  refine lv_iadd hx hb dL_law_579 ?_
  replace h := xb h
  obtain ⟨v1, ev1, h⟩ := h
  refine q_scr X Y hX ev1 dL_law_580 ?_
  refine lv_aload_n hx hb dL_law_581 rfl (lv_at hl 0 rfl) ?_
  refine lv_iload_n hx hb dL_law_582 rfl (lv_at hl 3 rfl) ?_
  refine lv_iconst (v := 2) hx hb dL_law_583 (by decide) ?_
  refine lv_iadd hx hb dL_law_584 ?_
  replace h := xb h
  obtain ⟨v2, ev2, h⟩ := h
  refine q_scr X Y hX ev2 dL_law_585 ?_
  refine lv_aload_n hx hb dL_law_586 rfl (lv_at hl 0 rfl) ?_
  refine lv_iload_n hx hb dL_law_587 rfl (lv_at hl 3 rfl) ?_
  refine lv_iconst (v := 3) hx hb dL_law_588 (by decide) ?_
  refine lv_iadd hx hb dL_law_589 ?_
  replace h := xb h
  obtain ⟨v3, ev3, h⟩ := h
  refine q_scr X Y hX ev3 dL_law_590 ?_
  by_cases c4 : hKd f x = some 9
  case neg => exact absurd (Eq.trans (if_neg c4).symm h) (by intro q; cases q)
  replace h := Eq.trans (if_pos c4).symm h
  replace h := xb h
  obtain ⟨q5, eq5, h⟩ := h
  refine q_callV X Y hl.1 (rest := []) (As := [.int v1, .int v2, .int v3]) (c_X10_value l G z f x v1 v2 v3 _ eq5) cd_X10_value lv_L_58_9 c4 ⟨(Nat.le_of_ble_eq_true rfl), (Nat.le_of_ble_eq_true rfl)⟩ ⟨by show cells + 0 ≤ 600000; omega, by show slots + 0 ≤ 7302250; omega⟩ rfl rfl (Nat.le_of_ble_eq_true rfl) dL_law_591 (fun H locs Y => ?_)
  refine W.widen (k := cells + 0) (n := slots + 0) (by show cells + 0 ≤ cells + 0; omega) (by show slots + 0 ≤ slots + 0; omega) ?_
  refine W.eq (g2 := F0 m 594 ls [.long q5]) rfl ?_
  refine lv_aload_n hx hb dL_law_594 rfl (lv_at hl 2 rfl) ?_
  refine lv_aload_n hx hb dL_law_595 rfl (lv_at hl 0 rfl) ?_
  refine lv_iload_n hx hb dL_law_596 rfl (lv_at hl 3 rfl) ?_
  refine lv_iconst (v := 1) hx hb dL_law_597 (by decide) ?_
  refine lv_iadd hx hb dL_law_598 ?_
  replace h := xb h
  obtain ⟨v6, ev6, h⟩ := h
  refine q_scr X Y hX ev6 dL_law_599 ?_
  refine lv_aload_n hx hb dL_law_600 rfl (lv_at hl 0 rfl) ?_
  refine lv_iload_n hx hb dL_law_601 rfl (lv_at hl 3 rfl) ?_
  refine lv_iconst (v := 2) hx hb dL_law_602 (by decide) ?_
  refine lv_iadd hx hb dL_law_603 ?_
  replace h := xb h
  obtain ⟨v7, ev7, h⟩ := h
  refine q_scr X Y hX ev7 dL_law_604 ?_
  refine lv_aload_n hx hb dL_law_605 rfl (lv_at hl 0 rfl) ?_
  refine lv_iload_n hx hb dL_law_606 rfl (lv_at hl 3 rfl) ?_
  refine lv_iconst (v := 3) hx hb dL_law_607 (by decide) ?_
  refine lv_iadd hx hb dL_law_608 ?_
  replace h := xb h
  obtain ⟨v8, ev8, h⟩ := h
  refine q_scr X Y hX ev8 dL_law_609 ?_
  by_cases c9 : hKd f mo = some 10
  case neg => exact absurd (Eq.trans (if_neg c9).symm h) (by intro q; cases q)
  replace h := Eq.trans (if_pos c9).symm h
  replace h := xb h
  obtain ⟨q10, eq10, h⟩ := h
  refine q_callV X Y hl.1 (rest := [.long q5]) (As := [.int v6, .int v7, .int v8]) (c_X11_value l G z f mo v6 v7 v8 _ eq10) cd_X11_value lv_L_61_10 c9 ⟨(Nat.le_of_ble_eq_true rfl), (Nat.le_of_ble_eq_true rfl)⟩ ⟨by show cells + 0 ≤ 600000; omega, by show slots + 0 ≤ 7302250; omega⟩ rfl rfl (Nat.le_of_ble_eq_true rfl) dL_law_610 (fun H locs Y => ?_)
  refine W.widen (k := cells + 0) (n := slots + 0) (by show cells + 0 + 0 ≤ cells + 0; omega) (by show slots + 0 + 0 ≤ slots + 0; omega) ?_
  refine W.eq (g2 := F0 m 613 ls [.long q10, .long q5]) rfl ?_
  refine q_lcmp_eq (tgt := 1475) hx hb dL_law_613 dL_law_614 (by decide) (fun c11 => ?_) (fun c11 => ?_)
  · replace h := Option.some.inj (Eq.trans (if_pos c11).symm h)
    subst h
    refine W.widen (k := cells + 8) (n := slots + 256) (by omega) (by omega) ?_
    exact kk _ _ _ Y hl
  · exact absurd (Eq.trans (if_neg c11).symm h) (by intro q; cases q)
set_option maxRecDepth 100000 in
set_option maxHeartbeats 4000000 in
theorem w_law_10 {p : Program} {l : Launch} {e : Env} {s : State} {m : MethodId} {below : List Frame} {meth : Method} {c : Code} {H : Heap} {locs : List Loc} {cells slots : Nat} {Q : State → Prop} {ls : Array Slot} {G : xG} {z : Nat} {f : xHp} {b L x mo : Nat} {xs : Nat → Int32} {i : Int32} {rs : Nat × xHp} (X : xC G p m c s #[Value.ref b] RL cL_law 4) (hX : xSc G s b L xs) (Y : xY G z f s H locs) (hl : lv_has ls 4 [(0, .ref b), (1, .ref x), (2, .ref mo), (3, .int i)]) (hc : cells + 8 ≤ 600000) (hs : slots + 256 ≤ 7302250) (h : S_law_10 xs L x mo z f i = some rs) (kk : ∀ (H1 : Heap) (locs1 : List Loc) (ls : Array Slot), xY G rs.1 rs.2 s H1 locs1 → lv_has ls 4 [(0, .ref b), (1, .ref x), (2, .ref mo), (3, .int i)] → W p l e room_1 s m #[Value.ref b] below meth c H1 locs1 (cells + 8) (slots + 256) Q (F0 m 1475 ls [])) : W p l e room_1 s m #[Value.ref b] below meth c H locs cells slots Q (F0 m 619 ls []) := by
  have hx := X.1.1
  have hb := X.1.2.1
  unfold S_law_10 at h
  refine lv_aload_n hx hb dL_law_619 rfl (lv_at hl 1 rfl) ?_
  refine lv_aload_n hx hb dL_law_620 rfl (lv_at hl 0 rfl) ?_
  refine lv_iload_n hx hb dL_law_621 rfl (lv_at hl 3 rfl) ?_
  refine lv_iconst (v := 1) hx hb dL_law_622 (by decide) ?_
  refine lv_iadd hx hb dL_law_623 ?_
  replace h := xb h
  obtain ⟨v1, ev1, h⟩ := h
  refine q_scr X Y hX ev1 dL_law_624 ?_
  refine lv_aload_n hx hb dL_law_625 rfl (lv_at hl 0 rfl) ?_
  refine lv_iload_n hx hb dL_law_626 rfl (lv_at hl 3 rfl) ?_
  refine lv_iconst (v := 2) hx hb dL_law_627 (by decide) ?_
  refine lv_iadd hx hb dL_law_628 ?_
  replace h := xb h
  obtain ⟨v2, ev2, h⟩ := h
  refine q_scr X Y hX ev2 dL_law_629 ?_
  by_cases c3 : hKd f x = some 9
  case neg => exact absurd (Eq.trans (if_neg c3).symm h) (by intro q; cases q)
  replace h := Eq.trans (if_pos c3).symm h
  replace h := xb h
  obtain ⟨q4, eq4, h⟩ := h
  refine q_callV X Y hl.1 (rest := []) (As := [.int v1, .int v2]) (c_X10_same l G z f x v1 v2 _ eq4) cd_X10_same lv_L_62_9 c3 ⟨(Nat.le_of_ble_eq_true rfl), (Nat.le_of_ble_eq_true rfl)⟩ ⟨by show cells + 0 ≤ 600000; omega, by show slots + 0 ≤ 7302250; omega⟩ rfl rfl (Nat.le_of_ble_eq_true rfl) dL_law_630 (fun H locs Y => ?_)
  refine W.widen (k := cells + 0) (n := slots + 0) (by show cells + 0 ≤ cells + 0; omega) (by show slots + 0 ≤ slots + 0; omega) ?_
  refine W.eq (g2 := F0 m 633 ls [.int q4]) rfl ?_
  refine lv_aload_n hx hb dL_law_633 rfl (lv_at hl 2 rfl) ?_
  refine lv_aload_n hx hb dL_law_634 rfl (lv_at hl 0 rfl) ?_
  refine lv_iload_n hx hb dL_law_635 rfl (lv_at hl 3 rfl) ?_
  refine lv_iconst (v := 1) hx hb dL_law_636 (by decide) ?_
  refine lv_iadd hx hb dL_law_637 ?_
  replace h := xb h
  obtain ⟨v5, ev5, h⟩ := h
  refine q_scr X Y hX ev5 dL_law_638 ?_
  refine lv_aload_n hx hb dL_law_639 rfl (lv_at hl 0 rfl) ?_
  refine lv_iload_n hx hb dL_law_640 rfl (lv_at hl 3 rfl) ?_
  refine lv_iconst (v := 2) hx hb dL_law_641 (by decide) ?_
  refine lv_iadd hx hb dL_law_642 ?_
  replace h := xb h
  obtain ⟨v6, ev6, h⟩ := h
  refine q_scr X Y hX ev6 dL_law_643 ?_
  by_cases c7 : hKd f mo = some 10
  case neg => exact absurd (Eq.trans (if_neg c7).symm h) (by intro q; cases q)
  replace h := Eq.trans (if_pos c7).symm h
  replace h := xb h
  obtain ⟨q8, eq8, h⟩ := h
  refine q_callV X Y hl.1 (rest := [.int q4]) (As := [.int v5, .int v6]) (c_X11_same l G z f mo v5 v6 _ eq8) cd_X11_same lv_L_65_10 c7 ⟨(Nat.le_of_ble_eq_true rfl), (Nat.le_of_ble_eq_true rfl)⟩ ⟨by show cells + 0 ≤ 600000; omega, by show slots + 0 ≤ 7302250; omega⟩ rfl rfl (Nat.le_of_ble_eq_true rfl) dL_law_644 (fun H locs Y => ?_)
  refine W.widen (k := cells + 0) (n := slots + 0) (by show cells + 0 + 0 ≤ cells + 0; omega) (by show slots + 0 + 0 ≤ slots + 0; omega) ?_
  refine W.eq (g2 := F0 m 647 ls [.int q8, .int q4]) rfl ?_
  refine lv_icmp_eq (tgt := 1475) hx hb dL_law_647 (by decide) (fun c9 => ?_) (fun c9 => ?_)
  · replace h := Option.some.inj (Eq.trans (if_pos c9).symm h)
    subst h
    refine W.widen (k := cells + 8) (n := slots + 256) (by omega) (by omega) ?_
    exact kk _ _ _ Y hl
  · exact absurd (Eq.trans (if_neg c9).symm h) (by intro q; cases q)
set_option maxRecDepth 100000 in
set_option maxHeartbeats 4000000 in
theorem w_law_11 {p : Program} {l : Launch} {e : Env} {s : State} {m : MethodId} {below : List Frame} {meth : Method} {c : Code} {H : Heap} {locs : List Loc} {cells slots : Nat} {Q : State → Prop} {ls : Array Slot} {G : xG} {z : Nat} {f : xHp} {b L x mo : Nat} {xs : Nat → Int32} {i : Int32} {rs : Nat × xHp} (X : xC G p m c s #[Value.ref b] RL cL_law 4) (hX : xSc G s b L xs) (Y : xY G z f s H locs) (hl : lv_has ls 4 [(0, .ref b), (1, .ref x), (2, .ref mo), (3, .int i)]) (hc : cells + 8 ≤ 600000) (hs : slots + 256 ≤ 7302250) (h : S_law_11 xs L x mo z f i = some rs) (kk : ∀ (H1 : Heap) (locs1 : List Loc) (ls : Array Slot), xY G rs.1 rs.2 s H1 locs1 → lv_has ls 4 [(0, .ref b), (1, .ref x), (2, .ref mo), (3, .int i)] → W p l e room_1 s m #[Value.ref b] below meth c H1 locs1 (cells + 8) (slots + 256) Q (F0 m 1475 ls [])) : W p l e room_1 s m #[Value.ref b] below meth c H locs cells slots Q (F0 m 652 ls []) := by
  have hx := X.1.1
  have hb := X.1.2.1
  unfold S_law_11 at h
  refine lv_aload_n hx hb dL_law_652 rfl (lv_at hl 1 rfl) ?_
  refine lv_aload_n hx hb dL_law_653 rfl (lv_at hl 0 rfl) ?_
  refine lv_iload_n hx hb dL_law_654 rfl (lv_at hl 3 rfl) ?_
  refine lv_iconst (v := 1) hx hb dL_law_655 (by decide) ?_
  refine lv_iadd hx hb dL_law_656 ?_
  replace h := xb h
  obtain ⟨v1, ev1, h⟩ := h
  refine q_scr X Y hX ev1 dL_law_657 ?_
  refine lv_aload_n hx hb dL_law_658 rfl (lv_at hl 0 rfl) ?_
  refine lv_iload_n hx hb dL_law_659 rfl (lv_at hl 3 rfl) ?_
  refine lv_iconst (v := 2) hx hb dL_law_660 (by decide) ?_
  refine lv_iadd hx hb dL_law_661 ?_
  replace h := xb h
  obtain ⟨v2, ev2, h⟩ := h
  refine q_scr X Y hX ev2 dL_law_662 ?_
  refine lv_aload_n hx hb dL_law_663 rfl (lv_at hl 0 rfl) ?_
  refine lv_iload_n hx hb dL_law_664 rfl (lv_at hl 3 rfl) ?_
  refine lv_iconst (v := 3) hx hb dL_law_665 (by decide) ?_
  refine lv_iadd hx hb dL_law_666 ?_
  replace h := xb h
  obtain ⟨v3, ev3, h⟩ := h
  refine q_scr X Y hX ev3 dL_law_667 ?_
  refine lv_aload_n hx hb dL_law_668 rfl (lv_at hl 0 rfl) ?_
  refine lv_iload_n hx hb dL_law_669 rfl (lv_at hl 3 rfl) ?_
  refine lv_iconst (v := 4) hx hb dL_law_670 (by decide) ?_
  refine lv_iadd hx hb dL_law_671 ?_
  replace h := xb h
  obtain ⟨v4, ev4, h⟩ := h
  refine q_scr X Y hX ev4 dL_law_672 ?_
  by_cases c5 : hKd f x = some 9
  case neg => exact absurd (Eq.trans (if_neg c5).symm h) (by intro q; cases q)
  replace h := Eq.trans (if_pos c5).symm h
  replace h := xb h
  obtain ⟨q6, eq6, h⟩ := h
  refine q_callV X Y hl.1 (rest := []) (As := [.int v1, .int v2, .int v3, .int v4]) (c_X10_box l G z f x v1 v2 v3 v4 _ eq6) cd_X10_box lv_L_66_9 c5 ⟨(Nat.le_of_ble_eq_true rfl), (Nat.le_of_ble_eq_true rfl)⟩ ⟨by show cells + 0 ≤ 600000; omega, by show slots + 0 ≤ 7302250; omega⟩ rfl rfl (Nat.le_of_ble_eq_true rfl) dL_law_673 (fun H locs Y => ?_)
  refine W.widen (k := cells + 0) (n := slots + 0) (by show cells + 0 ≤ cells + 0; omega) (by show slots + 0 ≤ slots + 0; omega) ?_
  refine W.eq (g2 := F0 m 676 ls [.int q6.1]) rfl ?_
  refine lv_aload_n hx hb dL_law_676 rfl (lv_at hl 2 rfl) ?_
  refine lv_aload_n hx hb dL_law_677 rfl (lv_at hl 0 rfl) ?_
  refine lv_iload_n hx hb dL_law_678 rfl (lv_at hl 3 rfl) ?_
  refine lv_iconst (v := 1) hx hb dL_law_679 (by decide) ?_
  refine lv_iadd hx hb dL_law_680 ?_
  replace h := xb h
  obtain ⟨v7, ev7, h⟩ := h
  refine q_scr X Y hX ev7 dL_law_681 ?_
  refine lv_aload_n hx hb dL_law_682 rfl (lv_at hl 0 rfl) ?_
  refine lv_iload_n hx hb dL_law_683 rfl (lv_at hl 3 rfl) ?_
  refine lv_iconst (v := 2) hx hb dL_law_684 (by decide) ?_
  refine lv_iadd hx hb dL_law_685 ?_
  replace h := xb h
  obtain ⟨v8, ev8, h⟩ := h
  refine q_scr X Y hX ev8 dL_law_686 ?_
  refine lv_aload_n hx hb dL_law_687 rfl (lv_at hl 0 rfl) ?_
  refine lv_iload_n hx hb dL_law_688 rfl (lv_at hl 3 rfl) ?_
  refine lv_iconst (v := 3) hx hb dL_law_689 (by decide) ?_
  refine lv_iadd hx hb dL_law_690 ?_
  replace h := xb h
  obtain ⟨v9, ev9, h⟩ := h
  refine q_scr X Y hX ev9 dL_law_691 ?_
  refine lv_aload_n hx hb dL_law_692 rfl (lv_at hl 0 rfl) ?_
  refine lv_iload_n hx hb dL_law_693 rfl (lv_at hl 3 rfl) ?_
  refine lv_iconst (v := 4) hx hb dL_law_694 (by decide) ?_
  refine lv_iadd hx hb dL_law_695 ?_
  replace h := xb h
  obtain ⟨v10, ev10, h⟩ := h
  refine q_scr X Y hX ev10 dL_law_696 ?_
  by_cases c11 : hKd q6.2 mo = some 10
  case neg => exact absurd (Eq.trans (if_neg c11).symm h) (by intro q; cases q)
  replace h := Eq.trans (if_pos c11).symm h
  replace h := xb h
  obtain ⟨q12, eq12, h⟩ := h
  refine q_callV X Y hl.1 (rest := [.int q6.1]) (As := [.int v7, .int v8, .int v9, .int v10]) (c_X11_box l G z q6.2 mo v7 v8 v9 v10 _ eq12) cd_X11_box lv_L_69_10 c11 ⟨(Nat.le_of_ble_eq_true rfl), (Nat.le_of_ble_eq_true rfl)⟩ ⟨by show cells + 0 ≤ 600000; omega, by show slots + 0 ≤ 7302250; omega⟩ rfl rfl (Nat.le_of_ble_eq_true rfl) dL_law_697 (fun H locs Y => ?_)
  refine W.widen (k := cells + 0) (n := slots + 0) (by show cells + 0 + 0 ≤ cells + 0; omega) (by show slots + 0 + 0 ≤ slots + 0; omega) ?_
  refine W.eq (g2 := F0 m 700 ls [.int q12.1, .int q6.1]) rfl ?_
  refine lv_icmp_eq (tgt := 1475) hx hb dL_law_700 (by decide) (fun c13 => ?_) (fun c13 => ?_)
  · replace h := Option.some.inj (Eq.trans (if_pos c13).symm h)
    subst h
    refine W.widen (k := cells + 8) (n := slots + 256) (by omega) (by omega) ?_
    exact kk _ _ _ Y hl
  · exact absurd (Eq.trans (if_neg c13).symm h) (by intro q; cases q)
set_option maxRecDepth 100000 in
set_option maxHeartbeats 4000000 in
theorem w_law_12 {p : Program} {l : Launch} {e : Env} {s : State} {m : MethodId} {below : List Frame} {meth : Method} {c : Code} {H : Heap} {locs : List Loc} {cells slots : Nat} {Q : State → Prop} {ls : Array Slot} {G : xG} {z : Nat} {f : xHp} {b L x mo : Nat} {xs : Nat → Int32} {i : Int32} {rs : Nat × xHp} (X : xC G p m c s #[Value.ref b] RL cL_law 4) (hX : xSc G s b L xs) (Y : xY G z f s H locs) (hl : lv_has ls 4 [(0, .ref b), (1, .ref x), (2, .ref mo), (3, .int i)]) (hc : cells + 8 ≤ 600000) (hs : slots + 256 ≤ 7302250) (h : S_law_12 xs L x mo z f i = some rs) (kk : ∀ (H1 : Heap) (locs1 : List Loc) (ls : Array Slot), xY G rs.1 rs.2 s H1 locs1 → lv_has ls 4 [(0, .ref b), (1, .ref x), (2, .ref mo), (3, .int i)] → W p l e room_1 s m #[Value.ref b] below meth c H1 locs1 (cells + 8) (slots + 256) Q (F0 m 1475 ls [])) : W p l e room_1 s m #[Value.ref b] below meth c H locs cells slots Q (F0 m 705 ls []) := by
  have hx := X.1.1
  have hb := X.1.2.1
  unfold S_law_12 at h
  refine lv_aload_n hx hb dL_law_705 rfl (lv_at hl 1 rfl) ?_
  refine lv_aload_n hx hb dL_law_706 rfl (lv_at hl 0 rfl) ?_
  refine lv_iload_n hx hb dL_law_707 rfl (lv_at hl 3 rfl) ?_
  refine lv_iconst (v := 1) hx hb dL_law_708 (by decide) ?_
  refine lv_iadd hx hb dL_law_709 ?_
  replace h := xb h
  obtain ⟨v1, ev1, h⟩ := h
  refine q_scr X Y hX ev1 dL_law_710 ?_
  refine lv_aload_n hx hb dL_law_711 rfl (lv_at hl 0 rfl) ?_
  refine lv_iload_n hx hb dL_law_712 rfl (lv_at hl 3 rfl) ?_
  refine lv_iconst (v := 2) hx hb dL_law_713 (by decide) ?_
  refine lv_iadd hx hb dL_law_714 ?_
  replace h := xb h
  obtain ⟨v2, ev2, h⟩ := h
  refine q_scr X Y hX ev2 dL_law_715 ?_
  by_cases c3 : hKd f x = some 9
  case neg => exact absurd (Eq.trans (if_neg c3).symm h) (by intro q; cases q)
  replace h := Eq.trans (if_pos c3).symm h
  replace h := xb h
  obtain ⟨q4, eq4, h⟩ := h
  refine q_callV X Y hl.1 (rest := []) (As := [.int v1, .int v2]) (c_X10_side l G z f x v1 v2 _ eq4) cd_X10_side lv_L_70_9 c3 ⟨(Nat.le_of_ble_eq_true rfl), (Nat.le_of_ble_eq_true rfl)⟩ ⟨by show cells + 0 ≤ 600000; omega, by show slots + 0 ≤ 7302250; omega⟩ rfl rfl (Nat.le_of_ble_eq_true rfl) dL_law_716 (fun H locs Y => ?_)
  refine W.widen (k := cells + 0) (n := slots + 0) (by show cells + 0 ≤ cells + 0; omega) (by show slots + 0 ≤ slots + 0; omega) ?_
  refine W.eq (g2 := F0 m 719 ls [.int q4]) rfl ?_
  refine lv_aload_n hx hb dL_law_719 rfl (lv_at hl 2 rfl) ?_
  refine lv_aload_n hx hb dL_law_720 rfl (lv_at hl 0 rfl) ?_
  refine lv_iload_n hx hb dL_law_721 rfl (lv_at hl 3 rfl) ?_
  refine lv_iconst (v := 1) hx hb dL_law_722 (by decide) ?_
  refine lv_iadd hx hb dL_law_723 ?_
  replace h := xb h
  obtain ⟨v5, ev5, h⟩ := h
  refine q_scr X Y hX ev5 dL_law_724 ?_
  refine lv_aload_n hx hb dL_law_725 rfl (lv_at hl 0 rfl) ?_
  refine lv_iload_n hx hb dL_law_726 rfl (lv_at hl 3 rfl) ?_
  refine lv_iconst (v := 2) hx hb dL_law_727 (by decide) ?_
  refine lv_iadd hx hb dL_law_728 ?_
  replace h := xb h
  obtain ⟨v6, ev6, h⟩ := h
  refine q_scr X Y hX ev6 dL_law_729 ?_
  by_cases c7 : hKd f mo = some 10
  case neg => exact absurd (Eq.trans (if_neg c7).symm h) (by intro q; cases q)
  replace h := Eq.trans (if_pos c7).symm h
  replace h := xb h
  obtain ⟨q8, eq8, h⟩ := h
  refine q_callV X Y hl.1 (rest := [.int q4]) (As := [.int v5, .int v6]) (c_X11_side l G z f mo v5 v6 _ eq8) cd_X11_side lv_L_73_10 c7 ⟨(Nat.le_of_ble_eq_true rfl), (Nat.le_of_ble_eq_true rfl)⟩ ⟨by show cells + 0 ≤ 600000; omega, by show slots + 0 ≤ 7302250; omega⟩ rfl rfl (Nat.le_of_ble_eq_true rfl) dL_law_730 (fun H locs Y => ?_)
  refine W.widen (k := cells + 0) (n := slots + 0) (by show cells + 0 + 0 ≤ cells + 0; omega) (by show slots + 0 + 0 ≤ slots + 0; omega) ?_
  refine W.eq (g2 := F0 m 733 ls [.int q8, .int q4]) rfl ?_
  refine lv_icmp_eq (tgt := 1475) hx hb dL_law_733 (by decide) (fun c9 => ?_) (fun c9 => ?_)
  · replace h := Option.some.inj (Eq.trans (if_pos c9).symm h)
    subst h
    refine W.widen (k := cells + 8) (n := slots + 256) (by omega) (by omega) ?_
    exact kk _ _ _ Y hl
  · exact absurd (Eq.trans (if_neg c9).symm h) (by intro q; cases q)
set_option maxRecDepth 100000 in
set_option maxHeartbeats 4000000 in
theorem w_law_13 {p : Program} {l : Launch} {e : Env} {s : State} {m : MethodId} {below : List Frame} {meth : Method} {c : Code} {H : Heap} {locs : List Loc} {cells slots : Nat} {Q : State → Prop} {ls : Array Slot} {G : xG} {z : Nat} {f : xHp} {b L x mo : Nat} {xs : Nat → Int32} {i : Int32} {rs : Nat × xHp} (X : xC G p m c s #[Value.ref b] RL cL_law 4) (hX : xSc G s b L xs) (Y : xY G z f s H locs) (hl : lv_has ls 4 [(0, .ref b), (1, .ref x), (2, .ref mo), (3, .int i)]) (hc : cells + 8 ≤ 600000) (hs : slots + 256 ≤ 7302250) (h : S_law_13 xs L x mo z f i = some rs) (kk : ∀ (H1 : Heap) (locs1 : List Loc) (ls : Array Slot), xY G rs.1 rs.2 s H1 locs1 → lv_has ls 4 [(0, .ref b), (1, .ref x), (2, .ref mo), (3, .int i)] → W p l e room_1 s m #[Value.ref b] below meth c H1 locs1 (cells + 8) (slots + 256) Q (F0 m 1475 ls [])) : W p l e room_1 s m #[Value.ref b] below meth c H locs cells slots Q (F0 m 738 ls []) := by
  have hx := X.1.1
  have hb := X.1.2.1
  unfold S_law_13 at h
  refine lv_aload_n hx hb dL_law_738 rfl (lv_at hl 1 rfl) ?_
  refine lv_aload_n hx hb dL_law_739 rfl (lv_at hl 0 rfl) ?_
  refine lv_iload_n hx hb dL_law_740 rfl (lv_at hl 3 rfl) ?_
  refine lv_iconst (v := 1) hx hb dL_law_741 (by decide) ?_
  refine lv_iadd hx hb dL_law_742 ?_
  replace h := xb h
  obtain ⟨v1, ev1, h⟩ := h
  refine q_scr X Y hX ev1 dL_law_743 ?_
  refine lv_aload_n hx hb dL_law_744 rfl (lv_at hl 0 rfl) ?_
  refine lv_iload_n hx hb dL_law_745 rfl (lv_at hl 3 rfl) ?_
  refine lv_iconst (v := 2) hx hb dL_law_746 (by decide) ?_
  refine lv_iadd hx hb dL_law_747 ?_
  replace h := xb h
  obtain ⟨v2, ev2, h⟩ := h
  refine q_scr X Y hX ev2 dL_law_748 ?_
  refine lv_aload_n hx hb dL_law_749 rfl (lv_at hl 0 rfl) ?_
  refine lv_iload_n hx hb dL_law_750 rfl (lv_at hl 3 rfl) ?_
  refine lv_iconst (v := 3) hx hb dL_law_751 (by decide) ?_
  refine lv_iadd hx hb dL_law_752 ?_
  replace h := xb h
  obtain ⟨v3, ev3, h⟩ := h
  refine q_scr X Y hX ev3 dL_law_753 ?_
  by_cases c4 : hKd f x = some 9
  case neg => exact absurd (Eq.trans (if_neg c4).symm h) (by intro q; cases q)
  replace h := Eq.trans (if_pos c4).symm h
  replace h := xb h
  obtain ⟨q5, eq5, h⟩ := h
  refine q_callV X Y hl.1 (rest := []) (As := [.int v1, .int v2, .int v3]) (c_X10_corner l G z f x v1 v2 v3 _ eq5) cd_X10_corner lv_L_74_9 c4 ⟨(Nat.le_of_ble_eq_true rfl), (Nat.le_of_ble_eq_true rfl)⟩ ⟨by show cells + 0 ≤ 600000; omega, by show slots + 0 ≤ 7302250; omega⟩ rfl rfl (Nat.le_of_ble_eq_true rfl) dL_law_754 (fun H locs Y => ?_)
  refine W.widen (k := cells + 0) (n := slots + 0) (by show cells + 0 ≤ cells + 0; omega) (by show slots + 0 ≤ slots + 0; omega) ?_
  refine W.eq (g2 := F0 m 757 ls [.long q5]) rfl ?_
  refine lv_aload_n hx hb dL_law_757 rfl (lv_at hl 2 rfl) ?_
  refine lv_aload_n hx hb dL_law_758 rfl (lv_at hl 0 rfl) ?_
  refine lv_iload_n hx hb dL_law_759 rfl (lv_at hl 3 rfl) ?_
  refine lv_iconst (v := 1) hx hb dL_law_760 (by decide) ?_
  refine lv_iadd hx hb dL_law_761 ?_
  replace h := xb h
  obtain ⟨v6, ev6, h⟩ := h
  refine q_scr X Y hX ev6 dL_law_762 ?_
  refine lv_aload_n hx hb dL_law_763 rfl (lv_at hl 0 rfl) ?_
  refine lv_iload_n hx hb dL_law_764 rfl (lv_at hl 3 rfl) ?_
  refine lv_iconst (v := 2) hx hb dL_law_765 (by decide) ?_
  refine lv_iadd hx hb dL_law_766 ?_
  replace h := xb h
  obtain ⟨v7, ev7, h⟩ := h
  refine q_scr X Y hX ev7 dL_law_767 ?_
  refine lv_aload_n hx hb dL_law_768 rfl (lv_at hl 0 rfl) ?_
  refine lv_iload_n hx hb dL_law_769 rfl (lv_at hl 3 rfl) ?_
  refine lv_iconst (v := 3) hx hb dL_law_770 (by decide) ?_
  refine lv_iadd hx hb dL_law_771 ?_
  replace h := xb h
  obtain ⟨v8, ev8, h⟩ := h
  refine q_scr X Y hX ev8 dL_law_772 ?_
  by_cases c9 : hKd f mo = some 10
  case neg => exact absurd (Eq.trans (if_neg c9).symm h) (by intro q; cases q)
  replace h := Eq.trans (if_pos c9).symm h
  replace h := xb h
  obtain ⟨q10, eq10, h⟩ := h
  refine q_callV X Y hl.1 (rest := [.long q5]) (As := [.int v6, .int v7, .int v8]) (c_X11_corner l G z f mo v6 v7 v8 _ eq10) cd_X11_corner lv_L_77_10 c9 ⟨(Nat.le_of_ble_eq_true rfl), (Nat.le_of_ble_eq_true rfl)⟩ ⟨by show cells + 0 ≤ 600000; omega, by show slots + 0 ≤ 7302250; omega⟩ rfl rfl (Nat.le_of_ble_eq_true rfl) dL_law_773 (fun H locs Y => ?_)
  refine W.widen (k := cells + 0) (n := slots + 0) (by show cells + 0 + 0 ≤ cells + 0; omega) (by show slots + 0 + 0 ≤ slots + 0; omega) ?_
  refine W.eq (g2 := F0 m 776 ls [.long q10, .long q5]) rfl ?_
  refine q_lcmp_eq (tgt := 1475) hx hb dL_law_776 dL_law_777 (by decide) (fun c11 => ?_) (fun c11 => ?_)
  · replace h := Option.some.inj (Eq.trans (if_pos c11).symm h)
    subst h
    refine W.widen (k := cells + 8) (n := slots + 256) (by omega) (by omega) ?_
    exact kk _ _ _ Y hl
  · exact absurd (Eq.trans (if_neg c11).symm h) (by intro q; cases q)
set_option maxRecDepth 100000 in
set_option maxHeartbeats 4000000 in
theorem w_law_14 {p : Program} {l : Launch} {e : Env} {s : State} {m : MethodId} {below : List Frame} {meth : Method} {c : Code} {H : Heap} {locs : List Loc} {cells slots : Nat} {Q : State → Prop} {ls : Array Slot} {G : xG} {z : Nat} {f : xHp} {b L x mo : Nat} {xs : Nat → Int32} {i : Int32} {rs : Nat × xHp} (X : xC G p m c s #[Value.ref b] RL cL_law 4) (hX : xSc G s b L xs) (Y : xY G z f s H locs) (hl : lv_has ls 4 [(0, .ref b), (1, .ref x), (2, .ref mo), (3, .int i)]) (hc : cells + 8 ≤ 600000) (hs : slots + 256 ≤ 7302250) (h : S_law_14 xs L x mo z f i = some rs) (kk : ∀ (H1 : Heap) (locs1 : List Loc) (ls : Array Slot), xY G rs.1 rs.2 s H1 locs1 → lv_has ls 4 [(0, .ref b), (1, .ref x), (2, .ref mo), (3, .int i)] → W p l e room_1 s m #[Value.ref b] below meth c H1 locs1 (cells + 8) (slots + 256) Q (F0 m 1475 ls [])) : W p l e room_1 s m #[Value.ref b] below meth c H locs cells slots Q (F0 m 782 ls []) := by
  have hx := X.1.1
  have hb := X.1.2.1
  unfold S_law_14 at h
  refine lv_aload_n hx hb dL_law_782 rfl (lv_at hl 1 rfl) ?_
  refine lv_aload_n hx hb dL_law_783 rfl (lv_at hl 0 rfl) ?_
  refine lv_iload_n hx hb dL_law_784 rfl (lv_at hl 3 rfl) ?_
  refine lv_iconst (v := 1) hx hb dL_law_785 (by decide) ?_
  refine lv_iadd hx hb dL_law_786 ?_
  replace h := xb h
  obtain ⟨v1, ev1, h⟩ := h
  refine q_scr X Y hX ev1 dL_law_787 ?_
  refine lv_aload_n hx hb dL_law_788 rfl (lv_at hl 0 rfl) ?_
  refine lv_iload_n hx hb dL_law_789 rfl (lv_at hl 3 rfl) ?_
  refine lv_iconst (v := 2) hx hb dL_law_790 (by decide) ?_
  refine lv_iadd hx hb dL_law_791 ?_
  replace h := xb h
  obtain ⟨v2, ev2, h⟩ := h
  refine q_scr X Y hX ev2 dL_law_792 ?_
  refine lv_aload_n hx hb dL_law_793 rfl (lv_at hl 0 rfl) ?_
  refine lv_iload_n hx hb dL_law_794 rfl (lv_at hl 3 rfl) ?_
  refine lv_iconst (v := 3) hx hb dL_law_795 (by decide) ?_
  refine lv_iadd hx hb dL_law_796 ?_
  replace h := xb h
  obtain ⟨v3, ev3, h⟩ := h
  refine q_scr X Y hX ev3 dL_law_797 ?_
  by_cases c4 : hKd f x = some 9
  case neg => exact absurd (Eq.trans (if_neg c4).symm h) (by intro q; cases q)
  replace h := Eq.trans (if_pos c4).symm h
  replace h := xb h
  obtain ⟨q5, eq5, h⟩ := h
  refine q_callV X Y hl.1 (rest := []) (As := [.int v1, .int v2, .int v3]) (c_X10_bound l G z f x v1 v2 v3 _ eq5) cd_X10_bound lv_L_78_9 c4 ⟨(Nat.le_of_ble_eq_true rfl), (Nat.le_of_ble_eq_true rfl)⟩ ⟨by show cells + 0 ≤ 600000; omega, by show slots + 0 ≤ 7302250; omega⟩ rfl rfl (Nat.le_of_ble_eq_true rfl) dL_law_798 (fun H locs Y => ?_)
  refine W.widen (k := cells + 0) (n := slots + 0) (by show cells + 0 ≤ cells + 0; omega) (by show slots + 0 ≤ slots + 0; omega) ?_
  refine W.eq (g2 := F0 m 801 ls [.long q5.1]) rfl ?_
  refine lv_aload_n hx hb dL_law_801 rfl (lv_at hl 2 rfl) ?_
  refine lv_aload_n hx hb dL_law_802 rfl (lv_at hl 0 rfl) ?_
  refine lv_iload_n hx hb dL_law_803 rfl (lv_at hl 3 rfl) ?_
  refine lv_iconst (v := 1) hx hb dL_law_804 (by decide) ?_
  refine lv_iadd hx hb dL_law_805 ?_
  replace h := xb h
  obtain ⟨v6, ev6, h⟩ := h
  refine q_scr X Y hX ev6 dL_law_806 ?_
  refine lv_aload_n hx hb dL_law_807 rfl (lv_at hl 0 rfl) ?_
  refine lv_iload_n hx hb dL_law_808 rfl (lv_at hl 3 rfl) ?_
  refine lv_iconst (v := 2) hx hb dL_law_809 (by decide) ?_
  refine lv_iadd hx hb dL_law_810 ?_
  replace h := xb h
  obtain ⟨v7, ev7, h⟩ := h
  refine q_scr X Y hX ev7 dL_law_811 ?_
  refine lv_aload_n hx hb dL_law_812 rfl (lv_at hl 0 rfl) ?_
  refine lv_iload_n hx hb dL_law_813 rfl (lv_at hl 3 rfl) ?_
  refine lv_iconst (v := 3) hx hb dL_law_814 (by decide) ?_
  refine lv_iadd hx hb dL_law_815 ?_
  replace h := xb h
  obtain ⟨v8, ev8, h⟩ := h
  refine q_scr X Y hX ev8 dL_law_816 ?_
  by_cases c9 : hKd q5.2 mo = some 10
  case neg => exact absurd (Eq.trans (if_neg c9).symm h) (by intro q; cases q)
  replace h := Eq.trans (if_pos c9).symm h
  replace h := xb h
  obtain ⟨q10, eq10, h⟩ := h
  refine q_callV X Y hl.1 (rest := [.long q5.1]) (As := [.int v6, .int v7, .int v8]) (c_X11_bound l G z q5.2 mo v6 v7 v8 _ eq10) cd_X11_bound lv_L_81_10 c9 ⟨(Nat.le_of_ble_eq_true rfl), (Nat.le_of_ble_eq_true rfl)⟩ ⟨by show cells + 0 ≤ 600000; omega, by show slots + 0 ≤ 7302250; omega⟩ rfl rfl (Nat.le_of_ble_eq_true rfl) dL_law_817 (fun H locs Y => ?_)
  refine W.widen (k := cells + 0) (n := slots + 0) (by show cells + 0 + 0 ≤ cells + 0; omega) (by show slots + 0 + 0 ≤ slots + 0; omega) ?_
  refine W.eq (g2 := F0 m 820 ls [.long q10, .long q5.1]) rfl ?_
  refine q_lcmp_eq (tgt := 1475) hx hb dL_law_820 dL_law_821 (by decide) (fun c11 => ?_) (fun c11 => ?_)
  · replace h := Option.some.inj (Eq.trans (if_pos c11).symm h)
    subst h
    refine W.widen (k := cells + 8) (n := slots + 256) (by omega) (by omega) ?_
    exact kk _ _ _ Y hl
  · exact absurd (Eq.trans (if_neg c11).symm h) (by intro q; cases q)
set_option maxRecDepth 100000 in
set_option maxHeartbeats 4000000 in
theorem w_law_15 {p : Program} {l : Launch} {e : Env} {s : State} {m : MethodId} {below : List Frame} {meth : Method} {c : Code} {H : Heap} {locs : List Loc} {cells slots : Nat} {Q : State → Prop} {ls : Array Slot} {G : xG} {z : Nat} {f : xHp} {b L x mo : Nat} {xs : Nat → Int32} {i : Int32} {rs : Nat × xHp} (X : xC G p m c s #[Value.ref b] RL cL_law 4) (hX : xSc G s b L xs) (Y : xY G z f s H locs) (hl : lv_has ls 4 [(0, .ref b), (1, .ref x), (2, .ref mo), (3, .int i)]) (hc : cells + 8 ≤ 600000) (hs : slots + 256 ≤ 7302250) (h : S_law_15 xs L x mo z f i = some rs) (kk : ∀ (H1 : Heap) (locs1 : List Loc) (ls : Array Slot), xY G rs.1 rs.2 s H1 locs1 → lv_has ls 4 [(0, .ref b), (1, .ref x), (2, .ref mo), (3, .int i)] → W p l e room_1 s m #[Value.ref b] below meth c H1 locs1 (cells + 8) (slots + 256) Q (F0 m 1475 ls [])) : W p l e room_1 s m #[Value.ref b] below meth c H locs cells slots Q (F0 m 826 ls []) := by
  have hx := X.1.1
  have hb := X.1.2.1
  unfold S_law_15 at h
  refine lv_aload_n hx hb dL_law_826 rfl (lv_at hl 1 rfl) ?_
  refine lv_aload_n hx hb dL_law_827 rfl (lv_at hl 0 rfl) ?_
  refine lv_iload_n hx hb dL_law_828 rfl (lv_at hl 3 rfl) ?_
  refine lv_iconst (v := 1) hx hb dL_law_829 (by decide) ?_
  refine lv_iadd hx hb dL_law_830 ?_
  replace h := xb h
  obtain ⟨v1, ev1, h⟩ := h
  refine q_scr X Y hX ev1 dL_law_831 ?_
  refine lv_aload_n hx hb dL_law_832 rfl (lv_at hl 0 rfl) ?_
  refine lv_iload_n hx hb dL_law_833 rfl (lv_at hl 3 rfl) ?_
  refine lv_iconst (v := 2) hx hb dL_law_834 (by decide) ?_
  refine lv_iadd hx hb dL_law_835 ?_
  replace h := xb h
  obtain ⟨v2, ev2, h⟩ := h
  refine q_scr X Y hX ev2 dL_law_836 ?_
  by_cases c3 : hKd f x = some 9
  case neg => exact absurd (Eq.trans (if_neg c3).symm h) (by intro q; cases q)
  replace h := Eq.trans (if_pos c3).symm h
  replace h := xb h
  obtain ⟨q4, eq4, h⟩ := h
  refine q_callV X Y hl.1 (rest := []) (As := [.int v1, .int v2]) (c_X10_cut l G z f x v1 v2 _ eq4) cd_X10_cut lv_L_82_9 c3 ⟨(Nat.le_of_ble_eq_true rfl), (Nat.le_of_ble_eq_true rfl)⟩ ⟨by show cells + 0 ≤ 600000; omega, by show slots + 0 ≤ 7302250; omega⟩ rfl rfl (Nat.le_of_ble_eq_true rfl) dL_law_837 (fun H locs Y => ?_)
  refine W.widen (k := cells + 0) (n := slots + 0) (by show cells + 0 ≤ cells + 0; omega) (by show slots + 0 ≤ slots + 0; omega) ?_
  refine W.eq (g2 := F0 m 840 ls [.int q4.1]) rfl ?_
  refine lv_aload_n hx hb dL_law_840 rfl (lv_at hl 2 rfl) ?_
  refine lv_aload_n hx hb dL_law_841 rfl (lv_at hl 0 rfl) ?_
  refine lv_iload_n hx hb dL_law_842 rfl (lv_at hl 3 rfl) ?_
  refine lv_iconst (v := 1) hx hb dL_law_843 (by decide) ?_
  refine lv_iadd hx hb dL_law_844 ?_
  replace h := xb h
  obtain ⟨v5, ev5, h⟩ := h
  refine q_scr X Y hX ev5 dL_law_845 ?_
  refine lv_aload_n hx hb dL_law_846 rfl (lv_at hl 0 rfl) ?_
  refine lv_iload_n hx hb dL_law_847 rfl (lv_at hl 3 rfl) ?_
  refine lv_iconst (v := 2) hx hb dL_law_848 (by decide) ?_
  refine lv_iadd hx hb dL_law_849 ?_
  replace h := xb h
  obtain ⟨v6, ev6, h⟩ := h
  refine q_scr X Y hX ev6 dL_law_850 ?_
  by_cases c7 : hKd q4.2 mo = some 10
  case neg => exact absurd (Eq.trans (if_neg c7).symm h) (by intro q; cases q)
  replace h := Eq.trans (if_pos c7).symm h
  replace h := xb h
  obtain ⟨q8, eq8, h⟩ := h
  refine q_callV X Y hl.1 (rest := [.int q4.1]) (As := [.int v5, .int v6]) (c_X11_cut l G z q4.2 mo v5 v6 _ eq8) cd_X11_cut lv_L_85_10 c7 ⟨(Nat.le_of_ble_eq_true rfl), (Nat.le_of_ble_eq_true rfl)⟩ ⟨by show cells + 0 ≤ 600000; omega, by show slots + 0 ≤ 7302250; omega⟩ rfl rfl (Nat.le_of_ble_eq_true rfl) dL_law_851 (fun H locs Y => ?_)
  refine W.widen (k := cells + 0) (n := slots + 0) (by show cells + 0 + 0 ≤ cells + 0; omega) (by show slots + 0 + 0 ≤ slots + 0; omega) ?_
  refine W.eq (g2 := F0 m 854 ls [.int q8.1, .int q4.1]) rfl ?_
  refine lv_icmp_eq (tgt := 1475) hx hb dL_law_854 (by decide) (fun c9 => ?_) (fun c9 => ?_)
  · replace h := Option.some.inj (Eq.trans (if_pos c9).symm h)
    subst h
    refine W.widen (k := cells + 8) (n := slots + 256) (by omega) (by omega) ?_
    exact kk _ _ _ Y hl
  · exact absurd (Eq.trans (if_neg c9).symm h) (by intro q; cases q)
set_option maxRecDepth 100000 in
set_option maxHeartbeats 4000000 in
theorem w_law_16 {p : Program} {l : Launch} {e : Env} {s : State} {m : MethodId} {below : List Frame} {meth : Method} {c : Code} {H : Heap} {locs : List Loc} {cells slots : Nat} {Q : State → Prop} {ls : Array Slot} {G : xG} {z : Nat} {f : xHp} {b L x mo : Nat} {xs : Nat → Int32} {i : Int32} {rs : Nat × xHp} (X : xC G p m c s #[Value.ref b] RL cL_law 4) (hX : xSc G s b L xs) (Y : xY G z f s H locs) (hl : lv_has ls 4 [(0, .ref b), (1, .ref x), (2, .ref mo), (3, .int i)]) (hc : cells + 8 ≤ 600000) (hs : slots + 256 ≤ 7302250) (h : S_law_16 xs L x mo z f i = some rs) (kk : ∀ (H1 : Heap) (locs1 : List Loc) (ls : Array Slot), xY G rs.1 rs.2 s H1 locs1 → lv_has ls 4 [(0, .ref b), (1, .ref x), (2, .ref mo), (3, .int i)] → W p l e room_1 s m #[Value.ref b] below meth c H1 locs1 (cells + 8) (slots + 256) Q (F0 m 1475 ls [])) : W p l e room_1 s m #[Value.ref b] below meth c H locs cells slots Q (F0 m 859 ls []) := by
  have hx := X.1.1
  have hb := X.1.2.1
  unfold S_law_16 at h
  refine lv_aload_n hx hb dL_law_859 rfl (lv_at hl 1 rfl) ?_
  refine lv_aload_n hx hb dL_law_860 rfl (lv_at hl 0 rfl) ?_
  refine lv_iload_n hx hb dL_law_861 rfl (lv_at hl 3 rfl) ?_
  refine lv_iconst (v := 1) hx hb dL_law_862 (by decide) ?_
  refine lv_iadd hx hb dL_law_863 ?_
  replace h := xb h
  obtain ⟨v1, ev1, h⟩ := h
  refine q_scr X Y hX ev1 dL_law_864 ?_
  refine lv_aload_n hx hb dL_law_865 rfl (lv_at hl 0 rfl) ?_
  refine lv_iload_n hx hb dL_law_866 rfl (lv_at hl 3 rfl) ?_
  refine lv_iconst (v := 2) hx hb dL_law_867 (by decide) ?_
  refine lv_iadd hx hb dL_law_868 ?_
  replace h := xb h
  obtain ⟨v2, ev2, h⟩ := h
  refine q_scr X Y hX ev2 dL_law_869 ?_
  by_cases c3 : hKd f x = some 9
  case neg => exact absurd (Eq.trans (if_neg c3).symm h) (by intro q; cases q)
  replace h := Eq.trans (if_pos c3).symm h
  replace h := xb h
  obtain ⟨q4, eq4, h⟩ := h
  refine q_callV X Y hl.1 (rest := []) (As := [.int v1, .int v2]) (c_X10_parts l G z f x v1 v2 _ eq4) cd_X10_parts lv_L_86_9 c3 ⟨(Nat.le_of_ble_eq_true rfl), (Nat.le_of_ble_eq_true rfl)⟩ ⟨by show cells + 0 ≤ 600000; omega, by show slots + 0 ≤ 7302250; omega⟩ rfl rfl (Nat.le_of_ble_eq_true rfl) dL_law_870 (fun H locs Y => ?_)
  refine W.widen (k := cells + 0) (n := slots + 0) (by show cells + 0 ≤ cells + 0; omega) (by show slots + 0 ≤ slots + 0; omega) ?_
  refine W.eq (g2 := F0 m 873 ls [.int q4.1]) rfl ?_
  refine lv_aload_n hx hb dL_law_873 rfl (lv_at hl 2 rfl) ?_
  refine lv_aload_n hx hb dL_law_874 rfl (lv_at hl 0 rfl) ?_
  refine lv_iload_n hx hb dL_law_875 rfl (lv_at hl 3 rfl) ?_
  refine lv_iconst (v := 1) hx hb dL_law_876 (by decide) ?_
  refine lv_iadd hx hb dL_law_877 ?_
  replace h := xb h
  obtain ⟨v5, ev5, h⟩ := h
  refine q_scr X Y hX ev5 dL_law_878 ?_
  refine lv_aload_n hx hb dL_law_879 rfl (lv_at hl 0 rfl) ?_
  refine lv_iload_n hx hb dL_law_880 rfl (lv_at hl 3 rfl) ?_
  refine lv_iconst (v := 2) hx hb dL_law_881 (by decide) ?_
  refine lv_iadd hx hb dL_law_882 ?_
  replace h := xb h
  obtain ⟨v6, ev6, h⟩ := h
  refine q_scr X Y hX ev6 dL_law_883 ?_
  by_cases c7 : hKd q4.2 mo = some 10
  case neg => exact absurd (Eq.trans (if_neg c7).symm h) (by intro q; cases q)
  replace h := Eq.trans (if_pos c7).symm h
  replace h := xb h
  obtain ⟨q8, eq8, h⟩ := h
  refine q_callV X Y hl.1 (rest := [.int q4.1]) (As := [.int v5, .int v6]) (c_X11_parts l G z q4.2 mo v5 v6 _ eq8) cd_X11_parts lv_L_89_10 c7 ⟨(Nat.le_of_ble_eq_true rfl), (Nat.le_of_ble_eq_true rfl)⟩ ⟨by show cells + 0 ≤ 600000; omega, by show slots + 0 ≤ 7302250; omega⟩ rfl rfl (Nat.le_of_ble_eq_true rfl) dL_law_884 (fun H locs Y => ?_)
  refine W.widen (k := cells + 0) (n := slots + 0) (by show cells + 0 + 0 ≤ cells + 0; omega) (by show slots + 0 + 0 ≤ slots + 0; omega) ?_
  refine W.eq (g2 := F0 m 887 ls [.int q8.1, .int q4.1]) rfl ?_
  refine lv_icmp_eq (tgt := 1475) hx hb dL_law_887 (by decide) (fun c9 => ?_) (fun c9 => ?_)
  · replace h := Option.some.inj (Eq.trans (if_pos c9).symm h)
    subst h
    refine W.widen (k := cells + 8) (n := slots + 256) (by omega) (by omega) ?_
    exact kk _ _ _ Y hl
  · exact absurd (Eq.trans (if_neg c9).symm h) (by intro q; cases q)
set_option maxRecDepth 100000 in
set_option maxHeartbeats 4000000 in
theorem w_law_17 {p : Program} {l : Launch} {e : Env} {s : State} {m : MethodId} {below : List Frame} {meth : Method} {c : Code} {H : Heap} {locs : List Loc} {cells slots : Nat} {Q : State → Prop} {ls : Array Slot} {G : xG} {z : Nat} {f : xHp} {b L x mo : Nat} {xs : Nat → Int32} {i : Int32} {rs : Nat × xHp} (X : xC G p m c s #[Value.ref b] RL cL_law 4) (hX : xSc G s b L xs) (Y : xY G z f s H locs) (hl : lv_has ls 4 [(0, .ref b), (1, .ref x), (2, .ref mo), (3, .int i)]) (hc : cells + 8 ≤ 600000) (hs : slots + 256 ≤ 7302250) (h : S_law_17 xs L x mo z f i = some rs) (kk : ∀ (H1 : Heap) (locs1 : List Loc) (ls : Array Slot), xY G rs.1 rs.2 s H1 locs1 → lv_has ls 4 [(0, .ref b), (1, .ref x), (2, .ref mo), (3, .int i)] → W p l e room_1 s m #[Value.ref b] below meth c H1 locs1 (cells + 8) (slots + 256) Q (F0 m 1475 ls [])) : W p l e room_1 s m #[Value.ref b] below meth c H locs cells slots Q (F0 m 892 ls []) := by
  have hx := X.1.1
  have hb := X.1.2.1
  unfold S_law_17 at h
  refine lv_aload_n hx hb dL_law_892 rfl (lv_at hl 1 rfl) ?_
  refine lv_aload_n hx hb dL_law_893 rfl (lv_at hl 0 rfl) ?_
  refine lv_iload_n hx hb dL_law_894 rfl (lv_at hl 3 rfl) ?_
  refine lv_iconst (v := 1) hx hb dL_law_895 (by decide) ?_
  refine lv_iadd hx hb dL_law_896 ?_
  replace h := xb h
  obtain ⟨v1, ev1, h⟩ := h
  refine q_scr X Y hX ev1 dL_law_897 ?_
  by_cases c2 : hKd f x = some 9
  case neg => exact absurd (Eq.trans (if_neg c2).symm h) (by intro q; cases q)
  replace h := Eq.trans (if_pos c2).symm h
  replace h := xb h
  obtain ⟨q3, eq3, h⟩ := h
  refine q_callV X Y hl.1 (rest := []) (As := [.int v1]) (c_X10_cover l G z f x v1 _ eq3) cd_X10_cover lv_L_90_9 c2 ⟨(Nat.le_of_ble_eq_true rfl), (Nat.le_of_ble_eq_true rfl)⟩ ⟨by show cells + 0 ≤ 600000; omega, by show slots + 0 ≤ 7302250; omega⟩ rfl rfl (Nat.le_of_ble_eq_true rfl) dL_law_898 (fun H locs Y => ?_)
  refine W.widen (k := cells + 0) (n := slots + 0) (by show cells + 0 ≤ cells + 0; omega) (by show slots + 0 ≤ slots + 0; omega) ?_
  refine W.eq (g2 := F0 m 901 ls [.int q3.1]) rfl ?_
  refine lv_aload_n hx hb dL_law_901 rfl (lv_at hl 2 rfl) ?_
  refine lv_aload_n hx hb dL_law_902 rfl (lv_at hl 0 rfl) ?_
  refine lv_iload_n hx hb dL_law_903 rfl (lv_at hl 3 rfl) ?_
  refine lv_iconst (v := 1) hx hb dL_law_904 (by decide) ?_
  refine lv_iadd hx hb dL_law_905 ?_
  replace h := xb h
  obtain ⟨v4, ev4, h⟩ := h
  refine q_scr X Y hX ev4 dL_law_906 ?_
  by_cases c5 : hKd q3.2 mo = some 10
  case neg => exact absurd (Eq.trans (if_neg c5).symm h) (by intro q; cases q)
  replace h := Eq.trans (if_pos c5).symm h
  replace h := xb h
  obtain ⟨q6, eq6, h⟩ := h
  refine q_callV X Y hl.1 (rest := [.int q3.1]) (As := [.int v4]) (c_X11_cover l G z q3.2 mo v4 _ eq6) cd_X11_cover lv_L_93_10 c5 ⟨(Nat.le_of_ble_eq_true rfl), (Nat.le_of_ble_eq_true rfl)⟩ ⟨by show cells + 0 ≤ 600000; omega, by show slots + 0 ≤ 7302250; omega⟩ rfl rfl (Nat.le_of_ble_eq_true rfl) dL_law_907 (fun H locs Y => ?_)
  refine W.widen (k := cells + 0) (n := slots + 0) (by show cells + 0 + 0 ≤ cells + 0; omega) (by show slots + 0 + 0 ≤ slots + 0; omega) ?_
  refine W.eq (g2 := F0 m 910 ls [.int q6.1, .int q3.1]) rfl ?_
  refine lv_icmp_eq (tgt := 1475) hx hb dL_law_910 (by decide) (fun c7 => ?_) (fun c7 => ?_)
  · replace h := Option.some.inj (Eq.trans (if_pos c7).symm h)
    subst h
    refine W.widen (k := cells + 8) (n := slots + 256) (by omega) (by omega) ?_
    exact kk _ _ _ Y hl
  · exact absurd (Eq.trans (if_neg c7).symm h) (by intro q; cases q)
set_option maxRecDepth 100000 in
set_option maxHeartbeats 4000000 in
theorem w_law_18 {p : Program} {l : Launch} {e : Env} {s : State} {m : MethodId} {below : List Frame} {meth : Method} {c : Code} {H : Heap} {locs : List Loc} {cells slots : Nat} {Q : State → Prop} {ls : Array Slot} {G : xG} {z : Nat} {f : xHp} {b L x mo : Nat} {xs : Nat → Int32} {i : Int32} {rs : Nat × xHp} (X : xC G p m c s #[Value.ref b] RL cL_law 4) (hX : xSc G s b L xs) (Y : xY G z f s H locs) (hl : lv_has ls 4 [(0, .ref b), (1, .ref x), (2, .ref mo), (3, .int i)]) (hc : cells + 8 ≤ 600000) (hs : slots + 256 ≤ 7302250) (h : S_law_18 xs L x mo z f i = some rs) (kk : ∀ (H1 : Heap) (locs1 : List Loc) (ls : Array Slot), xY G rs.1 rs.2 s H1 locs1 → lv_has ls 4 [(0, .ref b), (1, .ref x), (2, .ref mo), (3, .int i)] → W p l e room_1 s m #[Value.ref b] below meth c H1 locs1 (cells + 8) (slots + 256) Q (F0 m 1475 ls [])) : W p l e room_1 s m #[Value.ref b] below meth c H locs cells slots Q (F0 m 915 ls []) := by
  have hx := X.1.1
  have hb := X.1.2.1
  unfold S_law_18 at h
  refine lv_aload_n hx hb dL_law_915 rfl (lv_at hl 1 rfl) ?_
  refine lv_aload_n hx hb dL_law_916 rfl (lv_at hl 0 rfl) ?_
  refine lv_iload_n hx hb dL_law_917 rfl (lv_at hl 3 rfl) ?_
  refine lv_iconst (v := 1) hx hb dL_law_918 (by decide) ?_
  refine lv_iadd hx hb dL_law_919 ?_
  replace h := xb h
  obtain ⟨v1, ev1, h⟩ := h
  refine q_scr X Y hX ev1 dL_law_920 ?_
  by_cases c2 : hKd f x = some 9
  case neg => exact absurd (Eq.trans (if_neg c2).symm h) (by intro q; cases q)
  replace h := Eq.trans (if_pos c2).symm h
  replace h := xb h
  obtain ⟨q3, eq3, h⟩ := h
  refine q_callV X Y hl.1 (rest := []) (As := [.int v1]) (c_X10_open l G z f x v1 _ eq3) cd_X10_open lv_L_94_9 c2 ⟨(Nat.le_of_ble_eq_true rfl), (Nat.le_of_ble_eq_true rfl)⟩ ⟨by show cells + 0 ≤ 600000; omega, by show slots + 0 ≤ 7302250; omega⟩ rfl rfl (Nat.le_of_ble_eq_true rfl) dL_law_921 (fun H locs Y => ?_)
  refine W.widen (k := cells + 0) (n := slots + 0) (by show cells + 0 ≤ cells + 0; omega) (by show slots + 0 ≤ slots + 0; omega) ?_
  refine W.eq (g2 := F0 m 924 ls [.int q3]) rfl ?_
  refine lv_aload_n hx hb dL_law_924 rfl (lv_at hl 2 rfl) ?_
  refine lv_aload_n hx hb dL_law_925 rfl (lv_at hl 0 rfl) ?_
  refine lv_iload_n hx hb dL_law_926 rfl (lv_at hl 3 rfl) ?_
  refine lv_iconst (v := 1) hx hb dL_law_927 (by decide) ?_
  refine lv_iadd hx hb dL_law_928 ?_
  replace h := xb h
  obtain ⟨v4, ev4, h⟩ := h
  refine q_scr X Y hX ev4 dL_law_929 ?_
  by_cases c5 : hKd f mo = some 10
  case neg => exact absurd (Eq.trans (if_neg c5).symm h) (by intro q; cases q)
  replace h := Eq.trans (if_pos c5).symm h
  replace h := xb h
  obtain ⟨q6, eq6, h⟩ := h
  refine q_callV X Y hl.1 (rest := [.int q3]) (As := [.int v4]) (c_X11_open l G z f mo v4 _ eq6) cd_X11_open lv_L_97_10 c5 ⟨(Nat.le_of_ble_eq_true rfl), (Nat.le_of_ble_eq_true rfl)⟩ ⟨by show cells + 0 ≤ 600000; omega, by show slots + 0 ≤ 7302250; omega⟩ rfl rfl (Nat.le_of_ble_eq_true rfl) dL_law_930 (fun H locs Y => ?_)
  refine W.widen (k := cells + 0) (n := slots + 0) (by show cells + 0 + 0 ≤ cells + 0; omega) (by show slots + 0 + 0 ≤ slots + 0; omega) ?_
  refine W.eq (g2 := F0 m 933 ls [.int q6, .int q3]) rfl ?_
  refine lv_icmp_eq (tgt := 1475) hx hb dL_law_933 (by decide) (fun c7 => ?_) (fun c7 => ?_)
  · replace h := Option.some.inj (Eq.trans (if_pos c7).symm h)
    subst h
    refine W.widen (k := cells + 8) (n := slots + 256) (by omega) (by omega) ?_
    exact kk _ _ _ Y hl
  · exact absurd (Eq.trans (if_neg c7).symm h) (by intro q; cases q)
set_option maxRecDepth 100000 in
set_option maxHeartbeats 4000000 in
theorem w_law_19 {p : Program} {l : Launch} {e : Env} {s : State} {m : MethodId} {below : List Frame} {meth : Method} {c : Code} {H : Heap} {locs : List Loc} {cells slots : Nat} {Q : State → Prop} {ls : Array Slot} {G : xG} {z : Nat} {f : xHp} {b L x mo : Nat} {xs : Nat → Int32} {i : Int32} {rs : Nat × xHp} (X : xC G p m c s #[Value.ref b] RL cL_law 4) (hX : xSc G s b L xs) (Y : xY G z f s H locs) (hl : lv_has ls 4 [(0, .ref b), (1, .ref x), (2, .ref mo), (3, .int i)]) (hc : cells + 8 ≤ 600000) (hs : slots + 256 ≤ 7302250) (h : S_law_19 xs L x mo z f i = some rs) (kk : ∀ (H1 : Heap) (locs1 : List Loc) (ls : Array Slot), xY G rs.1 rs.2 s H1 locs1 → lv_has ls 4 [(0, .ref b), (1, .ref x), (2, .ref mo), (3, .int i)] → W p l e room_1 s m #[Value.ref b] below meth c H1 locs1 (cells + 8) (slots + 256) Q (F0 m 1475 ls [])) : W p l e room_1 s m #[Value.ref b] below meth c H locs cells slots Q (F0 m 938 ls []) := by
  have hx := X.1.1
  have hb := X.1.2.1
  unfold S_law_19 at h
  refine lv_aload_n hx hb dL_law_938 rfl (lv_at hl 1 rfl) ?_
  refine lv_aload_n hx hb dL_law_939 rfl (lv_at hl 0 rfl) ?_
  refine lv_iload_n hx hb dL_law_940 rfl (lv_at hl 3 rfl) ?_
  refine lv_iconst (v := 1) hx hb dL_law_941 (by decide) ?_
  refine lv_iadd hx hb dL_law_942 ?_
  replace h := xb h
  obtain ⟨v1, ev1, h⟩ := h
  refine q_scr X Y hX ev1 dL_law_943 ?_
  refine lv_aload_n hx hb dL_law_944 rfl (lv_at hl 0 rfl) ?_
  refine lv_iload_n hx hb dL_law_945 rfl (lv_at hl 3 rfl) ?_
  refine lv_iconst (v := 2) hx hb dL_law_946 (by decide) ?_
  refine lv_iadd hx hb dL_law_947 ?_
  replace h := xb h
  obtain ⟨v2, ev2, h⟩ := h
  refine q_scr X Y hX ev2 dL_law_948 ?_
  by_cases c3 : hKd f x = some 9
  case neg => exact absurd (Eq.trans (if_neg c3).symm h) (by intro q; cases q)
  replace h := Eq.trans (if_pos c3).symm h
  replace h := xb h
  obtain ⟨q4, eq4, h⟩ := h
  refine q_callV X Y hl.1 (rest := []) (As := [.int v1, .int v2]) (c_X10_partly l G z f x v1 v2 _ eq4) cd_X10_partly lv_L_98_9 c3 ⟨(Nat.le_of_ble_eq_true rfl), (Nat.le_of_ble_eq_true rfl)⟩ ⟨by show cells + 0 ≤ 600000; omega, by show slots + 0 ≤ 7302250; omega⟩ rfl rfl (Nat.le_of_ble_eq_true rfl) dL_law_949 (fun H locs Y => ?_)
  refine W.widen (k := cells + 0) (n := slots + 0) (by show cells + 0 ≤ cells + 0; omega) (by show slots + 0 ≤ slots + 0; omega) ?_
  refine W.eq (g2 := F0 m 952 ls [.int q4]) rfl ?_
  refine lv_aload_n hx hb dL_law_952 rfl (lv_at hl 2 rfl) ?_
  refine lv_aload_n hx hb dL_law_953 rfl (lv_at hl 0 rfl) ?_
  refine lv_iload_n hx hb dL_law_954 rfl (lv_at hl 3 rfl) ?_
  refine lv_iconst (v := 1) hx hb dL_law_955 (by decide) ?_
  refine lv_iadd hx hb dL_law_956 ?_
  replace h := xb h
  obtain ⟨v5, ev5, h⟩ := h
  refine q_scr X Y hX ev5 dL_law_957 ?_
  refine lv_aload_n hx hb dL_law_958 rfl (lv_at hl 0 rfl) ?_
  refine lv_iload_n hx hb dL_law_959 rfl (lv_at hl 3 rfl) ?_
  refine lv_iconst (v := 2) hx hb dL_law_960 (by decide) ?_
  refine lv_iadd hx hb dL_law_961 ?_
  replace h := xb h
  obtain ⟨v6, ev6, h⟩ := h
  refine q_scr X Y hX ev6 dL_law_962 ?_
  by_cases c7 : hKd f mo = some 10
  case neg => exact absurd (Eq.trans (if_neg c7).symm h) (by intro q; cases q)
  replace h := Eq.trans (if_pos c7).symm h
  replace h := xb h
  obtain ⟨q8, eq8, h⟩ := h
  refine q_callV X Y hl.1 (rest := [.int q4]) (As := [.int v5, .int v6]) (c_X11_partly l G z f mo v5 v6 _ eq8) cd_X11_partly lv_L_101_10 c7 ⟨(Nat.le_of_ble_eq_true rfl), (Nat.le_of_ble_eq_true rfl)⟩ ⟨by show cells + 0 ≤ 600000; omega, by show slots + 0 ≤ 7302250; omega⟩ rfl rfl (Nat.le_of_ble_eq_true rfl) dL_law_963 (fun H locs Y => ?_)
  refine W.widen (k := cells + 0) (n := slots + 0) (by show cells + 0 + 0 ≤ cells + 0; omega) (by show slots + 0 + 0 ≤ slots + 0; omega) ?_
  refine W.eq (g2 := F0 m 966 ls [.int q8, .int q4]) rfl ?_
  refine lv_icmp_eq (tgt := 1475) hx hb dL_law_966 (by decide) (fun c9 => ?_) (fun c9 => ?_)
  · replace h := Option.some.inj (Eq.trans (if_pos c9).symm h)
    subst h
    refine W.widen (k := cells + 8) (n := slots + 256) (by omega) (by omega) ?_
    exact kk _ _ _ Y hl
  · exact absurd (Eq.trans (if_neg c9).symm h) (by intro q; cases q)
set_option maxRecDepth 100000 in
set_option maxHeartbeats 4000000 in
theorem w_law_20 {p : Program} {l : Launch} {e : Env} {s : State} {m : MethodId} {below : List Frame} {meth : Method} {c : Code} {H : Heap} {locs : List Loc} {cells slots : Nat} {Q : State → Prop} {ls : Array Slot} {G : xG} {z : Nat} {f : xHp} {b L x mo : Nat} {xs : Nat → Int32} {i : Int32} {rs : Nat × xHp} (X : xC G p m c s #[Value.ref b] RL cL_law 4) (hX : xSc G s b L xs) (Y : xY G z f s H locs) (hl : lv_has ls 4 [(0, .ref b), (1, .ref x), (2, .ref mo), (3, .int i)]) (hc : cells + 8 ≤ 600000) (hs : slots + 256 ≤ 7302250) (h : S_law_20 xs L x mo z f i = some rs) (kk : ∀ (H1 : Heap) (locs1 : List Loc) (ls : Array Slot), xY G rs.1 rs.2 s H1 locs1 → lv_has ls 4 [(0, .ref b), (1, .ref x), (2, .ref mo), (3, .int i)] → W p l e room_1 s m #[Value.ref b] below meth c H1 locs1 (cells + 8) (slots + 256) Q (F0 m 1475 ls [])) : W p l e room_1 s m #[Value.ref b] below meth c H locs cells slots Q (F0 m 971 ls []) := by
  have hx := X.1.1
  have hb := X.1.2.1
  unfold S_law_20 at h
  refine lv_aload_n hx hb dL_law_971 rfl (lv_at hl 1 rfl) ?_
  refine lv_aload_n hx hb dL_law_972 rfl (lv_at hl 0 rfl) ?_
  refine lv_iload_n hx hb dL_law_973 rfl (lv_at hl 3 rfl) ?_
  refine lv_iconst (v := 1) hx hb dL_law_974 (by decide) ?_
  refine lv_iadd hx hb dL_law_975 ?_
  replace h := xb h
  obtain ⟨v1, ev1, h⟩ := h
  refine q_scr X Y hX ev1 dL_law_976 ?_
  by_cases c2 : hKd f x = some 9
  case neg => exact absurd (Eq.trans (if_neg c2).symm h) (by intro q; cases q)
  replace h := Eq.trans (if_pos c2).symm h
  replace h := xb h
  obtain ⟨q3, eq3, h⟩ := h
  refine q_callV X Y hl.1 (rest := []) (As := [.int v1]) (c_X10_where l G z f x v1 _ eq3) cd_X10_where lv_L_102_9 c2 ⟨(Nat.le_of_ble_eq_true rfl), (Nat.le_of_ble_eq_true rfl)⟩ ⟨by show cells + 0 ≤ 600000; omega, by show slots + 0 ≤ 7302250; omega⟩ rfl rfl (Nat.le_of_ble_eq_true rfl) dL_law_977 (fun H locs Y => ?_)
  refine W.widen (k := cells + 0) (n := slots + 0) (by show cells + 0 ≤ cells + 0; omega) (by show slots + 0 ≤ slots + 0; omega) ?_
  refine W.eq (g2 := F0 m 980 ls [.int q3]) rfl ?_
  refine lv_aload_n hx hb dL_law_980 rfl (lv_at hl 2 rfl) ?_
  refine lv_aload_n hx hb dL_law_981 rfl (lv_at hl 0 rfl) ?_
  refine lv_iload_n hx hb dL_law_982 rfl (lv_at hl 3 rfl) ?_
  refine lv_iconst (v := 1) hx hb dL_law_983 (by decide) ?_
  refine lv_iadd hx hb dL_law_984 ?_
  replace h := xb h
  obtain ⟨v4, ev4, h⟩ := h
  refine q_scr X Y hX ev4 dL_law_985 ?_
  by_cases c5 : hKd f mo = some 10
  case neg => exact absurd (Eq.trans (if_neg c5).symm h) (by intro q; cases q)
  replace h := Eq.trans (if_pos c5).symm h
  replace h := xb h
  obtain ⟨q6, eq6, h⟩ := h
  refine q_callV X Y hl.1 (rest := [.int q3]) (As := [.int v4]) (c_X11_where l G z f mo v4 _ eq6) cd_X11_where lv_L_105_10 c5 ⟨(Nat.le_of_ble_eq_true rfl), (Nat.le_of_ble_eq_true rfl)⟩ ⟨by show cells + 0 ≤ 600000; omega, by show slots + 0 ≤ 7302250; omega⟩ rfl rfl (Nat.le_of_ble_eq_true rfl) dL_law_986 (fun H locs Y => ?_)
  refine W.widen (k := cells + 0) (n := slots + 0) (by show cells + 0 + 0 ≤ cells + 0; omega) (by show slots + 0 + 0 ≤ slots + 0; omega) ?_
  refine W.eq (g2 := F0 m 989 ls [.int q6, .int q3]) rfl ?_
  refine lv_icmp_eq (tgt := 1475) hx hb dL_law_989 (by decide) (fun c7 => ?_) (fun c7 => ?_)
  · replace h := Option.some.inj (Eq.trans (if_pos c7).symm h)
    subst h
    refine W.widen (k := cells + 8) (n := slots + 256) (by omega) (by omega) ?_
    exact kk _ _ _ Y hl
  · exact absurd (Eq.trans (if_neg c7).symm h) (by intro q; cases q)
set_option maxRecDepth 100000 in
set_option maxHeartbeats 4000000 in
theorem w_law_21 {p : Program} {l : Launch} {e : Env} {s : State} {m : MethodId} {below : List Frame} {meth : Method} {c : Code} {H : Heap} {locs : List Loc} {cells slots : Nat} {Q : State → Prop} {ls : Array Slot} {G : xG} {z : Nat} {f : xHp} {b L x mo : Nat} {xs : Nat → Int32} {i : Int32} {rs : Nat × xHp} (X : xC G p m c s #[Value.ref b] RL cL_law 4) (hX : xSc G s b L xs) (Y : xY G z f s H locs) (hl : lv_has ls 4 [(0, .ref b), (1, .ref x), (2, .ref mo), (3, .int i)]) (hc : cells + 8 ≤ 600000) (hs : slots + 256 ≤ 7302250) (h : S_law_21 xs L x mo z f i = some rs) (kk : ∀ (H1 : Heap) (locs1 : List Loc) (ls : Array Slot), xY G rs.1 rs.2 s H1 locs1 → lv_has ls 4 [(0, .ref b), (1, .ref x), (2, .ref mo), (3, .int i)] → W p l e room_1 s m #[Value.ref b] below meth c H1 locs1 (cells + 8) (slots + 256) Q (F0 m 1475 ls [])) : W p l e room_1 s m #[Value.ref b] below meth c H locs cells slots Q (F0 m 994 ls []) := by
  have hx := X.1.1
  have hb := X.1.2.1
  unfold S_law_21 at h
  refine lv_aload_n hx hb dL_law_994 rfl (lv_at hl 1 rfl) ?_
  by_cases c1 : hKd f x = some 9
  case neg => exact absurd (Eq.trans (if_neg c1).symm h) (by intro q; cases q)
  replace h := Eq.trans (if_pos c1).symm h
  replace h := xb h
  obtain ⟨q2, eq2, h⟩ := h
  refine q_callV X Y hl.1 (rest := []) (As := []) (c_X10_least l G z f x _ eq2) cd_X10_least lv_L_106_9 c1 ⟨(Nat.le_of_ble_eq_true rfl), (Nat.le_of_ble_eq_true rfl)⟩ ⟨by show cells + 0 ≤ 600000; omega, by show slots + 0 ≤ 7302250; omega⟩ rfl rfl (Nat.le_of_ble_eq_true rfl) dL_law_995 (fun H locs Y => ?_)
  refine W.widen (k := cells + 0) (n := slots + 0) (by show cells + 0 ≤ cells + 0; omega) (by show slots + 0 ≤ slots + 0; omega) ?_
  refine W.eq (g2 := F0 m 998 ls [.long q2.1]) rfl ?_
  refine lv_aload_n hx hb dL_law_998 rfl (lv_at hl 2 rfl) ?_
  by_cases c3 : hKd q2.2 mo = some 10
  case neg => exact absurd (Eq.trans (if_neg c3).symm h) (by intro q; cases q)
  replace h := Eq.trans (if_pos c3).symm h
  replace h := xb h
  obtain ⟨q4, eq4, h⟩ := h
  refine q_callV X Y hl.1 (rest := [.long q2.1]) (As := []) (c_X11_least l G z q2.2 mo _ eq4) cd_X11_least lv_L_110_10 c3 ⟨(Nat.le_of_ble_eq_true rfl), (Nat.le_of_ble_eq_true rfl)⟩ ⟨by show cells + 0 ≤ 600000; omega, by show slots + 0 ≤ 7302250; omega⟩ rfl rfl (Nat.le_of_ble_eq_true rfl) dL_law_999 (fun H locs Y => ?_)
  refine W.widen (k := cells + 0) (n := slots + 0) (by show cells + 0 + 0 ≤ cells + 0; omega) (by show slots + 0 + 0 ≤ slots + 0; omega) ?_
  refine W.eq (g2 := F0 m 1002 ls [.long q4, .long q2.1]) rfl ?_
  refine q_lcmp_eq (tgt := 1475) hx hb dL_law_1002 dL_law_1003 (by decide) (fun c5 => ?_) (fun c5 => ?_)
  · replace h := Option.some.inj (Eq.trans (if_pos c5).symm h)
    subst h
    refine W.widen (k := cells + 8) (n := slots + 256) (by omega) (by omega) ?_
    exact kk _ _ _ Y hl
  · exact absurd (Eq.trans (if_neg c5).symm h) (by intro q; cases q)
set_option maxRecDepth 100000 in
set_option maxHeartbeats 4000000 in
theorem w_law_22 {p : Program} {l : Launch} {e : Env} {s : State} {m : MethodId} {below : List Frame} {meth : Method} {c : Code} {H : Heap} {locs : List Loc} {cells slots : Nat} {Q : State → Prop} {ls : Array Slot} {G : xG} {z : Nat} {f : xHp} {b L x mo : Nat} {xs : Nat → Int32} {i : Int32} {rs : Nat × xHp} (X : xC G p m c s #[Value.ref b] RL cL_law 4) (hX : xSc G s b L xs) (Y : xY G z f s H locs) (hl : lv_has ls 4 [(0, .ref b), (1, .ref x), (2, .ref mo), (3, .int i)]) (hc : cells + 8 ≤ 600000) (hs : slots + 256 ≤ 7302250) (h : S_law_22 xs L x mo z f i = some rs) (kk : ∀ (H1 : Heap) (locs1 : List Loc) (ls : Array Slot), xY G rs.1 rs.2 s H1 locs1 → lv_has ls 4 [(0, .ref b), (1, .ref x), (2, .ref mo), (3, .int i)] → W p l e room_1 s m #[Value.ref b] below meth c H1 locs1 (cells + 8) (slots + 256) Q (F0 m 1475 ls [])) : W p l e room_1 s m #[Value.ref b] below meth c H locs cells slots Q (F0 m 1008 ls []) := by
  have hx := X.1.1
  have hb := X.1.2.1
  unfold S_law_22 at h
  refine lv_aload_n hx hb dL_law_1008 rfl (lv_at hl 1 rfl) ?_
  refine lv_aload_n hx hb dL_law_1009 rfl (lv_at hl 0 rfl) ?_
  refine lv_iload_n hx hb dL_law_1010 rfl (lv_at hl 3 rfl) ?_
  refine lv_iconst (v := 1) hx hb dL_law_1011 (by decide) ?_
  refine lv_iadd hx hb dL_law_1012 ?_
  replace h := xb h
  obtain ⟨v1, ev1, h⟩ := h
  refine q_scr X Y hX ev1 dL_law_1013 ?_
  refine lv_aload_n hx hb dL_law_1014 rfl (lv_at hl 0 rfl) ?_
  refine lv_iload_n hx hb dL_law_1015 rfl (lv_at hl 3 rfl) ?_
  refine lv_iconst (v := 2) hx hb dL_law_1016 (by decide) ?_
  refine lv_iadd hx hb dL_law_1017 ?_
  replace h := xb h
  obtain ⟨v2, ev2, h⟩ := h
  refine q_scr X Y hX ev2 dL_law_1018 ?_
  refine lv_aload_n hx hb dL_law_1019 rfl (lv_at hl 0 rfl) ?_
  refine lv_iload_n hx hb dL_law_1020 rfl (lv_at hl 3 rfl) ?_
  refine lv_iconst (v := 3) hx hb dL_law_1021 (by decide) ?_
  refine lv_iadd hx hb dL_law_1022 ?_
  replace h := xb h
  obtain ⟨v3, ev3, h⟩ := h
  refine q_scr X Y hX ev3 dL_law_1023 ?_
  by_cases c4 : hKd f x = some 9
  case neg => exact absurd (Eq.trans (if_neg c4).symm h) (by intro q; cases q)
  replace h := Eq.trans (if_pos c4).symm h
  replace h := xb h
  obtain ⟨q5, eq5, h⟩ := h
  refine q_callV X Y hl.1 (rest := []) (As := [.int v1, .int v2, .int v3]) (c_X10_form l G z f x v1 v2 v3 _ eq5) cd_X10_form lv_L_111_9 c4 ⟨(Nat.le_of_ble_eq_true rfl), (Nat.le_of_ble_eq_true rfl)⟩ ⟨by show cells + 0 ≤ 600000; omega, by show slots + 0 ≤ 7302250; omega⟩ rfl rfl (Nat.le_of_ble_eq_true rfl) dL_law_1024 (fun H locs Y => ?_)
  refine W.widen (k := cells + 0) (n := slots + 0) (by show cells + 0 ≤ cells + 0; omega) (by show slots + 0 ≤ slots + 0; omega) ?_
  refine W.eq (g2 := F0 m 1027 ls [.long q5]) rfl ?_
  refine lv_aload_n hx hb dL_law_1027 rfl (lv_at hl 2 rfl) ?_
  refine lv_aload_n hx hb dL_law_1028 rfl (lv_at hl 0 rfl) ?_
  refine lv_iload_n hx hb dL_law_1029 rfl (lv_at hl 3 rfl) ?_
  refine lv_iconst (v := 1) hx hb dL_law_1030 (by decide) ?_
  refine lv_iadd hx hb dL_law_1031 ?_
  replace h := xb h
  obtain ⟨v6, ev6, h⟩ := h
  refine q_scr X Y hX ev6 dL_law_1032 ?_
  refine lv_aload_n hx hb dL_law_1033 rfl (lv_at hl 0 rfl) ?_
  refine lv_iload_n hx hb dL_law_1034 rfl (lv_at hl 3 rfl) ?_
  refine lv_iconst (v := 2) hx hb dL_law_1035 (by decide) ?_
  refine lv_iadd hx hb dL_law_1036 ?_
  replace h := xb h
  obtain ⟨v7, ev7, h⟩ := h
  refine q_scr X Y hX ev7 dL_law_1037 ?_
  refine lv_aload_n hx hb dL_law_1038 rfl (lv_at hl 0 rfl) ?_
  refine lv_iload_n hx hb dL_law_1039 rfl (lv_at hl 3 rfl) ?_
  refine lv_iconst (v := 3) hx hb dL_law_1040 (by decide) ?_
  refine lv_iadd hx hb dL_law_1041 ?_
  replace h := xb h
  obtain ⟨v8, ev8, h⟩ := h
  refine q_scr X Y hX ev8 dL_law_1042 ?_
  by_cases c9 : hKd f mo = some 10
  case neg => exact absurd (Eq.trans (if_neg c9).symm h) (by intro q; cases q)
  replace h := Eq.trans (if_pos c9).symm h
  replace h := xb h
  obtain ⟨q10, eq10, h⟩ := h
  refine q_callV X Y hl.1 (rest := [.long q5]) (As := [.int v6, .int v7, .int v8]) (c_X11_form l G z f mo v6 v7 v8 _ eq10) cd_X11_form lv_L_114_10 c9 ⟨(Nat.le_of_ble_eq_true rfl), (Nat.le_of_ble_eq_true rfl)⟩ ⟨by show cells + 0 ≤ 600000; omega, by show slots + 0 ≤ 7302250; omega⟩ rfl rfl (Nat.le_of_ble_eq_true rfl) dL_law_1043 (fun H locs Y => ?_)
  refine W.widen (k := cells + 0) (n := slots + 0) (by show cells + 0 + 0 ≤ cells + 0; omega) (by show slots + 0 + 0 ≤ slots + 0; omega) ?_
  refine W.eq (g2 := F0 m 1046 ls [.long q10.1, .long q5]) rfl ?_
  refine q_lcmp_eq (tgt := 1475) hx hb dL_law_1046 dL_law_1047 (by decide) (fun c11 => ?_) (fun c11 => ?_)
  · replace h := Option.some.inj (Eq.trans (if_pos c11).symm h)
    subst h
    refine W.widen (k := cells + 8) (n := slots + 256) (by omega) (by omega) ?_
    exact kk _ _ _ Y hl
  · exact absurd (Eq.trans (if_neg c11).symm h) (by intro q; cases q)
set_option maxRecDepth 100000 in
set_option maxHeartbeats 4000000 in
theorem w_law_23 {p : Program} {l : Launch} {e : Env} {s : State} {m : MethodId} {below : List Frame} {meth : Method} {c : Code} {H : Heap} {locs : List Loc} {cells slots : Nat} {Q : State → Prop} {ls : Array Slot} {G : xG} {z : Nat} {f : xHp} {b L x mo : Nat} {xs : Nat → Int32} {i : Int32} {rs : Nat × xHp} (X : xC G p m c s #[Value.ref b] RL cL_law 4) (hX : xSc G s b L xs) (Y : xY G z f s H locs) (hl : lv_has ls 4 [(0, .ref b), (1, .ref x), (2, .ref mo), (3, .int i)]) (hc : cells + 8 ≤ 600000) (hs : slots + 256 ≤ 7302250) (h : S_law_23 xs L x mo z f i = some rs) (kk : ∀ (H1 : Heap) (locs1 : List Loc) (ls : Array Slot), xY G rs.1 rs.2 s H1 locs1 → lv_has ls 4 [(0, .ref b), (1, .ref x), (2, .ref mo), (3, .int i)] → W p l e room_1 s m #[Value.ref b] below meth c H1 locs1 (cells + 8) (slots + 256) Q (F0 m 1475 ls [])) : W p l e room_1 s m #[Value.ref b] below meth c H locs cells slots Q (F0 m 1052 ls []) := by
  have hx := X.1.1
  have hb := X.1.2.1
  unfold S_law_23 at h
  refine lv_aload_n hx hb dL_law_1052 rfl (lv_at hl 1 rfl) ?_
  refine lv_aload_n hx hb dL_law_1053 rfl (lv_at hl 0 rfl) ?_
  refine lv_iload_n hx hb dL_law_1054 rfl (lv_at hl 3 rfl) ?_
  refine lv_iconst (v := 1) hx hb dL_law_1055 (by decide) ?_
  refine lv_iadd hx hb dL_law_1056 ?_
  replace h := xb h
  obtain ⟨v1, ev1, h⟩ := h
  refine q_scr X Y hX ev1 dL_law_1057 ?_
  by_cases c2 : hKd f x = some 9
  case neg => exact absurd (Eq.trans (if_neg c2).symm h) (by intro q; cases q)
  replace h := Eq.trans (if_pos c2).symm h
  replace h := xb h
  obtain ⟨q3, eq3, h⟩ := h
  refine q_callV X Y hl.1 (rest := []) (As := [.int v1]) (c_X10_squares l G z f x v1 _ eq3) cd_X10_squares lv_L_115_9 c2 ⟨(Nat.le_of_ble_eq_true rfl), (Nat.le_of_ble_eq_true rfl)⟩ ⟨by show cells + 4 ≤ 600000; omega, by show slots + 52 ≤ 7302250; omega⟩ rfl rfl (Nat.le_of_ble_eq_true rfl) dL_law_1058 (fun H locs Y => ?_)
  refine W.widen (k := cells + 4) (n := slots + 52) (by show cells + 4 ≤ cells + 4; omega) (by show slots + 52 ≤ slots + 52; omega) ?_
  refine W.eq (g2 := F0 m 1061 ls [.int q3.1]) rfl ?_
  refine lv_aload_n hx hb dL_law_1061 rfl (lv_at hl 2 rfl) ?_
  refine lv_aload_n hx hb dL_law_1062 rfl (lv_at hl 0 rfl) ?_
  refine lv_iload_n hx hb dL_law_1063 rfl (lv_at hl 3 rfl) ?_
  refine lv_iconst (v := 1) hx hb dL_law_1064 (by decide) ?_
  refine lv_iadd hx hb dL_law_1065 ?_
  replace h := xb h
  obtain ⟨v4, ev4, h⟩ := h
  refine q_scr X Y hX ev4 dL_law_1066 ?_
  by_cases c5 : hKd q3.2.2 mo = some 10
  case neg => exact absurd (Eq.trans (if_neg c5).symm h) (by intro q; cases q)
  replace h := Eq.trans (if_pos c5).symm h
  replace h := xb h
  obtain ⟨q6, eq6, h⟩ := h
  refine q_callV X Y hl.1 (rest := [.int q3.1]) (As := [.int v4]) (c_X11_squares l G q3.2.1 q3.2.2 mo v4 _ eq6) cd_X11_squares lv_L_118_10 c5 ⟨(Nat.le_of_ble_eq_true rfl), (Nat.le_of_ble_eq_true rfl)⟩ ⟨by show cells + 4 + 0 ≤ 600000; omega, by show slots + 52 + 0 ≤ 7302250; omega⟩ rfl rfl (Nat.le_of_ble_eq_true rfl) dL_law_1067 (fun H locs Y => ?_)
  refine W.widen (k := cells + 4) (n := slots + 52) (by show cells + 4 + 0 ≤ cells + 4; omega) (by show slots + 52 + 0 ≤ slots + 52; omega) ?_
  refine W.eq (g2 := F0 m 1070 ls [.int q6.1, .int q3.1]) rfl ?_
  refine lv_icmp_eq (tgt := 1475) hx hb dL_law_1070 (by decide) (fun c7 => ?_) (fun c7 => ?_)
  · replace h := Option.some.inj (Eq.trans (if_pos c7).symm h)
    subst h
    refine W.widen (k := cells + 8) (n := slots + 256) (by omega) (by omega) ?_
    exact kk _ _ _ Y hl
  · exact absurd (Eq.trans (if_neg c7).symm h) (by intro q; cases q)
set_option maxRecDepth 100000 in
set_option maxHeartbeats 4000000 in
theorem w_law_24 {p : Program} {l : Launch} {e : Env} {s : State} {m : MethodId} {below : List Frame} {meth : Method} {c : Code} {H : Heap} {locs : List Loc} {cells slots : Nat} {Q : State → Prop} {ls : Array Slot} {G : xG} {z : Nat} {f : xHp} {b L x mo : Nat} {xs : Nat → Int32} {i : Int32} {rs : Nat × xHp} (X : xC G p m c s #[Value.ref b] RL cL_law 4) (hX : xSc G s b L xs) (Y : xY G z f s H locs) (hl : lv_has ls 4 [(0, .ref b), (1, .ref x), (2, .ref mo), (3, .int i)]) (hc : cells + 8 ≤ 600000) (hs : slots + 256 ≤ 7302250) (h : S_law_24 xs L x mo z f i = some rs) (kk : ∀ (H1 : Heap) (locs1 : List Loc) (ls : Array Slot), xY G rs.1 rs.2 s H1 locs1 → lv_has ls 4 [(0, .ref b), (1, .ref x), (2, .ref mo), (3, .int i)] → W p l e room_1 s m #[Value.ref b] below meth c H1 locs1 (cells + 8) (slots + 256) Q (F0 m 1475 ls [])) : W p l e room_1 s m #[Value.ref b] below meth c H locs cells slots Q (F0 m 1075 ls []) := by
  have hx := X.1.1
  have hb := X.1.2.1
  unfold S_law_24 at h
  refine lv_aload_n hx hb dL_law_1075 rfl (lv_at hl 1 rfl) ?_
  refine lv_aload_n hx hb dL_law_1076 rfl (lv_at hl 0 rfl) ?_
  refine lv_iload_n hx hb dL_law_1077 rfl (lv_at hl 3 rfl) ?_
  refine lv_iconst (v := 1) hx hb dL_law_1078 (by decide) ?_
  refine lv_iadd hx hb dL_law_1079 ?_
  replace h := xb h
  obtain ⟨v1, ev1, h⟩ := h
  refine q_scr X Y hX ev1 dL_law_1080 ?_
  refine lv_aload_n hx hb dL_law_1081 rfl (lv_at hl 0 rfl) ?_
  refine lv_iload_n hx hb dL_law_1082 rfl (lv_at hl 3 rfl) ?_
  refine lv_iconst (v := 2) hx hb dL_law_1083 (by decide) ?_
  refine lv_iadd hx hb dL_law_1084 ?_
  replace h := xb h
  obtain ⟨v2, ev2, h⟩ := h
  refine q_scr X Y hX ev2 dL_law_1085 ?_
  by_cases c3 : hKd f x = some 9
  case neg => exact absurd (Eq.trans (if_neg c3).symm h) (by intro q; cases q)
  replace h := Eq.trans (if_pos c3).symm h
  replace h := xb h
  obtain ⟨q4, eq4, h⟩ := h
  refine q_callV X Y hl.1 (rest := []) (As := [.int v1, .int v2]) (c_X10_corners l G z f x v1 v2 _ eq4) cd_X10_corners lv_L_119_9 c3 ⟨(Nat.le_of_ble_eq_true rfl), (Nat.le_of_ble_eq_true rfl)⟩ ⟨by show cells + 3 ≤ 600000; omega, by show slots + 38 ≤ 7302250; omega⟩ rfl rfl (Nat.le_of_ble_eq_true rfl) dL_law_1086 (fun H locs Y => ?_)
  refine W.widen (k := cells + 3) (n := slots + 38) (by show cells + 3 ≤ cells + 3; omega) (by show slots + 38 ≤ slots + 38; omega) ?_
  refine W.eq (g2 := F0 m 1089 ls [.int q4.1]) rfl ?_
  refine lv_aload_n hx hb dL_law_1089 rfl (lv_at hl 2 rfl) ?_
  refine lv_aload_n hx hb dL_law_1090 rfl (lv_at hl 0 rfl) ?_
  refine lv_iload_n hx hb dL_law_1091 rfl (lv_at hl 3 rfl) ?_
  refine lv_iconst (v := 1) hx hb dL_law_1092 (by decide) ?_
  refine lv_iadd hx hb dL_law_1093 ?_
  replace h := xb h
  obtain ⟨v5, ev5, h⟩ := h
  refine q_scr X Y hX ev5 dL_law_1094 ?_
  refine lv_aload_n hx hb dL_law_1095 rfl (lv_at hl 0 rfl) ?_
  refine lv_iload_n hx hb dL_law_1096 rfl (lv_at hl 3 rfl) ?_
  refine lv_iconst (v := 2) hx hb dL_law_1097 (by decide) ?_
  refine lv_iadd hx hb dL_law_1098 ?_
  replace h := xb h
  obtain ⟨v6, ev6, h⟩ := h
  refine q_scr X Y hX ev6 dL_law_1099 ?_
  by_cases c7 : hKd q4.2.2 mo = some 10
  case neg => exact absurd (Eq.trans (if_neg c7).symm h) (by intro q; cases q)
  replace h := Eq.trans (if_pos c7).symm h
  replace h := xb h
  obtain ⟨q8, eq8, h⟩ := h
  refine q_callV X Y hl.1 (rest := [.int q4.1]) (As := [.int v5, .int v6]) (c_X11_corners l G q4.2.1 q4.2.2 mo v5 v6 _ eq8) cd_X11_corners lv_L_122_10 c7 ⟨(Nat.le_of_ble_eq_true rfl), (Nat.le_of_ble_eq_true rfl)⟩ ⟨by show cells + 3 + 0 ≤ 600000; omega, by show slots + 38 + 0 ≤ 7302250; omega⟩ rfl rfl (Nat.le_of_ble_eq_true rfl) dL_law_1100 (fun H locs Y => ?_)
  refine W.widen (k := cells + 3) (n := slots + 38) (by show cells + 3 + 0 ≤ cells + 3; omega) (by show slots + 38 + 0 ≤ slots + 38; omega) ?_
  refine W.eq (g2 := F0 m 1103 ls [.int q8.1, .int q4.1]) rfl ?_
  refine lv_icmp_eq (tgt := 1475) hx hb dL_law_1103 (by decide) (fun c9 => ?_) (fun c9 => ?_)
  · replace h := Option.some.inj (Eq.trans (if_pos c9).symm h)
    subst h
    refine W.widen (k := cells + 8) (n := slots + 256) (by omega) (by omega) ?_
    exact kk _ _ _ Y hl
  · exact absurd (Eq.trans (if_neg c9).symm h) (by intro q; cases q)
set_option maxRecDepth 100000 in
set_option maxHeartbeats 4000000 in
theorem w_law_25 {p : Program} {l : Launch} {e : Env} {s : State} {m : MethodId} {below : List Frame} {meth : Method} {c : Code} {H : Heap} {locs : List Loc} {cells slots : Nat} {Q : State → Prop} {ls : Array Slot} {G : xG} {z : Nat} {f : xHp} {b L x mo : Nat} {xs : Nat → Int32} {i : Int32} {rs : Nat × xHp} (X : xC G p m c s #[Value.ref b] RL cL_law 4) (hX : xSc G s b L xs) (Y : xY G z f s H locs) (hl : lv_has ls 4 [(0, .ref b), (1, .ref x), (2, .ref mo), (3, .int i)]) (hc : cells + 8 ≤ 600000) (hs : slots + 256 ≤ 7302250) (h : S_law_25 xs L x mo z f i = some rs) (kk : ∀ (H1 : Heap) (locs1 : List Loc) (ls : Array Slot), xY G rs.1 rs.2 s H1 locs1 → lv_has ls 4 [(0, .ref b), (1, .ref x), (2, .ref mo), (3, .int i)] → W p l e room_1 s m #[Value.ref b] below meth c H1 locs1 (cells + 8) (slots + 256) Q (F0 m 1475 ls [])) : W p l e room_1 s m #[Value.ref b] below meth c H locs cells slots Q (F0 m 1108 ls []) := by
  have hx := X.1.1
  have hb := X.1.2.1
  unfold S_law_25 at h
  refine lv_aload_n hx hb dL_law_1108 rfl (lv_at hl 1 rfl) ?_
  by_cases c1 : hKd f x = some 9
  case neg => exact absurd (Eq.trans (if_neg c1).symm h) (by intro q; cases q)
  replace h := Eq.trans (if_pos c1).symm h
  replace h := xb h
  obtain ⟨q2, eq2, h⟩ := h
  refine q_callV X Y hl.1 (rest := []) (As := []) (c_X10_proved l G z f x _ eq2) cd_X10_proved lv_L_123_9 c1 ⟨(Nat.le_of_ble_eq_true rfl), (Nat.le_of_ble_eq_true rfl)⟩ ⟨by show cells + 3 ≤ 600000; omega, by show slots + 174 ≤ 7302250; omega⟩ rfl rfl (Nat.le_of_ble_eq_true rfl) dL_law_1109 (fun H locs Y => ?_)
  refine W.widen (k := cells + 3) (n := slots + 174) (by show cells + 3 ≤ cells + 3; omega) (by show slots + 174 ≤ slots + 174; omega) ?_
  refine W.eq (g2 := F0 m 1112 ls [.int q2.1]) rfl ?_
  refine lv_aload_n hx hb dL_law_1112 rfl (lv_at hl 2 rfl) ?_
  by_cases c3 : hKd q2.2.2 mo = some 10
  case neg => exact absurd (Eq.trans (if_neg c3).symm h) (by intro q; cases q)
  replace h := Eq.trans (if_pos c3).symm h
  replace h := xb h
  obtain ⟨q4, eq4, h⟩ := h
  refine q_callV X Y hl.1 (rest := [.int q2.1]) (As := []) (c_X11_proved l G q2.2.1 q2.2.2 mo _ eq4) cd_X11_proved lv_L_127_10 c3 ⟨(Nat.le_of_ble_eq_true rfl), (Nat.le_of_ble_eq_true rfl)⟩ ⟨by show cells + 3 + 0 ≤ 600000; omega, by show slots + 174 + 0 ≤ 7302250; omega⟩ rfl rfl (Nat.le_of_ble_eq_true rfl) dL_law_1113 (fun H locs Y => ?_)
  refine W.widen (k := cells + 3) (n := slots + 174) (by show cells + 3 + 0 ≤ cells + 3; omega) (by show slots + 174 + 0 ≤ slots + 174; omega) ?_
  refine W.eq (g2 := F0 m 1116 ls [.int q4.1, .int q2.1]) rfl ?_
  refine lv_icmp_eq (tgt := 1475) hx hb dL_law_1116 (by decide) (fun c5 => ?_) (fun c5 => ?_)
  · replace h := Option.some.inj (Eq.trans (if_pos c5).symm h)
    subst h
    refine W.widen (k := cells + 8) (n := slots + 256) (by omega) (by omega) ?_
    exact kk _ _ _ Y hl
  · exact absurd (Eq.trans (if_neg c5).symm h) (by intro q; cases q)
set_option maxRecDepth 100000 in
set_option maxHeartbeats 4000000 in
theorem w_law_26 {p : Program} {l : Launch} {e : Env} {s : State} {m : MethodId} {below : List Frame} {meth : Method} {c : Code} {H : Heap} {locs : List Loc} {cells slots : Nat} {Q : State → Prop} {ls : Array Slot} {G : xG} {z : Nat} {f : xHp} {b L x mo : Nat} {xs : Nat → Int32} {i : Int32} {rs : Nat × xHp} (X : xC G p m c s #[Value.ref b] RL cL_law 4) (hX : xSc G s b L xs) (Y : xY G z f s H locs) (hl : lv_has ls 4 [(0, .ref b), (1, .ref x), (2, .ref mo), (3, .int i)]) (hc : cells + 8 ≤ 600000) (hs : slots + 256 ≤ 7302250) (h : S_law_26 xs L x mo z f i = some rs) (kk : ∀ (H1 : Heap) (locs1 : List Loc) (ls : Array Slot), xY G rs.1 rs.2 s H1 locs1 → lv_has ls 4 [(0, .ref b), (1, .ref x), (2, .ref mo), (3, .int i)] → W p l e room_1 s m #[Value.ref b] below meth c H1 locs1 (cells + 8) (slots + 256) Q (F0 m 1475 ls [])) : W p l e room_1 s m #[Value.ref b] below meth c H locs cells slots Q (F0 m 1121 ls []) := by
  have hx := X.1.1
  have hb := X.1.2.1
  unfold S_law_26 at h
  refine lv_aload_n hx hb dL_law_1121 rfl (lv_at hl 1 rfl) ?_
  refine lv_aload_n hx hb dL_law_1122 rfl (lv_at hl 0 rfl) ?_
  refine lv_iload_n hx hb dL_law_1123 rfl (lv_at hl 3 rfl) ?_
  refine lv_iconst (v := 1) hx hb dL_law_1124 (by decide) ?_
  refine lv_iadd hx hb dL_law_1125 ?_
  replace h := xb h
  obtain ⟨v1, ev1, h⟩ := h
  refine q_scr X Y hX ev1 dL_law_1126 ?_
  refine lv_aload_n hx hb dL_law_1127 rfl (lv_at hl 0 rfl) ?_
  refine lv_iload_n hx hb dL_law_1128 rfl (lv_at hl 3 rfl) ?_
  refine lv_iconst (v := 2) hx hb dL_law_1129 (by decide) ?_
  refine lv_iadd hx hb dL_law_1130 ?_
  replace h := xb h
  obtain ⟨v2, ev2, h⟩ := h
  refine q_scr X Y hX ev2 dL_law_1131 ?_
  refine lv_aload_n hx hb dL_law_1132 rfl (lv_at hl 0 rfl) ?_
  refine lv_iload_n hx hb dL_law_1133 rfl (lv_at hl 3 rfl) ?_
  refine lv_iconst (v := 3) hx hb dL_law_1134 (by decide) ?_
  refine lv_iadd hx hb dL_law_1135 ?_
  replace h := xb h
  obtain ⟨v3, ev3, h⟩ := h
  refine q_scr X Y hX ev3 dL_law_1136 ?_
  refine lv_aload_n hx hb dL_law_1137 rfl (lv_at hl 0 rfl) ?_
  refine lv_iload_n hx hb dL_law_1138 rfl (lv_at hl 3 rfl) ?_
  refine lv_iconst (v := 4) hx hb dL_law_1139 (by decide) ?_
  refine lv_iadd hx hb dL_law_1140 ?_
  replace h := xb h
  obtain ⟨v4, ev4, h⟩ := h
  refine q_scr X Y hX ev4 dL_law_1141 ?_
  refine lv_aload_n hx hb dL_law_1142 rfl (lv_at hl 0 rfl) ?_
  refine lv_iload_n hx hb dL_law_1143 rfl (lv_at hl 3 rfl) ?_
  refine lv_iconst (v := 5) hx hb dL_law_1144 (by decide) ?_
  refine lv_iadd hx hb dL_law_1145 ?_
  replace h := xb h
  obtain ⟨v5, ev5, h⟩ := h
  refine q_scr X Y hX ev5 dL_law_1146 ?_
  by_cases c6 : hKd f x = some 9
  case neg => exact absurd (Eq.trans (if_neg c6).symm h) (by intro q; cases q)
  replace h := Eq.trans (if_pos c6).symm h
  replace h := xb h
  obtain ⟨q7, eq7, h⟩ := h
  refine q_callV X Y hl.1 (rest := []) (As := [.int v1, .int v2, .int v3, .int v4, .int v5]) (c_X10_span l G z f x v1 v2 v3 v4 v5 _ eq7) cd_X10_span lv_L_128_9 c6 ⟨(Nat.le_of_ble_eq_true rfl), (Nat.le_of_ble_eq_true rfl)⟩ ⟨by show cells + 6 ≤ 600000; omega, by show slots + 77 ≤ 7302250; omega⟩ rfl rfl (Nat.le_of_ble_eq_true rfl) dL_law_1147 (fun H locs Y => ?_)
  refine W.widen (k := cells + 6) (n := slots + 77) (by show cells + 6 ≤ cells + 6; omega) (by show slots + 77 ≤ slots + 77; omega) ?_
  refine W.eq (g2 := F0 m 1150 ls [.int q7.1]) rfl ?_
  refine lv_aload_n hx hb dL_law_1150 rfl (lv_at hl 2 rfl) ?_
  refine lv_aload_n hx hb dL_law_1151 rfl (lv_at hl 0 rfl) ?_
  refine lv_iload_n hx hb dL_law_1152 rfl (lv_at hl 3 rfl) ?_
  refine lv_iconst (v := 1) hx hb dL_law_1153 (by decide) ?_
  refine lv_iadd hx hb dL_law_1154 ?_
  replace h := xb h
  obtain ⟨v8, ev8, h⟩ := h
  refine q_scr X Y hX ev8 dL_law_1155 ?_
  refine lv_aload_n hx hb dL_law_1156 rfl (lv_at hl 0 rfl) ?_
  refine lv_iload_n hx hb dL_law_1157 rfl (lv_at hl 3 rfl) ?_
  refine lv_iconst (v := 2) hx hb dL_law_1158 (by decide) ?_
  refine lv_iadd hx hb dL_law_1159 ?_
  replace h := xb h
  obtain ⟨v9, ev9, h⟩ := h
  refine q_scr X Y hX ev9 dL_law_1160 ?_
  refine lv_aload_n hx hb dL_law_1161 rfl (lv_at hl 0 rfl) ?_
  refine lv_iload_n hx hb dL_law_1162 rfl (lv_at hl 3 rfl) ?_
  refine lv_iconst (v := 3) hx hb dL_law_1163 (by decide) ?_
  refine lv_iadd hx hb dL_law_1164 ?_
  replace h := xb h
  obtain ⟨v10, ev10, h⟩ := h
  refine q_scr X Y hX ev10 dL_law_1165 ?_
  refine lv_aload_n hx hb dL_law_1166 rfl (lv_at hl 0 rfl) ?_
  refine lv_iload_n hx hb dL_law_1167 rfl (lv_at hl 3 rfl) ?_
  refine lv_iconst (v := 4) hx hb dL_law_1168 (by decide) ?_
  refine lv_iadd hx hb dL_law_1169 ?_
  replace h := xb h
  obtain ⟨v11, ev11, h⟩ := h
  refine q_scr X Y hX ev11 dL_law_1170 ?_
  refine lv_aload_n hx hb dL_law_1171 rfl (lv_at hl 0 rfl) ?_
  refine lv_iload_n hx hb dL_law_1172 rfl (lv_at hl 3 rfl) ?_
  refine lv_iconst (v := 5) hx hb dL_law_1173 (by decide) ?_
  refine lv_iadd hx hb dL_law_1174 ?_
  replace h := xb h
  obtain ⟨v12, ev12, h⟩ := h
  refine q_scr X Y hX ev12 dL_law_1175 ?_
  by_cases c13 : hKd q7.2.2 mo = some 10
  case neg => exact absurd (Eq.trans (if_neg c13).symm h) (by intro q; cases q)
  replace h := Eq.trans (if_pos c13).symm h
  replace h := xb h
  obtain ⟨q14, eq14, h⟩ := h
  refine q_callV X Y hl.1 (rest := [.int q7.1]) (As := [.int v8, .int v9, .int v10, .int v11, .int v12]) (c_X11_span l G q7.2.1 q7.2.2 mo v8 v9 v10 v11 v12 _ eq14) cd_X11_span lv_L_132_10 c13 ⟨(Nat.le_of_ble_eq_true rfl), (Nat.le_of_ble_eq_true rfl)⟩ ⟨by show cells + 6 + 0 ≤ 600000; omega, by show slots + 77 + 0 ≤ 7302250; omega⟩ rfl rfl (Nat.le_of_ble_eq_true rfl) dL_law_1176 (fun H locs Y => ?_)
  refine W.widen (k := cells + 6) (n := slots + 77) (by show cells + 6 + 0 ≤ cells + 6; omega) (by show slots + 77 + 0 ≤ slots + 77; omega) ?_
  refine W.eq (g2 := F0 m 1179 ls [.int q14.1, .int q7.1]) rfl ?_
  refine lv_icmp_eq (tgt := 1475) hx hb dL_law_1179 (by decide) (fun c15 => ?_) (fun c15 => ?_)
  · replace h := Option.some.inj (Eq.trans (if_pos c15).symm h)
    subst h
    refine W.widen (k := cells + 8) (n := slots + 256) (by omega) (by omega) ?_
    exact kk _ _ _ Y hl
  · exact absurd (Eq.trans (if_neg c15).symm h) (by intro q; cases q)
set_option maxRecDepth 100000 in
set_option maxHeartbeats 4000000 in
theorem w_law_27 {p : Program} {l : Launch} {e : Env} {s : State} {m : MethodId} {below : List Frame} {meth : Method} {c : Code} {H : Heap} {locs : List Loc} {cells slots : Nat} {Q : State → Prop} {ls : Array Slot} {G : xG} {z : Nat} {f : xHp} {b L x mo : Nat} {xs : Nat → Int32} {i : Int32} {rs : Nat × xHp} (X : xC G p m c s #[Value.ref b] RL cL_law 4) (hX : xSc G s b L xs) (Y : xY G z f s H locs) (hl : lv_has ls 4 [(0, .ref b), (1, .ref x), (2, .ref mo), (3, .int i)]) (hc : cells + 8 ≤ 600000) (hs : slots + 256 ≤ 7302250) (h : S_law_27 xs L x mo z f i = some rs) (kk : ∀ (H1 : Heap) (locs1 : List Loc) (ls : Array Slot), xY G rs.1 rs.2 s H1 locs1 → lv_has ls 4 [(0, .ref b), (1, .ref x), (2, .ref mo), (3, .int i)] → W p l e room_1 s m #[Value.ref b] below meth c H1 locs1 (cells + 8) (slots + 256) Q (F0 m 1475 ls [])) : W p l e room_1 s m #[Value.ref b] below meth c H locs cells slots Q (F0 m 1184 ls []) := by
  have hx := X.1.1
  have hb := X.1.2.1
  unfold S_law_27 at h
  refine lv_aload_n hx hb dL_law_1184 rfl (lv_at hl 1 rfl) ?_
  refine lv_aload_n hx hb dL_law_1185 rfl (lv_at hl 0 rfl) ?_
  refine lv_iload_n hx hb dL_law_1186 rfl (lv_at hl 3 rfl) ?_
  refine lv_iconst (v := 1) hx hb dL_law_1187 (by decide) ?_
  refine lv_iadd hx hb dL_law_1188 ?_
  replace h := xb h
  obtain ⟨v1, ev1, h⟩ := h
  refine q_scr X Y hX ev1 dL_law_1189 ?_
  refine lv_aload_n hx hb dL_law_1190 rfl (lv_at hl 0 rfl) ?_
  refine lv_iload_n hx hb dL_law_1191 rfl (lv_at hl 3 rfl) ?_
  refine lv_iconst (v := 2) hx hb dL_law_1192 (by decide) ?_
  refine lv_iadd hx hb dL_law_1193 ?_
  replace h := xb h
  obtain ⟨v2, ev2, h⟩ := h
  refine q_scr X Y hX ev2 dL_law_1194 ?_
  by_cases c3 : hKd f x = some 9
  case neg => exact absurd (Eq.trans (if_neg c3).symm h) (by intro q; cases q)
  replace h := Eq.trans (if_pos c3).symm h
  replace h := xb h
  obtain ⟨q4, eq4, h⟩ := h
  refine q_callV X Y hl.1 (rest := []) (As := [.int v1, .int v2]) (c_X10_proof l G z f x v1 v2 _ eq4) cd_X10_proof lv_L_133_9 c3 ⟨(Nat.le_of_ble_eq_true rfl), (Nat.le_of_ble_eq_true rfl)⟩ ⟨by show cells + 0 ≤ 600000; omega, by show slots + 0 ≤ 7302250; omega⟩ rfl rfl (Nat.le_of_ble_eq_true rfl) dL_law_1195 (fun H locs Y => ?_)
  refine W.widen (k := cells + 0) (n := slots + 0) (by show cells + 0 ≤ cells + 0; omega) (by show slots + 0 ≤ slots + 0; omega) ?_
  refine W.eq (g2 := F0 m 1198 ls [.int q4]) rfl ?_
  refine lv_aload_n hx hb dL_law_1198 rfl (lv_at hl 2 rfl) ?_
  refine lv_aload_n hx hb dL_law_1199 rfl (lv_at hl 0 rfl) ?_
  refine lv_iload_n hx hb dL_law_1200 rfl (lv_at hl 3 rfl) ?_
  refine lv_iconst (v := 1) hx hb dL_law_1201 (by decide) ?_
  refine lv_iadd hx hb dL_law_1202 ?_
  replace h := xb h
  obtain ⟨v5, ev5, h⟩ := h
  refine q_scr X Y hX ev5 dL_law_1203 ?_
  refine lv_aload_n hx hb dL_law_1204 rfl (lv_at hl 0 rfl) ?_
  refine lv_iload_n hx hb dL_law_1205 rfl (lv_at hl 3 rfl) ?_
  refine lv_iconst (v := 2) hx hb dL_law_1206 (by decide) ?_
  refine lv_iadd hx hb dL_law_1207 ?_
  replace h := xb h
  obtain ⟨v6, ev6, h⟩ := h
  refine q_scr X Y hX ev6 dL_law_1208 ?_
  by_cases c7 : hKd f mo = some 10
  case neg => exact absurd (Eq.trans (if_neg c7).symm h) (by intro q; cases q)
  replace h := Eq.trans (if_pos c7).symm h
  replace h := xb h
  obtain ⟨q8, eq8, h⟩ := h
  refine q_callV X Y hl.1 (rest := [.int q4]) (As := [.int v5, .int v6]) (c_X11_proof l G z f mo v5 v6 _ eq8) cd_X11_proof lv_L_136_10 c7 ⟨(Nat.le_of_ble_eq_true rfl), (Nat.le_of_ble_eq_true rfl)⟩ ⟨by show cells + 0 ≤ 600000; omega, by show slots + 0 ≤ 7302250; omega⟩ rfl rfl (Nat.le_of_ble_eq_true rfl) dL_law_1209 (fun H locs Y => ?_)
  refine W.widen (k := cells + 0) (n := slots + 0) (by show cells + 0 + 0 ≤ cells + 0; omega) (by show slots + 0 + 0 ≤ slots + 0; omega) ?_
  refine W.eq (g2 := F0 m 1212 ls [.int q8, .int q4]) rfl ?_
  refine lv_icmp_eq (tgt := 1475) hx hb dL_law_1212 (by decide) (fun c9 => ?_) (fun c9 => ?_)
  · replace h := Option.some.inj (Eq.trans (if_pos c9).symm h)
    subst h
    refine W.widen (k := cells + 8) (n := slots + 256) (by omega) (by omega) ?_
    exact kk _ _ _ Y hl
  · exact absurd (Eq.trans (if_neg c9).symm h) (by intro q; cases q)
set_option maxRecDepth 100000 in
set_option maxHeartbeats 4000000 in
theorem w_law_28 {p : Program} {l : Launch} {e : Env} {s : State} {m : MethodId} {below : List Frame} {meth : Method} {c : Code} {H : Heap} {locs : List Loc} {cells slots : Nat} {Q : State → Prop} {ls : Array Slot} {G : xG} {z : Nat} {f : xHp} {b L x mo : Nat} {xs : Nat → Int32} {i : Int32} {rs : Nat × xHp} (X : xC G p m c s #[Value.ref b] RL cL_law 4) (hX : xSc G s b L xs) (Y : xY G z f s H locs) (hl : lv_has ls 4 [(0, .ref b), (1, .ref x), (2, .ref mo), (3, .int i)]) (hc : cells + 8 ≤ 600000) (hs : slots + 256 ≤ 7302250) (h : S_law_28 xs L x mo z f i = some rs) (kk : ∀ (H1 : Heap) (locs1 : List Loc) (ls : Array Slot), xY G rs.1 rs.2 s H1 locs1 → lv_has ls 4 [(0, .ref b), (1, .ref x), (2, .ref mo), (3, .int i)] → W p l e room_1 s m #[Value.ref b] below meth c H1 locs1 (cells + 8) (slots + 256) Q (F0 m 1475 ls [])) : W p l e room_1 s m #[Value.ref b] below meth c H locs cells slots Q (F0 m 1217 ls []) := by
  have hx := X.1.1
  have hb := X.1.2.1
  unfold S_law_28 at h
  refine lv_aload_n hx hb dL_law_1217 rfl (lv_at hl 1 rfl) ?_
  refine lv_aload_n hx hb dL_law_1218 rfl (lv_at hl 0 rfl) ?_
  refine lv_iload_n hx hb dL_law_1219 rfl (lv_at hl 3 rfl) ?_
  refine lv_iconst (v := 1) hx hb dL_law_1220 (by decide) ?_
  refine lv_iadd hx hb dL_law_1221 ?_
  replace h := xb h
  obtain ⟨v1, ev1, h⟩ := h
  refine q_scr X Y hX ev1 dL_law_1222 ?_
  refine lv_aload_n hx hb dL_law_1223 rfl (lv_at hl 0 rfl) ?_
  refine lv_iload_n hx hb dL_law_1224 rfl (lv_at hl 3 rfl) ?_
  refine lv_iconst (v := 2) hx hb dL_law_1225 (by decide) ?_
  refine lv_iadd hx hb dL_law_1226 ?_
  replace h := xb h
  obtain ⟨v2, ev2, h⟩ := h
  refine q_scr X Y hX ev2 dL_law_1227 ?_
  by_cases c3 : hKd f x = some 9
  case neg => exact absurd (Eq.trans (if_neg c3).symm h) (by intro q; cases q)
  replace h := Eq.trans (if_pos c3).symm h
  replace h := xb h
  obtain ⟨q4, eq4, h⟩ := h
  refine q_callV X Y hl.1 (rest := []) (As := [.int v1, .int v2]) (c_X10_number l G z f x v1 v2 _ eq4) cd_X10_number lv_L_137_9 c3 ⟨(Nat.le_of_ble_eq_true rfl), (Nat.le_of_ble_eq_true rfl)⟩ ⟨by show cells + 0 ≤ 600000; omega, by show slots + 0 ≤ 7302250; omega⟩ rfl rfl (Nat.le_of_ble_eq_true rfl) dL_law_1228 (fun H locs Y => ?_)
  refine W.widen (k := cells + 0) (n := slots + 0) (by show cells + 0 ≤ cells + 0; omega) (by show slots + 0 ≤ slots + 0; omega) ?_
  refine W.eq (g2 := F0 m 1231 ls [.long q4]) rfl ?_
  refine lv_aload_n hx hb dL_law_1231 rfl (lv_at hl 2 rfl) ?_
  refine lv_aload_n hx hb dL_law_1232 rfl (lv_at hl 0 rfl) ?_
  refine lv_iload_n hx hb dL_law_1233 rfl (lv_at hl 3 rfl) ?_
  refine lv_iconst (v := 1) hx hb dL_law_1234 (by decide) ?_
  refine lv_iadd hx hb dL_law_1235 ?_
  replace h := xb h
  obtain ⟨v5, ev5, h⟩ := h
  refine q_scr X Y hX ev5 dL_law_1236 ?_
  refine lv_aload_n hx hb dL_law_1237 rfl (lv_at hl 0 rfl) ?_
  refine lv_iload_n hx hb dL_law_1238 rfl (lv_at hl 3 rfl) ?_
  refine lv_iconst (v := 2) hx hb dL_law_1239 (by decide) ?_
  refine lv_iadd hx hb dL_law_1240 ?_
  replace h := xb h
  obtain ⟨v6, ev6, h⟩ := h
  refine q_scr X Y hX ev6 dL_law_1241 ?_
  by_cases c7 : hKd f mo = some 10
  case neg => exact absurd (Eq.trans (if_neg c7).symm h) (by intro q; cases q)
  replace h := Eq.trans (if_pos c7).symm h
  replace h := xb h
  obtain ⟨q8, eq8, h⟩ := h
  refine q_callV X Y hl.1 (rest := [.long q4]) (As := [.int v5, .int v6]) (c_X11_number l G z f mo v5 v6 _ eq8) cd_X11_number lv_L_140_10 c7 ⟨(Nat.le_of_ble_eq_true rfl), (Nat.le_of_ble_eq_true rfl)⟩ ⟨by show cells + 0 ≤ 600000; omega, by show slots + 0 ≤ 7302250; omega⟩ rfl rfl (Nat.le_of_ble_eq_true rfl) dL_law_1242 (fun H locs Y => ?_)
  refine W.widen (k := cells + 0) (n := slots + 0) (by show cells + 0 + 0 ≤ cells + 0; omega) (by show slots + 0 + 0 ≤ slots + 0; omega) ?_
  refine W.eq (g2 := F0 m 1245 ls [.long q8, .long q4]) rfl ?_
  refine q_lcmp_eq (tgt := 1475) hx hb dL_law_1245 dL_law_1246 (by decide) (fun c9 => ?_) (fun c9 => ?_)
  · replace h := Option.some.inj (Eq.trans (if_pos c9).symm h)
    subst h
    refine W.widen (k := cells + 8) (n := slots + 256) (by omega) (by omega) ?_
    exact kk _ _ _ Y hl
  · exact absurd (Eq.trans (if_neg c9).symm h) (by intro q; cases q)
set_option maxRecDepth 100000 in
set_option maxHeartbeats 4000000 in
theorem w_law_29 {p : Program} {l : Launch} {e : Env} {s : State} {m : MethodId} {below : List Frame} {meth : Method} {c : Code} {H : Heap} {locs : List Loc} {cells slots : Nat} {Q : State → Prop} {ls : Array Slot} {G : xG} {z : Nat} {f : xHp} {b L x mo : Nat} {xs : Nat → Int32} {i : Int32} {rs : Nat × xHp} (X : xC G p m c s #[Value.ref b] RL cL_law 4) (hX : xSc G s b L xs) (Y : xY G z f s H locs) (hl : lv_has ls 4 [(0, .ref b), (1, .ref x), (2, .ref mo), (3, .int i)]) (hc : cells + 8 ≤ 600000) (hs : slots + 256 ≤ 7302250) (h : S_law_29 xs L x mo z f i = some rs) (kk : ∀ (H1 : Heap) (locs1 : List Loc) (ls : Array Slot), xY G rs.1 rs.2 s H1 locs1 → lv_has ls 4 [(0, .ref b), (1, .ref x), (2, .ref mo), (3, .int i)] → W p l e room_1 s m #[Value.ref b] below meth c H1 locs1 (cells + 8) (slots + 256) Q (F0 m 1475 ls [])) : W p l e room_1 s m #[Value.ref b] below meth c H locs cells slots Q (F0 m 1251 ls []) := by
  have hx := X.1.1
  have hb := X.1.2.1
  unfold S_law_29 at h
  refine lv_aload_n hx hb dL_law_1251 rfl (lv_at hl 1 rfl) ?_
  refine lv_aload_n hx hb dL_law_1252 rfl (lv_at hl 0 rfl) ?_
  refine lv_iload_n hx hb dL_law_1253 rfl (lv_at hl 3 rfl) ?_
  refine lv_iconst (v := 1) hx hb dL_law_1254 (by decide) ?_
  refine lv_iadd hx hb dL_law_1255 ?_
  replace h := xb h
  obtain ⟨v1, ev1, h⟩ := h
  refine q_scr X Y hX ev1 dL_law_1256 ?_
  refine lv_aload_n hx hb dL_law_1257 rfl (lv_at hl 0 rfl) ?_
  refine lv_iload_n hx hb dL_law_1258 rfl (lv_at hl 3 rfl) ?_
  refine lv_iconst (v := 2) hx hb dL_law_1259 (by decide) ?_
  refine lv_iadd hx hb dL_law_1260 ?_
  replace h := xb h
  obtain ⟨v2, ev2, h⟩ := h
  refine q_scr X Y hX ev2 dL_law_1261 ?_
  refine lv_aload_n hx hb dL_law_1262 rfl (lv_at hl 0 rfl) ?_
  refine lv_iload_n hx hb dL_law_1263 rfl (lv_at hl 3 rfl) ?_
  refine lv_iconst (v := 3) hx hb dL_law_1264 (by decide) ?_
  refine lv_iadd hx hb dL_law_1265 ?_
  replace h := xb h
  obtain ⟨v3, ev3, h⟩ := h
  refine q_scr X Y hX ev3 dL_law_1266 ?_
  refine lv_i2l hx hb dL_law_1267 rfl ?_
  refine lv_bipush (v := 32) hx hb dL_law_1268 (by decide) ?_
  refine lv_lshl hx hb dL_law_1270 rfl ?_
  refine lv_aload_n hx hb dL_law_1271 rfl (lv_at hl 0 rfl) ?_
  refine lv_iload_n hx hb dL_law_1272 rfl (lv_at hl 3 rfl) ?_
  refine lv_iconst (v := 4) hx hb dL_law_1273 (by decide) ?_
  refine lv_iadd hx hb dL_law_1274 ?_
  replace h := xb h
  obtain ⟨v4, ev4, h⟩ := h
  refine q_scr X Y hX ev4 dL_law_1275 ?_
  refine lv_i2l hx hb dL_law_1276 rfl ?_
  refine lv_ldc2 (v := 4294967295) hx hb X.1.2.2.2.1 (X.1.2.2.2.2 _ xw_1241) dL_law_1277 ?_
  refine lv_land hx hb dL_law_1280 ?_
  refine lv_lor hx hb dL_law_1281 ?_
  by_cases c5 : hKd f x = some 9
  case neg => exact absurd (Eq.trans (if_neg c5).symm h) (by intro q; cases q)
  replace h := Eq.trans (if_pos c5).symm h
  replace h := xb h
  obtain ⟨q6, eq6, h⟩ := h
  refine q_callV X Y hl.1 (rest := []) (As := [.int v1, .int v2, .long ((v3.toInt64 <<< ((32 : Int32).toInt64 &&& 63)) ||| (v4.toInt64 &&& (4294967295 : Int64)))]) (c_X10_forge l G z f x v1 v2 ((v3.toInt64 <<< ((32 : Int32).toInt64 &&& 63)) ||| (v4.toInt64 &&& (4294967295 : Int64))) _ eq6) cd_X10_forge lv_L_141_9 c5 ⟨(Nat.le_of_ble_eq_true rfl), (Nat.le_of_ble_eq_true rfl)⟩ ⟨by show cells + 0 ≤ 600000; omega, by show slots + 0 ≤ 7302250; omega⟩ rfl rfl (Nat.le_of_ble_eq_true rfl) dL_law_1282 (fun H locs Y => ?_)
  refine W.widen (k := cells + 0) (n := slots + 0) (by show cells + 0 ≤ cells + 0; omega) (by show slots + 0 ≤ slots + 0; omega) ?_
  refine W.eq (g2 := F0 m 1285 ls [.int q6.1]) rfl ?_
  refine lv_aload_n hx hb dL_law_1285 rfl (lv_at hl 2 rfl) ?_
  refine lv_aload_n hx hb dL_law_1286 rfl (lv_at hl 0 rfl) ?_
  refine lv_iload_n hx hb dL_law_1287 rfl (lv_at hl 3 rfl) ?_
  refine lv_iconst (v := 1) hx hb dL_law_1288 (by decide) ?_
  refine lv_iadd hx hb dL_law_1289 ?_
  replace h := xb h
  obtain ⟨v7, ev7, h⟩ := h
  refine q_scr X Y hX ev7 dL_law_1290 ?_
  refine lv_aload_n hx hb dL_law_1291 rfl (lv_at hl 0 rfl) ?_
  refine lv_iload_n hx hb dL_law_1292 rfl (lv_at hl 3 rfl) ?_
  refine lv_iconst (v := 2) hx hb dL_law_1293 (by decide) ?_
  refine lv_iadd hx hb dL_law_1294 ?_
  replace h := xb h
  obtain ⟨v8, ev8, h⟩ := h
  refine q_scr X Y hX ev8 dL_law_1295 ?_
  refine lv_aload_n hx hb dL_law_1296 rfl (lv_at hl 0 rfl) ?_
  refine lv_iload_n hx hb dL_law_1297 rfl (lv_at hl 3 rfl) ?_
  refine lv_iconst (v := 3) hx hb dL_law_1298 (by decide) ?_
  refine lv_iadd hx hb dL_law_1299 ?_
  replace h := xb h
  obtain ⟨v9, ev9, h⟩ := h
  refine q_scr X Y hX ev9 dL_law_1300 ?_
  refine lv_i2l hx hb dL_law_1301 rfl ?_
  refine lv_bipush (v := 32) hx hb dL_law_1302 (by decide) ?_
  refine lv_lshl hx hb dL_law_1304 rfl ?_
  refine lv_aload_n hx hb dL_law_1305 rfl (lv_at hl 0 rfl) ?_
  refine lv_iload_n hx hb dL_law_1306 rfl (lv_at hl 3 rfl) ?_
  refine lv_iconst (v := 4) hx hb dL_law_1307 (by decide) ?_
  refine lv_iadd hx hb dL_law_1308 ?_
  replace h := xb h
  obtain ⟨v10, ev10, h⟩ := h
  refine q_scr X Y hX ev10 dL_law_1309 ?_
  refine lv_i2l hx hb dL_law_1310 rfl ?_
  refine lv_ldc2 (v := 4294967295) hx hb X.1.2.2.2.1 (X.1.2.2.2.2 _ xw_1241) dL_law_1311 ?_
  refine lv_land hx hb dL_law_1314 ?_
  refine lv_lor hx hb dL_law_1315 ?_
  by_cases c11 : hKd q6.2 mo = some 10
  case neg => exact absurd (Eq.trans (if_neg c11).symm h) (by intro q; cases q)
  replace h := Eq.trans (if_pos c11).symm h
  replace h := xb h
  obtain ⟨q12, eq12, h⟩ := h
  refine q_callV X Y hl.1 (rest := [.int q6.1]) (As := [.int v7, .int v8, .long ((v9.toInt64 <<< ((32 : Int32).toInt64 &&& 63)) ||| (v10.toInt64 &&& (4294967295 : Int64)))]) (c_X11_forge l G z q6.2 mo v7 v8 ((v9.toInt64 <<< ((32 : Int32).toInt64 &&& 63)) ||| (v10.toInt64 &&& (4294967295 : Int64))) _ eq12) cd_X11_forge lv_L_144_10 c11 ⟨(Nat.le_of_ble_eq_true rfl), (Nat.le_of_ble_eq_true rfl)⟩ ⟨by show cells + 0 ≤ 600000; omega, by show slots + 0 ≤ 7302250; omega⟩ rfl rfl (Nat.le_of_ble_eq_true rfl) dL_law_1316 (fun H locs Y => ?_)
  refine W.widen (k := cells + 0) (n := slots + 0) (by show cells + 0 + 0 ≤ cells + 0; omega) (by show slots + 0 + 0 ≤ slots + 0; omega) ?_
  refine W.eq (g2 := F0 m 1319 ls [.int q12.1, .int q6.1]) rfl ?_
  refine lv_icmp_eq (tgt := 1475) hx hb dL_law_1319 (by decide) (fun c13 => ?_) (fun c13 => ?_)
  · replace h := Option.some.inj (Eq.trans (if_pos c13).symm h)
    subst h
    refine W.widen (k := cells + 8) (n := slots + 256) (by omega) (by omega) ?_
    exact kk _ _ _ Y hl
  · exact absurd (Eq.trans (if_neg c13).symm h) (by intro q; cases q)
set_option maxRecDepth 100000 in
set_option maxHeartbeats 4000000 in
theorem w_law_30 {p : Program} {l : Launch} {e : Env} {s : State} {m : MethodId} {below : List Frame} {meth : Method} {c : Code} {H : Heap} {locs : List Loc} {cells slots : Nat} {Q : State → Prop} {ls : Array Slot} {G : xG} {z : Nat} {f : xHp} {b L x mo : Nat} {xs : Nat → Int32} {i : Int32} {rs : Nat × xHp} (X : xC G p m c s #[Value.ref b] RL cL_law 4) (hX : xSc G s b L xs) (Y : xY G z f s H locs) (hl : lv_has ls 4 [(0, .ref b), (1, .ref x), (2, .ref mo), (3, .int i)]) (hc : cells + 8 ≤ 600000) (hs : slots + 256 ≤ 7302250) (h : S_law_30 xs L x mo z f i = some rs) (kk : ∀ (H1 : Heap) (locs1 : List Loc) (ls : Array Slot), xY G rs.1 rs.2 s H1 locs1 → lv_has ls 4 [(0, .ref b), (1, .ref x), (2, .ref mo), (3, .int i)] → W p l e room_1 s m #[Value.ref b] below meth c H1 locs1 (cells + 8) (slots + 256) Q (F0 m 1475 ls [])) : W p l e room_1 s m #[Value.ref b] below meth c H locs cells slots Q (F0 m 1324 ls []) := by
  have hx := X.1.1
  have hb := X.1.2.1
  unfold S_law_30 at h
  refine lv_aload_n hx hb dL_law_1324 rfl (lv_at hl 1 rfl) ?_
  refine lv_aload_n hx hb dL_law_1325 rfl (lv_at hl 0 rfl) ?_
  refine lv_iload_n hx hb dL_law_1326 rfl (lv_at hl 3 rfl) ?_
  refine lv_iconst (v := 1) hx hb dL_law_1327 (by decide) ?_
  refine lv_iadd hx hb dL_law_1328 ?_
  replace h := xb h
  obtain ⟨v1, ev1, h⟩ := h
  refine q_scr X Y hX ev1 dL_law_1329 ?_
  by_cases c2 : hKd f x = some 9
  case neg => exact absurd (Eq.trans (if_neg c2).symm h) (by intro q; cases q)
  replace h := Eq.trans (if_pos c2).symm h
  replace h := xb h
  obtain ⟨q3, eq3, h⟩ := h
  refine q_callV X Y hl.1 (rest := []) (As := [.int v1]) (c_X10_check l G z f x v1 _ eq3) cd_X10_check lv_L_145_9 c2 ⟨(Nat.le_of_ble_eq_true rfl), (Nat.le_of_ble_eq_true rfl)⟩ ⟨by show cells + 0 ≤ 600000; omega, by show slots + 0 ≤ 7302250; omega⟩ rfl rfl (Nat.le_of_ble_eq_true rfl) dL_law_1330 (fun H locs Y => ?_)
  refine W.widen (k := cells + 0) (n := slots + 0) (by show cells + 0 ≤ cells + 0; omega) (by show slots + 0 ≤ slots + 0; omega) ?_
  refine W.eq (g2 := F0 m 1333 ls [.int q3.1]) rfl ?_
  refine lv_aload_n hx hb dL_law_1333 rfl (lv_at hl 2 rfl) ?_
  refine lv_aload_n hx hb dL_law_1334 rfl (lv_at hl 0 rfl) ?_
  refine lv_iload_n hx hb dL_law_1335 rfl (lv_at hl 3 rfl) ?_
  refine lv_iconst (v := 1) hx hb dL_law_1336 (by decide) ?_
  refine lv_iadd hx hb dL_law_1337 ?_
  replace h := xb h
  obtain ⟨v4, ev4, h⟩ := h
  refine q_scr X Y hX ev4 dL_law_1338 ?_
  by_cases c5 : hKd q3.2 mo = some 10
  case neg => exact absurd (Eq.trans (if_neg c5).symm h) (by intro q; cases q)
  replace h := Eq.trans (if_pos c5).symm h
  replace h := xb h
  obtain ⟨q6, eq6, h⟩ := h
  refine q_callV X Y hl.1 (rest := [.int q3.1]) (As := [.int v4]) (c_X11_check l G z q3.2 mo v4 _ eq6) cd_X11_check lv_L_148_10 c5 ⟨(Nat.le_of_ble_eq_true rfl), (Nat.le_of_ble_eq_true rfl)⟩ ⟨by show cells + 0 ≤ 600000; omega, by show slots + 0 ≤ 7302250; omega⟩ rfl rfl (Nat.le_of_ble_eq_true rfl) dL_law_1339 (fun H locs Y => ?_)
  refine W.widen (k := cells + 0) (n := slots + 0) (by show cells + 0 + 0 ≤ cells + 0; omega) (by show slots + 0 + 0 ≤ slots + 0; omega) ?_
  refine W.eq (g2 := F0 m 1342 ls [.int q6.1, .int q3.1]) rfl ?_
  refine lv_icmp_eq (tgt := 1475) hx hb dL_law_1342 (by decide) (fun c7 => ?_) (fun c7 => ?_)
  · replace h := Option.some.inj (Eq.trans (if_pos c7).symm h)
    subst h
    refine W.widen (k := cells + 8) (n := slots + 256) (by omega) (by omega) ?_
    exact kk _ _ _ Y hl
  · exact absurd (Eq.trans (if_neg c7).symm h) (by intro q; cases q)
set_option maxRecDepth 100000 in
set_option maxHeartbeats 4000000 in
theorem w_law_31 {p : Program} {l : Launch} {e : Env} {s : State} {m : MethodId} {below : List Frame} {meth : Method} {c : Code} {H : Heap} {locs : List Loc} {cells slots : Nat} {Q : State → Prop} {ls : Array Slot} {G : xG} {z : Nat} {f : xHp} {b L x mo : Nat} {xs : Nat → Int32} {i : Int32} {rs : Nat × xHp} (X : xC G p m c s #[Value.ref b] RL cL_law 4) (hX : xSc G s b L xs) (Y : xY G z f s H locs) (hl : lv_has ls 4 [(0, .ref b), (1, .ref x), (2, .ref mo), (3, .int i)]) (hc : cells + 8 ≤ 600000) (hs : slots + 256 ≤ 7302250) (h : S_law_31 xs L x mo z f i = some rs) (kk : ∀ (H1 : Heap) (locs1 : List Loc) (ls : Array Slot), xY G rs.1 rs.2 s H1 locs1 → lv_has ls 4 [(0, .ref b), (1, .ref x), (2, .ref mo), (3, .int i)] → W p l e room_1 s m #[Value.ref b] below meth c H1 locs1 (cells + 8) (slots + 256) Q (F0 m 1475 ls [])) : W p l e room_1 s m #[Value.ref b] below meth c H locs cells slots Q (F0 m 1347 ls []) := by
  have hx := X.1.1
  have hb := X.1.2.1
  unfold S_law_31 at h
  refine lv_aload_n hx hb dL_law_1347 rfl (lv_at hl 1 rfl) ?_
  refine lv_aload_n hx hb dL_law_1348 rfl (lv_at hl 0 rfl) ?_
  refine lv_iload_n hx hb dL_law_1349 rfl (lv_at hl 3 rfl) ?_
  refine lv_iconst (v := 1) hx hb dL_law_1350 (by decide) ?_
  refine lv_iadd hx hb dL_law_1351 ?_
  replace h := xb h
  obtain ⟨v1, ev1, h⟩ := h
  refine q_scr X Y hX ev1 dL_law_1352 ?_
  refine lv_aload_n hx hb dL_law_1353 rfl (lv_at hl 0 rfl) ?_
  refine lv_iload_n hx hb dL_law_1354 rfl (lv_at hl 3 rfl) ?_
  refine lv_iconst (v := 2) hx hb dL_law_1355 (by decide) ?_
  refine lv_iadd hx hb dL_law_1356 ?_
  replace h := xb h
  obtain ⟨v2, ev2, h⟩ := h
  refine q_scr X Y hX ev2 dL_law_1357 ?_
  by_cases c3 : hKd f x = some 9
  case neg => exact absurd (Eq.trans (if_neg c3).symm h) (by intro q; cases q)
  replace h := Eq.trans (if_pos c3).symm h
  replace h := xb h
  obtain ⟨q4, eq4, h⟩ := h
  refine q_callV X Y hl.1 (rest := []) (As := [.int v1, .int v2]) (c_X10_as l G z f x v1 v2 _ eq4) cd_X10_as lv_L_149_9 c3 ⟨(Nat.le_of_ble_eq_true rfl), (Nat.le_of_ble_eq_true rfl)⟩ ⟨by show cells + 0 ≤ 600000; omega, by show slots + 0 ≤ 7302250; omega⟩ rfl rfl (Nat.le_of_ble_eq_true rfl) dL_law_1358 (fun H locs Y => ?_)
  refine W.widen (k := cells + 0) (n := slots + 0) (by show cells + 0 ≤ cells + 0; omega) (by show slots + 0 ≤ slots + 0; omega) ?_
  refine W.eq (g2 := F0 m 1361 ls [.int q4.1]) rfl ?_
  refine lv_aload_n hx hb dL_law_1361 rfl (lv_at hl 2 rfl) ?_
  refine lv_aload_n hx hb dL_law_1362 rfl (lv_at hl 0 rfl) ?_
  refine lv_iload_n hx hb dL_law_1363 rfl (lv_at hl 3 rfl) ?_
  refine lv_iconst (v := 1) hx hb dL_law_1364 (by decide) ?_
  refine lv_iadd hx hb dL_law_1365 ?_
  replace h := xb h
  obtain ⟨v5, ev5, h⟩ := h
  refine q_scr X Y hX ev5 dL_law_1366 ?_
  refine lv_aload_n hx hb dL_law_1367 rfl (lv_at hl 0 rfl) ?_
  refine lv_iload_n hx hb dL_law_1368 rfl (lv_at hl 3 rfl) ?_
  refine lv_iconst (v := 2) hx hb dL_law_1369 (by decide) ?_
  refine lv_iadd hx hb dL_law_1370 ?_
  replace h := xb h
  obtain ⟨v6, ev6, h⟩ := h
  refine q_scr X Y hX ev6 dL_law_1371 ?_
  by_cases c7 : hKd q4.2 mo = some 10
  case neg => exact absurd (Eq.trans (if_neg c7).symm h) (by intro q; cases q)
  replace h := Eq.trans (if_pos c7).symm h
  replace h := xb h
  obtain ⟨q8, eq8, h⟩ := h
  refine q_callV X Y hl.1 (rest := [.int q4.1]) (As := [.int v5, .int v6]) (c_X11_as l G z q4.2 mo v5 v6 _ eq8) cd_X11_as lv_L_152_10 c7 ⟨(Nat.le_of_ble_eq_true rfl), (Nat.le_of_ble_eq_true rfl)⟩ ⟨by show cells + 0 ≤ 600000; omega, by show slots + 0 ≤ 7302250; omega⟩ rfl rfl (Nat.le_of_ble_eq_true rfl) dL_law_1372 (fun H locs Y => ?_)
  refine W.widen (k := cells + 0) (n := slots + 0) (by show cells + 0 + 0 ≤ cells + 0; omega) (by show slots + 0 + 0 ≤ slots + 0; omega) ?_
  refine W.eq (g2 := F0 m 1375 ls [.int q8.1, .int q4.1]) rfl ?_
  refine lv_icmp_eq (tgt := 1475) hx hb dL_law_1375 (by decide) (fun c9 => ?_) (fun c9 => ?_)
  · replace h := Option.some.inj (Eq.trans (if_pos c9).symm h)
    subst h
    refine W.widen (k := cells + 8) (n := slots + 256) (by omega) (by omega) ?_
    exact kk _ _ _ Y hl
  · exact absurd (Eq.trans (if_neg c9).symm h) (by intro q; cases q)
set_option maxRecDepth 100000 in
set_option maxHeartbeats 4000000 in
theorem w_law_32 {p : Program} {l : Launch} {e : Env} {s : State} {m : MethodId} {below : List Frame} {meth : Method} {c : Code} {H : Heap} {locs : List Loc} {cells slots : Nat} {Q : State → Prop} {ls : Array Slot} {G : xG} {z : Nat} {f : xHp} {b L x mo : Nat} {xs : Nat → Int32} {i : Int32} {rs : Nat × xHp} (X : xC G p m c s #[Value.ref b] RL cL_law 4) (hX : xSc G s b L xs) (Y : xY G z f s H locs) (hl : lv_has ls 4 [(0, .ref b), (1, .ref x), (2, .ref mo), (3, .int i)]) (hc : cells + 8 ≤ 600000) (hs : slots + 256 ≤ 7302250) (h : S_law_32 xs L x mo z f i = some rs) (kk : ∀ (H1 : Heap) (locs1 : List Loc) (ls : Array Slot), xY G rs.1 rs.2 s H1 locs1 → lv_has ls 4 [(0, .ref b), (1, .ref x), (2, .ref mo), (3, .int i)] → W p l e room_1 s m #[Value.ref b] below meth c H1 locs1 (cells + 8) (slots + 256) Q (F0 m 1475 ls [])) : W p l e room_1 s m #[Value.ref b] below meth c H locs cells slots Q (F0 m 1380 ls []) := by
  have hx := X.1.1
  have hb := X.1.2.1
  unfold S_law_32 at h
  refine lv_aload_n hx hb dL_law_1380 rfl (lv_at hl 1 rfl) ?_
  refine lv_aload_n hx hb dL_law_1381 rfl (lv_at hl 0 rfl) ?_
  refine lv_iload_n hx hb dL_law_1382 rfl (lv_at hl 3 rfl) ?_
  refine lv_iconst (v := 1) hx hb dL_law_1383 (by decide) ?_
  refine lv_iadd hx hb dL_law_1384 ?_
  replace h := xb h
  obtain ⟨v1, ev1, h⟩ := h
  refine q_scr X Y hX ev1 dL_law_1385 ?_
  by_cases c2 : hKd f x = some 9
  case neg => exact absurd (Eq.trans (if_neg c2).symm h) (by intro q; cases q)
  replace h := Eq.trans (if_pos c2).symm h
  replace h := xb h
  obtain ⟨q3, eq3, h⟩ := h
  refine q_callV X Y hl.1 (rest := []) (As := [.int v1]) (c_X10_tell l G z f x v1 _ eq3) cd_X10_tell lv_L_153_9 c2 ⟨(Nat.le_of_ble_eq_true rfl), (Nat.le_of_ble_eq_true rfl)⟩ ⟨by show cells + 0 ≤ 600000; omega, by show slots + 0 ≤ 7302250; omega⟩ rfl rfl (Nat.le_of_ble_eq_true rfl) dL_law_1386 (fun H locs Y => ?_)
  refine W.widen (k := cells + 0) (n := slots + 0) (by show cells + 0 ≤ cells + 0; omega) (by show slots + 0 ≤ slots + 0; omega) ?_
  refine W.eq (g2 := F0 m 1389 ls [.int q3.1]) rfl ?_
  refine lv_aload_n hx hb dL_law_1389 rfl (lv_at hl 2 rfl) ?_
  refine lv_aload_n hx hb dL_law_1390 rfl (lv_at hl 0 rfl) ?_
  refine lv_iload_n hx hb dL_law_1391 rfl (lv_at hl 3 rfl) ?_
  refine lv_iconst (v := 1) hx hb dL_law_1392 (by decide) ?_
  refine lv_iadd hx hb dL_law_1393 ?_
  replace h := xb h
  obtain ⟨v4, ev4, h⟩ := h
  refine q_scr X Y hX ev4 dL_law_1394 ?_
  by_cases c5 : hKd q3.2 mo = some 10
  case neg => exact absurd (Eq.trans (if_neg c5).symm h) (by intro q; cases q)
  replace h := Eq.trans (if_pos c5).symm h
  replace h := xb h
  obtain ⟨q6, eq6, h⟩ := h
  refine q_callV X Y hl.1 (rest := [.int q3.1]) (As := [.int v4]) (c_X11_tell l G z q3.2 mo v4 _ eq6) cd_X11_tell lv_L_156_10 c5 ⟨(Nat.le_of_ble_eq_true rfl), (Nat.le_of_ble_eq_true rfl)⟩ ⟨by show cells + 0 ≤ 600000; omega, by show slots + 0 ≤ 7302250; omega⟩ rfl rfl (Nat.le_of_ble_eq_true rfl) dL_law_1395 (fun H locs Y => ?_)
  refine W.widen (k := cells + 0) (n := slots + 0) (by show cells + 0 + 0 ≤ cells + 0; omega) (by show slots + 0 + 0 ≤ slots + 0; omega) ?_
  refine W.eq (g2 := F0 m 1398 ls [.int q6.1, .int q3.1]) rfl ?_
  refine lv_icmp_eq (tgt := 1475) hx hb dL_law_1398 (by decide) (fun c7 => ?_) (fun c7 => ?_)
  · replace h := Option.some.inj (Eq.trans (if_pos c7).symm h)
    subst h
    refine W.widen (k := cells + 8) (n := slots + 256) (by omega) (by omega) ?_
    exact kk _ _ _ Y hl
  · exact absurd (Eq.trans (if_neg c7).symm h) (by intro q; cases q)
set_option maxRecDepth 100000 in
set_option maxHeartbeats 4000000 in
theorem w_law_33 {p : Program} {l : Launch} {e : Env} {s : State} {m : MethodId} {below : List Frame} {meth : Method} {c : Code} {H : Heap} {locs : List Loc} {cells slots : Nat} {Q : State → Prop} {ls : Array Slot} {G : xG} {z : Nat} {f : xHp} {b L x mo : Nat} {xs : Nat → Int32} {i : Int32} {rs : Nat × xHp} (X : xC G p m c s #[Value.ref b] RL cL_law 4) (hX : xSc G s b L xs) (Y : xY G z f s H locs) (hl : lv_has ls 4 [(0, .ref b), (1, .ref x), (2, .ref mo), (3, .int i)]) (hc : cells + 8 ≤ 600000) (hs : slots + 256 ≤ 7302250) (h : S_law_33 xs L x mo z f i = some rs) (kk : ∀ (H1 : Heap) (locs1 : List Loc) (ls : Array Slot), xY G rs.1 rs.2 s H1 locs1 → lv_has ls 4 [(0, .ref b), (1, .ref x), (2, .ref mo), (3, .int i)] → W p l e room_1 s m #[Value.ref b] below meth c H1 locs1 (cells + 8) (slots + 256) Q (F0 m 1475 ls [])) : W p l e room_1 s m #[Value.ref b] below meth c H locs cells slots Q (F0 m 1403 ls []) := by
  have hx := X.1.1
  have hb := X.1.2.1
  unfold S_law_33 at h
  refine lv_aload_n hx hb dL_law_1403 rfl (lv_at hl 1 rfl) ?_
  refine lv_aload_n hx hb dL_law_1404 rfl (lv_at hl 0 rfl) ?_
  refine lv_iload_n hx hb dL_law_1405 rfl (lv_at hl 3 rfl) ?_
  refine lv_iconst (v := 1) hx hb dL_law_1406 (by decide) ?_
  refine lv_iadd hx hb dL_law_1407 ?_
  replace h := xb h
  obtain ⟨v1, ev1, h⟩ := h
  refine q_scr X Y hX ev1 dL_law_1408 ?_
  by_cases c2 : hKd f x = some 9
  case neg => exact absurd (Eq.trans (if_neg c2).symm h) (by intro q; cases q)
  replace h := Eq.trans (if_pos c2).symm h
  replace h := xb h
  obtain ⟨q3, eq3, h⟩ := h
  refine q_callV X Y hl.1 (rest := []) (As := [.int v1]) (c_X10_cost l G z f x v1 _ eq3) cd_X10_cost lv_L_157_9 c2 ⟨(Nat.le_of_ble_eq_true rfl), (Nat.le_of_ble_eq_true rfl)⟩ ⟨by show cells + 0 ≤ 600000; omega, by show slots + 0 ≤ 7302250; omega⟩ rfl rfl (Nat.le_of_ble_eq_true rfl) dL_law_1409 (fun H locs Y => ?_)
  refine W.widen (k := cells + 0) (n := slots + 0) (by show cells + 0 ≤ cells + 0; omega) (by show slots + 0 ≤ slots + 0; omega) ?_
  refine W.eq (g2 := F0 m 1412 ls [.int q3.1]) rfl ?_
  refine lv_aload_n hx hb dL_law_1412 rfl (lv_at hl 2 rfl) ?_
  refine lv_aload_n hx hb dL_law_1413 rfl (lv_at hl 0 rfl) ?_
  refine lv_iload_n hx hb dL_law_1414 rfl (lv_at hl 3 rfl) ?_
  refine lv_iconst (v := 1) hx hb dL_law_1415 (by decide) ?_
  refine lv_iadd hx hb dL_law_1416 ?_
  replace h := xb h
  obtain ⟨v4, ev4, h⟩ := h
  refine q_scr X Y hX ev4 dL_law_1417 ?_
  by_cases c5 : hKd q3.2 mo = some 10
  case neg => exact absurd (Eq.trans (if_neg c5).symm h) (by intro q; cases q)
  replace h := Eq.trans (if_pos c5).symm h
  replace h := xb h
  obtain ⟨q6, eq6, h⟩ := h
  refine q_callV X Y hl.1 (rest := [.int q3.1]) (As := [.int v4]) (c_X11_cost l G z q3.2 mo v4 _ eq6) cd_X11_cost lv_L_160_10 c5 ⟨(Nat.le_of_ble_eq_true rfl), (Nat.le_of_ble_eq_true rfl)⟩ ⟨by show cells + 0 ≤ 600000; omega, by show slots + 0 ≤ 7302250; omega⟩ rfl rfl (Nat.le_of_ble_eq_true rfl) dL_law_1418 (fun H locs Y => ?_)
  refine W.widen (k := cells + 0) (n := slots + 0) (by show cells + 0 + 0 ≤ cells + 0; omega) (by show slots + 0 + 0 ≤ slots + 0; omega) ?_
  refine W.eq (g2 := F0 m 1421 ls [.int q6.1, .int q3.1]) rfl ?_
  refine lv_icmp_eq (tgt := 1475) hx hb dL_law_1421 (by decide) (fun c7 => ?_) (fun c7 => ?_)
  · replace h := Option.some.inj (Eq.trans (if_pos c7).symm h)
    subst h
    refine W.widen (k := cells + 8) (n := slots + 256) (by omega) (by omega) ?_
    exact kk _ _ _ Y hl
  · exact absurd (Eq.trans (if_neg c7).symm h) (by intro q; cases q)
set_option maxRecDepth 100000 in
set_option maxHeartbeats 4000000 in
theorem w_law_34 {p : Program} {l : Launch} {e : Env} {s : State} {m : MethodId} {below : List Frame} {meth : Method} {c : Code} {H : Heap} {locs : List Loc} {cells slots : Nat} {Q : State → Prop} {ls : Array Slot} {G : xG} {z : Nat} {f : xHp} {b L x mo : Nat} {xs : Nat → Int32} {i : Int32} {rs : Nat × xHp} (X : xC G p m c s #[Value.ref b] RL cL_law 4) (hX : xSc G s b L xs) (Y : xY G z f s H locs) (hl : lv_has ls 4 [(0, .ref b), (1, .ref x), (2, .ref mo), (3, .int i)]) (hc : cells + 8 ≤ 600000) (hs : slots + 256 ≤ 7302250) (h : S_law_34 xs L x mo z f i = some rs) (kk : ∀ (H1 : Heap) (locs1 : List Loc) (ls : Array Slot), xY G rs.1 rs.2 s H1 locs1 → lv_has ls 4 [(0, .ref b), (1, .ref x), (2, .ref mo), (3, .int i)] → W p l e room_1 s m #[Value.ref b] below meth c H1 locs1 (cells + 8) (slots + 256) Q (F0 m 1475 ls [])) : W p l e room_1 s m #[Value.ref b] below meth c H locs cells slots Q (F0 m 1426 ls []) := by
  have hx := X.1.1
  have hb := X.1.2.1
  unfold S_law_34 at h
  refine lv_aload_n hx hb dL_law_1426 rfl (lv_at hl 1 rfl) ?_
  by_cases c1 : hKd f x = some 9
  case neg => exact absurd (Eq.trans (if_neg c1).symm h) (by intro q; cases q)
  replace h := Eq.trans (if_pos c1).symm h
  replace h := xb h
  obtain ⟨q2, eq2, h⟩ := h
  refine q_callV X Y hl.1 (rest := []) (As := []) (c_X10_trace l G z f x _ eq2) cd_X10_trace lv_L_161_9 c1 ⟨(Nat.le_of_ble_eq_true rfl), (Nat.le_of_ble_eq_true rfl)⟩ ⟨by show cells + 0 ≤ 600000; omega, by show slots + 0 ≤ 7302250; omega⟩ rfl rfl (Nat.le_of_ble_eq_true rfl) dL_law_1427 (fun H locs Y => ?_)
  refine W.widen (k := cells + 0) (n := slots + 0) (by show cells + 0 ≤ cells + 0; omega) (by show slots + 0 ≤ slots + 0; omega) ?_
  refine W.eq (g2 := F0 m 1430 ls [.int q2]) rfl ?_
  refine lv_aload_n hx hb dL_law_1430 rfl (lv_at hl 2 rfl) ?_
  by_cases c3 : hKd f mo = some 10
  case neg => exact absurd (Eq.trans (if_neg c3).symm h) (by intro q; cases q)
  replace h := Eq.trans (if_pos c3).symm h
  replace h := xb h
  obtain ⟨q4, eq4, h⟩ := h
  refine q_callV X Y hl.1 (rest := [.int q2]) (As := []) (c_X11_trace l G z f mo _ eq4) cd_X11_trace lv_L_164_10 c3 ⟨(Nat.le_of_ble_eq_true rfl), (Nat.le_of_ble_eq_true rfl)⟩ ⟨by show cells + 0 ≤ 600000; omega, by show slots + 0 ≤ 7302250; omega⟩ rfl rfl (Nat.le_of_ble_eq_true rfl) dL_law_1431 (fun H locs Y => ?_)
  refine W.widen (k := cells + 0) (n := slots + 0) (by show cells + 0 + 0 ≤ cells + 0; omega) (by show slots + 0 + 0 ≤ slots + 0; omega) ?_
  refine W.eq (g2 := F0 m 1434 ls [.int q4, .int q2]) rfl ?_
  refine lv_icmp_eq (tgt := 1475) hx hb dL_law_1434 (by decide) (fun c5 => ?_) (fun c5 => ?_)
  · replace h := Option.some.inj (Eq.trans (if_pos c5).symm h)
    subst h
    refine W.widen (k := cells + 8) (n := slots + 256) (by omega) (by omega) ?_
    exact kk _ _ _ Y hl
  · exact absurd (Eq.trans (if_neg c5).symm h) (by intro q; cases q)
set_option maxRecDepth 100000 in
set_option maxHeartbeats 4000000 in
theorem w_law_35 {p : Program} {l : Launch} {e : Env} {s : State} {m : MethodId} {below : List Frame} {meth : Method} {c : Code} {H : Heap} {locs : List Loc} {cells slots : Nat} {Q : State → Prop} {ls : Array Slot} {G : xG} {z : Nat} {f : xHp} {b L x mo : Nat} {xs : Nat → Int32} {i : Int32} {rs : Nat × xHp} (X : xC G p m c s #[Value.ref b] RL cL_law 4) (hX : xSc G s b L xs) (Y : xY G z f s H locs) (hl : lv_has ls 4 [(0, .ref b), (1, .ref x), (2, .ref mo), (3, .int i)]) (hc : cells + 8 ≤ 600000) (hs : slots + 256 ≤ 7302250) (h : S_law_35 xs L x mo z f i = some rs) (kk : ∀ (H1 : Heap) (locs1 : List Loc) (ls : Array Slot), xY G rs.1 rs.2 s H1 locs1 → lv_has ls 4 [(0, .ref b), (1, .ref x), (2, .ref mo), (3, .int i)] → W p l e room_1 s m #[Value.ref b] below meth c H1 locs1 (cells + 8) (slots + 256) Q (F0 m 1475 ls [])) : W p l e room_1 s m #[Value.ref b] below meth c H locs cells slots Q (F0 m 1439 ls []) := by
  have hx := X.1.1
  have hb := X.1.2.1
  unfold S_law_35 at h
  refine lv_aload_n hx hb dL_law_1439 rfl (lv_at hl 1 rfl) ?_
  by_cases c1 : hKd f x = some 9
  case neg => exact absurd (Eq.trans (if_neg c1).symm h) (by intro q; cases q)
  replace h := Eq.trans (if_pos c1).symm h
  replace h := xb h
  obtain ⟨q2, eq2, h⟩ := h
  refine q_callV X Y hl.1 (rest := []) (As := []) (c_X10_fault l G z f x _ eq2) cd_X10_fault lv_L_165_9 c1 ⟨(Nat.le_of_ble_eq_true rfl), (Nat.le_of_ble_eq_true rfl)⟩ ⟨by show cells + 0 ≤ 600000; omega, by show slots + 0 ≤ 7302250; omega⟩ rfl rfl (Nat.le_of_ble_eq_true rfl) dL_law_1440 (fun H locs Y => ?_)
  refine W.widen (k := cells + 0) (n := slots + 0) (by show cells + 0 ≤ cells + 0; omega) (by show slots + 0 ≤ slots + 0; omega) ?_
  refine W.eq (g2 := F0 m 1443 ls [.int q2]) rfl ?_
  refine lv_aload_n hx hb dL_law_1443 rfl (lv_at hl 2 rfl) ?_
  by_cases c3 : hKd f mo = some 10
  case neg => exact absurd (Eq.trans (if_neg c3).symm h) (by intro q; cases q)
  replace h := Eq.trans (if_pos c3).symm h
  replace h := xb h
  obtain ⟨q4, eq4, h⟩ := h
  refine q_callV X Y hl.1 (rest := [.int q2]) (As := []) (c_X11_fault l G z f mo _ eq4) cd_X11_fault lv_L_168_10 c3 ⟨(Nat.le_of_ble_eq_true rfl), (Nat.le_of_ble_eq_true rfl)⟩ ⟨by show cells + 0 ≤ 600000; omega, by show slots + 0 ≤ 7302250; omega⟩ rfl rfl (Nat.le_of_ble_eq_true rfl) dL_law_1444 (fun H locs Y => ?_)
  refine W.widen (k := cells + 0) (n := slots + 0) (by show cells + 0 + 0 ≤ cells + 0; omega) (by show slots + 0 + 0 ≤ slots + 0; omega) ?_
  refine W.eq (g2 := F0 m 1447 ls [.int q4, .int q2]) rfl ?_
  refine lv_icmp_eq (tgt := 1475) hx hb dL_law_1447 (by decide) (fun c5 => ?_) (fun c5 => ?_)
  · replace h := Option.some.inj (Eq.trans (if_pos c5).symm h)
    subst h
    refine W.widen (k := cells + 8) (n := slots + 256) (by omega) (by omega) ?_
    exact kk _ _ _ Y hl
  · exact absurd (Eq.trans (if_neg c5).symm h) (by intro q; cases q)
set_option maxRecDepth 100000 in
set_option maxHeartbeats 4000000 in
theorem w_law_36 {p : Program} {l : Launch} {e : Env} {s : State} {m : MethodId} {below : List Frame} {meth : Method} {c : Code} {H : Heap} {locs : List Loc} {cells slots : Nat} {Q : State → Prop} {ls : Array Slot} {G : xG} {z : Nat} {f : xHp} {b L x mo : Nat} {xs : Nat → Int32} {i : Int32} {rs : Nat × xHp} (X : xC G p m c s #[Value.ref b] RL cL_law 4) (hX : xSc G s b L xs) (Y : xY G z f s H locs) (hl : lv_has ls 4 [(0, .ref b), (1, .ref x), (2, .ref mo), (3, .int i)]) (hc : cells + 8 ≤ 600000) (hs : slots + 256 ≤ 7302250) (h : S_law_36 xs L x mo z f i = some rs) (kk : ∀ (H1 : Heap) (locs1 : List Loc) (ls : Array Slot), xY G rs.1 rs.2 s H1 locs1 → lv_has ls 4 [(0, .ref b), (1, .ref x), (2, .ref mo), (3, .int i)] → W p l e room_1 s m #[Value.ref b] below meth c H1 locs1 (cells + 8) (slots + 256) Q (F0 m 1475 ls [])) : W p l e room_1 s m #[Value.ref b] below meth c H locs cells slots Q (F0 m 1452 ls []) := by
  have hx := X.1.1
  have hb := X.1.2.1
  unfold S_law_36 at h
  refine lv_aload_n hx hb dL_law_1452 rfl (lv_at hl 1 rfl) ?_
  refine lv_aload_n hx hb dL_law_1453 rfl (lv_at hl 0 rfl) ?_
  refine lv_iload_n hx hb dL_law_1454 rfl (lv_at hl 3 rfl) ?_
  refine lv_iconst (v := 1) hx hb dL_law_1455 (by decide) ?_
  refine lv_iadd hx hb dL_law_1456 ?_
  replace h := xb h
  obtain ⟨v1, ev1, h⟩ := h
  refine q_scr X Y hX ev1 dL_law_1457 ?_
  by_cases c2 : hKd f x = some 9
  case neg => exact absurd (Eq.trans (if_neg c2).symm h) (by intro q; cases q)
  replace h := Eq.trans (if_pos c2).symm h
  replace h := xb h
  obtain ⟨q3, eq3, h⟩ := h
  refine q_callV X Y hl.1 (rest := []) (As := [.int v1]) (c_X10_told l G z f x v1 _ eq3) cd_X10_told lv_L_169_9 c2 ⟨(Nat.le_of_ble_eq_true rfl), (Nat.le_of_ble_eq_true rfl)⟩ ⟨by show cells + 0 ≤ 600000; omega, by show slots + 0 ≤ 7302250; omega⟩ rfl rfl (Nat.le_of_ble_eq_true rfl) dL_law_1458 (fun H locs Y => ?_)
  refine W.widen (k := cells + 0) (n := slots + 0) (by show cells + 0 ≤ cells + 0; omega) (by show slots + 0 ≤ slots + 0; omega) ?_
  refine W.eq (g2 := F0 m 1461 ls [.int q3]) rfl ?_
  refine lv_aload_n hx hb dL_law_1461 rfl (lv_at hl 2 rfl) ?_
  refine lv_aload_n hx hb dL_law_1462 rfl (lv_at hl 0 rfl) ?_
  refine lv_iload_n hx hb dL_law_1463 rfl (lv_at hl 3 rfl) ?_
  refine lv_iconst (v := 1) hx hb dL_law_1464 (by decide) ?_
  refine lv_iadd hx hb dL_law_1465 ?_
  replace h := xb h
  obtain ⟨v4, ev4, h⟩ := h
  refine q_scr X Y hX ev4 dL_law_1466 ?_
  by_cases c5 : hKd f mo = some 10
  case neg => exact absurd (Eq.trans (if_neg c5).symm h) (by intro q; cases q)
  replace h := Eq.trans (if_pos c5).symm h
  replace h := xb h
  obtain ⟨q6, eq6, h⟩ := h
  refine q_callV X Y hl.1 (rest := [.int q3]) (As := [.int v4]) (c_X11_told l G z f mo v4 _ eq6) cd_X11_told lv_L_172_10 c5 ⟨(Nat.le_of_ble_eq_true rfl), (Nat.le_of_ble_eq_true rfl)⟩ ⟨by show cells + 0 ≤ 600000; omega, by show slots + 0 ≤ 7302250; omega⟩ rfl rfl (Nat.le_of_ble_eq_true rfl) dL_law_1467 (fun H locs Y => ?_)
  refine W.widen (k := cells + 0) (n := slots + 0) (by show cells + 0 + 0 ≤ cells + 0; omega) (by show slots + 0 + 0 ≤ slots + 0; omega) ?_
  refine W.eq (g2 := F0 m 1470 ls [.int q6, .int q3]) rfl ?_
  refine lv_icmp_eq (tgt := 1475) hx hb dL_law_1470 (by decide) (fun c7 => ?_) (fun c7 => ?_)
  · replace h := Option.some.inj (Eq.trans (if_pos c7).symm h)
    subst h
    refine W.widen (k := cells + 8) (n := slots + 256) (by omega) (by omega) ?_
    exact kk _ _ _ Y hl
  · exact absurd (Eq.trans (if_neg c7).symm h) (by intro q; cases q)
set_option maxRecDepth 100000 in
set_option maxHeartbeats 4000000 in
theorem w_law_step {p : Program} {l : Launch} {e : Env} {s : State} {m : MethodId} {below : List Frame} {meth : Method} {c : Code} {H : Heap} {locs : List Loc} {cells slots : Nat} {Q : State → Prop} {ls : Array Slot} {G : xG} {z : Nat} {f : xHp} {b L x mo : Nat} {xs : Nat → Int32} {i : Int32} {rs : Nat × xHp} (X : xC G p m c s #[Value.ref b] RL cL_law 4) (hX : xSc G s b L xs) (Y : xY G z f s H locs) (hl : lv_has ls 4 [(0, .ref b), (1, .ref x), (2, .ref mo), (3, .int i)]) (hc : cells + 8 ≤ 600000) (hs : slots + 256 ≤ 7302250) (h : F_law_step xs L x mo z f i = some rs) (kk : ∀ (H1 : Heap) (locs1 : List Loc) (ls : Array Slot), xY G rs.1 rs.2 s H1 locs1 → lv_has ls 4 [(0, .ref b), (1, .ref x), (2, .ref mo), (3, .int i)] → W p l e room_1 s m #[Value.ref b] below meth c H1 locs1 (cells + 8) (slots + 256) Q (F0 m 1475 ls [])) : W p l e room_1 s m #[Value.ref b] below meth c H locs cells slots Q (F0 m 27 ls []) := by
  have hx := X.1.1
  have hb := X.1.2.1
  unfold F_law_step at h
  replace h := xb h
  obtain ⟨v, ev, h⟩ := h
  refine lv_aload_n hx hb dL_law_27 rfl (lv_at hl 0 rfl) ?_
  refine lv_iload_n hx hb dL_law_28 rfl (lv_at hl 3 rfl) ?_
  refine q_scr X Y hX ev dL_law_29 ?_
  refine lv_bipush (v := 63) hx hb dL_law_30 (by decide) ?_
  refine lv_iand hx hb dL_law_32 ?_
  by_cases c0 : (v &&& (63 : Int32)) = 0
  · replace h := Eq.trans (if_pos c0).symm h
    refine lv_tableIn (tgt := 196) hx hb dL_law_33 (by rw [c0]; decide) (by rw [c0]; decide) (by rw [c0]; rfl) (by decide) ?_
    exact w_law_0 X hX Y hl hc hs h kk
  replace h := Eq.trans (if_neg c0).symm h
  by_cases c1 : (v &&& (63 : Int32)) = 1
  · replace h := Eq.trans (if_pos c1).symm h
    refine lv_tableIn (tgt := 239) hx hb dL_law_33 (by rw [c1]; decide) (by rw [c1]; decide) (by rw [c1]; rfl) (by decide) ?_
    exact w_law_1 X hX Y hl hc hs h kk
  replace h := Eq.trans (if_neg c1).symm h
  by_cases c2 : (v &&& (63 : Int32)) = 2
  · replace h := Eq.trans (if_pos c2).symm h
    refine lv_tableIn (tgt := 262) hx hb dL_law_33 (by rw [c2]; decide) (by rw [c2]; decide) (by rw [c2]; rfl) (by decide) ?_
    exact w_law_2 X hX Y hl hc hs h kk
  replace h := Eq.trans (if_neg c2).symm h
  by_cases c3 : (v &&& (63 : Int32)) = 3
  · replace h := Eq.trans (if_pos c3).symm h
    refine lv_tableIn (tgt := 335) hx hb dL_law_33 (by rw [c3]; decide) (by rw [c3]; decide) (by rw [c3]; rfl) (by decide) ?_
    exact w_law_3 X hX Y hl hc hs h kk
  replace h := Eq.trans (if_neg c3).symm h
  by_cases c4 : (v &&& (63 : Int32)) = 4
  · replace h := Eq.trans (if_pos c4).symm h
    refine lv_tableIn (tgt := 379) hx hb dL_law_33 (by rw [c4]; decide) (by rw [c4]; decide) (by rw [c4]; rfl) (by decide) ?_
    exact w_law_4 X hX Y hl hc hs h kk
  replace h := Eq.trans (if_neg c4).symm h
  by_cases c5 : (v &&& (63 : Int32)) = 5
  · replace h := Eq.trans (if_pos c5).symm h
    refine lv_tableIn (tgt := 432) hx hb dL_law_33 (by rw [c5]; decide) (by rw [c5]; decide) (by rw [c5]; rfl) (by decide) ?_
    exact w_law_5 X hX Y hl hc hs h kk
  replace h := Eq.trans (if_neg c5).symm h
  by_cases c6 : (v &&& (63 : Int32)) = 6
  · replace h := Eq.trans (if_pos c6).symm h
    refine lv_tableIn (tgt := 475) hx hb dL_law_33 (by rw [c6]; decide) (by rw [c6]; decide) (by rw [c6]; rfl) (by decide) ?_
    exact w_law_6 X hX Y hl hc hs h kk
  replace h := Eq.trans (if_neg c6).symm h
  by_cases c7 : (v &&& (63 : Int32)) = 7
  · replace h := Eq.trans (if_pos c7).symm h
    refine lv_tableIn (tgt := 508) hx hb dL_law_33 (by rw [c7]; decide) (by rw [c7]; decide) (by rw [c7]; rfl) (by decide) ?_
    exact w_law_7 X hX Y hl hc hs h kk
  replace h := Eq.trans (if_neg c7).symm h
  by_cases c8 : (v &&& (63 : Int32)) = 8
  · replace h := Eq.trans (if_pos c8).symm h
    refine lv_tableIn (tgt := 541) hx hb dL_law_33 (by rw [c8]; decide) (by rw [c8]; decide) (by rw [c8]; rfl) (by decide) ?_
    exact w_law_8 X hX Y hl hc hs h kk
  replace h := Eq.trans (if_neg c8).symm h
  by_cases c9 : (v &&& (63 : Int32)) = 9
  · replace h := Eq.trans (if_pos c9).symm h
    refine lv_tableIn (tgt := 575) hx hb dL_law_33 (by rw [c9]; decide) (by rw [c9]; decide) (by rw [c9]; rfl) (by decide) ?_
    exact w_law_9 X hX Y hl hc hs h kk
  replace h := Eq.trans (if_neg c9).symm h
  by_cases c10 : (v &&& (63 : Int32)) = 10
  · replace h := Eq.trans (if_pos c10).symm h
    refine lv_tableIn (tgt := 619) hx hb dL_law_33 (by rw [c10]; decide) (by rw [c10]; decide) (by rw [c10]; rfl) (by decide) ?_
    exact w_law_10 X hX Y hl hc hs h kk
  replace h := Eq.trans (if_neg c10).symm h
  by_cases c11 : (v &&& (63 : Int32)) = 11
  · replace h := Eq.trans (if_pos c11).symm h
    refine lv_tableIn (tgt := 652) hx hb dL_law_33 (by rw [c11]; decide) (by rw [c11]; decide) (by rw [c11]; rfl) (by decide) ?_
    exact w_law_11 X hX Y hl hc hs h kk
  replace h := Eq.trans (if_neg c11).symm h
  by_cases c12 : (v &&& (63 : Int32)) = 12
  · replace h := Eq.trans (if_pos c12).symm h
    refine lv_tableIn (tgt := 705) hx hb dL_law_33 (by rw [c12]; decide) (by rw [c12]; decide) (by rw [c12]; rfl) (by decide) ?_
    exact w_law_12 X hX Y hl hc hs h kk
  replace h := Eq.trans (if_neg c12).symm h
  by_cases c13 : (v &&& (63 : Int32)) = 13
  · replace h := Eq.trans (if_pos c13).symm h
    refine lv_tableIn (tgt := 738) hx hb dL_law_33 (by rw [c13]; decide) (by rw [c13]; decide) (by rw [c13]; rfl) (by decide) ?_
    exact w_law_13 X hX Y hl hc hs h kk
  replace h := Eq.trans (if_neg c13).symm h
  by_cases c14 : (v &&& (63 : Int32)) = 14
  · replace h := Eq.trans (if_pos c14).symm h
    refine lv_tableIn (tgt := 782) hx hb dL_law_33 (by rw [c14]; decide) (by rw [c14]; decide) (by rw [c14]; rfl) (by decide) ?_
    exact w_law_14 X hX Y hl hc hs h kk
  replace h := Eq.trans (if_neg c14).symm h
  by_cases c15 : (v &&& (63 : Int32)) = 15
  · replace h := Eq.trans (if_pos c15).symm h
    refine lv_tableIn (tgt := 826) hx hb dL_law_33 (by rw [c15]; decide) (by rw [c15]; decide) (by rw [c15]; rfl) (by decide) ?_
    exact w_law_15 X hX Y hl hc hs h kk
  replace h := Eq.trans (if_neg c15).symm h
  by_cases c16 : (v &&& (63 : Int32)) = 16
  · replace h := Eq.trans (if_pos c16).symm h
    refine lv_tableIn (tgt := 859) hx hb dL_law_33 (by rw [c16]; decide) (by rw [c16]; decide) (by rw [c16]; rfl) (by decide) ?_
    exact w_law_16 X hX Y hl hc hs h kk
  replace h := Eq.trans (if_neg c16).symm h
  by_cases c17 : (v &&& (63 : Int32)) = 17
  · replace h := Eq.trans (if_pos c17).symm h
    refine lv_tableIn (tgt := 892) hx hb dL_law_33 (by rw [c17]; decide) (by rw [c17]; decide) (by rw [c17]; rfl) (by decide) ?_
    exact w_law_17 X hX Y hl hc hs h kk
  replace h := Eq.trans (if_neg c17).symm h
  by_cases c18 : (v &&& (63 : Int32)) = 18
  · replace h := Eq.trans (if_pos c18).symm h
    refine lv_tableIn (tgt := 915) hx hb dL_law_33 (by rw [c18]; decide) (by rw [c18]; decide) (by rw [c18]; rfl) (by decide) ?_
    exact w_law_18 X hX Y hl hc hs h kk
  replace h := Eq.trans (if_neg c18).symm h
  by_cases c19 : (v &&& (63 : Int32)) = 19
  · replace h := Eq.trans (if_pos c19).symm h
    refine lv_tableIn (tgt := 938) hx hb dL_law_33 (by rw [c19]; decide) (by rw [c19]; decide) (by rw [c19]; rfl) (by decide) ?_
    exact w_law_19 X hX Y hl hc hs h kk
  replace h := Eq.trans (if_neg c19).symm h
  by_cases c20 : (v &&& (63 : Int32)) = 20
  · replace h := Eq.trans (if_pos c20).symm h
    refine lv_tableIn (tgt := 971) hx hb dL_law_33 (by rw [c20]; decide) (by rw [c20]; decide) (by rw [c20]; rfl) (by decide) ?_
    exact w_law_20 X hX Y hl hc hs h kk
  replace h := Eq.trans (if_neg c20).symm h
  by_cases c21 : (v &&& (63 : Int32)) = 21
  · replace h := Eq.trans (if_pos c21).symm h
    refine lv_tableIn (tgt := 994) hx hb dL_law_33 (by rw [c21]; decide) (by rw [c21]; decide) (by rw [c21]; rfl) (by decide) ?_
    exact w_law_21 X hX Y hl hc hs h kk
  replace h := Eq.trans (if_neg c21).symm h
  by_cases c22 : (v &&& (63 : Int32)) = 22
  · replace h := Eq.trans (if_pos c22).symm h
    refine lv_tableIn (tgt := 1008) hx hb dL_law_33 (by rw [c22]; decide) (by rw [c22]; decide) (by rw [c22]; rfl) (by decide) ?_
    exact w_law_22 X hX Y hl hc hs h kk
  replace h := Eq.trans (if_neg c22).symm h
  by_cases c23 : (v &&& (63 : Int32)) = 23
  · replace h := Eq.trans (if_pos c23).symm h
    refine lv_tableIn (tgt := 1052) hx hb dL_law_33 (by rw [c23]; decide) (by rw [c23]; decide) (by rw [c23]; rfl) (by decide) ?_
    exact w_law_23 X hX Y hl hc hs h kk
  replace h := Eq.trans (if_neg c23).symm h
  by_cases c24 : (v &&& (63 : Int32)) = 24
  · replace h := Eq.trans (if_pos c24).symm h
    refine lv_tableIn (tgt := 1075) hx hb dL_law_33 (by rw [c24]; decide) (by rw [c24]; decide) (by rw [c24]; rfl) (by decide) ?_
    exact w_law_24 X hX Y hl hc hs h kk
  replace h := Eq.trans (if_neg c24).symm h
  by_cases c25 : (v &&& (63 : Int32)) = 25
  · replace h := Eq.trans (if_pos c25).symm h
    refine lv_tableIn (tgt := 1108) hx hb dL_law_33 (by rw [c25]; decide) (by rw [c25]; decide) (by rw [c25]; rfl) (by decide) ?_
    exact w_law_25 X hX Y hl hc hs h kk
  replace h := Eq.trans (if_neg c25).symm h
  by_cases c26 : (v &&& (63 : Int32)) = 26
  · replace h := Eq.trans (if_pos c26).symm h
    refine lv_tableIn (tgt := 1121) hx hb dL_law_33 (by rw [c26]; decide) (by rw [c26]; decide) (by rw [c26]; rfl) (by decide) ?_
    exact w_law_26 X hX Y hl hc hs h kk
  replace h := Eq.trans (if_neg c26).symm h
  by_cases c27 : (v &&& (63 : Int32)) = 27
  · replace h := Eq.trans (if_pos c27).symm h
    refine lv_tableIn (tgt := 1184) hx hb dL_law_33 (by rw [c27]; decide) (by rw [c27]; decide) (by rw [c27]; rfl) (by decide) ?_
    exact w_law_27 X hX Y hl hc hs h kk
  replace h := Eq.trans (if_neg c27).symm h
  by_cases c28 : (v &&& (63 : Int32)) = 28
  · replace h := Eq.trans (if_pos c28).symm h
    refine lv_tableIn (tgt := 1217) hx hb dL_law_33 (by rw [c28]; decide) (by rw [c28]; decide) (by rw [c28]; rfl) (by decide) ?_
    exact w_law_28 X hX Y hl hc hs h kk
  replace h := Eq.trans (if_neg c28).symm h
  by_cases c29 : (v &&& (63 : Int32)) = 29
  · replace h := Eq.trans (if_pos c29).symm h
    refine lv_tableIn (tgt := 1251) hx hb dL_law_33 (by rw [c29]; decide) (by rw [c29]; decide) (by rw [c29]; rfl) (by decide) ?_
    exact w_law_29 X hX Y hl hc hs h kk
  replace h := Eq.trans (if_neg c29).symm h
  by_cases c30 : (v &&& (63 : Int32)) = 30
  · replace h := Eq.trans (if_pos c30).symm h
    refine lv_tableIn (tgt := 1324) hx hb dL_law_33 (by rw [c30]; decide) (by rw [c30]; decide) (by rw [c30]; rfl) (by decide) ?_
    exact w_law_30 X hX Y hl hc hs h kk
  replace h := Eq.trans (if_neg c30).symm h
  by_cases c31 : (v &&& (63 : Int32)) = 31
  · replace h := Eq.trans (if_pos c31).symm h
    refine lv_tableIn (tgt := 1347) hx hb dL_law_33 (by rw [c31]; decide) (by rw [c31]; decide) (by rw [c31]; rfl) (by decide) ?_
    exact w_law_31 X hX Y hl hc hs h kk
  replace h := Eq.trans (if_neg c31).symm h
  by_cases c32 : (v &&& (63 : Int32)) = 32
  · replace h := Eq.trans (if_pos c32).symm h
    refine lv_tableIn (tgt := 1380) hx hb dL_law_33 (by rw [c32]; decide) (by rw [c32]; decide) (by rw [c32]; rfl) (by decide) ?_
    exact w_law_32 X hX Y hl hc hs h kk
  replace h := Eq.trans (if_neg c32).symm h
  by_cases c33 : (v &&& (63 : Int32)) = 33
  · replace h := Eq.trans (if_pos c33).symm h
    refine lv_tableIn (tgt := 1403) hx hb dL_law_33 (by rw [c33]; decide) (by rw [c33]; decide) (by rw [c33]; rfl) (by decide) ?_
    exact w_law_33 X hX Y hl hc hs h kk
  replace h := Eq.trans (if_neg c33).symm h
  by_cases c34 : (v &&& (63 : Int32)) = 34
  · replace h := Eq.trans (if_pos c34).symm h
    refine lv_tableIn (tgt := 1426) hx hb dL_law_33 (by rw [c34]; decide) (by rw [c34]; decide) (by rw [c34]; rfl) (by decide) ?_
    exact w_law_34 X hX Y hl hc hs h kk
  replace h := Eq.trans (if_neg c34).symm h
  by_cases c35 : (v &&& (63 : Int32)) = 35
  · replace h := Eq.trans (if_pos c35).symm h
    refine lv_tableIn (tgt := 1439) hx hb dL_law_33 (by rw [c35]; decide) (by rw [c35]; decide) (by rw [c35]; rfl) (by decide) ?_
    exact w_law_35 X hX Y hl hc hs h kk
  replace h := Eq.trans (if_neg c35).symm h
  by_cases c36 : (v &&& (63 : Int32)) = 36
  · replace h := Eq.trans (if_pos c36).symm h
    refine lv_tableIn (tgt := 1452) hx hb dL_law_33 (by rw [c36]; decide) (by rw [c36]; decide) (by rw [c36]; rfl) (by decide) ?_
    exact w_law_36 X hX Y hl hc hs h kk
  replace h := Eq.trans (if_neg c36).symm h
  have nc0 := xneI (k := 0) (by decide) c0
  have nc1 := xneI (k := 1) (by decide) c1
  have nc2 := xneI (k := 2) (by decide) c2
  have nc3 := xneI (k := 3) (by decide) c3
  have nc4 := xneI (k := 4) (by decide) c4
  have nc5 := xneI (k := 5) (by decide) c5
  have nc6 := xneI (k := 6) (by decide) c6
  have nc7 := xneI (k := 7) (by decide) c7
  have nc8 := xneI (k := 8) (by decide) c8
  have nc9 := xneI (k := 9) (by decide) c9
  have nc10 := xneI (k := 10) (by decide) c10
  have nc11 := xneI (k := 11) (by decide) c11
  have nc12 := xneI (k := 12) (by decide) c12
  have nc13 := xneI (k := 13) (by decide) c13
  have nc14 := xneI (k := 14) (by decide) c14
  have nc15 := xneI (k := 15) (by decide) c15
  have nc16 := xneI (k := 16) (by decide) c16
  have nc17 := xneI (k := 17) (by decide) c17
  have nc18 := xneI (k := 18) (by decide) c18
  have nc19 := xneI (k := 19) (by decide) c19
  have nc20 := xneI (k := 20) (by decide) c20
  have nc21 := xneI (k := 21) (by decide) c21
  have nc22 := xneI (k := 22) (by decide) c22
  have nc23 := xneI (k := 23) (by decide) c23
  have nc24 := xneI (k := 24) (by decide) c24
  have nc25 := xneI (k := 25) (by decide) c25
  have nc26 := xneI (k := 26) (by decide) c26
  have nc27 := xneI (k := 27) (by decide) c27
  have nc28 := xneI (k := 28) (by decide) c28
  have nc29 := xneI (k := 29) (by decide) c29
  have nc30 := xneI (k := 30) (by decide) c30
  have nc31 := xneI (k := 31) (by decide) c31
  have nc32 := xneI (k := 32) (by decide) c32
  have nc33 := xneI (k := 33) (by decide) c33
  have nc34 := xneI (k := 34) (by decide) c34
  have nc35 := xneI (k := 35) (by decide) c35
  have nc36 := xneI (k := 36) (by decide) c36
  refine lv_tableOut (tgt := 1475) hx hb dL_law_33 (by omega) (by decide) ?_
  replace h := Option.some.inj h
  subst h
  refine W.widen (k := cells + 8) (n := slots + 256) (by omega) (by omega) ?_
  exact kk _ _ _ Y hl
def L_law (xs : Nat → Int32) (L x mo : Nat) : Nat → Nat → xHp → Int32 → Option Unit
  | 0, _, _, _ => none
  | n + 1, z, f, i => if Int32.ofNat L - (6 : Int32) < i then some () else Option.bind (F_law_step xs L x mo z f i) fun q => L_law xs L x mo n q.1 q.2 (i + 6)
set_option maxRecDepth 100000 in
set_option maxHeartbeats 4000000 in
theorem w_law_loop {p : Program} {l : Launch} {e : Env} {s : State} {m : MethodId} {below : List Frame} {meth : Method} {c : Code} {G : xG} {b L x mo : Nat} {xs : Nat → Int32} (X : xC G p m c s #[Value.ref b] RL cL_law 4) (hX : xSc G s b L xs) (hr : meth.sig.returnType = ret) (hlocks : meth.locks = false) (hbs : xbs G = s.heap.size) : ∀ (n z : Nat) (f : xHp) (i : Int32) (H : Heap) (locs : List Loc) (ls : Array Slot) (cells slots : Nat), L_law xs L x mo n z f i = some () → xY G z f s H locs → lv_has ls 4 [(0, .ref b), (1, .ref x), (2, .ref mo), (3, .int i)] → cells + 8 * n ≤ 600000 → slots + 256 * n ≤ 7302250 → W p l e room_1 s m #[Value.ref b] below meth c H locs cells slots (lw_Z below #[Value.ref b] s) (F0 m 18 ls []) := by
  have hx := X.1.1
  have hb := X.1.2.1
  intro n
  induction n with
  | zero => intro z f i H locs ls cells slots h; cases h
  | succ n ih =>
    intro z f i H locs ls cells slots h Y hl hc hs
    replace h : (if Int32.ofNat L - (6 : Int32) < i then some () else Option.bind (F_law_step xs L x mo z f i) fun q => L_law xs L x mo n q.1 q.2 (i + 6)) = some () := h
    refine lv_iload_n hx hb dL_law_18 rfl (lv_at hl 3 rfl) ?_
    refine lv_aload_n hx hb dL_law_19 rfl (lv_at hl 0 rfl) ?_
    refine va_slen hx hb hX.1 hX.2.1 hX.2.2 Y.2.1 dL_law_20 ?_
    refine lv_bipush (v := 6) hx hb dL_law_21 (by decide) ?_
    refine lv_isub hx hb dL_law_23 ?_
    refine lv_icmp_gt (tgt := 1481) hx hb dL_law_24 (by decide) (fun c1 => ?_) (fun c1 => ?_)
    · refine lv_iconst (v := 1) hx hb dL_law_1481 (by decide) ?_
      refine va_forget (fun q hq => by have := Y.2.1.2.2 q hq; rw [← hbs]; exact this) ?_
      refine W.widen (k := 600000) (n := 7302250) (by omega) (by omega) ?_
      exact lw_ret hx hb hr hlocks dL_law_1482
    · replace h := Eq.trans (if_neg c1).symm h
      replace h := xb h
      obtain ⟨q, eq, h⟩ := h
      refine w_law_step X hX Y hl (by omega) (by omega) eq (fun H1 locs1 ls Y hl => ?_)
      refine lv_iinc (v := i + 6) (lv' := [(3, .int (i + 6)), (0, .ref b), (1, .ref x), (2, .ref mo)]) hx hb dL_law_1475 hl (k := 3) rfl rfl (by decide) rfl (fun ls hl => ?_)
      refine lv_goto (tgt := 18) hx hb dL_law_1478 (by decide) ?_
      exact ih _ _ _ _ _ _ _ _ h Y (lv_sub hl [1, 2, 3, 0] rfl) (by omega) (by omega)
/-- the law as a function: from an empty heap whose next address is z -/
def F_law (xs : Nat → Int32) (L z : Nat) : Option Unit := Option.bind (F_X10_init (z + 1) (va_up (fun _ => none) z (some (.inr (.inr (.inr (9, [.null, .null, .null, .null, .null, .null, .int 0, .int 0, .int 0, .int 0])))))) z) fun q => Option.bind (F_X11_init (q.1 + 1) (va_up q.2 q.1 (some (.inr (.inr (.inr (10, [.int 0, .int 0, .null, .null, .null, .int 0, .null, .null, .int 0, .null, .int 0, .int 0, .int 0, .null, .null, .int 0, .int 0, .null, .int 0, .null, .int 0, .null, .null, .null, .null, .null, .null, .null, .null, .null, .null, .null])))))) q.1) fun r => L_law xs L z q.1 513 r.1 r.2 0
set_option maxRecDepth 100000 in
set_option maxHeartbeats 4000000 in
theorem w_law_start {p : Program} {l : Launch} {e : Env} {s : State} {m : MethodId} {below : List Frame} {meth : Method} {c : Code} {G : xG} {b L : Nat} {xs : Nat → Int32} {ls : Array Slot} (X : xC G p m c s #[Value.ref b] RL cL_law 4) (hX : xSc G s b L xs) (hr : meth.sig.returnType = ret) (hlocks : meth.locks = false) (hbs : xbs G = s.heap.size) (h : F_law xs L s.heap.size = some ()) (Y : xY G s.heap.size (fun _ => none) s s.heap []) (hl : lv_has ls 4 [(0, .ref b)]) : W p l e room_1 s m #[Value.ref b] below meth c s.heap [] 0 0 (lw_Z below #[Value.ref b] s) (F0 m 0 ls []) := by
  have hx := X.1.1
  have hb := X.1.2.1
  unfold F_law at h
  refine q_new X Y no_L_7 (Nat.le_of_ble_eq_true rfl) (Nat.le_of_ble_eq_true rfl) dL_law_0 (fun H Y => ?_)
  refine lv_dup hx hb dL_law_3 rfl ?_
  replace h := xb h
  obtain ⟨q, eq, h⟩ := h
  refine q_callI X Y hl.1 (rest := [.ref s.heap.size]) (As := []) (c_X10_init l G _ _ _ _ eq) cd_X10_init li_L_9 ⟨(Nat.le_of_ble_eq_true rfl), (Nat.le_of_ble_eq_true rfl)⟩ ⟨(Nat.le_of_ble_eq_true rfl), (Nat.le_of_ble_eq_true rfl)⟩ rfl rfl (Nat.le_of_ble_eq_true rfl) dL_law_4 (fun H locs Y => ?_)
  refine lv_astore_n (lv' := [(1, .ref s.heap.size), (0, .ref b)]) hx hb dL_law_7 rfl hl (by decide) rfl (fun ls hl => ?_)
  refine W.widen (k := 19) (n := 684) (Nat.le_of_ble_eq_true rfl) (Nat.le_of_ble_eq_true rfl) ?_
  refine q_new X Y no_L_10 (Nat.le_of_ble_eq_true rfl) (Nat.le_of_ble_eq_true rfl) dL_law_8 (fun H Y => ?_)
  refine lv_dup hx hb dL_law_11 rfl ?_
  replace h := xb h
  obtain ⟨r, er, h⟩ := h
  refine q_callI X Y hl.1 (rest := [.ref q.1]) (As := []) (c_X11_init l G _ _ _ _ er) cd_X11_init li_L_12 ⟨(Nat.le_of_ble_eq_true rfl), (Nat.le_of_ble_eq_true rfl)⟩ ⟨(Nat.le_of_ble_eq_true rfl), (Nat.le_of_ble_eq_true rfl)⟩ rfl rfl (Nat.le_of_ble_eq_true rfl) dL_law_12 (fun H locs Y => ?_)
  refine lv_astore_n (lv' := [(2, .ref q.1), (1, .ref s.heap.size), (0, .ref b)]) hx hb dL_law_15 rfl hl (by decide) rfl (fun ls hl => ?_)
  refine lv_iconst (v := 0) hx hb dL_law_16 (by decide) ?_
  refine lv_istore_n (lv' := [(3, .int 0), (2, .ref q.1), (1, .ref s.heap.size), (0, .ref b)]) hx hb dL_law_17 rfl hl (by decide) rfl (fun ls hl => ?_)
  refine W.widen (k := 50) (n := 10000) (Nat.le_of_ble_eq_true rfl) (Nat.le_of_ble_eq_true rfl) ?_
  exact w_law_loop X hX hr hlocks hbs 513 _ _ _ _ _ _ _ _ h Y (lv_sub hl [3, 2, 1, 0] rfl) (Nat.le_of_ble_eq_true rfl) (Nat.le_of_ble_eq_true rfl)

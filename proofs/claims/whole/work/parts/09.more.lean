section XL
variable {p : Program} {l : Launch} {e : Env} {R : Room} {s : State} {m : MethodId} {args : Array Value} {below : List Frame} {meth : Method} {c : Code} {H : Heap} {locs : List Loc} {cells slots : Nat} {Q : State → Prop}
variable {cc : ByteArray} {pc : Nat} {ls : Array Slot} {rest st0 : List Value} {G : xG} {z : Nat} {f : xHp} {own : String} {nL : Nat}
theorem q_aload_n (hx : p.tables.exec = Jvm.exec) (hb : c.code = cc) {k : Fin 4} {i : Nat} {r : Option Nat} (hdg : decode cc pc = .ok (.aload_n k, 1)) (hi : (k : Nat) = i) (hl : ls[i]? = some (.val (va_rf r)))
    (kk : W p l e R s m args below meth c H locs cells slots Q (F0 m (pc + 1) ls (va_rf r :: rest))) : W p l e R s m args below meth c H locs cells slots Q (F0 m pc ls rest) := by
  cases r with
  | none => exact lv_aload_nN hx hb hdg hi hl kk
  | some a => exact lv_aload_n hx hb hdg hi hl kk
theorem q_aload (hx : p.tables.exec = Jvm.exec) (hb : c.code = cc) {i : Nat} {r : Option Nat} (hdg : decode cc pc = .ok (.aload i, 2)) (hl : ls[i]? = some (.val (va_rf r)))
    (kk : W p l e R s m args below meth c H locs cells slots Q (F0 m (pc + 2) ls (va_rf r :: rest))) : W p l e R s m args below meth c H locs cells slots Q (F0 m pc ls rest) := by
  cases r with
  | none => exact lv_aloadN hx hb hdg hl kk
  | some a => exact lv_aload hx hb hdg hl kk
theorem q_astore_n (hx : p.tables.exec = Jvm.exec) (hb : c.code = cc) {k : Fin 4} {i : Nat} {r : Option Nat} {lv lv' : List (Nat × Value)} (hdg : decode cc pc = .ok (.astore_n k, 1)) (hi : (k : Nat) = i) (h : lv_has ls nL lv) (hn : i < nL) (hl : (i, va_rf r) :: lv.filter (fun q => !(q.1 == i) && !(q.1 + 1 == i && q.2.category == 2)) = lv')
    (kk : ∀ ls' : Array Slot, lv_has ls' nL lv' → W p l e R s m args below meth c H locs cells slots Q (F0 m (pc + 1) ls' rest)) : W p l e R s m args below meth c H locs cells slots Q (F0 m pc ls (va_rf r :: rest)) := by
  cases r with
  | none => exact lv_astore_nN hx hb hdg hi h hn hl kk
  | some a => exact lv_astore_n hx hb hdg hi h hn hl kk
theorem q_astore (hx : p.tables.exec = Jvm.exec) (hb : c.code = cc) {i : Nat} {r : Option Nat} {lv lv' : List (Nat × Value)} (hdg : decode cc pc = .ok (.astore i, 2)) (h : lv_has ls nL lv) (hn : i < nL) (hl : (i, va_rf r) :: lv.filter (fun q => !(q.1 == i) && !(q.1 + 1 == i && q.2.category == 2)) = lv')
    (kk : ∀ ls' : Array Slot, lv_has ls' nL lv' → W p l e R s m args below meth c H locs cells slots Q (F0 m (pc + 2) ls' rest)) : W p l e R s m args below meth c H locs cells slots Q (F0 m pc ls (va_rf r :: rest)) := by
  cases r with
  | none => exact lv_astoreN hx hb hdg h hn hl kk
  | some a => exact lv_astore hx hb hdg h hn hl kk
theorem q_ifnull (hx : p.tables.exec = Jvm.exec) (hb : c.code = cc) {r : Option Nat} {off : Int} {tgt : Nat} (hdg : decode cc pc = .ok (.ifnull off, 3)) (ht : (pc : Int) + off = (tgt : Int))
    (kn : r = none → W p l e R s m args below meth c H locs cells slots Q (F0 m tgt ls rest)) (ks : ∀ a : Nat, r = some a → W p l e R s m args below meth c H locs cells slots Q (F0 m (pc + 3) ls rest)) : W p l e R s m args below meth c H locs cells slots Q (F0 m pc ls (va_rf r :: rest)) := by
  cases r with
  | none => exact lv_ifnullN hx hb hdg ht (kn rfl)
  | some a => exact lv_ifnull hx hb hdg (ks a rfl)
theorem q_ifnonnull (hx : p.tables.exec = Jvm.exec) (hb : c.code = cc) {r : Option Nat} {off : Int} {tgt : Nat} (hdg : decode cc pc = .ok (.ifnonnull off, 3)) (ht : (pc : Int) + off = (tgt : Int))
    (kn : r = none → W p l e R s m args below meth c H locs cells slots Q (F0 m (pc + 3) ls rest)) (ks : ∀ a : Nat, r = some a → W p l e R s m args below meth c H locs cells slots Q (F0 m tgt ls rest)) : W p l e R s m args below meth c H locs cells slots Q (F0 m pc ls (va_rf r :: rest)) := by
  cases r with
  | none => exact lv_ifnonnullN hx hb hdg (kn rfl)
  | some a => exact lv_ifnonnull hx hb hdg ht (ks a rfl)
theorem xcmp_lt (x y : Int64) : lg_cmp x y < 0 ↔ x < y := by
  rw [← Int32.not_le, lg_cmp_ge, Int64.not_le]
theorem xcmp_eq (x y : Int64) : lg_cmp x y = 0 ↔ x = y := by
  unfold lg_cmp
  by_cases h1 : x > y
  · rw [if_pos h1]
    exact ⟨fun h => absurd h (by decide), fun h => by subst h; exact absurd h1 (Int64.lt_irrefl)⟩
  · rw [if_neg h1]
    by_cases h2 : x = y
    · rw [if_pos h2]; exact ⟨fun _ => h2, fun _ => rfl⟩
    · rw [if_neg h2]; exact ⟨fun h => absurd h (by decide), fun h => absurd h h2⟩
theorem xcmp_gt (x y : Int64) : 0 < lg_cmp x y ↔ y < x := by
  unfold lg_cmp
  by_cases h1 : x > y
  · rw [if_pos h1]; exact ⟨fun _ => h1, fun _ => by decide⟩
  · rw [if_neg h1]
    by_cases h2 : x = y
    · rw [if_pos h2]; exact ⟨fun h => absurd h (by decide), fun h => absurd h h1⟩
    · rw [if_neg h2]; exact ⟨fun h => absurd h (by decide), fun h => absurd h h1⟩
theorem xcmp_le (x y : Int64) : lg_cmp x y ≤ 0 ↔ x ≤ y := by
  rw [← Int32.not_lt, xcmp_gt, Int64.not_lt]
theorem q_lcmp_lt (hx : p.tables.exec = Jvm.exec) (hb : c.code = cc) {x y : Int64} {off : Int} {tgt : Nat} (hd : decode cc pc = .ok (.lcmp, 1)) (hdg : decode cc (pc + 1) = .ok (.ifCond .lt off, 3)) (ht : ((pc + 1 : Nat) : Int) + off = (tgt : Int))
    (kt : x < y → W p l e R s m args below meth c H locs cells slots Q (F0 m tgt ls rest)) (kf : ¬ x < y → W p l e R s m args below meth c H locs cells slots Q (F0 m (pc + 1 + 3) ls rest)) : W p l e R s m args below meth c H locs cells slots Q (F0 m pc ls (.long y :: .long x :: rest)) :=
  W.lcmp hx hb hd (lv_if_lt hx hb hdg ht (fun h => kt ((xcmp_lt x y).mp h)) (fun h => kf (fun q => h ((xcmp_lt x y).mpr q))))
theorem q_lcmp_ge (hx : p.tables.exec = Jvm.exec) (hb : c.code = cc) {x y : Int64} {off : Int} {tgt : Nat} (hd : decode cc pc = .ok (.lcmp, 1)) (hdg : decode cc (pc + 1) = .ok (.ifCond .ge off, 3)) (ht : ((pc + 1 : Nat) : Int) + off = (tgt : Int))
    (kt : y ≤ x → W p l e R s m args below meth c H locs cells slots Q (F0 m tgt ls rest)) (kf : ¬ y ≤ x → W p l e R s m args below meth c H locs cells slots Q (F0 m (pc + 1 + 3) ls rest)) : W p l e R s m args below meth c H locs cells slots Q (F0 m pc ls (.long y :: .long x :: rest)) :=
  W.lcmp hx hb hd (lv_if_ge hx hb hdg ht (fun h => kt ((lg_cmp_ge x y).mp h)) (fun h => kf (fun q => h ((lg_cmp_ge x y).mpr q))))
theorem q_lcmp_gt (hx : p.tables.exec = Jvm.exec) (hb : c.code = cc) {x y : Int64} {off : Int} {tgt : Nat} (hd : decode cc pc = .ok (.lcmp, 1)) (hdg : decode cc (pc + 1) = .ok (.ifCond .gt off, 3)) (ht : ((pc + 1 : Nat) : Int) + off = (tgt : Int))
    (kt : y < x → W p l e R s m args below meth c H locs cells slots Q (F0 m tgt ls rest)) (kf : ¬ y < x → W p l e R s m args below meth c H locs cells slots Q (F0 m (pc + 1 + 3) ls rest)) : W p l e R s m args below meth c H locs cells slots Q (F0 m pc ls (.long y :: .long x :: rest)) :=
  W.lcmp hx hb hd (lv_if_gt hx hb hdg ht (fun h => kt ((xcmp_gt x y).mp h)) (fun h => kf (fun q => h ((xcmp_gt x y).mpr q))))
theorem q_lcmp_le (hx : p.tables.exec = Jvm.exec) (hb : c.code = cc) {x y : Int64} {off : Int} {tgt : Nat} (hd : decode cc pc = .ok (.lcmp, 1)) (hdg : decode cc (pc + 1) = .ok (.ifCond .le off, 3)) (ht : ((pc + 1 : Nat) : Int) + off = (tgt : Int))
    (kt : x ≤ y → W p l e R s m args below meth c H locs cells slots Q (F0 m tgt ls rest)) (kf : ¬ x ≤ y → W p l e R s m args below meth c H locs cells slots Q (F0 m (pc + 1 + 3) ls rest)) : W p l e R s m args below meth c H locs cells slots Q (F0 m pc ls (.long y :: .long x :: rest)) :=
  W.lcmp hx hb hd (lv_if_le hx hb hdg ht (fun h => kt ((xcmp_le x y).mp h)) (fun h => kf (fun q => h ((xcmp_le x y).mpr q))))
theorem q_lcmp_eq (hx : p.tables.exec = Jvm.exec) (hb : c.code = cc) {x y : Int64} {off : Int} {tgt : Nat} (hd : decode cc pc = .ok (.lcmp, 1)) (hdg : decode cc (pc + 1) = .ok (.ifCond .eq off, 3)) (ht : ((pc + 1 : Nat) : Int) + off = (tgt : Int))
    (kt : x = y → W p l e R s m args below meth c H locs cells slots Q (F0 m tgt ls rest)) (kf : ¬ x = y → W p l e R s m args below meth c H locs cells slots Q (F0 m (pc + 1 + 3) ls rest)) : W p l e R s m args below meth c H locs cells slots Q (F0 m pc ls (.long y :: .long x :: rest)) :=
  W.lcmp hx hb hd (lv_if_eq hx hb hdg ht (fun h => kt ((xcmp_eq x y).mp h)) (fun h => kf (fun q => h ((xcmp_eq x y).mpr q))))
theorem q_lcmp_ne (hx : p.tables.exec = Jvm.exec) (hb : c.code = cc) {x y : Int64} {off : Int} {tgt : Nat} (hd : decode cc pc = .ok (.lcmp, 1)) (hdg : decode cc (pc + 1) = .ok (.ifCond .ne off, 3)) (ht : ((pc + 1 : Nat) : Int) + off = (tgt : Int))
    (kt : ¬ x = y → W p l e R s m args below meth c H locs cells slots Q (F0 m tgt ls rest)) (kf : x = y → W p l e R s m args below meth c H locs cells slots Q (F0 m (pc + 1 + 3) ls rest)) : W p l e R s m args below meth c H locs cells slots Q (F0 m pc ls (.long y :: .long x :: rest)) :=
  W.lcmp hx hb hd (lv_if_ne hx hb hdg ht (fun h => kt (fun q => h ((xcmp_eq x y).mpr q))) (fun h => kf ((xcmp_eq x y).mp h)))
/-- a row of longs cloned, its length within a bound -/
def hCl (f : xHp) (a b : Nat) : Option (Nat × (Nat → Int64)) := match f a with
  | some (.inr (.inl (n, g))) => if b < n then none else some (n, g)
  | _ => none
def xLC (own : String) (index : Nat) : Prop := Cond.methodLink own index ⟨"[J", "clone", "()Ljava/lang/Object;"⟩ ∈ xws ∧ Cond.sameMethod "[J" "java/lang/Object" "clone" "()Ljava/lang/Object;" ∈ xws ∧ Cond.native ⟨"java/lang/Object", "clone", "()Ljava/lang/Object;"⟩ ∈ xws ∧ Cond.instanceMethod ⟨"java/lang/Object", "clone", "()Ljava/lang/Object;"⟩ ∈ xws ∧ Cond.selects "[J" ⟨"[J", "clone", "()Ljava/lang/Object;"⟩ ⟨"java/lang/Object", "clone", "()Ljava/lang/Object;"⟩ ∈ xws ∧ Cond.castable "[J" "java/lang/Cloneable" ∈ xws
theorem q_clone (X : xC G p m c s args own cc nL) (Y : xY G z f s H locs) (hls : ls.size = nL) {index a b n : Nat} {g : Nat → Int64} (hL : xLC own index) (e1 : hCl f a b = some (n, g))
    (hframes : 1 ≤ R.frames) (hlocals : (rest.map fun v => v.category).sum + 14 ≤ R.locals) (hcells : cells + 1 ≤ R.cells) (hslots : slots + b ≤ R.slots) (hdg : decode cc pc = .ok (.invokevirtual index, 3))
    (kk : ∀ (H1 : Heap), xY G (z + 1) (va_up f z (some (.inr (.inl (n, g))))) s H1 locs → W p l e R s m args below meth c H1 locs (cells + 1) (slots + b) Q (F0 m (pc + 3) ls (.ref z :: rest))) : W p l e R s m args below meth c H locs cells slots Q (F0 m pc ls (.ref a :: rest)) := by
  unfold hCl at e1
  split at e1
  · rename_i n' g' hfa
    split at e1
    · cases e1
    · rename_i hb
      cases e1
      obtain ⟨hl1, hl2, hl3, hl4, hl5, hl6⟩ := hL
      have hts := X.1.2.2.2.2
      have hz := Y.1.1
      have hnm : s.vm.findClass "[J" = some (xcy G 1) := va_nm_long (X.2.1.2 1 _ rfl).2
      have hsz : (vp_cell (xcy G 1) (n, .inr (.inl g))).slots.size = n := arrV_size _ _ _
      obtain ⟨c0, t0', f1, f2, f3⟩ := Cond.castable_spec (hts _ hl6)
      cases hnm.symm.trans f1
      refine W.widen (k := cells) (n := slots) (Nat.le_refl _) (Nat.le_refl _) ?_
      intro T hT XX
      have hcellT : T.heap[a]? = some (vp_cell (xcy G 1) (n, .inr (.inl g))) := by rw [hT]; exact Y.1.atJ hfa
      obtain ⟨-, kA, hkA, comp, hkind⟩ := State.isArrayOf_alike XX.warmed.alike ((X.2.1.2 1 _ rfl).1 0 (fun _ => .null))
      obtain ⟨-, kS, hkS, compS, hkindS⟩ := (X.2.1.2 1 _ rfl).1 0 (fun _ => .null)
      obtain ⟨vm', X', st⟩ := XX.cloneArray X.1.1 X.1.2.2.2.1 (hts _ hl1) (hts _ hl2) (hts _ hl3) (hts _ hl4) (hts _ hl5) (a := a) (cell := vp_cell (xcy G 1) (n, .inr (.inl g))) hcellT (fun k h => by cases h) (fun h => by cases h) hnm f2 f3
        (fun i v hv => by
          have hk' : T.vm.classes[xcy G 1]? = some kA := hkA
          have := va_fit (ty := .long) (cA := xcy G 1) (n := n) (F := fun j => .long (g j)) (fun _ _ => rfl) i v hv
          show State.fitsSlot _ (xcy G 1) _ _ _ = true
          simpa [State.fitsSlot, State.slotType?, hk', hkind] using this)
        (g := F0 m pc ls (.ref a :: rest)) rfl (by rw [X.1.2.2.1]; exact hls) rfl (by rw [X.1.2.1]; exact hdg) hframes (by show 2 * 0 + _ + 14 ≤ _; omega) hcells (by rw [hsz]; omega) (hloader := Vm.clonesLoader_of_array hkS hkindS)
      have hcellE : ({ cls := (vp_cell (xcy G 1) (n, .inr (.inl g))).cls, slots := (vp_cell (xcy G 1) (n, .inr (.inl g))).slots } : Cell) = vp_cell (xcy G 1) (n, .inr (.inl g)) := rfl
      rw [hcellE, hsz] at X'
      generalize hH1 : H.push (vp_cell (xcy G 1) (n, .inr (.inl g))) = H1
      have z1 : H1.size = H.size + 1 := by rw [← hH1, Array.size_push]
      have e1 : H1[H.size]? = some (vp_cell (xcy G 1) (n, .inr (.inl g))) := by rw [← hH1, Array.getElem?_push_size]
      have o1 : ∀ q : Nat, q < H.size → H1[q]? = H[q]? := fun q hq => by rw [← hH1, Array.getElem?_push, if_neg (Nat.ne_of_lt hq)]
      have K := kk H1 ⟨Y.1.push (by show H1[z]? = some _; rw [← hz]; exact e1) (by rw [← hz]; exact z1) (by rw [← hz]; exact o1), xS.push Y z1 o1, Y.2.2⟩
      obtain ⟨t, b1, b2⟩ := (W.widen (k := cells + 1) (n := slots + b) (cells := cells + 1) (slots := slots + n) (Nat.le_refl _) (by omega) K) ((T.setVm vm').pushCell (vp_cell (xcy G 1) (n, .inr (.inl g)))) (by rw [← hH1, ← hT]; rfl) X'
      refine ⟨t, st t ?_, b2⟩
      rw [hcellE, hT, hz]
      exact b1
  · cases e1
theorem q_castJ (X : xC G p m c s args own cc nL) (Y : xY G z f s H locs) {index a n : Nat} {g : Nat → Int64} (hL : Cond.classLink own index "[J" ∈ xws) (e1 : f a = some (.inr (.inl (n, g)))) (hdg : decode cc pc = .ok (.checkcast index, 3))
    (kk : W p l e R s m args below meth c H locs cells slots Q (F0 m (pc + 3) ls (.ref a :: rest))) : W p l e R s m args below meth c H locs cells slots Q (F0 m pc ls (.ref a :: rest)) :=
  va_castA X.1.1 X.1.2.1 X.1.2.2.2.1 (X.1.2.2.2.2 _ hL) (Y.1.one e1) 0 rfl (va_nm_long (X.2.1.2 1 _ rfl).2) hdg kk
/-- instanceof: of an object of kind c, whether it is one of the class of kind t (0 corners, 3 parts, 6 span, 7 squares) -/
def xis (t c : Nat) : Option Int32 := if c = t then some 1 else if (t = 7 ∧ c = 6) ∨ (t = 0 ∧ c = 3) then some 1 else if (c = 0 ∨ c = 3 ∨ c = 6 ∨ c = 7) then some 0 else none
theorem xclass (X : xC G p m c s args own cc nL) {ci : Nat} {C : String} {T : u_T} {N : Nat} (hc : vwCl[ci]? = some (C, T, N)) : ClassAt s C (G.1 ci) := (X.2.1.1 ci _ hc).2
theorem q_inst (X : xC G p m c s args own cc nL) (Y : xY G z f s H locs) {index a t ci : Nat} {nm : String} {v : Int32} (ht : (t = 0 ∧ nm = RX0) ∨ (t = 3 ∧ nm = RX3) ∨ (t = 6 ∧ nm = RX7) ∨ (t = 7 ∧ nm = RX8)) (hL : Cond.classLink own index nm ∈ xws) (h1 : Cond.castable RX7 RX8 ∈ xws) (h2 : Cond.castable RX3 RX0 ∈ xws) (hk : hKd f a = some ci) (e1 : xis t ci = some v) (hdg : decode cc pc = .ok (.instanceof index, 3))
    (kk : W p l e R s m args below meth c H locs cells slots Q (F0 m (pc + 3) ls (.int v :: rest))) : W p l e R s m args below meth c H locs cells slots Q (F0 m pc ls (.ref a :: rest)) := by
  have hts := X.1.2.2.2.2
  have hx := X.1.1
  have hb := X.1.2.1
  have ho := X.1.2.2.2.1
  have no : ∀ q ∈ xnc, va_Nc q.1 q.2 s := X.2.2.2
  unfold xis at e1
  rcases ht with ⟨rfl, rfl⟩ | ⟨rfl, rfl⟩ | ⟨rfl, rfl⟩ | ⟨rfl, rfl⟩
  · split at e1
    · rename_i h; subst h; cases e1
      exact va_instS hx hb ho (hts _ hL) (xclass (ci := 0) X rfl) (xRec X Y hk rfl) hdg kk
    · split at e1
      · rename_i h; cases e1
        have : ci = 3 := by omega
        subst this
        exact va_instY hx hb ho (hts _ hL) (va_Nw.of rfl (hts _ h2)) (xRec X Y hk rfl) hdg kk
      · split at e1
        · rename_i h0 h3 h4; cases e1
          rcases (show ci = 6 ∨ ci = 7 by omega) with rfl | rfl
          · exact va_instNo hx hb ho (hts _ hL) (no (RX7, RX0) (by simp [xnc])) (xRec X Y hk rfl) hdg kk
          · exact va_instNo hx hb ho (hts _ hL) (no (RX8, RX0) (by simp [xnc])) (xRec X Y hk rfl) hdg kk
        · cases e1
  · split at e1
    · rename_i h; subst h; cases e1
      exact va_instS hx hb ho (hts _ hL) (xclass (ci := 3) X rfl) (xRec X Y hk rfl) hdg kk
    · split at e1
      · rename_i h; omega
      · split at e1
        · rename_i h0 h3 h4; cases e1
          rcases (show ci = 0 ∨ ci = 6 ∨ ci = 7 by omega) with rfl | rfl | rfl
          · exact va_instNo hx hb ho (hts _ hL) (no (RX0, RX3) (by simp [xnc])) (xRec X Y hk rfl) hdg kk
          · exact va_instNo hx hb ho (hts _ hL) (no (RX7, RX3) (by simp [xnc])) (xRec X Y hk rfl) hdg kk
          · exact va_instNo hx hb ho (hts _ hL) (no (RX8, RX3) (by simp [xnc])) (xRec X Y hk rfl) hdg kk
        · cases e1
  · split at e1
    · rename_i h; subst h; cases e1
      exact va_instS hx hb ho (hts _ hL) (xclass (ci := 6) X rfl) (xRec X Y hk rfl) hdg kk
    · split at e1
      · rename_i h; omega
      · split at e1
        · rename_i h0 h3 h4; cases e1
          rcases (show ci = 0 ∨ ci = 3 ∨ ci = 7 by omega) with rfl | rfl | rfl
          · exact va_instNo hx hb ho (hts _ hL) (no (RX0, RX7) (by simp [xnc])) (xRec X Y hk rfl) hdg kk
          · exact va_instNo hx hb ho (hts _ hL) (no (RX3, RX7) (by simp [xnc])) (xRec X Y hk rfl) hdg kk
          · exact va_instNo hx hb ho (hts _ hL) (no (RX8, RX7) (by simp [xnc])) (xRec X Y hk rfl) hdg kk
        · cases e1
  · split at e1
    · rename_i h; subst h; cases e1
      exact va_instS hx hb ho (hts _ hL) (xclass (ci := 7) X rfl) (xRec X Y hk rfl) hdg kk
    · split at e1
      · rename_i h; cases e1
        have : ci = 6 := by omega
        subst this
        exact va_instY hx hb ho (hts _ hL) (va_Nw.of rfl (hts _ h1)) (xRec X Y hk rfl) hdg kk
      · split at e1
        · rename_i h0 h3 h4; cases e1
          rcases (show ci = 0 ∨ ci = 3 by omega) with rfl | rfl
          · exact va_instNo hx hb ho (hts _ hL) (no (RX0, RX8) (by simp [xnc])) (xRec X Y hk rfl) hdg kk
          · exact va_instNo hx hb ho (hts _ hL) (no (RX3, RX8) (by simp [xnc])) (xRec X Y hk rfl) hdg kk
        · cases e1
theorem xneI {x v : Int32} {k : Int} (hv : v.toInt = k) (h : ¬ x = v) : x.toInt ≠ k := fun q => h (Int32.toInt_inj.mp (q.trans hv.symm))
/-- what a branch of a walk over an Option says -/
theorem xb {α β : Type} {x : Option α} {g : α → Option β} {b : β} (h : x.bind g = some b) : ∃ a, x = some a ∧ g a = some b := Option.bind_eq_some_iff.mp h
/-- booleans that are answered -/
def hZ (v : Int32) : Option Int32 := if v = 0 ∨ v = 1 then some v else none
theorem hZ_of {v w : Int32} (h : hZ v = some w) : w = v ∧ narrow .boolean (.int v) = .int v := by
  unfold hZ at h
  split at h
  · rename_i hv
    cases h
    rcases hv with rfl | rfl
    · exact ⟨rfl, rfl⟩
    · exact ⟨rfl, rfl⟩
  · cases h
/-- how many turns of a loop are looked at -/
def xfuel : Nat := 4096
end XL

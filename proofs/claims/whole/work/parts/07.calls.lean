/-! new cells, copies, statics' rows -/
section XN
variable {p : Program} {l : Launch} {e : Env} {R : Room} {s : State} {m : MethodId} {args : Array Value} {below : List Frame} {meth : Method} {c : Code} {H : Heap} {locs : List Loc} {cells slots : Nat} {Q : State → Prop}
variable {cc : ByteArray} {pc : Nat} {ls : Array Slot} {rest : List Value} {G : xG} {z : Nat} {f : xHp} {own : String} {nL : Nat}
theorem hNw_of {n : Int32} {b N : Nat} (h : hNw n b = some N) : ¬ n < 0 ∧ n.toNatClampNeg = N ∧ N ≤ b := by
  unfold hNw at h
  split at h
  · cases h
  · rename_i hn
    cases h
    exact ⟨fun q => hn (Or.inl q), rfl, Nat.not_lt.mp fun q => hn (Or.inr q)⟩
theorem xS.push {H H1 : Heap} {locs : List Loc} (h : xY G z f s H locs) (z1 : H1.size = H.size + 1) (o1 : ∀ q : Nat, q < H.size → H1[q]? = H[q]?) : va_S (xA G) s.heap H1 locs :=
  ⟨Nat.le_trans h.2.1.1 (by omega), fun x h1 h2 => (o1 x (Nat.lt_of_lt_of_le h1 h.2.1.1)).trans (h.2.1.2.1 x h1 h2), h.2.1.2.2⟩
theorem q_newI (X : xC G p m c s args own cc nL) (Y : xY G z f s H locs) {n : Int32} {N b : Nat} (e1 : hNw n b = some N) (hb : b ≤ 6400) (harr : Cond.arrayClass .int ∈ xws) (hcells : cells + 1 ≤ R.cells) (hslots : slots + b ≤ R.slots) (hdg : decode cc pc = .ok (.newarray .int, 2))
    (kk : ∀ (H1 : Heap), xY G (z + 1) (va_up f z (some (.inl (N, fun _ => 0)))) s H1 locs → W p l e R s m args below meth c H1 locs (cells + 1) (slots + b) Q (F0 m (pc + 2) ls (.ref z :: rest))) : W p l e R s m args below meth c H locs cells slots Q (F0 m pc ls (.int n :: rest)) := by
  obtain ⟨h1, h2, h3⟩ := hNw_of e1
  have hz := Y.1.1
  refine va_newaK (atype := .int) X.1.1 X.1.2.1 (X.1.2.2.2.2 _ harr) rfl hdg rfl h1 h2 (by show N * 4 ≤ _; omega) hcells (by omega) hz fun H1 cA e1 z1 o1 hAr hNm => ?_
  refine W.widen (Nat.le_refl _) (Nat.add_le_add_left h3 slots) (kk H1 ⟨Y.1.push ?_ z1 o1, xS.push Y (by rw [hz]; exact z1) (by rw [hz]; exact o1), Y.2.2⟩)
  have hc : cA = xcy G 0 := Option.some.inj (hNm.symm.trans (X.2.1.2 0 _ rfl).2)
  show H1[z]? = some (vp_cell (xcy G 0) (N, .inl _))
  rw [← hc]
  exact e1
theorem q_newJ (X : xC G p m c s args own cc nL) (Y : xY G z f s H locs) {n : Int32} {N b : Nat} (e1 : hNw n b = some N) (hb : b ≤ 6400) (harr : Cond.arrayClass .long ∈ xws) (hcells : cells + 1 ≤ R.cells) (hslots : slots + b ≤ R.slots) (hdg : decode cc pc = .ok (.newarray .long, 2))
    (kk : ∀ (H1 : Heap), xY G (z + 1) (va_up f z (some (.inr (.inl (N, fun _ => 0))))) s H1 locs → W p l e R s m args below meth c H1 locs (cells + 1) (slots + b) Q (F0 m (pc + 2) ls (.ref z :: rest))) : W p l e R s m args below meth c H locs cells slots Q (F0 m pc ls (.int n :: rest)) := by
  obtain ⟨h1, h2, h3⟩ := hNw_of e1
  have hz := Y.1.1
  refine va_newaK (atype := .long) X.1.1 X.1.2.1 (X.1.2.2.2.2 _ harr) rfl hdg rfl h1 h2 (by show N * 8 ≤ _; omega) hcells (by omega) hz fun H1 cA e1 z1 o1 hAr hNm => ?_
  refine W.widen (Nat.le_refl _) (Nat.add_le_add_left h3 slots) (kk H1 ⟨Y.1.push ?_ z1 o1, xS.push Y (by rw [hz]; exact z1) (by rw [hz]; exact o1), Y.2.2⟩)
  have hc : cA = xcy G 1 := Option.some.inj (hNm.symm.trans (X.2.1.2 1 _ rfl).2)
  show H1[z]? = some (vp_cell (xcy G 1) (N, .inr (.inl _)))
  rw [← hc]
  exact e1
theorem q_newQ (X : xC G p m c s args own cc nL) (Y : xY G z f s H locs) {n : Int32} {N b k index : Nat} {C : String} (e1 : hNw n b = some N) (hb : b ≤ 6400) (hk : (xtys G)[k]? = some (xcy G k, .object C)) (hcl : Cond.classLink own index C ∈ xws) (hov : Cond.arrayOver (.object C) ∈ xws) (hcells : cells + 1 ≤ R.cells) (hslots : slots + b ≤ R.slots) (hdg : decode cc pc = .ok (.anewarray index, 3))
    (kk : ∀ (H1 : Heap), xY G (z + 1) (va_up f z (some (.inr (.inr (.inl (k, N, fun _ => none)))))) s H1 locs → W p l e R s m args below meth c H1 locs (cells + 1) (slots + b) Q (F0 m (pc + 3) ls (.ref z :: rest))) : W p l e R s m args below meth c H locs cells slots Q (F0 m pc ls (.int n :: rest)) := by
  obtain ⟨h1, h2, h3⟩ := hNw_of e1
  have hz := Y.1.1
  subst h2
  refine W.anew X.1.1 X.1.2.1 X.1.2.2.2.1 (X.1.2.2.2.2 _ hcl) (X.1.2.2.2.2 _ hov) rfl hdg rfl h1 (by omega) hcells (by omega) fun cA kA comp f1 f2 f3 f4 => ?_
  generalize hH1 : H.push ({ cls := cA, slots := Array.replicate n.toNatClampNeg .null, vm := .none } : Cell) = H1
  have z1 : H1.size = H.size + 1 := by rw [← hH1, Array.size_push]
  have e2 : H1[H.size]? = some (arrV cA n.toNatClampNeg (fun _ => .null)) := by rw [← hH1, Array.getElem?_push_size, ← arrV_new]
  have o1 : ∀ q : Nat, q < H.size → H1[q]? = H[q]? := fun q hq => by rw [← hH1, Array.getElem?_push, if_neg (Nat.ne_of_lt hq)]
  have hc : cA = xcy G k := by
    obtain ⟨kA', comp', -, -, -, g4⟩ := (X.2.1.2 k _ hk).2
    exact Option.some.inj (f1.symm.trans g4)
  refine W.widen (Nat.le_refl _) (Nat.add_le_add_left h3 slots) ?_
  have hK := kk H1 ⟨Y.1.push ?_ (by rw [← hz]; exact z1) (by rw [← hz]; exact o1), xS.push Y z1 o1, Y.2.2⟩
  · rw [← hz] at hK
    exact hK
  · show H1[z]? = some (vp_cell (xcy G k) (n.toNatClampNeg, .inr (.inr (.inr (.inr _)))))
    rw [← hc, ← hz]
    exact e2
/-- a class's objects can be made -/
def xNO (own : String) (index ci : Nat) (N : Nat) (fs : List Value) : Prop := ∃ (C : String) (T : u_T) (ty : Nat → FieldType), vwCl[ci]? = some (C, T, N) ∧ (∀ w ∈ u_ws C T N, w ∈ xws) ∧ (∀ k, k < N → parseFieldDescriptor (T k).2.2.1 = some (ty k)) ∧ Cond.classLink own index C ∈ xws ∧ Cond.instantiable C N ∈ xws ∧ Cond.initialized C ∈ xws ∧ (∀ j, j < N → defaultValue (ty j) = vp_V fs j)
theorem q_new (X : xC G p m c s args own cc nL) (Y : xY G z f s H locs) {index ci N : Nat} {fs : List Value} (hL : xNO own index ci N fs) (hcells : cells + 1 ≤ R.cells) (hslots : slots + N ≤ R.slots) (hdg : decode cc pc = .ok (.new index, 3))
    (kk : ∀ (H1 : Heap), xY G (z + 1) (va_up f z (some (.inr (.inr (.inr (ci, fs)))))) s H1 locs → W p l e R s m args below meth c H1 locs (cells + 1) (slots + N) Q (F0 m (pc + 3) ls (.ref z :: rest))) : W p l e R s m args below meth c H locs cells slots Q (F0 m pc ls rest) := by
  obtain ⟨C, T, ty, hc, hin, hty, hcl, hinst, hini, hfs⟩ := hL
  have hts := X.1.2.2.2.2
  have hKn := X.2.1.1 ci _ hc
  have hz := Y.1.1
  refine W.newcK X.1.1 X.1.2.1 X.1.2.2.2.1 (hts _ hcl) (hts _ hinst) (hts _ hini) rfl hdg hcells hslots hKn.2.1 hz fun H1 kC hkC e1 z1 o1 => ?_
  refine kk H1 ⟨Y.1.push ?_ z1 o1, xS.push Y (by rw [hz]; exact z1) (by rw [hz]; exact o1), Y.2.2⟩
  exact ⟨_, hc, (u_born ty hts hin hKn hkC e1 hty).to hfs⟩
theorem q_aast (X : xC G p m c s args own cc nL) (Y : xY G z f s H locs) {a v : Nat} {i : Int32} {f1 : xHp} (h0 : Cond.castable RX0 RX5 ∈ xws) (h3 : Cond.castable RX3 RX5 ∈ xws) (h6 : Cond.castable RX7 RX5 ∈ xws) (h7 : Cond.castable RX8 RX5 ∈ xws) (e1 : hRst f a i v = some f1) (hdg : decode cc pc = .ok (.aastore, 1))
    (kk : ∀ (H1 : Heap) (locs1 : List Loc), xY G z f1 s H1 locs1 → W p l e R s m args below meth c H1 locs1 cells slots Q (F0 m (pc + 1) ls rest)) : W p l e R s m args below meth c H locs cells slots Q (F0 m pc ls (.ref v :: .int i :: .ref a :: rest)) := by
  unfold hRst at e1
  split at e1
  · rename_i k n g hfa
    split at e1
    · cases e1
    · rename_i hin
      obtain ⟨ci, hci, hv⟩ := Option.bind_eq_some_iff.mp e1
      split at hv
      · rename_i hfit
        cases hv
        unfold hKd at hci
        split at hci
        · rename_i ci' vs hfv
          cases hci
          have hts := X.1.2.2.2.2
          have any : ∀ (C T : String) (hcst : Cond.castable C T ∈ xws) (c0 comp : ClassId), s.vm.findClass T = some comp → s.vm.findClass C = some c0 → s.vm.assignable c0 comp = true := by
            intro C T hcst c0 comp g1 g2
            obtain ⟨c', t', f1, f2, f3⟩ := Cond.castable_spec (hts _ hcst)
            cases g2.symm.trans f1
            cases g1.symm.trans f2
            exact f3
          have main : ∃ E : String, (xtys G)[k]? = some (xcy G k, .object E) ∧ va_Any E s H v := by
            have hP := Y.1.one hfv
            simp only [xfit, Bool.or_eq_true, Bool.and_eq_true, beq_iff_eq] at hfit
            rcases hfit with (⟨rfl, rfl⟩ | ⟨rfl, rfl⟩) | ⟨rfl, ((rfl | rfl) | rfl) | rfl⟩
            · exact ⟨_, rfl, va_rAny (q0 := 0) X.2.1 hP rfl rfl (fun comp c0 g1 g2 => by cases g1.symm.trans g2; exact va_asg _ _)⟩
            · exact ⟨_, rfl, va_rAny (q0 := 0) X.2.1 hP rfl rfl (fun comp c0 g1 g2 => by cases g1.symm.trans g2; exact va_asg _ _)⟩
            · exact ⟨_, rfl, va_rAny (q0 := 0) X.2.1 hP rfl rfl (fun comp c0 g1 g2 => any _ _ h0 c0 comp g1 g2)⟩
            · exact ⟨_, rfl, va_rAny (q0 := 0) X.2.1 hP rfl rfl (fun comp c0 g1 g2 => any _ _ h3 c0 comp g1 g2)⟩
            · exact ⟨_, rfl, va_rAny (q0 := 0) X.2.1 hP rfl rfl (fun comp c0 g1 g2 => any _ _ h6 c0 comp g1 g2)⟩
            · exact ⟨_, rfl, va_rAny (q0 := 0) X.2.1 hP rfl rfl (fun comp c0 g1 g2 => any _ _ h7 c0 comp g1 g2)⟩
          obtain ⟨E, hE, cellV, g1, g3, ⟨kC, hkC⟩, hasg⟩ := main
          obtain ⟨kA, comp, k1, k2, k3, -⟩ := (X.2.1.2 k _ hE).2
          obtain ⟨kE, hkE, -⟩ := Vm.findClass_spec k3
          have hlt : i.toNatClampNeg < n := Nat.not_le.mp fun q => hin (Or.inr q)
          have hi0 : ¬ i < 0 := fun q => hin (Or.inl q)
          refine W.aast X.1.1 X.1.2.1 (Y.1.atR hfa) (fun q h => by cases h) (fun h => by cases h) k1 k2 rfl hkE ⟨hi0, by show _ < (arrV _ _ _).slots.size; rw [arrV_size]; exact hlt⟩ g1 (fun q h => by rw [h] at g3; cases g3) hkC (hasg _ k3) rfl rfl hdg fun H1 e z oq => ?_
          refine kk H1 _ ⟨Y.1.set hfa ?_ z oq, Y.2.1.put z oq (Y.1.2.2 _ _ hfa).1, Y.2.2⟩
          show H1[a]? = some (vp_cell _ (n, .inr (.inr (.inr (.inr _)))))
          rw [e]
          rw [vp_cell_q, vp_cell_q, arrV_store]
          congr 2
          funext q
          by_cases hq : q = i.toNatClampNeg
          · subst hq
            simp [updV, va_up, va_rf]
          · simp [updV, va_up, hq]
        · cases hci
      · cases hv
  · cases e1
/-- the words of System.arraycopy at a place -/
def xCp (own : String) (index : Nat) : Prop := Cond.methodLink own index arraycopyName ∈ xws ∧ Cond.native arraycopyName ∈ xws ∧ Cond.static arraycopyName ∈ xws ∧ Cond.initialized "java/lang/System" ∈ xws
theorem nnz (z : Int32) (hz : ¬ z < 0) : z.toInt = (z.toNatClampNeg : Int) := by
  have hz0 : (0 : Int) ≤ z.toInt := by
    have := Int32.not_lt.mp hz
    simpa using Int32.le_iff_toInt_le.mp this
  show z.toInt = ((z.toInt.toNat : Nat) : Int)
  omega
theorem q_icp (X : xC G p m c s args own cc nL) (Y : xY G z f s H locs) (hls : ls.size = nL) {index a0 a : Nat} {sp dp n : Int32} {f1 : xHp} (hL : xCp own index) (e1 : hIcp f a0 sp a dp n = some f1)
    (hframes : 1 ≤ R.frames) (hlocals : (rest.map fun v => v.category).sum + (nativeFrameWords "java/lang/System" "arraycopy" 5 + 11) ≤ R.locals) (hdg : decode cc pc = .ok (.invokestatic index, 3))
    (kk : ∀ (H1 : Heap) (locs1 : List Loc), xY G z f1 s H1 locs1 → W p l e R s m args below meth c H1 locs1 cells slots Q (F0 m (pc + 3) ls rest)) : W p l e R s m args below meth c H locs cells slots Q (F0 m pc ls (.int n :: .int dp :: .ref a :: .int sp :: .ref a0 :: rest)) := by
  unfold hIcp at e1
  split at e1
  · rename_i n0 f0 n1 g hf0 hfa
    split at e1
    · cases e1
    · rename_i hh
      cases e1
      have h1 : ¬ sp < 0 := fun q => hh (Or.inl q)
      have h2 : ¬ dp < 0 := fun q => hh (Or.inr (Or.inl q))
      have h3 : ¬ n < 0 := fun q => hh (Or.inr (Or.inr (Or.inl q)))
      have h4 : sp.toNatClampNeg + n.toNatClampNeg ≤ n0 := Nat.not_lt.mp fun q => hh (Or.inr (Or.inr (Or.inr (Or.inl q))))
      have h5 : dp.toNatClampNeg + n.toNatClampNeg ≤ n1 := Nat.not_lt.mp fun q => hh (Or.inr (Or.inr (Or.inr (Or.inr q))))
      obtain ⟨hl1, hl2, hl3, hl4⟩ := hL
      have hts := X.1.2.2.2.2
      intro T hT XX
      have hc0 := Y.1.atI hf0
      have hc1 := Y.1.atI hfa
      obtain ⟨-, k0, hk0, cm0, hkk0⟩ := (X.2.1.2 0 _ rfl).1 n0 (fun j => .int (f0 j))
      obtain ⟨-, k1, hk1, cm1, hkk1⟩ := (X.2.1.2 0 _ rfl).1 n1 (fun j => .int (g j))
      obtain ⟨vm', X', step⟩ := XX.arraycopy X.1.1 X.1.2.2.2.1 (hts _ hl1) (hts _ hl2) (hts _ hl3) (hts _ hl4) (src := a0) (dst := a) (cs := vp_cell (xcy G 0) (n0, .inl f0)) (cd := vp_cell (xcy G 0) (n1, .inl g)) (srcPos := sp) (destPos := dp) (n := n) (by rw [hT]; exact hc0) (by rw [hT]; exact hc1)
        (fun _ h => by cases h) (fun _ h => by cases h) (fun h => by cases h) (fun h => by cases h) hk0 hk1 hkk0 hkk1 (by simp [refKind]) h1 h2 h3
        (by rw [nnz sp h1, nnz n h3]; show ¬ _ > ((arrV (xcy G 0) n0 (fun j => .int (f0 j))).slots.size : Int); rw [arrV_size]; omega)
        (by rw [nnz dp h2, nnz n h3]; show ¬ _ > ((arrV (xcy G 0) n1 (fun j => .int (g j))).slots.size : Int); rw [arrV_size]; omega)
        (fun vm₁ _ i hi => by
          have e : (vp_cell (xcy G 0) (n0, .inl f0)).slots.getD (sp.toNatClampNeg + i) .null = .int (f0 (sp.toNatClampNeg + i)) := by
            show (arrV (xcy G 0) n0 (fun j => .int (f0 j))).slots.getD _ _ = _
            rw [Array.getD_eq_getD_getElem?, arrV_read _ _ (by omega)]
            rfl
          refine ⟨?_, ?_⟩
          · rw [e]
            rfl
          · rw [e]
            exact trivial)
        (g := F0 m pc ls (.int n :: .int dp :: .ref a :: .int sp :: .ref a0 :: rest)) rfl (by rw [X.1.2.2.1, ← hls]) (rest := rest) rfl (by rw [X.1.2.1]; exact hdg) hframes (by show 2 * 0 + _ + _ ≤ _; omega)
      have e1 : copied (vp_cell (xcy G 0) (n0, .inl f0)) (vp_cell (xcy G 0) (n1, .inl g)) sp dp n = vp_cell (xcy G 0) (n1, .inl (va_cpy f0 g sp.toNatClampNeg dp.toNatClampNeg n.toNatClampNeg)) := va_copied (fun z => .int z) _ _ f0 g h4
      rw [e1] at X' step
      have hl : a < H.size := (Array.getElem?_eq_some_iff.mp hc1).1
      have hheap : ((T.setVm vm').setCell a (vp_cell (xcy G 0) (n1, .inl (va_cpy f0 g sp.toNatClampNeg dp.toNatClampNeg n.toNatClampNeg)))).heap = H.setIfInBounds a (vp_cell (xcy G 0) (n1, .inl (va_cpy f0 g sp.toNatClampNeg dp.toNatClampNeg n.toNatClampNeg))) := by rw [← hT]; rfl
      have oq : ∀ q : Nat, q ≠ a → (H.setIfInBounds a (vp_cell (xcy G 0) (n1, .inl (va_cpy f0 g sp.toNatClampNeg dp.toNatClampNeg n.toNatClampNeg))))[q]? = H[q]? := fun q hq => by simp [Array.getElem?_setIfInBounds, Ne.symm hq]
      have hbs := (Y.1.2.2 _ _ hfa).1
      obtain ⟨t, a1, b1⟩ := kk _ _ ⟨Y.1.set hfa (show (H.setIfInBounds a _)[a]? = some _ by simp [Array.getElem?_setIfInBounds, hl]) (by simp) oq, ⟨by simp; exact Y.2.1.1, fun q g1 g2 => by
          rw [oq q (fun e => g2 (by rw [e]; exact hbs))]
          exact Y.2.1.2.1 q g1 g2, fun q hq => by
          rcases List.mem_append.mp hq with h | h
          · exact Y.2.1.2.2 q h
          · obtain ⟨z, -, hz⟩ := List.mem_map.mp h
            rw [← hz]
            exact hbs⟩, Y.2.2⟩ _ hheap X'
      exact ⟨t, step t a1, b1⟩
  · cases e1
theorem q_jcp (X : xC G p m c s args own cc nL) (Y : xY G z f s H locs) (hls : ls.size = nL) {index a0 a : Nat} {sp dp n : Int32} {f1 : xHp} (hL : xCp own index) (e1 : hJcp f a0 sp a dp n = some f1)
    (hframes : 1 ≤ R.frames) (hlocals : (rest.map fun v => v.category).sum + (nativeFrameWords "java/lang/System" "arraycopy" 5 + 11) ≤ R.locals) (hdg : decode cc pc = .ok (.invokestatic index, 3))
    (kk : ∀ (H1 : Heap) (locs1 : List Loc), xY G z f1 s H1 locs1 → W p l e R s m args below meth c H1 locs1 cells slots Q (F0 m (pc + 3) ls rest)) : W p l e R s m args below meth c H locs cells slots Q (F0 m pc ls (.int n :: .int dp :: .ref a :: .int sp :: .ref a0 :: rest)) := by
  unfold hJcp at e1
  split at e1
  · rename_i n0 f0 n1 g hf0 hfa
    split at e1
    · cases e1
    · rename_i hh
      cases e1
      have h1 : ¬ sp < 0 := fun q => hh (Or.inl q)
      have h2 : ¬ dp < 0 := fun q => hh (Or.inr (Or.inl q))
      have h3 : ¬ n < 0 := fun q => hh (Or.inr (Or.inr (Or.inl q)))
      have h4 : sp.toNatClampNeg + n.toNatClampNeg ≤ n0 := Nat.not_lt.mp fun q => hh (Or.inr (Or.inr (Or.inr (Or.inl q))))
      have h5 : dp.toNatClampNeg + n.toNatClampNeg ≤ n1 := Nat.not_lt.mp fun q => hh (Or.inr (Or.inr (Or.inr (Or.inr q))))
      obtain ⟨hl1, hl2, hl3, hl4⟩ := hL
      have hts := X.1.2.2.2.2
      intro T hT XX
      have hc0 := Y.1.atJ hf0
      have hc1 := Y.1.atJ hfa
      obtain ⟨-, k0, hk0, cm0, hkk0⟩ := (X.2.1.2 1 _ rfl).1 n0 (fun j => .long (f0 j))
      obtain ⟨-, k1, hk1, cm1, hkk1⟩ := (X.2.1.2 1 _ rfl).1 n1 (fun j => .long (g j))
      obtain ⟨vm', X', step⟩ := XX.arraycopy X.1.1 X.1.2.2.2.1 (hts _ hl1) (hts _ hl2) (hts _ hl3) (hts _ hl4) (src := a0) (dst := a) (cs := vp_cell (xcy G 1) (n0, .inr (.inl f0))) (cd := vp_cell (xcy G 1) (n1, .inr (.inl g))) (srcPos := sp) (destPos := dp) (n := n) (by rw [hT]; exact hc0) (by rw [hT]; exact hc1)
        (fun _ h => by cases h) (fun _ h => by cases h) (fun h => by cases h) (fun h => by cases h) hk0 hk1 hkk0 hkk1 (by simp [refKind]) h1 h2 h3
        (by rw [nnz sp h1, nnz n h3]; show ¬ _ > ((arrV (xcy G 1) n0 (fun j => .long (f0 j))).slots.size : Int); rw [arrV_size]; omega)
        (by rw [nnz dp h2, nnz n h3]; show ¬ _ > ((arrV (xcy G 1) n1 (fun j => .long (g j))).slots.size : Int); rw [arrV_size]; omega)
        (fun vm₁ _ i hi => by
          have e : (vp_cell (xcy G 1) (n0, .inr (.inl f0))).slots.getD (sp.toNatClampNeg + i) .null = .long (f0 (sp.toNatClampNeg + i)) := by
            show (arrV (xcy G 1) n0 (fun j => .long (f0 j))).slots.getD _ _ = _
            rw [Array.getD_eq_getD_getElem?, arrV_read _ _ (by omega)]
            rfl
          refine ⟨?_, ?_⟩
          · rw [e]
            rfl
          · rw [e]
            exact trivial)
        (g := F0 m pc ls (.int n :: .int dp :: .ref a :: .int sp :: .ref a0 :: rest)) rfl (by rw [X.1.2.2.1, ← hls]) (rest := rest) rfl (by rw [X.1.2.1]; exact hdg) hframes (by show 2 * 0 + _ + _ ≤ _; omega)
      have e1 : copied (vp_cell (xcy G 1) (n0, .inr (.inl f0))) (vp_cell (xcy G 1) (n1, .inr (.inl g))) sp dp n = vp_cell (xcy G 1) (n1, .inr (.inl (va_cpy f0 g sp.toNatClampNeg dp.toNatClampNeg n.toNatClampNeg))) := va_copied (fun z => .long z) _ _ f0 g h4
      rw [e1] at X' step
      have hl : a < H.size := (Array.getElem?_eq_some_iff.mp hc1).1
      have hheap : ((T.setVm vm').setCell a (vp_cell (xcy G 1) (n1, .inr (.inl (va_cpy f0 g sp.toNatClampNeg dp.toNatClampNeg n.toNatClampNeg))))).heap = H.setIfInBounds a (vp_cell (xcy G 1) (n1, .inr (.inl (va_cpy f0 g sp.toNatClampNeg dp.toNatClampNeg n.toNatClampNeg)))) := by rw [← hT]; rfl
      have oq : ∀ q : Nat, q ≠ a → (H.setIfInBounds a (vp_cell (xcy G 1) (n1, .inr (.inl (va_cpy f0 g sp.toNatClampNeg dp.toNatClampNeg n.toNatClampNeg)))))[q]? = H[q]? := fun q hq => by simp [Array.getElem?_setIfInBounds, Ne.symm hq]
      have hbs := (Y.1.2.2 _ _ hfa).1
      obtain ⟨t, a1, b1⟩ := kk _ _ ⟨Y.1.set hfa (show (H.setIfInBounds a _)[a]? = some _ by simp [Array.getElem?_setIfInBounds, hl]) (by simp) oq, ⟨by simp; exact Y.2.1.1, fun q g1 g2 => by
          rw [oq q (fun e => g2 (by rw [e]; exact hbs))]
          exact Y.2.1.2.1 q g1 g2, fun q hq => by
          rcases List.mem_append.mp hq with h | h
          · exact Y.2.1.2.2 q h
          · obtain ⟨z, -, hz⟩ := List.mem_map.mp h
            rw [← hz]
            exact hbs⟩, Y.2.2⟩ _ hheap X'
      exact ⟨t, step t a1, b1⟩
  · cases e1
/-- a static's row: its reference, its places, its length -/
theorem q_sget (X : xC G p m c s args own cc nL) (Y : xY G z f s H locs) {index k : Nat} (hk : k < 4) (hL : Cond.fieldLinkNest own index "NeverBelow" (xsn k) "[I" "NeverBelow" ∈ xws) (hdg : decode cc pc = .ok (.getstatic index, 3))
    (kk : W p l e R s m args below meth c H locs cells slots Q (F0 m (pc + 3) ls (.ref (xst G k) :: rest))) : W p l e R s m args below meth c H locs cells slots Q (F0 m pc ls rest) :=
  va_getsN X.1.1 X.1.2.1 (X.2.2.1 k hk).1 Y.2.1 X.1.2.2.2.1 (X.1.2.2.2.2 _ hL) (fun _ h => h) hdg kk
theorem q_sld (X : xC G p m c s args own cc nL) (Y : xY G z f s H locs) {k : Nat} (hk : k < 4) {i v : Int32} (e1 : hSt k i = some v) (hdg : decode cc pc = .ok (.iaload, 1))
    (kk : W p l e R s m args below meth c H locs cells slots Q (F0 m (pc + 1) ls (.int v :: rest))) : W p l e R s m args below meth c H locs cells slots Q (F0 m pc ls (.int i :: .ref (xst G k) :: rest)) := by
  unfold hSt at e1
  split at e1
  · cases e1
  · rename_i hin
    cases e1
    exact va_ti X.1.1 X.1.2.1 (X.2.2.1 k hk).2 Y.2.1 hin rfl hdg kk
theorem q_slen (X : xC G p m c s args own cc nL) (Y : xY G z f s H locs) {k : Nat} (hk : k < 4) {v : Int32} (e1 : Int32.ofNat (xsv k).length = v) (hdg : decode cc pc = .ok (.arraylength, 1))
    (kk : W p l e R s m args below meth c H locs cells slots Q (F0 m (pc + 1) ls (.int v :: rest))) : W p l e R s m args below meth c H locs cells slots Q (F0 m pc ls (.ref (xst G k) :: rest)) :=
  va_tlen X.1.1 X.1.2.1 (X.2.2.1 k hk).2 Y.2.1 e1 hdg kk
end XN

/-! rows over the abstract heap -/
abbrev xC (G : xG) (p : Program) (m : MethodId) (c : Code) (s : State) (args : Array Value) (own : String) (cc : ByteArray) (nL : Nat) : Prop := CallFix p m c cc nL s args xws own ∧ xK G s
abbrev xY (G : xG) (z : Nat) (f : xHp) (s : State) (H : Heap) (locs : List Loc) : Prop := xW G z f H ∧ va_S (xA G) s.heap H locs ∧ xbs G ≤ s.heap.size
/-- a field's link: by kinds and slots -/
def xFL (own : String) (index : Nat) (tb : List (Nat × Nat)) : Prop := ∀ ck ∈ tb, ∃ (ref C : String) (T : u_T) (N : Nat), vwCl[ck.1]? = some (C, T, N) ∧ ck.2 < N ∧ (∀ w ∈ u_ws C T N, w ∈ xws) ∧ Cond.fieldLink own index ref (T ck.2).2.1 (T ck.2).2.2.1 ∈ xws ∧ (ref = (T ck.2).1 ∨ Cond.sameField ref (T ck.2).1 (T ck.2).2.1 (T ck.2).2.2.1 ∈ xws)
/-- a field's link, to write it (fin: in the constructor of the class that has it) -/
def xFP (own : String) (index : Nat) (tb : List (Nat × Nat)) (fin : Bool) (ty : FieldType) : Prop := ∀ ck ∈ tb, ∃ (ref C : String) (T : u_T) (N : Nat) (ty0 : Nat → FieldType), vwCl[ck.1]? = some (C, T, N) ∧ ck.2 < N ∧ (∀ w ∈ u_ws C T N, w ∈ xws) ∧ Cond.fieldLink own index ref (T ck.2).2.1 (T ck.2).2.2.1 ∈ xws ∧ (ref = (T ck.2).1 ∨ Cond.sameField ref (T ck.2).1 (T ck.2).2.1 (T ck.2).2.2.1 ∈ xws) ∧ (T ck.2).2.2.2 = fin ∧ parseFieldDescriptor (T ck.2).2.2.1 = some ty ∧ (∀ k, k < N → parseFieldDescriptor (T k).2.2.1 = some (ty0 k)) ∧ (∀ a, a < N → ∀ b, b < N → a ≠ b → (T a).2.1 ≠ (T b).2.1) ∧ (fin = true → (T ck.2).1 = own)
theorem xsameF {args : Array Value} {s : State} (ht : ∀ w ∈ xws, w.before args s = true) {ref o n d : String} (h : ref = o ∨ Cond.sameField ref o n d ∈ xws) : ∀ x, s.fieldFound? o n d = some x → s.fieldFound? ref n d = some x := by
  rcases h with h | h
  · subst h; exact fun _ q => q
  · exact fun x q => u_same (ht _ h) x q
section XR
variable {p : Program} {l : Launch} {e : Env} {R : Room} {s : State} {m : MethodId} {args : Array Value} {below : List Frame} {meth : Method} {c : Code} {H : Heap} {locs : List Loc} {cells slots : Nat} {Q : State → Prop}
variable {cc : ByteArray} {pc : Nat} {ls : Array Slot} {rest : List Value} {G : xG} {z : Nat} {f : xHp} {own : String} {nL : Nat}
theorem q_get (X : xC G p m c s args own cc nL) (Y : xY G z f s H locs) {index a : Nat} {tb : List (Nat × Nat)} {v : Value} (hL : xFL own index tb) (e1 : hV f a tb = some v) (hdg : decode cc pc = .ok (.getfield index, 3))
    (kk : W p l e R s m args below meth c H locs cells slots Q (F0 m (pc + 3) ls (v :: rest))) : W p l e R s m args below meth c H locs cells slots Q (F0 m pc ls (.ref a :: rest)) := by
  unfold hV at e1
  split at e1
  · rename_i ci fs hfa
    obtain ⟨k, hk, hv⟩ := Option.bind_eq_some_iff.mp e1
    obtain ⟨ref, C, T, N, h1, h2, h3, h4, h5⟩ := hL _ (xlook hk)
    exact va_get X.1.1 X.1.2.1 X.1.2.2.2.2 h3 X.1.2.2.2.1 X.2.1 (Y.1.one hfa) 0 rfl h1 k h2 (X.1.2.2.2.2 _ h4) (xsameF X.1.2.2.2.2 h5) hv hdg kk
  · cases e1
theorem hI_of {f : xHp} {a : Nat} {tb : List (Nat × Nat)} {v : Int32} (h : hI f a tb = some v) : hV f a tb = some (.int v) := by
  unfold hI at h
  split at h
  · rename_i w hw; cases h; exact hw
  · cases h
theorem hN_of {f : xHp} {a : Nat} {tb : List (Nat × Nat)} {v : Nat} (h : hN f a tb = some v) : hV f a tb = some (.ref v) := by
  unfold hN at h
  split at h
  · rename_i w hw; cases h; exact hw
  · cases h
theorem hR_of {f : xHp} {a : Nat} {tb : List (Nat × Nat)} {v : Option Nat} (h : hR f a tb = some v) : hV f a tb = some (va_rf v) := by
  unfold hR at h
  split at h
  · rename_i w hw; cases h; exact hw
  · rename_i hw; cases h; exact hw
  · cases h
theorem q_getI (X : xC G p m c s args own cc nL) (Y : xY G z f s H locs) {index a : Nat} {tb : List (Nat × Nat)} {v : Int32} (hL : xFL own index tb) (e1 : hI f a tb = some v) (hdg : decode cc pc = .ok (.getfield index, 3))
    (kk : W p l e R s m args below meth c H locs cells slots Q (F0 m (pc + 3) ls (.int v :: rest))) : W p l e R s m args below meth c H locs cells slots Q (F0 m pc ls (.ref a :: rest)) := q_get X Y hL (hI_of e1) hdg kk
theorem q_getN (X : xC G p m c s args own cc nL) (Y : xY G z f s H locs) {index a : Nat} {tb : List (Nat × Nat)} {v : Nat} (hL : xFL own index tb) (e1 : hN f a tb = some v) (hdg : decode cc pc = .ok (.getfield index, 3))
    (kk : W p l e R s m args below meth c H locs cells slots Q (F0 m (pc + 3) ls (.ref v :: rest))) : W p l e R s m args below meth c H locs cells slots Q (F0 m pc ls (.ref a :: rest)) := q_get X Y hL (hN_of e1) hdg kk
theorem q_getR (X : xC G p m c s args own cc nL) (Y : xY G z f s H locs) {index a : Nat} {tb : List (Nat × Nat)} {v : Option Nat} (hL : xFL own index tb) (e1 : hR f a tb = some v) (hdg : decode cc pc = .ok (.getfield index, 3))
    (kk : W p l e R s m args below meth c H locs cells slots Q (F0 m (pc + 3) ls (va_rf v :: rest))) : W p l e R s m args below meth c H locs cells slots Q (F0 m pc ls (.ref a :: rest)) := q_get X Y hL (hR_of e1) hdg kk
theorem q_put (X : xC G p m c s args own cc nL) (Y : xY G z f s H locs) {index a : Nat} {tb : List (Nat × Nat)} {ty : FieldType} {v : Value} {f1 : xHp} (hL : xFP own index tb false ty) (hn : narrow ty v = v) (hfit : fits ty v = true) (e1 : hPut f a tb v = some f1) (hdg : decode cc pc = .ok (.putfield index, 3))
    (kk : ∀ (H1 : Heap) (locs1 : List Loc), xY G z f1 s H1 locs1 → W p l e R s m args below meth c H1 locs1 cells slots Q (F0 m (pc + 3) ls rest)) : W p l e R s m args below meth c H locs cells slots Q (F0 m pc ls (v :: .ref a :: rest)) := by
  unfold hPut at e1
  split at e1
  · rename_i ci fs hfa
    obtain ⟨k, hk, hv⟩ := Option.bind_eq_some_iff.mp e1
    split at hv
    · rename_i hl
      cases hv
      obtain ⟨ref, C, T, N, ty0, hc, h2, hin, h4, h5, hfin, hd, hty, hnm, -⟩ := hL _ (xlook hk)
      have hts := X.1.2.2.2.2
      have hK := X.2.1
      have hap := va_apart (own := own) hts hin ty0 hty hnm hK hc
      obtain ⟨r, h1, cell, q1, q2, q3, q4⟩ := Y.1.at hfa
      have hr : r = (C, T, N) := Option.some.inj (h1.symm.trans hc)
      subst hr
      obtain ⟨hS, hfc, kC, hkC, hkind⟩ := hK.1 ci _ hc
      obtain ⟨cf, kf, fi, fd, hi, hsl⟩ := hS k h2
      have hlay := hts _ (hin _ (u_in_lay h2))
      unfold u_lay at hlay
      rw [if_neg (by rw [hfin]; decide)] at hlay
      have hst := (u_facts hfc hkC (u_lays hts hin h2) hi).1
      have h6 := u_store hfc hkC hkind hlay hi hd hn hfit
      refine W.putK X.1.1 X.1.2.1 (f := fd) ⟨X.1.2.2.2.1, hts _ h4, ⟨_, _, _, xsameF hts h5 _ hi⟩, hst⟩ (by rw [q2]; exact h6) q1 q3 (by rw [hsl]; exact k2_hasslot (q4 k h2)) rfl rfl hdg fun H' e1 e2 e3 => ?_
      rw [hsl] at e1 ⊢
      exact kk H' _ ⟨Y.1.set hfa ⟨_, hc, t_OB.to (V := updV (vp_V fs) k v) ⟨_, e1, q2, q3, t_set q4 hap h2 v⟩ (fun j _ => vp_updV_set hl v j)⟩ e2 e3, Y.2.1.put e2 e3 (Y.1.2.2 _ _ hfa).1, Y.2.2⟩
    · cases hv
  · cases e1
theorem q_putF (X : xC G p m c s args own cc nL) (Y : xY G z f s H locs) (hin2 : meth.name = "<init>") {index a : Nat} {tb : List (Nat × Nat)} {ty : FieldType} {v : Value} {f1 : xHp} (hL : xFP own index tb true ty) (hn : narrow ty v = v) (hfit : fits ty v = true) (e1 : hPut f a tb v = some f1) (hdg : decode cc pc = .ok (.putfield index, 3))
    (kk : ∀ (H1 : Heap) (locs1 : List Loc), xY G z f1 s H1 locs1 → W p l e R s m args below meth c H1 locs1 cells slots Q (F0 m (pc + 3) ls rest)) : W p l e R s m args below meth c H locs cells slots Q (F0 m pc ls (v :: .ref a :: rest)) := by
  unfold hPut at e1
  split at e1
  · rename_i ci fs hfa
    obtain ⟨k, hk, hv⟩ := Option.bind_eq_some_iff.mp e1
    split at hv
    · rename_i hl
      cases hv
      obtain ⟨ref, C, T, N, ty0, hc, h2, hin, h4, h5, hfin, hd, hty, hnm, hdecl⟩ := hL _ (xlook hk)
      have hdecl := hdecl rfl
      have hts := X.1.2.2.2.2
      have hK := X.2.1
      have hap := va_apart (own := own) hts hin ty0 hty hnm hK hc
      obtain ⟨r, h1, cell, q1, q2, q3, q4⟩ := Y.1.at hfa
      have hr : r = (C, T, N) := Option.some.inj (h1.symm.trans hc)
      subst hr
      obtain ⟨hS, hfc, kC, hkC, hkind⟩ := hK.1 ci _ hc
      obtain ⟨cf, kf, fi, fd, hi, hsl⟩ := hS k h2
      have hlay := hts _ (hin _ (u_in_lay h2))
      unfold u_lay at hlay
      rw [if_pos hfin] at hlay
      have hst := (u_facts hfc hkC (u_lays hts hin h2) hi).1
      have hcf : m.cls = cf := by
        obtain ⟨_, _, c', _, _, _, -, -, hf', -, -, -, hown2, -⟩ := Cond.laysFinal_spec hlay
        have e1 : c' = cf := by have := hi.symm.trans hf'; simp at this; exact this.1.symm
        rw [hdecl] at hown2
        rw [← e1]; exact Option.some.inj (X.1.2.2.2.1.symm.trans hown2)
      have h6 := u_fits hfc hkC hkind (Or.inr hlay) hi hd hn hfit
      refine W.putFinK X.1.1 X.1.2.1 X.1.2.2.2.1 (hts _ h4) (xsameF hts h5 _ hi) hst hcf hin2 (by rw [q2]; exact h6) q1 q3 (by rw [hsl]; exact k2_hasslot (q4 k h2)) rfl rfl hdg fun H' e1 e2 e3 => ?_
      rw [hsl] at e1 ⊢
      exact kk H' _ ⟨Y.1.set hfa ⟨_, hc, t_OB.to (V := updV (vp_V fs) k v) ⟨_, e1, q2, q3, t_set q4 hap h2 v⟩ (fun j _ => vp_updV_set hl v j)⟩ e2 e3, Y.2.1.put e2 e3 (Y.1.2.2 _ _ hfa).1, Y.2.2⟩
    · cases hv
  · cases e1
theorem q_iald (X : xC G p m c s args own cc nL) (Y : xY G z f s H locs) {a : Nat} {i v : Int32} (e1 : hIld f a i = some v) (hdg : decode cc pc = .ok (.iaload, 1))
    (kk : W p l e R s m args below meth c H locs cells slots Q (F0 m (pc + 1) ls (.int v :: rest))) : W p l e R s m args below meth c H locs cells slots Q (F0 m pc ls (.int i :: .ref a :: rest)) := by
  unfold hIld at e1
  split at e1
  · rename_i n g hfa
    split at e1
    · cases e1
    · rename_i hin
      cases e1
      exact va_iald X.1.1 X.1.2.1 X.2.1 (Y.1.one hfa) 0 0 rfl rfl hin hdg kk
  · cases e1
theorem q_lald (X : xC G p m c s args own cc nL) (Y : xY G z f s H locs) {a : Nat} {i : Int32} {v : Int64} (e1 : hJld f a i = some v) (hdg : decode cc pc = .ok (.laload, 1))
    (kk : W p l e R s m args below meth c H locs cells slots Q (F0 m (pc + 1) ls (.long v :: rest))) : W p l e R s m args below meth c H locs cells slots Q (F0 m pc ls (.int i :: .ref a :: rest)) := by
  unfold hJld at e1
  split at e1
  · rename_i n g hfa
    split at e1
    · cases e1
    · rename_i hin
      cases e1
      exact va_lald X.1.1 X.1.2.1 X.2.1 (Y.1.one hfa) 0 1 rfl rfl hin hdg kk
  · cases e1
theorem xtys_q {G : xG} {k : Nat} (h : ¬ (k < 2 ∨ 4 < k)) : ∃ C, (xtys G)[k]? = some (xcy G k, .object C) := by
  rcases (show k = 2 ∨ k = 3 ∨ k = 4 by omega) with rfl | rfl | rfl
  · exact ⟨_, rfl⟩
  · exact ⟨_, rfl⟩
  · exact ⟨_, rfl⟩
theorem q_aald (X : xC G p m c s args own cc nL) (Y : xY G z f s H locs) {a : Nat} {i : Int32} {v : Option Nat} (e1 : hRld f a i = some v) (hdg : decode cc pc = .ok (.aaload, 1))
    (kk : W p l e R s m args below meth c H locs cells slots Q (F0 m (pc + 1) ls (va_rf v :: rest))) : W p l e R s m args below meth c H locs cells slots Q (F0 m pc ls (.int i :: .ref a :: rest)) := by
  unfold hRld at e1
  split at e1
  · rename_i k n g hfa
    split at e1
    · cases e1
    · rename_i hin
      cases e1
      obtain ⟨C, hC⟩ := xtys_q (G := G) (k := k) (fun q => hin (Or.inl q))
      exact va_aldq X.1.1 X.1.2.1 X.2.1 (Y.1.one hfa) 0 k rfl hC (fun q => hin (Or.inr q)) hdg kk
  · cases e1
theorem q_alen (X : xC G p m c s args own cc nL) (Y : xY G z f s H locs) {a : Nat} {v : Int32} (e1 : hLen f a = some v) (hdg : decode cc pc = .ok (.arraylength, 1))
    (kk : W p l e R s m args below meth c H locs cells slots Q (F0 m (pc + 1) ls (.int v :: rest))) : W p l e R s m args below meth c H locs cells slots Q (F0 m pc ls (.ref a :: rest)) := by
  unfold hLen at e1
  split at e1
  · rename_i n g hfa
    cases e1
    exact va_alen X.1.1 X.1.2.1 X.2.1 (Y.1.one hfa) 0 0 rfl rfl rfl hdg kk
  · rename_i n g hfa
    cases e1
    exact va_alen X.1.1 X.1.2.1 X.2.1 (Y.1.one hfa) 0 1 rfl rfl rfl hdg kk
  · cases e1
theorem xW.atI {H : Heap} (h : xW G z f H) {a n : Nat} {g : Nat → Int32} (e : f a = some (.inl (n, g))) : H[a]? = some (vp_cell (xcy G 0) (n, .inl g)) := h.at e
theorem xW.atJ {H : Heap} (h : xW G z f H) {a n : Nat} {g : Nat → Int64} (e : f a = some (.inr (.inl (n, g)))) : H[a]? = some (vp_cell (xcy G 1) (n, .inr (.inl g))) := h.at e
theorem xW.atR {H : Heap} (h : xW G z f H) {a k n : Nat} {g : Nat → Option Nat} (e : f a = some (.inr (.inr (.inl (k, n, g))))) : H[a]? = some (vp_cell (xcy G k) (n, .inr (.inr (.inr (.inr g))))) := h.at e
theorem q_iast (X : xC G p m c s args own cc nL) (Y : xY G z f s H locs) {a : Nat} {i v : Int32} {f1 : xHp} (e1 : hIst f a i v = some f1) (hdg : decode cc pc = .ok (.iastore, 1))
    (kk : ∀ (H1 : Heap) (locs1 : List Loc), xY G z f1 s H1 locs1 → W p l e R s m args below meth c H1 locs1 cells slots Q (F0 m (pc + 1) ls rest)) : W p l e R s m args below meth c H locs cells slots Q (F0 m pc ls (.int v :: .int i :: .ref a :: rest)) := by
  unfold hIst at e1
  split at e1
  · rename_i n g hfa
    split at e1
    · cases e1
    · rename_i hin
      cases e1
      refine W.iast X.1.1 X.1.2.1 (Y.1.atI hfa) ((X.2.1.2 0 _ rfl).1 n (fun j => .int (g j))) (fun q => by cases q) (by show ¬ (i < 0 ∨ (arrV _ _ _).slots.size ≤ _); rw [arrV_size]; exact hin) rfl rfl hdg fun H1 e z oq => ?_
      refine kk H1 _ ⟨Y.1.set hfa ?_ z oq, Y.2.1.put z oq (Y.1.2.2 _ _ hfa).1, Y.2.2⟩
      show H1[a]? = some (vp_cell _ (n, .inl _))
      rw [e]
      rw [vp_cell_i, vp_cell_i, arrV_store]
      congr 2
      funext q
      by_cases hq : q = i.toNatClampNeg
      · subst hq
        simp [updV, upd]
      · simp [updV, upd, hq]
  · cases e1
theorem q_last (X : xC G p m c s args own cc nL) (Y : xY G z f s H locs) {a : Nat} {i : Int32} {v : Int64} {f1 : xHp} (e1 : hJst f a i v = some f1) (hdg : decode cc pc = .ok (.lastore, 1))
    (kk : ∀ (H1 : Heap) (locs1 : List Loc), xY G z f1 s H1 locs1 → W p l e R s m args below meth c H1 locs1 cells slots Q (F0 m (pc + 1) ls rest)) : W p l e R s m args below meth c H locs cells slots Q (F0 m pc ls (.long v :: .int i :: .ref a :: rest)) := by
  unfold hJst at e1
  split at e1
  · rename_i n g hfa
    split at e1
    · cases e1
    · rename_i hin
      cases e1
      refine W.last X.1.1 X.1.2.1 (Y.1.atJ hfa) ((X.2.1.2 1 _ rfl).1 n (fun j => .long (g j))) (fun q => by cases q) (by show ¬ (i < 0 ∨ (arrV _ _ _).slots.size ≤ _); rw [arrV_size]; exact hin) rfl rfl hdg fun H1 e z oq => ?_
      refine kk H1 _ ⟨Y.1.set hfa ?_ z oq, Y.2.1.put z oq (Y.1.2.2 _ _ hfa).1, Y.2.2⟩
      show H1[a]? = some (vp_cell _ (n, .inr (.inl _)))
      rw [e]
      rw [vp_cell_l, vp_cell_l, arrV_store]
      congr 2
      funext q
      by_cases hq : q = i.toNatClampNeg
      · subst hq
        simp [updV, vp_updL]
      · simp [updV, vp_updL, hq]
  · cases e1
theorem q_aastN (X : xC G p m c s args own cc nL) (Y : xY G z f s H locs) {a : Nat} {i : Int32} {f1 : xHp} (e1 : hRstN f a i = some f1) (hdg : decode cc pc = .ok (.aastore, 1))
    (kk : ∀ (H1 : Heap) (locs1 : List Loc), xY G z f1 s H1 locs1 → W p l e R s m args below meth c H1 locs1 cells slots Q (F0 m (pc + 1) ls rest)) : W p l e R s m args below meth c H locs cells slots Q (F0 m pc ls (.null :: .int i :: .ref a :: rest)) := by
  unfold hRstN at e1
  split at e1
  · rename_i k n g hfa
    split at e1
    · cases e1
    · rename_i hin
      cases e1
      obtain ⟨C, hC⟩ := xtys_q (G := G) (k := k) (fun q => hin (Or.inl q))
      refine va_WaastN (C := C) X.1.1 X.1.2.1 (Y.1.atR hfa) ((X.2.1.2 k _ hC).1 n (fun j => va_rf (g j))) (fun h => by cases h) (by show ¬ (i < 0 ∨ (arrV _ _ _).slots.size ≤ _); rw [arrV_size]; exact fun q => hin (Or.inr q)) rfl rfl hdg fun H1 e z oq => ?_
      refine kk H1 _ ⟨Y.1.set hfa ?_ z oq, Y.2.1.put z oq (Y.1.2.2 _ _ hfa).1, Y.2.2⟩
      show H1[a]? = some (vp_cell _ (n, .inr (.inr (.inr (.inr _)))))
      rw [e]
      rw [vp_cell_q, vp_cell_q, arrV_store]
      congr 2
      funext q
      by_cases hq : q = i.toNatClampNeg
      · subst hq
        simp [updV, va_up, va_rf]
      · simp [updV, va_up, hq]
  · cases e1
end XR

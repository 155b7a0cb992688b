/-! contracts: a method's arguments and heap give its answer and heap -/
def xQ (G : xG) (ov : Option Value) (z1 : Nat) (f1 : xHp) : Array Value → State → Outcome → State → Prop := fun _ st oc t => oc = .returned ov ∧ xW G z1 f1 t.heap ∧ va_F (xA G) st t
def xM (G : xG) (l : Launch) (y : MethodName) (bytes : ByteArray) (maxL : Nat) (ret : Option FieldType) (rm : Room) (As : List Value) (z : Nat) (f : xHp) (ov : Option Value) (z1 : Nat) (f1 : xHp) : Prop :=
  Met l y (.code y bytes maxL ret :: xws) rm (va_Pc As (fun U => xW G z f U.heap ∧ xK G U)) (xQ G ov z1 f1) rm.cells rm.slots (xA G)
theorem xM_of {G : xG} {l : Launch} {y : MethodName} {bytes : ByteArray} {maxL : Nat} {ret : Option FieldType} {rm : Room} {As : List Value} {z : Nat} {f : xHp} {ov : Option Value} {z1 : Nat} {f1 : xHp} (hy : plainName y.cls = true) (hle : (lg_sl As).length ≤ maxL)
    (body : ∀ (p : Program) (e : Env) (s : State) (m : MethodId) (below : List Frame) (meth : Method) (c : Code) (ls : Array Slot), xC G p m c s As.toArray y.cls bytes maxL → meth.sig.returnType = ret → meth.locks = false → meth.name = y.name → xY G z f s s.heap [] → lv_has ls maxL (lv_args 0 As) →
      W p l e rm s m As.toArray below meth c s.heap [] 0 0 (MQ below (xQ G ov z1 f1) As.toArray s rm.cells rm.slots (xA G)) (F0 m 0 ls [])) : xM G l y bytes maxL ret rm As z f ov z1 f1 := by
  refine Met.ofW (cc := bytes) (maxL := maxL) (ret := ret) hy rfl ?_
  intro p e s m args below meth c s₁ B hml hv
  obtain ⟨rfl, hW, hK⟩ := hv
  have hts := atoms_spec (ws := .code y bytes maxL ret :: xws) B.pre
  rw [lg_entry_eq]
  exact body p e s m below meth c _ ⟨⟨B.exec, B.bytes, hml, findClass_of_methodNamed B.named, fun w hw => hts w (List.mem_cons_of_mem _ hw)⟩, hK⟩ B.returns B.notSynchronized (name_of_methodNamed B.named B.method).1 ⟨hW, va_S.rf, by rw [hW.1]; exact hW.2.1⟩ (lv_entry As hle)
section XM
variable {p : Program} {l : Launch} {e : Env} {R : Room} {s : State} {m : MethodId} {args : Array Value} {below : List Frame} {meth : Method} {c : Code} {H : Heap} {locs : List Loc} {cells slots : Nat} {Q : State → Prop}
variable {cc : ByteArray} {pc : Nat} {ls : Array Slot} {rest st0 : List Value} {G : xG} {z : Nat} {f : xHp} {own : String} {nL : Nat}
theorem xQ_end (Y : xY G z f s H locs) {ov : Option Value} (t : State) (ht : t.heap = H) : xQ G ov z f args s (.returned ov) t := ⟨rfl, by rw [ht]; exact Y.1, Y.2.1.F ht⟩
theorem q_reti (X : xC G p m c s args own cc nL) (Y : xY G z f s H locs) (hr : meth.sig.returnType = some .int) (hlocks : meth.locks = false) {v : Int32} {mc ms : Nat} (hc : cells ≤ mc) (hs : slots ≤ ms) (hdg : decode cc pc = .ok (.ireturn, 1)) : W p l e R s m args below meth c H locs cells slots (MQ below (xQ G (some (.int v)) z f) args s mc ms (xA G)) (F0 m pc ls [.int v]) :=
  W.widen hc hs (W.iret X.1.1 X.1.2.1 hr (fun t ht _ => xQ_end Y t ht) Y.2.1.2.2 hdg hlocks)
theorem q_retz (X : xC G p m c s args own cc nL) (Y : xY G z f s H locs) (hr : meth.sig.returnType = some .boolean) (hlocks : meth.locks = false) {v : Int32} (hn : narrow .boolean (.int v) = .int v) {mc ms : Nat} (hc : cells ≤ mc) (hs : slots ≤ ms) (hdg : decode cc pc = .ok (.ireturn, 1)) : W p l e R s m args below meth c H locs cells slots (MQ below (xQ G (some (.int v)) z f) args s mc ms (xA G)) (F0 m pc ls [.int v]) :=
  W.widen hc hs (W.zret X.1.1 X.1.2.1 hr hn (fun t ht _ => xQ_end Y t ht) Y.2.1.2.2 hdg hlocks)
theorem q_retl (X : xC G p m c s args own cc nL) (Y : xY G z f s H locs) (hr : meth.sig.returnType = some .long) (hlocks : meth.locks = false) {v : Int64} {mc ms : Nat} (hc : cells ≤ mc) (hs : slots ≤ ms) (hdg : decode cc pc = .ok (.lreturn, 1)) : W p l e R s m args below meth c H locs cells slots (MQ below (xQ G (some (.long v)) z f) args s mc ms (xA G)) (F0 m pc ls [.long v]) :=
  W.widen hc hs (W.lret X.1.1 X.1.2.1 hr (fun t ht _ => xQ_end Y t ht) Y.2.1.2.2 hdg hlocks)
theorem q_reta (X : xC G p m c s args own cc nL) (Y : xY G z f s H locs) {rt : FieldType} (hr : meth.sig.returnType = some rt) (hrt : (∃ n, rt = .object n) ∨ ∃ t, rt = .array t) (hlocks : meth.locks = false) {v : Option Nat} {mc ms : Nat} (hc : cells ≤ mc) (hs : slots ≤ ms) (hdg : decode cc pc = .ok (.areturn, 1)) : W p l e R s m args below meth c H locs cells slots (MQ below (xQ G (some (va_rf v)) z f) args s mc ms (xA G)) (F0 m pc ls [va_rf v]) :=
  W.widen hc hs (W.aret X.1.1 X.1.2.1 hr hrt (va_rf_or v) (fun t ht _ => xQ_end Y t ht) Y.2.1.2.2 hdg hlocks)
theorem q_retv (X : xC G p m c s args own cc nL) (Y : xY G z f s H locs) (hr : meth.sig.returnType = none) (hlocks : meth.locks = false) {mc ms : Nat} (hc : cells ≤ mc) (hs : slots ≤ ms) (hdg : decode cc pc = .ok (.return_, 1)) : W p l e R s m args below meth c H locs cells slots (MQ below (xQ G none z f) args s mc ms (xA G)) (F0 m pc ls []) :=
  W.widen hc hs (W.vret X.1.1 X.1.2.1 hr (fun t ht _ => xQ_end Y t ht) Y.2.1.2.2 hdg hlocks)
theorem q_fin {mc ms : Nat} {a : Array Value} {ov : Option Value} {z1 : Nat} {f1 : xHp} (hr : va_Run p l e R s m args below meth c H locs cells slots mc ms (F0 m pc ls st0) rest (xQ G ov z1 f1 a) (xA G)) (Y : xY G z f s H locs)
    (kk : ∀ (H1 : Heap) (locs1 : List Loc), xY G z1 f1 s H1 locs1 → W p l e R s m args below meth c H1 locs1 (cells + mc) (slots + ms) Q (F0 m (pc + 3) ls (ov.toList ++ rest))) : W p l e R s m args below meth c H locs cells slots Q (F0 m pc ls st0) := by
  intro T hT X
  obtain ⟨v, st₀, t, T', L, h0, X', hL, e1, e2, ⟨hv, hW, hz, hk⟩, st⟩ := hr T hT X
  cases hv
  rw [h0] at hz hk
  obtain ⟨t2, a1, b1⟩ := kk T'.heap (locs ++ L) ⟨by rw [e1]; exact hW, ⟨Nat.le_trans Y.2.1.1 (by rw [e1]; exact hz), fun q h1 h2 => by rw [e1, hk q (Nat.lt_of_lt_of_le h1 Y.2.1.1) h2]; exact Y.2.1.2.1 q h1 h2, fun q hq => by
      rcases List.mem_append.mp hq with h | h
      · exact Y.2.1.2.2 q h
      · exact hL q h⟩, Y.2.2⟩ T' rfl X'
  exact ⟨t2, st t2 a1, b1⟩
theorem xPre (X : xC G p m c s args own cc nL) (Y : xY G z f s H locs) (As : List Value) : PreS s H (va_Pc As (fun U => xW G z f U.heap ∧ xK G U)) As :=
  ⟨fun a U g mk q => ⟨q.1, q.2.1, q.2.2.moved (Vm.Alike.refl U.vm) (fun _ _ _ => rfl)⟩, fun U hU hW => ⟨rfl, by rw [hU]; exact Y.1, X.2.moved hW.alike (fun a h1 h2 => by rw [hU]; exact Y.2.1.2.1 a h1 h2)⟩⟩
theorem xRec (X : xC G p m c s args own cc nL) (Y : xY G z f s H locs) {b ci : Nat} (hk : hKd f b = some ci) {C : String} {T : u_T} {N : Nat} (hc : vwCl[ci]? = some (C, T, N)) : ∃ cellB : Cell, H[b]? = some cellB ∧ cellB.vm.isStatics = false ∧ s.vm.findClass C = some cellB.cls := by
  unfold hKd at hk
  split at hk
  · rename_i ci' fs hfa
    cases hk
    exact va_recv X.2.1 (Y.1.one hfa) hc (q0 := 0) rfl
  · cases hk
theorem xPreV (X : xC G p m c s args own cc nL) (Y : xY G z f s H locs) {b ci : Nat} (hk : hKd f b = some ci) {C : String} {T : u_T} {N : Nat} (hc : vwCl[ci]? = some (C, T, N)) (As : List Value) : PreV s H C b (va_Pc (.ref b :: As) (fun U => xW G z f U.heap ∧ xK G U)) As :=
  ⟨(xPre X Y _).1, xRec X Y hk hc, (xPre X Y (.ref b :: As)).2⟩
/-- what a callee is: its code among the words, its name plain -/
def xCd (y : MethodName) (bytes : ByteArray) (maxL : Nat) (ret : Option FieldType) (n : Nat) : Prop := Cond.code y bytes maxL ret ∈ xws ∧ Cond.initialized y.cls ∈ xws ∧ (y.cls ≠ "java/lang/invoke/MethodHandle" ∧ y.cls ≠ "java/lang/invoke/VarHandle") ∧ (parseMethodDescriptor y.desc).map (fun d => d.parameters.length) = some n
theorem xCd_len {y : MethodName} {n : Nat} (h : (parseMethodDescriptor y.desc).map (fun d => d.parameters.length) = some n) : ∀ sig, parseMethodDescriptor y.desc = some sig → n = sig.parameters.length := by
  intro sig q
  rw [q] at h
  exact (Option.some.inj h).symm
theorem xCd_back (X : xC G p m c s args own cc nL) {y : MethodName} {bytes : ByteArray} {maxL n : Nat} {ret : Option FieldType} (h : xCd y bytes maxL ret n) : ∀ w ∈ (Cond.code y bytes maxL ret :: xws), ∀ (a' : Array Value) (U : State), s.WarmedH U.vm → w.before a' U = true := by
  intro w hw
  rcases List.mem_cons.mp hw with rfl | hw
  · exact xws_warm X.1.2.2.2.2 _ h.1
  · exact xws_warm X.1.2.2.2.2 _ hw
def xLV (own : String) (index ci : Nat) (y : MethodName) : Prop := (∃ T N, vwCl[ci]? = some (y.cls, T, N)) ∧ Cond.methodLink own index y ∈ xws ∧ Cond.instanceMethod y ∈ xws ∧ Cond.selects y.cls y y ∈ xws
theorem q_callV (X : xC G p m c s args own cc nL) (Y : xY G z f s H locs) (hls : ls.size = nL) {y : MethodName} {bytes : ByteArray} {maxL n index b ci : Nat} {ret : Option FieldType} {rm : Room} {As : List Value} {ov : Option Value} {z1 : Nat} {f1 : xHp} (hM : xM G l y bytes maxL ret rm (.ref b :: As) z f ov z1 f1) (hd : xCd y bytes maxL ret n) (hL : xLV own index ci y) (hk : hKd f b = some ci)
    (hR : rm.frames + 1 ≤ R.frames ∧ 8 + (maxL + 11) + rm.locals ≤ R.locals) (hf : cells + rm.cells ≤ R.cells ∧ slots + rm.slots ≤ R.slots) (hn : As.length = n) (hst : st0 = As.reverse ++ .ref b :: rest) (hw : (rest.map fun v => v.category).sum ≤ 8) (hdg : decode cc pc = .ok (.invokevirtual index, 3))
    (kk : ∀ (H1 : Heap) (locs1 : List Loc), xY G z1 f1 s H1 locs1 → W p l e R s m args below meth c H1 locs1 (cells + rm.cells) (slots + rm.slots) Q (F0 m (pc + 3) ls (ov.toList ++ rest))) : W p l e R s m args below meth c H locs cells slots Q (F0 m pc ls st0) := by
  obtain ⟨⟨T, N, hc⟩, hl1, hl2, hl3⟩ := hL
  have hts := X.1.2.2.2.2
  exact q_fin (va_runV X.1 hM ⟨⟨rfl, rfl, hR.1, hR.2, xCd_back X hd, List.mem_cons_self, hts _ hd.1, hts _ hd.2.1, hd.2.2.1, xCd_len hd.2.2.2, hts _ hl1⟩, hts _ hl2, hts _ hl3⟩ (xPreV X Y hk hc As) rfl hn hls hst (lv_room hw) hdg hf) Y kk
def xLU (own : String) (index ci : Nat) (owner : String) (x y : MethodName) : Prop := (∃ C T N, vwCl[ci]? = some (C, T, N) ∧ Cond.selects C x y ∈ xws) ∧ Cond.methodLink own index x ∈ xws ∧ Cond.sameMethod x.cls owner x.name x.desc ∈ xws ∧ Cond.instanceMethod y ∈ xws ∧ (Cond.declares ⟨owner, x.name, x.desc⟩ ∈ xws ∨ ∃ (b : ByteArray) (ml : Nat) (r : Option FieldType), Cond.instanceMethod ⟨owner, x.name, x.desc⟩ ∈ xws ∧ Cond.code ⟨owner, x.name, x.desc⟩ b ml r ∈ xws) ∧ y.desc = x.desc ∧ (owner ≠ "java/lang/invoke/MethodHandle" ∧ owner ≠ "java/lang/invoke/VarHandle")
theorem q_callU (X : xC G p m c s args own cc nL) (Y : xY G z f s H locs) (hls : ls.size = nL) {x y : MethodName} {owner : String} {bytes : ByteArray} {maxL n index b ci : Nat} {ret : Option FieldType} {rm : Room} {As : List Value} {ov : Option Value} {z1 : Nat} {f1 : xHp} (hM : xM G l y bytes maxL ret rm (.ref b :: As) z f ov z1 f1) (hd : xCd y bytes maxL ret n) (hL : xLU own index ci owner x y) (hk : hKd f b = some ci)
    (hR : rm.frames + 1 ≤ R.frames ∧ 8 + (maxL + 11) + rm.locals ≤ R.locals) (hf : cells + rm.cells ≤ R.cells ∧ slots + rm.slots ≤ R.slots) (hn : As.length = n) (hst : st0 = As.reverse ++ .ref b :: rest) (hw : (rest.map fun v => v.category).sum ≤ 8) (hdg : decode cc pc = .ok (.invokevirtual index, 3))
    (kk : ∀ (H1 : Heap) (locs1 : List Loc), xY G z1 f1 s H1 locs1 → W p l e R s m args below meth c H1 locs1 (cells + rm.cells) (slots + rm.slots) Q (F0 m (pc + 3) ls (ov.toList ++ rest))) : W p l e R s m args below meth c H locs cells slots Q (F0 m pc ls st0) := by
  obtain ⟨⟨C, T, N, hc, hs⟩, hl1, hl2, hl3, hl4, hdx, hno⟩ := hL
  have hts := X.1.2.2.2.2
  have hdecl : va_Decl s ⟨owner, x.name, x.desc⟩ := by
    rcases hl4 with h | ⟨b, ml, r, h1, h2⟩
    · exact va_Decl.abs (va_Nw.of rfl (hts _ h))
    · exact va_Decl.of (hts _ h1) (hts _ h2)
  exact q_fin (va_runU X.1 hM ⟨⟨rfl, rfl, hR.1, hR.2, xCd_back X hd, List.mem_cons_self⟩, hts _ hd.1, hts _ hd.2.1, hno, xCd_len (y := x) (by rw [← hdx]; exact hd.2.2.2), hts _ hl1, hts _ hl2, hdecl, hts _ hs, hts _ hl3⟩ (xPreV X Y hk hc As) rfl hn hls hst (lv_room hw) hdg hf) Y kk
def xLS (own : String) (index : Nat) (y : MethodName) : Prop := Cond.methodLink own index y ∈ xws ∧ Cond.static y ∈ xws
theorem q_callS (X : xC G p m c s args own cc nL) (Y : xY G z f s H locs) (hls : ls.size = nL) {y : MethodName} {bytes : ByteArray} {maxL n index : Nat} {ret : Option FieldType} {rm : Room} {As : List Value} {ov : Option Value} {z1 : Nat} {f1 : xHp} (hM : xM G l y bytes maxL ret rm As z f ov z1 f1) (hd : xCd y bytes maxL ret n) (hL : xLS own index y)
    (hR : rm.frames + 1 ≤ R.frames ∧ 8 + (maxL + 11) + rm.locals ≤ R.locals) (hf : cells + rm.cells ≤ R.cells ∧ slots + rm.slots ≤ R.slots) (hn : As.length = n) (hst : st0 = As.reverse ++ rest) (hw : (rest.map fun v => v.category).sum ≤ 8) (hdg : decode cc pc = .ok (.invokestatic index, 3))
    (kk : ∀ (H1 : Heap) (locs1 : List Loc), xY G z1 f1 s H1 locs1 → W p l e R s m args below meth c H1 locs1 (cells + rm.cells) (slots + rm.slots) Q (F0 m (pc + 3) ls (ov.toList ++ rest))) : W p l e R s m args below meth c H locs cells slots Q (F0 m pc ls st0) := by
  have hts := X.1.2.2.2.2
  exact q_fin (va_runS X.1 hM ⟨⟨rfl, rfl, hR.1, hR.2, xCd_back X hd, List.mem_cons_self, hts _ hd.1, hts _ hd.2.1, hd.2.2.1, xCd_len hd.2.2.2, hts _ hL.1⟩, hts _ hL.2⟩ (xPre X Y As) rfl hn hls hst (lv_room hw) hdg hf) Y kk
def xLSN (own : String) (index : Nat) (y : MethodName) : Prop := Cond.methodLinkNest own index y "NeverBelow" ∈ xws ∧ Cond.static y ∈ xws
theorem q_callSN (X : xC G p m c s args own cc nL) (Y : xY G z f s H locs) (hls : ls.size = nL) {y : MethodName} {bytes : ByteArray} {maxL n index : Nat} {ret : Option FieldType} {rm : Room} {As : List Value} {ov : Option Value} {z1 : Nat} {f1 : xHp} (hM : xM G l y bytes maxL ret rm As z f ov z1 f1) (hd : xCd y bytes maxL ret n) (hL : xLSN own index y)
    (hR : rm.frames + 1 ≤ R.frames ∧ 8 + (maxL + 11) + rm.locals ≤ R.locals) (hf : cells + rm.cells ≤ R.cells ∧ slots + rm.slots ≤ R.slots) (hn : As.length = n) (hst : st0 = As.reverse ++ rest) (hw : (rest.map fun v => v.category).sum ≤ 8) (hdg : decode cc pc = .ok (.invokestatic index, 3))
    (kk : ∀ (H1 : Heap) (locs1 : List Loc), xY G z1 f1 s H1 locs1 → W p l e R s m args below meth c H1 locs1 (cells + rm.cells) (slots + rm.slots) Q (F0 m (pc + 3) ls (ov.toList ++ rest))) : W p l e R s m args below meth c H locs cells slots Q (F0 m pc ls st0) := by
  have hts := X.1.2.2.2.2
  exact q_fin (va_runSN X.1 hM ⟨⟨⟨rfl, rfl, hR.1, hR.2, xCd_back X hd, List.mem_cons_self⟩, hts _ hd.1, hts _ hd.2.1, hd.2.2.1, xCd_len hd.2.2.2, hts _ hL.1⟩, hts _ hL.2, trivial⟩ (xPre X Y As) rfl hn hls hst (lv_room hw) hdg hf) Y kk
def xLI (own : String) (index : Nat) (y : MethodName) : Prop := Cond.methodLink own index y ∈ xws ∧ y.name = "<init>" ∧ Cond.instanceMethod y ∈ xws
theorem q_callI (X : xC G p m c s args own cc nL) (Y : xY G z f s H locs) (hls : ls.size = nL) {y : MethodName} {bytes : ByteArray} {maxL n index b : Nat} {rm : Room} {As : List Value} {z1 : Nat} {f1 : xHp} (hM : xM G l y bytes maxL none rm (.ref b :: As) z f none z1 f1) (hd : xCd y bytes maxL none n) (hL : xLI own index y)
    (hR : rm.frames + 1 ≤ R.frames ∧ 8 + (maxL + 11) + rm.locals ≤ R.locals) (hf : cells + rm.cells ≤ R.cells ∧ slots + rm.slots ≤ R.slots) (hn : As.length = n) (hst : st0 = As.reverse ++ .ref b :: rest) (hw : (rest.map fun v => v.category).sum ≤ 8) (hdg : decode cc pc = .ok (.invokespecial index, 3))
    (kk : ∀ (H1 : Heap) (locs1 : List Loc), xY G z1 f1 s H1 locs1 → W p l e R s m args below meth c H1 locs1 (cells + rm.cells) (slots + rm.slots) Q (F0 m (pc + 3) ls rest)) : W p l e R s m args below meth c H locs cells slots Q (F0 m pc ls st0) := by
  have hts := X.1.2.2.2.2
  exact q_fin (va_runI X.1 hM ⟨⟨rfl, rfl, hR.1, hR.2, xCd_back X hd, List.mem_cons_self, hts _ hd.1, hts _ hd.2.1, hd.2.2.1, xCd_len hd.2.2.2, hts _ hL.1⟩, hL.2.1, hts _ hL.2.2⟩ (xPre X Y _) rfl hn hls hst (lv_room hw) hdg hf) Y kk
def xLIN (own : String) (index : Nat) (y : MethodName) : Prop := Cond.methodLinkNest own index y "NeverBelow" ∈ xws ∧ y.name = "<init>" ∧ Cond.instanceMethod y ∈ xws
theorem q_callIN (X : xC G p m c s args own cc nL) (Y : xY G z f s H locs) (hls : ls.size = nL) {y : MethodName} {bytes : ByteArray} {maxL n index b : Nat} {rm : Room} {As : List Value} {z1 : Nat} {f1 : xHp} (hM : xM G l y bytes maxL none rm (.ref b :: As) z f none z1 f1) (hd : xCd y bytes maxL none n) (hL : xLIN own index y)
    (hR : rm.frames + 1 ≤ R.frames ∧ 8 + (maxL + 11) + rm.locals ≤ R.locals) (hf : cells + rm.cells ≤ R.cells ∧ slots + rm.slots ≤ R.slots) (hn : As.length = n) (hst : st0 = As.reverse ++ .ref b :: rest) (hw : (rest.map fun v => v.category).sum ≤ 8) (hdg : decode cc pc = .ok (.invokespecial index, 3))
    (kk : ∀ (H1 : Heap) (locs1 : List Loc), xY G z1 f1 s H1 locs1 → W p l e R s m args below meth c H1 locs1 (cells + rm.cells) (slots + rm.slots) Q (F0 m (pc + 3) ls rest)) : W p l e R s m args below meth c H locs cells slots Q (F0 m pc ls st0) := by
  have hts := X.1.2.2.2.2
  exact q_fin (va_runIN X.1 hM ⟨⟨⟨rfl, rfl, hR.1, hR.2, xCd_back X hd, List.mem_cons_self⟩, hts _ hd.1, hts _ hd.2.1, hd.2.2.1, xCd_len hd.2.2.2, hts _ hL.1⟩, hL.2.1, hts _ hL.2.2⟩ (xPre X Y _) rfl hn hls hst (lv_room hw) hdg hf) Y kk
def xLSU (own : String) (index ci : Nat) (y : MethodName) : Prop := (∃ C T N, vwCl[ci]? = some (C, T, N)) ∧ Cond.methodLink own index y ∈ xws ∧ Cond.sameMethod y.cls y.cls y.name y.desc ∈ xws ∧ Cond.superclass own y.cls ∈ xws ∧ Cond.instanceMethod y ∈ xws ∧ y.name ≠ "<init>"
theorem q_callSU (X : xC G p m c s args own cc nL) (Y : xY G z f s H locs) (hls : ls.size = nL) {y : MethodName} {bytes : ByteArray} {maxL n index b ci : Nat} {ret : Option FieldType} {rm : Room} {As : List Value} {ov : Option Value} {z1 : Nat} {f1 : xHp} (hM : xM G l y bytes maxL ret rm (.ref b :: As) z f ov z1 f1) (hd : xCd y bytes maxL ret n) (hL : xLSU own index ci y) (hk : hKd f b = some ci)
    (hR : rm.frames + 1 ≤ R.frames ∧ 8 + (maxL + 11) + rm.locals ≤ R.locals) (hf : cells + rm.cells ≤ R.cells ∧ slots + rm.slots ≤ R.slots) (hn : As.length = n) (hst : st0 = As.reverse ++ .ref b :: rest) (hw : (rest.map fun v => v.category).sum ≤ 8) (hdg : decode cc pc = .ok (.invokespecial index, 3))
    (kk : ∀ (H1 : Heap) (locs1 : List Loc), xY G z1 f1 s H1 locs1 → W p l e R s m args below meth c H1 locs1 (cells + rm.cells) (slots + rm.slots) Q (F0 m (pc + 3) ls (ov.toList ++ rest))) : W p l e R s m args below meth c H locs cells slots Q (F0 m pc ls st0) := by
  obtain ⟨⟨C, T, N, hc⟩, hl1, hl2, hl3, hl4, hl5⟩ := hL
  have hts := X.1.2.2.2.2
  exact q_fin (va_runSU (X.2.1.1 ci _ hc).2 X.1 hM ⟨⟨rfl, rfl, hR.1, hR.2, xCd_back X hd, List.mem_cons_self⟩, hts _ hl1, hts _ hl2, hts _ hl3, hts _ hl4, hts _ hd.2.1, hts _ hd.1, hl5, xCd_len hd.2.2.2⟩ (xPreV X Y hk hc As) rfl hn hls hst (lv_room hw) hdg hf) Y kk
/-- Object's constructor -/
def xLO (own : String) (index : Nat) : Prop := Cond.methodLink own index objectInit ∈ xws ∧ Cond.instanceMethod objectInit ∈ xws ∧ Cond.code objectInit ⟨#[0xb1]⟩ 1 none ∈ xws
theorem q_obj (X : xC G p m c s args own cc nL) (hls : ls.size = nL) {index a : Nat} (hL : xLO own index) (hframes : 1 ≤ R.frames) (hlocals : (rest.map fun v => v.category).sum + 12 ≤ R.locals) (hdg : decode cc pc = .ok (.invokespecial index, 3))
    (kk : W p l e R s m args below meth c H locs cells slots Q (F0 m (pc + 3) ls rest)) : W p l e R s m args below meth c H locs cells slots Q (F0 m pc ls (.ref a :: rest)) :=
  W.objInit X.1.1 X.1.2.1 X.1.2.2.2.1 (X.1.2.2.2.2 _ hL.1) (X.1.2.2.2.2 _ hL.2.1) (X.1.2.2.2.2 _ hL.2.2) rfl (by rw [X.1.2.2.1]; exact hls) rfl hdg hframes (by show 2 * 0 + _ + 12 ≤ _; omega) kk
end XM

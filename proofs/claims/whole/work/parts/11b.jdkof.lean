theorem xM_ofF {G : xG} {l : Launch} {y : MethodName} {bytes : ByteArray} {maxL : Nat} {ret : Option FieldType} {rm : Room} {As : List Value} {z : Nat} {f : xHp} {ov : Option Value} {z1 : Nat} {f1 : xHp} (hy : plainFor y = true) (hle : (lg_sl As).length ≤ maxL)
    (body : ∀ (p : Program) (e : Env) (s : State) (m : MethodId) (below : List Frame) (meth : Method) (c : Code) (ls : Array Slot), xC G p m c s As.toArray y.cls bytes maxL → meth.sig.returnType = ret → meth.locks = false → meth.name = y.name → xY G z f s s.heap [] → lv_has ls maxL (lv_args 0 As) →
      W p l e rm s m As.toArray below meth c s.heap [] 0 0 (MQ below (xQ G ov z1 f1) As.toArray s rm.cells rm.slots (xA G)) (F0 m 0 ls [])) : xM G l y bytes maxL ret rm As z f ov z1 f1 := by
  refine va_MetF (cc := bytes) (maxL := maxL) (ret := ret) hy rfl ?_
  intro p e s m args below meth c s₁ B hml hv
  obtain ⟨rfl, hW, hK⟩ := hv
  have hts := atoms_spec (ws := .code y bytes maxL ret :: xws) B.pre
  rw [lg_entry_eq]
  exact body p e s m below meth c _ ⟨⟨B.exec, B.bytes, hml, findClass_of_methodNamed B.named, fun w hw => hts w (List.mem_cons_of_mem _ hw)⟩, hK⟩ B.returns B.notSynchronized (name_of_methodNamed B.named B.method).1 ⟨hW, va_S.rf, by rw [hW.1]; exact hW.2.1⟩ (lv_entry As hle)

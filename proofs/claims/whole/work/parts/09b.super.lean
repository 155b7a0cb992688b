/-! super.m(..), where the superclass itself inherits it -/
section XSX
variable {p : Program} {l : Launch} {e : Env} {R : Room} {s : State} {m : MethodId} {args : Array Value} {below : List Frame} {meth : Method} {c : Code} {H : Heap} {locs : List Loc} {cells slots : Nat} {Q : State → Prop}
variable {cc : ByteArray} {pc : Nat} {ls : Array Slot} {rest st0 : List Value} {G : xG} {z : Nat} {f : xHp} {own : String} {nL : Nat}
def xLSX (own : String) (index ci : Nat) (x y : MethodName) : Prop := (∃ C T N, vwCl[ci]? = some (C, T, N)) ∧ Cond.methodLink own index x ∈ xws ∧ Cond.sameMethod x.cls y.cls x.name x.desc ∈ xws ∧ Cond.superclass own x.cls ∈ xws ∧ Cond.superclass x.cls y.cls ∈ xws ∧ Cond.instanceMethod y ∈ xws ∧ x.name ≠ "<init>" ∧ y = ⟨y.cls, x.name, x.desc⟩
theorem xsub2 {a b : ClassId} {ka : Class} (h1 : s.vm.classes[a]? = some ka) (h2 : ka.super = some b) : s.vm.isSubclass a b = true := by
  have hsz : a < s.vm.classes.size := (Array.getElem?_eq_some_iff.mp h1).1
  unfold Vm.isSubclass
  obtain ⟨n, hn⟩ : ∃ n, s.vm.classes.size = n + 1 := Nat.exists_eq_succ_of_ne_zero (Nat.ne_of_gt (Nat.lt_of_le_of_lt (Nat.zero_le _) hsz))
  rw [hn]
  simp [Vm.isSubclassAux, h1, h2]
theorem q_callSX (X : xC G p m c s args own cc nL) (Y : xY G z f s H locs) (hls : ls.size = nL) {x y : MethodName} {bytes : ByteArray} {maxL n index b ci : Nat} {ret : Option FieldType} {rm : Room} {As : List Value} {ov : Option Value} {z1 : Nat} {f1 : xHp} (hM : xM G l y bytes maxL ret rm (.ref b :: As) z f ov z1 f1) (hd : xCd y bytes maxL ret n) (hL : xLSX own index ci x y) (hk : hKd f b = some ci)
    (hR : rm.frames + 1 ≤ R.frames ∧ 8 + (maxL + 11) + rm.locals ≤ R.locals) (hf : cells + rm.cells ≤ R.cells ∧ slots + rm.slots ≤ R.slots) (hn : As.length = n) (hst : st0 = As.reverse ++ .ref b :: rest) (hw : (rest.map fun v => v.category).sum ≤ 8) (hdg : decode cc pc = .ok (.invokespecial index, 3))
    (kk : ∀ (H1 : Heap) (locs1 : List Loc), xY G z1 f1 s H1 locs1 → W p l e R s m args below meth c H1 locs1 (cells + rm.cells) (slots + rm.slots) Q (F0 m (pc + 3) ls (ov.toList ++ rest))) : W p l e R s m args below meth c H locs cells slots Q (F0 m pc ls st0) := by
  obtain ⟨⟨C, Tt, N, hc⟩, hl1, hl2, hl3, hl4, hl5, hno, hyx⟩ := hL
  have hts := X.1.2.2.2.2
  have hat := (X.2.1.1 ci _ hc).2
  refine q_fin (mc := rm.cells) (ms := rm.slots) (a := (Value.ref b :: As).toArray) ?_ Y kk
  have hK : Back l R p e below s args y 3 8 (PreOf R rm.cells rm.slots (va_Pc (.ref b :: As) (fun U => xW G z f U.heap ∧ xK G U))) (PostOf (xQ G ov z1 f1) rm.cells rm.slots (xA G)) := back_of (bytes := bytes) (maxL := maxL) (ret := ret) hM (xPre X Y _).1 rfl rfl hR.1 hR.2 (xCd_back X hd) List.mem_cons_self (fun a' U hW => word_at hW (Or.inl (by first | rfl | simp [Cond.onTables, Cond.keeps, Cond.steady])) (hts _ hd.2.1))
  obtain ⟨-, ⟨cellB, hcB, hoB, hclB⟩, hPc⟩ := xPreV X Y hk hc As
  obtain ⟨hfc, kB, hkB, -⟩ := hat
  have hcls : cellB.cls = G.1 ci := (Option.some.inj (hfc.symm.trans hclB)).symm
  intro T hT XX
  have hinst := hts _ hl5
  obtain ⟨mk, methM, hnamed, hmethM, hstM, habM⟩ := Cond.instanceMethod_spec hinst
  obtain ⟨methM', cM, hmethM', -, -, -, -, -, -, hsigM⟩ := Cond.code_spec hnamed (hts _ hd.1)
  cases hmethM.symm.trans hmethM'
  obtain ⟨ps, dk, kp, hps, hdk, hkp, hsuper, -, -, hnid⟩ := Cond.superclass_spec X.1.2.2.2.1 (hts _ hl3)
  obtain ⟨ps2, dk2, kp2, hps2, hdk2, hkp2, hsuper2, -, -, hnid2⟩ := Cond.superclass_spec hps (hts _ hl4)
  have hnm : s.methodNamed? ⟨y.cls, x.name, x.desc⟩ = some mk := by rw [← hyx]; exact hnamed
  have hpm : ps2 = mk.cls := Option.some.inj (hps2.symm.trans (findClass_of_methodNamed hnamed))
  have hsub : s.vm.isSubclass ps mk.cls = true := by rw [← hpm]; exact xsub2 hdk2 hsuper2
  have hlen : As.length = methM.sig.parameters.length := hn.trans (xCd_len hd.2.2.2 _ hsigM)
  obtain ⟨vm₁, X₁, hstep₁⟩ := XX.invokespecialUp X.1.1 X.1.2.2.2.1 (hts _ hl1) (hts _ hl2) hnm hmethM hstM habM hno hdk hnid hps hsuper hsub (a := b) (cell := cellB) (by rw [hT]; exact hcB)
    (fun z h => by rw [h] at hoB; cases hoB) (by rw [hcls]; exact hkB) (g := F0 m pc ls st0) rfl (argsL := As) (rest := rest) hlen hst (by rw [X.1.2.1]; exact hdg)
  obtain ⟨v, ⟨U', l2, c2, s2⟩, X', ⟨g', mk', t, L, e1, e2, hq, h1, hL, h2, h3⟩, hsteps⟩ := hK m meth c ⟨T.setVm vm₁, locs, cells, slots⟩ { F0 m pc ls st0 with stack := rest } (.invokespecial index) mk (Value.ref b :: As).toArray X₁ rfl (by show ls.size = _; rw [X.1.2.2.1]; exact hls) (by rw [X.1.2.1]; exact hdg) (lv_room hw) (X₁.named hnamed) ⟨hf.1, hf.2, hPc (T.setVm vm₁) hT X₁.warmed⟩
  dsimp only [Pt.U, Pt.locs, Pt.cells, Pt.slots] at X' e1 e2 h1 h2 h3 hsteps
  subst h1; subst h2; subst h3
  exact ⟨v, (T.setVm vm₁).calling g' mk' (Value.ref b :: As).toArray, t, U', L, hT, X', hL, e1, e2, hq, fun target h => hstep₁ _ (by rw [doInvoke_state]; exact hsteps.trans h)⟩
end XSX
/-- a reference that may be null: by its two cases -/
def xnul {β : Type} (r : Option Nat) (n : β) (s : Nat → β) : β := match r with
  | none => n
  | some a => s a
theorem xn0 {β : Type} {r : Option Nat} {n : Option β} {s : Nat → Option β} {b : β} (h : xnul r n s = some b) (e : r = none) : n = some b := by
  subst e; exact h
theorem xn1 {β : Type} {r : Option Nat} {n : Option β} {s : Nat → Option β} {b : β} {a : Nat} (h : xnul r n s = some b) (e : r = some a) : s a = some b := by
  subst e; exact h

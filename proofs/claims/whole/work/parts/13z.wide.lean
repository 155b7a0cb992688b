/-! a call over a taller stack -/
section XWD
variable {p : Program} {l : Launch} {e : Env} {R : Room} {s : State} {m : MethodId} {args : Array Value} {below : List Frame} {meth : Method} {c : Code} {H : Heap} {locs : List Loc} {cells slots : Nat} {Q : State → Prop}
variable {cc : ByteArray} {pc : Nat} {ls : Array Slot} {rest st0 : List Value} {G : xG} {z : Nat} {f : xHp} {own : String} {nL : Nat}
theorem q_callVW (X : xC G p m c s args own cc nL) (Y : xY G z f s H locs) (hls : ls.size = nL) {y : MethodName} {bytes : ByteArray} {maxL n index b ci : Nat} {ret : Option FieldType} {rm : Room} {As : List Value} {ov : Option Value} {z1 : Nat} {f1 : xHp} (hM : xM G l y bytes maxL ret rm (.ref b :: As) z f ov z1 f1) (hd : xCd y bytes maxL ret n) (hL : xLV own index ci y) (hk : hKd f b = some ci)
    (hR : rm.frames + 1 ≤ R.frames ∧ 16 + (maxL + 11) + rm.locals ≤ R.locals) (hf : cells + rm.cells ≤ R.cells ∧ slots + rm.slots ≤ R.slots) (hn : As.length = n) (hst : st0 = As.reverse ++ .ref b :: rest) (hw : (rest.map fun v => v.category).sum ≤ 16) (hdg : decode cc pc = .ok (.invokevirtual index, 3))
    (kk : ∀ (H1 : Heap) (locs1 : List Loc), xY G z1 f1 s H1 locs1 → W p l e R s m args below meth c H1 locs1 (cells + rm.cells) (slots + rm.slots) Q (F0 m (pc + 3) ls (ov.toList ++ rest))) : W p l e R s m args below meth c H locs cells slots Q (F0 m pc ls st0) := by
  obtain ⟨⟨Tt, N, hc⟩, hl1, hl2, hl3⟩ := hL
  have hts := X.1.2.2.2.2
  refine q_fin (mc := rm.cells) (ms := rm.slots) (a := (Value.ref b :: As).toArray) ?_ Y kk
  have hK : Back l R p e below s args y 3 16 (PreOf R rm.cells rm.slots (va_Pc (.ref b :: As) (fun U => xW G z f U.heap ∧ xK G U))) (PostOf (xQ G ov z1 f1) rm.cells rm.slots (xA G)) := back_of (bytes := bytes) (maxL := maxL) (ret := ret) hM (xPre X Y _).1 rfl rfl hR.1 hR.2 (xCd_back X hd) List.mem_cons_self (fun a' U hW => word_at hW (Or.inl (by first | rfl | simp [Cond.onTables, Cond.keeps, Cond.steady])) (hts _ hd.2.1))
  obtain ⟨-, ⟨cellB, hcB, hoB, hclB⟩, hPc⟩ := xPreV X Y hk hc As
  intro T hT XX
  obtain ⟨v, vm₁, ⟨U', l2, c2, s2⟩, hW₁, X', ⟨g', mk, t, L, e1, e2, hq, h1, hL, h2, h3⟩, st⟩ := callV XX X.1.1 (C := y.cls) (bytes := bytes) (maxL := maxL) (ret := ret) X.1.2.2.2.1 (hts _ hl1) (hts _ hl2) (hts _ hl3) (hts _ hd.1) hd.2.2.1 hK (by rw [hT]; exact hcB) hoB hclB (g := F0 m pc ls st0) rfl (by show ls.size = _; rw [X.1.2.2.1]; exact hls) (argsL := As) (rest := rest) (fun sig h => hn.trans (xCd_len hd.2.2.2 sig h)) hst (by show 2 * 0 + _ ≤ 16; omega) (by rw [X.1.2.1]; exact hdg)
    (fun vm₁ hW₁ => ⟨hf.1, hf.2, hPc (T.setVm vm₁) hT hW₁⟩)
  dsimp only [Pt.U, Pt.locs, Pt.cells, Pt.slots] at X' e1 e2 h1 h2 h3 st
  subst h1; subst h2; subst h3
  exact ⟨v, (T.setVm vm₁).calling g' mk (Value.ref b :: As).toArray, t, U', L, hT, X', hL, e1, e2, hq, st⟩
end XWD

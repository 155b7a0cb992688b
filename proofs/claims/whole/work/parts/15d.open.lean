set_option maxHeartbeats 4000000 in
set_option maxRecDepth 100000 in
/-- THE LAW, from its entry, where the law as a function answers -/
theorem whole_open (hT : ∀ (xs : Nat → Int32) (L z : Nat), L ≤ 3072 → F_law xs L z = some ()) {p : Program} {e : Env} {s : State} {m : MethodId} {below : List Frame} {meth : Method} {c : Code} (l : Launch) {b L : Nat} {xs : Nat → Int32} (hL : L ≤ 3072) (C0 : lw_At p s m meth c b L xs) : W p l e room_1 s m #[Value.ref b] below meth c s.heap [] 0 0 (lw_Z below #[Value.ref b] s) (entryFrame m ([Value.ref b] : List Value).toArray 4) := by
  obtain ⟨hx, hb, hr, hml, hown, hts, hX, hbl, hlocks, hgv⟩ := id C0
  obtain ⟨G, hbs, hK⟩ := xG_start hts (flat_of_before _ hgv)
  have hl := lv_entry ([.ref b]) (n := 4) (Nat.le_of_ble_eq_true rfl)
  rw [lg_entry_eq]
  generalize (lg_sl ([.ref b]) ++ List.replicate (4 - (lg_sl ([.ref b])).length) Slot.unset).toArray = ls at hl ⊢
  have hl : lv_has ls 4 [(0, .ref b)] := hl
  exact w_law_start ⟨⟨hx, hb, hml, hown, xws_all hts⟩, hK⟩ ⟨hX, hbl, by show ¬ xbs G ≤ b; rw [hbs]; omega⟩ hr hlocks hbs (hT xs L _ hL) ⟨⟨rfl, by rw [hbs]; exact Nat.le_refl _, fun a e h => by cases h⟩, va_S.rf, by rw [hbs]; exact Nat.le_refl _⟩ hl

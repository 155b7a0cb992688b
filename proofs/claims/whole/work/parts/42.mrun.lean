/-! the reference's steps are a run of the list -/
section MRUN
variable {x z : Nat} {iv ai : Nat → Nat → Int32} {aj : Nat → Nat → Int64} {ar : Nat → Nat → Option Nat} {pp : Nat → Option Nat} {f0 : xHp}
def Km (iv iv' ai ai' : Nat → Nat → Int32) : Prop := (∀ k, k ≠ 19 → iv' k = iv k) ∧ (∀ s, s ≠ 12 → s ≠ 15 → s ≠ 16 → iv' 19 s = iv 19 s) ∧ ∀ k, k ≠ 26 → k ≠ 27 → ai' k = ai k
theorem Km.trans {iv iv' iv2 ai ai' ai2 : Nat → Nat → Int32} (h : Km iv iv' ai ai') (h2 : Km iv' iv2 ai' ai2) : Km iv iv2 ai ai2 := ⟨fun k a => (h2.1 k a).trans (h.1 k a), fun s a b c => (h2.2.1 s a b c).trans (h.2.1 s a b c), fun k a b => (h2.2.2 k a b).trans (h.2.2 k a b)⟩
theorem nI_n9 {i : Nat} (hi : i < 2147483648) : ¬ nI i = -9 := by
  intro h
  have h1 := toInt_nI hi
  rw [h] at h1
  have h2 : (-9 : Int32).toInt = -9 := rfl
  omega
theorem m_step1 {p : Nat} (hp1 : p < 30) (h10 : iv 19 10 = nI p) {T : Nat → Int64} (hT : Tm (aj 23) p = T) {l : List Pt} (hl : l.length ≤ 40) (hr : rep (ai 26) (ai 27) l) (h6 : iv 19 12 = nI l.length) (hg2 : rgL l) {N d m : Nat} (hd : d < N) (hN : N ≤ 500) :
    (stepL T l = none ∧ L_X11_cover_27 (m + 1) (hp x iv ai aj ar pp f0) (x + 19) (nI N) (nI d) = some (if fullL l = true ∧ d = 0 then -4 else nI d, hp x iv ai aj ar pp f0)) ∨
    ∃ l' iv' ai', stepL T l = some l' ∧ L_X11_cover_27 (m + 1) (hp x iv ai aj ar pp f0) (x + 19) (nI N) (nI d) = L_X11_cover_27 m (hp x iv' ai' aj ar pp f0) (x + 19) (nI N) (nI (d + 1)) ∧ Km iv iv' ai ai' ∧ rep (ai' 26) (ai' 27) l' ∧ iv' 19 12 = nI l'.length ∧ (iv' 19 15, iv' 19 16) = if anyS l' 3 = true then lowL T l else (iv 19 15, iv 19 16) := by
  have e0 : L_X11_cover_27 (m + 1) (hp x iv ai aj ar pp f0) (x + 19) (nI N) (nI d) = (F_X11_firstPart (hp x iv ai aj ar pp f0) (x + 19) 0).bind (fun q3 => if q3 = (-9 : Int32) then some (nI d, hp x iv ai aj ar pp f0) else (F_X11_firstPart (hp x iv ai aj ar pp f0) (x + 19) 3).bind (fun q6 => if q6 = (-9 : Int32) then (F_X11_judged (hp x iv ai aj ar pp f0) (x + 19) q3).bind (fun q9 => if q9.1 = 0 then (Option.bind (hI q9.2 (x + 19) [(10, 12)]) fun v11 => if v11 = (40 : Int32) then (if nI d = 0 then (some ((-4 : Int32), q9.2)) else (some (nI d, q9.2))) else (F_X11_cover_88 (L_X11_cover_27 m) q9.2 (x + 19) (nI N) (nI d) q3 q9.1)) else (F_X11_cover_88 (L_X11_cover_27 m) q9.2 (x + 19) (nI N) (nI d) q3 q9.1)) else some (nI d, hp x iv ai aj ar pp f0))) := by
    show F_X11_cover_27 _ _ _ _ _ = _
    unfold F_X11_cover_27
    simp only [rk_19, if_true]
    rw [if_neg (by rw [leq_nI (by omega) (by omega)]; omega)]
  have h40 : l.length < xfuel := Nat.lt_of_le_of_lt hl (by decide)
  rcases m_fp_loop (x := x) (iv := iv) (ai := ai) (aj := aj) (ar := ar) (pp := pp) (f0 := f0) hl h6 0 l.length 0 xfuel (by omega) h40 with ⟨i, _, hi, h0, hj, e⟩ | ⟨hno, e⟩
  case inr =>
    left
    have h00 : anyS l 0 = false := (anyS_f hr).mp (fun j hj => hno j (Nat.zero_le _) hj)
    have hs : stepL T l = none := by
      cases h3 : anyS l 3 with
      | true => exact stepL_below h3
      | false => exact stepL_shut h3 h00
    have hf : fullL l = false := by unfold fullL; rw [h00, Bool.and_false]
    refine ⟨hs, ?_⟩
    rw [e0]
    unfold F_X11_firstPart
    rw [show (L_X11_firstPart_2 (hp x iv ai aj ar pp f0) xfuel (x + 19) 0 (0 : Int32)) = some (-9) from e, Option.bind_some, if_pos rfl, if_neg (show ¬ (fullL l = true ∧ d = 0) from fun q => by rw [hf] at q; cases q.1)]
  have e' : F_X11_firstPart (hp x iv ai aj ar pp f0) (x + 19) 0 = some (nI i) := e
  rw [e', Option.bind_some, if_neg (nI_n9 (by omega))] at e0
  rcases m_fp_loop (x := x) (iv := iv) (ai := ai) (aj := aj) (ar := ar) (pp := pp) (f0 := f0) hl h6 3 l.length 0 xfuel (by omega) h40 with ⟨i3, _, hi3, h03, hj3, e3⟩ | ⟨hno3, e3⟩
  · left
    have h3 : anyS l 3 = true := by rw [rep_any hr 3]; exact ⟨i3, hi3, h03⟩
    have hf : fullL l = false := by unfold fullL; rw [h3]; rfl
    refine ⟨stepL_below h3, ?_⟩
    have e3' : F_X11_firstPart (hp x iv ai aj ar pp f0) (x + 19) 3 = some (nI i3) := e3
    rw [e0, e3', Option.bind_some, if_neg (nI_n9 (by omega)), if_neg (show ¬ (fullL l = true ∧ d = 0) from fun q => by rw [hf] at q; cases q.1)]
  have e3' : F_X11_firstPart (hp x iv ai aj ar pp f0) (x + 19) 3 = some (-9) := e3
  rw [e3', Option.bind_some, if_pos rfl] at e0
  have h3 : anyS l 3 = false := (anyS_f hr).mp (fun j hj => hno3 j (Nat.zero_le _) hj)
  have st3 := (anyS_f hr (v := 3)).mpr h3
  have hj' : ∀ j, j < i → ai 27 j ≠ 0 := fun j h => hj j (Nat.zero_le _) h
  have eo := stepL_open (T := T) hr h3 hi h0 hj'
  have hlo := lowL_at (T := T) hr hi h0 hj'
  have hrq : rgQ (qd (ai 26) (ai 27) i) := by
    have := hg2 _ (List.getElem_mem hi)
    rw [rep_get hr hi] at this
    exact this
  generalize hq : qd (ai 26) (ai 27) i = q at eo hlo hrq
  obtain ⟨j1, j2, j3⟩ := m_judged (x := x) (iv := iv) (ai := ai) (aj := aj) (ar := ar) (pp := pp) (f0 := f0) hp1 h10 (show i < 41 by omega) hq hrq hT
  have q1 : q.1 = ai 26 (4 * i) := by rw [← hq]; rfl
  have q2 : q.2.1 = ai 26 (4 * i + 1) := by rw [← hq]; rfl
  have q3 : q.2.2.1 = ai 26 (4 * i + 2) := by rw [← hq]; rfl
  have q4 : q.2.2.2.1 = ai 26 (4 * i + 3) := by rw [← hq]; rfl
  have setc : ∀ (v : Int32) (iv' : Nat → Nat → Int32), v ≠ 0 → stepP T q = .inl (q.1, q.2.1, q.2.2.1, q.2.2.2.1, v) → F_X11_judged (hp x iv ai aj ar pp f0) (x + 19) (nI i) = some (v, hp x iv' ai aj ar pp f0) → (∀ k, k ≠ 19 → iv' k = iv k) → (∀ s, s ≠ 15 → s ≠ 16 → iv' 19 s = iv 19 s) → ((iv' 19 15, iv' 19 16) = if v = 3 then lowQ T q else (iv 19 15, iv 19 16)) → ∃ l' iv' ai', stepL T l = some l' ∧ L_X11_cover_27 (m + 1) (hp x iv ai aj ar pp f0) (x + 19) (nI N) (nI d) = L_X11_cover_27 m (hp x iv' ai' aj ar pp f0) (x + 19) (nI N) (nI (d + 1)) ∧ Km iv iv' ai ai' ∧ rep (ai' 26) (ai' 27) l' ∧ iv' 19 12 = nI l'.length ∧ (iv' 19 15, iv' 19 16) = if anyS l' 3 = true then lowL T l else (iv 19 15, iv 19 16) := by
    intro v iv' hv es1 ef k1 k2 k3
    have hr' := rep_set hr hi v
    have el : qd (ai 26) (va_up (ai 27) i v) i = (q.1, q.2.1, q.2.2.1, q.2.2.2.1, v) := by
      rw [← hq]
      unfold qd
      rw [up_at]
    rw [el] at hr'
    rw [es1] at eo
    have r1 : u2 ai 27 i v 26 = ai 26 := u2_ne _ _ _ (by decide)
    have r2 : u2 ai 27 i v 27 = va_up (ai 27) i v := u2_cc _ _ _ _
    have a3 : anyS (l.set i (q.1, q.2.1, q.2.2.1, q.2.2.2.1, v)) 3 = decide (v = 3) := by
      by_cases hv : v = 3
      · rw [decide_eq_true hv]
        rw [rep_any hr' 3]
        exact ⟨i, by rw [List.length_set]; exact hi, by rw [up_at]; exact hv⟩
      · rw [decide_eq_false hv]
        refine (anyS_f hr').mp (fun j hj2 => ?_)
        rw [List.length_set] at hj2
        by_cases ej : j = i
        · rw [ej, up_at]; exact hv
        · rw [up_ne _ _ ej]; exact st3 j hj2
    refine ⟨_, iv', u2 ai 27 i v, eo, ?_, ⟨k1, fun s _ b c => k2 s b c, fun k _ b => u2_ne _ _ _ b⟩, ?_, ?_, ?_⟩
    · rw [e0, ef, Option.bind_some, if_neg hv]
      unfold F_X11_cover_88 F_X11_cover_109
      rw [if_neg hv, rn_19_14, Option.bind_some, w27 (by omega), Option.bind_some, add_1]
    · rw [r1, r2]; exact hr'
    · rw [k2 12 (by decide) (by decide), h6, List.length_set]
    · rw [k3, a3, hlo]
      by_cases hv : v = 3
      · rw [if_pos hv, if_pos (decide_eq_true hv)]
      · rw [if_neg hv, if_neg (fun h => hv (of_decide_eq_true h))]
  by_cases hU : upAll T q = true
  · exact Or.inr (setc 1 iv (by decide) (by unfold stepP; rw [if_pos hU]) (j1 hU) (fun _ _ => rfl) (fun _ _ _ => rfl) rfl)
  by_cases hb : crn T 0 q < 0 ∨ crn T 2 q < 0 ∨ crn T 6 q < 0 ∨ crn T 8 q < 0
  · refine Or.inr (setc 3 _ (by decide) (by unfold stepP; rw [if_neg hU, if_pos hb]) (j2 hU hb) (fun k hk => ?_) (fun s a b => ?_) ?_)
    · rw [u2_ne _ _ _ hk, u2_ne _ _ _ hk]
    · rw [u2_nt _ _ b, u2_nt _ _ a]
    · rw [u2_nt _ _ (by decide), u2_tt, u2_tt, if_pos rfl]
  by_cases ho2 : od q.1 q.2.1 = true ∧ od q.2.2.1 q.2.2.2.1 = true
  · refine Or.inr (setc 2 iv (by decide) (by unfold stepP; rw [if_neg hU, if_neg hb, if_pos ho2]) ?_ (fun _ _ => rfl) (fun _ _ _ => rfl) rfl)
    rw [j3 hU hb, if_pos ho2]
  rw [j3 hU hb, if_neg ho2, Option.bind_some, if_pos rfl, ri_19_12, h6, Option.bind_some] at e0
  have hw : ∃ w, w < 2 ∧ (w = 0 ↔ od q.1 q.2.1 = false ∧ (od q.2.2.1 q.2.2.2.1 = true ∨ q.2.2.2.1 - q.2.2.1 ≤ q.2.1 - q.1)) := by
    by_cases hw : od q.1 q.2.1 = false ∧ (od q.2.2.1 q.2.2.2.1 = true ∨ q.2.2.2.1 - q.2.2.1 ≤ q.2.1 - q.1)
    · exact ⟨0, by decide, fun _ => hw, fun _ => rfl⟩
    · exact ⟨1, by decide, fun q => absurd q (by decide), fun q => absurd q hw⟩
  obtain ⟨w, w1, w2⟩ := hw
  have hsP := stepP_cut hU hb ho2 w2
  rw [hsP] at eo
  by_cases h40' : 40 ≤ l.length
  · left
    refine ⟨eo.trans (if_pos h40'), ?_⟩
    have hf : fullL l = true := by
      unfold fullL
      rw [h3, show anyS l 0 = true from by rw [rep_any hr 0]; exact ⟨i, hi, h0⟩]
      rfl
    rw [e0, if_pos (show nI l.length = 40 by rw [ceq_40 (by omega)]; omega)]
    by_cases hd0 : d = 0
    · rw [if_pos (show nI d = 0 by rw [hd0]; rfl), if_pos (show fullL l = true ∧ d = 0 from ⟨hf, hd0⟩)]
    · rw [if_neg (show ¬ nI d = 0 by rw [ceq_0 (by omega)]; exact hd0), if_neg (show ¬ (fullL l = true ∧ d = 0) from fun q => hd0 q.2)]
  · right
    have eo' := eo.trans (if_neg h40')
    obtain ⟨ai', f1, f2, f3, f4, f5, f6, f7, f8, f9, f10⟩ := m_halve (x := x) (iv := iv) (ai := ai) (aj := aj) (ar := ar) (pp := pp) (f0 := f0) hi (by omega) h6 rfl rfl (by rw [← q1, ← q2]; exact hrq.1) (by rw [← q3, ← q4]; exact hrq.2) (by rw [← q1, ← q2, ← q3, ← q4]; exact ho2) w1 (by rw [← q1, ← q2, ← q3, ← q4]; exact w2)
    obtain ⟨p1, p2⟩ := qd_cut (st := ai 27) w1 f4 f5 f7 f8
    rw [hq] at p1 p2
    have hr' := rep_cut hr hi f2 f6 p1 p2 f3 f9
    have hlen : (l.take i ++ (cutQ w q).1 :: (cutQ w q).2 :: l.drop (i + 1)).length = l.length + 1 := by
      simp only [List.length_append, List.length_take, List.length_cons, List.length_drop]
      omega
    have a3 : anyS (l.take i ++ (cutQ w q).1 :: (cutQ w q).2 :: l.drop (i + 1)) 3 = false := by
      refine (anyS_f hr').mp (fun j hj2 => ?_)
      rw [hlen] at hj2
      by_cases c1 : j < i
      · rw [f6 j c1]; exact st3 j (by omega)
      · by_cases c2 : j = i
        · rw [c2, f7]; decide
        · by_cases c3 : j = i + 1
          · rw [c3, f8]; decide
          · rw [f9 j (by omega) hj2]; exact st3 _ (by omega)
    refine ⟨_, u2 iv 19 12 (nI (l.length + 1)), ai', eo', ?_, ⟨fun k hk => u2_ne _ _ _ hk, fun s a _ _ => u2_nt _ _ a, f10⟩, hr', ?_, ?_⟩
    · rw [e0, if_neg (show ¬ nI l.length = 40 by rw [ceq_40 (by omega)]; omega)]
      unfold F_X11_cover_88 F_X11_cover_109
      rw [if_pos rfl, if_pos rk_19, f1, Option.bind_some, add_1]
    · rw [u2_tt, hlen]
    · rw [u2_nt _ _ (by decide), u2_nt _ _ (by decide), a3]
      rfl
theorem m_run {p : Nat} (hp1 : p < 30) {T : Nat → Int64} (hT : Tm (aj 23) p = T) : ∀ (n d m : Nat) (l : List Pt) (iv ai : Nat → Nat → Int32), n + d ≤ 500 → n < m → iv 19 10 = nI p → l.length ≤ 40 → rep (ai 26) (ai 27) l → iv 19 12 = nI l.length → rgL l →
    ∃ iv' ai', L_X11_cover_27 m (hp x iv ai aj ar pp f0) (x + 19) (nI (n + d)) (nI d) = some (if (runL T n l).1 + d = 0 ∧ 0 < n ∧ fullL l = true then -4 else nI (d + (runL T n l).1), hp x iv' ai' aj ar pp f0) ∧ Km iv iv' ai ai' ∧ rep (ai' 26) (ai' 27) (runL T n l).2 ∧ iv' 19 12 = nI (runL T n l).2.length ∧ (iv' 19 15, iv' 19 16) = lowR T n l (iv 19 15, iv 19 16) := by
  intro n
  induction n with
  | zero =>
    intro d m l iv ai hn hm h10 hl hr h6 hg2
    obtain ⟨m, rfl⟩ : ∃ y, m = y + 1 := ⟨m - 1, by omega⟩
    refine ⟨iv, ai, ?_, ⟨fun _ _ => rfl, fun _ _ _ _ => rfl, fun _ _ _ => rfl⟩, hr, h6, rfl⟩
    show F_X11_cover_27 _ _ _ _ _ = _
    unfold F_X11_cover_27
    rw [Nat.zero_add, if_pos (by rw [leq_nI (by omega) (by omega)]; omega), if_neg (fun q => absurd q.2.1 (by decide))]
    rfl
  | succ n ih =>
    intro d m l iv ai hn hm h10 hl hr h6 hg2
    obtain ⟨m, rfl⟩ : ∃ y, m = y + 1 := ⟨m - 1, by omega⟩
    rcases m_step1 (x := x) (iv := iv) (ai := ai) (aj := aj) (ar := ar) (pp := pp) (f0 := f0) (m := m) hp1 h10 hT hl hr h6 hg2 (show d < n + 1 + d by omega) hn with ⟨hs, e⟩ | ⟨l', iv1, ai1, hs, e, k1, r1, r2, r3⟩
    · rw [runL_none hs, lowR_none hs]
      refine ⟨iv, ai, ?_, ⟨fun _ _ => rfl, fun _ _ _ _ => rfl, fun _ _ _ => rfl⟩, hr, h6, rfl⟩
      rw [e]
      by_cases h : fullL l = true ∧ d = 0
      · rw [if_pos h, if_pos ⟨by omega, by omega, h.1⟩]
      · rw [if_neg h, if_neg (fun q => h ⟨q.2.2, by omega⟩)]
        rfl
    · obtain ⟨a1, a2, a3⟩ := stepL_keeps hs hl hg2
      obtain ⟨iv2, ai2, f1, f2, f3, f4, f5⟩ := ih (d + 1) m l' iv1 ai1 (by omega) (by omega) ((k1.2.1 10 (by decide) (by decide) (by decide)).trans h10) a1 r1 r2 a2
      rw [runL_some hs, lowR_some hs]
      refine ⟨iv2, ai2, ?_, k1.trans f2, f3, f4, ?_⟩
      · rw [e, show n + 1 + d = n + (d + 1) by omega, f1, if_neg (fun q => absurd q.1 (by omega)), if_neg (fun q => absurd q.1 (by omega))]
        rw [show d + 1 + (runL T n l').1 = d + ((runL T n l').1 + 1) by omega]
      · rw [f5, r3]
end MRUN

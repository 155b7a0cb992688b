/-! a step of the class's PARTS is a step of the list -/
def lowR (T : Nat → Int64) : Nat → List Pt → Int32 × Int32 → Int32 × Int32
  | 0, _, d => d
  | n + 1, l, d => match stepL T l with
    | none => d
    | some l' => lowR T n l' (if anyS l' 3 = true then lowL T l else d)
theorem lowR_none {T : Nat → Int64} {n : Nat} {l : List Pt} {d : Int32 × Int32} (h : stepL T l = none) : lowR T n l d = d := by
  cases n with
  | zero => rfl
  | succ n => unfold lowR; rw [h]
theorem lowR_some {T : Nat → Int64} {n : Nat} {l l' : List Pt} {d : Int32 × Int32} (h : stepL T l = some l') : lowR T (n + 1) l d = lowR T n l' (if anyS l' 3 = true then lowL T l else d) := by
  conv => lhs; unfold lowR
  rw [h]
theorem lowR_ind {T : Nat → Int64} : ∀ (n : Nat) (l : List Pt) (d d' : Int32 × Int32), anyS l 3 = false → anyS (runL T n l).2 3 = true → lowR T n l d = lowR T n l d' := by
  intro n
  induction n with
  | zero => intro l d d' h1 h2; rw [show (runL T 0 l).2 = l from rfl, h1] at h2; cases h2
  | succ n ih =>
    intro l d d' h1 h2
    cases hs : stepL T l with
    | none => rw [runL_none hs, h1] at h2; cases h2
    | some l' =>
      rw [runL_some hs] at h2
      rw [lowR_some hs, lowR_some hs]
      cases h3 : anyS l' 3 with
      | true => rfl
      | false => exact ih l' _ _ h3 h2
section SSTEP
variable {x z c : Nat} {iv ai : Nat → Nat → Int32} {aj : Nat → Nat → Int64} {ar : Nat → Nat → Option Nat} {pp : Nat → Option Nat} {f0 : xHp}
theorem s_step (hc : PC x c) (h1 : rowI x (c + 1) 160) (h2 : rowI x (c + 2) 40) {a : Nat} {g T : Nat → Int64} (hg : pcell x f0 a g) (ha : pp c = some a) (hT : ∀ t, t < 9 → g t = T t) {l : List Pt} (hl : l.length ≤ 40) (hr : rep (ai (c + 1)) (ai (c + 2)) l) (h6 : iv c 6 = nI l.length) (h7 : iv c 7 = if anyS l 3 = true then 1 else 0) (hg2 : rgL l) :
    (stepL T l = none ∧ ∃ aj', F_X2_step (hp x iv ai aj ar pp f0) (x + c) = some (0, hp x (if fullL l = true then u2 iv c 10 1 else iv) ai aj' ar pp f0) ∧ ∀ k, k ≠ c + 3 → aj' k = aj k) ∨
    ∃ l' iv' ai' aj', stepL T l = some l' ∧ F_X2_step (hp x iv ai aj ar pp f0) (x + c) = some (1, hp x iv' ai' aj' ar pp f0) ∧ Kp c iv iv' ai ai' aj aj' ∧ rep (ai' (c + 1)) (ai' (c + 2)) l' ∧ iv' c 6 = nI l'.length ∧ (iv' c 7 = if anyS l' 3 = true then 1 else 0) ∧ (anyS l' 3 = true → (iv' c 8, iv' c 9) = lowL T l) ∧ iv' c 10 = iv c 10 := by
  have em1 : F_X2_step_15 (hp x iv ai aj ar pp f0) (x + c) (-1) = some (0, hp x iv ai aj ar pp f0) := by
    unfold F_X2_step_15
    rw [hc.r3, Option.bind_some, ha, xnul_s, if_neg (show ¬ (0 : Int32) ≤ -1 by decide)]
  cases h3 : anyS l 3 with
  | true =>
    left
    refine ⟨stepL_below h3, aj, ?_, fun _ _ => rfl⟩
    have hf : fullL l = false := by unfold fullL; rw [h3]; rfl
    rw [hf, if_neg (by decide)]
    unfold F_X2_step
    rw [hc.i7, h7, h3, if_pos rfl, Option.bind_some, if_neg (by decide), em1]
  | false =>
    have h7' : iv c 7 = 0 := by rw [h7, h3]; rfl
    have es : F_X2_step (hp x iv ai aj ar pp f0) (x + c) = (F_X2_firstOpen (hp x iv ai aj ar pp f0) (x + c)).bind (fun q4 => F_X2_step_15 (hp x iv ai aj ar pp f0) (x + c) q4) := by
      unfold F_X2_step
      rw [hc.i7, h7', Option.bind_some, if_pos rfl, if_pos hc.kd]
    have st3 := (anyS_f hr (v := 3)).mpr h3
    rcases s_fo_loop (iv := iv) (ai := ai) (aj := aj) (ar := ar) (pp := pp) (f0 := f0) hc h2 hl h6 l.length 0 xfuel (by omega) (Nat.lt_of_le_of_lt hl (by decide)) with ⟨i, _, hi, h0, hj, e⟩ | ⟨hno, e⟩
    · have hj' : ∀ j, j < i → ai (c + 2) j ≠ 0 := fun j h => hj j (Nat.zero_le _) h
      have eo := stepL_open (T := T) hr h3 hi h0 hj'
      have hlo := lowL_at (T := T) hr hi h0 hj'
      have hrq : rgQ (qd (ai (c + 1)) (ai (c + 2)) i) := by
        have := hg2 _ (List.getElem_mem hi)
        rw [rep_get hr hi] at this
        exact this
      have co : F_X4_cornersOn (hp x iv ai aj ar pp f0) a (x + (c + 1)) (nI (4 * i)) (x + (c + 3)) = some (hp x iv ai (va_up aj (c + 3) (layC (aj (c + 3)) g (quad (ai (c + 1)) (4 * i)) 0)) ar pp f0) := s_cornersOn (N := 160) hg (fun aj k hk => (h1 iv ai aj ar pp f0).1 k hk) (fun aj k v hk => hc.sv hk v) (by omega) (by decide)
      generalize hq : qd (ai (c + 1)) (ai (c + 2)) i = q at eo hlo hrq
      have hqc : ∀ k, crn T k (quad (ai (c + 1)) (4 * i)) = crn T k q := fun k => by rw [← hq]; rfl
      generalize haj : va_up aj (c + 3) (layC (aj (c + 3)) g (quad (ai (c + 1)) (4 * i)) 0) = aj1 at co
      have hajk : ∀ k, k ≠ c + 3 → aj1 k = aj k := fun k hk => by rw [← haj, up_ne _ _ hk]
      have ho : ∀ o, o < 9 → aj1 (c + 3) o = crn T o q := fun o h => by rw [← haj, up_at, layC_at h, crn_eq hT, hqc]
      have hG : ∀ k, k < 9 → hJld (hp x iv ai aj1 ar pp f0) (x + (c + 3)) (nI k) = some (crn T k q) := fun k hk => by rw [hc.ld hk, ho k hk]
      have e15 : F_X2_step (hp x iv ai aj ar pp f0) (x + c) = if mnR (fun k => crn T k q) 8 1 (crn T 0 q) < 0 then L_X2_step_70 xfuel (hp x iv ai aj1 ar pp f0) (x + c) (nI i) 0 else some (1, hp x iv (u2 ai (c + 2) i 1) aj1 ar pp f0) := by
        rw [es]
        unfold F_X2_firstOpen
        rw [show (0 : Int32) = nI 0 from rfl, e, Option.bind_some]
        unfold F_X2_step_15
        rw [hc.r3, Option.bind_some, ha, xnul_s, if_pos (by rw [cle_0 (by omega)]; omega), Option.bind_some, hc.n0, Option.bind_some, hc.n2, Option.bind_some, Option.bind_some, if_pos hg.kd, mul_4, co, Option.bind_some, hc.n2, Option.bind_some, s_leastOf hc.ln hG, Option.bind_some, hc.n1, Option.bind_some, (h2 iv ai aj1 ar pp f0).2.1 _ _ (by omega), Option.bind_some]
        rfl
      have hq5 : (q.1, q.2.1, q.2.2.1, q.2.2.2.1) = (ai (c + 1) (4 * i), ai (c + 1) (4 * i + 1), ai (c + 1) (4 * i + 2), ai (c + 1) (4 * i + 3)) := by rw [← hq]; rfl
      have setc : ∀ (v : Int32) (iv' : Nat → Nat → Int32), stepP T q = .inl (q.1, q.2.1, q.2.2.1, q.2.2.2.1, v) → F_X2_step (hp x iv ai aj ar pp f0) (x + c) = some (1, hp x iv' (u2 ai (c + 2) i v) aj1 ar pp f0) → (∀ k, k ≠ c → iv' k = iv k) → (∀ s, s < 7 → iv' c s = iv c s) → (v ≠ 3 → iv' c 7 = 0) → (v = 3 → iv' c 7 = 1 ∧ (iv' c 8, iv' c 9) = lowQ T q) → iv' c 10 = iv c 10 → ∃ l' iv' ai' aj', stepL T l = some l' ∧ F_X2_step (hp x iv ai aj ar pp f0) (x + c) = some (1, hp x iv' ai' aj' ar pp f0) ∧ Kp c iv iv' ai ai' aj aj' ∧ rep (ai' (c + 1)) (ai' (c + 2)) l' ∧ iv' c 6 = nI l'.length ∧ (iv' c 7 = if anyS l' 3 = true then 1 else 0) ∧ (anyS l' 3 = true → (iv' c 8, iv' c 9) = lowL T l) ∧ iv' c 10 = iv c 10 := by
        intro v iv' es1 ef k1 k2 k3 k4 k5
        have hr' := rep_set hr hi v
        have el : qd (ai (c + 1)) (va_up (ai (c + 2)) i v) i = (q.1, q.2.1, q.2.2.1, q.2.2.2.1, v) := by
          rw [← hq]
          unfold qd
          rw [up_at]
        rw [el] at hr'
        rw [es1] at eo
        have r1 : u2 ai (c + 2) i v (c + 1) = ai (c + 1) := u2_ne _ _ _ (by omega)
        have r2 : u2 ai (c + 2) i v (c + 2) = va_up (ai (c + 2)) i v := u2_cc _ _ _ _
        have a3 : anyS (l.set i (q.1, q.2.1, q.2.2.1, q.2.2.2.1, v)) 3 = decide (v = 3) := by
          by_cases hv : v = 3
          · rw [decide_eq_true hv]
            rw [rep_any hr' 3]
            exact ⟨i, by rw [List.length_set]; exact hi, by rw [up_at]; exact hv⟩
          · rw [decide_eq_false hv]
            refine (anyS_f hr').mp (fun j hj2 => ?_)
            rw [List.length_set] at hj2
            by_cases ej : j = i
            · rw [ej, up_at]; exact hv
            · rw [up_ne _ _ ej]; exact st3 j hj2
        refine ⟨_, iv', _, aj1, eo, ef, ⟨k1, fun s hs => k2 s (by omega), fun k _ b => u2_ne _ _ _ b, hajk⟩, ?_, ?_, ?_, ?_, k5⟩
        · rw [r1, r2]; exact hr'
        · rw [k2 6 (by decide), h6, List.length_set]
        · rw [a3]
          by_cases hv : v = 3
          · rw [(k4 hv).1, decide_eq_true hv]; rfl
          · rw [k3 hv, decide_eq_false hv]; rfl
        · intro hh
          rw [a3] at hh
          rw [(k4 (of_decide_eq_true hh)).2, hlo]
      by_cases hU : upAll T q = true
      · right
        have hn : ¬ mnR (fun k => crn T k q) 8 1 (crn T 0 q) < 0 := Int64.not_lt.mpr ((least_nn (fun k => crn T k q)).mpr (upAll_iff.mp hU))
        exact setc 1 iv (by unfold stepP; rw [if_pos hU]) (e15.trans (if_neg hn)) (fun _ _ => rfl) (fun _ _ => rfl) (fun _ => h7') (fun q => absurd q (by decide)) rfl
      · have hn : mnR (fun k => crn T k q) 8 1 (crn T 0 q) < 0 := by
          refine Int64.not_le.mp (fun hh => hU (upAll_iff.mpr ((least_nn (fun k => crn T k q)).mp hh)))
        have e70 : F_X2_step (hp x iv ai aj ar pp f0) (x + c) = if 0 ≤ crn T 0 q then (if 0 ≤ crn T 2 q then (if 0 ≤ crn T 6 q then (if 0 ≤ crn T 8 q then (F_X2_cutPart (hp x iv ai aj1 ar pp f0) (x + c) (nI i)).bind (fun q3 => (hZ q3.1).bind (fun v4 => some (v4, q3.2))) else (F_X2_markBelow (hp x iv ai aj1 ar pp f0) (x + c) (nI i) (nI 3)).bind (fun q => some (1, q))) else (F_X2_markBelow (hp x iv ai aj1 ar pp f0) (x + c) (nI i) (nI 2)).bind (fun q => some (1, q))) else (F_X2_markBelow (hp x iv ai aj1 ar pp f0) (x + c) (nI i) (nI 1)).bind (fun q => some (1, q))) else (F_X2_markBelow (hp x iv ai aj1 ar pp f0) (x + c) (nI i) (nI 0)).bind (fun q => some (1, q)) := by
          rw [e15, if_pos hn]
          show L_X2_step_70 (4091 + 1 + 1 + 1 + 1 + 1) (hp x iv ai aj1 ar pp f0) (x + c) (nI i) (nI 0) = _
          rw [s_70_step hc (by decide) (o := 0) (by decide) rfl, s_70_step hc (by decide) (o := 2) (by decide) rfl, s_70_step hc (by decide) (o := 6) (by decide) rfl, s_70_step hc (by decide) (o := 8) (by decide) rfl, s_70_end hc, ho 0 (by decide), ho 2 (by decide), ho 6 (by decide), ho 8 (by decide)]
        have bel : ∀ k, k < 4 → F_X2_step (hp x iv ai aj ar pp f0) (x + c) = (F_X2_markBelow (hp x iv ai aj1 ar pp f0) (x + c) (nI i) (nI k)).bind (fun q => some (1, q)) → (crn T 0 q < 0 ∨ crn T 2 q < 0 ∨ crn T 6 q < 0 ∨ crn T 8 q < 0) → (ai (c + 1) (4 * i + k / 2), ai (c + 1) (4 * i + 2 + k % 2)) = lowQ T q → ∃ l' iv' ai' aj', stepL T l = some l' ∧ F_X2_step (hp x iv ai aj ar pp f0) (x + c) = some (1, hp x iv' ai' aj' ar pp f0) ∧ Kp c iv iv' ai ai' aj aj' ∧ rep (ai' (c + 1)) (ai' (c + 2)) l' ∧ iv' c 6 = nI l'.length ∧ (iv' c 7 = if anyS l' 3 = true then 1 else 0) ∧ (anyS l' 3 = true → (iv' c 8, iv' c 9) = lowL T l) ∧ iv' c 10 = iv c 10 := by
          intro k hk ef hb hlq
          rw [s_mark hc h1 h2 (by omega) hk, Option.bind_some] at ef
          refine setc 3 _ (by unfold stepP; rw [if_neg hU, if_pos hb]) ef (fun k hk => ?_) (fun s hs => ?_) (fun q => absurd rfl q) (fun _ => ⟨?_, ?_⟩) ?_
          · rw [u2_ne _ _ _ hk, u2_ne _ _ _ hk, u2_ne _ _ _ hk]
          · rw [u2_nt _ _ (by omega), u2_nt _ _ (by omega), u2_nt _ _ (by omega)]
          · rw [u2_nt _ _ (by decide), u2_nt _ _ (by decide), u2_tt]
          · rw [u2_nt _ _ (by decide), u2_tt, u2_tt]
            exact hlq
          · rw [u2_nt _ _ (by decide), u2_nt _ _ (by decide), u2_nt _ _ (by decide)]
        have q1 : q.1 = ai (c + 1) (4 * i) := by rw [← hq]; rfl
        have q2 : q.2.1 = ai (c + 1) (4 * i + 1) := by rw [← hq]; rfl
        have q3 : q.2.2.1 = ai (c + 1) (4 * i + 2) := by rw [← hq]; rfl
        have q4 : q.2.2.2.1 = ai (c + 1) (4 * i + 3) := by rw [← hq]; rfl
        by_cases b0 : 0 ≤ crn T 0 q
        case neg =>
          have b0' := Int64.not_le.mp b0
          exact Or.inr (bel 0 (by decide) (e70.trans (if_neg b0)) (Or.inl b0') (by unfold lowQ; rw [if_pos b0', q1, q3]; rfl))
        by_cases b2 : 0 ≤ crn T 2 q
        case neg =>
          have b2' := Int64.not_le.mp b2
          exact Or.inr (bel 1 (by decide) (e70.trans ((if_pos b0).trans (if_neg b2))) (Or.inr (Or.inl b2')) (by unfold lowQ; rw [if_neg (Int64.not_lt.mpr b0), if_pos b2', q1, q4]; rfl))
        by_cases b6 : 0 ≤ crn T 6 q
        case neg =>
          have b6' := Int64.not_le.mp b6
          exact Or.inr (bel 2 (by decide) (e70.trans ((if_pos b0).trans ((if_pos b2).trans (if_neg b6)))) (Or.inr (Or.inr (Or.inl b6'))) (by unfold lowQ; rw [if_neg (Int64.not_lt.mpr b0), if_neg (Int64.not_lt.mpr b2), if_pos b6', q2, q3]))
        by_cases b8 : 0 ≤ crn T 8 q
        case neg =>
          have b8' := Int64.not_le.mp b8
          exact Or.inr (bel 3 (by decide) (e70.trans ((if_pos b0).trans ((if_pos b2).trans ((if_pos b6).trans (if_neg b8))))) (Or.inr (Or.inr (Or.inr b8'))) (by unfold lowQ; rw [if_neg (Int64.not_lt.mpr b0), if_neg (Int64.not_lt.mpr b2), if_neg (Int64.not_lt.mpr b6), q2, q4]))
        have nb : ¬ (crn T 0 q < 0 ∨ crn T 2 q < 0 ∨ crn T 6 q < 0 ∨ crn T 8 q < 0) := by
          rintro (h | h | h | h)
          · exact absurd h (Int64.not_lt.mpr b0)
          · exact absurd h (Int64.not_lt.mpr b2)
          · exact absurd h (Int64.not_lt.mpr b6)
          · exact absurd h (Int64.not_lt.mpr b8)
        have ec := e70.trans ((if_pos b0).trans ((if_pos b2).trans ((if_pos b6).trans (if_pos b8))))
        have hx : rg (ai (c + 1) (4 * i)) (ai (c + 1) (4 * i + 1)) := by rw [← q1, ← q2]; exact hrq.1
        have hy : rg (ai (c + 1) (4 * i + 2)) (ai (c + 1) (4 * i + 3)) := by rw [← q3, ← q4]; exact hrq.2
        obtain ⟨c1, c2, c3⟩ := s_cutPart (iv := iv) (ai := ai) (aj := aj1) (ar := ar) (pp := pp) (f0 := f0) hc h1 h2 hi hl h6 hx hy
        rw [← q1, ← q2, ← q3, ← q4] at c1 c2 c3
        by_cases ho2 : od q.1 q.2.1 = true ∧ od q.2.2.1 q.2.2.2.1 = true
        · right
          refine setc 2 iv (by unfold stepP; rw [if_neg hU, if_neg nb, if_pos ho2]) ?_ (fun _ _ => rfl) (fun _ _ => rfl) (fun _ => h7') (fun q => absurd q (by decide)) rfl
          rw [ec, c1 ho2]
          rfl
        · by_cases h40 : 40 ≤ l.length
          · left
            have hP : ∃ w, stepP T q = .inr (cutQ w q) := by
              by_cases hw : od q.1 q.2.1 = false ∧ (od q.2.2.1 q.2.2.2.1 = true ∨ q.2.2.2.1 - q.2.2.1 ≤ q.2.1 - q.1)
              · exact ⟨0, stepP_cut hU nb ho2 ⟨fun _ => hw, fun _ => rfl⟩⟩
              · exact ⟨1, stepP_cut hU nb ho2 ⟨fun q => absurd q (by decide), fun q => absurd q hw⟩⟩
            obtain ⟨w, hw⟩ := hP
            rw [hw] at eo
            refine ⟨eo.trans (if_pos h40), aj1, ?_, hajk⟩
            have hf : fullL l = true := by
              unfold fullL
              rw [h3, show anyS l 0 = true from by rw [rep_any hr 0]; exact ⟨i, hi, h0⟩]
              rfl
            rw [ec, c2 ho2 h40, hf, if_pos rfl]
            rfl
          · right
            obtain ⟨w, ai', w1, w2, w3, w4, w5, w6⟩ := c3 ho2 (by omega)
            have hw := stepP_cut hU nb ho2 w2
            rw [hw] at eo
            have eo' := eo.trans (if_neg h40)
            obtain ⟨k1, k2, k3, k4⟩ := hlv_cut (S := ai (c + 1)) hi w1
            rw [← w4] at k1 k2 k3 k4
            have t1 : ∀ j, j < i → ai' (c + 2) j = ai (c + 2) j := fun j hj => by rw [w5, up_ne _ _ (by omega), cpy_out (by omega)]
            have t2 : ai' (c + 2) i = 0 := by rw [w5, up_ne _ _ (by omega), cpy_out (by omega)]; exact h0
            have t3 : ai' (c + 2) (i + 1) = 0 := by rw [w5, up_at]
            have t4 : ∀ j, i + 2 ≤ j → j < l.length + 1 → ai' (c + 2) j = ai (c + 2) (j - 1) := fun j a b => by
              rw [w5, up_ne _ _ (by omega), cpy_in (by omega) (by omega), show i + 1 + (j - (i + 2)) = j - 1 by omega]
            obtain ⟨p1, p2⟩ := qd_cut (st := ai (c + 2)) w1 k3 k4 t2 t3
            rw [hq] at p1 p2
            have hr' := rep_cut hr hi k1 t1 p1 p2 k2 t4
            have hlen : (l.take i ++ (cutQ w q).1 :: (cutQ w q).2 :: l.drop (i + 1)).length = l.length + 1 := by
              simp only [List.length_append, List.length_take, List.length_cons, List.length_drop]
              omega
            have a3 : anyS (l.take i ++ (cutQ w q).1 :: (cutQ w q).2 :: l.drop (i + 1)) 3 = false := by
              refine (anyS_f hr').mp (fun j hj2 => ?_)
              rw [hlen] at hj2
              by_cases c1 : j < i
              · rw [t1 j c1]; exact st3 j (by omega)
              · by_cases c2 : j = i
                · rw [c2, t2]; decide
                · by_cases c3 : j = i + 1
                  · rw [c3, t3]; decide
                  · rw [t4 j (by omega) hj2]; exact st3 _ (by omega)
            refine ⟨_, u2 iv c 6 (nI (l.length + 1)), ai', aj1, eo', ?_, ⟨fun k hk => u2_ne _ _ _ hk, fun s hs => u2_nt _ _ (by omega), w6, hajk⟩, hr', ?_, ?_, ?_, u2_nt _ _ (by decide)⟩
            · rw [ec, w3]
              rfl
            · rw [u2_tt, hlen]
            · rw [u2_nt _ _ (by decide), h7', a3]
              rfl
            · intro hh
              rw [a3] at hh
              cases hh
    · left
      have h00 : anyS l 0 = false := (anyS_f hr).mp (fun j hj => hno j (Nat.zero_le _) hj)
      refine ⟨stepL_shut h3 h00, aj, ?_, fun _ _ => rfl⟩
      have hf : fullL l = false := by unfold fullL; rw [h3, h00]; rfl
      rw [hf, if_neg (by decide), es]
      unfold F_X2_firstOpen
      rw [show (0 : Int32) = nI 0 from rfl, e, Option.bind_some, em1]
      rfl
/-- the class's steps are a run of the list -/
theorem s_run (hc : PC x c) (h1 : rowI x (c + 1) 160) (h2 : rowI x (c + 2) 40) {a : Nat} {g T : Nat → Int64} (hg : pcell x f0 a g) (ha : pp c = some a) (hT : ∀ t, t < 9 → g t = T t) : ∀ (n d m : Nat) (l : List Pt) (iv ai : Nat → Nat → Int32) (aj : Nat → Nat → Int64), n + d ≤ 500 → n < m → l.length ≤ 40 → rep (ai (c + 1)) (ai (c + 2)) l → iv c 6 = nI l.length → (iv c 7 = if anyS l 3 = true then 1 else 0) → rgL l → iv c 10 = 0 →
    ∃ iv' ai' aj', L_X2_steps_7 m (hp x iv ai aj ar pp f0) (x + c) (nI (n + d)) (nI d) = some (nI (d + (runL T n l).1), hp x iv' ai' aj' ar pp f0) ∧ Kp c iv iv' ai ai' aj aj' ∧ rep (ai' (c + 1)) (ai' (c + 2)) (runL T n l).2 ∧ iv' c 6 = nI (runL T n l).2.length ∧ (iv' c 7 = if anyS (runL T n l).2 3 = true then 1 else 0) ∧ (anyS (runL T n l).2 3 = true → (iv' c 8, iv' c 9) = lowR T n l (iv c 8, iv c 9)) ∧ ((runL T n l).1 = 0 → 0 < n → iv' c 10 = if fullL l = true then 1 else 0) ∧ (n = 0 → iv' c 10 = 0) := by
  intro n
  induction n with
  | zero =>
    intro d m l iv ai aj hn hm hl hr h6 h7 hg2 h10
    obtain ⟨m, rfl⟩ : ∃ y, m = y + 1 := ⟨m - 1, by omega⟩
    refine ⟨iv, ai, aj, ?_, Kp.refl _ _ _ _, hr, h6, h7, fun _ => rfl, fun _ q => absurd q (by decide), fun _ => h10⟩
    show F_X2_steps_7 _ _ _ _ _ = _
    unfold F_X2_steps_7
    rw [Nat.zero_add, if_pos (by rw [leq_nI (by omega) (by omega)]; omega)]
    rfl
  | succ n ih =>
    intro d m l iv ai aj hn hm hl hr h6 h7 hg2 h10
    obtain ⟨m, rfl⟩ : ∃ y, m = y + 1 := ⟨m - 1, by omega⟩
    have e : L_X2_steps_7 (m + 1) (hp x iv ai aj ar pp f0) (x + c) (nI (n + 1 + d)) (nI d) = (F_X2_step (hp x iv ai aj ar pp f0) (x + c)).bind (fun q3 => if q3.1 = 0 then some (nI d, q3.2) else L_X2_steps_7 m q3.2 (x + c) (nI (n + 1 + d)) (nI (d + 1))) := by
      show F_X2_steps_7 _ _ _ _ _ = _
      unfold F_X2_steps_7
      rw [if_neg (by rw [leq_nI (by omega) (by omega)]; omega), if_pos hc.kd, add_1]
    rcases s_step (iv := iv) (ai := ai) (aj := aj) (ar := ar) hc h1 h2 hg ha hT hl hr h6 h7 hg2 with ⟨hs, aj', ef, hk⟩ | ⟨l', iv1, ai1, aj1, hs, ef, kp, r1, r2, r3, r4, r5⟩
    · rw [runL_none hs]
      refine ⟨_, ai, aj', by rw [e, ef]; rfl, ⟨fun k hk => ?_, fun s hs => ?_, fun _ _ _ => rfl, hk⟩, hr, ?_, ?_, fun _ => ?_, fun _ _ => ?_, fun q => absurd q (by omega)⟩
      · split
        · exact u2_ne _ _ _ hk
        · rfl
      · split
        · exact u2_nt _ _ (by omega)
        · rfl
      · split
        · rw [u2_nt _ _ (by decide)]; exact h6
        · exact h6
      · split
        · rw [u2_nt _ _ (by decide)]; exact h7
        · exact h7
      · rw [lowR_none hs]
        split
        · rw [u2_nt _ _ (by decide), u2_nt _ _ (by decide)]
        · rfl
      · by_cases hf : fullL l = true
        · rw [if_pos hf, if_pos hf, u2_tt]
        · rw [if_neg hf, if_neg hf, h10]
    · obtain ⟨k1, k2, k3⟩ := stepL_keeps hs hl hg2
      obtain ⟨iv2, ai2, aj2, f1, f2, f3, f4, f5, f6, f7, f8⟩ := ih (d + 1) m l' iv1 ai1 aj1 (by omega) (by omega) k1 r1 r2 r3 k2 (r5.trans h10)
      rw [runL_some hs]
      refine ⟨iv2, ai2, aj2, ?_, kp.trans f2, f3, f4, f5, fun h => ?_, fun q => absurd q (by omega), fun q => absurd q (by omega)⟩
      · rw [e, ef, Option.bind_some, if_neg (show ¬ ((1 : Int32), hp x iv1 ai1 aj1 ar pp f0).1 = 0 from (by decide : ¬ (1 : Int32) = 0)), show n + 1 + d = n + (d + 1) by omega, f1]
        rw [show d + 1 + (runL T n l').1 = d + ((runL T n l').1 + 1) by omega]
      · rw [f6 h, lowR_some hs]
        by_cases ha' : anyS l' 3 = true
        · rw [if_pos ha', r4 ha']
        · rw [if_neg ha']
          exact lowR_ind n l' _ _ (by cases hh : anyS l' 3; rfl; exact absurd hh ha') h
end SSTEP

/-! what is read of proofs; as, tell, cost, forge -/
theorem obp {α β : Type} (o : Option (α × β)) : (Option.bind o fun q => some (q.1, q.2)) = o := by cases o <;> rfl
section PROOFS
variable {x z : Nat} {iv ai : Nat → Nat → Int32} {aj : Nat → Nat → Int64} {ar : Nat → Nat → Option Nat} {pp : Nat → Option Nat} {f0 : xHp}
theorem r30 {i : Nat} (hi : i < 40) : hIld (hp x iv ai aj ar pp f0) (x + 30) (nI i) = some (ai 30 i) := by rw [ra_30]; simp (disch := omega) only [mul_3, mul_4, mul_5, mul_9, mul_30, mul_160, add_1, add_2, add_3, add_4, add_5, add_6, addl_1, addl_2, addl_3, addl_4, cle_0, cel_0, clt_0, ctl_0, ceq_0, cle_1, cel_1, clt_1, ctl_1, ceq_1, cle_2, cel_2, clt_2, ctl_2, ceq_2, cle_3, cel_3, clt_3, ctl_3, ceq_3, cle_4, cel_4, clt_4, ctl_4, ceq_4, cle_5, cel_5, clt_5, ctl_5, ceq_5, cle_6, cel_6, clt_6, ctl_6, ceq_6, cle_7, cel_7, clt_7, ctl_7, ceq_7, cle_8, cel_8, clt_8, ctl_8, ceq_8, cle_9, cel_9, clt_9, ctl_9, ceq_9, cle_12, cel_12, clt_12, ctl_12, ceq_12, cle_20, cel_20, clt_20, ctl_20, ceq_20, cle_24, cel_24, clt_24, ctl_24, ceq_24, cle_25, cel_25, clt_25, ctl_25, ceq_25, cle_30, cel_30, clt_30, ctl_30, ceq_30, cle_36, cel_36, clt_36, ctl_36, ceq_36, cle_40, cel_40, clt_40, ctl_40, ceq_40, cle_41, cel_41, clt_41, ctl_41, ceq_41, cle_120, cel_120, clt_120, ctl_120, ceq_120, cle_160, cel_160, clt_160, ctl_160, ceq_160, cle_164, cel_164, clt_164, ctl_164, ceq_164, cle_500, cel_500, clt_500, ctl_500, ceq_500, cle_1000, cel_1000, clt_1000, ctl_1000, ceq_1000, ixr, ixq, ixf, neg_nI, leq_nI, lt_nI, eq_nI, cl_nI, nI_add, pk_mul]
theorem r31 {i : Nat} (hi : i < 40) : hIld (hp x iv ai aj ar pp f0) (x + 31) (nI i) = some (ai 31 i) := by rw [ra_31]; simp (disch := omega) only [mul_3, mul_4, mul_5, mul_9, mul_30, mul_160, add_1, add_2, add_3, add_4, add_5, add_6, addl_1, addl_2, addl_3, addl_4, cle_0, cel_0, clt_0, ctl_0, ceq_0, cle_1, cel_1, clt_1, ctl_1, ceq_1, cle_2, cel_2, clt_2, ctl_2, ceq_2, cle_3, cel_3, clt_3, ctl_3, ceq_3, cle_4, cel_4, clt_4, ctl_4, ceq_4, cle_5, cel_5, clt_5, ctl_5, ceq_5, cle_6, cel_6, clt_6, ctl_6, ceq_6, cle_7, cel_7, clt_7, ctl_7, ceq_7, cle_8, cel_8, clt_8, ctl_8, ceq_8, cle_9, cel_9, clt_9, ctl_9, ceq_9, cle_12, cel_12, clt_12, ctl_12, ceq_12, cle_20, cel_20, clt_20, ctl_20, ceq_20, cle_24, cel_24, clt_24, ctl_24, ceq_24, cle_25, cel_25, clt_25, ctl_25, ceq_25, cle_30, cel_30, clt_30, ctl_30, ceq_30, cle_36, cel_36, clt_36, ctl_36, ceq_36, cle_40, cel_40, clt_40, ctl_40, ceq_40, cle_41, cel_41, clt_41, ctl_41, ceq_41, cle_120, cel_120, clt_120, ctl_120, ceq_120, cle_160, cel_160, clt_160, ctl_160, ceq_160, cle_164, cel_164, clt_164, ctl_164, ceq_164, cle_500, cel_500, clt_500, ctl_500, ceq_500, cle_1000, cel_1000, clt_1000, ctl_1000, ceq_1000, ixr, ixq, ixf, neg_nI, leq_nI, lt_nI, eq_nI, cl_nI, nI_add, pk_mul]
theorem r32 {i : Nat} (hi : i < 40) : hIld (hp x iv ai aj ar pp f0) (x + 32) (nI i) = some (ai 32 i) := by rw [ra_32]; simp (disch := omega) only [mul_3, mul_4, mul_5, mul_9, mul_30, mul_160, add_1, add_2, add_3, add_4, add_5, add_6, addl_1, addl_2, addl_3, addl_4, cle_0, cel_0, clt_0, ctl_0, ceq_0, cle_1, cel_1, clt_1, ctl_1, ceq_1, cle_2, cel_2, clt_2, ctl_2, ceq_2, cle_3, cel_3, clt_3, ctl_3, ceq_3, cle_4, cel_4, clt_4, ctl_4, ceq_4, cle_5, cel_5, clt_5, ctl_5, ceq_5, cle_6, cel_6, clt_6, ctl_6, ceq_6, cle_7, cel_7, clt_7, ctl_7, ceq_7, cle_8, cel_8, clt_8, ctl_8, ceq_8, cle_9, cel_9, clt_9, ctl_9, ceq_9, cle_12, cel_12, clt_12, ctl_12, ceq_12, cle_20, cel_20, clt_20, ctl_20, ceq_20, cle_24, cel_24, clt_24, ctl_24, ceq_24, cle_25, cel_25, clt_25, ctl_25, ceq_25, cle_30, cel_30, clt_30, ctl_30, ceq_30, cle_36, cel_36, clt_36, ctl_36, ceq_36, cle_40, cel_40, clt_40, ctl_40, ceq_40, cle_41, cel_41, clt_41, ctl_41, ceq_41, cle_120, cel_120, clt_120, ctl_120, ceq_120, cle_160, cel_160, clt_160, ctl_160, ceq_160, cle_164, cel_164, clt_164, ctl_164, ceq_164, cle_500, cel_500, clt_500, ctl_500, ceq_500, cle_1000, cel_1000, clt_1000, ctl_1000, ceq_1000, ixr, ixq, ixf, neg_nI, leq_nI, lt_nI, eq_nI, cl_nI, nI_add, pk_mul]
theorem r33 {i : Nat} (hi : i < 40) : hIld (hp x iv ai aj ar pp f0) (x + 33) (nI i) = some (ai 33 i) := by rw [ra_33]; simp (disch := omega) only [mul_3, mul_4, mul_5, mul_9, mul_30, mul_160, add_1, add_2, add_3, add_4, add_5, add_6, addl_1, addl_2, addl_3, addl_4, cle_0, cel_0, clt_0, ctl_0, ceq_0, cle_1, cel_1, clt_1, ctl_1, ceq_1, cle_2, cel_2, clt_2, ctl_2, ceq_2, cle_3, cel_3, clt_3, ctl_3, ceq_3, cle_4, cel_4, clt_4, ctl_4, ceq_4, cle_5, cel_5, clt_5, ctl_5, ceq_5, cle_6, cel_6, clt_6, ctl_6, ceq_6, cle_7, cel_7, clt_7, ctl_7, ceq_7, cle_8, cel_8, clt_8, ctl_8, ceq_8, cle_9, cel_9, clt_9, ctl_9, ceq_9, cle_12, cel_12, clt_12, ctl_12, ceq_12, cle_20, cel_20, clt_20, ctl_20, ceq_20, cle_24, cel_24, clt_24, ctl_24, ceq_24, cle_25, cel_25, clt_25, ctl_25, ceq_25, cle_30, cel_30, clt_30, ctl_30, ceq_30, cle_36, cel_36, clt_36, ctl_36, ceq_36, cle_40, cel_40, clt_40, ctl_40, ceq_40, cle_41, cel_41, clt_41, ctl_41, ceq_41, cle_120, cel_120, clt_120, ctl_120, ceq_120, cle_160, cel_160, clt_160, ctl_160, ceq_160, cle_164, cel_164, clt_164, ctl_164, ceq_164, cle_500, cel_500, clt_500, ctl_500, ceq_500, cle_1000, cel_1000, clt_1000, ctl_1000, ceq_1000, ixr, ixq, ixf, neg_nI, leq_nI, lt_nI, eq_nI, cl_nI, nI_add, pk_mul]
theorem w30 {i : Nat} (hi : i < 40) (v : Int32) : hIst (hp x iv ai aj ar pp f0) (x + 30) (nI i) v = some (hp x iv (u2 ai 30 i v) aj ar pp f0) := by rw [wa_30]; simp (disch := omega) only [mul_3, mul_4, mul_5, mul_9, mul_30, mul_160, add_1, add_2, add_3, add_4, add_5, add_6, addl_1, addl_2, addl_3, addl_4, cle_0, cel_0, clt_0, ctl_0, ceq_0, cle_1, cel_1, clt_1, ctl_1, ceq_1, cle_2, cel_2, clt_2, ctl_2, ceq_2, cle_3, cel_3, clt_3, ctl_3, ceq_3, cle_4, cel_4, clt_4, ctl_4, ceq_4, cle_5, cel_5, clt_5, ctl_5, ceq_5, cle_6, cel_6, clt_6, ctl_6, ceq_6, cle_7, cel_7, clt_7, ctl_7, ceq_7, cle_8, cel_8, clt_8, ctl_8, ceq_8, cle_9, cel_9, clt_9, ctl_9, ceq_9, cle_12, cel_12, clt_12, ctl_12, ceq_12, cle_20, cel_20, clt_20, ctl_20, ceq_20, cle_24, cel_24, clt_24, ctl_24, ceq_24, cle_25, cel_25, clt_25, ctl_25, ceq_25, cle_30, cel_30, clt_30, ctl_30, ceq_30, cle_36, cel_36, clt_36, ctl_36, ceq_36, cle_40, cel_40, clt_40, ctl_40, ceq_40, cle_41, cel_41, clt_41, ctl_41, ceq_41, cle_120, cel_120, clt_120, ctl_120, ceq_120, cle_160, cel_160, clt_160, ctl_160, ceq_160, cle_164, cel_164, clt_164, ctl_164, ceq_164, cle_500, cel_500, clt_500, ctl_500, ceq_500, cle_1000, cel_1000, clt_1000, ctl_1000, ceq_1000, ixr, ixq, ixf, neg_nI, leq_nI, lt_nI, eq_nI, cl_nI, nI_add, pk_mul]
theorem w31 {i : Nat} (hi : i < 40) (v : Int32) : hIst (hp x iv ai aj ar pp f0) (x + 31) (nI i) v = some (hp x iv (u2 ai 31 i v) aj ar pp f0) := by rw [wa_31]; simp (disch := omega) only [mul_3, mul_4, mul_5, mul_9, mul_30, mul_160, add_1, add_2, add_3, add_4, add_5, add_6, addl_1, addl_2, addl_3, addl_4, cle_0, cel_0, clt_0, ctl_0, ceq_0, cle_1, cel_1, clt_1, ctl_1, ceq_1, cle_2, cel_2, clt_2, ctl_2, ceq_2, cle_3, cel_3, clt_3, ctl_3, ceq_3, cle_4, cel_4, clt_4, ctl_4, ceq_4, cle_5, cel_5, clt_5, ctl_5, ceq_5, cle_6, cel_6, clt_6, ctl_6, ceq_6, cle_7, cel_7, clt_7, ctl_7, ceq_7, cle_8, cel_8, clt_8, ctl_8, ceq_8, cle_9, cel_9, clt_9, ctl_9, ceq_9, cle_12, cel_12, clt_12, ctl_12, ceq_12, cle_20, cel_20, clt_20, ctl_20, ceq_20, cle_24, cel_24, clt_24, ctl_24, ceq_24, cle_25, cel_25, clt_25, ctl_25, ceq_25, cle_30, cel_30, clt_30, ctl_30, ceq_30, cle_36, cel_36, clt_36, ctl_36, ceq_36, cle_40, cel_40, clt_40, ctl_40, ceq_40, cle_41, cel_41, clt_41, ctl_41, ceq_41, cle_120, cel_120, clt_120, ctl_120, ceq_120, cle_160, cel_160, clt_160, ctl_160, ceq_160, cle_164, cel_164, clt_164, ctl_164, ceq_164, cle_500, cel_500, clt_500, ctl_500, ceq_500, cle_1000, cel_1000, clt_1000, ctl_1000, ceq_1000, ixr, ixq, ixf, neg_nI, leq_nI, lt_nI, eq_nI, cl_nI, nI_add, pk_mul]
theorem w32' {i : Nat} (hi : i < 40) (v : Int32) : hIst (hp x iv ai aj ar pp f0) (x + 32) (nI i) v = some (hp x iv (u2 ai 32 i v) aj ar pp f0) := by rw [wa_32]; simp (disch := omega) only [mul_3, mul_4, mul_5, mul_9, mul_30, mul_160, add_1, add_2, add_3, add_4, add_5, add_6, addl_1, addl_2, addl_3, addl_4, cle_0, cel_0, clt_0, ctl_0, ceq_0, cle_1, cel_1, clt_1, ctl_1, ceq_1, cle_2, cel_2, clt_2, ctl_2, ceq_2, cle_3, cel_3, clt_3, ctl_3, ceq_3, cle_4, cel_4, clt_4, ctl_4, ceq_4, cle_5, cel_5, clt_5, ctl_5, ceq_5, cle_6, cel_6, clt_6, ctl_6, ceq_6, cle_7, cel_7, clt_7, ctl_7, ceq_7, cle_8, cel_8, clt_8, ctl_8, ceq_8, cle_9, cel_9, clt_9, ctl_9, ceq_9, cle_12, cel_12, clt_12, ctl_12, ceq_12, cle_20, cel_20, clt_20, ctl_20, ceq_20, cle_24, cel_24, clt_24, ctl_24, ceq_24, cle_25, cel_25, clt_25, ctl_25, ceq_25, cle_30, cel_30, clt_30, ctl_30, ceq_30, cle_36, cel_36, clt_36, ctl_36, ceq_36, cle_40, cel_40, clt_40, ctl_40, ceq_40, cle_41, cel_41, clt_41, ctl_41, ceq_41, cle_120, cel_120, clt_120, ctl_120, ceq_120, cle_160, cel_160, clt_160, ctl_160, ceq_160, cle_164, cel_164, clt_164, ctl_164, ceq_164, cle_500, cel_500, clt_500, ctl_500, ceq_500, cle_1000, cel_1000, clt_1000, ctl_1000, ceq_1000, ixr, ixq, ixf, neg_nI, leq_nI, lt_nI, eq_nI, cl_nI, nI_add, pk_mul]
theorem w33 {i : Nat} (hi : i < 40) (v : Int32) : hIst (hp x iv ai aj ar pp f0) (x + 33) (nI i) v = some (hp x iv (u2 ai 33 i v) aj ar pp f0) := by rw [wa_33]; simp (disch := omega) only [mul_3, mul_4, mul_5, mul_9, mul_30, mul_160, add_1, add_2, add_3, add_4, add_5, add_6, addl_1, addl_2, addl_3, addl_4, cle_0, cel_0, clt_0, ctl_0, ceq_0, cle_1, cel_1, clt_1, ctl_1, ceq_1, cle_2, cel_2, clt_2, ctl_2, ceq_2, cle_3, cel_3, clt_3, ctl_3, ceq_3, cle_4, cel_4, clt_4, ctl_4, ceq_4, cle_5, cel_5, clt_5, ctl_5, ceq_5, cle_6, cel_6, clt_6, ctl_6, ceq_6, cle_7, cel_7, clt_7, ctl_7, ceq_7, cle_8, cel_8, clt_8, ctl_8, ceq_8, cle_9, cel_9, clt_9, ctl_9, ceq_9, cle_12, cel_12, clt_12, ctl_12, ceq_12, cle_20, cel_20, clt_20, ctl_20, ceq_20, cle_24, cel_24, clt_24, ctl_24, ceq_24, cle_25, cel_25, clt_25, ctl_25, ceq_25, cle_30, cel_30, clt_30, ctl_30, ceq_30, cle_36, cel_36, clt_36, ctl_36, ceq_36, cle_40, cel_40, clt_40, ctl_40, ceq_40, cle_41, cel_41, clt_41, ctl_41, ceq_41, cle_120, cel_120, clt_120, ctl_120, ceq_120, cle_160, cel_160, clt_160, ctl_160, ceq_160, cle_164, cel_164, clt_164, ctl_164, ceq_164, cle_500, cel_500, clt_500, ctl_500, ceq_500, cle_1000, cel_1000, clt_1000, ctl_1000, ceq_1000, ixr, ixq, ixf, neg_nI, leq_nI, lt_nI, eq_nI, cl_nI, nI_add, pk_mul]
theorem r34 {i : Nat} (hi : i < 6400) : hJld (hp x iv ai aj ar pp f0) (x + 34) (nI i) = some (aj 34 i) := by rw [ra_34]; simp (disch := omega) only [mul_3, mul_4, mul_5, mul_9, mul_30, mul_160, add_1, add_2, add_3, add_4, add_5, add_6, addl_1, addl_2, addl_3, addl_4, cle_0, cel_0, clt_0, ctl_0, ceq_0, cle_1, cel_1, clt_1, ctl_1, ceq_1, cle_2, cel_2, clt_2, ctl_2, ceq_2, cle_3, cel_3, clt_3, ctl_3, ceq_3, cle_4, cel_4, clt_4, ctl_4, ceq_4, cle_5, cel_5, clt_5, ctl_5, ceq_5, cle_6, cel_6, clt_6, ctl_6, ceq_6, cle_7, cel_7, clt_7, ctl_7, ceq_7, cle_8, cel_8, clt_8, ctl_8, ceq_8, cle_9, cel_9, clt_9, ctl_9, ceq_9, cle_12, cel_12, clt_12, ctl_12, ceq_12, cle_20, cel_20, clt_20, ctl_20, ceq_20, cle_24, cel_24, clt_24, ctl_24, ceq_24, cle_25, cel_25, clt_25, ctl_25, ceq_25, cle_30, cel_30, clt_30, ctl_30, ceq_30, cle_36, cel_36, clt_36, ctl_36, ceq_36, cle_40, cel_40, clt_40, ctl_40, ceq_40, cle_41, cel_41, clt_41, ctl_41, ceq_41, cle_120, cel_120, clt_120, ctl_120, ceq_120, cle_160, cel_160, clt_160, ctl_160, ceq_160, cle_164, cel_164, clt_164, ctl_164, ceq_164, cle_500, cel_500, clt_500, ctl_500, ceq_500, cle_1000, cel_1000, clt_1000, ctl_1000, ceq_1000, ixr, ixq, ixf, neg_nI, leq_nI, lt_nI, eq_nI, cl_nI, nI_add, pk_mul]
theorem w34 {i : Nat} (hi : i < 6400) (v : Int64) : hJst (hp x iv ai aj ar pp f0) (x + 34) (nI i) v = some (hp x iv ai (u2 aj 34 i v) ar pp f0) := by rw [wa_34]; simp (disch := omega) only [mul_3, mul_4, mul_5, mul_9, mul_30, mul_160, add_1, add_2, add_3, add_4, add_5, add_6, addl_1, addl_2, addl_3, addl_4, cle_0, cel_0, clt_0, ctl_0, ceq_0, cle_1, cel_1, clt_1, ctl_1, ceq_1, cle_2, cel_2, clt_2, ctl_2, ceq_2, cle_3, cel_3, clt_3, ctl_3, ceq_3, cle_4, cel_4, clt_4, ctl_4, ceq_4, cle_5, cel_5, clt_5, ctl_5, ceq_5, cle_6, cel_6, clt_6, ctl_6, ceq_6, cle_7, cel_7, clt_7, ctl_7, ceq_7, cle_8, cel_8, clt_8, ctl_8, ceq_8, cle_9, cel_9, clt_9, ctl_9, ceq_9, cle_12, cel_12, clt_12, ctl_12, ceq_12, cle_20, cel_20, clt_20, ctl_20, ceq_20, cle_24, cel_24, clt_24, ctl_24, ceq_24, cle_25, cel_25, clt_25, ctl_25, ceq_25, cle_30, cel_30, clt_30, ctl_30, ceq_30, cle_36, cel_36, clt_36, ctl_36, ceq_36, cle_40, cel_40, clt_40, ctl_40, ceq_40, cle_41, cel_41, clt_41, ctl_41, ceq_41, cle_120, cel_120, clt_120, ctl_120, ceq_120, cle_160, cel_160, clt_160, ctl_160, ceq_160, cle_164, cel_164, clt_164, ctl_164, ceq_164, cle_500, cel_500, clt_500, ctl_500, ceq_500, cle_1000, cel_1000, clt_1000, ctl_1000, ceq_1000, ixr, ixq, ixf, neg_nI, leq_nI, lt_nI, eq_nI, cl_nI, nI_add, pk_mul]
/-- what is read of a proof -/
def pView (x : Nat) (f0 : xHp) (kd po bo : Int32) (a b n : Nat) (g : Nat → Int64) : Prop :=
  x + 41 ≤ a ∧ x + 41 ≤ b ∧ f0 b = some (.inr (.inl (n, g))) ∧ n ≤ 160 ∧ hI f0 a [(0, 0), (3, 2), (6, 0), (7, 0)] = some kd ∧ hI f0 a [(0, 2), (3, 4), (6, 2), (7, 2)] = some po ∧ hN f0 a [(0, 3), (3, 5), (6, 3), (7, 3)] = some b ∧
  ((hKd f0 a = some 7 ∧ kd = 0 ∧ bo = -9 ∧ hN f0 a [(6, 3), (7, 3)] = some b) ∨ (hKd f0 a = some 6 ∧ kd = 3 ∧ bo = -9 ∧ hN f0 a [(6, 3)] = some b) ∨ (hKd f0 a = some 0 ∧ kd = 1 ∧ hI f0 a [(0, 4), (3, 0)] = some bo) ∨ (hKd f0 a = some 3 ∧ kd = 2 ∧ hI f0 a [(0, 4), (3, 0)] = some bo ∧ hN f0 a [(3, 5)] = some b))
theorem prOk.view {own : Nat → Nat × Nat} {q : Nat} {r : Option Nat} {kd po bo ln : Int32} {ns : Nat → Int64} {np nb : Int32} {pr : Nat → Option Nat} {ts : Nat → Int64} {bs : Nat → Int32} (h : prOk x z f0 own q r kd po bo ln ns np nb pr ts bs) : ∃ (a b n : Nat) (g : Nat → Int64), r = some a ∧ ob x z own a (5, q) ∧ ob x z own b (6, q) ∧ ln = nI n ∧ (∀ i, i < n → g i = ns (160 * q + i)) ∧ pView x f0 kd po bo a b n g := by
  obtain ⟨a, b, n, p, pa, g, h1, h2, h3, h4, h5, h6, h7, h8, h9, h10, h11, h12⟩ := h
  refine ⟨a, b, n, g, h1, h2, h3, h6, h11, h2.1, h3.1, h4, h5, ?_⟩
  rcases h12 with ⟨c1, c2, c3, c4⟩ | ⟨c1, c2, c3, c4⟩ | ⟨c, bn, sd, d1, d2, d3, d4, d5, d6, d7⟩
  · subst c1
    exact ⟨fI c3 rfl rfl, fI c3 rfl rfl, fN c3 rfl rfl, Or.inl ⟨fK c3, rfl, c2, fN c3 rfl rfl⟩⟩
  · subst c1
    exact ⟨fI c3 rfl rfl, fI c3 rfl rfl, fN c3 rfl rfl, Or.inr (Or.inl ⟨fK c3, rfl, c2, fN c3 rfl rfl⟩)⟩
  · rcases d7 with ⟨e1, e2, e3⟩ | ⟨e1, e2, e3⟩
    · subst e1
      exact ⟨fI e3 rfl rfl, fI e3 rfl rfl, fN e3 rfl rfl, Or.inr (Or.inr (Or.inl ⟨fK e3, rfl, fI e3 rfl rfl⟩))⟩
    · subst e1
      exact ⟨fI e2 rfl rfl, fI e2 rfl rfl, fN e2 rfl rfl, Or.inr (Or.inr (Or.inr ⟨fK e2, rfl, fI e2 rfl rfl, fN e2 rfl rfl⟩))⟩
theorem some_ne {a b : Nat} (h : a ≠ b) : ¬ (some a = some b) := fun e => h (Option.some.inj e)
/-- a choice by the kind of a proof -/
theorem kindCase {α : Type} {A0 A3 A6 A7 : Option α} {o : Option Nat} : (o = some 7 → (if o = some 0 then A0 else if o = some 3 then A3 else if o = some 6 then A6 else if o = some 7 then A7 else none) = A7) ∧ (o = some 6 → (if o = some 0 then A0 else if o = some 3 then A3 else if o = some 6 then A6 else if o = some 7 then A7 else none) = A6) ∧ (o = some 0 → (if o = some 0 then A0 else if o = some 3 then A3 else if o = some 6 then A6 else if o = some 7 then A7 else none) = A0) ∧ (o = some 3 → (if o = some 0 then A0 else if o = some 3 then A3 else if o = some 6 then A6 else if o = some 7 then A7 else none) = A3) := by
  refine ⟨fun h => ?_, fun h => ?_, fun h => ?_, fun h => ?_⟩
  · rw [h, if_neg (some_ne (by decide)), if_neg (some_ne (by decide)), if_neg (some_ne (by decide)), if_pos rfl]
  · rw [h, if_neg (some_ne (by decide)), if_neg (some_ne (by decide)), if_pos rfl]
  · rw [h, if_pos rfl]
  · rw [h, if_neg (some_ne (by decide)), if_pos rfl]
theorem kindAll {α : Type} {o : Option Nat} (A : Option α) (h : o = some 7 ∨ o = some 6 ∨ o = some 0 ∨ o = some 3) : (if o = some 0 then A else if o = some 3 then A else if o = some 6 then A else if o = some 7 then A else none) = A := by
  rcases h with h | h | h | h
  · exact kindCase.1 h
  · exact kindCase.2.1 h
  · exact kindCase.2.2.1 h
  · exact kindCase.2.2.2 h
theorem pView.kinds {kd po bo : Int32} {a b n : Nat} {g : Nat → Int64} (h : pView x f0 kd po bo a b n g) : hKd (hp x iv ai aj ar pp f0) a = some 7 ∨ hKd (hp x iv ai aj ar pp f0) a = some 6 ∨ hKd (hp x iv ai aj ar pp f0) a = some 0 ∨ hKd (hp x iv ai aj ar pp f0) a = some 3 := by
  rw [dK h.1]
  rcases h.2.2.2.2.2.2.2 with h | h | h | h
  · exact Or.inl h.1
  · exact Or.inr (Or.inl h.1)
  · exact Or.inr (Or.inr (Or.inl h.1))
  · exact Or.inr (Or.inr (Or.inr h.1))
theorem op_proof (hI0 : INV x z iv ai aj ar pp f0) (q w : Int32) : Or_ (F_X10_proof (hp x iv ai aj ar pp f0) x q w) (F_X11_proof (hp x iv ai aj ar pp f0) (x + 19) q w) := by
  obtain ⟨hz, own, hT, hS, hP, hB, hR, ⟨n, q1, q2, q3, q4⟩⟩ := id hI0
  by_cases h1 : 0 ≤ q.toInt ∧ q.toInt < n
  case neg =>
    refine ⟨-1, ?_, ?_⟩
    · unfold F_X10_proof
      rw [if_pos rk_0, s_proofNo q1 q2 h1]
      rfl
    · unfold F_X11_proof
      rw [if_pos rk_19, m_isProof q1 q3, Option.bind_some, if_neg h1]
      exact if_pos rfl
  obtain ⟨j, hj, rfl⟩ := inN (by omega) h1
  obtain ⟨a, b, m, g, a1, a2, a3, a4, a5, a6⟩ := (q4 j hj).view
  obtain ⟨v1, v2, v3, v4, v5, v6, v7, v8⟩ := id a6
  have hj40 : j < 40 := by omega
  have ln : hLen (hp x iv ai aj ar pp f0) b = some (nI m) := by rw [dLen v2]; exact fLenJ v3
  have em : F_X11_proof (hp x iv ai aj ar pp f0) (x + 19) (nI j) w = if w = 0 then some (ai 30 j) else if w = 1 then some (ai 31 j) else if w = 2 then some (ai 33 j) else if w = 3 then (if ai 30 j = 1 then some 0 else if ai 30 j = 2 then some (ai 33 j / 4) else if ai 30 j = 3 then some ((ai 33 j - 4) / 5) else some ((ai 33 j - 0) / 5)) else if w = 4 then some (ai 32 j) else some (-2) := by
    unfold F_X11_proof F_X11_squaresIn F_X11_squaresIn_21
    simp only [rk_19, if_true, m_isProof q1 q3, Option.bind_some, if10, h1, not_true_eq_false, if_false, rn_19_21, rn_19_22, rn_19_23, rn_19_24, r30 hj40, r31 hj40, r32 hj40, r33 hj40, obs, one0, and_self]
  have ec : F_X10_proof (hp x iv ai aj ar pp f0) x (nI j) w = if w = 0 then some (ai 30 j) else if w = 1 then some (ai 31 j) else if w = 2 then some (nI m) else if w = 3 then (if hKd (hp x iv ai aj ar pp f0) a = some 0 then some 0 else if hKd (hp x iv ai aj ar pp f0) a = some 3 then F_X3_pieces (hp x iv ai aj ar pp f0) a else if hKd (hp x iv ai aj ar pp f0) a = some 6 then F_X7_pieces (hp x iv ai aj ar pp f0) a else if hKd (hp x iv ai aj ar pp f0) a = some 7 then F_X8_pieces (hp x iv ai aj ar pp f0) a else none) else if w = 4 then (if hKd (hp x iv ai aj ar pp f0) a = some 0 then F_X0_boxNumber (hp x iv ai aj ar pp f0) a else if hKd (hp x iv ai aj ar pp f0) a = some 3 then F_X0_boxNumber (hp x iv ai aj ar pp f0) a else if hKd (hp x iv ai aj ar pp f0) a = some 6 then some (-9) else if hKd (hp x iv ai aj ar pp f0) a = some 7 then some (-9) else none) else some (-2) := by
    unfold F_X10_proof
    rw [if_pos rk_0, s_proofOk q1 q2 hj, Option.bind_some, a1, xnul_s, dI v1, v5, Option.bind_some, dI v1, v6, Option.bind_some, dN v1, v7, Option.bind_some, ln, Option.bind_some]
    simp only [obs, F_X0_pieces, F_X5_boxNumber]
  rw [Or_, em, ec]
  by_cases w0 : w = 0
  · rw [if_pos w0, if_pos w0]; exact ⟨_, rfl, rfl⟩
  rw [if_neg w0, if_neg w0]
  by_cases w1 : w = 1
  · rw [if_pos w1, if_pos w1]; exact ⟨_, rfl, rfl⟩
  rw [if_neg w1, if_neg w1]
  by_cases w2 : w = 2
  · rw [if_pos w2, if_pos w2, a4]; exact ⟨_, rfl, rfl⟩
  rw [if_neg w2, if_neg w2]
  by_cases w3 : w = 3
  · rw [if_pos w3, if_pos w3, a4]
    rcases v8 with ⟨k1, k2, k3, k4⟩ | ⟨k1, k2, k3, k4⟩ | ⟨k1, k2, k3⟩ | ⟨k1, k2, k3, k4⟩
    · rw [kindCase.1 ((dK v1).trans k1), k2, if_neg (show ¬ (0 : Int32) = 1 by decide), if_neg (show ¬ (0 : Int32) = 2 by decide), if_neg (show ¬ (0 : Int32) = 3 by decide), Int32.sub_zero]
      refine ⟨_, ?_, rfl⟩
      unfold F_X8_pieces
      rw [dN v1, k4, Option.bind_some, ln, Option.bind_some]
    · rw [kindCase.2.1 ((dK v1).trans k1), k2, if_neg (show ¬ (3 : Int32) = 1 by decide), if_neg (show ¬ (3 : Int32) = 2 by decide), if_pos rfl]
      refine ⟨_, ?_, rfl⟩
      unfold F_X7_pieces F_X7_spanFrom
      rw [if_pos ((dK v1).trans k1), dN v1, k4, Option.bind_some, ln, Option.bind_some, Option.bind_some]
    · rw [kindCase.2.2.1 ((dK v1).trans k1), k2, if_pos rfl]
      exact ⟨_, rfl, rfl⟩
    · rw [kindCase.2.2.2 ((dK v1).trans k1), k2, if_neg (show ¬ (2 : Int32) = 1 by decide), if_pos rfl]
      refine ⟨_, ?_, rfl⟩
      unfold F_X3_pieces
      rw [dN v1, k4, Option.bind_some, ln, Option.bind_some]
  rw [if_neg w3, if_neg w3]
  by_cases w4 : w = 4
  · rw [if_pos w4, if_pos w4]
    rcases v8 with ⟨k1, k2, k3, k4⟩ | ⟨k1, k2, k3, k4⟩ | ⟨k1, k2, k3⟩ | ⟨k1, k2, k3, k4⟩
    · rw [kindCase.1 ((dK v1).trans k1), k3]; exact ⟨_, rfl, rfl⟩
    · rw [kindCase.2.1 ((dK v1).trans k1), k3]; exact ⟨_, rfl, rfl⟩
    · rw [kindCase.2.2.1 ((dK v1).trans k1)]
      refine ⟨_, ?_, rfl⟩
      unfold F_X0_boxNumber
      rw [dI v1, k3, Option.bind_some]
    · rw [kindCase.2.2.2 ((dK v1).trans k1)]
      refine ⟨_, ?_, rfl⟩
      unfold F_X0_boxNumber
      rw [dI v1, k3, Option.bind_some]
  rw [if_neg w4, if_neg w4]
  exact ⟨_, rfl, rfl⟩
theorem s_has {kd po bo : Int32} {a b n : Nat} {g : Nat → Int64} (h : pView x f0 kd po bo a b n g) (i : Int32) : F_X5_has (hp x iv ai aj ar pp f0) a i = some (if 0 ≤ i.toInt ∧ i.toInt < n then 1 else 0) := by
  obtain ⟨v1, v2, v3, v4, v5, v6, v7, v8⟩ := h
  unfold F_X5_has
  rw [dN v1, v7, Option.bind_some, dLen v2, fLenJ v3, Option.bind_some]
  simp only [Int32.lt_iff_toInt_lt, Int32.le_iff_toInt_le, toInt_nI (show n < 2147483648 by omega), show (0 : Int32).toInt = 0 from rfl]
  repeat' split
  all_goals first | rfl | omega
theorem op_number (hI0 : INV x z iv ai aj ar pp f0) (q i : Int32) : Or_ (F_X10_number (hp x iv ai aj ar pp f0) x q i) (F_X11_number (hp x iv ai aj ar pp f0) (x + 19) q i) := by
  obtain ⟨hz, own, hT, hS, hP, hB, hR, ⟨n, q1, q2, q3, q4⟩⟩ := id hI0
  by_cases h1 : 0 ≤ q.toInt ∧ q.toInt < n
  case neg =>
    refine ⟨-9223372036854775808, ?_, ?_⟩
    · unfold F_X10_number F_X10_number_18
      rw [if_pos rk_0, s_proofNo q1 q2 h1]
      rfl
    · unfold F_X11_number F_X11_number_41
      rw [if_pos rk_19, m_isProof q1 q3, Option.bind_some, if_neg h1]
      exact if_pos rfl
  obtain ⟨j, hj, rfl⟩ := inN (by omega) h1
  obtain ⟨a, b, m, g, a1, a2, a3, a4, a5, a6⟩ := (q4 j hj).view
  obtain ⟨v1, v2, v3, v4, v5, v6, v7, v8⟩ := id a6
  have hj40 : j < 40 := by omega
  have em : F_X11_number (hp x iv ai aj ar pp f0) (x + 19) (nI j) i = if 0 ≤ i.toInt ∧ i.toInt < (m : Int) then hJld (hp x iv ai aj ar pp f0) (x + 34) (nI (160 * j) + i) else some (-9223372036854775808) := by
    unfold F_X11_number F_X11_number_41
    simp only [rk_19, if_true, m_isProof q1 q3, Option.bind_some, if10, h1, not_true_eq_false, if_false, rn_19_24, rn_19_25, r33 hj40, a4, s_within, w_ixn (show m ≤ 10000 by omega), obs, mul_160, one0, and_self]
    by_cases h2 : 0 ≤ i.toInt ∧ i.toInt < (m : Int)
    · rw [if_neg (not_not_intro h2), if_pos h2]
    · rw [if_pos h2, if_neg h2]
  have ec : F_X10_number (hp x iv ai aj ar pp f0) x (nI j) i = if 0 ≤ i.toInt ∧ i.toInt < (m : Int) then hJld (hp x iv ai aj ar pp f0) b i else some (-9223372036854775808) := by
    unfold F_X10_number F_X10_number_18
    rw [if_pos rk_0, s_proofOk q1 q2 hj, Option.bind_some, a1, xnul_s, kindAll _ a6.kinds, s_has a6, Option.bind_some, dN v1, v7, Option.bind_some, obs]
    simp only [if10]
    by_cases h2 : 0 ≤ i.toInt ∧ i.toInt < (m : Int)
    · rw [if_neg (not_not_intro h2), if_pos h2]
    · rw [if_pos h2, if_neg h2]
  rw [Or_, em, ec]
  by_cases h2 : 0 ≤ i.toInt ∧ i.toInt < (m : Int)
  · obtain ⟨k, hk, rfl⟩ := inN (by omega) h2
    rw [if_pos h2, if_pos h2, nI_add, r34 (by omega), dJld v2, fJld v3, ixr hk (by omega), cl_nI (by omega), a5 k hk]
    exact ⟨_, rfl, rfl⟩
  · rw [if_neg h2, if_neg h2]
    exact ⟨_, rfl, rfl⟩
theorem s_begins (v : Int32) : F_X1_begin (hp x iv ai aj ar pp f0) (x + 9) v = some (hp x (u2 iv 9 4 (31 * iv 9 4 + v)) ai aj ar pp f0) := by
  unfold F_X1_begin
  rw [ri_9_4, Option.bind_some, wi_9_4, Option.bind_some]
theorem m_begins (v : Int32) : F_X11_begins (hp x iv ai aj ar pp f0) (x + 19) v = some (hp x (u2 iv 19 1 (31 * iv 19 1 + v)) ai aj ar pp f0) := by
  unfold F_X11_begins
  rw [ri_19_1, Option.bind_some, wi_19_1, Option.bind_some]
/-- traces that go alike -/
theorem Ow_trace (hI0 : INV x z iv ai aj ar pp f0) {C : Option (Int32 × xHp)} {M : xHp → Option (Int32 × xHp)} {r : Int32} (e : Int32 → Int32) (h1 : C = some (r, hp x (u2 iv 9 4 (e (iv 9 4))) ai aj ar pp f0)) (h2 : M (hp x (u2 iv 9 4 (e (iv 9 4))) ai aj ar pp f0) = some (r, hp x (u2 (u2 iv 9 4 (e (iv 9 4))) 19 1 (e (iv 19 1))) ai aj ar pp f0)) : Ow x z C M := by
  obtain ⟨hz, own, hT, hS, hP, hB, hR, hQ⟩ := id hI0
  refine ⟨r, _, h1, rk_19, _, ai, aj, ar, pp, f0, h2, hz, own, ⟨hT.1, ?_⟩, hS, hP, hB, hR, hQ⟩
  show e (iv 9 4) = e (iv 19 1)
  rw [hT.2]
theorem u2_same {α : Type} (f : Nat → Nat → α) (c s : Nat) (u v : α) : u2 (u2 f c s u) c s v = u2 f c s v := by
  rw [u2_u2, up_up]
  rfl
theorem op_tell (hI0 : INV x z iv ai aj ar pp f0) (q : Int32) : Ow x z (F_X10_tell (hp x iv ai aj ar pp f0) x q) (fun h => F_X11_tell h (x + 19) q) := by
  obtain ⟨hz, own, hT, hS, hP, hB, hR, ⟨n, q1, q2, q3, q4⟩⟩ := id hI0
  by_cases h1 : 0 ≤ q.toInt ∧ q.toInt < n
  case neg =>
    refine Ow_no (r := -1) hI0 ?_ ?_
    · unfold F_X10_tell
      rw [if_pos rk_0, s_proofNo q1 q2 h1]
      rfl
    · show F_X11_tell _ _ _ = _
      unfold F_X11_tell
      rw [if_pos rk_19, m_isProof q1 q3, Option.bind_some, if_neg h1]
      exact if_pos rfl
  obtain ⟨j, hj, rfl⟩ := inN (by omega) h1
  obtain ⟨a, b, m, g, a1, a2, a3, a4, a5, a6⟩ := (q4 j hj).view
  obtain ⟨v1, v2, v3, v4, v5, v6, v7, v8⟩ := id a6
  have hj40 : j < 40 := by omega
  have ln : ∀ iv : Nat → Nat → Int32, hLen (hp x iv ai aj ar pp f0) b = some (nI m) := fun iv => by rw [dLen v2]; exact fLenJ v3
  have nb : ∀ iv : Nat → Nat → Int32, hN (hp x iv ai aj ar pp f0) a [(0, 3), (3, 5), (6, 3), (7, 3)] = some b := fun iv => by rw [dN v1]; exact v7
  have kk : ∀ iv : Nat → Nat → Int32, hKd (hp x iv ai aj ar pp f0) a = hKd f0 a := fun iv => dK v1
  have t5 : ∀ iv : Nat → Nat → Int32, F_X5_telling (hp x iv ai aj ar pp f0) a (x + 9) = some (nI m, hp x (u2 iv 9 4 (31 * iv 9 4 + 1)) ai aj ar pp f0) := fun iv => by
    unfold F_X5_telling
    rw [if_pos rk_9, s_begins, Option.bind_some, nb, Option.bind_some, ln, Option.bind_some]
  have em : ∀ (iv : Nat → Nat → Int32), iv 19 20 = nI n → F_X11_tell (hp x iv ai aj ar pp f0) (x + 19) (nI j) = if ai 30 j = 0 then some (nI m, hp x (u2 iv 19 1 (31 * iv 19 1 + 1)) ai aj ar pp f0) else if ai 30 j = 1 then some (9 + nI m, hp x (u2 iv 19 1 (31 * (31 * iv 19 1 + 3) + 1)) ai aj ar pp f0) else if ai 30 j = 2 then some (nI m, hp x (u2 iv 19 1 (31 * (31 * (31 * iv 19 1 + 4) + 3) + 1)) ai aj ar pp f0) else if ai 30 j = 3 then some (2 * nI m, hp x (u2 iv 19 1 (31 * (31 * iv 19 1 + 2) + 1)) ai aj ar pp f0) else some (nI m, hp x (u2 iv 19 1 (31 * (31 * (31 * iv 19 1 + 4) + 3) + 1)) ai aj ar pp f0) := by
    intro iv h20
    unfold F_X11_tell F_X11_tell_88
    simp only [rk_19, if_true, m_isProof q1 h20, Option.bind_some, if10, h1, not_true_eq_false, if_false, rn_19_21, rn_19_24, r30 hj40, r33 hj40, a4, m_begins, one0, and_self, u2_same, u2_tt]
  have hd9 : hN (hp x iv ai aj ar pp f0) x [(9, 5)] = some (x + 9) := rn_0_5
  have ec : F_X10_tell (hp x iv ai aj ar pp f0) x (nI j) = if hKd (hp x iv ai aj ar pp f0) a = some 0 then F_X0_telling (hp x iv ai aj ar pp f0) a (x + 9) else if hKd (hp x iv ai aj ar pp f0) a = some 3 then F_X3_telling (hp x iv ai aj ar pp f0) a (x + 9) else if hKd (hp x iv ai aj ar pp f0) a = some 6 then F_X7_telling (hp x iv ai aj ar pp f0) a (x + 9) else if hKd (hp x iv ai aj ar pp f0) a = some 7 then F_X5_telling (hp x iv ai aj ar pp f0) a (x + 9) else none := by
    unfold F_X10_tell
    rw [if_pos rk_0, s_proofOk q1 q2 hj, Option.bind_some, a1, xnul_s, hd9, Option.bind_some]
    simp only [obp]
  rcases v8 with ⟨k1, k2, k3, k4⟩ | ⟨k1, k2, k3, k4⟩ | ⟨k1, k2, k3⟩ | ⟨k1, k2, k3, k4⟩
  · refine Ow_trace hI0 (fun t => 31 * t + 1) (r := nI m) ?_ ?_
    · rw [ec, kindCase.1 ((dK v1).trans k1), t5]
    · refine (em (u2 iv 9 4 (31 * iv 9 4 + 1)) q3).trans ?_
      rw [k2, if_pos rfl]
      rfl
  · refine Ow_trace hI0 (fun t => 31 * (31 * t + 2) + 1) (r := 2 * nI m) ?_ ?_
    · rw [ec, kindCase.2.1 ((dK v1).trans k1)]
      unfold F_X7_telling
      rw [if_pos rk_9, s_begins, Option.bind_some, if_pos ((kk _).trans k1), t5, Option.bind_some, u2_same, u2_tt]
    · refine (em (u2 iv 9 4 (31 * (31 * iv 9 4 + 2) + 1)) q3).trans ?_
      rw [k2, if_neg (show ¬ (3 : Int32) = 0 by decide), if_neg (show ¬ (3 : Int32) = 1 by decide), if_neg (show ¬ (3 : Int32) = 2 by decide), if_pos rfl]
      rfl
  · refine Ow_trace hI0 (fun t => 31 * (31 * t + 3) + 1) (r := 9 + nI m) ?_ ?_
    · rw [ec, kindCase.2.2.1 ((dK v1).trans k1)]
      unfold F_X0_telling
      rw [if_pos rk_9, s_begins, Option.bind_some, if_pos ((kk _).trans k1), t5, Option.bind_some, u2_same, u2_tt]
    · refine (em (u2 iv 9 4 (31 * (31 * iv 9 4 + 3) + 1)) q3).trans ?_
      rw [k2, if_neg (show ¬ (1 : Int32) = 0 by decide), if_pos rfl]
      rfl
  · refine Ow_trace hI0 (fun t => 31 * (31 * (31 * t + 4) + 3) + 1) (r := nI m) ?_ ?_
    · rw [ec, kindCase.2.2.2 ((dK v1).trans k1)]
      unfold F_X3_telling F_X0_telling
      rw [if_pos rk_9, s_begins, Option.bind_some, if_pos ((kk _).trans k1), if_pos rk_9, s_begins, Option.bind_some, if_neg (fun e => absurd ((kk _).symm.trans e) (by rw [k1]; exact some_ne (by decide))), if_pos ((kk _).trans k1), t5, Option.bind_some, Option.bind_some, u2_same, u2_tt, u2_same, u2_tt]
      show some (9 + nI m - 9, _) = _
      rw [Int32.add_comm, Int32.add_sub_cancel]
    · refine (em (u2 iv 9 4 (31 * (31 * (31 * iv 9 4 + 4) + 3) + 1)) q3).trans ?_
      rw [k2, if_neg (show ¬ (2 : Int32) = 0 by decide), if_neg (show ¬ (2 : Int32) = 1 by decide), if_pos rfl]
      rfl
theorem op_cost (hI0 : INV x z iv ai aj ar pp f0) (q : Int32) : Ow x z (F_X10_cost (hp x iv ai aj ar pp f0) x q) (fun h => F_X11_cost h (x + 19) q) := by
  obtain ⟨hz, own, hT, hS, hP, hB, hR, ⟨n, q1, q2, q3, q4⟩⟩ := id hI0
  by_cases h1 : 0 ≤ q.toInt ∧ q.toInt < n
  case neg =>
    refine Ow_no (r := -1) hI0 ?_ ?_
    · unfold F_X10_cost
      rw [if_pos rk_0, s_proofNo q1 q2 h1]
      rfl
    · show F_X11_cost _ _ _ = _
      unfold F_X11_cost
      rw [if_pos rk_19, m_isProof q1 q3, Option.bind_some, if_neg h1]
      exact if_pos rfl
  obtain ⟨j, hj, rfl⟩ := inN (by omega) h1
  obtain ⟨a, b, m, g, a1, a2, a3, a4, a5, a6⟩ := (q4 j hj).view
  obtain ⟨v1, v2, v3, v4, v5, v6, v7, v8⟩ := id a6
  have hj40 : j < 40 := by omega
  have ln : ∀ iv : Nat → Nat → Int32, hLen (hp x iv ai aj ar pp f0) b = some (nI m) := fun iv => by rw [dLen v2]; exact fLenJ v3
  have nb : ∀ iv : Nat → Nat → Int32, hN (hp x iv ai aj ar pp f0) a [(0, 3), (3, 5), (6, 3), (7, 3)] = some b := fun iv => by rw [dN v1]; exact v7
  have em : ∀ (iv : Nat → Nat → Int32), iv 19 20 = nI n → F_X11_cost (hp x iv ai aj ar pp f0) (x + 19) (nI j) = if ai 30 j = 1 then some (7, hp x (u2 iv 19 1 (31 * iv 19 1 + 6)) ai aj ar pp f0) else if ai 30 j = 2 then some (7, hp x (u2 iv 19 1 (31 * iv 19 1 + 6)) ai aj ar pp f0) else some (100 + nI m, hp x (u2 iv 19 1 (31 * iv 19 1 + 5)) ai aj ar pp f0) := by
    intro iv h20
    unfold F_X11_cost F_X11_cost_30 F_X11_cost_35 F_X11_cost_47
    simp only [rk_19, if_true, m_isProof q1 h20, Option.bind_some, if10, h1, not_true_eq_false, if_false, rn_19_21, rn_19_24, r30 hj40, r33 hj40, a4, m_begins, one0, and_self]
  have ec : F_X10_cost (hp x iv ai aj ar pp f0) x (nI j) = if hKd (hp x iv ai aj ar pp f0) a = some 0 then F_X0_costing (hp x iv ai aj ar pp f0) a (x + 9) else if hKd (hp x iv ai aj ar pp f0) a = some 3 then F_X0_costing (hp x iv ai aj ar pp f0) a (x + 9) else if hKd (hp x iv ai aj ar pp f0) a = some 6 then F_X5_costing (hp x iv ai aj ar pp f0) a (x + 9) else if hKd (hp x iv ai aj ar pp f0) a = some 7 then F_X5_costing (hp x iv ai aj ar pp f0) a (x + 9) else none := by
    unfold F_X10_cost
    rw [if_pos rk_0, s_proofOk q1 q2 hj, Option.bind_some, a1, xnul_s, rn_0_5, Option.bind_some]
    simp only [obp]
  have c0 : F_X0_costing (hp x iv ai aj ar pp f0) a (x + 9) = some (7, hp x (u2 iv 9 4 (31 * iv 9 4 + 6)) ai aj ar pp f0) := by
    unfold F_X0_costing
    rw [if_pos rk_9, s_begins, Option.bind_some]
  have c5 : F_X5_costing (hp x iv ai aj ar pp f0) a (x + 9) = some (100 + nI m, hp x (u2 iv 9 4 (31 * iv 9 4 + 5)) ai aj ar pp f0) := by
    unfold F_X5_costing
    rw [if_pos rk_9, s_begins, Option.bind_some, nb, Option.bind_some, ln, Option.bind_some]
  rcases v8 with ⟨k1, k2, k3, k4⟩ | ⟨k1, k2, k3, k4⟩ | ⟨k1, k2, k3⟩ | ⟨k1, k2, k3, k4⟩
  · refine Ow_trace hI0 (fun t => 31 * t + 5) (r := 100 + nI m) ?_ ?_
    · rw [ec, kindCase.1 ((dK v1).trans k1), c5]
    · refine (em (u2 iv 9 4 (31 * iv 9 4 + 5)) q3).trans ?_
      rw [k2, if_neg (show ¬ (0 : Int32) = 1 by decide), if_neg (show ¬ (0 : Int32) = 2 by decide)]
      rfl
  · refine Ow_trace hI0 (fun t => 31 * t + 5) (r := 100 + nI m) ?_ ?_
    · rw [ec, kindCase.2.1 ((dK v1).trans k1), c5]
    · refine (em (u2 iv 9 4 (31 * iv 9 4 + 5)) q3).trans ?_
      rw [k2, if_neg (show ¬ (3 : Int32) = 1 by decide), if_neg (show ¬ (3 : Int32) = 2 by decide)]
      rfl
  · refine Ow_trace hI0 (fun t => 31 * t + 6) (r := 7) ?_ ?_
    · rw [ec, kindCase.2.2.1 ((dK v1).trans k1), c0]
    · refine (em (u2 iv 9 4 (31 * iv 9 4 + 6)) q3).trans ?_
      rw [k2, if_pos rfl]
      rfl
  · refine Ow_trace hI0 (fun t => 31 * t + 6) (r := 7) ?_ ?_
    · rw [ec, kindCase.2.2.2 ((dK v1).trans k1), c0]
    · refine (em (u2 iv 9 4 (31 * iv 9 4 + 6)) q3).trans ?_
      rw [k2, if_neg (show ¬ (2 : Int32) = 1 by decide), if_pos rfl]
      rfl
end PROOFS

/-! numbers: Int32 as naturals, conditions -/
theorem ixr {α : Type} {n N : Nat} {k : Option α} (h : n < N) (h2 : N < 2147483648) : (if nI n < 0 ∨ N ≤ (nI n).toNatClampNeg then none else k) = k := if_neg (nI_in h h2)
theorem ixq {α : Type} {n N : Nat} {k : Option α} (h : n < N) : (if n < 0 ∨ N ≤ n then none else k) = k := if_neg (by omega)
theorem ixf {α : Type} {n N : Nat} {k : Option α} (h : n < N) : (if False ∨ N ≤ n then none else k) = k := if_neg (by rintro (q | q); exact q; omega)
theorem ixn {α : Type} {i : Int32} {N : Nat} {k : Option α} (h : ¬ (i < 0 ∨ N ≤ i.toNatClampNeg)) : (if i < 0 ∨ N ≤ i.toNatClampNeg then none else k) = k := if_neg h
theorem mul_3 (b : Nat) : (3 : Int32) * nI b = nI (3 * b) := pk_mul 3 b
theorem mul_4 (b : Nat) : (4 : Int32) * nI b = nI (4 * b) := pk_mul 4 b
theorem mul_5 (b : Nat) : (5 : Int32) * nI b = nI (5 * b) := pk_mul 5 b
theorem mul_9 (b : Nat) : (9 : Int32) * nI b = nI (9 * b) := pk_mul 9 b
theorem mul_30 (b : Nat) : (30 : Int32) * nI b = nI (30 * b) := pk_mul 30 b
theorem mul_160 (b : Nat) : (160 : Int32) * nI b = nI (160 * b) := pk_mul 160 b
theorem add_1 (b : Nat) : nI b + (1 : Int32) = nI (b + 1) := nI_add b 1
theorem add_2 (b : Nat) : nI b + (2 : Int32) = nI (b + 2) := nI_add b 2
theorem add_3 (b : Nat) : nI b + (3 : Int32) = nI (b + 3) := nI_add b 3
theorem add_4 (b : Nat) : nI b + (4 : Int32) = nI (b + 4) := nI_add b 4
theorem add_5 (b : Nat) : nI b + (5 : Int32) = nI (b + 5) := nI_add b 5
theorem add_6 (b : Nat) : nI b + (6 : Int32) = nI (b + 6) := nI_add b 6
theorem addl_1 (b : Nat) : (1 : Int32) + nI b = nI (1 + b) := nI_add 1 b
theorem addl_2 (b : Nat) : (2 : Int32) + nI b = nI (2 + b) := nI_add 2 b
theorem addl_3 (b : Nat) : (3 : Int32) + nI b = nI (3 + b) := nI_add 3 b
theorem addl_4 (b : Nat) : (4 : Int32) + nI b = nI (4 + b) := nI_add 4 b
theorem cle_0 {a : Nat} (h : a < 2147483648) : ((0 : Int32) ≤ nI a) = (0 ≤ a) := propext (nI_leI (a := 0) (by decide) h)
theorem cel_0 {a : Nat} (h : a < 2147483648) : (nI a ≤ (0 : Int32)) = (a ≤ 0) := propext (nI_leI (b := 0) h (by decide))
theorem clt_0 {a : Nat} (h : a < 2147483648) : ((0 : Int32) < nI a) = (0 < a) := propext (nI_ltI (a := 0) (by decide) h)
theorem ctl_0 {a : Nat} (h : a < 2147483648) : (nI a < (0 : Int32)) = (a < 0) := propext (nI_ltI (b := 0) h (by decide))
theorem ceq_0 {a : Nat} (h : a < 2147483648) : (nI a = (0 : Int32)) = (a = 0) := propext (nI_eq (b := 0) h (by decide))
theorem cle_1 {a : Nat} (h : a < 2147483648) : ((1 : Int32) ≤ nI a) = (1 ≤ a) := propext (nI_leI (a := 1) (by decide) h)
theorem cel_1 {a : Nat} (h : a < 2147483648) : (nI a ≤ (1 : Int32)) = (a ≤ 1) := propext (nI_leI (b := 1) h (by decide))
theorem clt_1 {a : Nat} (h : a < 2147483648) : ((1 : Int32) < nI a) = (1 < a) := propext (nI_ltI (a := 1) (by decide) h)
theorem ctl_1 {a : Nat} (h : a < 2147483648) : (nI a < (1 : Int32)) = (a < 1) := propext (nI_ltI (b := 1) h (by decide))
theorem ceq_1 {a : Nat} (h : a < 2147483648) : (nI a = (1 : Int32)) = (a = 1) := propext (nI_eq (b := 1) h (by decide))
theorem cle_2 {a : Nat} (h : a < 2147483648) : ((2 : Int32) ≤ nI a) = (2 ≤ a) := propext (nI_leI (a := 2) (by decide) h)
theorem cel_2 {a : Nat} (h : a < 2147483648) : (nI a ≤ (2 : Int32)) = (a ≤ 2) := propext (nI_leI (b := 2) h (by decide))
theorem clt_2 {a : Nat} (h : a < 2147483648) : ((2 : Int32) < nI a) = (2 < a) := propext (nI_ltI (a := 2) (by decide) h)
theorem ctl_2 {a : Nat} (h : a < 2147483648) : (nI a < (2 : Int32)) = (a < 2) := propext (nI_ltI (b := 2) h (by decide))
theorem ceq_2 {a : Nat} (h : a < 2147483648) : (nI a = (2 : Int32)) = (a = 2) := propext (nI_eq (b := 2) h (by decide))
theorem cle_3 {a : Nat} (h : a < 2147483648) : ((3 : Int32) ≤ nI a) = (3 ≤ a) := propext (nI_leI (a := 3) (by decide) h)
theorem cel_3 {a : Nat} (h : a < 2147483648) : (nI a ≤ (3 : Int32)) = (a ≤ 3) := propext (nI_leI (b := 3) h (by decide))
theorem clt_3 {a : Nat} (h : a < 2147483648) : ((3 : Int32) < nI a) = (3 < a) := propext (nI_ltI (a := 3) (by decide) h)
theorem ctl_3 {a : Nat} (h : a < 2147483648) : (nI a < (3 : Int32)) = (a < 3) := propext (nI_ltI (b := 3) h (by decide))
theorem ceq_3 {a : Nat} (h : a < 2147483648) : (nI a = (3 : Int32)) = (a = 3) := propext (nI_eq (b := 3) h (by decide))
theorem cle_4 {a : Nat} (h : a < 2147483648) : ((4 : Int32) ≤ nI a) = (4 ≤ a) := propext (nI_leI (a := 4) (by decide) h)
theorem cel_4 {a : Nat} (h : a < 2147483648) : (nI a ≤ (4 : Int32)) = (a ≤ 4) := propext (nI_leI (b := 4) h (by decide))
theorem clt_4 {a : Nat} (h : a < 2147483648) : ((4 : Int32) < nI a) = (4 < a) := propext (nI_ltI (a := 4) (by decide) h)
theorem ctl_4 {a : Nat} (h : a < 2147483648) : (nI a < (4 : Int32)) = (a < 4) := propext (nI_ltI (b := 4) h (by decide))
theorem ceq_4 {a : Nat} (h : a < 2147483648) : (nI a = (4 : Int32)) = (a = 4) := propext (nI_eq (b := 4) h (by decide))
theorem cle_5 {a : Nat} (h : a < 2147483648) : ((5 : Int32) ≤ nI a) = (5 ≤ a) := propext (nI_leI (a := 5) (by decide) h)
theorem cel_5 {a : Nat} (h : a < 2147483648) : (nI a ≤ (5 : Int32)) = (a ≤ 5) := propext (nI_leI (b := 5) h (by decide))
theorem clt_5 {a : Nat} (h : a < 2147483648) : ((5 : Int32) < nI a) = (5 < a) := propext (nI_ltI (a := 5) (by decide) h)
theorem ctl_5 {a : Nat} (h : a < 2147483648) : (nI a < (5 : Int32)) = (a < 5) := propext (nI_ltI (b := 5) h (by decide))
theorem ceq_5 {a : Nat} (h : a < 2147483648) : (nI a = (5 : Int32)) = (a = 5) := propext (nI_eq (b := 5) h (by decide))
theorem cle_6 {a : Nat} (h : a < 2147483648) : ((6 : Int32) ≤ nI a) = (6 ≤ a) := propext (nI_leI (a := 6) (by decide) h)
theorem cel_6 {a : Nat} (h : a < 2147483648) : (nI a ≤ (6 : Int32)) = (a ≤ 6) := propext (nI_leI (b := 6) h (by decide))
theorem clt_6 {a : Nat} (h : a < 2147483648) : ((6 : Int32) < nI a) = (6 < a) := propext (nI_ltI (a := 6) (by decide) h)
theorem ctl_6 {a : Nat} (h : a < 2147483648) : (nI a < (6 : Int32)) = (a < 6) := propext (nI_ltI (b := 6) h (by decide))
theorem ceq_6 {a : Nat} (h : a < 2147483648) : (nI a = (6 : Int32)) = (a = 6) := propext (nI_eq (b := 6) h (by decide))
theorem cle_7 {a : Nat} (h : a < 2147483648) : ((7 : Int32) ≤ nI a) = (7 ≤ a) := propext (nI_leI (a := 7) (by decide) h)
theorem cel_7 {a : Nat} (h : a < 2147483648) : (nI a ≤ (7 : Int32)) = (a ≤ 7) := propext (nI_leI (b := 7) h (by decide))
theorem clt_7 {a : Nat} (h : a < 2147483648) : ((7 : Int32) < nI a) = (7 < a) := propext (nI_ltI (a := 7) (by decide) h)
theorem ctl_7 {a : Nat} (h : a < 2147483648) : (nI a < (7 : Int32)) = (a < 7) := propext (nI_ltI (b := 7) h (by decide))
theorem ceq_7 {a : Nat} (h : a < 2147483648) : (nI a = (7 : Int32)) = (a = 7) := propext (nI_eq (b := 7) h (by decide))
theorem cle_8 {a : Nat} (h : a < 2147483648) : ((8 : Int32) ≤ nI a) = (8 ≤ a) := propext (nI_leI (a := 8) (by decide) h)
theorem cel_8 {a : Nat} (h : a < 2147483648) : (nI a ≤ (8 : Int32)) = (a ≤ 8) := propext (nI_leI (b := 8) h (by decide))
theorem clt_8 {a : Nat} (h : a < 2147483648) : ((8 : Int32) < nI a) = (8 < a) := propext (nI_ltI (a := 8) (by decide) h)
theorem ctl_8 {a : Nat} (h : a < 2147483648) : (nI a < (8 : Int32)) = (a < 8) := propext (nI_ltI (b := 8) h (by decide))
theorem ceq_8 {a : Nat} (h : a < 2147483648) : (nI a = (8 : Int32)) = (a = 8) := propext (nI_eq (b := 8) h (by decide))
theorem cle_9 {a : Nat} (h : a < 2147483648) : ((9 : Int32) ≤ nI a) = (9 ≤ a) := propext (nI_leI (a := 9) (by decide) h)
theorem cel_9 {a : Nat} (h : a < 2147483648) : (nI a ≤ (9 : Int32)) = (a ≤ 9) := propext (nI_leI (b := 9) h (by decide))
theorem clt_9 {a : Nat} (h : a < 2147483648) : ((9 : Int32) < nI a) = (9 < a) := propext (nI_ltI (a := 9) (by decide) h)
theorem ctl_9 {a : Nat} (h : a < 2147483648) : (nI a < (9 : Int32)) = (a < 9) := propext (nI_ltI (b := 9) h (by decide))
theorem ceq_9 {a : Nat} (h : a < 2147483648) : (nI a = (9 : Int32)) = (a = 9) := propext (nI_eq (b := 9) h (by decide))
theorem cle_12 {a : Nat} (h : a < 2147483648) : ((12 : Int32) ≤ nI a) = (12 ≤ a) := propext (nI_leI (a := 12) (by decide) h)
theorem cel_12 {a : Nat} (h : a < 2147483648) : (nI a ≤ (12 : Int32)) = (a ≤ 12) := propext (nI_leI (b := 12) h (by decide))
theorem clt_12 {a : Nat} (h : a < 2147483648) : ((12 : Int32) < nI a) = (12 < a) := propext (nI_ltI (a := 12) (by decide) h)
theorem ctl_12 {a : Nat} (h : a < 2147483648) : (nI a < (12 : Int32)) = (a < 12) := propext (nI_ltI (b := 12) h (by decide))
theorem ceq_12 {a : Nat} (h : a < 2147483648) : (nI a = (12 : Int32)) = (a = 12) := propext (nI_eq (b := 12) h (by decide))
theorem cle_20 {a : Nat} (h : a < 2147483648) : ((20 : Int32) ≤ nI a) = (20 ≤ a) := propext (nI_leI (a := 20) (by decide) h)
theorem cel_20 {a : Nat} (h : a < 2147483648) : (nI a ≤ (20 : Int32)) = (a ≤ 20) := propext (nI_leI (b := 20) h (by decide))
theorem clt_20 {a : Nat} (h : a < 2147483648) : ((20 : Int32) < nI a) = (20 < a) := propext (nI_ltI (a := 20) (by decide) h)
theorem ctl_20 {a : Nat} (h : a < 2147483648) : (nI a < (20 : Int32)) = (a < 20) := propext (nI_ltI (b := 20) h (by decide))
theorem ceq_20 {a : Nat} (h : a < 2147483648) : (nI a = (20 : Int32)) = (a = 20) := propext (nI_eq (b := 20) h (by decide))
theorem cle_24 {a : Nat} (h : a < 2147483648) : ((24 : Int32) ≤ nI a) = (24 ≤ a) := propext (nI_leI (a := 24) (by decide) h)
theorem cel_24 {a : Nat} (h : a < 2147483648) : (nI a ≤ (24 : Int32)) = (a ≤ 24) := propext (nI_leI (b := 24) h (by decide))
theorem clt_24 {a : Nat} (h : a < 2147483648) : ((24 : Int32) < nI a) = (24 < a) := propext (nI_ltI (a := 24) (by decide) h)
theorem ctl_24 {a : Nat} (h : a < 2147483648) : (nI a < (24 : Int32)) = (a < 24) := propext (nI_ltI (b := 24) h (by decide))
theorem ceq_24 {a : Nat} (h : a < 2147483648) : (nI a = (24 : Int32)) = (a = 24) := propext (nI_eq (b := 24) h (by decide))
theorem cle_25 {a : Nat} (h : a < 2147483648) : ((25 : Int32) ≤ nI a) = (25 ≤ a) := propext (nI_leI (a := 25) (by decide) h)
theorem cel_25 {a : Nat} (h : a < 2147483648) : (nI a ≤ (25 : Int32)) = (a ≤ 25) := propext (nI_leI (b := 25) h (by decide))
theorem clt_25 {a : Nat} (h : a < 2147483648) : ((25 : Int32) < nI a) = (25 < a) := propext (nI_ltI (a := 25) (by decide) h)
theorem ctl_25 {a : Nat} (h : a < 2147483648) : (nI a < (25 : Int32)) = (a < 25) := propext (nI_ltI (b := 25) h (by decide))
theorem ceq_25 {a : Nat} (h : a < 2147483648) : (nI a = (25 : Int32)) = (a = 25) := propext (nI_eq (b := 25) h (by decide))
theorem cle_30 {a : Nat} (h : a < 2147483648) : ((30 : Int32) ≤ nI a) = (30 ≤ a) := propext (nI_leI (a := 30) (by decide) h)
theorem cel_30 {a : Nat} (h : a < 2147483648) : (nI a ≤ (30 : Int32)) = (a ≤ 30) := propext (nI_leI (b := 30) h (by decide))
theorem clt_30 {a : Nat} (h : a < 2147483648) : ((30 : Int32) < nI a) = (30 < a) := propext (nI_ltI (a := 30) (by decide) h)
theorem ctl_30 {a : Nat} (h : a < 2147483648) : (nI a < (30 : Int32)) = (a < 30) := propext (nI_ltI (b := 30) h (by decide))
theorem ceq_30 {a : Nat} (h : a < 2147483648) : (nI a = (30 : Int32)) = (a = 30) := propext (nI_eq (b := 30) h (by decide))
theorem cle_36 {a : Nat} (h : a < 2147483648) : ((36 : Int32) ≤ nI a) = (36 ≤ a) := propext (nI_leI (a := 36) (by decide) h)
theorem cel_36 {a : Nat} (h : a < 2147483648) : (nI a ≤ (36 : Int32)) = (a ≤ 36) := propext (nI_leI (b := 36) h (by decide))
theorem clt_36 {a : Nat} (h : a < 2147483648) : ((36 : Int32) < nI a) = (36 < a) := propext (nI_ltI (a := 36) (by decide) h)
theorem ctl_36 {a : Nat} (h : a < 2147483648) : (nI a < (36 : Int32)) = (a < 36) := propext (nI_ltI (b := 36) h (by decide))
theorem ceq_36 {a : Nat} (h : a < 2147483648) : (nI a = (36 : Int32)) = (a = 36) := propext (nI_eq (b := 36) h (by decide))
theorem cle_40 {a : Nat} (h : a < 2147483648) : ((40 : Int32) ≤ nI a) = (40 ≤ a) := propext (nI_leI (a := 40) (by decide) h)
theorem cel_40 {a : Nat} (h : a < 2147483648) : (nI a ≤ (40 : Int32)) = (a ≤ 40) := propext (nI_leI (b := 40) h (by decide))
theorem clt_40 {a : Nat} (h : a < 2147483648) : ((40 : Int32) < nI a) = (40 < a) := propext (nI_ltI (a := 40) (by decide) h)
theorem ctl_40 {a : Nat} (h : a < 2147483648) : (nI a < (40 : Int32)) = (a < 40) := propext (nI_ltI (b := 40) h (by decide))
theorem ceq_40 {a : Nat} (h : a < 2147483648) : (nI a = (40 : Int32)) = (a = 40) := propext (nI_eq (b := 40) h (by decide))
theorem cle_41 {a : Nat} (h : a < 2147483648) : ((41 : Int32) ≤ nI a) = (41 ≤ a) := propext (nI_leI (a := 41) (by decide) h)
theorem cel_41 {a : Nat} (h : a < 2147483648) : (nI a ≤ (41 : Int32)) = (a ≤ 41) := propext (nI_leI (b := 41) h (by decide))
theorem clt_41 {a : Nat} (h : a < 2147483648) : ((41 : Int32) < nI a) = (41 < a) := propext (nI_ltI (a := 41) (by decide) h)
theorem ctl_41 {a : Nat} (h : a < 2147483648) : (nI a < (41 : Int32)) = (a < 41) := propext (nI_ltI (b := 41) h (by decide))
theorem ceq_41 {a : Nat} (h : a < 2147483648) : (nI a = (41 : Int32)) = (a = 41) := propext (nI_eq (b := 41) h (by decide))
theorem cle_120 {a : Nat} (h : a < 2147483648) : ((120 : Int32) ≤ nI a) = (120 ≤ a) := propext (nI_leI (a := 120) (by decide) h)
theorem cel_120 {a : Nat} (h : a < 2147483648) : (nI a ≤ (120 : Int32)) = (a ≤ 120) := propext (nI_leI (b := 120) h (by decide))
theorem clt_120 {a : Nat} (h : a < 2147483648) : ((120 : Int32) < nI a) = (120 < a) := propext (nI_ltI (a := 120) (by decide) h)
theorem ctl_120 {a : Nat} (h : a < 2147483648) : (nI a < (120 : Int32)) = (a < 120) := propext (nI_ltI (b := 120) h (by decide))
theorem ceq_120 {a : Nat} (h : a < 2147483648) : (nI a = (120 : Int32)) = (a = 120) := propext (nI_eq (b := 120) h (by decide))
theorem cle_160 {a : Nat} (h : a < 2147483648) : ((160 : Int32) ≤ nI a) = (160 ≤ a) := propext (nI_leI (a := 160) (by decide) h)
theorem cel_160 {a : Nat} (h : a < 2147483648) : (nI a ≤ (160 : Int32)) = (a ≤ 160) := propext (nI_leI (b := 160) h (by decide))
theorem clt_160 {a : Nat} (h : a < 2147483648) : ((160 : Int32) < nI a) = (160 < a) := propext (nI_ltI (a := 160) (by decide) h)
theorem ctl_160 {a : Nat} (h : a < 2147483648) : (nI a < (160 : Int32)) = (a < 160) := propext (nI_ltI (b := 160) h (by decide))
theorem ceq_160 {a : Nat} (h : a < 2147483648) : (nI a = (160 : Int32)) = (a = 160) := propext (nI_eq (b := 160) h (by decide))
theorem cle_164 {a : Nat} (h : a < 2147483648) : ((164 : Int32) ≤ nI a) = (164 ≤ a) := propext (nI_leI (a := 164) (by decide) h)
theorem cel_164 {a : Nat} (h : a < 2147483648) : (nI a ≤ (164 : Int32)) = (a ≤ 164) := propext (nI_leI (b := 164) h (by decide))
theorem clt_164 {a : Nat} (h : a < 2147483648) : ((164 : Int32) < nI a) = (164 < a) := propext (nI_ltI (a := 164) (by decide) h)
theorem ctl_164 {a : Nat} (h : a < 2147483648) : (nI a < (164 : Int32)) = (a < 164) := propext (nI_ltI (b := 164) h (by decide))
theorem ceq_164 {a : Nat} (h : a < 2147483648) : (nI a = (164 : Int32)) = (a = 164) := propext (nI_eq (b := 164) h (by decide))
theorem cle_500 {a : Nat} (h : a < 2147483648) : ((500 : Int32) ≤ nI a) = (500 ≤ a) := propext (nI_leI (a := 500) (by decide) h)
theorem cel_500 {a : Nat} (h : a < 2147483648) : (nI a ≤ (500 : Int32)) = (a ≤ 500) := propext (nI_leI (b := 500) h (by decide))
theorem clt_500 {a : Nat} (h : a < 2147483648) : ((500 : Int32) < nI a) = (500 < a) := propext (nI_ltI (a := 500) (by decide) h)
theorem ctl_500 {a : Nat} (h : a < 2147483648) : (nI a < (500 : Int32)) = (a < 500) := propext (nI_ltI (b := 500) h (by decide))
theorem ceq_500 {a : Nat} (h : a < 2147483648) : (nI a = (500 : Int32)) = (a = 500) := propext (nI_eq (b := 500) h (by decide))
theorem cle_1000 {a : Nat} (h : a < 2147483648) : ((1000 : Int32) ≤ nI a) = (1000 ≤ a) := propext (nI_leI (a := 1000) (by decide) h)
theorem cel_1000 {a : Nat} (h : a < 2147483648) : (nI a ≤ (1000 : Int32)) = (a ≤ 1000) := propext (nI_leI (b := 1000) h (by decide))
theorem clt_1000 {a : Nat} (h : a < 2147483648) : ((1000 : Int32) < nI a) = (1000 < a) := propext (nI_ltI (a := 1000) (by decide) h)
theorem ctl_1000 {a : Nat} (h : a < 2147483648) : (nI a < (1000 : Int32)) = (a < 1000) := propext (nI_ltI (b := 1000) h (by decide))
theorem ceq_1000 {a : Nat} (h : a < 2147483648) : (nI a = (1000 : Int32)) = (a = 1000) := propext (nI_eq (b := 1000) h (by decide))
theorem neg_nI {a : Nat} (h : a < 2147483648) : (nI a < 0) = False := eq_false (nI_pos h)
theorem leq_nI {a b : Nat} (ha : a < 2147483648) (hb : b < 2147483648) : (nI a ≤ nI b) = (a ≤ b) := propext (nI_leI ha hb)
theorem lt_nI {a b : Nat} (ha : a < 2147483648) (hb : b < 2147483648) : (nI a < nI b) = (a < b) := propext (nI_ltI ha hb)
theorem eq_nI {a b : Nat} (ha : a < 2147483648) (hb : b < 2147483648) : (nI a = nI b) = (a = b) := propext (nI_eq ha hb)
theorem cl_nI {a : Nat} (ha : a < 2147483648) : (nI a).toNatClampNeg = a := nI_clamp ha
theorem s_within (f : xHp) (a b c : Int64) : F_X11_within f a b c = some (if b ≤ a ∧ a ≤ c then 1 else 0) := by
  unfold F_X11_within
  by_cases h1 : a < b
  · rw [if_pos h1, if_neg (fun h => absurd h1 (Int64.not_lt.mpr h.1))]
  · rw [if_neg h1]
    by_cases h2 : c < a
    · rw [if_pos h2, if_neg (fun h => absurd h2 (Int64.not_lt.mpr h.2))]
    · rw [if_neg h2, if_pos ⟨Int64.not_lt.mp h1, Int64.not_lt.mp h2⟩]
theorem if10 {c : Prop} [Decidable c] : ((if c then (1 : Int32) else 0) = 0) = ¬ c := by
  by_cases h : c
  · rw [if_pos h]; exact eq_comm.mp (by simp [h])
  · rw [if_neg h]; simp [h]
theorem w32 {k : Int32} {lo hi : Int64} {l h : Int} (hl : lo.toInt = l) (hh : hi.toInt = h) : (lo ≤ k.toInt64 ∧ k.toInt64 ≤ hi) = (l ≤ k.toInt ∧ k.toInt ≤ h) := by
  rw [Int64.le_iff_toInt_le, Int64.le_iff_toInt_le, Int32.toInt_toInt64, hl, hh]
/-- an int lies below, or within as a natural, or beyond -/
theorem tri (k : Int32) {n : Nat} (hn : n < 2147483648) : (¬ (0 ≤ k.toInt ∧ k.toInt < n)) ∨ ∃ j : Nat, j < n ∧ k = nI j := by
  rcases pk_ix k (n := n) hn with h | h | h
  · left
    intro q
    have := Int32.lt_iff_toInt_lt.mp h
    have e : (0 : Int32).toInt = 0 := rfl
    omega
  · left
    intro q
    have h1 := Int32.le_iff_toInt_le.mp h
    rw [nI_toInt hn] at h1
    omega
  · exact Or.inr h
theorem toInt_nI {n : Nat} (h : n < 2147483648) : (nI n).toInt = (n : Int) := nI_toInt h
theorem s_isSheet (f : xHp) (k : Int32) : F_X10_isSheet f k = some (if 0 ≤ k.toInt ∧ k.toInt ≤ 3 then 1 else 0) := by
  unfold F_X10_isSheet
  simp only [Int32.lt_iff_toInt_lt, Int32.le_iff_toInt_le, show (0 : Int32).toInt = 0 from rfl, show (4 : Int32).toInt = 4 from rfl]
  repeat' split
  all_goals first | rfl | omega
theorem s_isLane (f : xHp) (k : Int32) : F_X10_isLane f k = some (if 0 ≤ k.toInt ∧ k.toInt ≤ 2 then 1 else 0) := by
  unfold F_X10_isLane
  simp only [Int32.lt_iff_toInt_lt, Int32.le_iff_toInt_le, show (0 : Int32).toInt = 0 from rfl, show (3 : Int32).toInt = 3 from rfl]
  repeat' split
  all_goals first | rfl | omega
theorem s_isTerm (f : xHp) (k : Int32) : F_X10_isTerm f k = some (if 0 ≤ k.toInt ∧ k.toInt ≤ 8 then 1 else 0) := by
  unfold F_X10_isTerm
  simp only [Int32.lt_iff_toInt_lt, Int32.le_iff_toInt_le, show (0 : Int32).toInt = 0 from rfl, show (9 : Int32).toInt = 9 from rfl]
  repeat' split
  all_goals first | rfl | omega
theorem s_isWeight (f : xHp) (k : Int32) : F_X10_isWeight f k = some (if 1 ≤ k.toInt ∧ k.toInt ≤ 1000 then 1 else 0) := by
  unfold F_X10_isWeight
  simp only [Int32.lt_iff_toInt_lt, Int32.le_iff_toInt_le, show (1 : Int32).toInt = 1 from rfl, show (1000 : Int32).toInt = 1000 from rfl]
  repeat' split
  all_goals first | rfl | omega

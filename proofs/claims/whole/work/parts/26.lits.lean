/-! Literals against numbers, by literals. -/
section
variable {j : Nat}
theorem lA0 (h : j < 2 ^ 31) : ((0 : Int32) ≤ nI j) ↔ True := iff_true_intro (nI_pos' h)
theorem lB0 (h : j < 2 ^ 31) : ((0 : Int32) < nI j) ↔ 0 < j := nI_ltI (a := 0) (by decide) h
theorem lC0 (h : j < 2 ^ 31) : (nI j ≤ (0 : Int32)) ↔ j = 0 := (nI_leI (b := 0) h (by decide)).trans (by omega)
theorem lD0 (h : j < 2 ^ 31) : (nI j < (0 : Int32)) ↔ False := iff_false_intro (nI_pos h)
theorem lE0 (h : j < 2 ^ 31) : (nI j = (0 : Int32)) ↔ j = 0 := nI_eq (b := 0) h (by decide)
theorem lF0 (h : j < 2 ^ 31) : ((0 : Int32) = nI j) ↔ 0 = j := nI_eq (a := 0) (by decide) h
theorem lG0 (j : Nat) : (0 : Int32) + nI j = nI j := (nI_add 0 j).trans (by rw [Nat.zero_add])
theorem lH0 (j : Nat) : nI j + (0 : Int32) = nI j := nI_add j 0
theorem lA1 (h : j < 2 ^ 31) : ((1 : Int32) ≤ nI j) ↔ 1 ≤ j := nI_leI (a := 1) (by decide) h
theorem lB1 (h : j < 2 ^ 31) : ((1 : Int32) < nI j) ↔ 1 < j := nI_ltI (a := 1) (by decide) h
theorem lC1 (h : j < 2 ^ 31) : (nI j ≤ (1 : Int32)) ↔ j ≤ 1 := nI_leI (b := 1) h (by decide)
theorem lD1 (h : j < 2 ^ 31) : (nI j < (1 : Int32)) ↔ j < 1 := nI_ltI (b := 1) h (by decide)
theorem lE1 (h : j < 2 ^ 31) : (nI j = (1 : Int32)) ↔ j = 1 := nI_eq (b := 1) h (by decide)
theorem lF1 (h : j < 2 ^ 31) : ((1 : Int32) = nI j) ↔ 1 = j := nI_eq (a := 1) (by decide) h
theorem lG1 (j : Nat) : (1 : Int32) + nI j = nI (1 + j) := nI_add 1 j
theorem lH1 (j : Nat) : nI j + (1 : Int32) = nI (j + 1) := nI_add j 1
theorem lK1 (h : 1 ≤ j) : nI j - (1 : Int32) = nI (j - 1) := pk_sub h
theorem lA2 (h : j < 2 ^ 31) : ((2 : Int32) ≤ nI j) ↔ 2 ≤ j := nI_leI (a := 2) (by decide) h
theorem lB2 (h : j < 2 ^ 31) : ((2 : Int32) < nI j) ↔ 2 < j := nI_ltI (a := 2) (by decide) h
theorem lC2 (h : j < 2 ^ 31) : (nI j ≤ (2 : Int32)) ↔ j ≤ 2 := nI_leI (b := 2) h (by decide)
theorem lD2 (h : j < 2 ^ 31) : (nI j < (2 : Int32)) ↔ j < 2 := nI_ltI (b := 2) h (by decide)
theorem lE2 (h : j < 2 ^ 31) : (nI j = (2 : Int32)) ↔ j = 2 := nI_eq (b := 2) h (by decide)
theorem lF2 (h : j < 2 ^ 31) : ((2 : Int32) = nI j) ↔ 2 = j := nI_eq (a := 2) (by decide) h
theorem lG2 (j : Nat) : (2 : Int32) + nI j = nI (2 + j) := nI_add 2 j
theorem lH2 (j : Nat) : nI j + (2 : Int32) = nI (j + 2) := nI_add j 2
theorem lK2 (h : 2 ≤ j) : nI j - (2 : Int32) = nI (j - 2) := pk_sub h
theorem lI2 (j : Nat) : (2 : Int32) * nI j = nI (2 * j) := pk_mul 2 j
theorem lJ2 (j : Nat) : nI j * (2 : Int32) = nI (2 * j) := (pk_mul j 2).trans (by rw [Nat.mul_comm])
theorem lL2 (h : j < 2 ^ 31) : nI j / (2 : Int32) = nI (j / 2) := pk_div h (by decide) (by decide)
theorem lA3 (h : j < 2 ^ 31) : ((3 : Int32) ≤ nI j) ↔ 3 ≤ j := nI_leI (a := 3) (by decide) h
theorem lB3 (h : j < 2 ^ 31) : ((3 : Int32) < nI j) ↔ 3 < j := nI_ltI (a := 3) (by decide) h
theorem lC3 (h : j < 2 ^ 31) : (nI j ≤ (3 : Int32)) ↔ j ≤ 3 := nI_leI (b := 3) h (by decide)
theorem lD3 (h : j < 2 ^ 31) : (nI j < (3 : Int32)) ↔ j < 3 := nI_ltI (b := 3) h (by decide)
theorem lE3 (h : j < 2 ^ 31) : (nI j = (3 : Int32)) ↔ j = 3 := nI_eq (b := 3) h (by decide)
theorem lF3 (h : j < 2 ^ 31) : ((3 : Int32) = nI j) ↔ 3 = j := nI_eq (a := 3) (by decide) h
theorem lG3 (j : Nat) : (3 : Int32) + nI j = nI (3 + j) := nI_add 3 j
theorem lH3 (j : Nat) : nI j + (3 : Int32) = nI (j + 3) := nI_add j 3
theorem lK3 (h : 3 ≤ j) : nI j - (3 : Int32) = nI (j - 3) := pk_sub h
theorem lI3 (j : Nat) : (3 : Int32) * nI j = nI (3 * j) := pk_mul 3 j
theorem lJ3 (j : Nat) : nI j * (3 : Int32) = nI (3 * j) := (pk_mul j 3).trans (by rw [Nat.mul_comm])
theorem lL3 (h : j < 2 ^ 31) : nI j / (3 : Int32) = nI (j / 3) := pk_div h (by decide) (by decide)
theorem lA4 (h : j < 2 ^ 31) : ((4 : Int32) ≤ nI j) ↔ 4 ≤ j := nI_leI (a := 4) (by decide) h
theorem lB4 (h : j < 2 ^ 31) : ((4 : Int32) < nI j) ↔ 4 < j := nI_ltI (a := 4) (by decide) h
theorem lC4 (h : j < 2 ^ 31) : (nI j ≤ (4 : Int32)) ↔ j ≤ 4 := nI_leI (b := 4) h (by decide)
theorem lD4 (h : j < 2 ^ 31) : (nI j < (4 : Int32)) ↔ j < 4 := nI_ltI (b := 4) h (by decide)
theorem lE4 (h : j < 2 ^ 31) : (nI j = (4 : Int32)) ↔ j = 4 := nI_eq (b := 4) h (by decide)
theorem lF4 (h : j < 2 ^ 31) : ((4 : Int32) = nI j) ↔ 4 = j := nI_eq (a := 4) (by decide) h
theorem lG4 (j : Nat) : (4 : Int32) + nI j = nI (4 + j) := nI_add 4 j
theorem lH4 (j : Nat) : nI j + (4 : Int32) = nI (j + 4) := nI_add j 4
theorem lK4 (h : 4 ≤ j) : nI j - (4 : Int32) = nI (j - 4) := pk_sub h
theorem lI4 (j : Nat) : (4 : Int32) * nI j = nI (4 * j) := pk_mul 4 j
theorem lJ4 (j : Nat) : nI j * (4 : Int32) = nI (4 * j) := (pk_mul j 4).trans (by rw [Nat.mul_comm])
theorem lL4 (h : j < 2 ^ 31) : nI j / (4 : Int32) = nI (j / 4) := pk_div h (by decide) (by decide)
theorem lA5 (h : j < 2 ^ 31) : ((5 : Int32) ≤ nI j) ↔ 5 ≤ j := nI_leI (a := 5) (by decide) h
theorem lB5 (h : j < 2 ^ 31) : ((5 : Int32) < nI j) ↔ 5 < j := nI_ltI (a := 5) (by decide) h
theorem lC5 (h : j < 2 ^ 31) : (nI j ≤ (5 : Int32)) ↔ j ≤ 5 := nI_leI (b := 5) h (by decide)
theorem lD5 (h : j < 2 ^ 31) : (nI j < (5 : Int32)) ↔ j < 5 := nI_ltI (b := 5) h (by decide)
theorem lE5 (h : j < 2 ^ 31) : (nI j = (5 : Int32)) ↔ j = 5 := nI_eq (b := 5) h (by decide)
theorem lF5 (h : j < 2 ^ 31) : ((5 : Int32) = nI j) ↔ 5 = j := nI_eq (a := 5) (by decide) h
theorem lG5 (j : Nat) : (5 : Int32) + nI j = nI (5 + j) := nI_add 5 j
theorem lH5 (j : Nat) : nI j + (5 : Int32) = nI (j + 5) := nI_add j 5
theorem lK5 (h : 5 ≤ j) : nI j - (5 : Int32) = nI (j - 5) := pk_sub h
theorem lI5 (j : Nat) : (5 : Int32) * nI j = nI (5 * j) := pk_mul 5 j
theorem lJ5 (j : Nat) : nI j * (5 : Int32) = nI (5 * j) := (pk_mul j 5).trans (by rw [Nat.mul_comm])
theorem lL5 (h : j < 2 ^ 31) : nI j / (5 : Int32) = nI (j / 5) := pk_div h (by decide) (by decide)
theorem lA6 (h : j < 2 ^ 31) : ((6 : Int32) ≤ nI j) ↔ 6 ≤ j := nI_leI (a := 6) (by decide) h
theorem lB6 (h : j < 2 ^ 31) : ((6 : Int32) < nI j) ↔ 6 < j := nI_ltI (a := 6) (by decide) h
theorem lC6 (h : j < 2 ^ 31) : (nI j ≤ (6 : Int32)) ↔ j ≤ 6 := nI_leI (b := 6) h (by decide)
theorem lD6 (h : j < 2 ^ 31) : (nI j < (6 : Int32)) ↔ j < 6 := nI_ltI (b := 6) h (by decide)
theorem lE6 (h : j < 2 ^ 31) : (nI j = (6 : Int32)) ↔ j = 6 := nI_eq (b := 6) h (by decide)
theorem lF6 (h : j < 2 ^ 31) : ((6 : Int32) = nI j) ↔ 6 = j := nI_eq (a := 6) (by decide) h
theorem lG6 (j : Nat) : (6 : Int32) + nI j = nI (6 + j) := nI_add 6 j
theorem lH6 (j : Nat) : nI j + (6 : Int32) = nI (j + 6) := nI_add j 6
theorem lK6 (h : 6 ≤ j) : nI j - (6 : Int32) = nI (j - 6) := pk_sub h
theorem lI6 (j : Nat) : (6 : Int32) * nI j = nI (6 * j) := pk_mul 6 j
theorem lJ6 (j : Nat) : nI j * (6 : Int32) = nI (6 * j) := (pk_mul j 6).trans (by rw [Nat.mul_comm])
theorem lL6 (h : j < 2 ^ 31) : nI j / (6 : Int32) = nI (j / 6) := pk_div h (by decide) (by decide)
theorem lA7 (h : j < 2 ^ 31) : ((7 : Int32) ≤ nI j) ↔ 7 ≤ j := nI_leI (a := 7) (by decide) h
theorem lB7 (h : j < 2 ^ 31) : ((7 : Int32) < nI j) ↔ 7 < j := nI_ltI (a := 7) (by decide) h
theorem lC7 (h : j < 2 ^ 31) : (nI j ≤ (7 : Int32)) ↔ j ≤ 7 := nI_leI (b := 7) h (by decide)
theorem lD7 (h : j < 2 ^ 31) : (nI j < (7 : Int32)) ↔ j < 7 := nI_ltI (b := 7) h (by decide)
theorem lE7 (h : j < 2 ^ 31) : (nI j = (7 : Int32)) ↔ j = 7 := nI_eq (b := 7) h (by decide)
theorem lF7 (h : j < 2 ^ 31) : ((7 : Int32) = nI j) ↔ 7 = j := nI_eq (a := 7) (by decide) h
theorem lG7 (j : Nat) : (7 : Int32) + nI j = nI (7 + j) := nI_add 7 j
theorem lH7 (j : Nat) : nI j + (7 : Int32) = nI (j + 7) := nI_add j 7
theorem lK7 (h : 7 ≤ j) : nI j - (7 : Int32) = nI (j - 7) := pk_sub h
theorem lI7 (j : Nat) : (7 : Int32) * nI j = nI (7 * j) := pk_mul 7 j
theorem lJ7 (j : Nat) : nI j * (7 : Int32) = nI (7 * j) := (pk_mul j 7).trans (by rw [Nat.mul_comm])
theorem lL7 (h : j < 2 ^ 31) : nI j / (7 : Int32) = nI (j / 7) := pk_div h (by decide) (by decide)
theorem lA8 (h : j < 2 ^ 31) : ((8 : Int32) ≤ nI j) ↔ 8 ≤ j := nI_leI (a := 8) (by decide) h
theorem lB8 (h : j < 2 ^ 31) : ((8 : Int32) < nI j) ↔ 8 < j := nI_ltI (a := 8) (by decide) h
theorem lC8 (h : j < 2 ^ 31) : (nI j ≤ (8 : Int32)) ↔ j ≤ 8 := nI_leI (b := 8) h (by decide)
theorem lD8 (h : j < 2 ^ 31) : (nI j < (8 : Int32)) ↔ j < 8 := nI_ltI (b := 8) h (by decide)
theorem lE8 (h : j < 2 ^ 31) : (nI j = (8 : Int32)) ↔ j = 8 := nI_eq (b := 8) h (by decide)
theorem lF8 (h : j < 2 ^ 31) : ((8 : Int32) = nI j) ↔ 8 = j := nI_eq (a := 8) (by decide) h
theorem lG8 (j : Nat) : (8 : Int32) + nI j = nI (8 + j) := nI_add 8 j
theorem lH8 (j : Nat) : nI j + (8 : Int32) = nI (j + 8) := nI_add j 8
theorem lK8 (h : 8 ≤ j) : nI j - (8 : Int32) = nI (j - 8) := pk_sub h
theorem lI8 (j : Nat) : (8 : Int32) * nI j = nI (8 * j) := pk_mul 8 j
theorem lJ8 (j : Nat) : nI j * (8 : Int32) = nI (8 * j) := (pk_mul j 8).trans (by rw [Nat.mul_comm])
theorem lL8 (h : j < 2 ^ 31) : nI j / (8 : Int32) = nI (j / 8) := pk_div h (by decide) (by decide)
theorem lA9 (h : j < 2 ^ 31) : ((9 : Int32) ≤ nI j) ↔ 9 ≤ j := nI_leI (a := 9) (by decide) h
theorem lB9 (h : j < 2 ^ 31) : ((9 : Int32) < nI j) ↔ 9 < j := nI_ltI (a := 9) (by decide) h
theorem lC9 (h : j < 2 ^ 31) : (nI j ≤ (9 : Int32)) ↔ j ≤ 9 := nI_leI (b := 9) h (by decide)
theorem lD9 (h : j < 2 ^ 31) : (nI j < (9 : Int32)) ↔ j < 9 := nI_ltI (b := 9) h (by decide)
theorem lE9 (h : j < 2 ^ 31) : (nI j = (9 : Int32)) ↔ j = 9 := nI_eq (b := 9) h (by decide)
theorem lF9 (h : j < 2 ^ 31) : ((9 : Int32) = nI j) ↔ 9 = j := nI_eq (a := 9) (by decide) h
theorem lG9 (j : Nat) : (9 : Int32) + nI j = nI (9 + j) := nI_add 9 j
theorem lH9 (j : Nat) : nI j + (9 : Int32) = nI (j + 9) := nI_add j 9
theorem lK9 (h : 9 ≤ j) : nI j - (9 : Int32) = nI (j - 9) := pk_sub h
theorem lI9 (j : Nat) : (9 : Int32) * nI j = nI (9 * j) := pk_mul 9 j
theorem lJ9 (j : Nat) : nI j * (9 : Int32) = nI (9 * j) := (pk_mul j 9).trans (by rw [Nat.mul_comm])
theorem lL9 (h : j < 2 ^ 31) : nI j / (9 : Int32) = nI (j / 9) := pk_div h (by decide) (by decide)
theorem lA10 (h : j < 2 ^ 31) : ((10 : Int32) ≤ nI j) ↔ 10 ≤ j := nI_leI (a := 10) (by decide) h
theorem lB10 (h : j < 2 ^ 31) : ((10 : Int32) < nI j) ↔ 10 < j := nI_ltI (a := 10) (by decide) h
theorem lC10 (h : j < 2 ^ 31) : (nI j ≤ (10 : Int32)) ↔ j ≤ 10 := nI_leI (b := 10) h (by decide)
theorem lD10 (h : j < 2 ^ 31) : (nI j < (10 : Int32)) ↔ j < 10 := nI_ltI (b := 10) h (by decide)
theorem lE10 (h : j < 2 ^ 31) : (nI j = (10 : Int32)) ↔ j = 10 := nI_eq (b := 10) h (by decide)
theorem lF10 (h : j < 2 ^ 31) : ((10 : Int32) = nI j) ↔ 10 = j := nI_eq (a := 10) (by decide) h
theorem lG10 (j : Nat) : (10 : Int32) + nI j = nI (10 + j) := nI_add 10 j
theorem lH10 (j : Nat) : nI j + (10 : Int32) = nI (j + 10) := nI_add j 10
theorem lK10 (h : 10 ≤ j) : nI j - (10 : Int32) = nI (j - 10) := pk_sub h
theorem lI10 (j : Nat) : (10 : Int32) * nI j = nI (10 * j) := pk_mul 10 j
theorem lJ10 (j : Nat) : nI j * (10 : Int32) = nI (10 * j) := (pk_mul j 10).trans (by rw [Nat.mul_comm])
theorem lL10 (h : j < 2 ^ 31) : nI j / (10 : Int32) = nI (j / 10) := pk_div h (by decide) (by decide)
theorem lA12 (h : j < 2 ^ 31) : ((12 : Int32) ≤ nI j) ↔ 12 ≤ j := nI_leI (a := 12) (by decide) h
theorem lB12 (h : j < 2 ^ 31) : ((12 : Int32) < nI j) ↔ 12 < j := nI_ltI (a := 12) (by decide) h
theorem lC12 (h : j < 2 ^ 31) : (nI j ≤ (12 : Int32)) ↔ j ≤ 12 := nI_leI (b := 12) h (by decide)
theorem lD12 (h : j < 2 ^ 31) : (nI j < (12 : Int32)) ↔ j < 12 := nI_ltI (b := 12) h (by decide)
theorem lE12 (h : j < 2 ^ 31) : (nI j = (12 : Int32)) ↔ j = 12 := nI_eq (b := 12) h (by decide)
theorem lF12 (h : j < 2 ^ 31) : ((12 : Int32) = nI j) ↔ 12 = j := nI_eq (a := 12) (by decide) h
theorem lG12 (j : Nat) : (12 : Int32) + nI j = nI (12 + j) := nI_add 12 j
theorem lH12 (j : Nat) : nI j + (12 : Int32) = nI (j + 12) := nI_add j 12
theorem lK12 (h : 12 ≤ j) : nI j - (12 : Int32) = nI (j - 12) := pk_sub h
theorem lI12 (j : Nat) : (12 : Int32) * nI j = nI (12 * j) := pk_mul 12 j
theorem lJ12 (j : Nat) : nI j * (12 : Int32) = nI (12 * j) := (pk_mul j 12).trans (by rw [Nat.mul_comm])
theorem lL12 (h : j < 2 ^ 31) : nI j / (12 : Int32) = nI (j / 12) := pk_div h (by decide) (by decide)
theorem lA14 (h : j < 2 ^ 31) : ((14 : Int32) ≤ nI j) ↔ 14 ≤ j := nI_leI (a := 14) (by decide) h
theorem lB14 (h : j < 2 ^ 31) : ((14 : Int32) < nI j) ↔ 14 < j := nI_ltI (a := 14) (by decide) h
theorem lC14 (h : j < 2 ^ 31) : (nI j ≤ (14 : Int32)) ↔ j ≤ 14 := nI_leI (b := 14) h (by decide)
theorem lD14 (h : j < 2 ^ 31) : (nI j < (14 : Int32)) ↔ j < 14 := nI_ltI (b := 14) h (by decide)
theorem lE14 (h : j < 2 ^ 31) : (nI j = (14 : Int32)) ↔ j = 14 := nI_eq (b := 14) h (by decide)
theorem lF14 (h : j < 2 ^ 31) : ((14 : Int32) = nI j) ↔ 14 = j := nI_eq (a := 14) (by decide) h
theorem lG14 (j : Nat) : (14 : Int32) + nI j = nI (14 + j) := nI_add 14 j
theorem lH14 (j : Nat) : nI j + (14 : Int32) = nI (j + 14) := nI_add j 14
theorem lK14 (h : 14 ≤ j) : nI j - (14 : Int32) = nI (j - 14) := pk_sub h
theorem lI14 (j : Nat) : (14 : Int32) * nI j = nI (14 * j) := pk_mul 14 j
theorem lJ14 (j : Nat) : nI j * (14 : Int32) = nI (14 * j) := (pk_mul j 14).trans (by rw [Nat.mul_comm])
theorem lL14 (h : j < 2 ^ 31) : nI j / (14 : Int32) = nI (j / 14) := pk_div h (by decide) (by decide)
theorem lA15 (h : j < 2 ^ 31) : ((15 : Int32) ≤ nI j) ↔ 15 ≤ j := nI_leI (a := 15) (by decide) h
theorem lB15 (h : j < 2 ^ 31) : ((15 : Int32) < nI j) ↔ 15 < j := nI_ltI (a := 15) (by decide) h
theorem lC15 (h : j < 2 ^ 31) : (nI j ≤ (15 : Int32)) ↔ j ≤ 15 := nI_leI (b := 15) h (by decide)
theorem lD15 (h : j < 2 ^ 31) : (nI j < (15 : Int32)) ↔ j < 15 := nI_ltI (b := 15) h (by decide)
theorem lE15 (h : j < 2 ^ 31) : (nI j = (15 : Int32)) ↔ j = 15 := nI_eq (b := 15) h (by decide)
theorem lF15 (h : j < 2 ^ 31) : ((15 : Int32) = nI j) ↔ 15 = j := nI_eq (a := 15) (by decide) h
theorem lG15 (j : Nat) : (15 : Int32) + nI j = nI (15 + j) := nI_add 15 j
theorem lH15 (j : Nat) : nI j + (15 : Int32) = nI (j + 15) := nI_add j 15
theorem lK15 (h : 15 ≤ j) : nI j - (15 : Int32) = nI (j - 15) := pk_sub h
theorem lI15 (j : Nat) : (15 : Int32) * nI j = nI (15 * j) := pk_mul 15 j
theorem lJ15 (j : Nat) : nI j * (15 : Int32) = nI (15 * j) := (pk_mul j 15).trans (by rw [Nat.mul_comm])
theorem lL15 (h : j < 2 ^ 31) : nI j / (15 : Int32) = nI (j / 15) := pk_div h (by decide) (by decide)
theorem lA20 (h : j < 2 ^ 31) : ((20 : Int32) ≤ nI j) ↔ 20 ≤ j := nI_leI (a := 20) (by decide) h
theorem lB20 (h : j < 2 ^ 31) : ((20 : Int32) < nI j) ↔ 20 < j := nI_ltI (a := 20) (by decide) h
theorem lC20 (h : j < 2 ^ 31) : (nI j ≤ (20 : Int32)) ↔ j ≤ 20 := nI_leI (b := 20) h (by decide)
theorem lD20 (h : j < 2 ^ 31) : (nI j < (20 : Int32)) ↔ j < 20 := nI_ltI (b := 20) h (by decide)
theorem lE20 (h : j < 2 ^ 31) : (nI j = (20 : Int32)) ↔ j = 20 := nI_eq (b := 20) h (by decide)
theorem lF20 (h : j < 2 ^ 31) : ((20 : Int32) = nI j) ↔ 20 = j := nI_eq (a := 20) (by decide) h
theorem lG20 (j : Nat) : (20 : Int32) + nI j = nI (20 + j) := nI_add 20 j
theorem lH20 (j : Nat) : nI j + (20 : Int32) = nI (j + 20) := nI_add j 20
theorem lK20 (h : 20 ≤ j) : nI j - (20 : Int32) = nI (j - 20) := pk_sub h
theorem lI20 (j : Nat) : (20 : Int32) * nI j = nI (20 * j) := pk_mul 20 j
theorem lJ20 (j : Nat) : nI j * (20 : Int32) = nI (20 * j) := (pk_mul j 20).trans (by rw [Nat.mul_comm])
theorem lL20 (h : j < 2 ^ 31) : nI j / (20 : Int32) = nI (j / 20) := pk_div h (by decide) (by decide)
theorem lA24 (h : j < 2 ^ 31) : ((24 : Int32) ≤ nI j) ↔ 24 ≤ j := nI_leI (a := 24) (by decide) h
theorem lB24 (h : j < 2 ^ 31) : ((24 : Int32) < nI j) ↔ 24 < j := nI_ltI (a := 24) (by decide) h
theorem lC24 (h : j < 2 ^ 31) : (nI j ≤ (24 : Int32)) ↔ j ≤ 24 := nI_leI (b := 24) h (by decide)
theorem lD24 (h : j < 2 ^ 31) : (nI j < (24 : Int32)) ↔ j < 24 := nI_ltI (b := 24) h (by decide)
theorem lE24 (h : j < 2 ^ 31) : (nI j = (24 : Int32)) ↔ j = 24 := nI_eq (b := 24) h (by decide)
theorem lF24 (h : j < 2 ^ 31) : ((24 : Int32) = nI j) ↔ 24 = j := nI_eq (a := 24) (by decide) h
theorem lG24 (j : Nat) : (24 : Int32) + nI j = nI (24 + j) := nI_add 24 j
theorem lH24 (j : Nat) : nI j + (24 : Int32) = nI (j + 24) := nI_add j 24
theorem lK24 (h : 24 ≤ j) : nI j - (24 : Int32) = nI (j - 24) := pk_sub h
theorem lI24 (j : Nat) : (24 : Int32) * nI j = nI (24 * j) := pk_mul 24 j
theorem lJ24 (j : Nat) : nI j * (24 : Int32) = nI (24 * j) := (pk_mul j 24).trans (by rw [Nat.mul_comm])
theorem lL24 (h : j < 2 ^ 31) : nI j / (24 : Int32) = nI (j / 24) := pk_div h (by decide) (by decide)
theorem lA26 (h : j < 2 ^ 31) : ((26 : Int32) ≤ nI j) ↔ 26 ≤ j := nI_leI (a := 26) (by decide) h
theorem lB26 (h : j < 2 ^ 31) : ((26 : Int32) < nI j) ↔ 26 < j := nI_ltI (a := 26) (by decide) h
theorem lC26 (h : j < 2 ^ 31) : (nI j ≤ (26 : Int32)) ↔ j ≤ 26 := nI_leI (b := 26) h (by decide)
theorem lD26 (h : j < 2 ^ 31) : (nI j < (26 : Int32)) ↔ j < 26 := nI_ltI (b := 26) h (by decide)
theorem lE26 (h : j < 2 ^ 31) : (nI j = (26 : Int32)) ↔ j = 26 := nI_eq (b := 26) h (by decide)
theorem lF26 (h : j < 2 ^ 31) : ((26 : Int32) = nI j) ↔ 26 = j := nI_eq (a := 26) (by decide) h
theorem lG26 (j : Nat) : (26 : Int32) + nI j = nI (26 + j) := nI_add 26 j
theorem lH26 (j : Nat) : nI j + (26 : Int32) = nI (j + 26) := nI_add j 26
theorem lK26 (h : 26 ≤ j) : nI j - (26 : Int32) = nI (j - 26) := pk_sub h
theorem lI26 (j : Nat) : (26 : Int32) * nI j = nI (26 * j) := pk_mul 26 j
theorem lJ26 (j : Nat) : nI j * (26 : Int32) = nI (26 * j) := (pk_mul j 26).trans (by rw [Nat.mul_comm])
theorem lL26 (h : j < 2 ^ 31) : nI j / (26 : Int32) = nI (j / 26) := pk_div h (by decide) (by decide)
theorem lA30 (h : j < 2 ^ 31) : ((30 : Int32) ≤ nI j) ↔ 30 ≤ j := nI_leI (a := 30) (by decide) h
theorem lB30 (h : j < 2 ^ 31) : ((30 : Int32) < nI j) ↔ 30 < j := nI_ltI (a := 30) (by decide) h
theorem lC30 (h : j < 2 ^ 31) : (nI j ≤ (30 : Int32)) ↔ j ≤ 30 := nI_leI (b := 30) h (by decide)
theorem lD30 (h : j < 2 ^ 31) : (nI j < (30 : Int32)) ↔ j < 30 := nI_ltI (b := 30) h (by decide)
theorem lE30 (h : j < 2 ^ 31) : (nI j = (30 : Int32)) ↔ j = 30 := nI_eq (b := 30) h (by decide)
theorem lF30 (h : j < 2 ^ 31) : ((30 : Int32) = nI j) ↔ 30 = j := nI_eq (a := 30) (by decide) h
theorem lG30 (j : Nat) : (30 : Int32) + nI j = nI (30 + j) := nI_add 30 j
theorem lH30 (j : Nat) : nI j + (30 : Int32) = nI (j + 30) := nI_add j 30
theorem lK30 (h : 30 ≤ j) : nI j - (30 : Int32) = nI (j - 30) := pk_sub h
theorem lI30 (j : Nat) : (30 : Int32) * nI j = nI (30 * j) := pk_mul 30 j
theorem lJ30 (j : Nat) : nI j * (30 : Int32) = nI (30 * j) := (pk_mul j 30).trans (by rw [Nat.mul_comm])
theorem lL30 (h : j < 2 ^ 31) : nI j / (30 : Int32) = nI (j / 30) := pk_div h (by decide) (by decide)
theorem lA32 (h : j < 2 ^ 31) : ((32 : Int32) ≤ nI j) ↔ 32 ≤ j := nI_leI (a := 32) (by decide) h
theorem lB32 (h : j < 2 ^ 31) : ((32 : Int32) < nI j) ↔ 32 < j := nI_ltI (a := 32) (by decide) h
theorem lC32 (h : j < 2 ^ 31) : (nI j ≤ (32 : Int32)) ↔ j ≤ 32 := nI_leI (b := 32) h (by decide)
theorem lD32 (h : j < 2 ^ 31) : (nI j < (32 : Int32)) ↔ j < 32 := nI_ltI (b := 32) h (by decide)
theorem lE32 (h : j < 2 ^ 31) : (nI j = (32 : Int32)) ↔ j = 32 := nI_eq (b := 32) h (by decide)
theorem lF32 (h : j < 2 ^ 31) : ((32 : Int32) = nI j) ↔ 32 = j := nI_eq (a := 32) (by decide) h
theorem lG32 (j : Nat) : (32 : Int32) + nI j = nI (32 + j) := nI_add 32 j
theorem lH32 (j : Nat) : nI j + (32 : Int32) = nI (j + 32) := nI_add j 32
theorem lK32 (h : 32 ≤ j) : nI j - (32 : Int32) = nI (j - 32) := pk_sub h
theorem lI32 (j : Nat) : (32 : Int32) * nI j = nI (32 * j) := pk_mul 32 j
theorem lJ32 (j : Nat) : nI j * (32 : Int32) = nI (32 * j) := (pk_mul j 32).trans (by rw [Nat.mul_comm])
theorem lL32 (h : j < 2 ^ 31) : nI j / (32 : Int32) = nI (j / 32) := pk_div h (by decide) (by decide)
theorem lA36 (h : j < 2 ^ 31) : ((36 : Int32) ≤ nI j) ↔ 36 ≤ j := nI_leI (a := 36) (by decide) h
theorem lB36 (h : j < 2 ^ 31) : ((36 : Int32) < nI j) ↔ 36 < j := nI_ltI (a := 36) (by decide) h
theorem lC36 (h : j < 2 ^ 31) : (nI j ≤ (36 : Int32)) ↔ j ≤ 36 := nI_leI (b := 36) h (by decide)
theorem lD36 (h : j < 2 ^ 31) : (nI j < (36 : Int32)) ↔ j < 36 := nI_ltI (b := 36) h (by decide)
theorem lE36 (h : j < 2 ^ 31) : (nI j = (36 : Int32)) ↔ j = 36 := nI_eq (b := 36) h (by decide)
theorem lF36 (h : j < 2 ^ 31) : ((36 : Int32) = nI j) ↔ 36 = j := nI_eq (a := 36) (by decide) h
theorem lG36 (j : Nat) : (36 : Int32) + nI j = nI (36 + j) := nI_add 36 j
theorem lH36 (j : Nat) : nI j + (36 : Int32) = nI (j + 36) := nI_add j 36
theorem lK36 (h : 36 ≤ j) : nI j - (36 : Int32) = nI (j - 36) := pk_sub h
theorem lI36 (j : Nat) : (36 : Int32) * nI j = nI (36 * j) := pk_mul 36 j
theorem lJ36 (j : Nat) : nI j * (36 : Int32) = nI (36 * j) := (pk_mul j 36).trans (by rw [Nat.mul_comm])
theorem lL36 (h : j < 2 ^ 31) : nI j / (36 : Int32) = nI (j / 36) := pk_div h (by decide) (by decide)
theorem lA40 (h : j < 2 ^ 31) : ((40 : Int32) ≤ nI j) ↔ 40 ≤ j := nI_leI (a := 40) (by decide) h
theorem lB40 (h : j < 2 ^ 31) : ((40 : Int32) < nI j) ↔ 40 < j := nI_ltI (a := 40) (by decide) h
theorem lC40 (h : j < 2 ^ 31) : (nI j ≤ (40 : Int32)) ↔ j ≤ 40 := nI_leI (b := 40) h (by decide)
theorem lD40 (h : j < 2 ^ 31) : (nI j < (40 : Int32)) ↔ j < 40 := nI_ltI (b := 40) h (by decide)
theorem lE40 (h : j < 2 ^ 31) : (nI j = (40 : Int32)) ↔ j = 40 := nI_eq (b := 40) h (by decide)
theorem lF40 (h : j < 2 ^ 31) : ((40 : Int32) = nI j) ↔ 40 = j := nI_eq (a := 40) (by decide) h
theorem lG40 (j : Nat) : (40 : Int32) + nI j = nI (40 + j) := nI_add 40 j
theorem lH40 (j : Nat) : nI j + (40 : Int32) = nI (j + 40) := nI_add j 40
theorem lK40 (h : 40 ≤ j) : nI j - (40 : Int32) = nI (j - 40) := pk_sub h
theorem lI40 (j : Nat) : (40 : Int32) * nI j = nI (40 * j) := pk_mul 40 j
theorem lJ40 (j : Nat) : nI j * (40 : Int32) = nI (40 * j) := (pk_mul j 40).trans (by rw [Nat.mul_comm])
theorem lL40 (h : j < 2 ^ 31) : nI j / (40 : Int32) = nI (j / 40) := pk_div h (by decide) (by decide)
theorem lA60 (h : j < 2 ^ 31) : ((60 : Int32) ≤ nI j) ↔ 60 ≤ j := nI_leI (a := 60) (by decide) h
theorem lB60 (h : j < 2 ^ 31) : ((60 : Int32) < nI j) ↔ 60 < j := nI_ltI (a := 60) (by decide) h
theorem lC60 (h : j < 2 ^ 31) : (nI j ≤ (60 : Int32)) ↔ j ≤ 60 := nI_leI (b := 60) h (by decide)
theorem lD60 (h : j < 2 ^ 31) : (nI j < (60 : Int32)) ↔ j < 60 := nI_ltI (b := 60) h (by decide)
theorem lE60 (h : j < 2 ^ 31) : (nI j = (60 : Int32)) ↔ j = 60 := nI_eq (b := 60) h (by decide)
theorem lF60 (h : j < 2 ^ 31) : ((60 : Int32) = nI j) ↔ 60 = j := nI_eq (a := 60) (by decide) h
theorem lG60 (j : Nat) : (60 : Int32) + nI j = nI (60 + j) := nI_add 60 j
theorem lH60 (j : Nat) : nI j + (60 : Int32) = nI (j + 60) := nI_add j 60
theorem lK60 (h : 60 ≤ j) : nI j - (60 : Int32) = nI (j - 60) := pk_sub h
theorem lI60 (j : Nat) : (60 : Int32) * nI j = nI (60 * j) := pk_mul 60 j
theorem lJ60 (j : Nat) : nI j * (60 : Int32) = nI (60 * j) := (pk_mul j 60).trans (by rw [Nat.mul_comm])
theorem lL60 (h : j < 2 ^ 31) : nI j / (60 : Int32) = nI (j / 60) := pk_div h (by decide) (by decide)
theorem lA63 (h : j < 2 ^ 31) : ((63 : Int32) ≤ nI j) ↔ 63 ≤ j := nI_leI (a := 63) (by decide) h
theorem lB63 (h : j < 2 ^ 31) : ((63 : Int32) < nI j) ↔ 63 < j := nI_ltI (a := 63) (by decide) h
theorem lC63 (h : j < 2 ^ 31) : (nI j ≤ (63 : Int32)) ↔ j ≤ 63 := nI_leI (b := 63) h (by decide)
theorem lD63 (h : j < 2 ^ 31) : (nI j < (63 : Int32)) ↔ j < 63 := nI_ltI (b := 63) h (by decide)
theorem lE63 (h : j < 2 ^ 31) : (nI j = (63 : Int32)) ↔ j = 63 := nI_eq (b := 63) h (by decide)
theorem lF63 (h : j < 2 ^ 31) : ((63 : Int32) = nI j) ↔ 63 = j := nI_eq (a := 63) (by decide) h
theorem lG63 (j : Nat) : (63 : Int32) + nI j = nI (63 + j) := nI_add 63 j
theorem lH63 (j : Nat) : nI j + (63 : Int32) = nI (j + 63) := nI_add j 63
theorem lK63 (h : 63 ≤ j) : nI j - (63 : Int32) = nI (j - 63) := pk_sub h
theorem lI63 (j : Nat) : (63 : Int32) * nI j = nI (63 * j) := pk_mul 63 j
theorem lJ63 (j : Nat) : nI j * (63 : Int32) = nI (63 * j) := (pk_mul j 63).trans (by rw [Nat.mul_comm])
theorem lL63 (h : j < 2 ^ 31) : nI j / (63 : Int32) = nI (j / 63) := pk_div h (by decide) (by decide)
theorem lA64 (h : j < 2 ^ 31) : ((64 : Int32) ≤ nI j) ↔ 64 ≤ j := nI_leI (a := 64) (by decide) h
theorem lB64 (h : j < 2 ^ 31) : ((64 : Int32) < nI j) ↔ 64 < j := nI_ltI (a := 64) (by decide) h
theorem lC64 (h : j < 2 ^ 31) : (nI j ≤ (64 : Int32)) ↔ j ≤ 64 := nI_leI (b := 64) h (by decide)
theorem lD64 (h : j < 2 ^ 31) : (nI j < (64 : Int32)) ↔ j < 64 := nI_ltI (b := 64) h (by decide)
theorem lE64 (h : j < 2 ^ 31) : (nI j = (64 : Int32)) ↔ j = 64 := nI_eq (b := 64) h (by decide)
theorem lF64 (h : j < 2 ^ 31) : ((64 : Int32) = nI j) ↔ 64 = j := nI_eq (a := 64) (by decide) h
theorem lG64 (j : Nat) : (64 : Int32) + nI j = nI (64 + j) := nI_add 64 j
theorem lH64 (j : Nat) : nI j + (64 : Int32) = nI (j + 64) := nI_add j 64
theorem lK64 (h : 64 ≤ j) : nI j - (64 : Int32) = nI (j - 64) := pk_sub h
theorem lI64 (j : Nat) : (64 : Int32) * nI j = nI (64 * j) := pk_mul 64 j
theorem lJ64 (j : Nat) : nI j * (64 : Int32) = nI (64 * j) := (pk_mul j 64).trans (by rw [Nat.mul_comm])
theorem lL64 (h : j < 2 ^ 31) : nI j / (64 : Int32) = nI (j / 64) := pk_div h (by decide) (by decide)
theorem lA68 (h : j < 2 ^ 31) : ((68 : Int32) ≤ nI j) ↔ 68 ≤ j := nI_leI (a := 68) (by decide) h
theorem lB68 (h : j < 2 ^ 31) : ((68 : Int32) < nI j) ↔ 68 < j := nI_ltI (a := 68) (by decide) h
theorem lC68 (h : j < 2 ^ 31) : (nI j ≤ (68 : Int32)) ↔ j ≤ 68 := nI_leI (b := 68) h (by decide)
theorem lD68 (h : j < 2 ^ 31) : (nI j < (68 : Int32)) ↔ j < 68 := nI_ltI (b := 68) h (by decide)
theorem lE68 (h : j < 2 ^ 31) : (nI j = (68 : Int32)) ↔ j = 68 := nI_eq (b := 68) h (by decide)
theorem lF68 (h : j < 2 ^ 31) : ((68 : Int32) = nI j) ↔ 68 = j := nI_eq (a := 68) (by decide) h
theorem lG68 (j : Nat) : (68 : Int32) + nI j = nI (68 + j) := nI_add 68 j
theorem lH68 (j : Nat) : nI j + (68 : Int32) = nI (j + 68) := nI_add j 68
theorem lK68 (h : 68 ≤ j) : nI j - (68 : Int32) = nI (j - 68) := pk_sub h
theorem lI68 (j : Nat) : (68 : Int32) * nI j = nI (68 * j) := pk_mul 68 j
theorem lJ68 (j : Nat) : nI j * (68 : Int32) = nI (68 * j) := (pk_mul j 68).trans (by rw [Nat.mul_comm])
theorem lL68 (h : j < 2 ^ 31) : nI j / (68 : Int32) = nI (j / 68) := pk_div h (by decide) (by decide)
theorem lA99 (h : j < 2 ^ 31) : ((99 : Int32) ≤ nI j) ↔ 99 ≤ j := nI_leI (a := 99) (by decide) h
theorem lB99 (h : j < 2 ^ 31) : ((99 : Int32) < nI j) ↔ 99 < j := nI_ltI (a := 99) (by decide) h
theorem lC99 (h : j < 2 ^ 31) : (nI j ≤ (99 : Int32)) ↔ j ≤ 99 := nI_leI (b := 99) h (by decide)
theorem lD99 (h : j < 2 ^ 31) : (nI j < (99 : Int32)) ↔ j < 99 := nI_ltI (b := 99) h (by decide)
theorem lE99 (h : j < 2 ^ 31) : (nI j = (99 : Int32)) ↔ j = 99 := nI_eq (b := 99) h (by decide)
theorem lF99 (h : j < 2 ^ 31) : ((99 : Int32) = nI j) ↔ 99 = j := nI_eq (a := 99) (by decide) h
theorem lG99 (j : Nat) : (99 : Int32) + nI j = nI (99 + j) := nI_add 99 j
theorem lH99 (j : Nat) : nI j + (99 : Int32) = nI (j + 99) := nI_add j 99
theorem lK99 (h : 99 ≤ j) : nI j - (99 : Int32) = nI (j - 99) := pk_sub h
theorem lI99 (j : Nat) : (99 : Int32) * nI j = nI (99 * j) := pk_mul 99 j
theorem lJ99 (j : Nat) : nI j * (99 : Int32) = nI (99 * j) := (pk_mul j 99).trans (by rw [Nat.mul_comm])
theorem lL99 (h : j < 2 ^ 31) : nI j / (99 : Int32) = nI (j / 99) := pk_div h (by decide) (by decide)
theorem lA100 (h : j < 2 ^ 31) : ((100 : Int32) ≤ nI j) ↔ 100 ≤ j := nI_leI (a := 100) (by decide) h
theorem lB100 (h : j < 2 ^ 31) : ((100 : Int32) < nI j) ↔ 100 < j := nI_ltI (a := 100) (by decide) h
theorem lC100 (h : j < 2 ^ 31) : (nI j ≤ (100 : Int32)) ↔ j ≤ 100 := nI_leI (b := 100) h (by decide)
theorem lD100 (h : j < 2 ^ 31) : (nI j < (100 : Int32)) ↔ j < 100 := nI_ltI (b := 100) h (by decide)
theorem lE100 (h : j < 2 ^ 31) : (nI j = (100 : Int32)) ↔ j = 100 := nI_eq (b := 100) h (by decide)
theorem lF100 (h : j < 2 ^ 31) : ((100 : Int32) = nI j) ↔ 100 = j := nI_eq (a := 100) (by decide) h
theorem lG100 (j : Nat) : (100 : Int32) + nI j = nI (100 + j) := nI_add 100 j
theorem lH100 (j : Nat) : nI j + (100 : Int32) = nI (j + 100) := nI_add j 100
theorem lK100 (h : 100 ≤ j) : nI j - (100 : Int32) = nI (j - 100) := pk_sub h
theorem lI100 (j : Nat) : (100 : Int32) * nI j = nI (100 * j) := pk_mul 100 j
theorem lJ100 (j : Nat) : nI j * (100 : Int32) = nI (100 * j) := (pk_mul j 100).trans (by rw [Nat.mul_comm])
theorem lL100 (h : j < 2 ^ 31) : nI j / (100 : Int32) = nI (j / 100) := pk_div h (by decide) (by decide)
theorem lA160 (h : j < 2 ^ 31) : ((160 : Int32) ≤ nI j) ↔ 160 ≤ j := nI_leI (a := 160) (by decide) h
theorem lB160 (h : j < 2 ^ 31) : ((160 : Int32) < nI j) ↔ 160 < j := nI_ltI (a := 160) (by decide) h
theorem lC160 (h : j < 2 ^ 31) : (nI j ≤ (160 : Int32)) ↔ j ≤ 160 := nI_leI (b := 160) h (by decide)
theorem lD160 (h : j < 2 ^ 31) : (nI j < (160 : Int32)) ↔ j < 160 := nI_ltI (b := 160) h (by decide)
theorem lE160 (h : j < 2 ^ 31) : (nI j = (160 : Int32)) ↔ j = 160 := nI_eq (b := 160) h (by decide)
theorem lF160 (h : j < 2 ^ 31) : ((160 : Int32) = nI j) ↔ 160 = j := nI_eq (a := 160) (by decide) h
theorem lG160 (j : Nat) : (160 : Int32) + nI j = nI (160 + j) := nI_add 160 j
theorem lH160 (j : Nat) : nI j + (160 : Int32) = nI (j + 160) := nI_add j 160
theorem lK160 (h : 160 ≤ j) : nI j - (160 : Int32) = nI (j - 160) := pk_sub h
theorem lI160 (j : Nat) : (160 : Int32) * nI j = nI (160 * j) := pk_mul 160 j
theorem lJ160 (j : Nat) : nI j * (160 : Int32) = nI (160 * j) := (pk_mul j 160).trans (by rw [Nat.mul_comm])
theorem lL160 (h : j < 2 ^ 31) : nI j / (160 : Int32) = nI (j / 160) := pk_div h (by decide) (by decide)
theorem lA161 (h : j < 2 ^ 31) : ((161 : Int32) ≤ nI j) ↔ 161 ≤ j := nI_leI (a := 161) (by decide) h
theorem lB161 (h : j < 2 ^ 31) : ((161 : Int32) < nI j) ↔ 161 < j := nI_ltI (a := 161) (by decide) h
theorem lC161 (h : j < 2 ^ 31) : (nI j ≤ (161 : Int32)) ↔ j ≤ 161 := nI_leI (b := 161) h (by decide)
theorem lD161 (h : j < 2 ^ 31) : (nI j < (161 : Int32)) ↔ j < 161 := nI_ltI (b := 161) h (by decide)
theorem lE161 (h : j < 2 ^ 31) : (nI j = (161 : Int32)) ↔ j = 161 := nI_eq (b := 161) h (by decide)
theorem lF161 (h : j < 2 ^ 31) : ((161 : Int32) = nI j) ↔ 161 = j := nI_eq (a := 161) (by decide) h
theorem lG161 (j : Nat) : (161 : Int32) + nI j = nI (161 + j) := nI_add 161 j
theorem lH161 (j : Nat) : nI j + (161 : Int32) = nI (j + 161) := nI_add j 161
theorem lK161 (h : 161 ≤ j) : nI j - (161 : Int32) = nI (j - 161) := pk_sub h
theorem lI161 (j : Nat) : (161 : Int32) * nI j = nI (161 * j) := pk_mul 161 j
theorem lJ161 (j : Nat) : nI j * (161 : Int32) = nI (161 * j) := (pk_mul j 161).trans (by rw [Nat.mul_comm])
theorem lL161 (h : j < 2 ^ 31) : nI j / (161 : Int32) = nI (j / 161) := pk_div h (by decide) (by decide)
theorem lA255 (h : j < 2 ^ 31) : ((255 : Int32) ≤ nI j) ↔ 255 ≤ j := nI_leI (a := 255) (by decide) h
theorem lB255 (h : j < 2 ^ 31) : ((255 : Int32) < nI j) ↔ 255 < j := nI_ltI (a := 255) (by decide) h
theorem lC255 (h : j < 2 ^ 31) : (nI j ≤ (255 : Int32)) ↔ j ≤ 255 := nI_leI (b := 255) h (by decide)
theorem lD255 (h : j < 2 ^ 31) : (nI j < (255 : Int32)) ↔ j < 255 := nI_ltI (b := 255) h (by decide)
theorem lE255 (h : j < 2 ^ 31) : (nI j = (255 : Int32)) ↔ j = 255 := nI_eq (b := 255) h (by decide)
theorem lF255 (h : j < 2 ^ 31) : ((255 : Int32) = nI j) ↔ 255 = j := nI_eq (a := 255) (by decide) h
theorem lG255 (j : Nat) : (255 : Int32) + nI j = nI (255 + j) := nI_add 255 j
theorem lH255 (j : Nat) : nI j + (255 : Int32) = nI (j + 255) := nI_add j 255
theorem lK255 (h : 255 ≤ j) : nI j - (255 : Int32) = nI (j - 255) := pk_sub h
theorem lI255 (j : Nat) : (255 : Int32) * nI j = nI (255 * j) := pk_mul 255 j
theorem lJ255 (j : Nat) : nI j * (255 : Int32) = nI (255 * j) := (pk_mul j 255).trans (by rw [Nat.mul_comm])
theorem lL255 (h : j < 2 ^ 31) : nI j / (255 : Int32) = nI (j / 255) := pk_div h (by decide) (by decide)
theorem lA600 (h : j < 2 ^ 31) : ((600 : Int32) ≤ nI j) ↔ 600 ≤ j := nI_leI (a := 600) (by decide) h
theorem lB600 (h : j < 2 ^ 31) : ((600 : Int32) < nI j) ↔ 600 < j := nI_ltI (a := 600) (by decide) h
theorem lC600 (h : j < 2 ^ 31) : (nI j ≤ (600 : Int32)) ↔ j ≤ 600 := nI_leI (b := 600) h (by decide)
theorem lD600 (h : j < 2 ^ 31) : (nI j < (600 : Int32)) ↔ j < 600 := nI_ltI (b := 600) h (by decide)
theorem lE600 (h : j < 2 ^ 31) : (nI j = (600 : Int32)) ↔ j = 600 := nI_eq (b := 600) h (by decide)
theorem lF600 (h : j < 2 ^ 31) : ((600 : Int32) = nI j) ↔ 600 = j := nI_eq (a := 600) (by decide) h
theorem lG600 (j : Nat) : (600 : Int32) + nI j = nI (600 + j) := nI_add 600 j
theorem lH600 (j : Nat) : nI j + (600 : Int32) = nI (j + 600) := nI_add j 600
theorem lK600 (h : 600 ≤ j) : nI j - (600 : Int32) = nI (j - 600) := pk_sub h
theorem lI600 (j : Nat) : (600 : Int32) * nI j = nI (600 * j) := pk_mul 600 j
theorem lJ600 (j : Nat) : nI j * (600 : Int32) = nI (600 * j) := (pk_mul j 600).trans (by rw [Nat.mul_comm])
theorem lL600 (h : j < 2 ^ 31) : nI j / (600 : Int32) = nI (j / 600) := pk_div h (by decide) (by decide)
theorem lA720 (h : j < 2 ^ 31) : ((720 : Int32) ≤ nI j) ↔ 720 ≤ j := nI_leI (a := 720) (by decide) h
theorem lB720 (h : j < 2 ^ 31) : ((720 : Int32) < nI j) ↔ 720 < j := nI_ltI (a := 720) (by decide) h
theorem lC720 (h : j < 2 ^ 31) : (nI j ≤ (720 : Int32)) ↔ j ≤ 720 := nI_leI (b := 720) h (by decide)
theorem lD720 (h : j < 2 ^ 31) : (nI j < (720 : Int32)) ↔ j < 720 := nI_ltI (b := 720) h (by decide)
theorem lE720 (h : j < 2 ^ 31) : (nI j = (720 : Int32)) ↔ j = 720 := nI_eq (b := 720) h (by decide)
theorem lF720 (h : j < 2 ^ 31) : ((720 : Int32) = nI j) ↔ 720 = j := nI_eq (a := 720) (by decide) h
theorem lG720 (j : Nat) : (720 : Int32) + nI j = nI (720 + j) := nI_add 720 j
theorem lH720 (j : Nat) : nI j + (720 : Int32) = nI (j + 720) := nI_add j 720
theorem lK720 (h : 720 ≤ j) : nI j - (720 : Int32) = nI (j - 720) := pk_sub h
theorem lI720 (j : Nat) : (720 : Int32) * nI j = nI (720 * j) := pk_mul 720 j
theorem lJ720 (j : Nat) : nI j * (720 : Int32) = nI (720 * j) := (pk_mul j 720).trans (by rw [Nat.mul_comm])
theorem lL720 (h : j < 2 ^ 31) : nI j / (720 : Int32) = nI (j / 720) := pk_div h (by decide) (by decide)
theorem lA729 (h : j < 2 ^ 31) : ((729 : Int32) ≤ nI j) ↔ 729 ≤ j := nI_leI (a := 729) (by decide) h
theorem lB729 (h : j < 2 ^ 31) : ((729 : Int32) < nI j) ↔ 729 < j := nI_ltI (a := 729) (by decide) h
theorem lC729 (h : j < 2 ^ 31) : (nI j ≤ (729 : Int32)) ↔ j ≤ 729 := nI_leI (b := 729) h (by decide)
theorem lD729 (h : j < 2 ^ 31) : (nI j < (729 : Int32)) ↔ j < 729 := nI_ltI (b := 729) h (by decide)
theorem lE729 (h : j < 2 ^ 31) : (nI j = (729 : Int32)) ↔ j = 729 := nI_eq (b := 729) h (by decide)
theorem lF729 (h : j < 2 ^ 31) : ((729 : Int32) = nI j) ↔ 729 = j := nI_eq (a := 729) (by decide) h
theorem lG729 (j : Nat) : (729 : Int32) + nI j = nI (729 + j) := nI_add 729 j
theorem lH729 (j : Nat) : nI j + (729 : Int32) = nI (j + 729) := nI_add j 729
theorem lK729 (h : 729 ≤ j) : nI j - (729 : Int32) = nI (j - 729) := pk_sub h
theorem lI729 (j : Nat) : (729 : Int32) * nI j = nI (729 * j) := pk_mul 729 j
theorem lJ729 (j : Nat) : nI j * (729 : Int32) = nI (729 * j) := (pk_mul j 729).trans (by rw [Nat.mul_comm])
theorem lL729 (h : j < 2 ^ 31) : nI j / (729 : Int32) = nI (j / 729) := pk_div h (by decide) (by decide)
theorem lA1000000 (h : j < 2 ^ 31) : ((1000000 : Int32) ≤ nI j) ↔ 1000000 ≤ j := nI_leI (a := 1000000) (by decide) h
theorem lB1000000 (h : j < 2 ^ 31) : ((1000000 : Int32) < nI j) ↔ 1000000 < j := nI_ltI (a := 1000000) (by decide) h
theorem lC1000000 (h : j < 2 ^ 31) : (nI j ≤ (1000000 : Int32)) ↔ j ≤ 1000000 := nI_leI (b := 1000000) h (by decide)
theorem lD1000000 (h : j < 2 ^ 31) : (nI j < (1000000 : Int32)) ↔ j < 1000000 := nI_ltI (b := 1000000) h (by decide)
theorem lE1000000 (h : j < 2 ^ 31) : (nI j = (1000000 : Int32)) ↔ j = 1000000 := nI_eq (b := 1000000) h (by decide)
theorem lF1000000 (h : j < 2 ^ 31) : ((1000000 : Int32) = nI j) ↔ 1000000 = j := nI_eq (a := 1000000) (by decide) h
theorem lG1000000 (j : Nat) : (1000000 : Int32) + nI j = nI (1000000 + j) := nI_add 1000000 j
theorem lH1000000 (j : Nat) : nI j + (1000000 : Int32) = nI (j + 1000000) := nI_add j 1000000
theorem lK1000000 (h : 1000000 ≤ j) : nI j - (1000000 : Int32) = nI (j - 1000000) := pk_sub h
theorem lI1000000 (j : Nat) : (1000000 : Int32) * nI j = nI (1000000 * j) := pk_mul 1000000 j
theorem lJ1000000 (j : Nat) : nI j * (1000000 : Int32) = nI (1000000 * j) := (pk_mul j 1000000).trans (by rw [Nat.mul_comm])
theorem lL1000000 (h : j < 2 ^ 31) : nI j / (1000000 : Int32) = nI (j / 1000000) := pk_div h (by decide) (by decide)
end
theorem mE (j : Nat) (h : j < 2 ^ 31) : (mI j = (-1 : Int32)) ↔ j = 0 := mI_eq (b := 0) h (by decide)
theorem mF (j : Nat) (h : j < 2 ^ 31) : (nI j = (-1 : Int32)) ↔ False := iff_false_intro (fun q => by have := (nI_toInt h).symm.trans (congrArg Int32.toInt q); have e : (-1 : Int32).toInt = -1 := (by decide); omega)
theorem nm_le {x y : Nat} (hx : x < 2 ^ 31) (hy : y < 2 ^ 31) : nI x ≤ mI y ↔ x < y := by rw [Int32.le_iff_toInt_le, mI_toInt hy, nI_toInt hx]; omega
theorem nm_lt {x y : Nat} (hx : x < 2 ^ 31) (hy : y < 2 ^ 31) : nI x < mI y ↔ x + 1 < y := by rw [Int32.lt_iff_toInt_lt, mI_toInt hy, nI_toInt hx]; omega
theorem mn_le {x y : Nat} (hx : x < 2 ^ 31) (hy : y < 2 ^ 31) : mI y ≤ nI x ↔ y ≤ x + 1 := by rw [Int32.le_iff_toInt_le, mI_toInt hy, nI_toInt hx]; omega
theorem mn_lt {x y : Nat} (hx : x < 2 ^ 31) (hy : y < 2 ^ 31) : mI y < nI x ↔ y ≤ x := by rw [Int32.lt_iff_toInt_lt, mI_toInt hy, nI_toInt hx]; omega
theorem nm_eq {x y : Nat} (hx : x < 2 ^ 31) (hy : y < 2 ^ 31) : nI x = mI y ↔ y = x + 1 := by rw [← Int32.toInt_inj, mI_toInt hy, nI_toInt hx]; omega
theorem mn_eq {x y : Nat} (hx : x < 2 ^ 31) (hy : y < 2 ^ 31) : mI y = nI x ↔ y = x + 1 := by rw [← Int32.toInt_inj, mI_toInt hy, nI_toInt hx]; omega
theorem ma_Ik (h : pb_HP) (o k : Nat) (v : Int32) (p j : Nat) : pb_I (pb_pI h o k v) p j = if p = o then (if j = k then v else pb_I h o j) else pb_I h p j := by
  rw [ma_I_pI]
  by_cases q : p = o
  · rw [if_pos q, if_pos q, ma_us]
  · rw [if_neg q, if_neg q]
theorem i10 : ((1 : Int32) = 0) ↔ False := iff_false_intro (by decide)
theorem i01 : ((0 : Int32) = 1) ↔ False := iff_false_intro (by decide)

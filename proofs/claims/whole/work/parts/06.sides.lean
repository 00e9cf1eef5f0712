/-! ===== the two sides: their cells; the facts of the tables (printed by program) ===== -/
def cCl : List Nat := [10, 9, 101, 2, 6, 100, 100, 102, 100, 6, 100, 100, 0, 100, 8, 100, 100, 102, 8, 100, 100, 102, 100, 5, 7, 103, 100, 100, 103, 103, 103, 1, 100, 100, 100, 100, 100, 3, 100, 100, 100, 100, 100, 4, 100, 100, 100, 4, 100, 100, 100]
def cC (q : Nat) : Nat := cCl.getD q 999
def lCl : List Nat := [0, 0, 2000, 0, 0, 480, 2880, 120, 6, 0, 480, 2880, 0, 120, 0, 256, 256, 256, 0, 256, 256, 256, 6, 0, 0, 15, 501, 501, 501, 8, 8, 0, 64, 64, 64, 8, 6, 0, 8, 8, 8, 3, 3, 0, 2000, 8, 8, 0, 2000, 8, 8]
def lC (q : Nat) : Nat := lCl.getD q 0
def fCl : List (List Nat) := [[1, 3, 9, 12, 14, 18, 22, 0, 0, 23, 31, 37], [2], [], [4, 7, 8], [5, 6], [], [], [], [], [10, 11], [], [], [13], [], [15, 16, 17], [], [], [], [19, 20, 21], [], [], [], [], [24, 29, 30], [25, 26, 27, 28], [], [], [], [], [], [], [32, 33, 34, 35, 36], [], [], [], [], [], [31, 9, 12, 14, 38, 39, 40, 41, 42], [], [], [], [], [], [44, 45, 46], [], [], [], [48, 49, 50], [], [], []]
def fC (q k : Nat) : Nat := (fCl.getD q []).getD k 0
abbrev S_C : q_S := (51, cC, lC, fC)
theorem tC_0 : S_C.2.1 0 = 10 := rfl
theorem gC_0_0 : S_C.2.2.2 0 0 = 1 := rfl
theorem gC_0_1 : S_C.2.2.2 0 1 = 3 := rfl
theorem gC_0_2 : S_C.2.2.2 0 2 = 9 := rfl
theorem gC_0_3 : S_C.2.2.2 0 3 = 12 := rfl
theorem gC_0_4 : S_C.2.2.2 0 4 = 14 := rfl
theorem gC_0_5 : S_C.2.2.2 0 5 = 18 := rfl
theorem gC_0_6 : S_C.2.2.2 0 6 = 22 := rfl
theorem gC_0_9 : S_C.2.2.2 0 9 = 23 := rfl
theorem gC_0_10 : S_C.2.2.2 0 10 = 31 := rfl
theorem gC_0_11 : S_C.2.2.2 0 11 = 37 := rfl
theorem tC_1 : S_C.2.1 1 = 9 := rfl
theorem gC_1_0 : S_C.2.2.2 1 0 = 2 := rfl
theorem tC_2 : S_C.2.1 2 = 101 := rfl
theorem nC_2 : S_C.2.2.1 2 = 2000 := rfl
theorem tC_3 : S_C.2.1 3 = 2 := rfl
theorem gC_3_0 : S_C.2.2.2 3 0 = 4 := rfl
theorem gC_3_1 : S_C.2.2.2 3 1 = 7 := rfl
theorem gC_3_2 : S_C.2.2.2 3 2 = 8 := rfl
theorem tC_4 : S_C.2.1 4 = 6 := rfl
theorem gC_4_0 : S_C.2.2.2 4 0 = 5 := rfl
theorem gC_4_1 : S_C.2.2.2 4 1 = 6 := rfl
theorem tC_5 : S_C.2.1 5 = 100 := rfl
theorem nC_5 : S_C.2.2.1 5 = 480 := rfl
theorem tC_6 : S_C.2.1 6 = 100 := rfl
theorem nC_6 : S_C.2.2.1 6 = 2880 := rfl
theorem tC_7 : S_C.2.1 7 = 102 := rfl
theorem nC_7 : S_C.2.2.1 7 = 120 := rfl
theorem tC_8 : S_C.2.1 8 = 100 := rfl
theorem nC_8 : S_C.2.2.1 8 = 6 := rfl
theorem tC_9 : S_C.2.1 9 = 6 := rfl
theorem gC_9_0 : S_C.2.2.2 9 0 = 10 := rfl
theorem gC_9_1 : S_C.2.2.2 9 1 = 11 := rfl
theorem tC_10 : S_C.2.1 10 = 100 := rfl
theorem nC_10 : S_C.2.2.1 10 = 480 := rfl
theorem tC_11 : S_C.2.1 11 = 100 := rfl
theorem nC_11 : S_C.2.2.1 11 = 2880 := rfl
theorem tC_12 : S_C.2.1 12 = 0 := rfl
theorem gC_12_0 : S_C.2.2.2 12 0 = 13 := rfl
theorem tC_13 : S_C.2.1 13 = 100 := rfl
theorem nC_13 : S_C.2.2.1 13 = 120 := rfl
theorem tC_14 : S_C.2.1 14 = 8 := rfl
theorem gC_14_0 : S_C.2.2.2 14 0 = 15 := rfl
theorem gC_14_1 : S_C.2.2.2 14 1 = 16 := rfl
theorem gC_14_2 : S_C.2.2.2 14 2 = 17 := rfl
theorem tC_15 : S_C.2.1 15 = 100 := rfl
theorem nC_15 : S_C.2.2.1 15 = 256 := rfl
theorem tC_16 : S_C.2.1 16 = 100 := rfl
theorem nC_16 : S_C.2.2.1 16 = 256 := rfl
theorem tC_17 : S_C.2.1 17 = 102 := rfl
theorem nC_17 : S_C.2.2.1 17 = 256 := rfl
theorem tC_18 : S_C.2.1 18 = 8 := rfl
theorem gC_18_0 : S_C.2.2.2 18 0 = 19 := rfl
theorem gC_18_1 : S_C.2.2.2 18 1 = 20 := rfl
theorem gC_18_2 : S_C.2.2.2 18 2 = 21 := rfl
theorem tC_19 : S_C.2.1 19 = 100 := rfl
theorem nC_19 : S_C.2.2.1 19 = 256 := rfl
theorem tC_20 : S_C.2.1 20 = 100 := rfl
theorem nC_20 : S_C.2.2.1 20 = 256 := rfl
theorem tC_21 : S_C.2.1 21 = 102 := rfl
theorem nC_21 : S_C.2.2.1 21 = 256 := rfl
theorem tC_22 : S_C.2.1 22 = 100 := rfl
theorem nC_22 : S_C.2.2.1 22 = 6 := rfl
theorem tC_23 : S_C.2.1 23 = 5 := rfl
theorem gC_23_0 : S_C.2.2.2 23 0 = 24 := rfl
theorem gC_23_1 : S_C.2.2.2 23 1 = 29 := rfl
theorem gC_23_2 : S_C.2.2.2 23 2 = 30 := rfl
theorem tC_24 : S_C.2.1 24 = 7 := rfl
theorem gC_24_0 : S_C.2.2.2 24 0 = 25 := rfl
theorem gC_24_1 : S_C.2.2.2 24 1 = 26 := rfl
theorem gC_24_2 : S_C.2.2.2 24 2 = 27 := rfl
theorem gC_24_3 : S_C.2.2.2 24 3 = 28 := rfl
theorem tC_25 : S_C.2.1 25 = 103 := rfl
theorem nC_25 : S_C.2.2.1 25 = 15 := rfl
theorem tC_26 : S_C.2.1 26 = 100 := rfl
theorem nC_26 : S_C.2.2.1 26 = 501 := rfl
theorem tC_27 : S_C.2.1 27 = 100 := rfl
theorem nC_27 : S_C.2.2.1 27 = 501 := rfl
theorem tC_28 : S_C.2.1 28 = 103 := rfl
theorem nC_28 : S_C.2.2.1 28 = 501 := rfl
theorem tC_29 : S_C.2.1 29 = 103 := rfl
theorem nC_29 : S_C.2.2.1 29 = 8 := rfl
theorem tC_30 : S_C.2.1 30 = 103 := rfl
theorem nC_30 : S_C.2.2.1 30 = 8 := rfl
theorem tC_31 : S_C.2.1 31 = 1 := rfl
theorem gC_31_0 : S_C.2.2.2 31 0 = 32 := rfl
theorem gC_31_1 : S_C.2.2.2 31 1 = 33 := rfl
theorem gC_31_2 : S_C.2.2.2 31 2 = 34 := rfl
theorem gC_31_3 : S_C.2.2.2 31 3 = 35 := rfl
theorem gC_31_4 : S_C.2.2.2 31 4 = 36 := rfl
theorem tC_32 : S_C.2.1 32 = 100 := rfl
theorem nC_32 : S_C.2.2.1 32 = 64 := rfl
theorem tC_33 : S_C.2.1 33 = 100 := rfl
theorem nC_33 : S_C.2.2.1 33 = 64 := rfl
theorem tC_34 : S_C.2.1 34 = 100 := rfl
theorem nC_34 : S_C.2.2.1 34 = 64 := rfl
theorem tC_35 : S_C.2.1 35 = 100 := rfl
theorem nC_35 : S_C.2.2.1 35 = 8 := rfl
theorem tC_36 : S_C.2.1 36 = 100 := rfl
theorem nC_36 : S_C.2.2.1 36 = 6 := rfl
theorem tC_37 : S_C.2.1 37 = 3 := rfl
theorem gC_37_0 : S_C.2.2.2 37 0 = 31 := rfl
theorem gC_37_1 : S_C.2.2.2 37 1 = 9 := rfl
theorem gC_37_2 : S_C.2.2.2 37 2 = 12 := rfl
theorem gC_37_3 : S_C.2.2.2 37 3 = 14 := rfl
theorem gC_37_4 : S_C.2.2.2 37 4 = 38 := rfl
theorem gC_37_5 : S_C.2.2.2 37 5 = 39 := rfl
theorem gC_37_6 : S_C.2.2.2 37 6 = 40 := rfl
theorem gC_37_7 : S_C.2.2.2 37 7 = 41 := rfl
theorem gC_37_8 : S_C.2.2.2 37 8 = 42 := rfl
theorem tC_38 : S_C.2.1 38 = 100 := rfl
theorem nC_38 : S_C.2.2.1 38 = 8 := rfl
theorem tC_39 : S_C.2.1 39 = 100 := rfl
theorem nC_39 : S_C.2.2.1 39 = 8 := rfl
theorem tC_40 : S_C.2.1 40 = 100 := rfl
theorem nC_40 : S_C.2.2.1 40 = 8 := rfl
theorem tC_41 : S_C.2.1 41 = 100 := rfl
theorem nC_41 : S_C.2.2.1 41 = 3 := rfl
theorem tC_42 : S_C.2.1 42 = 100 := rfl
theorem nC_42 : S_C.2.2.1 42 = 3 := rfl
theorem tC_43 : S_C.2.1 43 = 4 := rfl
theorem gC_43_0 : S_C.2.2.2 43 0 = 44 := rfl
theorem gC_43_1 : S_C.2.2.2 43 1 = 45 := rfl
theorem gC_43_2 : S_C.2.2.2 43 2 = 46 := rfl
theorem tC_44 : S_C.2.1 44 = 100 := rfl
theorem nC_44 : S_C.2.2.1 44 = 2000 := rfl
theorem tC_45 : S_C.2.1 45 = 100 := rfl
theorem nC_45 : S_C.2.2.1 45 = 8 := rfl
theorem tC_46 : S_C.2.1 46 = 100 := rfl
theorem nC_46 : S_C.2.2.1 46 = 8 := rfl
theorem tC_47 : S_C.2.1 47 = 4 := rfl
theorem gC_47_0 : S_C.2.2.2 47 0 = 48 := rfl
theorem gC_47_1 : S_C.2.2.2 47 1 = 49 := rfl
theorem gC_47_2 : S_C.2.2.2 47 2 = 50 := rfl
theorem tC_48 : S_C.2.1 48 = 100 := rfl
theorem nC_48 : S_C.2.2.1 48 = 2000 := rfl
theorem tC_49 : S_C.2.1 49 = 100 := rfl
theorem nC_49 : S_C.2.2.1 49 = 8 := rfl
theorem tC_50 : S_C.2.1 50 = 100 := rfl
theorem nC_50 : S_C.2.2.1 50 = 8 := rfl
theorem cC_lt (q : Nat) (h : cC q < 200) : q < 51 := by
  apply Classical.byContradiction; intro z
  have e : cC q = 999 := by unfold cC; rw [List.getD_eq_getElem?_getD, List.getElem?_eq_none (by show 51 ≤ q; omega)]; rfl
  omega
theorem fxC_6_0 (q : Nat) (h : cC q = 6) : S_C.2.1 (fC q 0) = 100 := by
  have hq := cC_lt q (by omega)
  have z : ∀ q, q < 51 → cC q = 6 → cC (fC q 0) = 100 := by decide
  exact z q hq h
theorem flC_6_0 (q : Nat) (h : cC q = 6) : S_C.2.2.1 (fC q 0) = 480 := by
  have hq := cC_lt q (by omega)
  have z : ∀ q, q < 51 → cC q = 6 → lC (fC q 0) = 480 := by decide
  exact z q hq h
theorem fxC_6_1 (q : Nat) (h : cC q = 6) : S_C.2.1 (fC q 1) = 100 := by
  have hq := cC_lt q (by omega)
  have z : ∀ q, q < 51 → cC q = 6 → cC (fC q 1) = 100 := by decide
  exact z q hq h
theorem flC_6_1 (q : Nat) (h : cC q = 6) : S_C.2.2.1 (fC q 1) = 2880 := by
  have hq := cC_lt q (by omega)
  have z : ∀ q, q < 51 → cC q = 6 → lC (fC q 1) = 2880 := by decide
  exact z q hq h
theorem fxC_8_0 (q : Nat) (h : cC q = 8) : S_C.2.1 (fC q 0) = 100 := by
  have hq := cC_lt q (by omega)
  have z : ∀ q, q < 51 → cC q = 8 → cC (fC q 0) = 100 := by decide
  exact z q hq h
theorem flC_8_0 (q : Nat) (h : cC q = 8) : S_C.2.2.1 (fC q 0) = 256 := by
  have hq := cC_lt q (by omega)
  have z : ∀ q, q < 51 → cC q = 8 → lC (fC q 0) = 256 := by decide
  exact z q hq h
theorem fxC_8_1 (q : Nat) (h : cC q = 8) : S_C.2.1 (fC q 1) = 100 := by
  have hq := cC_lt q (by omega)
  have z : ∀ q, q < 51 → cC q = 8 → cC (fC q 1) = 100 := by decide
  exact z q hq h
theorem flC_8_1 (q : Nat) (h : cC q = 8) : S_C.2.2.1 (fC q 1) = 256 := by
  have hq := cC_lt q (by omega)
  have z : ∀ q, q < 51 → cC q = 8 → lC (fC q 1) = 256 := by decide
  exact z q hq h
theorem fxC_8_2 (q : Nat) (h : cC q = 8) : S_C.2.1 (fC q 2) = 102 := by
  have hq := cC_lt q (by omega)
  have z : ∀ q, q < 51 → cC q = 8 → cC (fC q 2) = 102 := by decide
  exact z q hq h
theorem flC_8_2 (q : Nat) (h : cC q = 8) : S_C.2.2.1 (fC q 2) = 256 := by
  have hq := cC_lt q (by omega)
  have z : ∀ q, q < 51 → cC q = 8 → lC (fC q 2) = 256 := by decide
  exact z q hq h
theorem fxC_4_0 (q : Nat) (h : cC q = 4) : S_C.2.1 (fC q 0) = 100 := by
  have hq := cC_lt q (by omega)
  have z : ∀ q, q < 51 → cC q = 4 → cC (fC q 0) = 100 := by decide
  exact z q hq h
theorem flC_4_0 (q : Nat) (h : cC q = 4) : S_C.2.2.1 (fC q 0) = 2000 := by
  have hq := cC_lt q (by omega)
  have z : ∀ q, q < 51 → cC q = 4 → lC (fC q 0) = 2000 := by decide
  exact z q hq h
theorem fxC_4_1 (q : Nat) (h : cC q = 4) : S_C.2.1 (fC q 1) = 100 := by
  have hq := cC_lt q (by omega)
  have z : ∀ q, q < 51 → cC q = 4 → cC (fC q 1) = 100 := by decide
  exact z q hq h
theorem flC_4_1 (q : Nat) (h : cC q = 4) : S_C.2.2.1 (fC q 1) = 8 := by
  have hq := cC_lt q (by omega)
  have z : ∀ q, q < 51 → cC q = 4 → lC (fC q 1) = 8 := by decide
  exact z q hq h
theorem fxC_4_2 (q : Nat) (h : cC q = 4) : S_C.2.1 (fC q 2) = 100 := by
  have hq := cC_lt q (by omega)
  have z : ∀ q, q < 51 → cC q = 4 → cC (fC q 2) = 100 := by decide
  exact z q hq h
theorem flC_4_2 (q : Nat) (h : cC q = 4) : S_C.2.2.1 (fC q 2) = 8 := by
  have hq := cC_lt q (by omega)
  have z : ∀ q, q < 51 → cC q = 4 → lC (fC q 2) = 8 := by decide
  exact z q hq h
def cRl : List Nat := [11, 101, 101, 100, 100, 100, 103, 103, 100, 103, 100, 100, 100, 100, 100, 103, 100, 100, 100, 100, 100, 100, 100, 100, 100, 100, 100, 100, 100, 100, 100, 100, 100, 102, 100, 100, 100]
def cR (q : Nat) : Nat := cRl.getD q 999
def lRl : List Nat := [0, 2000, 2000, 503, 503, 503, 503, 15, 2, 16, 16, 16, 4000, 4000, 4000, 8, 8, 8, 8, 8, 64, 120, 720, 144, 9, 600, 6, 120, 720, 120, 720, 120, 512, 256, 256, 3, 3]
def lR (q : Nat) : Nat := lRl.getD q 0
def fRl : List (List Nat) := [[0, 1, 0, 2, 0, 3, 4, 5, 6, 7, 0, 0, 0, 0, 0, 0, 0, 0, 0, 0, 8, 9, 10, 11, 0, 12, 13, 14, 0, 15, 0, 16, 17, 18, 19, 0, 0, 20, 0, 0, 0, 0, 21, 22, 0, 23, 24, 25, 0, 26, 0, 27, 28, 0, 0, 0, 0, 29, 30, 31, 0, 0, 0, 32, 0, 0, 33, 34, 0, 0, 0, 35, 36], [], [], [], [], [], [], [], [], [], [], [], [], [], [], [], [], [], [], [], [], [], [], [], [], [], [], [], [], [], [], [], [], [], [], [], []]
def fR (q k : Nat) : Nat := (fRl.getD q []).getD k 0
abbrev S_R : q_S := (37, cR, lR, fR)
theorem tR_0 : S_R.2.1 0 = 11 := rfl
theorem gR_0_1 : S_R.2.2.2 0 1 = 1 := rfl
theorem gR_0_3 : S_R.2.2.2 0 3 = 2 := rfl
theorem gR_0_5 : S_R.2.2.2 0 5 = 3 := rfl
theorem gR_0_6 : S_R.2.2.2 0 6 = 4 := rfl
theorem gR_0_7 : S_R.2.2.2 0 7 = 5 := rfl
theorem gR_0_8 : S_R.2.2.2 0 8 = 6 := rfl
theorem gR_0_9 : S_R.2.2.2 0 9 = 7 := rfl
theorem gR_0_20 : S_R.2.2.2 0 20 = 8 := rfl
theorem gR_0_21 : S_R.2.2.2 0 21 = 9 := rfl
theorem gR_0_22 : S_R.2.2.2 0 22 = 10 := rfl
theorem gR_0_23 : S_R.2.2.2 0 23 = 11 := rfl
theorem gR_0_25 : S_R.2.2.2 0 25 = 12 := rfl
theorem gR_0_26 : S_R.2.2.2 0 26 = 13 := rfl
theorem gR_0_27 : S_R.2.2.2 0 27 = 14 := rfl
theorem gR_0_29 : S_R.2.2.2 0 29 = 15 := rfl
theorem gR_0_31 : S_R.2.2.2 0 31 = 16 := rfl
theorem gR_0_32 : S_R.2.2.2 0 32 = 17 := rfl
theorem gR_0_33 : S_R.2.2.2 0 33 = 18 := rfl
theorem gR_0_34 : S_R.2.2.2 0 34 = 19 := rfl
theorem gR_0_37 : S_R.2.2.2 0 37 = 20 := rfl
theorem gR_0_42 : S_R.2.2.2 0 42 = 21 := rfl
theorem gR_0_43 : S_R.2.2.2 0 43 = 22 := rfl
theorem gR_0_45 : S_R.2.2.2 0 45 = 23 := rfl
theorem gR_0_46 : S_R.2.2.2 0 46 = 24 := rfl
theorem gR_0_47 : S_R.2.2.2 0 47 = 25 := rfl
theorem gR_0_49 : S_R.2.2.2 0 49 = 26 := rfl
theorem gR_0_51 : S_R.2.2.2 0 51 = 27 := rfl
theorem gR_0_52 : S_R.2.2.2 0 52 = 28 := rfl
theorem gR_0_57 : S_R.2.2.2 0 57 = 29 := rfl
theorem gR_0_58 : S_R.2.2.2 0 58 = 30 := rfl
theorem gR_0_59 : S_R.2.2.2 0 59 = 31 := rfl
theorem gR_0_63 : S_R.2.2.2 0 63 = 32 := rfl
theorem gR_0_66 : S_R.2.2.2 0 66 = 33 := rfl
theorem gR_0_67 : S_R.2.2.2 0 67 = 34 := rfl
theorem gR_0_71 : S_R.2.2.2 0 71 = 35 := rfl
theorem gR_0_72 : S_R.2.2.2 0 72 = 36 := rfl
theorem tR_1 : S_R.2.1 1 = 101 := rfl
theorem nR_1 : S_R.2.2.1 1 = 2000 := rfl
theorem tR_2 : S_R.2.1 2 = 101 := rfl
theorem nR_2 : S_R.2.2.1 2 = 2000 := rfl
theorem tR_3 : S_R.2.1 3 = 100 := rfl
theorem nR_3 : S_R.2.2.1 3 = 503 := rfl
theorem tR_4 : S_R.2.1 4 = 100 := rfl
theorem nR_4 : S_R.2.2.1 4 = 503 := rfl
theorem tR_5 : S_R.2.1 5 = 100 := rfl
theorem nR_5 : S_R.2.2.1 5 = 503 := rfl
theorem tR_6 : S_R.2.1 6 = 103 := rfl
theorem nR_6 : S_R.2.2.1 6 = 503 := rfl
theorem tR_7 : S_R.2.1 7 = 103 := rfl
theorem nR_7 : S_R.2.2.1 7 = 15 := rfl
theorem tR_8 : S_R.2.1 8 = 100 := rfl
theorem nR_8 : S_R.2.2.1 8 = 2 := rfl
theorem tR_9 : S_R.2.1 9 = 103 := rfl
theorem nR_9 : S_R.2.2.1 9 = 16 := rfl
theorem tR_10 : S_R.2.1 10 = 100 := rfl
theorem nR_10 : S_R.2.2.1 10 = 16 := rfl
theorem tR_11 : S_R.2.1 11 = 100 := rfl
theorem nR_11 : S_R.2.2.1 11 = 16 := rfl
theorem tR_12 : S_R.2.1 12 = 100 := rfl
theorem nR_12 : S_R.2.2.1 12 = 4000 := rfl
theorem tR_13 : S_R.2.1 13 = 100 := rfl
theorem nR_13 : S_R.2.2.1 13 = 4000 := rfl
theorem tR_14 : S_R.2.1 14 = 100 := rfl
theorem nR_14 : S_R.2.2.1 14 = 4000 := rfl
theorem tR_15 : S_R.2.1 15 = 103 := rfl
theorem nR_15 : S_R.2.2.1 15 = 8 := rfl
theorem tR_16 : S_R.2.1 16 = 100 := rfl
theorem nR_16 : S_R.2.2.1 16 = 8 := rfl
theorem tR_17 : S_R.2.1 17 = 100 := rfl
theorem nR_17 : S_R.2.2.1 17 = 8 := rfl
theorem tR_18 : S_R.2.1 18 = 100 := rfl
theorem nR_18 : S_R.2.2.1 18 = 8 := rfl
theorem tR_19 : S_R.2.1 19 = 100 := rfl
theorem nR_19 : S_R.2.2.1 19 = 8 := rfl
theorem tR_20 : S_R.2.1 20 = 100 := rfl
theorem nR_20 : S_R.2.2.1 20 = 64 := rfl
theorem tR_21 : S_R.2.1 21 = 100 := rfl
theorem nR_21 : S_R.2.2.1 21 = 120 := rfl
theorem tR_22 : S_R.2.1 22 = 100 := rfl
theorem nR_22 : S_R.2.2.1 22 = 720 := rfl
theorem tR_23 : S_R.2.1 23 = 100 := rfl
theorem nR_23 : S_R.2.2.1 23 = 144 := rfl
theorem tR_24 : S_R.2.1 24 = 100 := rfl
theorem nR_24 : S_R.2.2.1 24 = 9 := rfl
theorem tR_25 : S_R.2.1 25 = 100 := rfl
theorem nR_25 : S_R.2.2.1 25 = 600 := rfl
theorem tR_26 : S_R.2.1 26 = 100 := rfl
theorem nR_26 : S_R.2.2.1 26 = 6 := rfl
theorem tR_27 : S_R.2.1 27 = 100 := rfl
theorem nR_27 : S_R.2.2.1 27 = 120 := rfl
theorem tR_28 : S_R.2.1 28 = 100 := rfl
theorem nR_28 : S_R.2.2.1 28 = 720 := rfl
theorem tR_29 : S_R.2.1 29 = 100 := rfl
theorem nR_29 : S_R.2.2.1 29 = 120 := rfl
theorem tR_30 : S_R.2.1 30 = 100 := rfl
theorem nR_30 : S_R.2.2.1 30 = 720 := rfl
theorem tR_31 : S_R.2.1 31 = 100 := rfl
theorem nR_31 : S_R.2.2.1 31 = 120 := rfl
theorem tR_32 : S_R.2.1 32 = 100 := rfl
theorem nR_32 : S_R.2.2.1 32 = 512 := rfl
theorem tR_33 : S_R.2.1 33 = 102 := rfl
theorem nR_33 : S_R.2.2.1 33 = 256 := rfl
theorem tR_34 : S_R.2.1 34 = 100 := rfl
theorem nR_34 : S_R.2.2.1 34 = 256 := rfl
theorem tR_35 : S_R.2.1 35 = 100 := rfl
theorem nR_35 : S_R.2.2.1 35 = 3 := rfl
theorem tR_36 : S_R.2.1 36 = 100 := rfl
theorem nR_36 : S_R.2.2.1 36 = 3 := rfl
theorem cR_lt (q : Nat) (h : cR q < 200) : q < 37 := by
  apply Classical.byContradiction; intro z
  have e : cR q = 999 := by unfold cR; rw [List.getD_eq_getElem?_getD, List.getElem?_eq_none (by show 37 ≤ q; omega)]; rfl
  omega

/-! the cells that the two constructors make, at their codes -/
def SHL : List ShT := [(1, 10, 0), (1, 5, 0), (1, 7, 0), (2, 0, 48), (2, 0, 144), (2, 0, 6), (2, 0, 48), (2, 0, 40), (2, 1, 48), (2, 1, 192), (2, 0, 48), (1, 5, 0), (1, 7, 0), (2, 0, 48), (2, 0, 144), (2, 0, 6), (2, 0, 48), (2, 0, 40), (2, 1, 48), (2, 1, 192), (2, 0, 48), (1, 0, 0), (2, 1, 4), (2, 1, 4), (1, 4, 0), (2, 0, 3), (2, 1, 48), (2, 0, 40), (2, 1, 6), (1, 1, 0), (2, 0, 2), (2, 0, 3), (2, 1, 16), (2, 0, 4), (2, 0, 8), (2, 0, 8), (2, 0, 2), (1, 3, 0), (2, 0, 48), (2, 0, 10), (1, 6, 0), (2, 0, 2), (2, 0, 3), (2, 0, 2), (2, 0, 2), (2, 0, 8), (2, 0, 8), (2, 0, 8), (2, 0, 8), (2, 0, 8), (2, 0, 8), (1, 8, 0), (2, 0, 12), (2, 0, 12), (2, 0, 96), (2, 0, 4096), (1, 2, 0), (2, 4, 4), (2, 0, 4), (2, 0, 378), (2, 0, 256), (2, 1, 24), (1, 7, 0), (2, 0, 48), (2, 0, 144), (2, 0, 6), (2, 0, 48), (1, 7, 0), (2, 0, 48), (2, 0, 144), (2, 0, 6), (2, 0, 48), (1, 7, 0), (2, 0, 48), (2, 0, 144), (2, 0, 6), (2, 0, 48), (1, 7, 0), (2, 0, 48), (2, 0, 144), (2, 0, 6), (2, 0, 48), (2, 5, 6), (2, 0, 9), (2, 0, 3), (1, 9, 0), (2, 1, 256), (1, 7, 0), (2, 0, 48), (2, 0, 144), (2, 0, 6), (2, 0, 48), (1, 9, 0), (2, 1, 256), (1, 7, 0), (2, 0, 48), (2, 0, 144), (2, 0, 6), (2, 0, 48), (1, 9, 0), (2, 1, 256), (1, 7, 0), (2, 0, 48), (2, 0, 144), (2, 0, 6), (2, 0, 48), (1, 9, 0), (2, 1, 256), (1, 7, 0), (2, 0, 48), (2, 0, 144), (2, 0, 6), (2, 0, 48), (1, 9, 0), (2, 1, 256), (1, 7, 0), (2, 0, 48), (2, 0, 144), (2, 0, 6), (2, 0, 48), (1, 9, 0), (2, 1, 256), (1, 7, 0), (2, 0, 48), (2, 0, 144), (2, 0, 6), (2, 0, 48), (1, 11, 0), (2, 0, 2), (2, 0, 96), (2, 0, 288), (2, 0, 8), (2, 0, 4), (2, 3, 256), (2, 0, 48), (2, 0, 48), (2, 0, 12), (2, 0, 12), (2, 0, 12), (2, 3, 12), (2, 0, 9), (2, 0, 48), (2, 0, 3), (2, 0, 2), (2, 0, 3), (2, 0, 2), (2, 0, 24), (2, 0, 24), (2, 0, 24), (2, 0, 24), (2, 0, 24), (2, 0, 200), (2, 0, 200), (2, 0, 200), (2, 0, 256), (2, 0, 6), (2, 0, 6), (2, 1, 1536), (2, 0, 10), (2, 0, 10), (2, 0, 10), (2, 0, 10), (2, 0, 480), (2, 0, 1440), (2, 0, 40), (2, 0, 20), (2, 0, 480), (2, 0, 480), (2, 3, 120), (2, 3, 48), (2, 0, 80), (2, 3, 48), (2, 1, 384), (2, 0, 3), (2, 1, 32), (2, 0, 256), (2, 3, 4), (2, 0, 1024), (2, 0, 8), (2, 0, 3), (2, 0, 3), (2, 0, 10), (2, 0, 4096), (2, 0, 48), (2, 0, 24), (2, 0, 256), (2, 1, 256)]
def RCL : List (List Nat) := [[17, 27, 37, 40, 45, 53, 56, 67, 72, 98, 99, 100, 0, 0, 0, 0], [18, 0, 23, 24, 25, 26, 0], [0, 0, 0, 0, 19, 20, 21, 22], [], [], [], [], [], [], [], [], [28, 0, 33, 34, 35, 36, 0], [0, 0, 0, 0, 29, 30, 31, 32], [], [], [], [], [], [], [], [], [0, 0, 38, 39], [], [], [17, 27, 37, 41, 0, 0, 42, 43, 0, 203, 44, 0, 0, 204, 205], [], [], [], [], [17, 37, 46, 0, 47, 0, 48, 49, 50, 51, 52, 0, 0, 0], [], [], [], [], [], [], [], [54, 0, 55, 0, 0, 0, 0, 0, 0], [], [], [0, 0, 57, 0, 58, 0, 59, 60, 0, 61, 62, 63, 64, 65, 66], [], [], [], [], [], [], [], [], [], [], [0, 0, 68, 69, 70, 71], [], [], [], [], [73, 74, 0, 75, 0, 76, 0, 77], [], [], [], [], [], [0, 0, 0, 0, 79, 80, 81, 82], [], [], [], [], [0, 0, 0, 0, 84, 85, 86, 87], [], [], [], [], [0, 0, 0, 0, 89, 90, 91, 92], [], [], [], [], [0, 0, 0, 0, 94, 95, 96, 97], [], [], [], [], [], [], [], [0, 0, 102, 103], [], [0, 0, 0, 0, 104, 105, 106, 107], [], [], [], [], [0, 0, 109, 110], [], [0, 0, 0, 0, 111, 112, 113, 114], [], [], [], [], [0, 0, 116, 117], [], [0, 0, 0, 0, 118, 119, 120, 121], [], [], [], [], [0, 0, 123, 124], [], [0, 0, 0, 0, 125, 126, 127, 128], [], [], [], [], [0, 0, 130, 131], [], [0, 0, 0, 0, 132, 133, 134, 135], [], [], [], [], [0, 0, 137, 138], [], [0, 0, 0, 0, 139, 140, 141, 142], [], [], [], [], [0, 0, 0, 0, 144, 145, 146, 147, 148, 149, 150, 151, 0, 152, 153, 154, 155, 156, 157, 0, 158, 0, 0, 0, 0, 0, 0, 0, 159, 160, 161, 162, 163, 164, 165, 166, 0, 0, 0, 167, 168, 169, 170, 171, 172, 173, 174, 175, 176, 177, 178, 179, 180, 181, 182, 183, 184, 0, 185, 186, 187, 188, 189, 0, 0, 190, 191, 192, 193, 194, 195, 0, 0, 0, 0, 196, 197, 198, 199, 200, 201, 202], [], [], [], [], [], [], [], [], [], [], [], [], [], [], [], [], [], [], [], [], [], [], [], [], [], [], [], [], [], [], [], [], [], [], [], [], [], [], [], [], [], [], [], [], [], [], [], [], [], [], [], [], [], [], [], [], [], [], []]
/-- the cells of the first class; startAll needs no others -/
def okX0 (w : Wd) : Prop := 143 ≤ w.1 ∧ ∀ a, 16 ≤ a → a < 143 → w.2.1 a = SHL.getD (a - 16) (0, 0, 0) ∧ ∀ i, i < 82 → (a = 40 → i ≠ 9 ∧ i ≠ 13 ∧ i ≠ 14) → w.2.2 a i = (RCL.getD (a - 16) []).getD i 0
/-- .. and the rows that came later -/
def okX (w : Wd) : Prop := okX0 w ∧ 206 ≤ w.1 ∧ w.2.1 203 = (2, 1, 6) ∧ w.2.1 204 = (2, 1, 48) ∧ w.2.1 205 = (2, 1, 6) ∧ w.2.2 40 9 = 203 ∧ w.2.2 40 13 = 204 ∧ w.2.2 40 14 = 205
def okM (w : Wd) : Prop := 203 ≤ w.1 ∧ ∀ a, 143 ≤ a → a < 203 → w.2.1 a = SHL.getD (a - 16) (0, 0, 0) ∧ ∀ i, i < 82 → w.2.2 a i = (RCL.getD (a - 16) []).getD i 0
theorem at0_16 {w : Wd} (hw : okX0 w) : At w 16 (1, 10, 0) := ⟨by decide, Nat.lt_of_lt_of_le (by decide) hw.1, (hw.2 16 (by decide) (by decide)).1⟩
theorem rc0_16_0 {w : Wd} (hw : okX0 w) : w.2.2 16 0 = 17 := (hw.2 16 (by decide) (by decide)).2 0 (by decide) (by decide)
theorem rc0_16_1 {w : Wd} (hw : okX0 w) : w.2.2 16 1 = 27 := (hw.2 16 (by decide) (by decide)).2 1 (by decide) (by decide)
theorem rc0_16_2 {w : Wd} (hw : okX0 w) : w.2.2 16 2 = 37 := (hw.2 16 (by decide) (by decide)).2 2 (by decide) (by decide)
theorem rc0_16_3 {w : Wd} (hw : okX0 w) : w.2.2 16 3 = 40 := (hw.2 16 (by decide) (by decide)).2 3 (by decide) (by decide)
theorem rc0_16_4 {w : Wd} (hw : okX0 w) : w.2.2 16 4 = 45 := (hw.2 16 (by decide) (by decide)).2 4 (by decide) (by decide)
theorem rc0_16_5 {w : Wd} (hw : okX0 w) : w.2.2 16 5 = 53 := (hw.2 16 (by decide) (by decide)).2 5 (by decide) (by decide)
theorem rc0_16_6 {w : Wd} (hw : okX0 w) : w.2.2 16 6 = 56 := (hw.2 16 (by decide) (by decide)).2 6 (by decide) (by decide)
theorem rc0_16_7 {w : Wd} (hw : okX0 w) : w.2.2 16 7 = 67 := (hw.2 16 (by decide) (by decide)).2 7 (by decide) (by decide)
theorem rc0_16_8 {w : Wd} (hw : okX0 w) : w.2.2 16 8 = 72 := (hw.2 16 (by decide) (by decide)).2 8 (by decide) (by decide)
theorem rc0_16_9 {w : Wd} (hw : okX0 w) : w.2.2 16 9 = 98 := (hw.2 16 (by decide) (by decide)).2 9 (by decide) (by decide)
theorem rc0_16_10 {w : Wd} (hw : okX0 w) : w.2.2 16 10 = 99 := (hw.2 16 (by decide) (by decide)).2 10 (by decide) (by decide)
theorem rc0_16_11 {w : Wd} (hw : okX0 w) : w.2.2 16 11 = 100 := (hw.2 16 (by decide) (by decide)).2 11 (by decide) (by decide)
theorem at0_17 {w : Wd} (hw : okX0 w) : At w 17 (1, 5, 0) := ⟨by decide, Nat.lt_of_lt_of_le (by decide) hw.1, (hw.2 17 (by decide) (by decide)).1⟩
theorem rc0_17_0 {w : Wd} (hw : okX0 w) : w.2.2 17 0 = 18 := (hw.2 17 (by decide) (by decide)).2 0 (by decide) (by decide)
theorem rc0_17_2 {w : Wd} (hw : okX0 w) : w.2.2 17 2 = 23 := (hw.2 17 (by decide) (by decide)).2 2 (by decide) (by decide)
theorem rc0_17_3 {w : Wd} (hw : okX0 w) : w.2.2 17 3 = 24 := (hw.2 17 (by decide) (by decide)).2 3 (by decide) (by decide)
theorem rc0_17_4 {w : Wd} (hw : okX0 w) : w.2.2 17 4 = 25 := (hw.2 17 (by decide) (by decide)).2 4 (by decide) (by decide)
theorem rc0_17_5 {w : Wd} (hw : okX0 w) : w.2.2 17 5 = 26 := (hw.2 17 (by decide) (by decide)).2 5 (by decide) (by decide)
theorem at0_18 {w : Wd} (hw : okX0 w) : At w 18 (1, 7, 0) := ⟨by decide, Nat.lt_of_lt_of_le (by decide) hw.1, (hw.2 18 (by decide) (by decide)).1⟩
theorem rc0_18_4 {w : Wd} (hw : okX0 w) : w.2.2 18 4 = 19 := (hw.2 18 (by decide) (by decide)).2 4 (by decide) (by decide)
theorem rc0_18_5 {w : Wd} (hw : okX0 w) : w.2.2 18 5 = 20 := (hw.2 18 (by decide) (by decide)).2 5 (by decide) (by decide)
theorem rc0_18_6 {w : Wd} (hw : okX0 w) : w.2.2 18 6 = 21 := (hw.2 18 (by decide) (by decide)).2 6 (by decide) (by decide)
theorem rc0_18_7 {w : Wd} (hw : okX0 w) : w.2.2 18 7 = 22 := (hw.2 18 (by decide) (by decide)).2 7 (by decide) (by decide)
theorem at0_19 {w : Wd} (hw : okX0 w) : At w 19 (2, 0, 48) := ⟨by decide, Nat.lt_of_lt_of_le (by decide) hw.1, (hw.2 19 (by decide) (by decide)).1⟩
theorem at0_20 {w : Wd} (hw : okX0 w) : At w 20 (2, 0, 144) := ⟨by decide, Nat.lt_of_lt_of_le (by decide) hw.1, (hw.2 20 (by decide) (by decide)).1⟩
theorem at0_21 {w : Wd} (hw : okX0 w) : At w 21 (2, 0, 6) := ⟨by decide, Nat.lt_of_lt_of_le (by decide) hw.1, (hw.2 21 (by decide) (by decide)).1⟩
theorem at0_22 {w : Wd} (hw : okX0 w) : At w 22 (2, 0, 48) := ⟨by decide, Nat.lt_of_lt_of_le (by decide) hw.1, (hw.2 22 (by decide) (by decide)).1⟩
theorem at0_23 {w : Wd} (hw : okX0 w) : At w 23 (2, 0, 40) := ⟨by decide, Nat.lt_of_lt_of_le (by decide) hw.1, (hw.2 23 (by decide) (by decide)).1⟩
theorem at0_24 {w : Wd} (hw : okX0 w) : At w 24 (2, 1, 48) := ⟨by decide, Nat.lt_of_lt_of_le (by decide) hw.1, (hw.2 24 (by decide) (by decide)).1⟩
theorem at0_25 {w : Wd} (hw : okX0 w) : At w 25 (2, 1, 192) := ⟨by decide, Nat.lt_of_lt_of_le (by decide) hw.1, (hw.2 25 (by decide) (by decide)).1⟩
theorem at0_26 {w : Wd} (hw : okX0 w) : At w 26 (2, 0, 48) := ⟨by decide, Nat.lt_of_lt_of_le (by decide) hw.1, (hw.2 26 (by decide) (by decide)).1⟩
theorem at0_27 {w : Wd} (hw : okX0 w) : At w 27 (1, 5, 0) := ⟨by decide, Nat.lt_of_lt_of_le (by decide) hw.1, (hw.2 27 (by decide) (by decide)).1⟩
theorem rc0_27_0 {w : Wd} (hw : okX0 w) : w.2.2 27 0 = 28 := (hw.2 27 (by decide) (by decide)).2 0 (by decide) (by decide)
theorem rc0_27_2 {w : Wd} (hw : okX0 w) : w.2.2 27 2 = 33 := (hw.2 27 (by decide) (by decide)).2 2 (by decide) (by decide)
theorem rc0_27_3 {w : Wd} (hw : okX0 w) : w.2.2 27 3 = 34 := (hw.2 27 (by decide) (by decide)).2 3 (by decide) (by decide)
theorem rc0_27_4 {w : Wd} (hw : okX0 w) : w.2.2 27 4 = 35 := (hw.2 27 (by decide) (by decide)).2 4 (by decide) (by decide)
theorem rc0_27_5 {w : Wd} (hw : okX0 w) : w.2.2 27 5 = 36 := (hw.2 27 (by decide) (by decide)).2 5 (by decide) (by decide)
theorem at0_28 {w : Wd} (hw : okX0 w) : At w 28 (1, 7, 0) := ⟨by decide, Nat.lt_of_lt_of_le (by decide) hw.1, (hw.2 28 (by decide) (by decide)).1⟩
theorem rc0_28_4 {w : Wd} (hw : okX0 w) : w.2.2 28 4 = 29 := (hw.2 28 (by decide) (by decide)).2 4 (by decide) (by decide)
theorem rc0_28_5 {w : Wd} (hw : okX0 w) : w.2.2 28 5 = 30 := (hw.2 28 (by decide) (by decide)).2 5 (by decide) (by decide)
theorem rc0_28_6 {w : Wd} (hw : okX0 w) : w.2.2 28 6 = 31 := (hw.2 28 (by decide) (by decide)).2 6 (by decide) (by decide)
theorem rc0_28_7 {w : Wd} (hw : okX0 w) : w.2.2 28 7 = 32 := (hw.2 28 (by decide) (by decide)).2 7 (by decide) (by decide)
theorem at0_29 {w : Wd} (hw : okX0 w) : At w 29 (2, 0, 48) := ⟨by decide, Nat.lt_of_lt_of_le (by decide) hw.1, (hw.2 29 (by decide) (by decide)).1⟩
theorem at0_30 {w : Wd} (hw : okX0 w) : At w 30 (2, 0, 144) := ⟨by decide, Nat.lt_of_lt_of_le (by decide) hw.1, (hw.2 30 (by decide) (by decide)).1⟩
theorem at0_31 {w : Wd} (hw : okX0 w) : At w 31 (2, 0, 6) := ⟨by decide, Nat.lt_of_lt_of_le (by decide) hw.1, (hw.2 31 (by decide) (by decide)).1⟩
theorem at0_32 {w : Wd} (hw : okX0 w) : At w 32 (2, 0, 48) := ⟨by decide, Nat.lt_of_lt_of_le (by decide) hw.1, (hw.2 32 (by decide) (by decide)).1⟩
theorem at0_33 {w : Wd} (hw : okX0 w) : At w 33 (2, 0, 40) := ⟨by decide, Nat.lt_of_lt_of_le (by decide) hw.1, (hw.2 33 (by decide) (by decide)).1⟩
theorem at0_34 {w : Wd} (hw : okX0 w) : At w 34 (2, 1, 48) := ⟨by decide, Nat.lt_of_lt_of_le (by decide) hw.1, (hw.2 34 (by decide) (by decide)).1⟩
theorem at0_35 {w : Wd} (hw : okX0 w) : At w 35 (2, 1, 192) := ⟨by decide, Nat.lt_of_lt_of_le (by decide) hw.1, (hw.2 35 (by decide) (by decide)).1⟩
theorem at0_36 {w : Wd} (hw : okX0 w) : At w 36 (2, 0, 48) := ⟨by decide, Nat.lt_of_lt_of_le (by decide) hw.1, (hw.2 36 (by decide) (by decide)).1⟩
theorem at0_37 {w : Wd} (hw : okX0 w) : At w 37 (1, 0, 0) := ⟨by decide, Nat.lt_of_lt_of_le (by decide) hw.1, (hw.2 37 (by decide) (by decide)).1⟩
theorem rc0_37_2 {w : Wd} (hw : okX0 w) : w.2.2 37 2 = 38 := (hw.2 37 (by decide) (by decide)).2 2 (by decide) (by decide)
theorem rc0_37_3 {w : Wd} (hw : okX0 w) : w.2.2 37 3 = 39 := (hw.2 37 (by decide) (by decide)).2 3 (by decide) (by decide)
theorem at0_38 {w : Wd} (hw : okX0 w) : At w 38 (2, 1, 4) := ⟨by decide, Nat.lt_of_lt_of_le (by decide) hw.1, (hw.2 38 (by decide) (by decide)).1⟩
theorem at0_39 {w : Wd} (hw : okX0 w) : At w 39 (2, 1, 4) := ⟨by decide, Nat.lt_of_lt_of_le (by decide) hw.1, (hw.2 39 (by decide) (by decide)).1⟩
theorem at0_40 {w : Wd} (hw : okX0 w) : At w 40 (1, 4, 0) := ⟨by decide, Nat.lt_of_lt_of_le (by decide) hw.1, (hw.2 40 (by decide) (by decide)).1⟩
theorem rc0_40_0 {w : Wd} (hw : okX0 w) : w.2.2 40 0 = 17 := (hw.2 40 (by decide) (by decide)).2 0 (by decide) (by decide)
theorem rc0_40_1 {w : Wd} (hw : okX0 w) : w.2.2 40 1 = 27 := (hw.2 40 (by decide) (by decide)).2 1 (by decide) (by decide)
theorem rc0_40_2 {w : Wd} (hw : okX0 w) : w.2.2 40 2 = 37 := (hw.2 40 (by decide) (by decide)).2 2 (by decide) (by decide)
theorem rc0_40_3 {w : Wd} (hw : okX0 w) : w.2.2 40 3 = 41 := (hw.2 40 (by decide) (by decide)).2 3 (by decide) (by decide)
theorem rc0_40_6 {w : Wd} (hw : okX0 w) : w.2.2 40 6 = 42 := (hw.2 40 (by decide) (by decide)).2 6 (by decide) (by decide)
theorem rc0_40_7 {w : Wd} (hw : okX0 w) : w.2.2 40 7 = 43 := (hw.2 40 (by decide) (by decide)).2 7 (by decide) (by decide)
theorem rc0_40_10 {w : Wd} (hw : okX0 w) : w.2.2 40 10 = 44 := (hw.2 40 (by decide) (by decide)).2 10 (by decide) (by decide)
theorem at0_41 {w : Wd} (hw : okX0 w) : At w 41 (2, 0, 3) := ⟨by decide, Nat.lt_of_lt_of_le (by decide) hw.1, (hw.2 41 (by decide) (by decide)).1⟩
theorem at0_42 {w : Wd} (hw : okX0 w) : At w 42 (2, 1, 48) := ⟨by decide, Nat.lt_of_lt_of_le (by decide) hw.1, (hw.2 42 (by decide) (by decide)).1⟩
theorem at0_43 {w : Wd} (hw : okX0 w) : At w 43 (2, 0, 40) := ⟨by decide, Nat.lt_of_lt_of_le (by decide) hw.1, (hw.2 43 (by decide) (by decide)).1⟩
theorem at0_44 {w : Wd} (hw : okX0 w) : At w 44 (2, 1, 6) := ⟨by decide, Nat.lt_of_lt_of_le (by decide) hw.1, (hw.2 44 (by decide) (by decide)).1⟩
theorem at0_45 {w : Wd} (hw : okX0 w) : At w 45 (1, 1, 0) := ⟨by decide, Nat.lt_of_lt_of_le (by decide) hw.1, (hw.2 45 (by decide) (by decide)).1⟩
theorem rc0_45_0 {w : Wd} (hw : okX0 w) : w.2.2 45 0 = 17 := (hw.2 45 (by decide) (by decide)).2 0 (by decide) (by decide)
theorem rc0_45_1 {w : Wd} (hw : okX0 w) : w.2.2 45 1 = 37 := (hw.2 45 (by decide) (by decide)).2 1 (by decide) (by decide)
theorem rc0_45_2 {w : Wd} (hw : okX0 w) : w.2.2 45 2 = 46 := (hw.2 45 (by decide) (by decide)).2 2 (by decide) (by decide)
theorem rc0_45_4 {w : Wd} (hw : okX0 w) : w.2.2 45 4 = 47 := (hw.2 45 (by decide) (by decide)).2 4 (by decide) (by decide)
theorem rc0_45_6 {w : Wd} (hw : okX0 w) : w.2.2 45 6 = 48 := (hw.2 45 (by decide) (by decide)).2 6 (by decide) (by decide)
theorem rc0_45_7 {w : Wd} (hw : okX0 w) : w.2.2 45 7 = 49 := (hw.2 45 (by decide) (by decide)).2 7 (by decide) (by decide)
theorem rc0_45_8 {w : Wd} (hw : okX0 w) : w.2.2 45 8 = 50 := (hw.2 45 (by decide) (by decide)).2 8 (by decide) (by decide)
theorem rc0_45_9 {w : Wd} (hw : okX0 w) : w.2.2 45 9 = 51 := (hw.2 45 (by decide) (by decide)).2 9 (by decide) (by decide)
theorem rc0_45_10 {w : Wd} (hw : okX0 w) : w.2.2 45 10 = 52 := (hw.2 45 (by decide) (by decide)).2 10 (by decide) (by decide)
theorem at0_46 {w : Wd} (hw : okX0 w) : At w 46 (2, 0, 2) := ⟨by decide, Nat.lt_of_lt_of_le (by decide) hw.1, (hw.2 46 (by decide) (by decide)).1⟩
theorem at0_47 {w : Wd} (hw : okX0 w) : At w 47 (2, 0, 3) := ⟨by decide, Nat.lt_of_lt_of_le (by decide) hw.1, (hw.2 47 (by decide) (by decide)).1⟩
theorem at0_48 {w : Wd} (hw : okX0 w) : At w 48 (2, 1, 16) := ⟨by decide, Nat.lt_of_lt_of_le (by decide) hw.1, (hw.2 48 (by decide) (by decide)).1⟩
theorem at0_49 {w : Wd} (hw : okX0 w) : At w 49 (2, 0, 4) := ⟨by decide, Nat.lt_of_lt_of_le (by decide) hw.1, (hw.2 49 (by decide) (by decide)).1⟩
theorem at0_50 {w : Wd} (hw : okX0 w) : At w 50 (2, 0, 8) := ⟨by decide, Nat.lt_of_lt_of_le (by decide) hw.1, (hw.2 50 (by decide) (by decide)).1⟩
theorem at0_51 {w : Wd} (hw : okX0 w) : At w 51 (2, 0, 8) := ⟨by decide, Nat.lt_of_lt_of_le (by decide) hw.1, (hw.2 51 (by decide) (by decide)).1⟩
theorem at0_52 {w : Wd} (hw : okX0 w) : At w 52 (2, 0, 2) := ⟨by decide, Nat.lt_of_lt_of_le (by decide) hw.1, (hw.2 52 (by decide) (by decide)).1⟩
theorem at0_53 {w : Wd} (hw : okX0 w) : At w 53 (1, 3, 0) := ⟨by decide, Nat.lt_of_lt_of_le (by decide) hw.1, (hw.2 53 (by decide) (by decide)).1⟩
theorem rc0_53_0 {w : Wd} (hw : okX0 w) : w.2.2 53 0 = 54 := (hw.2 53 (by decide) (by decide)).2 0 (by decide) (by decide)
theorem rc0_53_2 {w : Wd} (hw : okX0 w) : w.2.2 53 2 = 55 := (hw.2 53 (by decide) (by decide)).2 2 (by decide) (by decide)
theorem at0_54 {w : Wd} (hw : okX0 w) : At w 54 (2, 0, 48) := ⟨by decide, Nat.lt_of_lt_of_le (by decide) hw.1, (hw.2 54 (by decide) (by decide)).1⟩
theorem at0_55 {w : Wd} (hw : okX0 w) : At w 55 (2, 0, 10) := ⟨by decide, Nat.lt_of_lt_of_le (by decide) hw.1, (hw.2 55 (by decide) (by decide)).1⟩
theorem at0_56 {w : Wd} (hw : okX0 w) : At w 56 (1, 6, 0) := ⟨by decide, Nat.lt_of_lt_of_le (by decide) hw.1, (hw.2 56 (by decide) (by decide)).1⟩
theorem rc0_56_2 {w : Wd} (hw : okX0 w) : w.2.2 56 2 = 57 := (hw.2 56 (by decide) (by decide)).2 2 (by decide) (by decide)
theorem rc0_56_4 {w : Wd} (hw : okX0 w) : w.2.2 56 4 = 58 := (hw.2 56 (by decide) (by decide)).2 4 (by decide) (by decide)
theorem rc0_56_6 {w : Wd} (hw : okX0 w) : w.2.2 56 6 = 59 := (hw.2 56 (by decide) (by decide)).2 6 (by decide) (by decide)
theorem rc0_56_7 {w : Wd} (hw : okX0 w) : w.2.2 56 7 = 60 := (hw.2 56 (by decide) (by decide)).2 7 (by decide) (by decide)
theorem rc0_56_9 {w : Wd} (hw : okX0 w) : w.2.2 56 9 = 61 := (hw.2 56 (by decide) (by decide)).2 9 (by decide) (by decide)
theorem rc0_56_10 {w : Wd} (hw : okX0 w) : w.2.2 56 10 = 62 := (hw.2 56 (by decide) (by decide)).2 10 (by decide) (by decide)
theorem rc0_56_11 {w : Wd} (hw : okX0 w) : w.2.2 56 11 = 63 := (hw.2 56 (by decide) (by decide)).2 11 (by decide) (by decide)
theorem rc0_56_12 {w : Wd} (hw : okX0 w) : w.2.2 56 12 = 64 := (hw.2 56 (by decide) (by decide)).2 12 (by decide) (by decide)
theorem rc0_56_13 {w : Wd} (hw : okX0 w) : w.2.2 56 13 = 65 := (hw.2 56 (by decide) (by decide)).2 13 (by decide) (by decide)
theorem rc0_56_14 {w : Wd} (hw : okX0 w) : w.2.2 56 14 = 66 := (hw.2 56 (by decide) (by decide)).2 14 (by decide) (by decide)
theorem at0_57 {w : Wd} (hw : okX0 w) : At w 57 (2, 0, 2) := ⟨by decide, Nat.lt_of_lt_of_le (by decide) hw.1, (hw.2 57 (by decide) (by decide)).1⟩
theorem at0_58 {w : Wd} (hw : okX0 w) : At w 58 (2, 0, 3) := ⟨by decide, Nat.lt_of_lt_of_le (by decide) hw.1, (hw.2 58 (by decide) (by decide)).1⟩
theorem at0_59 {w : Wd} (hw : okX0 w) : At w 59 (2, 0, 2) := ⟨by decide, Nat.lt_of_lt_of_le (by decide) hw.1, (hw.2 59 (by decide) (by decide)).1⟩
theorem at0_60 {w : Wd} (hw : okX0 w) : At w 60 (2, 0, 2) := ⟨by decide, Nat.lt_of_lt_of_le (by decide) hw.1, (hw.2 60 (by decide) (by decide)).1⟩
theorem at0_61 {w : Wd} (hw : okX0 w) : At w 61 (2, 0, 8) := ⟨by decide, Nat.lt_of_lt_of_le (by decide) hw.1, (hw.2 61 (by decide) (by decide)).1⟩
theorem at0_62 {w : Wd} (hw : okX0 w) : At w 62 (2, 0, 8) := ⟨by decide, Nat.lt_of_lt_of_le (by decide) hw.1, (hw.2 62 (by decide) (by decide)).1⟩
theorem at0_63 {w : Wd} (hw : okX0 w) : At w 63 (2, 0, 8) := ⟨by decide, Nat.lt_of_lt_of_le (by decide) hw.1, (hw.2 63 (by decide) (by decide)).1⟩
theorem at0_64 {w : Wd} (hw : okX0 w) : At w 64 (2, 0, 8) := ⟨by decide, Nat.lt_of_lt_of_le (by decide) hw.1, (hw.2 64 (by decide) (by decide)).1⟩
theorem at0_65 {w : Wd} (hw : okX0 w) : At w 65 (2, 0, 8) := ⟨by decide, Nat.lt_of_lt_of_le (by decide) hw.1, (hw.2 65 (by decide) (by decide)).1⟩
theorem at0_66 {w : Wd} (hw : okX0 w) : At w 66 (2, 0, 8) := ⟨by decide, Nat.lt_of_lt_of_le (by decide) hw.1, (hw.2 66 (by decide) (by decide)).1⟩
theorem at0_67 {w : Wd} (hw : okX0 w) : At w 67 (1, 8, 0) := ⟨by decide, Nat.lt_of_lt_of_le (by decide) hw.1, (hw.2 67 (by decide) (by decide)).1⟩
theorem rc0_67_2 {w : Wd} (hw : okX0 w) : w.2.2 67 2 = 68 := (hw.2 67 (by decide) (by decide)).2 2 (by decide) (by decide)
theorem rc0_67_3 {w : Wd} (hw : okX0 w) : w.2.2 67 3 = 69 := (hw.2 67 (by decide) (by decide)).2 3 (by decide) (by decide)
theorem rc0_67_4 {w : Wd} (hw : okX0 w) : w.2.2 67 4 = 70 := (hw.2 67 (by decide) (by decide)).2 4 (by decide) (by decide)
theorem rc0_67_5 {w : Wd} (hw : okX0 w) : w.2.2 67 5 = 71 := (hw.2 67 (by decide) (by decide)).2 5 (by decide) (by decide)
theorem at0_68 {w : Wd} (hw : okX0 w) : At w 68 (2, 0, 12) := ⟨by decide, Nat.lt_of_lt_of_le (by decide) hw.1, (hw.2 68 (by decide) (by decide)).1⟩
theorem at0_69 {w : Wd} (hw : okX0 w) : At w 69 (2, 0, 12) := ⟨by decide, Nat.lt_of_lt_of_le (by decide) hw.1, (hw.2 69 (by decide) (by decide)).1⟩
theorem at0_70 {w : Wd} (hw : okX0 w) : At w 70 (2, 0, 96) := ⟨by decide, Nat.lt_of_lt_of_le (by decide) hw.1, (hw.2 70 (by decide) (by decide)).1⟩
theorem at0_71 {w : Wd} (hw : okX0 w) : At w 71 (2, 0, 4096) := ⟨by decide, Nat.lt_of_lt_of_le (by decide) hw.1, (hw.2 71 (by decide) (by decide)).1⟩
theorem at0_72 {w : Wd} (hw : okX0 w) : At w 72 (1, 2, 0) := ⟨by decide, Nat.lt_of_lt_of_le (by decide) hw.1, (hw.2 72 (by decide) (by decide)).1⟩
theorem rc0_72_0 {w : Wd} (hw : okX0 w) : w.2.2 72 0 = 73 := (hw.2 72 (by decide) (by decide)).2 0 (by decide) (by decide)
theorem rc0_72_1 {w : Wd} (hw : okX0 w) : w.2.2 72 1 = 74 := (hw.2 72 (by decide) (by decide)).2 1 (by decide) (by decide)
theorem rc0_72_3 {w : Wd} (hw : okX0 w) : w.2.2 72 3 = 75 := (hw.2 72 (by decide) (by decide)).2 3 (by decide) (by decide)
theorem rc0_72_5 {w : Wd} (hw : okX0 w) : w.2.2 72 5 = 76 := (hw.2 72 (by decide) (by decide)).2 5 (by decide) (by decide)
theorem rc0_72_7 {w : Wd} (hw : okX0 w) : w.2.2 72 7 = 77 := (hw.2 72 (by decide) (by decide)).2 7 (by decide) (by decide)
theorem at0_73 {w : Wd} (hw : okX0 w) : At w 73 (2, 4, 4) := ⟨by decide, Nat.lt_of_lt_of_le (by decide) hw.1, (hw.2 73 (by decide) (by decide)).1⟩
theorem at0_74 {w : Wd} (hw : okX0 w) : At w 74 (2, 0, 4) := ⟨by decide, Nat.lt_of_lt_of_le (by decide) hw.1, (hw.2 74 (by decide) (by decide)).1⟩
theorem at0_75 {w : Wd} (hw : okX0 w) : At w 75 (2, 0, 378) := ⟨by decide, Nat.lt_of_lt_of_le (by decide) hw.1, (hw.2 75 (by decide) (by decide)).1⟩
theorem at0_76 {w : Wd} (hw : okX0 w) : At w 76 (2, 0, 256) := ⟨by decide, Nat.lt_of_lt_of_le (by decide) hw.1, (hw.2 76 (by decide) (by decide)).1⟩
theorem at0_77 {w : Wd} (hw : okX0 w) : At w 77 (2, 1, 24) := ⟨by decide, Nat.lt_of_lt_of_le (by decide) hw.1, (hw.2 77 (by decide) (by decide)).1⟩
theorem at0_78 {w : Wd} (hw : okX0 w) : At w 78 (1, 7, 0) := ⟨by decide, Nat.lt_of_lt_of_le (by decide) hw.1, (hw.2 78 (by decide) (by decide)).1⟩
theorem rc0_78_4 {w : Wd} (hw : okX0 w) : w.2.2 78 4 = 79 := (hw.2 78 (by decide) (by decide)).2 4 (by decide) (by decide)
theorem rc0_78_5 {w : Wd} (hw : okX0 w) : w.2.2 78 5 = 80 := (hw.2 78 (by decide) (by decide)).2 5 (by decide) (by decide)
theorem rc0_78_6 {w : Wd} (hw : okX0 w) : w.2.2 78 6 = 81 := (hw.2 78 (by decide) (by decide)).2 6 (by decide) (by decide)
theorem rc0_78_7 {w : Wd} (hw : okX0 w) : w.2.2 78 7 = 82 := (hw.2 78 (by decide) (by decide)).2 7 (by decide) (by decide)
theorem at0_79 {w : Wd} (hw : okX0 w) : At w 79 (2, 0, 48) := ⟨by decide, Nat.lt_of_lt_of_le (by decide) hw.1, (hw.2 79 (by decide) (by decide)).1⟩
theorem at0_80 {w : Wd} (hw : okX0 w) : At w 80 (2, 0, 144) := ⟨by decide, Nat.lt_of_lt_of_le (by decide) hw.1, (hw.2 80 (by decide) (by decide)).1⟩
theorem at0_81 {w : Wd} (hw : okX0 w) : At w 81 (2, 0, 6) := ⟨by decide, Nat.lt_of_lt_of_le (by decide) hw.1, (hw.2 81 (by decide) (by decide)).1⟩
theorem at0_82 {w : Wd} (hw : okX0 w) : At w 82 (2, 0, 48) := ⟨by decide, Nat.lt_of_lt_of_le (by decide) hw.1, (hw.2 82 (by decide) (by decide)).1⟩
theorem at0_83 {w : Wd} (hw : okX0 w) : At w 83 (1, 7, 0) := ⟨by decide, Nat.lt_of_lt_of_le (by decide) hw.1, (hw.2 83 (by decide) (by decide)).1⟩
theorem rc0_83_4 {w : Wd} (hw : okX0 w) : w.2.2 83 4 = 84 := (hw.2 83 (by decide) (by decide)).2 4 (by decide) (by decide)
theorem rc0_83_5 {w : Wd} (hw : okX0 w) : w.2.2 83 5 = 85 := (hw.2 83 (by decide) (by decide)).2 5 (by decide) (by decide)
theorem rc0_83_6 {w : Wd} (hw : okX0 w) : w.2.2 83 6 = 86 := (hw.2 83 (by decide) (by decide)).2 6 (by decide) (by decide)
theorem rc0_83_7 {w : Wd} (hw : okX0 w) : w.2.2 83 7 = 87 := (hw.2 83 (by decide) (by decide)).2 7 (by decide) (by decide)
theorem at0_84 {w : Wd} (hw : okX0 w) : At w 84 (2, 0, 48) := ⟨by decide, Nat.lt_of_lt_of_le (by decide) hw.1, (hw.2 84 (by decide) (by decide)).1⟩
theorem at0_85 {w : Wd} (hw : okX0 w) : At w 85 (2, 0, 144) := ⟨by decide, Nat.lt_of_lt_of_le (by decide) hw.1, (hw.2 85 (by decide) (by decide)).1⟩
theorem at0_86 {w : Wd} (hw : okX0 w) : At w 86 (2, 0, 6) := ⟨by decide, Nat.lt_of_lt_of_le (by decide) hw.1, (hw.2 86 (by decide) (by decide)).1⟩
theorem at0_87 {w : Wd} (hw : okX0 w) : At w 87 (2, 0, 48) := ⟨by decide, Nat.lt_of_lt_of_le (by decide) hw.1, (hw.2 87 (by decide) (by decide)).1⟩
theorem at0_88 {w : Wd} (hw : okX0 w) : At w 88 (1, 7, 0) := ⟨by decide, Nat.lt_of_lt_of_le (by decide) hw.1, (hw.2 88 (by decide) (by decide)).1⟩
theorem rc0_88_4 {w : Wd} (hw : okX0 w) : w.2.2 88 4 = 89 := (hw.2 88 (by decide) (by decide)).2 4 (by decide) (by decide)
theorem rc0_88_5 {w : Wd} (hw : okX0 w) : w.2.2 88 5 = 90 := (hw.2 88 (by decide) (by decide)).2 5 (by decide) (by decide)
theorem rc0_88_6 {w : Wd} (hw : okX0 w) : w.2.2 88 6 = 91 := (hw.2 88 (by decide) (by decide)).2 6 (by decide) (by decide)
theorem rc0_88_7 {w : Wd} (hw : okX0 w) : w.2.2 88 7 = 92 := (hw.2 88 (by decide) (by decide)).2 7 (by decide) (by decide)
theorem at0_89 {w : Wd} (hw : okX0 w) : At w 89 (2, 0, 48) := ⟨by decide, Nat.lt_of_lt_of_le (by decide) hw.1, (hw.2 89 (by decide) (by decide)).1⟩
theorem at0_90 {w : Wd} (hw : okX0 w) : At w 90 (2, 0, 144) := ⟨by decide, Nat.lt_of_lt_of_le (by decide) hw.1, (hw.2 90 (by decide) (by decide)).1⟩
theorem at0_91 {w : Wd} (hw : okX0 w) : At w 91 (2, 0, 6) := ⟨by decide, Nat.lt_of_lt_of_le (by decide) hw.1, (hw.2 91 (by decide) (by decide)).1⟩
theorem at0_92 {w : Wd} (hw : okX0 w) : At w 92 (2, 0, 48) := ⟨by decide, Nat.lt_of_lt_of_le (by decide) hw.1, (hw.2 92 (by decide) (by decide)).1⟩
theorem at0_93 {w : Wd} (hw : okX0 w) : At w 93 (1, 7, 0) := ⟨by decide, Nat.lt_of_lt_of_le (by decide) hw.1, (hw.2 93 (by decide) (by decide)).1⟩
theorem rc0_93_4 {w : Wd} (hw : okX0 w) : w.2.2 93 4 = 94 := (hw.2 93 (by decide) (by decide)).2 4 (by decide) (by decide)
theorem rc0_93_5 {w : Wd} (hw : okX0 w) : w.2.2 93 5 = 95 := (hw.2 93 (by decide) (by decide)).2 5 (by decide) (by decide)
theorem rc0_93_6 {w : Wd} (hw : okX0 w) : w.2.2 93 6 = 96 := (hw.2 93 (by decide) (by decide)).2 6 (by decide) (by decide)
theorem rc0_93_7 {w : Wd} (hw : okX0 w) : w.2.2 93 7 = 97 := (hw.2 93 (by decide) (by decide)).2 7 (by decide) (by decide)
theorem at0_94 {w : Wd} (hw : okX0 w) : At w 94 (2, 0, 48) := ⟨by decide, Nat.lt_of_lt_of_le (by decide) hw.1, (hw.2 94 (by decide) (by decide)).1⟩
theorem at0_95 {w : Wd} (hw : okX0 w) : At w 95 (2, 0, 144) := ⟨by decide, Nat.lt_of_lt_of_le (by decide) hw.1, (hw.2 95 (by decide) (by decide)).1⟩
theorem at0_96 {w : Wd} (hw : okX0 w) : At w 96 (2, 0, 6) := ⟨by decide, Nat.lt_of_lt_of_le (by decide) hw.1, (hw.2 96 (by decide) (by decide)).1⟩
theorem at0_97 {w : Wd} (hw : okX0 w) : At w 97 (2, 0, 48) := ⟨by decide, Nat.lt_of_lt_of_le (by decide) hw.1, (hw.2 97 (by decide) (by decide)).1⟩
theorem at0_98 {w : Wd} (hw : okX0 w) : At w 98 (2, 5, 6) := ⟨by decide, Nat.lt_of_lt_of_le (by decide) hw.1, (hw.2 98 (by decide) (by decide)).1⟩
theorem at0_99 {w : Wd} (hw : okX0 w) : At w 99 (2, 0, 9) := ⟨by decide, Nat.lt_of_lt_of_le (by decide) hw.1, (hw.2 99 (by decide) (by decide)).1⟩
theorem at0_100 {w : Wd} (hw : okX0 w) : At w 100 (2, 0, 3) := ⟨by decide, Nat.lt_of_lt_of_le (by decide) hw.1, (hw.2 100 (by decide) (by decide)).1⟩
theorem at0_101 {w : Wd} (hw : okX0 w) : At w 101 (1, 9, 0) := ⟨by decide, Nat.lt_of_lt_of_le (by decide) hw.1, (hw.2 101 (by decide) (by decide)).1⟩
theorem rc0_101_2 {w : Wd} (hw : okX0 w) : w.2.2 101 2 = 102 := (hw.2 101 (by decide) (by decide)).2 2 (by decide) (by decide)
theorem rc0_101_3 {w : Wd} (hw : okX0 w) : w.2.2 101 3 = 103 := (hw.2 101 (by decide) (by decide)).2 3 (by decide) (by decide)
theorem at0_102 {w : Wd} (hw : okX0 w) : At w 102 (2, 1, 256) := ⟨by decide, Nat.lt_of_lt_of_le (by decide) hw.1, (hw.2 102 (by decide) (by decide)).1⟩
theorem at0_103 {w : Wd} (hw : okX0 w) : At w 103 (1, 7, 0) := ⟨by decide, Nat.lt_of_lt_of_le (by decide) hw.1, (hw.2 103 (by decide) (by decide)).1⟩
theorem rc0_103_4 {w : Wd} (hw : okX0 w) : w.2.2 103 4 = 104 := (hw.2 103 (by decide) (by decide)).2 4 (by decide) (by decide)
theorem rc0_103_5 {w : Wd} (hw : okX0 w) : w.2.2 103 5 = 105 := (hw.2 103 (by decide) (by decide)).2 5 (by decide) (by decide)
theorem rc0_103_6 {w : Wd} (hw : okX0 w) : w.2.2 103 6 = 106 := (hw.2 103 (by decide) (by decide)).2 6 (by decide) (by decide)
theorem rc0_103_7 {w : Wd} (hw : okX0 w) : w.2.2 103 7 = 107 := (hw.2 103 (by decide) (by decide)).2 7 (by decide) (by decide)
theorem at0_104 {w : Wd} (hw : okX0 w) : At w 104 (2, 0, 48) := ⟨by decide, Nat.lt_of_lt_of_le (by decide) hw.1, (hw.2 104 (by decide) (by decide)).1⟩
theorem at0_105 {w : Wd} (hw : okX0 w) : At w 105 (2, 0, 144) := ⟨by decide, Nat.lt_of_lt_of_le (by decide) hw.1, (hw.2 105 (by decide) (by decide)).1⟩
theorem at0_106 {w : Wd} (hw : okX0 w) : At w 106 (2, 0, 6) := ⟨by decide, Nat.lt_of_lt_of_le (by decide) hw.1, (hw.2 106 (by decide) (by decide)).1⟩
theorem at0_107 {w : Wd} (hw : okX0 w) : At w 107 (2, 0, 48) := ⟨by decide, Nat.lt_of_lt_of_le (by decide) hw.1, (hw.2 107 (by decide) (by decide)).1⟩
theorem at0_108 {w : Wd} (hw : okX0 w) : At w 108 (1, 9, 0) := ⟨by decide, Nat.lt_of_lt_of_le (by decide) hw.1, (hw.2 108 (by decide) (by decide)).1⟩
theorem rc0_108_2 {w : Wd} (hw : okX0 w) : w.2.2 108 2 = 109 := (hw.2 108 (by decide) (by decide)).2 2 (by decide) (by decide)
theorem rc0_108_3 {w : Wd} (hw : okX0 w) : w.2.2 108 3 = 110 := (hw.2 108 (by decide) (by decide)).2 3 (by decide) (by decide)
theorem at0_109 {w : Wd} (hw : okX0 w) : At w 109 (2, 1, 256) := ⟨by decide, Nat.lt_of_lt_of_le (by decide) hw.1, (hw.2 109 (by decide) (by decide)).1⟩
theorem at0_110 {w : Wd} (hw : okX0 w) : At w 110 (1, 7, 0) := ⟨by decide, Nat.lt_of_lt_of_le (by decide) hw.1, (hw.2 110 (by decide) (by decide)).1⟩
theorem rc0_110_4 {w : Wd} (hw : okX0 w) : w.2.2 110 4 = 111 := (hw.2 110 (by decide) (by decide)).2 4 (by decide) (by decide)
theorem rc0_110_5 {w : Wd} (hw : okX0 w) : w.2.2 110 5 = 112 := (hw.2 110 (by decide) (by decide)).2 5 (by decide) (by decide)
theorem rc0_110_6 {w : Wd} (hw : okX0 w) : w.2.2 110 6 = 113 := (hw.2 110 (by decide) (by decide)).2 6 (by decide) (by decide)
theorem rc0_110_7 {w : Wd} (hw : okX0 w) : w.2.2 110 7 = 114 := (hw.2 110 (by decide) (by decide)).2 7 (by decide) (by decide)
theorem at0_111 {w : Wd} (hw : okX0 w) : At w 111 (2, 0, 48) := ⟨by decide, Nat.lt_of_lt_of_le (by decide) hw.1, (hw.2 111 (by decide) (by decide)).1⟩
theorem at0_112 {w : Wd} (hw : okX0 w) : At w 112 (2, 0, 144) := ⟨by decide, Nat.lt_of_lt_of_le (by decide) hw.1, (hw.2 112 (by decide) (by decide)).1⟩
theorem at0_113 {w : Wd} (hw : okX0 w) : At w 113 (2, 0, 6) := ⟨by decide, Nat.lt_of_lt_of_le (by decide) hw.1, (hw.2 113 (by decide) (by decide)).1⟩
theorem at0_114 {w : Wd} (hw : okX0 w) : At w 114 (2, 0, 48) := ⟨by decide, Nat.lt_of_lt_of_le (by decide) hw.1, (hw.2 114 (by decide) (by decide)).1⟩
theorem at0_115 {w : Wd} (hw : okX0 w) : At w 115 (1, 9, 0) := ⟨by decide, Nat.lt_of_lt_of_le (by decide) hw.1, (hw.2 115 (by decide) (by decide)).1⟩
theorem rc0_115_2 {w : Wd} (hw : okX0 w) : w.2.2 115 2 = 116 := (hw.2 115 (by decide) (by decide)).2 2 (by decide) (by decide)
theorem rc0_115_3 {w : Wd} (hw : okX0 w) : w.2.2 115 3 = 117 := (hw.2 115 (by decide) (by decide)).2 3 (by decide) (by decide)
theorem at0_116 {w : Wd} (hw : okX0 w) : At w 116 (2, 1, 256) := ⟨by decide, Nat.lt_of_lt_of_le (by decide) hw.1, (hw.2 116 (by decide) (by decide)).1⟩
theorem at0_117 {w : Wd} (hw : okX0 w) : At w 117 (1, 7, 0) := ⟨by decide, Nat.lt_of_lt_of_le (by decide) hw.1, (hw.2 117 (by decide) (by decide)).1⟩
theorem rc0_117_4 {w : Wd} (hw : okX0 w) : w.2.2 117 4 = 118 := (hw.2 117 (by decide) (by decide)).2 4 (by decide) (by decide)
theorem rc0_117_5 {w : Wd} (hw : okX0 w) : w.2.2 117 5 = 119 := (hw.2 117 (by decide) (by decide)).2 5 (by decide) (by decide)
theorem rc0_117_6 {w : Wd} (hw : okX0 w) : w.2.2 117 6 = 120 := (hw.2 117 (by decide) (by decide)).2 6 (by decide) (by decide)
theorem rc0_117_7 {w : Wd} (hw : okX0 w) : w.2.2 117 7 = 121 := (hw.2 117 (by decide) (by decide)).2 7 (by decide) (by decide)
theorem at0_118 {w : Wd} (hw : okX0 w) : At w 118 (2, 0, 48) := ⟨by decide, Nat.lt_of_lt_of_le (by decide) hw.1, (hw.2 118 (by decide) (by decide)).1⟩
theorem at0_119 {w : Wd} (hw : okX0 w) : At w 119 (2, 0, 144) := ⟨by decide, Nat.lt_of_lt_of_le (by decide) hw.1, (hw.2 119 (by decide) (by decide)).1⟩
theorem at0_120 {w : Wd} (hw : okX0 w) : At w 120 (2, 0, 6) := ⟨by decide, Nat.lt_of_lt_of_le (by decide) hw.1, (hw.2 120 (by decide) (by decide)).1⟩
theorem at0_121 {w : Wd} (hw : okX0 w) : At w 121 (2, 0, 48) := ⟨by decide, Nat.lt_of_lt_of_le (by decide) hw.1, (hw.2 121 (by decide) (by decide)).1⟩
theorem at0_122 {w : Wd} (hw : okX0 w) : At w 122 (1, 9, 0) := ⟨by decide, Nat.lt_of_lt_of_le (by decide) hw.1, (hw.2 122 (by decide) (by decide)).1⟩
theorem rc0_122_2 {w : Wd} (hw : okX0 w) : w.2.2 122 2 = 123 := (hw.2 122 (by decide) (by decide)).2 2 (by decide) (by decide)
theorem rc0_122_3 {w : Wd} (hw : okX0 w) : w.2.2 122 3 = 124 := (hw.2 122 (by decide) (by decide)).2 3 (by decide) (by decide)
theorem at0_123 {w : Wd} (hw : okX0 w) : At w 123 (2, 1, 256) := ⟨by decide, Nat.lt_of_lt_of_le (by decide) hw.1, (hw.2 123 (by decide) (by decide)).1⟩
theorem at0_124 {w : Wd} (hw : okX0 w) : At w 124 (1, 7, 0) := ⟨by decide, Nat.lt_of_lt_of_le (by decide) hw.1, (hw.2 124 (by decide) (by decide)).1⟩
theorem rc0_124_4 {w : Wd} (hw : okX0 w) : w.2.2 124 4 = 125 := (hw.2 124 (by decide) (by decide)).2 4 (by decide) (by decide)
theorem rc0_124_5 {w : Wd} (hw : okX0 w) : w.2.2 124 5 = 126 := (hw.2 124 (by decide) (by decide)).2 5 (by decide) (by decide)
theorem rc0_124_6 {w : Wd} (hw : okX0 w) : w.2.2 124 6 = 127 := (hw.2 124 (by decide) (by decide)).2 6 (by decide) (by decide)
theorem rc0_124_7 {w : Wd} (hw : okX0 w) : w.2.2 124 7 = 128 := (hw.2 124 (by decide) (by decide)).2 7 (by decide) (by decide)
theorem at0_125 {w : Wd} (hw : okX0 w) : At w 125 (2, 0, 48) := ⟨by decide, Nat.lt_of_lt_of_le (by decide) hw.1, (hw.2 125 (by decide) (by decide)).1⟩
theorem at0_126 {w : Wd} (hw : okX0 w) : At w 126 (2, 0, 144) := ⟨by decide, Nat.lt_of_lt_of_le (by decide) hw.1, (hw.2 126 (by decide) (by decide)).1⟩
theorem at0_127 {w : Wd} (hw : okX0 w) : At w 127 (2, 0, 6) := ⟨by decide, Nat.lt_of_lt_of_le (by decide) hw.1, (hw.2 127 (by decide) (by decide)).1⟩
theorem at0_128 {w : Wd} (hw : okX0 w) : At w 128 (2, 0, 48) := ⟨by decide, Nat.lt_of_lt_of_le (by decide) hw.1, (hw.2 128 (by decide) (by decide)).1⟩
theorem at0_129 {w : Wd} (hw : okX0 w) : At w 129 (1, 9, 0) := ⟨by decide, Nat.lt_of_lt_of_le (by decide) hw.1, (hw.2 129 (by decide) (by decide)).1⟩
theorem rc0_129_2 {w : Wd} (hw : okX0 w) : w.2.2 129 2 = 130 := (hw.2 129 (by decide) (by decide)).2 2 (by decide) (by decide)
theorem rc0_129_3 {w : Wd} (hw : okX0 w) : w.2.2 129 3 = 131 := (hw.2 129 (by decide) (by decide)).2 3 (by decide) (by decide)
theorem at0_130 {w : Wd} (hw : okX0 w) : At w 130 (2, 1, 256) := ⟨by decide, Nat.lt_of_lt_of_le (by decide) hw.1, (hw.2 130 (by decide) (by decide)).1⟩
theorem at0_131 {w : Wd} (hw : okX0 w) : At w 131 (1, 7, 0) := ⟨by decide, Nat.lt_of_lt_of_le (by decide) hw.1, (hw.2 131 (by decide) (by decide)).1⟩
theorem rc0_131_4 {w : Wd} (hw : okX0 w) : w.2.2 131 4 = 132 := (hw.2 131 (by decide) (by decide)).2 4 (by decide) (by decide)
theorem rc0_131_5 {w : Wd} (hw : okX0 w) : w.2.2 131 5 = 133 := (hw.2 131 (by decide) (by decide)).2 5 (by decide) (by decide)
theorem rc0_131_6 {w : Wd} (hw : okX0 w) : w.2.2 131 6 = 134 := (hw.2 131 (by decide) (by decide)).2 6 (by decide) (by decide)
theorem rc0_131_7 {w : Wd} (hw : okX0 w) : w.2.2 131 7 = 135 := (hw.2 131 (by decide) (by decide)).2 7 (by decide) (by decide)
theorem at0_132 {w : Wd} (hw : okX0 w) : At w 132 (2, 0, 48) := ⟨by decide, Nat.lt_of_lt_of_le (by decide) hw.1, (hw.2 132 (by decide) (by decide)).1⟩
theorem at0_133 {w : Wd} (hw : okX0 w) : At w 133 (2, 0, 144) := ⟨by decide, Nat.lt_of_lt_of_le (by decide) hw.1, (hw.2 133 (by decide) (by decide)).1⟩
theorem at0_134 {w : Wd} (hw : okX0 w) : At w 134 (2, 0, 6) := ⟨by decide, Nat.lt_of_lt_of_le (by decide) hw.1, (hw.2 134 (by decide) (by decide)).1⟩
theorem at0_135 {w : Wd} (hw : okX0 w) : At w 135 (2, 0, 48) := ⟨by decide, Nat.lt_of_lt_of_le (by decide) hw.1, (hw.2 135 (by decide) (by decide)).1⟩
theorem at0_136 {w : Wd} (hw : okX0 w) : At w 136 (1, 9, 0) := ⟨by decide, Nat.lt_of_lt_of_le (by decide) hw.1, (hw.2 136 (by decide) (by decide)).1⟩
theorem rc0_136_2 {w : Wd} (hw : okX0 w) : w.2.2 136 2 = 137 := (hw.2 136 (by decide) (by decide)).2 2 (by decide) (by decide)
theorem rc0_136_3 {w : Wd} (hw : okX0 w) : w.2.2 136 3 = 138 := (hw.2 136 (by decide) (by decide)).2 3 (by decide) (by decide)
theorem at0_137 {w : Wd} (hw : okX0 w) : At w 137 (2, 1, 256) := ⟨by decide, Nat.lt_of_lt_of_le (by decide) hw.1, (hw.2 137 (by decide) (by decide)).1⟩
theorem at0_138 {w : Wd} (hw : okX0 w) : At w 138 (1, 7, 0) := ⟨by decide, Nat.lt_of_lt_of_le (by decide) hw.1, (hw.2 138 (by decide) (by decide)).1⟩
theorem rc0_138_4 {w : Wd} (hw : okX0 w) : w.2.2 138 4 = 139 := (hw.2 138 (by decide) (by decide)).2 4 (by decide) (by decide)
theorem rc0_138_5 {w : Wd} (hw : okX0 w) : w.2.2 138 5 = 140 := (hw.2 138 (by decide) (by decide)).2 5 (by decide) (by decide)
theorem rc0_138_6 {w : Wd} (hw : okX0 w) : w.2.2 138 6 = 141 := (hw.2 138 (by decide) (by decide)).2 6 (by decide) (by decide)
theorem rc0_138_7 {w : Wd} (hw : okX0 w) : w.2.2 138 7 = 142 := (hw.2 138 (by decide) (by decide)).2 7 (by decide) (by decide)
theorem at0_139 {w : Wd} (hw : okX0 w) : At w 139 (2, 0, 48) := ⟨by decide, Nat.lt_of_lt_of_le (by decide) hw.1, (hw.2 139 (by decide) (by decide)).1⟩
theorem at0_140 {w : Wd} (hw : okX0 w) : At w 140 (2, 0, 144) := ⟨by decide, Nat.lt_of_lt_of_le (by decide) hw.1, (hw.2 140 (by decide) (by decide)).1⟩
theorem at0_141 {w : Wd} (hw : okX0 w) : At w 141 (2, 0, 6) := ⟨by decide, Nat.lt_of_lt_of_le (by decide) hw.1, (hw.2 141 (by decide) (by decide)).1⟩
theorem at0_142 {w : Wd} (hw : okX0 w) : At w 142 (2, 0, 48) := ⟨by decide, Nat.lt_of_lt_of_le (by decide) hw.1, (hw.2 142 (by decide) (by decide)).1⟩
theorem at_16 {w : Wd} (hw : okX w) : At w 16 (1, 10, 0) := at0_16 hw.1
theorem rc_16_0 {w : Wd} (hw : okX w) : w.2.2 16 0 = 17 := rc0_16_0 hw.1
theorem rc_16_1 {w : Wd} (hw : okX w) : w.2.2 16 1 = 27 := rc0_16_1 hw.1
theorem rc_16_2 {w : Wd} (hw : okX w) : w.2.2 16 2 = 37 := rc0_16_2 hw.1
theorem rc_16_3 {w : Wd} (hw : okX w) : w.2.2 16 3 = 40 := rc0_16_3 hw.1
theorem rc_16_4 {w : Wd} (hw : okX w) : w.2.2 16 4 = 45 := rc0_16_4 hw.1
theorem rc_16_5 {w : Wd} (hw : okX w) : w.2.2 16 5 = 53 := rc0_16_5 hw.1
theorem rc_16_6 {w : Wd} (hw : okX w) : w.2.2 16 6 = 56 := rc0_16_6 hw.1
theorem rc_16_7 {w : Wd} (hw : okX w) : w.2.2 16 7 = 67 := rc0_16_7 hw.1
theorem rc_16_8 {w : Wd} (hw : okX w) : w.2.2 16 8 = 72 := rc0_16_8 hw.1
theorem rc_16_9 {w : Wd} (hw : okX w) : w.2.2 16 9 = 98 := rc0_16_9 hw.1
theorem rc_16_10 {w : Wd} (hw : okX w) : w.2.2 16 10 = 99 := rc0_16_10 hw.1
theorem rc_16_11 {w : Wd} (hw : okX w) : w.2.2 16 11 = 100 := rc0_16_11 hw.1
theorem at_17 {w : Wd} (hw : okX w) : At w 17 (1, 5, 0) := at0_17 hw.1
theorem rc_17_0 {w : Wd} (hw : okX w) : w.2.2 17 0 = 18 := rc0_17_0 hw.1
theorem rc_17_2 {w : Wd} (hw : okX w) : w.2.2 17 2 = 23 := rc0_17_2 hw.1
theorem rc_17_3 {w : Wd} (hw : okX w) : w.2.2 17 3 = 24 := rc0_17_3 hw.1
theorem rc_17_4 {w : Wd} (hw : okX w) : w.2.2 17 4 = 25 := rc0_17_4 hw.1
theorem rc_17_5 {w : Wd} (hw : okX w) : w.2.2 17 5 = 26 := rc0_17_5 hw.1
theorem at_18 {w : Wd} (hw : okX w) : At w 18 (1, 7, 0) := at0_18 hw.1
theorem rc_18_4 {w : Wd} (hw : okX w) : w.2.2 18 4 = 19 := rc0_18_4 hw.1
theorem rc_18_5 {w : Wd} (hw : okX w) : w.2.2 18 5 = 20 := rc0_18_5 hw.1
theorem rc_18_6 {w : Wd} (hw : okX w) : w.2.2 18 6 = 21 := rc0_18_6 hw.1
theorem rc_18_7 {w : Wd} (hw : okX w) : w.2.2 18 7 = 22 := rc0_18_7 hw.1
theorem at_19 {w : Wd} (hw : okX w) : At w 19 (2, 0, 48) := at0_19 hw.1
theorem at_20 {w : Wd} (hw : okX w) : At w 20 (2, 0, 144) := at0_20 hw.1
theorem at_21 {w : Wd} (hw : okX w) : At w 21 (2, 0, 6) := at0_21 hw.1
theorem at_22 {w : Wd} (hw : okX w) : At w 22 (2, 0, 48) := at0_22 hw.1
theorem at_23 {w : Wd} (hw : okX w) : At w 23 (2, 0, 40) := at0_23 hw.1
theorem at_24 {w : Wd} (hw : okX w) : At w 24 (2, 1, 48) := at0_24 hw.1
theorem at_25 {w : Wd} (hw : okX w) : At w 25 (2, 1, 192) := at0_25 hw.1
theorem at_26 {w : Wd} (hw : okX w) : At w 26 (2, 0, 48) := at0_26 hw.1
theorem at_27 {w : Wd} (hw : okX w) : At w 27 (1, 5, 0) := at0_27 hw.1
theorem rc_27_0 {w : Wd} (hw : okX w) : w.2.2 27 0 = 28 := rc0_27_0 hw.1
theorem rc_27_2 {w : Wd} (hw : okX w) : w.2.2 27 2 = 33 := rc0_27_2 hw.1
theorem rc_27_3 {w : Wd} (hw : okX w) : w.2.2 27 3 = 34 := rc0_27_3 hw.1
theorem rc_27_4 {w : Wd} (hw : okX w) : w.2.2 27 4 = 35 := rc0_27_4 hw.1
theorem rc_27_5 {w : Wd} (hw : okX w) : w.2.2 27 5 = 36 := rc0_27_5 hw.1
theorem at_28 {w : Wd} (hw : okX w) : At w 28 (1, 7, 0) := at0_28 hw.1
theorem rc_28_4 {w : Wd} (hw : okX w) : w.2.2 28 4 = 29 := rc0_28_4 hw.1
theorem rc_28_5 {w : Wd} (hw : okX w) : w.2.2 28 5 = 30 := rc0_28_5 hw.1
theorem rc_28_6 {w : Wd} (hw : okX w) : w.2.2 28 6 = 31 := rc0_28_6 hw.1
theorem rc_28_7 {w : Wd} (hw : okX w) : w.2.2 28 7 = 32 := rc0_28_7 hw.1
theorem at_29 {w : Wd} (hw : okX w) : At w 29 (2, 0, 48) := at0_29 hw.1
theorem at_30 {w : Wd} (hw : okX w) : At w 30 (2, 0, 144) := at0_30 hw.1
theorem at_31 {w : Wd} (hw : okX w) : At w 31 (2, 0, 6) := at0_31 hw.1
theorem at_32 {w : Wd} (hw : okX w) : At w 32 (2, 0, 48) := at0_32 hw.1
theorem at_33 {w : Wd} (hw : okX w) : At w 33 (2, 0, 40) := at0_33 hw.1
theorem at_34 {w : Wd} (hw : okX w) : At w 34 (2, 1, 48) := at0_34 hw.1
theorem at_35 {w : Wd} (hw : okX w) : At w 35 (2, 1, 192) := at0_35 hw.1
theorem at_36 {w : Wd} (hw : okX w) : At w 36 (2, 0, 48) := at0_36 hw.1
theorem at_37 {w : Wd} (hw : okX w) : At w 37 (1, 0, 0) := at0_37 hw.1
theorem rc_37_2 {w : Wd} (hw : okX w) : w.2.2 37 2 = 38 := rc0_37_2 hw.1
theorem rc_37_3 {w : Wd} (hw : okX w) : w.2.2 37 3 = 39 := rc0_37_3 hw.1
theorem at_38 {w : Wd} (hw : okX w) : At w 38 (2, 1, 4) := at0_38 hw.1
theorem at_39 {w : Wd} (hw : okX w) : At w 39 (2, 1, 4) := at0_39 hw.1
theorem at_40 {w : Wd} (hw : okX w) : At w 40 (1, 4, 0) := at0_40 hw.1
theorem rc_40_0 {w : Wd} (hw : okX w) : w.2.2 40 0 = 17 := rc0_40_0 hw.1
theorem rc_40_1 {w : Wd} (hw : okX w) : w.2.2 40 1 = 27 := rc0_40_1 hw.1
theorem rc_40_2 {w : Wd} (hw : okX w) : w.2.2 40 2 = 37 := rc0_40_2 hw.1
theorem rc_40_3 {w : Wd} (hw : okX w) : w.2.2 40 3 = 41 := rc0_40_3 hw.1
theorem rc_40_6 {w : Wd} (hw : okX w) : w.2.2 40 6 = 42 := rc0_40_6 hw.1
theorem rc_40_7 {w : Wd} (hw : okX w) : w.2.2 40 7 = 43 := rc0_40_7 hw.1
theorem rc_40_9 {w : Wd} (hw : okX w) : w.2.2 40 9 = 203 := hw.2.2.2.2.2.1
theorem rc_40_10 {w : Wd} (hw : okX w) : w.2.2 40 10 = 44 := rc0_40_10 hw.1
theorem rc_40_13 {w : Wd} (hw : okX w) : w.2.2 40 13 = 204 := hw.2.2.2.2.2.2.1
theorem rc_40_14 {w : Wd} (hw : okX w) : w.2.2 40 14 = 205 := hw.2.2.2.2.2.2.2
theorem at_41 {w : Wd} (hw : okX w) : At w 41 (2, 0, 3) := at0_41 hw.1
theorem at_42 {w : Wd} (hw : okX w) : At w 42 (2, 1, 48) := at0_42 hw.1
theorem at_43 {w : Wd} (hw : okX w) : At w 43 (2, 0, 40) := at0_43 hw.1
theorem at_44 {w : Wd} (hw : okX w) : At w 44 (2, 1, 6) := at0_44 hw.1
theorem at_45 {w : Wd} (hw : okX w) : At w 45 (1, 1, 0) := at0_45 hw.1
theorem rc_45_0 {w : Wd} (hw : okX w) : w.2.2 45 0 = 17 := rc0_45_0 hw.1
theorem rc_45_1 {w : Wd} (hw : okX w) : w.2.2 45 1 = 37 := rc0_45_1 hw.1
theorem rc_45_2 {w : Wd} (hw : okX w) : w.2.2 45 2 = 46 := rc0_45_2 hw.1
theorem rc_45_4 {w : Wd} (hw : okX w) : w.2.2 45 4 = 47 := rc0_45_4 hw.1
theorem rc_45_6 {w : Wd} (hw : okX w) : w.2.2 45 6 = 48 := rc0_45_6 hw.1
theorem rc_45_7 {w : Wd} (hw : okX w) : w.2.2 45 7 = 49 := rc0_45_7 hw.1
theorem rc_45_8 {w : Wd} (hw : okX w) : w.2.2 45 8 = 50 := rc0_45_8 hw.1
theorem rc_45_9 {w : Wd} (hw : okX w) : w.2.2 45 9 = 51 := rc0_45_9 hw.1
theorem rc_45_10 {w : Wd} (hw : okX w) : w.2.2 45 10 = 52 := rc0_45_10 hw.1
theorem at_46 {w : Wd} (hw : okX w) : At w 46 (2, 0, 2) := at0_46 hw.1
theorem at_47 {w : Wd} (hw : okX w) : At w 47 (2, 0, 3) := at0_47 hw.1
theorem at_48 {w : Wd} (hw : okX w) : At w 48 (2, 1, 16) := at0_48 hw.1
theorem at_49 {w : Wd} (hw : okX w) : At w 49 (2, 0, 4) := at0_49 hw.1
theorem at_50 {w : Wd} (hw : okX w) : At w 50 (2, 0, 8) := at0_50 hw.1
theorem at_51 {w : Wd} (hw : okX w) : At w 51 (2, 0, 8) := at0_51 hw.1
theorem at_52 {w : Wd} (hw : okX w) : At w 52 (2, 0, 2) := at0_52 hw.1
theorem at_53 {w : Wd} (hw : okX w) : At w 53 (1, 3, 0) := at0_53 hw.1
theorem rc_53_0 {w : Wd} (hw : okX w) : w.2.2 53 0 = 54 := rc0_53_0 hw.1
theorem rc_53_2 {w : Wd} (hw : okX w) : w.2.2 53 2 = 55 := rc0_53_2 hw.1
theorem at_54 {w : Wd} (hw : okX w) : At w 54 (2, 0, 48) := at0_54 hw.1
theorem at_55 {w : Wd} (hw : okX w) : At w 55 (2, 0, 10) := at0_55 hw.1
theorem at_56 {w : Wd} (hw : okX w) : At w 56 (1, 6, 0) := at0_56 hw.1
theorem rc_56_2 {w : Wd} (hw : okX w) : w.2.2 56 2 = 57 := rc0_56_2 hw.1
theorem rc_56_4 {w : Wd} (hw : okX w) : w.2.2 56 4 = 58 := rc0_56_4 hw.1
theorem rc_56_6 {w : Wd} (hw : okX w) : w.2.2 56 6 = 59 := rc0_56_6 hw.1
theorem rc_56_7 {w : Wd} (hw : okX w) : w.2.2 56 7 = 60 := rc0_56_7 hw.1
theorem rc_56_9 {w : Wd} (hw : okX w) : w.2.2 56 9 = 61 := rc0_56_9 hw.1
theorem rc_56_10 {w : Wd} (hw : okX w) : w.2.2 56 10 = 62 := rc0_56_10 hw.1
theorem rc_56_11 {w : Wd} (hw : okX w) : w.2.2 56 11 = 63 := rc0_56_11 hw.1
theorem rc_56_12 {w : Wd} (hw : okX w) : w.2.2 56 12 = 64 := rc0_56_12 hw.1
theorem rc_56_13 {w : Wd} (hw : okX w) : w.2.2 56 13 = 65 := rc0_56_13 hw.1
theorem rc_56_14 {w : Wd} (hw : okX w) : w.2.2 56 14 = 66 := rc0_56_14 hw.1
theorem at_57 {w : Wd} (hw : okX w) : At w 57 (2, 0, 2) := at0_57 hw.1
theorem at_58 {w : Wd} (hw : okX w) : At w 58 (2, 0, 3) := at0_58 hw.1
theorem at_59 {w : Wd} (hw : okX w) : At w 59 (2, 0, 2) := at0_59 hw.1
theorem at_60 {w : Wd} (hw : okX w) : At w 60 (2, 0, 2) := at0_60 hw.1
theorem at_61 {w : Wd} (hw : okX w) : At w 61 (2, 0, 8) := at0_61 hw.1
theorem at_62 {w : Wd} (hw : okX w) : At w 62 (2, 0, 8) := at0_62 hw.1
theorem at_63 {w : Wd} (hw : okX w) : At w 63 (2, 0, 8) := at0_63 hw.1
theorem at_64 {w : Wd} (hw : okX w) : At w 64 (2, 0, 8) := at0_64 hw.1
theorem at_65 {w : Wd} (hw : okX w) : At w 65 (2, 0, 8) := at0_65 hw.1
theorem at_66 {w : Wd} (hw : okX w) : At w 66 (2, 0, 8) := at0_66 hw.1
theorem at_67 {w : Wd} (hw : okX w) : At w 67 (1, 8, 0) := at0_67 hw.1
theorem rc_67_2 {w : Wd} (hw : okX w) : w.2.2 67 2 = 68 := rc0_67_2 hw.1
theorem rc_67_3 {w : Wd} (hw : okX w) : w.2.2 67 3 = 69 := rc0_67_3 hw.1
theorem rc_67_4 {w : Wd} (hw : okX w) : w.2.2 67 4 = 70 := rc0_67_4 hw.1
theorem rc_67_5 {w : Wd} (hw : okX w) : w.2.2 67 5 = 71 := rc0_67_5 hw.1
theorem at_68 {w : Wd} (hw : okX w) : At w 68 (2, 0, 12) := at0_68 hw.1
theorem at_69 {w : Wd} (hw : okX w) : At w 69 (2, 0, 12) := at0_69 hw.1
theorem at_70 {w : Wd} (hw : okX w) : At w 70 (2, 0, 96) := at0_70 hw.1
theorem at_71 {w : Wd} (hw : okX w) : At w 71 (2, 0, 4096) := at0_71 hw.1
theorem at_72 {w : Wd} (hw : okX w) : At w 72 (1, 2, 0) := at0_72 hw.1
theorem rc_72_0 {w : Wd} (hw : okX w) : w.2.2 72 0 = 73 := rc0_72_0 hw.1
theorem rc_72_1 {w : Wd} (hw : okX w) : w.2.2 72 1 = 74 := rc0_72_1 hw.1
theorem rc_72_3 {w : Wd} (hw : okX w) : w.2.2 72 3 = 75 := rc0_72_3 hw.1
theorem rc_72_5 {w : Wd} (hw : okX w) : w.2.2 72 5 = 76 := rc0_72_5 hw.1
theorem rc_72_7 {w : Wd} (hw : okX w) : w.2.2 72 7 = 77 := rc0_72_7 hw.1
theorem at_73 {w : Wd} (hw : okX w) : At w 73 (2, 4, 4) := at0_73 hw.1
theorem at_74 {w : Wd} (hw : okX w) : At w 74 (2, 0, 4) := at0_74 hw.1
theorem at_75 {w : Wd} (hw : okX w) : At w 75 (2, 0, 378) := at0_75 hw.1
theorem at_76 {w : Wd} (hw : okX w) : At w 76 (2, 0, 256) := at0_76 hw.1
theorem at_77 {w : Wd} (hw : okX w) : At w 77 (2, 1, 24) := at0_77 hw.1
theorem at_78 {w : Wd} (hw : okX w) : At w 78 (1, 7, 0) := at0_78 hw.1
theorem rc_78_4 {w : Wd} (hw : okX w) : w.2.2 78 4 = 79 := rc0_78_4 hw.1
theorem rc_78_5 {w : Wd} (hw : okX w) : w.2.2 78 5 = 80 := rc0_78_5 hw.1
theorem rc_78_6 {w : Wd} (hw : okX w) : w.2.2 78 6 = 81 := rc0_78_6 hw.1
theorem rc_78_7 {w : Wd} (hw : okX w) : w.2.2 78 7 = 82 := rc0_78_7 hw.1
theorem at_79 {w : Wd} (hw : okX w) : At w 79 (2, 0, 48) := at0_79 hw.1
theorem at_80 {w : Wd} (hw : okX w) : At w 80 (2, 0, 144) := at0_80 hw.1
theorem at_81 {w : Wd} (hw : okX w) : At w 81 (2, 0, 6) := at0_81 hw.1
theorem at_82 {w : Wd} (hw : okX w) : At w 82 (2, 0, 48) := at0_82 hw.1
theorem at_83 {w : Wd} (hw : okX w) : At w 83 (1, 7, 0) := at0_83 hw.1
theorem rc_83_4 {w : Wd} (hw : okX w) : w.2.2 83 4 = 84 := rc0_83_4 hw.1
theorem rc_83_5 {w : Wd} (hw : okX w) : w.2.2 83 5 = 85 := rc0_83_5 hw.1
theorem rc_83_6 {w : Wd} (hw : okX w) : w.2.2 83 6 = 86 := rc0_83_6 hw.1
theorem rc_83_7 {w : Wd} (hw : okX w) : w.2.2 83 7 = 87 := rc0_83_7 hw.1
theorem at_84 {w : Wd} (hw : okX w) : At w 84 (2, 0, 48) := at0_84 hw.1
theorem at_85 {w : Wd} (hw : okX w) : At w 85 (2, 0, 144) := at0_85 hw.1
theorem at_86 {w : Wd} (hw : okX w) : At w 86 (2, 0, 6) := at0_86 hw.1
theorem at_87 {w : Wd} (hw : okX w) : At w 87 (2, 0, 48) := at0_87 hw.1
theorem at_88 {w : Wd} (hw : okX w) : At w 88 (1, 7, 0) := at0_88 hw.1
theorem rc_88_4 {w : Wd} (hw : okX w) : w.2.2 88 4 = 89 := rc0_88_4 hw.1
theorem rc_88_5 {w : Wd} (hw : okX w) : w.2.2 88 5 = 90 := rc0_88_5 hw.1
theorem rc_88_6 {w : Wd} (hw : okX w) : w.2.2 88 6 = 91 := rc0_88_6 hw.1
theorem rc_88_7 {w : Wd} (hw : okX w) : w.2.2 88 7 = 92 := rc0_88_7 hw.1
theorem at_89 {w : Wd} (hw : okX w) : At w 89 (2, 0, 48) := at0_89 hw.1
theorem at_90 {w : Wd} (hw : okX w) : At w 90 (2, 0, 144) := at0_90 hw.1
theorem at_91 {w : Wd} (hw : okX w) : At w 91 (2, 0, 6) := at0_91 hw.1
theorem at_92 {w : Wd} (hw : okX w) : At w 92 (2, 0, 48) := at0_92 hw.1
theorem at_93 {w : Wd} (hw : okX w) : At w 93 (1, 7, 0) := at0_93 hw.1
theorem rc_93_4 {w : Wd} (hw : okX w) : w.2.2 93 4 = 94 := rc0_93_4 hw.1
theorem rc_93_5 {w : Wd} (hw : okX w) : w.2.2 93 5 = 95 := rc0_93_5 hw.1
theorem rc_93_6 {w : Wd} (hw : okX w) : w.2.2 93 6 = 96 := rc0_93_6 hw.1
theorem rc_93_7 {w : Wd} (hw : okX w) : w.2.2 93 7 = 97 := rc0_93_7 hw.1
theorem at_94 {w : Wd} (hw : okX w) : At w 94 (2, 0, 48) := at0_94 hw.1
theorem at_95 {w : Wd} (hw : okX w) : At w 95 (2, 0, 144) := at0_95 hw.1
theorem at_96 {w : Wd} (hw : okX w) : At w 96 (2, 0, 6) := at0_96 hw.1
theorem at_97 {w : Wd} (hw : okX w) : At w 97 (2, 0, 48) := at0_97 hw.1
theorem at_98 {w : Wd} (hw : okX w) : At w 98 (2, 5, 6) := at0_98 hw.1
theorem at_99 {w : Wd} (hw : okX w) : At w 99 (2, 0, 9) := at0_99 hw.1
theorem at_100 {w : Wd} (hw : okX w) : At w 100 (2, 0, 3) := at0_100 hw.1
theorem at_101 {w : Wd} (hw : okX w) : At w 101 (1, 9, 0) := at0_101 hw.1
theorem rc_101_2 {w : Wd} (hw : okX w) : w.2.2 101 2 = 102 := rc0_101_2 hw.1
theorem rc_101_3 {w : Wd} (hw : okX w) : w.2.2 101 3 = 103 := rc0_101_3 hw.1
theorem at_102 {w : Wd} (hw : okX w) : At w 102 (2, 1, 256) := at0_102 hw.1
theorem at_103 {w : Wd} (hw : okX w) : At w 103 (1, 7, 0) := at0_103 hw.1
theorem rc_103_4 {w : Wd} (hw : okX w) : w.2.2 103 4 = 104 := rc0_103_4 hw.1
theorem rc_103_5 {w : Wd} (hw : okX w) : w.2.2 103 5 = 105 := rc0_103_5 hw.1
theorem rc_103_6 {w : Wd} (hw : okX w) : w.2.2 103 6 = 106 := rc0_103_6 hw.1
theorem rc_103_7 {w : Wd} (hw : okX w) : w.2.2 103 7 = 107 := rc0_103_7 hw.1
theorem at_104 {w : Wd} (hw : okX w) : At w 104 (2, 0, 48) := at0_104 hw.1
theorem at_105 {w : Wd} (hw : okX w) : At w 105 (2, 0, 144) := at0_105 hw.1
theorem at_106 {w : Wd} (hw : okX w) : At w 106 (2, 0, 6) := at0_106 hw.1
theorem at_107 {w : Wd} (hw : okX w) : At w 107 (2, 0, 48) := at0_107 hw.1
theorem at_108 {w : Wd} (hw : okX w) : At w 108 (1, 9, 0) := at0_108 hw.1
theorem rc_108_2 {w : Wd} (hw : okX w) : w.2.2 108 2 = 109 := rc0_108_2 hw.1
theorem rc_108_3 {w : Wd} (hw : okX w) : w.2.2 108 3 = 110 := rc0_108_3 hw.1
theorem at_109 {w : Wd} (hw : okX w) : At w 109 (2, 1, 256) := at0_109 hw.1
theorem at_110 {w : Wd} (hw : okX w) : At w 110 (1, 7, 0) := at0_110 hw.1
theorem rc_110_4 {w : Wd} (hw : okX w) : w.2.2 110 4 = 111 := rc0_110_4 hw.1
theorem rc_110_5 {w : Wd} (hw : okX w) : w.2.2 110 5 = 112 := rc0_110_5 hw.1
theorem rc_110_6 {w : Wd} (hw : okX w) : w.2.2 110 6 = 113 := rc0_110_6 hw.1
theorem rc_110_7 {w : Wd} (hw : okX w) : w.2.2 110 7 = 114 := rc0_110_7 hw.1
theorem at_111 {w : Wd} (hw : okX w) : At w 111 (2, 0, 48) := at0_111 hw.1
theorem at_112 {w : Wd} (hw : okX w) : At w 112 (2, 0, 144) := at0_112 hw.1
theorem at_113 {w : Wd} (hw : okX w) : At w 113 (2, 0, 6) := at0_113 hw.1
theorem at_114 {w : Wd} (hw : okX w) : At w 114 (2, 0, 48) := at0_114 hw.1
theorem at_115 {w : Wd} (hw : okX w) : At w 115 (1, 9, 0) := at0_115 hw.1
theorem rc_115_2 {w : Wd} (hw : okX w) : w.2.2 115 2 = 116 := rc0_115_2 hw.1
theorem rc_115_3 {w : Wd} (hw : okX w) : w.2.2 115 3 = 117 := rc0_115_3 hw.1
theorem at_116 {w : Wd} (hw : okX w) : At w 116 (2, 1, 256) := at0_116 hw.1
theorem at_117 {w : Wd} (hw : okX w) : At w 117 (1, 7, 0) := at0_117 hw.1
theorem rc_117_4 {w : Wd} (hw : okX w) : w.2.2 117 4 = 118 := rc0_117_4 hw.1
theorem rc_117_5 {w : Wd} (hw : okX w) : w.2.2 117 5 = 119 := rc0_117_5 hw.1
theorem rc_117_6 {w : Wd} (hw : okX w) : w.2.2 117 6 = 120 := rc0_117_6 hw.1
theorem rc_117_7 {w : Wd} (hw : okX w) : w.2.2 117 7 = 121 := rc0_117_7 hw.1
theorem at_118 {w : Wd} (hw : okX w) : At w 118 (2, 0, 48) := at0_118 hw.1
theorem at_119 {w : Wd} (hw : okX w) : At w 119 (2, 0, 144) := at0_119 hw.1
theorem at_120 {w : Wd} (hw : okX w) : At w 120 (2, 0, 6) := at0_120 hw.1
theorem at_121 {w : Wd} (hw : okX w) : At w 121 (2, 0, 48) := at0_121 hw.1
theorem at_122 {w : Wd} (hw : okX w) : At w 122 (1, 9, 0) := at0_122 hw.1
theorem rc_122_2 {w : Wd} (hw : okX w) : w.2.2 122 2 = 123 := rc0_122_2 hw.1
theorem rc_122_3 {w : Wd} (hw : okX w) : w.2.2 122 3 = 124 := rc0_122_3 hw.1
theorem at_123 {w : Wd} (hw : okX w) : At w 123 (2, 1, 256) := at0_123 hw.1
theorem at_124 {w : Wd} (hw : okX w) : At w 124 (1, 7, 0) := at0_124 hw.1
theorem rc_124_4 {w : Wd} (hw : okX w) : w.2.2 124 4 = 125 := rc0_124_4 hw.1
theorem rc_124_5 {w : Wd} (hw : okX w) : w.2.2 124 5 = 126 := rc0_124_5 hw.1
theorem rc_124_6 {w : Wd} (hw : okX w) : w.2.2 124 6 = 127 := rc0_124_6 hw.1
theorem rc_124_7 {w : Wd} (hw : okX w) : w.2.2 124 7 = 128 := rc0_124_7 hw.1
theorem at_125 {w : Wd} (hw : okX w) : At w 125 (2, 0, 48) := at0_125 hw.1
theorem at_126 {w : Wd} (hw : okX w) : At w 126 (2, 0, 144) := at0_126 hw.1
theorem at_127 {w : Wd} (hw : okX w) : At w 127 (2, 0, 6) := at0_127 hw.1
theorem at_128 {w : Wd} (hw : okX w) : At w 128 (2, 0, 48) := at0_128 hw.1
theorem at_129 {w : Wd} (hw : okX w) : At w 129 (1, 9, 0) := at0_129 hw.1
theorem rc_129_2 {w : Wd} (hw : okX w) : w.2.2 129 2 = 130 := rc0_129_2 hw.1
theorem rc_129_3 {w : Wd} (hw : okX w) : w.2.2 129 3 = 131 := rc0_129_3 hw.1
theorem at_130 {w : Wd} (hw : okX w) : At w 130 (2, 1, 256) := at0_130 hw.1
theorem at_131 {w : Wd} (hw : okX w) : At w 131 (1, 7, 0) := at0_131 hw.1
theorem rc_131_4 {w : Wd} (hw : okX w) : w.2.2 131 4 = 132 := rc0_131_4 hw.1
theorem rc_131_5 {w : Wd} (hw : okX w) : w.2.2 131 5 = 133 := rc0_131_5 hw.1
theorem rc_131_6 {w : Wd} (hw : okX w) : w.2.2 131 6 = 134 := rc0_131_6 hw.1
theorem rc_131_7 {w : Wd} (hw : okX w) : w.2.2 131 7 = 135 := rc0_131_7 hw.1
theorem at_132 {w : Wd} (hw : okX w) : At w 132 (2, 0, 48) := at0_132 hw.1
theorem at_133 {w : Wd} (hw : okX w) : At w 133 (2, 0, 144) := at0_133 hw.1
theorem at_134 {w : Wd} (hw : okX w) : At w 134 (2, 0, 6) := at0_134 hw.1
theorem at_135 {w : Wd} (hw : okX w) : At w 135 (2, 0, 48) := at0_135 hw.1
theorem at_136 {w : Wd} (hw : okX w) : At w 136 (1, 9, 0) := at0_136 hw.1
theorem rc_136_2 {w : Wd} (hw : okX w) : w.2.2 136 2 = 137 := rc0_136_2 hw.1
theorem rc_136_3 {w : Wd} (hw : okX w) : w.2.2 136 3 = 138 := rc0_136_3 hw.1
theorem at_137 {w : Wd} (hw : okX w) : At w 137 (2, 1, 256) := at0_137 hw.1
theorem at_138 {w : Wd} (hw : okX w) : At w 138 (1, 7, 0) := at0_138 hw.1
theorem rc_138_4 {w : Wd} (hw : okX w) : w.2.2 138 4 = 139 := rc0_138_4 hw.1
theorem rc_138_5 {w : Wd} (hw : okX w) : w.2.2 138 5 = 140 := rc0_138_5 hw.1
theorem rc_138_6 {w : Wd} (hw : okX w) : w.2.2 138 6 = 141 := rc0_138_6 hw.1
theorem rc_138_7 {w : Wd} (hw : okX w) : w.2.2 138 7 = 142 := rc0_138_7 hw.1
theorem at_139 {w : Wd} (hw : okX w) : At w 139 (2, 0, 48) := at0_139 hw.1
theorem at_140 {w : Wd} (hw : okX w) : At w 140 (2, 0, 144) := at0_140 hw.1
theorem at_141 {w : Wd} (hw : okX w) : At w 141 (2, 0, 6) := at0_141 hw.1
theorem at_142 {w : Wd} (hw : okX w) : At w 142 (2, 0, 48) := at0_142 hw.1
theorem at_143 {w : Wd} (hw : okM w) : At w 143 (1, 11, 0) := ⟨by decide, Nat.lt_of_lt_of_le (by decide) hw.1, (hw.2 143 (by decide) (by decide)).1⟩
theorem rc_143_4 {w : Wd} (hw : okM w) : w.2.2 143 4 = 144 := (hw.2 143 (by decide) (by decide)).2 4 (by decide)
theorem rc_143_5 {w : Wd} (hw : okM w) : w.2.2 143 5 = 145 := (hw.2 143 (by decide) (by decide)).2 5 (by decide)
theorem rc_143_6 {w : Wd} (hw : okM w) : w.2.2 143 6 = 146 := (hw.2 143 (by decide) (by decide)).2 6 (by decide)
theorem rc_143_7 {w : Wd} (hw : okM w) : w.2.2 143 7 = 147 := (hw.2 143 (by decide) (by decide)).2 7 (by decide)
theorem rc_143_8 {w : Wd} (hw : okM w) : w.2.2 143 8 = 148 := (hw.2 143 (by decide) (by decide)).2 8 (by decide)
theorem rc_143_9 {w : Wd} (hw : okM w) : w.2.2 143 9 = 149 := (hw.2 143 (by decide) (by decide)).2 9 (by decide)
theorem rc_143_10 {w : Wd} (hw : okM w) : w.2.2 143 10 = 150 := (hw.2 143 (by decide) (by decide)).2 10 (by decide)
theorem rc_143_11 {w : Wd} (hw : okM w) : w.2.2 143 11 = 151 := (hw.2 143 (by decide) (by decide)).2 11 (by decide)
theorem rc_143_13 {w : Wd} (hw : okM w) : w.2.2 143 13 = 152 := (hw.2 143 (by decide) (by decide)).2 13 (by decide)
theorem rc_143_14 {w : Wd} (hw : okM w) : w.2.2 143 14 = 153 := (hw.2 143 (by decide) (by decide)).2 14 (by decide)
theorem rc_143_15 {w : Wd} (hw : okM w) : w.2.2 143 15 = 154 := (hw.2 143 (by decide) (by decide)).2 15 (by decide)
theorem rc_143_16 {w : Wd} (hw : okM w) : w.2.2 143 16 = 155 := (hw.2 143 (by decide) (by decide)).2 16 (by decide)
theorem rc_143_17 {w : Wd} (hw : okM w) : w.2.2 143 17 = 156 := (hw.2 143 (by decide) (by decide)).2 17 (by decide)
theorem rc_143_18 {w : Wd} (hw : okM w) : w.2.2 143 18 = 157 := (hw.2 143 (by decide) (by decide)).2 18 (by decide)
theorem rc_143_20 {w : Wd} (hw : okM w) : w.2.2 143 20 = 158 := (hw.2 143 (by decide) (by decide)).2 20 (by decide)
theorem rc_143_28 {w : Wd} (hw : okM w) : w.2.2 143 28 = 159 := (hw.2 143 (by decide) (by decide)).2 28 (by decide)
theorem rc_143_29 {w : Wd} (hw : okM w) : w.2.2 143 29 = 160 := (hw.2 143 (by decide) (by decide)).2 29 (by decide)
theorem rc_143_30 {w : Wd} (hw : okM w) : w.2.2 143 30 = 161 := (hw.2 143 (by decide) (by decide)).2 30 (by decide)
theorem rc_143_31 {w : Wd} (hw : okM w) : w.2.2 143 31 = 162 := (hw.2 143 (by decide) (by decide)).2 31 (by decide)
theorem rc_143_32 {w : Wd} (hw : okM w) : w.2.2 143 32 = 163 := (hw.2 143 (by decide) (by decide)).2 32 (by decide)
theorem rc_143_33 {w : Wd} (hw : okM w) : w.2.2 143 33 = 164 := (hw.2 143 (by decide) (by decide)).2 33 (by decide)
theorem rc_143_34 {w : Wd} (hw : okM w) : w.2.2 143 34 = 165 := (hw.2 143 (by decide) (by decide)).2 34 (by decide)
theorem rc_143_35 {w : Wd} (hw : okM w) : w.2.2 143 35 = 166 := (hw.2 143 (by decide) (by decide)).2 35 (by decide)
theorem rc_143_39 {w : Wd} (hw : okM w) : w.2.2 143 39 = 167 := (hw.2 143 (by decide) (by decide)).2 39 (by decide)
theorem rc_143_40 {w : Wd} (hw : okM w) : w.2.2 143 40 = 168 := (hw.2 143 (by decide) (by decide)).2 40 (by decide)
theorem rc_143_41 {w : Wd} (hw : okM w) : w.2.2 143 41 = 169 := (hw.2 143 (by decide) (by decide)).2 41 (by decide)
theorem rc_143_42 {w : Wd} (hw : okM w) : w.2.2 143 42 = 170 := (hw.2 143 (by decide) (by decide)).2 42 (by decide)
theorem rc_143_43 {w : Wd} (hw : okM w) : w.2.2 143 43 = 171 := (hw.2 143 (by decide) (by decide)).2 43 (by decide)
theorem rc_143_44 {w : Wd} (hw : okM w) : w.2.2 143 44 = 172 := (hw.2 143 (by decide) (by decide)).2 44 (by decide)
theorem rc_143_45 {w : Wd} (hw : okM w) : w.2.2 143 45 = 173 := (hw.2 143 (by decide) (by decide)).2 45 (by decide)
theorem rc_143_46 {w : Wd} (hw : okM w) : w.2.2 143 46 = 174 := (hw.2 143 (by decide) (by decide)).2 46 (by decide)
theorem rc_143_47 {w : Wd} (hw : okM w) : w.2.2 143 47 = 175 := (hw.2 143 (by decide) (by decide)).2 47 (by decide)
theorem rc_143_48 {w : Wd} (hw : okM w) : w.2.2 143 48 = 176 := (hw.2 143 (by decide) (by decide)).2 48 (by decide)
theorem rc_143_49 {w : Wd} (hw : okM w) : w.2.2 143 49 = 177 := (hw.2 143 (by decide) (by decide)).2 49 (by decide)
theorem rc_143_50 {w : Wd} (hw : okM w) : w.2.2 143 50 = 178 := (hw.2 143 (by decide) (by decide)).2 50 (by decide)
theorem rc_143_51 {w : Wd} (hw : okM w) : w.2.2 143 51 = 179 := (hw.2 143 (by decide) (by decide)).2 51 (by decide)
theorem rc_143_52 {w : Wd} (hw : okM w) : w.2.2 143 52 = 180 := (hw.2 143 (by decide) (by decide)).2 52 (by decide)
theorem rc_143_53 {w : Wd} (hw : okM w) : w.2.2 143 53 = 181 := (hw.2 143 (by decide) (by decide)).2 53 (by decide)
theorem rc_143_54 {w : Wd} (hw : okM w) : w.2.2 143 54 = 182 := (hw.2 143 (by decide) (by decide)).2 54 (by decide)
theorem rc_143_55 {w : Wd} (hw : okM w) : w.2.2 143 55 = 183 := (hw.2 143 (by decide) (by decide)).2 55 (by decide)
theorem rc_143_56 {w : Wd} (hw : okM w) : w.2.2 143 56 = 184 := (hw.2 143 (by decide) (by decide)).2 56 (by decide)
theorem rc_143_58 {w : Wd} (hw : okM w) : w.2.2 143 58 = 185 := (hw.2 143 (by decide) (by decide)).2 58 (by decide)
theorem rc_143_59 {w : Wd} (hw : okM w) : w.2.2 143 59 = 186 := (hw.2 143 (by decide) (by decide)).2 59 (by decide)
theorem rc_143_60 {w : Wd} (hw : okM w) : w.2.2 143 60 = 187 := (hw.2 143 (by decide) (by decide)).2 60 (by decide)
theorem rc_143_61 {w : Wd} (hw : okM w) : w.2.2 143 61 = 188 := (hw.2 143 (by decide) (by decide)).2 61 (by decide)
theorem rc_143_62 {w : Wd} (hw : okM w) : w.2.2 143 62 = 189 := (hw.2 143 (by decide) (by decide)).2 62 (by decide)
theorem rc_143_65 {w : Wd} (hw : okM w) : w.2.2 143 65 = 190 := (hw.2 143 (by decide) (by decide)).2 65 (by decide)
theorem rc_143_66 {w : Wd} (hw : okM w) : w.2.2 143 66 = 191 := (hw.2 143 (by decide) (by decide)).2 66 (by decide)
theorem rc_143_67 {w : Wd} (hw : okM w) : w.2.2 143 67 = 192 := (hw.2 143 (by decide) (by decide)).2 67 (by decide)
theorem rc_143_68 {w : Wd} (hw : okM w) : w.2.2 143 68 = 193 := (hw.2 143 (by decide) (by decide)).2 68 (by decide)
theorem rc_143_69 {w : Wd} (hw : okM w) : w.2.2 143 69 = 194 := (hw.2 143 (by decide) (by decide)).2 69 (by decide)
theorem rc_143_70 {w : Wd} (hw : okM w) : w.2.2 143 70 = 195 := (hw.2 143 (by decide) (by decide)).2 70 (by decide)
theorem rc_143_75 {w : Wd} (hw : okM w) : w.2.2 143 75 = 196 := (hw.2 143 (by decide) (by decide)).2 75 (by decide)
theorem rc_143_76 {w : Wd} (hw : okM w) : w.2.2 143 76 = 197 := (hw.2 143 (by decide) (by decide)).2 76 (by decide)
theorem rc_143_77 {w : Wd} (hw : okM w) : w.2.2 143 77 = 198 := (hw.2 143 (by decide) (by decide)).2 77 (by decide)
theorem rc_143_78 {w : Wd} (hw : okM w) : w.2.2 143 78 = 199 := (hw.2 143 (by decide) (by decide)).2 78 (by decide)
theorem rc_143_79 {w : Wd} (hw : okM w) : w.2.2 143 79 = 200 := (hw.2 143 (by decide) (by decide)).2 79 (by decide)
theorem rc_143_80 {w : Wd} (hw : okM w) : w.2.2 143 80 = 201 := (hw.2 143 (by decide) (by decide)).2 80 (by decide)
theorem rc_143_81 {w : Wd} (hw : okM w) : w.2.2 143 81 = 202 := (hw.2 143 (by decide) (by decide)).2 81 (by decide)
theorem at_144 {w : Wd} (hw : okM w) : At w 144 (2, 0, 2) := ⟨by decide, Nat.lt_of_lt_of_le (by decide) hw.1, (hw.2 144 (by decide) (by decide)).1⟩
theorem at_145 {w : Wd} (hw : okM w) : At w 145 (2, 0, 96) := ⟨by decide, Nat.lt_of_lt_of_le (by decide) hw.1, (hw.2 145 (by decide) (by decide)).1⟩
theorem at_146 {w : Wd} (hw : okM w) : At w 146 (2, 0, 288) := ⟨by decide, Nat.lt_of_lt_of_le (by decide) hw.1, (hw.2 146 (by decide) (by decide)).1⟩
theorem at_147 {w : Wd} (hw : okM w) : At w 147 (2, 0, 8) := ⟨by decide, Nat.lt_of_lt_of_le (by decide) hw.1, (hw.2 147 (by decide) (by decide)).1⟩
theorem at_148 {w : Wd} (hw : okM w) : At w 148 (2, 0, 4) := ⟨by decide, Nat.lt_of_lt_of_le (by decide) hw.1, (hw.2 148 (by decide) (by decide)).1⟩
theorem at_149 {w : Wd} (hw : okM w) : At w 149 (2, 3, 256) := ⟨by decide, Nat.lt_of_lt_of_le (by decide) hw.1, (hw.2 149 (by decide) (by decide)).1⟩
theorem at_150 {w : Wd} (hw : okM w) : At w 150 (2, 0, 48) := ⟨by decide, Nat.lt_of_lt_of_le (by decide) hw.1, (hw.2 150 (by decide) (by decide)).1⟩
theorem at_151 {w : Wd} (hw : okM w) : At w 151 (2, 0, 48) := ⟨by decide, Nat.lt_of_lt_of_le (by decide) hw.1, (hw.2 151 (by decide) (by decide)).1⟩
theorem at_152 {w : Wd} (hw : okM w) : At w 152 (2, 0, 12) := ⟨by decide, Nat.lt_of_lt_of_le (by decide) hw.1, (hw.2 152 (by decide) (by decide)).1⟩
theorem at_153 {w : Wd} (hw : okM w) : At w 153 (2, 0, 12) := ⟨by decide, Nat.lt_of_lt_of_le (by decide) hw.1, (hw.2 153 (by decide) (by decide)).1⟩
theorem at_154 {w : Wd} (hw : okM w) : At w 154 (2, 0, 12) := ⟨by decide, Nat.lt_of_lt_of_le (by decide) hw.1, (hw.2 154 (by decide) (by decide)).1⟩
theorem at_155 {w : Wd} (hw : okM w) : At w 155 (2, 3, 12) := ⟨by decide, Nat.lt_of_lt_of_le (by decide) hw.1, (hw.2 155 (by decide) (by decide)).1⟩
theorem at_156 {w : Wd} (hw : okM w) : At w 156 (2, 0, 9) := ⟨by decide, Nat.lt_of_lt_of_le (by decide) hw.1, (hw.2 156 (by decide) (by decide)).1⟩
theorem at_157 {w : Wd} (hw : okM w) : At w 157 (2, 0, 48) := ⟨by decide, Nat.lt_of_lt_of_le (by decide) hw.1, (hw.2 157 (by decide) (by decide)).1⟩
theorem at_158 {w : Wd} (hw : okM w) : At w 158 (2, 0, 3) := ⟨by decide, Nat.lt_of_lt_of_le (by decide) hw.1, (hw.2 158 (by decide) (by decide)).1⟩
theorem at_159 {w : Wd} (hw : okM w) : At w 159 (2, 0, 2) := ⟨by decide, Nat.lt_of_lt_of_le (by decide) hw.1, (hw.2 159 (by decide) (by decide)).1⟩
theorem at_160 {w : Wd} (hw : okM w) : At w 160 (2, 0, 3) := ⟨by decide, Nat.lt_of_lt_of_le (by decide) hw.1, (hw.2 160 (by decide) (by decide)).1⟩
theorem at_161 {w : Wd} (hw : okM w) : At w 161 (2, 0, 2) := ⟨by decide, Nat.lt_of_lt_of_le (by decide) hw.1, (hw.2 161 (by decide) (by decide)).1⟩
theorem at_162 {w : Wd} (hw : okM w) : At w 162 (2, 0, 24) := ⟨by decide, Nat.lt_of_lt_of_le (by decide) hw.1, (hw.2 162 (by decide) (by decide)).1⟩
theorem at_163 {w : Wd} (hw : okM w) : At w 163 (2, 0, 24) := ⟨by decide, Nat.lt_of_lt_of_le (by decide) hw.1, (hw.2 163 (by decide) (by decide)).1⟩
theorem at_164 {w : Wd} (hw : okM w) : At w 164 (2, 0, 24) := ⟨by decide, Nat.lt_of_lt_of_le (by decide) hw.1, (hw.2 164 (by decide) (by decide)).1⟩
theorem at_165 {w : Wd} (hw : okM w) : At w 165 (2, 0, 24) := ⟨by decide, Nat.lt_of_lt_of_le (by decide) hw.1, (hw.2 165 (by decide) (by decide)).1⟩
theorem at_166 {w : Wd} (hw : okM w) : At w 166 (2, 0, 24) := ⟨by decide, Nat.lt_of_lt_of_le (by decide) hw.1, (hw.2 166 (by decide) (by decide)).1⟩
theorem at_167 {w : Wd} (hw : okM w) : At w 167 (2, 0, 200) := ⟨by decide, Nat.lt_of_lt_of_le (by decide) hw.1, (hw.2 167 (by decide) (by decide)).1⟩
theorem at_168 {w : Wd} (hw : okM w) : At w 168 (2, 0, 200) := ⟨by decide, Nat.lt_of_lt_of_le (by decide) hw.1, (hw.2 168 (by decide) (by decide)).1⟩
theorem at_169 {w : Wd} (hw : okM w) : At w 169 (2, 0, 200) := ⟨by decide, Nat.lt_of_lt_of_le (by decide) hw.1, (hw.2 169 (by decide) (by decide)).1⟩
theorem at_170 {w : Wd} (hw : okM w) : At w 170 (2, 0, 256) := ⟨by decide, Nat.lt_of_lt_of_le (by decide) hw.1, (hw.2 170 (by decide) (by decide)).1⟩
theorem at_171 {w : Wd} (hw : okM w) : At w 171 (2, 0, 6) := ⟨by decide, Nat.lt_of_lt_of_le (by decide) hw.1, (hw.2 171 (by decide) (by decide)).1⟩
theorem at_172 {w : Wd} (hw : okM w) : At w 172 (2, 0, 6) := ⟨by decide, Nat.lt_of_lt_of_le (by decide) hw.1, (hw.2 172 (by decide) (by decide)).1⟩
theorem at_173 {w : Wd} (hw : okM w) : At w 173 (2, 1, 1536) := ⟨by decide, Nat.lt_of_lt_of_le (by decide) hw.1, (hw.2 173 (by decide) (by decide)).1⟩
theorem at_174 {w : Wd} (hw : okM w) : At w 174 (2, 0, 10) := ⟨by decide, Nat.lt_of_lt_of_le (by decide) hw.1, (hw.2 174 (by decide) (by decide)).1⟩
theorem at_175 {w : Wd} (hw : okM w) : At w 175 (2, 0, 10) := ⟨by decide, Nat.lt_of_lt_of_le (by decide) hw.1, (hw.2 175 (by decide) (by decide)).1⟩
theorem at_176 {w : Wd} (hw : okM w) : At w 176 (2, 0, 10) := ⟨by decide, Nat.lt_of_lt_of_le (by decide) hw.1, (hw.2 176 (by decide) (by decide)).1⟩
theorem at_177 {w : Wd} (hw : okM w) : At w 177 (2, 0, 10) := ⟨by decide, Nat.lt_of_lt_of_le (by decide) hw.1, (hw.2 177 (by decide) (by decide)).1⟩
theorem at_178 {w : Wd} (hw : okM w) : At w 178 (2, 0, 480) := ⟨by decide, Nat.lt_of_lt_of_le (by decide) hw.1, (hw.2 178 (by decide) (by decide)).1⟩
theorem at_179 {w : Wd} (hw : okM w) : At w 179 (2, 0, 1440) := ⟨by decide, Nat.lt_of_lt_of_le (by decide) hw.1, (hw.2 179 (by decide) (by decide)).1⟩
theorem at_180 {w : Wd} (hw : okM w) : At w 180 (2, 0, 40) := ⟨by decide, Nat.lt_of_lt_of_le (by decide) hw.1, (hw.2 180 (by decide) (by decide)).1⟩
theorem at_181 {w : Wd} (hw : okM w) : At w 181 (2, 0, 20) := ⟨by decide, Nat.lt_of_lt_of_le (by decide) hw.1, (hw.2 181 (by decide) (by decide)).1⟩
theorem at_182 {w : Wd} (hw : okM w) : At w 182 (2, 0, 480) := ⟨by decide, Nat.lt_of_lt_of_le (by decide) hw.1, (hw.2 182 (by decide) (by decide)).1⟩
theorem at_183 {w : Wd} (hw : okM w) : At w 183 (2, 0, 480) := ⟨by decide, Nat.lt_of_lt_of_le (by decide) hw.1, (hw.2 183 (by decide) (by decide)).1⟩
theorem at_184 {w : Wd} (hw : okM w) : At w 184 (2, 3, 120) := ⟨by decide, Nat.lt_of_lt_of_le (by decide) hw.1, (hw.2 184 (by decide) (by decide)).1⟩
theorem at_185 {w : Wd} (hw : okM w) : At w 185 (2, 3, 48) := ⟨by decide, Nat.lt_of_lt_of_le (by decide) hw.1, (hw.2 185 (by decide) (by decide)).1⟩
theorem at_186 {w : Wd} (hw : okM w) : At w 186 (2, 0, 80) := ⟨by decide, Nat.lt_of_lt_of_le (by decide) hw.1, (hw.2 186 (by decide) (by decide)).1⟩
theorem at_187 {w : Wd} (hw : okM w) : At w 187 (2, 3, 48) := ⟨by decide, Nat.lt_of_lt_of_le (by decide) hw.1, (hw.2 187 (by decide) (by decide)).1⟩
theorem at_188 {w : Wd} (hw : okM w) : At w 188 (2, 1, 384) := ⟨by decide, Nat.lt_of_lt_of_le (by decide) hw.1, (hw.2 188 (by decide) (by decide)).1⟩
theorem at_189 {w : Wd} (hw : okM w) : At w 189 (2, 0, 3) := ⟨by decide, Nat.lt_of_lt_of_le (by decide) hw.1, (hw.2 189 (by decide) (by decide)).1⟩
theorem at_190 {w : Wd} (hw : okM w) : At w 190 (2, 1, 32) := ⟨by decide, Nat.lt_of_lt_of_le (by decide) hw.1, (hw.2 190 (by decide) (by decide)).1⟩
theorem at_191 {w : Wd} (hw : okM w) : At w 191 (2, 0, 256) := ⟨by decide, Nat.lt_of_lt_of_le (by decide) hw.1, (hw.2 191 (by decide) (by decide)).1⟩
theorem at_192 {w : Wd} (hw : okM w) : At w 192 (2, 3, 4) := ⟨by decide, Nat.lt_of_lt_of_le (by decide) hw.1, (hw.2 192 (by decide) (by decide)).1⟩
theorem at_193 {w : Wd} (hw : okM w) : At w 193 (2, 0, 1024) := ⟨by decide, Nat.lt_of_lt_of_le (by decide) hw.1, (hw.2 193 (by decide) (by decide)).1⟩
theorem at_194 {w : Wd} (hw : okM w) : At w 194 (2, 0, 8) := ⟨by decide, Nat.lt_of_lt_of_le (by decide) hw.1, (hw.2 194 (by decide) (by decide)).1⟩
theorem at_195 {w : Wd} (hw : okM w) : At w 195 (2, 0, 3) := ⟨by decide, Nat.lt_of_lt_of_le (by decide) hw.1, (hw.2 195 (by decide) (by decide)).1⟩
theorem at_196 {w : Wd} (hw : okM w) : At w 196 (2, 0, 3) := ⟨by decide, Nat.lt_of_lt_of_le (by decide) hw.1, (hw.2 196 (by decide) (by decide)).1⟩
theorem at_197 {w : Wd} (hw : okM w) : At w 197 (2, 0, 10) := ⟨by decide, Nat.lt_of_lt_of_le (by decide) hw.1, (hw.2 197 (by decide) (by decide)).1⟩
theorem at_198 {w : Wd} (hw : okM w) : At w 198 (2, 0, 4096) := ⟨by decide, Nat.lt_of_lt_of_le (by decide) hw.1, (hw.2 198 (by decide) (by decide)).1⟩
theorem at_199 {w : Wd} (hw : okM w) : At w 199 (2, 0, 48) := ⟨by decide, Nat.lt_of_lt_of_le (by decide) hw.1, (hw.2 199 (by decide) (by decide)).1⟩
theorem at_200 {w : Wd} (hw : okM w) : At w 200 (2, 0, 24) := ⟨by decide, Nat.lt_of_lt_of_le (by decide) hw.1, (hw.2 200 (by decide) (by decide)).1⟩
theorem at_201 {w : Wd} (hw : okM w) : At w 201 (2, 0, 256) := ⟨by decide, Nat.lt_of_lt_of_le (by decide) hw.1, (hw.2 201 (by decide) (by decide)).1⟩
theorem at_202 {w : Wd} (hw : okM w) : At w 202 (2, 1, 256) := ⟨by decide, Nat.lt_of_lt_of_le (by decide) hw.1, (hw.2 202 (by decide) (by decide)).1⟩
theorem at_203 {w : Wd} (hw : okX w) : At w 203 (2, 1, 6) := ⟨by decide, Nat.lt_of_lt_of_le (by decide) hw.2.1, hw.2.2.1⟩
theorem at_204 {w : Wd} (hw : okX w) : At w 204 (2, 1, 48) := ⟨by decide, Nat.lt_of_lt_of_le (by decide) hw.2.1, hw.2.2.2.1⟩
theorem at_205 {w : Wd} (hw : okX w) : At w 205 (2, 1, 6) := ⟨by decide, Nat.lt_of_lt_of_le (by decide) hw.2.1, hw.2.2.2.2.1⟩
theorem pl0_18 {w : Wd} (hw : okX0 w) : isPl w 18 := ⟨at0_18 hw, rc0_18_4 hw, rc0_18_5 hw, rc0_18_6 hw, rc0_18_7 hw, at0_19 hw, at0_20 hw, at0_21 hw, at0_22 hw⟩
theorem pl0_28 {w : Wd} (hw : okX0 w) : isPl w 28 := ⟨at0_28 hw, rc0_28_4 hw, rc0_28_5 hw, rc0_28_6 hw, rc0_28_7 hw, at0_29 hw, at0_30 hw, at0_31 hw, at0_32 hw⟩
theorem pl0_78 {w : Wd} (hw : okX0 w) : isPl w 78 := ⟨at0_78 hw, rc0_78_4 hw, rc0_78_5 hw, rc0_78_6 hw, rc0_78_7 hw, at0_79 hw, at0_80 hw, at0_81 hw, at0_82 hw⟩
theorem pl0_83 {w : Wd} (hw : okX0 w) : isPl w 83 := ⟨at0_83 hw, rc0_83_4 hw, rc0_83_5 hw, rc0_83_6 hw, rc0_83_7 hw, at0_84 hw, at0_85 hw, at0_86 hw, at0_87 hw⟩
theorem pl0_88 {w : Wd} (hw : okX0 w) : isPl w 88 := ⟨at0_88 hw, rc0_88_4 hw, rc0_88_5 hw, rc0_88_6 hw, rc0_88_7 hw, at0_89 hw, at0_90 hw, at0_91 hw, at0_92 hw⟩
theorem pl0_93 {w : Wd} (hw : okX0 w) : isPl w 93 := ⟨at0_93 hw, rc0_93_4 hw, rc0_93_5 hw, rc0_93_6 hw, rc0_93_7 hw, at0_94 hw, at0_95 hw, at0_96 hw, at0_97 hw⟩
theorem pl0_103 {w : Wd} (hw : okX0 w) : isPl w 103 := ⟨at0_103 hw, rc0_103_4 hw, rc0_103_5 hw, rc0_103_6 hw, rc0_103_7 hw, at0_104 hw, at0_105 hw, at0_106 hw, at0_107 hw⟩
theorem pl0_110 {w : Wd} (hw : okX0 w) : isPl w 110 := ⟨at0_110 hw, rc0_110_4 hw, rc0_110_5 hw, rc0_110_6 hw, rc0_110_7 hw, at0_111 hw, at0_112 hw, at0_113 hw, at0_114 hw⟩
theorem pl0_117 {w : Wd} (hw : okX0 w) : isPl w 117 := ⟨at0_117 hw, rc0_117_4 hw, rc0_117_5 hw, rc0_117_6 hw, rc0_117_7 hw, at0_118 hw, at0_119 hw, at0_120 hw, at0_121 hw⟩
theorem pl0_124 {w : Wd} (hw : okX0 w) : isPl w 124 := ⟨at0_124 hw, rc0_124_4 hw, rc0_124_5 hw, rc0_124_6 hw, rc0_124_7 hw, at0_125 hw, at0_126 hw, at0_127 hw, at0_128 hw⟩
theorem pl0_131 {w : Wd} (hw : okX0 w) : isPl w 131 := ⟨at0_131 hw, rc0_131_4 hw, rc0_131_5 hw, rc0_131_6 hw, rc0_131_7 hw, at0_132 hw, at0_133 hw, at0_134 hw, at0_135 hw⟩
theorem pl0_138 {w : Wd} (hw : okX0 w) : isPl w 138 := ⟨at0_138 hw, rc0_138_4 hw, rc0_138_5 hw, rc0_138_6 hw, rc0_138_7 hw, at0_139 hw, at0_140 hw, at0_141 hw, at0_142 hw⟩
theorem nt0_17 {w : Wd} (hw : okX0 w) : isNt w 17 := ⟨at0_17 hw, rc0_17_0 hw, rc0_17_2 hw, rc0_17_3 hw, rc0_17_4 hw, rc0_17_5 hw, pl0_18 hw, at0_23 hw, at0_24 hw, at0_25 hw, at0_26 hw⟩
theorem nt0_27 {w : Wd} (hw : okX0 w) : isNt w 27 := ⟨at0_27 hw, rc0_27_0 hw, rc0_27_2 hw, rc0_27_3 hw, rc0_27_4 hw, rc0_27_5 hw, pl0_28 hw, at0_33 hw, at0_34 hw, at0_35 hw, at0_36 hw⟩
theorem tp0_101 {w : Wd} (hw : okX0 w) : isTp w 101 := ⟨at0_101 hw, rc0_101_2 hw, rc0_101_3 hw, at0_102 hw, pl0_103 hw⟩
theorem tp0_108 {w : Wd} (hw : okX0 w) : isTp w 108 := ⟨at0_108 hw, rc0_108_2 hw, rc0_108_3 hw, at0_109 hw, pl0_110 hw⟩
theorem tp0_115 {w : Wd} (hw : okX0 w) : isTp w 115 := ⟨at0_115 hw, rc0_115_2 hw, rc0_115_3 hw, at0_116 hw, pl0_117 hw⟩
theorem tp0_122 {w : Wd} (hw : okX0 w) : isTp w 122 := ⟨at0_122 hw, rc0_122_2 hw, rc0_122_3 hw, at0_123 hw, pl0_124 hw⟩
theorem tp0_129 {w : Wd} (hw : okX0 w) : isTp w 129 := ⟨at0_129 hw, rc0_129_2 hw, rc0_129_3 hw, at0_130 hw, pl0_131 hw⟩
theorem tp0_136 {w : Wd} (hw : okX0 w) : isTp w 136 := ⟨at0_136 hw, rc0_136_2 hw, rc0_136_3 hw, at0_137 hw, pl0_138 hw⟩
theorem nt0_of {w : Wd} (hw : okX0 w) {a : Nat} (h : a = 17 ∨ a = 27) : isNt w a := by rcases h with rfl | rfl; exact nt0_17 hw; exact nt0_27 hw
theorem pl0_of {w : Wd} (hw : okX0 w) {a : Nat} (h : a = 78 ∨ a = 83 ∨ a = 88 ∨ a = 93) : isPl w a := by rcases h with rfl | rfl | rfl | rfl; exact pl0_78 hw; exact pl0_83 hw; exact pl0_88 hw; exact pl0_93 hw
theorem tp0_of {w : Wd} (hw : okX0 w) {a : Nat} (h : a = 101 ∨ a = 108 ∨ a = 115 ∨ a = 122 ∨ a = 129 ∨ a = 136) : isTp w a := by rcases h with rfl | rfl | rfl | rfl | rfl | rfl; exact tp0_101 hw; exact tp0_108 hw; exact tp0_115 hw; exact tp0_122 hw; exact tp0_129 hw; exact tp0_136 hw
theorem pl_18 {w : Wd} (hw : okX w) : isPl w 18 := ⟨at_18 hw, rc_18_4 hw, rc_18_5 hw, rc_18_6 hw, rc_18_7 hw, at_19 hw, at_20 hw, at_21 hw, at_22 hw⟩
theorem pl_28 {w : Wd} (hw : okX w) : isPl w 28 := ⟨at_28 hw, rc_28_4 hw, rc_28_5 hw, rc_28_6 hw, rc_28_7 hw, at_29 hw, at_30 hw, at_31 hw, at_32 hw⟩
theorem pl_78 {w : Wd} (hw : okX w) : isPl w 78 := ⟨at_78 hw, rc_78_4 hw, rc_78_5 hw, rc_78_6 hw, rc_78_7 hw, at_79 hw, at_80 hw, at_81 hw, at_82 hw⟩
theorem pl_83 {w : Wd} (hw : okX w) : isPl w 83 := ⟨at_83 hw, rc_83_4 hw, rc_83_5 hw, rc_83_6 hw, rc_83_7 hw, at_84 hw, at_85 hw, at_86 hw, at_87 hw⟩
theorem pl_88 {w : Wd} (hw : okX w) : isPl w 88 := ⟨at_88 hw, rc_88_4 hw, rc_88_5 hw, rc_88_6 hw, rc_88_7 hw, at_89 hw, at_90 hw, at_91 hw, at_92 hw⟩
theorem pl_93 {w : Wd} (hw : okX w) : isPl w 93 := ⟨at_93 hw, rc_93_4 hw, rc_93_5 hw, rc_93_6 hw, rc_93_7 hw, at_94 hw, at_95 hw, at_96 hw, at_97 hw⟩
theorem pl_103 {w : Wd} (hw : okX w) : isPl w 103 := ⟨at_103 hw, rc_103_4 hw, rc_103_5 hw, rc_103_6 hw, rc_103_7 hw, at_104 hw, at_105 hw, at_106 hw, at_107 hw⟩
theorem pl_110 {w : Wd} (hw : okX w) : isPl w 110 := ⟨at_110 hw, rc_110_4 hw, rc_110_5 hw, rc_110_6 hw, rc_110_7 hw, at_111 hw, at_112 hw, at_113 hw, at_114 hw⟩
theorem pl_117 {w : Wd} (hw : okX w) : isPl w 117 := ⟨at_117 hw, rc_117_4 hw, rc_117_5 hw, rc_117_6 hw, rc_117_7 hw, at_118 hw, at_119 hw, at_120 hw, at_121 hw⟩
theorem pl_124 {w : Wd} (hw : okX w) : isPl w 124 := ⟨at_124 hw, rc_124_4 hw, rc_124_5 hw, rc_124_6 hw, rc_124_7 hw, at_125 hw, at_126 hw, at_127 hw, at_128 hw⟩
theorem pl_131 {w : Wd} (hw : okX w) : isPl w 131 := ⟨at_131 hw, rc_131_4 hw, rc_131_5 hw, rc_131_6 hw, rc_131_7 hw, at_132 hw, at_133 hw, at_134 hw, at_135 hw⟩
theorem pl_138 {w : Wd} (hw : okX w) : isPl w 138 := ⟨at_138 hw, rc_138_4 hw, rc_138_5 hw, rc_138_6 hw, rc_138_7 hw, at_139 hw, at_140 hw, at_141 hw, at_142 hw⟩
theorem nt_17 {w : Wd} (hw : okX w) : isNt w 17 := ⟨at_17 hw, rc_17_0 hw, rc_17_2 hw, rc_17_3 hw, rc_17_4 hw, rc_17_5 hw, pl_18 hw, at_23 hw, at_24 hw, at_25 hw, at_26 hw⟩
theorem nt_27 {w : Wd} (hw : okX w) : isNt w 27 := ⟨at_27 hw, rc_27_0 hw, rc_27_2 hw, rc_27_3 hw, rc_27_4 hw, rc_27_5 hw, pl_28 hw, at_33 hw, at_34 hw, at_35 hw, at_36 hw⟩
theorem tp_101 {w : Wd} (hw : okX w) : isTp w 101 := ⟨at_101 hw, rc_101_2 hw, rc_101_3 hw, at_102 hw, pl_103 hw⟩
theorem tp_108 {w : Wd} (hw : okX w) : isTp w 108 := ⟨at_108 hw, rc_108_2 hw, rc_108_3 hw, at_109 hw, pl_110 hw⟩
theorem tp_115 {w : Wd} (hw : okX w) : isTp w 115 := ⟨at_115 hw, rc_115_2 hw, rc_115_3 hw, at_116 hw, pl_117 hw⟩
theorem tp_122 {w : Wd} (hw : okX w) : isTp w 122 := ⟨at_122 hw, rc_122_2 hw, rc_122_3 hw, at_123 hw, pl_124 hw⟩
theorem tp_129 {w : Wd} (hw : okX w) : isTp w 129 := ⟨at_129 hw, rc_129_2 hw, rc_129_3 hw, at_130 hw, pl_131 hw⟩
theorem tp_136 {w : Wd} (hw : okX w) : isTp w 136 := ⟨at_136 hw, rc_136_2 hw, rc_136_3 hw, at_137 hw, pl_138 hw⟩
theorem nt_of {w : Wd} (hw : okX w) {a : Nat} (h : a = 17 ∨ a = 27) : isNt w a := by rcases h with rfl | rfl; exact nt_17 hw; exact nt_27 hw
theorem pl_of {w : Wd} (hw : okX w) {a : Nat} (h : a = 78 ∨ a = 83 ∨ a = 88 ∨ a = 93) : isPl w a := by rcases h with rfl | rfl | rfl | rfl; exact pl_78 hw; exact pl_83 hw; exact pl_88 hw; exact pl_93 hw
theorem tp_of {w : Wd} (hw : okX w) {a : Nat} (h : a = 101 ∨ a = 108 ∨ a = 115 ∨ a = 122 ∨ a = 129 ∨ a = 136) : isTp w a := by rcases h with rfl | rfl | rfl | rfl | rfl | rfl; exact tp_101 hw; exact tp_108 hw; exact tp_115 hw; exact tp_122 hw; exact tp_129 hw; exact tp_136 hw

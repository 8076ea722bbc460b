/-! the references that never change -/
def pv_stl : List (Nat × Nat × Nat) := [(0, 0, 1), (0, 1, 2), (0, 2, 3), (0, 3, 5), (0, 5, 7), (0, 6, 29), (0, 7, 8), (0, 8, 11), (0, 9, 16), (0, 10, 37), (0, 11, 19), (0, 12, 21), (1, 0, 53), (1, 1, 57), (1, 2, 61), (2, 0, 55), (2, 1, 59), (2, 2, 63), (7, 0, 65), (7, 1, 70), (3, 1, 4), (5, 1, 6), (9, 1, 10), (12, 1, 13), (19, 1, 20), (38, 1, 39), (53, 1, 54), (55, 1, 56), (57, 1, 58), (59, 1, 60), (61, 1, 62), (63, 1, 64), (11, 2, 14), (14, 0, 15), (16, 1, 17), (17, 0, 18), (21, 2, 22), (21, 3, 23), (65, 2, 66), (65, 3, 67), (70, 2, 71), (70, 3, 72), (26, 1, 27), (26, 2, 28), (29, 0, 26), (29, 2, 30), (29, 3, 31), (29, 4, 32), (29, 5, 33), (29, 6, 34), (37, 0, 38), (37, 1, 26), (37, 2, 40), (37, 3, 42), (37, 4, 44), (37, 6, 46), (37, 8, 47), (37, 9, 48), (37, 10, 49), (37, 11, 50), (37, 12, 51), (37, 13, 52), (40, 0, 41), (42, 0, 43), (44, 0, 45), (75, 1, 76), (75, 2, 77), (75, 3, 78), (75, 5, 79), (75, 6, 80), (75, 7, 81), (75, 8, 82), (75, 9, 83), (75, 11, 84), (75, 12, 85), (75, 13, 86), (75, 15, 87), (75, 18, 88), (75, 19, 89), (75, 20, 90), (75, 25, 91), (75, 26, 92), (75, 27, 93), (75, 28, 94), (75, 31, 95), (75, 32, 96), (75, 34, 97), (75, 35, 98), (75, 37, 99), (75, 38, 100), (75, 39, 101), (75, 41, 102), (75, 42, 103)]
def GS (S : pv_M) : Prop := ∀ e ∈ pv_stl, mR S e.1 e.2.1 = some e.2.2
theorem gs_0_0 {S : pv_M} (h : GS S) : mR S 0 0 = some 1 := h (0, 0, 1) (List.mem_of_getElem? (i := 0) rfl)
theorem gs_0_1 {S : pv_M} (h : GS S) : mR S 0 1 = some 2 := h (0, 1, 2) (List.mem_of_getElem? (i := 1) rfl)
theorem gs_0_2 {S : pv_M} (h : GS S) : mR S 0 2 = some 3 := h (0, 2, 3) (List.mem_of_getElem? (i := 2) rfl)
theorem gs_0_3 {S : pv_M} (h : GS S) : mR S 0 3 = some 5 := h (0, 3, 5) (List.mem_of_getElem? (i := 3) rfl)
theorem gs_0_5 {S : pv_M} (h : GS S) : mR S 0 5 = some 7 := h (0, 5, 7) (List.mem_of_getElem? (i := 4) rfl)
theorem gs_0_6 {S : pv_M} (h : GS S) : mR S 0 6 = some 29 := h (0, 6, 29) (List.mem_of_getElem? (i := 5) rfl)
theorem gs_0_7 {S : pv_M} (h : GS S) : mR S 0 7 = some 8 := h (0, 7, 8) (List.mem_of_getElem? (i := 6) rfl)
theorem gs_0_8 {S : pv_M} (h : GS S) : mR S 0 8 = some 11 := h (0, 8, 11) (List.mem_of_getElem? (i := 7) rfl)
theorem gs_0_9 {S : pv_M} (h : GS S) : mR S 0 9 = some 16 := h (0, 9, 16) (List.mem_of_getElem? (i := 8) rfl)
theorem gs_0_10 {S : pv_M} (h : GS S) : mR S 0 10 = some 37 := h (0, 10, 37) (List.mem_of_getElem? (i := 9) rfl)
theorem gs_0_11 {S : pv_M} (h : GS S) : mR S 0 11 = some 19 := h (0, 11, 19) (List.mem_of_getElem? (i := 10) rfl)
theorem gs_0_12 {S : pv_M} (h : GS S) : mR S 0 12 = some 21 := h (0, 12, 21) (List.mem_of_getElem? (i := 11) rfl)
theorem gs_1_0 {S : pv_M} (h : GS S) : mR S 1 0 = some 53 := h (1, 0, 53) (List.mem_of_getElem? (i := 12) rfl)
theorem gs_1_1 {S : pv_M} (h : GS S) : mR S 1 1 = some 57 := h (1, 1, 57) (List.mem_of_getElem? (i := 13) rfl)
theorem gs_1_2 {S : pv_M} (h : GS S) : mR S 1 2 = some 61 := h (1, 2, 61) (List.mem_of_getElem? (i := 14) rfl)
theorem gs_2_0 {S : pv_M} (h : GS S) : mR S 2 0 = some 55 := h (2, 0, 55) (List.mem_of_getElem? (i := 15) rfl)
theorem gs_2_1 {S : pv_M} (h : GS S) : mR S 2 1 = some 59 := h (2, 1, 59) (List.mem_of_getElem? (i := 16) rfl)
theorem gs_2_2 {S : pv_M} (h : GS S) : mR S 2 2 = some 63 := h (2, 2, 63) (List.mem_of_getElem? (i := 17) rfl)
theorem gs_7_0 {S : pv_M} (h : GS S) : mR S 7 0 = some 65 := h (7, 0, 65) (List.mem_of_getElem? (i := 18) rfl)
theorem gs_7_1 {S : pv_M} (h : GS S) : mR S 7 1 = some 70 := h (7, 1, 70) (List.mem_of_getElem? (i := 19) rfl)
theorem gs_3_1 {S : pv_M} (h : GS S) : mR S 3 1 = some 4 := h (3, 1, 4) (List.mem_of_getElem? (i := 20) rfl)
theorem gs_5_1 {S : pv_M} (h : GS S) : mR S 5 1 = some 6 := h (5, 1, 6) (List.mem_of_getElem? (i := 21) rfl)
theorem gs_9_1 {S : pv_M} (h : GS S) : mR S 9 1 = some 10 := h (9, 1, 10) (List.mem_of_getElem? (i := 22) rfl)
theorem gs_12_1 {S : pv_M} (h : GS S) : mR S 12 1 = some 13 := h (12, 1, 13) (List.mem_of_getElem? (i := 23) rfl)
theorem gs_19_1 {S : pv_M} (h : GS S) : mR S 19 1 = some 20 := h (19, 1, 20) (List.mem_of_getElem? (i := 24) rfl)
theorem gs_38_1 {S : pv_M} (h : GS S) : mR S 38 1 = some 39 := h (38, 1, 39) (List.mem_of_getElem? (i := 25) rfl)
theorem gs_53_1 {S : pv_M} (h : GS S) : mR S 53 1 = some 54 := h (53, 1, 54) (List.mem_of_getElem? (i := 26) rfl)
theorem gs_55_1 {S : pv_M} (h : GS S) : mR S 55 1 = some 56 := h (55, 1, 56) (List.mem_of_getElem? (i := 27) rfl)
theorem gs_57_1 {S : pv_M} (h : GS S) : mR S 57 1 = some 58 := h (57, 1, 58) (List.mem_of_getElem? (i := 28) rfl)
theorem gs_59_1 {S : pv_M} (h : GS S) : mR S 59 1 = some 60 := h (59, 1, 60) (List.mem_of_getElem? (i := 29) rfl)
theorem gs_61_1 {S : pv_M} (h : GS S) : mR S 61 1 = some 62 := h (61, 1, 62) (List.mem_of_getElem? (i := 30) rfl)
theorem gs_63_1 {S : pv_M} (h : GS S) : mR S 63 1 = some 64 := h (63, 1, 64) (List.mem_of_getElem? (i := 31) rfl)
theorem gs_11_2 {S : pv_M} (h : GS S) : mR S 11 2 = some 14 := h (11, 2, 14) (List.mem_of_getElem? (i := 32) rfl)
theorem gs_14_0 {S : pv_M} (h : GS S) : mR S 14 0 = some 15 := h (14, 0, 15) (List.mem_of_getElem? (i := 33) rfl)
theorem gs_16_1 {S : pv_M} (h : GS S) : mR S 16 1 = some 17 := h (16, 1, 17) (List.mem_of_getElem? (i := 34) rfl)
theorem gs_17_0 {S : pv_M} (h : GS S) : mR S 17 0 = some 18 := h (17, 0, 18) (List.mem_of_getElem? (i := 35) rfl)
theorem gs_21_2 {S : pv_M} (h : GS S) : mR S 21 2 = some 22 := h (21, 2, 22) (List.mem_of_getElem? (i := 36) rfl)
theorem gs_21_3 {S : pv_M} (h : GS S) : mR S 21 3 = some 23 := h (21, 3, 23) (List.mem_of_getElem? (i := 37) rfl)
theorem gs_65_2 {S : pv_M} (h : GS S) : mR S 65 2 = some 66 := h (65, 2, 66) (List.mem_of_getElem? (i := 38) rfl)
theorem gs_65_3 {S : pv_M} (h : GS S) : mR S 65 3 = some 67 := h (65, 3, 67) (List.mem_of_getElem? (i := 39) rfl)
theorem gs_70_2 {S : pv_M} (h : GS S) : mR S 70 2 = some 71 := h (70, 2, 71) (List.mem_of_getElem? (i := 40) rfl)
theorem gs_70_3 {S : pv_M} (h : GS S) : mR S 70 3 = some 72 := h (70, 3, 72) (List.mem_of_getElem? (i := 41) rfl)
theorem gs_26_1 {S : pv_M} (h : GS S) : mR S 26 1 = some 27 := h (26, 1, 27) (List.mem_of_getElem? (i := 42) rfl)
theorem gs_26_2 {S : pv_M} (h : GS S) : mR S 26 2 = some 28 := h (26, 2, 28) (List.mem_of_getElem? (i := 43) rfl)
theorem gs_29_0 {S : pv_M} (h : GS S) : mR S 29 0 = some 26 := h (29, 0, 26) (List.mem_of_getElem? (i := 44) rfl)
theorem gs_29_2 {S : pv_M} (h : GS S) : mR S 29 2 = some 30 := h (29, 2, 30) (List.mem_of_getElem? (i := 45) rfl)
theorem gs_29_3 {S : pv_M} (h : GS S) : mR S 29 3 = some 31 := h (29, 3, 31) (List.mem_of_getElem? (i := 46) rfl)
theorem gs_29_4 {S : pv_M} (h : GS S) : mR S 29 4 = some 32 := h (29, 4, 32) (List.mem_of_getElem? (i := 47) rfl)
theorem gs_29_5 {S : pv_M} (h : GS S) : mR S 29 5 = some 33 := h (29, 5, 33) (List.mem_of_getElem? (i := 48) rfl)
theorem gs_29_6 {S : pv_M} (h : GS S) : mR S 29 6 = some 34 := h (29, 6, 34) (List.mem_of_getElem? (i := 49) rfl)
theorem gs_37_0 {S : pv_M} (h : GS S) : mR S 37 0 = some 38 := h (37, 0, 38) (List.mem_of_getElem? (i := 50) rfl)
theorem gs_37_1 {S : pv_M} (h : GS S) : mR S 37 1 = some 26 := h (37, 1, 26) (List.mem_of_getElem? (i := 51) rfl)
theorem gs_37_2 {S : pv_M} (h : GS S) : mR S 37 2 = some 40 := h (37, 2, 40) (List.mem_of_getElem? (i := 52) rfl)
theorem gs_37_3 {S : pv_M} (h : GS S) : mR S 37 3 = some 42 := h (37, 3, 42) (List.mem_of_getElem? (i := 53) rfl)
theorem gs_37_4 {S : pv_M} (h : GS S) : mR S 37 4 = some 44 := h (37, 4, 44) (List.mem_of_getElem? (i := 54) rfl)
theorem gs_37_6 {S : pv_M} (h : GS S) : mR S 37 6 = some 46 := h (37, 6, 46) (List.mem_of_getElem? (i := 55) rfl)
theorem gs_37_8 {S : pv_M} (h : GS S) : mR S 37 8 = some 47 := h (37, 8, 47) (List.mem_of_getElem? (i := 56) rfl)
theorem gs_37_9 {S : pv_M} (h : GS S) : mR S 37 9 = some 48 := h (37, 9, 48) (List.mem_of_getElem? (i := 57) rfl)
theorem gs_37_10 {S : pv_M} (h : GS S) : mR S 37 10 = some 49 := h (37, 10, 49) (List.mem_of_getElem? (i := 58) rfl)
theorem gs_37_11 {S : pv_M} (h : GS S) : mR S 37 11 = some 50 := h (37, 11, 50) (List.mem_of_getElem? (i := 59) rfl)
theorem gs_37_12 {S : pv_M} (h : GS S) : mR S 37 12 = some 51 := h (37, 12, 51) (List.mem_of_getElem? (i := 60) rfl)
theorem gs_37_13 {S : pv_M} (h : GS S) : mR S 37 13 = some 52 := h (37, 13, 52) (List.mem_of_getElem? (i := 61) rfl)
theorem gs_40_0 {S : pv_M} (h : GS S) : mR S 40 0 = some 41 := h (40, 0, 41) (List.mem_of_getElem? (i := 62) rfl)
theorem gs_42_0 {S : pv_M} (h : GS S) : mR S 42 0 = some 43 := h (42, 0, 43) (List.mem_of_getElem? (i := 63) rfl)
theorem gs_44_0 {S : pv_M} (h : GS S) : mR S 44 0 = some 45 := h (44, 0, 45) (List.mem_of_getElem? (i := 64) rfl)
theorem gs_75_1 {S : pv_M} (h : GS S) : mR S 75 1 = some 76 := h (75, 1, 76) (List.mem_of_getElem? (i := 65) rfl)
theorem gs_75_2 {S : pv_M} (h : GS S) : mR S 75 2 = some 77 := h (75, 2, 77) (List.mem_of_getElem? (i := 66) rfl)
theorem gs_75_3 {S : pv_M} (h : GS S) : mR S 75 3 = some 78 := h (75, 3, 78) (List.mem_of_getElem? (i := 67) rfl)
theorem gs_75_5 {S : pv_M} (h : GS S) : mR S 75 5 = some 79 := h (75, 5, 79) (List.mem_of_getElem? (i := 68) rfl)
theorem gs_75_6 {S : pv_M} (h : GS S) : mR S 75 6 = some 80 := h (75, 6, 80) (List.mem_of_getElem? (i := 69) rfl)
theorem gs_75_7 {S : pv_M} (h : GS S) : mR S 75 7 = some 81 := h (75, 7, 81) (List.mem_of_getElem? (i := 70) rfl)
theorem gs_75_8 {S : pv_M} (h : GS S) : mR S 75 8 = some 82 := h (75, 8, 82) (List.mem_of_getElem? (i := 71) rfl)
theorem gs_75_9 {S : pv_M} (h : GS S) : mR S 75 9 = some 83 := h (75, 9, 83) (List.mem_of_getElem? (i := 72) rfl)
theorem gs_75_11 {S : pv_M} (h : GS S) : mR S 75 11 = some 84 := h (75, 11, 84) (List.mem_of_getElem? (i := 73) rfl)
theorem gs_75_12 {S : pv_M} (h : GS S) : mR S 75 12 = some 85 := h (75, 12, 85) (List.mem_of_getElem? (i := 74) rfl)
theorem gs_75_13 {S : pv_M} (h : GS S) : mR S 75 13 = some 86 := h (75, 13, 86) (List.mem_of_getElem? (i := 75) rfl)
theorem gs_75_15 {S : pv_M} (h : GS S) : mR S 75 15 = some 87 := h (75, 15, 87) (List.mem_of_getElem? (i := 76) rfl)
theorem gs_75_18 {S : pv_M} (h : GS S) : mR S 75 18 = some 88 := h (75, 18, 88) (List.mem_of_getElem? (i := 77) rfl)
theorem gs_75_19 {S : pv_M} (h : GS S) : mR S 75 19 = some 89 := h (75, 19, 89) (List.mem_of_getElem? (i := 78) rfl)
theorem gs_75_20 {S : pv_M} (h : GS S) : mR S 75 20 = some 90 := h (75, 20, 90) (List.mem_of_getElem? (i := 79) rfl)
theorem gs_75_25 {S : pv_M} (h : GS S) : mR S 75 25 = some 91 := h (75, 25, 91) (List.mem_of_getElem? (i := 80) rfl)
theorem gs_75_26 {S : pv_M} (h : GS S) : mR S 75 26 = some 92 := h (75, 26, 92) (List.mem_of_getElem? (i := 81) rfl)
theorem gs_75_27 {S : pv_M} (h : GS S) : mR S 75 27 = some 93 := h (75, 27, 93) (List.mem_of_getElem? (i := 82) rfl)
theorem gs_75_28 {S : pv_M} (h : GS S) : mR S 75 28 = some 94 := h (75, 28, 94) (List.mem_of_getElem? (i := 83) rfl)
theorem gs_75_31 {S : pv_M} (h : GS S) : mR S 75 31 = some 95 := h (75, 31, 95) (List.mem_of_getElem? (i := 84) rfl)
theorem gs_75_32 {S : pv_M} (h : GS S) : mR S 75 32 = some 96 := h (75, 32, 96) (List.mem_of_getElem? (i := 85) rfl)
theorem gs_75_34 {S : pv_M} (h : GS S) : mR S 75 34 = some 97 := h (75, 34, 97) (List.mem_of_getElem? (i := 86) rfl)
theorem gs_75_35 {S : pv_M} (h : GS S) : mR S 75 35 = some 98 := h (75, 35, 98) (List.mem_of_getElem? (i := 87) rfl)
theorem gs_75_37 {S : pv_M} (h : GS S) : mR S 75 37 = some 99 := h (75, 37, 99) (List.mem_of_getElem? (i := 88) rfl)
theorem gs_75_38 {S : pv_M} (h : GS S) : mR S 75 38 = some 100 := h (75, 38, 100) (List.mem_of_getElem? (i := 89) rfl)
theorem gs_75_39 {S : pv_M} (h : GS S) : mR S 75 39 = some 101 := h (75, 39, 101) (List.mem_of_getElem? (i := 90) rfl)
theorem gs_75_41 {S : pv_M} (h : GS S) : mR S 75 41 = some 102 := h (75, 41, 102) (List.mem_of_getElem? (i := 91) rfl)
theorem gs_75_42 {S : pv_M} (h : GS S) : mR S 75 42 = some 103 := h (75, 42, 103) (List.mem_of_getElem? (i := 92) rfl)
theorem GS.fn {P : Nat → Prop} {S S' : pv_M} (h : GS S) (k : FN P S S') : GS S' := fun e he => by rw [k.1]; exact h e he
/-- the references that change: those of the minimizer's kinds, the product, the concatenation and the rows -/
def mutR (i k : Nat) : Bool := (i == 29 && (k == 8 || k == 9)) || (i == 8 && (k == 1 || k == 2)) || (i == 11 && k == 0) || ((i == 21 || i == 65 || i == 70) && (k == 4 || k == 5))
theorem GS.of {S S' : pv_M} (h : GS S) (q : ∀ i k, mutR i k = false → mR S' i k = mR S i k) : GS S' := by
  have key : ∀ e ∈ pv_stl, mutR e.1 e.2.1 = false := by decide +kernel
  intro e he
  rw [q _ _ (key e he)]
  exact h e he
theorem GS.reg {S : pv_M} (h : GS S) {j : Nat} (hj : j < 3) : mR S 1 j = some (53 + 4 * j) := by
  have : j = 0 ∨ j = 1 ∨ j = 2 := by omega
  rcases this with rfl | rfl | rfl
  · exact gs_1_0 h
  · exact gs_1_1 h
  · exact gs_1_2 h
theorem GS.sreg {S : pv_M} (h : GS S) {j : Nat} (hj : j < 3) : mR S 2 j = some (55 + 4 * j) := by
  have : j = 0 ∨ j = 1 ∨ j = 2 := by omega
  rcases this with rfl | rfl | rfl
  · exact gs_2_0 h
  · exact gs_2_1 h
  · exact gs_2_2 h
/-- the register j, a good automaton -/
def RegAt (S : pv_M) (j n : Nat) (T : Nat → Nat) (F : Nat) : Prop := AutoAt S (53 + 4 * j) (54 + 4 * j) n T F ∧ 0 < n ∧ n ≤ 6 ∧ (∀ i, i < n * 3 → T i < n) ∧ F < 64

set_option maxRecDepth 100000 in
theorem k_checkState (l : Launch) {S : pv_M} {j n F : Nat} {T : Nat → Nat} (hS : GS S) (hj : j < 3) (hA : RegAt S j n T F) {s : Nat} (hs : s < n) : mt l MX11_checkState 106 [.ref 0, .int (nI (j)), .int (nI (s))] S (fun v S' => v = none ∧ S' = S) := by
  refine mt_of (by decide) (Nat.le_of_ble_eq_true rfl) ?_
  intro x hl hR hmL C E
  show GG x 106 0 0 [.ref 0, .int (nI (j)), .int (nI (s))] [] S 0
  have hn6 := hA.2.2.1
  refine g_iload_n C dX11_checkState_0 rfl ?_
  refine g_callS C (k_checkRegister _ hj) so_X11_88 dX11_checkState_1 rfl rfl (rm_ok (M' := MX11_checkState) hR (by decide)) (Nat.le_of_ble_eq_true rfl) (fun v9 S9 h9 => ?_)
  obtain ⟨rfl, h9⟩ := h9
  refine g_S S h9 ?_
  refine g_n0 [] rfl rfl rfl ?_
  refine g_iload_n C dX11_checkState_4 rfl ?_
  refine g_aload_n C dX11_checkState_5 rfl ?_
  refine g_getR C fo_X11_11 dX11_checkState_6 rfl (by decide) (fun _ => rfl) (gs_0_0 hS) ?_
  refine g_iload_n C dX11_checkState_9 rfl ?_
  refine g_aald C dX11_checkState_10 rfl (Or.inl rfl) (by decide) (by omega) rfl (hS.reg hj) ?_
  refine g_getI C fo_X11_117 dX11_checkState_11 hA.1.1 hA.1.2.1 (fun _ => rfl) hA.1.2.2.2.2.2.1 ?_
  refine g_callS C (k_checkIndex _ hs (by omega)) so_X11_140 dX11_checkState_14 rfl rfl (rm_ok (M' := MX11_checkState) hR (by decide)) (Nat.le_of_ble_eq_true rfl) (fun v9 S9 h9 => ?_)
  obtain ⟨rfl, h9⟩ := h9
  refine g_S S h9 ?_
  refine g_n0 [] rfl rfl rfl ?_
  exact g_vret C E dX11_checkState_17 (by rw [hR]; decide) (by rw [hR]; decide) ⟨rfl, rfl⟩

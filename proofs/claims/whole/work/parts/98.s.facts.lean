/-! what a new object of the class holds -/
theorem ea (b i j : Nat) : (b + i = b + j) = (i = j) := propext ⟨fun h => by omega, fun h => by omega⟩
theorem ea0 (b j : Nat) : (b = b + j) = (0 = j) := propext ⟨fun h => by omega, fun h => by omega⟩
theorem ea1 (b i : Nat) : (b + i = b) = (i = 0) := propext ⟨fun h => by omega, fun h => by omega⟩
theorem hN0 (b : Nat) : gN (hc0 b) = b + 1 := (kf0 b).1
theorem hN1 (b : Nat) : gN (hc1 b) = b + 2 := (kf1 b).1
theorem hN2 (b : Nat) : gN (hc2 b) = b + 3 := (kf2 b).1
theorem hN3 (b : Nat) : gN (hc3 b) = b + 3 := (kf3 b).1
theorem hN4 (b : Nat) : gN (hc4 b) = b + 4 := (kf4 b).1
theorem hN5 (b : Nat) : gN (hc5 b) = b + 5 := (kf5 b).1
theorem hN6 (b : Nat) : gN (hc6 b) = b + 5 := (kf6 b).1
theorem hN7 (b : Nat) : gN (hc7 b) = b + 6 := (kf7 b).1
theorem hN8 (b : Nat) : gN (hc8 b) = b + 7 := (kf8 b).1
theorem hN9 (b : Nat) : gN (hc9 b) = b + 8 := (kf9 b).1
theorem hN10 (b : Nat) : gN (hc10 b) = b + 8 := (kf10 b).1
theorem hN11 (b : Nat) : gN (hc11 b) = b + 9 := (kf11 b).1
theorem hN12 (b : Nat) : gN (hc12 b) = b + 10 := (kf12 b).1
theorem hN13 (b : Nat) : gN (hc13 b) = b + 11 := (kf13 b).1
theorem hN14 (b : Nat) : gN (hc14 b) = b + 12 := (kf14 b).1
theorem hN15 (b : Nat) : gN (hc15 b) = b + 13 := (kf15 b).1
theorem hN16 (b : Nat) : gN (hc16 b) = b + 13 := (kf16 b).1
theorem hN17 (b : Nat) : gN (hc17 b) = b + 13 := (kf17 b).1
theorem hN18 (b : Nat) : gN (hc18 b) = b + 13 := (kf18 b).1
theorem hN19 (b : Nat) : gN (hc19 b) = b + 13 := (kf19 b).1
theorem hN20 (b : Nat) : gN (hc20 b) = b + 14 := (kf20 b).1
theorem hN21 (b : Nat) : gN (hc21 b) = b + 15 := (kf21 b).1
theorem hN22 (b : Nat) : gN (hc22 b) = b + 16 := (kf22 b).1
theorem hN23 (b : Nat) : gN (hc23 b) = b + 16 := (kf23 b).1
theorem hN24 (b : Nat) : gN (hc24 b) = b + 17 := (kf24 b).1
theorem hN25 (b : Nat) : gN (hc25 b) = b + 18 := (kf25 b).1
theorem hN26 (b : Nat) : gN (hc26 b) = b + 18 := (kf26 b).1
theorem hN27 (b : Nat) : gN (hc27 b) = b + 18 := (kf27 b).1
theorem nR_400_0 (b : Nat) : gR (hc27 b) 400 b = some (b + 1) := by
  simp only [hc27, hc26, hc25, hc24, hc23, hc22, hc21, hc20, hc19, hc18, hc17, hc16, hc15, hc14, hc13, hc12, hc11, hc10, hc9, hc8, hc7, hc6, hc5, hc4, hc3, hc2, hc1, hc0, bgH, ↓hN0, ↓hN1, ↓hN2, ↓hN3, ↓hN4, ↓hN5, ↓hN6, ↓hN7, ↓hN8, ↓hN9, ↓hN10, ↓hN11, ↓hN12, ↓hN13, ↓hN14, ↓hN15, ↓hN16, ↓hN17, ↓hN18, ↓hN19, ↓hN20, ↓hN21, ↓hN22, ↓hN23, ↓hN24, ↓hN25, ↓hN26, ↓hN27, gR_pI, gR_pL, gR_pR, gR_pA, gR_pQ, gR_mk, z_R, z_N, Nat.reduceEqDiff, false_and, and_false, and_self, true_and, and_true, ↓reduceIte, ea, ea0, ea1]

/-! what a new object of the class holds -/
theorem ea (b i j : Nat) : (b + i = b + j) = (i = j) := propext ⟨fun h => by omega, fun h => by omega⟩
theorem ea0 (b j : Nat) : (b = b + j) = (0 = j) := propext ⟨fun h => by omega, fun h => by omega⟩
theorem ea1 (b i : Nat) : (b + i = b) = (i = 0) := propext ⟨fun h => by omega, fun h => by omega⟩
theorem hN0 (b : Nat) : gN (hc0 b) = b + 1 := (kf0 b).1
theorem hN1 (b : Nat) : gN (hc1 b) = b + 2 := (kf1 b).1
theorem hN2 (b : Nat) : gN (hc2 b) = b + 3 := (kf2 b).1
theorem hN3 (b : Nat) : gN (hc3 b) = b + 3 := (kf3 b).1
theorem hN4 (b : Nat) : gN (hc4 b) = b + 4 := (kf4 b).1
theorem hN5 (b : Nat) : gN (hc5 b) = b + 5 := (kf5 b).1
theorem hN6 (b : Nat) : gN (hc6 b) = b + 5 := (kf6 b).1
theorem hN7 (b : Nat) : gN (hc7 b) = b + 6 := (kf7 b).1
theorem hN8 (b : Nat) : gN (hc8 b) = b + 7 := (kf8 b).1
theorem hN9 (b : Nat) : gN (hc9 b) = b + 8 := (kf9 b).1
theorem hN10 (b : Nat) : gN (hc10 b) = b + 8 := (kf10 b).1
theorem hN11 (b : Nat) : gN (hc11 b) = b + 9 := (kf11 b).1
theorem hN12 (b : Nat) : gN (hc12 b) = b + 10 := (kf12 b).1
theorem hN13 (b : Nat) : gN (hc13 b) = b + 11 := (kf13 b).1
theorem hN14 (b : Nat) : gN (hc14 b) = b + 12 := (kf14 b).1
theorem hN15 (b : Nat) : gN (hc15 b) = b + 13 := (kf15 b).1
theorem hN16 (b : Nat) : gN (hc16 b) = b + 13 := (kf16 b).1
theorem hN17 (b : Nat) : gN (hc17 b) = b + 13 := (kf17 b).1
theorem hN18 (b : Nat) : gN (hc18 b) = b + 13 := (kf18 b).1
theorem hN19 (b : Nat) : gN (hc19 b) = b + 13 := (kf19 b).1
theorem hN20 (b : Nat) : gN (hc20 b) = b + 14 := (kf20 b).1
theorem hN21 (b : Nat) : gN (hc21 b) = b + 15 := (kf21 b).1
theorem hN22 (b : Nat) : gN (hc22 b) = b + 16 := (kf22 b).1
theorem hN23 (b : Nat) : gN (hc23 b) = b + 16 := (kf23 b).1
theorem hN24 (b : Nat) : gN (hc24 b) = b + 17 := (kf24 b).1
theorem hN25 (b : Nat) : gN (hc25 b) = b + 18 := (kf25 b).1
theorem hN26 (b : Nat) : gN (hc26 b) = b + 18 := (kf26 b).1
theorem hN27 (b : Nat) : gN (hc27 b) = b + 18 := (kf27 b).1
theorem sI0 (b f a : Nat) : gI (hc0 b) f a = if a = b then 0 else gI (sr_h0 b) f a := by
  unfold hc0
  rw [gI_mk, z_N]
theorem sI1 (b f a : Nat) : gI (hc1 b) f a = if a = b + 1 then 0 else gI (hc0 b) f a := by
  unfold hc1
  rw [gI_mk, hN0]
theorem sI2 (b f a : Nat) : gI (hc2 b) f a = if a = b + 2 then 0 else gI (hc1 b) f a := by
  unfold hc2
  rw [gI_pR, gI_mk, hN1]
theorem sI3 (b f a : Nat) : gI (hc3 b) f a = gI (hc2 b) f a := by
  unfold hc3
  rw [gI_pR]
theorem sI4 (b f a : Nat) : gI (hc4 b) f a = if a = b + 3 then 0 else gI (hc3 b) f a := by
  unfold hc4
  rw [gI_mk, hN3]
theorem sI5 (b f a : Nat) : gI (hc5 b) f a = if a = b + 4 then 0 else gI (hc4 b) f a := by
  unfold hc5
  rw [gI_pR, gI_mk, hN4]
theorem sI6 (b f a : Nat) : gI (hc6 b) f a = gI (hc5 b) f a := by
  unfold hc6
  rw [gI_pR]
theorem sI7 (b f a : Nat) : gI (hc7 b) f a = if a = b + 5 then 0 else gI (hc6 b) f a := by
  unfold hc7
  rw [gI_mk, hN6]
theorem sI8 (b f a : Nat) : gI (hc8 b) f a = if a = b + 6 then 0 else gI (hc7 b) f a := by
  unfold hc8
  rw [gI_pR, gI_mk, hN7]
theorem sI9 (b f a : Nat) : gI (hc9 b) f a = if a = b + 7 then 0 else gI (hc8 b) f a := by
  unfold hc9
  rw [gI_pR, gI_mk, hN8]
theorem sI10 (b f a : Nat) : gI (hc10 b) f a = gI (hc9 b) f a := by
  unfold hc10
  rw [gI_pR]
theorem sI11 (b f a : Nat) : gI (hc11 b) f a = if a = b + 8 then 0 else gI (hc10 b) f a := by
  unfold hc11
  rw [gI_mk, hN10]
theorem sI12 (b f a : Nat) : gI (hc12 b) f a = if a = b + 9 then 0 else gI (hc11 b) f a := by
  unfold hc12
  rw [gI_pR, gI_mk, hN11]
theorem sI13 (b f a : Nat) : gI (hc13 b) f a = if a = b + 10 then 0 else gI (hc12 b) f a := by
  unfold hc13
  rw [gI_mk, hN12]
theorem sI14 (b f a : Nat) : gI (hc14 b) f a = if a = b + 11 then 0 else gI (hc13 b) f a := by
  unfold hc14
  rw [gI_mk, hN13]
theorem sI15 (b f a : Nat) : gI (hc15 b) f a = if a = b + 12 then 0 else gI (hc14 b) f a := by
  unfold hc15
  rw [gI_pR, gI_mk, hN14]
theorem sI16 (b f a : Nat) : gI (hc16 b) f a = if f = 150 ∧ a = b + 10 then nI 0 else gI (hc15 b) f a := by
  unfold hc16
  rw [gI_pI, gI_pR]
theorem sI17 (b f a : Nat) : gI (hc17 b) f a = gI (hc16 b) f a := by
  unfold hc17
  rw [gI_pQ, gI_pR]
theorem sI18 (b f a : Nat) : gI (hc18 b) f a = if f = 352 ∧ a = b + 8 then nI 1 else if f = 163 ∧ a = b + 10 then nI 0 else if f = 162 ∧ a = b + 10 then nI 0 else if f = 51 ∧ a = b + 11 then nI 0 else if f = 155 ∧ a = b + 10 then nI 0 else if f = 153 ∧ a = b + 10 then nI 0 else if f = 152 ∧ a = b + 10 then nI 1 else gI (hc17 b) f a := by
  unfold hc18 bgH
  rw [gI_pI, gI_pI, gI_pI, gI_pI, gI_pR, gI_pR, gI_pR, gI_pR, gI_pR, gI_pI, gI_pL, gI_pI, gI_pI]
theorem sI19 (b f a : Nat) : gI (hc19 b) f a = gI (hc18 b) f a := by
  unfold hc19
  rw [gI_pR]
theorem sI20 (b f a : Nat) : gI (hc20 b) f a = if a = b + 13 then 0 else gI (hc19 b) f a := by
  unfold hc20
  rw [gI_mk, hN19]
theorem sI21 (b f a : Nat) : gI (hc21 b) f a = if a = b + 14 then 0 else gI (hc20 b) f a := by
  unfold hc21
  rw [gI_mk, hN20]
theorem sI22 (b f a : Nat) : gI (hc22 b) f a = if a = b + 15 then 0 else gI (hc21 b) f a := by
  unfold hc22
  rw [gI_pR, gI_mk, hN21]
theorem sI23 (b f a : Nat) : gI (hc23 b) f a = gI (hc22 b) f a := by
  unfold hc23
  rw [gI_pR]
theorem sI24 (b f a : Nat) : gI (hc24 b) f a = if a = b + 16 then 0 else gI (hc23 b) f a := by
  unfold hc24
  rw [gI_pR, gI_mk, hN23]
theorem sI25 (b f a : Nat) : gI (hc25 b) f a = if a = b + 17 then 0 else gI (hc24 b) f a := by
  unfold hc25
  rw [gI_pR, gI_mk, hN24]
theorem sI26 (b f a : Nat) : gI (hc26 b) f a = gI (hc25 b) f a := by
  unfold hc26
  rw [gI_pR, gI_pR, gI_pR]
theorem sI27 (b f a : Nat) : gI (hc27 b) f a = gI (hc26 b) f a := by
  unfold hc27
  rw [gI_pR]
theorem sL0 (b f a : Nat) : gL (hc0 b) f a = if a = b then 0 else gL (sr_h0 b) f a := by
  unfold hc0
  rw [gL_mk, z_N]
theorem sL1 (b f a : Nat) : gL (hc1 b) f a = if a = b + 1 then 0 else gL (hc0 b) f a := by
  unfold hc1
  rw [gL_mk, hN0]
theorem sL2 (b f a : Nat) : gL (hc2 b) f a = if a = b + 2 then 0 else gL (hc1 b) f a := by
  unfold hc2
  rw [gL_pR, gL_mk, hN1]
theorem sL3 (b f a : Nat) : gL (hc3 b) f a = gL (hc2 b) f a := by
  unfold hc3
  rw [gL_pR]
theorem sL4 (b f a : Nat) : gL (hc4 b) f a = if a = b + 3 then 0 else gL (hc3 b) f a := by
  unfold hc4
  rw [gL_mk, hN3]
theorem sL5 (b f a : Nat) : gL (hc5 b) f a = if a = b + 4 then 0 else gL (hc4 b) f a := by
  unfold hc5
  rw [gL_pR, gL_mk, hN4]
theorem sL6 (b f a : Nat) : gL (hc6 b) f a = gL (hc5 b) f a := by
  unfold hc6
  rw [gL_pR]
theorem sL7 (b f a : Nat) : gL (hc7 b) f a = if a = b + 5 then 0 else gL (hc6 b) f a := by
  unfold hc7
  rw [gL_mk, hN6]
theorem sL8 (b f a : Nat) : gL (hc8 b) f a = if a = b + 6 then 0 else gL (hc7 b) f a := by
  unfold hc8
  rw [gL_pR, gL_mk, hN7]
theorem sL9 (b f a : Nat) : gL (hc9 b) f a = if a = b + 7 then 0 else gL (hc8 b) f a := by
  unfold hc9
  rw [gL_pR, gL_mk, hN8]
theorem sL10 (b f a : Nat) : gL (hc10 b) f a = gL (hc9 b) f a := by
  unfold hc10
  rw [gL_pR]
theorem sL11 (b f a : Nat) : gL (hc11 b) f a = if a = b + 8 then 0 else gL (hc10 b) f a := by
  unfold hc11
  rw [gL_mk, hN10]
theorem sL12 (b f a : Nat) : gL (hc12 b) f a = if a = b + 9 then 0 else gL (hc11 b) f a := by
  unfold hc12
  rw [gL_pR, gL_mk, hN11]
theorem sL13 (b f a : Nat) : gL (hc13 b) f a = if a = b + 10 then 0 else gL (hc12 b) f a := by
  unfold hc13
  rw [gL_mk, hN12]
theorem sL14 (b f a : Nat) : gL (hc14 b) f a = if a = b + 11 then 0 else gL (hc13 b) f a := by
  unfold hc14
  rw [gL_mk, hN13]
theorem sL15 (b f a : Nat) : gL (hc15 b) f a = if a = b + 12 then 0 else gL (hc14 b) f a := by
  unfold hc15
  rw [gL_pR, gL_mk, hN14]
theorem sL16 (b f a : Nat) : gL (hc16 b) f a = gL (hc15 b) f a := by
  unfold hc16
  rw [gL_pI, gL_pR]
theorem sL17 (b f a : Nat) : gL (hc17 b) f a = gL (hc16 b) f a := by
  unfold hc17
  rw [gL_pQ, gL_pR]
theorem sL18 (b f a : Nat) : gL (hc18 b) f a = if f = 154 ∧ a = b + 10 then lN (pack [100, 105, 118]) else gL (hc17 b) f a := by
  unfold hc18 bgH
  rw [gL_pI, gL_pI, gL_pI, gL_pI, gL_pR, gL_pR, gL_pR, gL_pR, gL_pR, gL_pI, gL_pL, gL_pI, gL_pI]
theorem sL19 (b f a : Nat) : gL (hc19 b) f a = gL (hc18 b) f a := by
  unfold hc19
  rw [gL_pR]
theorem sL20 (b f a : Nat) : gL (hc20 b) f a = if a = b + 13 then 0 else gL (hc19 b) f a := by
  unfold hc20
  rw [gL_mk, hN19]
theorem sL21 (b f a : Nat) : gL (hc21 b) f a = if a = b + 14 then 0 else gL (hc20 b) f a := by
  unfold hc21
  rw [gL_mk, hN20]
theorem sL22 (b f a : Nat) : gL (hc22 b) f a = if a = b + 15 then 0 else gL (hc21 b) f a := by
  unfold hc22
  rw [gL_pR, gL_mk, hN21]
theorem sL23 (b f a : Nat) : gL (hc23 b) f a = gL (hc22 b) f a := by
  unfold hc23
  rw [gL_pR]
theorem sL24 (b f a : Nat) : gL (hc24 b) f a = if a = b + 16 then 0 else gL (hc23 b) f a := by
  unfold hc24
  rw [gL_pR, gL_mk, hN23]
theorem sL25 (b f a : Nat) : gL (hc25 b) f a = if a = b + 17 then 0 else gL (hc24 b) f a := by
  unfold hc25
  rw [gL_pR, gL_mk, hN24]
theorem sL26 (b f a : Nat) : gL (hc26 b) f a = gL (hc25 b) f a := by
  unfold hc26
  rw [gL_pR, gL_pR, gL_pR]
theorem sL27 (b f a : Nat) : gL (hc27 b) f a = gL (hc26 b) f a := by
  unfold hc27
  rw [gL_pR]
theorem sR0 (b f a : Nat) : gR (hc0 b) f a = if a = b then none else gR (sr_h0 b) f a := by
  unfold hc0
  rw [gR_mk, z_N]
theorem sR1 (b f a : Nat) : gR (hc1 b) f a = if a = b + 1 then none else gR (hc0 b) f a := by
  unfold hc1
  rw [gR_mk, hN0]
theorem sR2 (b f a : Nat) : gR (hc2 b) f a = if f = 300 ∧ a = b + 1 then some (b + 2) else if a = b + 2 then none else gR (hc1 b) f a := by
  unfold hc2
  rw [gR_pR, gR_mk, hN1]
theorem sR3 (b f a : Nat) : gR (hc3 b) f a = if f = 400 ∧ a = b then some (b + 1) else gR (hc2 b) f a := by
  unfold hc3
  rw [gR_pR]
theorem sR4 (b f a : Nat) : gR (hc4 b) f a = if a = b + 3 then none else gR (hc3 b) f a := by
  unfold hc4
  rw [gR_mk, hN3]
theorem sR5 (b f a : Nat) : gR (hc5 b) f a = if f = 200 ∧ a = b + 3 then some (b + 4) else if a = b + 4 then none else gR (hc4 b) f a := by
  unfold hc5
  rw [gR_pR, gR_mk, hN4]
theorem sR6 (b f a : Nat) : gR (hc6 b) f a = if f = 401 ∧ a = b then some (b + 3) else gR (hc5 b) f a := by
  unfold hc6
  rw [gR_pR]
theorem sR7 (b f a : Nat) : gR (hc7 b) f a = if a = b + 5 then none else gR (hc6 b) f a := by
  unfold hc7
  rw [gR_mk, hN6]
theorem sR8 (b f a : Nat) : gR (hc8 b) f a = if f = 100 ∧ a = b + 5 then some (b + 6) else if a = b + 6 then none else gR (hc7 b) f a := by
  unfold hc8
  rw [gR_pR, gR_mk, hN7]
theorem sR9 (b f a : Nat) : gR (hc9 b) f a = if f = 101 ∧ a = b + 5 then some (b + 7) else if a = b + 7 then none else gR (hc8 b) f a := by
  unfold hc9
  rw [gR_pR, gR_mk, hN8]
theorem sR10 (b f a : Nat) : gR (hc10 b) f a = if f = 402 ∧ a = b then some (b + 5) else gR (hc9 b) f a := by
  unfold hc10
  rw [gR_pR]
theorem sR11 (b f a : Nat) : gR (hc11 b) f a = if a = b + 8 then none else gR (hc10 b) f a := by
  unfold hc11
  rw [gR_mk, hN10]
theorem sR12 (b f a : Nat) : gR (hc12 b) f a = if f = 350 ∧ a = b + 8 then some (b + 9) else if a = b + 9 then none else gR (hc11 b) f a := by
  unfold hc12
  rw [gR_pR, gR_mk, hN11]
theorem sR13 (b f a : Nat) : gR (hc13 b) f a = if a = b + 10 then none else gR (hc12 b) f a := by
  unfold hc13
  rw [gR_mk, hN12]
theorem sR14 (b f a : Nat) : gR (hc14 b) f a = if a = b + 11 then none else gR (hc13 b) f a := by
  unfold hc14
  rw [gR_mk, hN13]
theorem sR15 (b f a : Nat) : gR (hc15 b) f a = if f = 50 ∧ a = b + 11 then some (b + 12) else if a = b + 12 then none else gR (hc14 b) f a := by
  unfold hc15
  rw [gR_pR, gR_mk, hN14]
theorem sR16 (b f a : Nat) : gR (hc16 b) f a = if f = 151 ∧ a = b + 10 then some (b + 11) else gR (hc15 b) f a := by
  unfold hc16
  rw [gR_pI, gR_pR]
theorem sR17 (b f a : Nat) : gR (hc17 b) f a = if f = 351 ∧ a = b + 8 then some (b + 10) else gR (hc16 b) f a := by
  unfold hc17
  rw [gR_pQ, gR_pR]
theorem sR18 (b f a : Nat) : gR (hc18 b) f a = if f = 160 ∧ a = b + 10 then none else if f = 159 ∧ a = b + 10 then none else if f = 158 ∧ a = b + 10 then none else if f = 157 ∧ a = b + 10 then none else if f = 156 ∧ a = b + 10 then none else gR (hc17 b) f a := by
  unfold hc18 bgH
  rw [gR_pI, gR_pI, gR_pI, gR_pI, gR_pR, gR_pR, gR_pR, gR_pR, gR_pR, gR_pI, gR_pL, gR_pI, gR_pI]
theorem sR19 (b f a : Nat) : gR (hc19 b) f a = if f = 403 ∧ a = b then some (b + 8) else gR (hc18 b) f a := by
  unfold hc19
  rw [gR_pR]
theorem sR20 (b f a : Nat) : gR (hc20 b) f a = if a = b + 13 then none else gR (hc19 b) f a := by
  unfold hc20
  rw [gR_mk, hN19]
theorem sR21 (b f a : Nat) : gR (hc21 b) f a = if a = b + 14 then none else gR (hc20 b) f a := by
  unfold hc21
  rw [gR_mk, hN20]
theorem sR22 (b f a : Nat) : gR (hc22 b) f a = if f = 50 ∧ a = b + 14 then some (b + 15) else if a = b + 15 then none else gR (hc21 b) f a := by
  unfold hc22
  rw [gR_pR, gR_mk, hN21]
theorem sR23 (b f a : Nat) : gR (hc23 b) f a = if f = 253 ∧ a = b + 13 then some (b + 14) else gR (hc22 b) f a := by
  unfold hc23
  rw [gR_pR]
theorem sR24 (b f a : Nat) : gR (hc24 b) f a = if f = 254 ∧ a = b + 13 then some (b + 16) else if a = b + 16 then none else gR (hc23 b) f a := by
  unfold hc24
  rw [gR_pR, gR_mk, hN23]
theorem sR25 (b f a : Nat) : gR (hc25 b) f a = if f = 255 ∧ a = b + 13 then some (b + 17) else if a = b + 17 then none else gR (hc24 b) f a := by
  unfold hc25
  rw [gR_pR, gR_mk, hN24]
theorem sR26 (b f a : Nat) : gR (hc26 b) f a = if f = 252 ∧ a = b + 13 then some (b + 5) else if f = 251 ∧ a = b + 13 then some (b + 8) else if f = 250 ∧ a = b + 13 then some (b + 1) else gR (hc25 b) f a := by
  unfold hc26
  rw [gR_pR, gR_pR, gR_pR]
theorem sR27 (b f a : Nat) : gR (hc27 b) f a = if f = 404 ∧ a = b then some (b + 13) else gR (hc26 b) f a := by
  unfold hc27
  rw [gR_pR]
theorem sA0 (b a i : Nat) : gA (hc0 b) a i = if a = b then 0 else gA (sr_h0 b) a i := by
  unfold hc0
  rw [gA_mk, z_N]
theorem sA1 (b a i : Nat) : gA (hc1 b) a i = if a = b + 1 then 0 else gA (hc0 b) a i := by
  unfold hc1
  rw [gA_mk, hN0]
theorem sA2 (b a i : Nat) : gA (hc2 b) a i = if a = b + 2 then 0 else gA (hc1 b) a i := by
  unfold hc2
  rw [gA_pR, gA_mk, hN1]
theorem sA3 (b a i : Nat) : gA (hc3 b) a i = gA (hc2 b) a i := by
  unfold hc3
  rw [gA_pR]
theorem sA4 (b a i : Nat) : gA (hc4 b) a i = if a = b + 3 then 0 else gA (hc3 b) a i := by
  unfold hc4
  rw [gA_mk, hN3]
theorem sA5 (b a i : Nat) : gA (hc5 b) a i = if a = b + 4 then 0 else gA (hc4 b) a i := by
  unfold hc5
  rw [gA_pR, gA_mk, hN4]
theorem sA6 (b a i : Nat) : gA (hc6 b) a i = gA (hc5 b) a i := by
  unfold hc6
  rw [gA_pR]
theorem sA7 (b a i : Nat) : gA (hc7 b) a i = if a = b + 5 then 0 else gA (hc6 b) a i := by
  unfold hc7
  rw [gA_mk, hN6]
theorem sA8 (b a i : Nat) : gA (hc8 b) a i = if a = b + 6 then 0 else gA (hc7 b) a i := by
  unfold hc8
  rw [gA_pR, gA_mk, hN7]
theorem sA9 (b a i : Nat) : gA (hc9 b) a i = if a = b + 7 then 0 else gA (hc8 b) a i := by
  unfold hc9
  rw [gA_pR, gA_mk, hN8]
theorem sA10 (b a i : Nat) : gA (hc10 b) a i = gA (hc9 b) a i := by
  unfold hc10
  rw [gA_pR]
theorem sA11 (b a i : Nat) : gA (hc11 b) a i = if a = b + 8 then 0 else gA (hc10 b) a i := by
  unfold hc11
  rw [gA_mk, hN10]
theorem sA12 (b a i : Nat) : gA (hc12 b) a i = if a = b + 9 then 0 else gA (hc11 b) a i := by
  unfold hc12
  rw [gA_pR, gA_mk, hN11]
theorem sA13 (b a i : Nat) : gA (hc13 b) a i = if a = b + 10 then 0 else gA (hc12 b) a i := by
  unfold hc13
  rw [gA_mk, hN12]
theorem sA14 (b a i : Nat) : gA (hc14 b) a i = if a = b + 11 then 0 else gA (hc13 b) a i := by
  unfold hc14
  rw [gA_mk, hN13]
theorem sA15 (b a i : Nat) : gA (hc15 b) a i = if a = b + 12 then 0 else gA (hc14 b) a i := by
  unfold hc15
  rw [gA_pR, gA_mk, hN14]
theorem sA16 (b a i : Nat) : gA (hc16 b) a i = gA (hc15 b) a i := by
  unfold hc16
  rw [gA_pI, gA_pR]
theorem sA17 (b a i : Nat) : gA (hc17 b) a i = gA (hc16 b) a i := by
  unfold hc17
  rw [gA_pQ, gA_pR]
theorem sA18 (b a i : Nat) : gA (hc18 b) a i = gA (hc17 b) a i := by
  unfold hc18 bgH
  rw [gA_pI, gA_pI, gA_pI, gA_pI, gA_pR, gA_pR, gA_pR, gA_pR, gA_pR, gA_pI, gA_pL, gA_pI, gA_pI]
theorem sA19 (b a i : Nat) : gA (hc19 b) a i = gA (hc18 b) a i := by
  unfold hc19
  rw [gA_pR]
theorem sA20 (b a i : Nat) : gA (hc20 b) a i = if a = b + 13 then 0 else gA (hc19 b) a i := by
  unfold hc20
  rw [gA_mk, hN19]
theorem sA21 (b a i : Nat) : gA (hc21 b) a i = if a = b + 14 then 0 else gA (hc20 b) a i := by
  unfold hc21
  rw [gA_mk, hN20]
theorem sA22 (b a i : Nat) : gA (hc22 b) a i = if a = b + 15 then 0 else gA (hc21 b) a i := by
  unfold hc22
  rw [gA_pR, gA_mk, hN21]
theorem sA23 (b a i : Nat) : gA (hc23 b) a i = gA (hc22 b) a i := by
  unfold hc23
  rw [gA_pR]
theorem sA24 (b a i : Nat) : gA (hc24 b) a i = if a = b + 16 then 0 else gA (hc23 b) a i := by
  unfold hc24
  rw [gA_pR, gA_mk, hN23]
theorem sA25 (b a i : Nat) : gA (hc25 b) a i = if a = b + 17 then 0 else gA (hc24 b) a i := by
  unfold hc25
  rw [gA_pR, gA_mk, hN24]
theorem sA26 (b a i : Nat) : gA (hc26 b) a i = gA (hc25 b) a i := by
  unfold hc26
  rw [gA_pR, gA_pR, gA_pR]
theorem sA27 (b a i : Nat) : gA (hc27 b) a i = gA (hc26 b) a i := by
  unfold hc27
  rw [gA_pR]
theorem sQ0 (b a i : Nat) : gQ (hc0 b) a i = if a = b then none else gQ (sr_h0 b) a i := by
  unfold hc0
  rw [gQ_mk, z_N]
theorem sQ1 (b a i : Nat) : gQ (hc1 b) a i = if a = b + 1 then none else gQ (hc0 b) a i := by
  unfold hc1
  rw [gQ_mk, hN0]
theorem sQ2 (b a i : Nat) : gQ (hc2 b) a i = if a = b + 2 then none else gQ (hc1 b) a i := by
  unfold hc2
  rw [gQ_pR, gQ_mk, hN1]
theorem sQ3 (b a i : Nat) : gQ (hc3 b) a i = gQ (hc2 b) a i := by
  unfold hc3
  rw [gQ_pR]
theorem sQ4 (b a i : Nat) : gQ (hc4 b) a i = if a = b + 3 then none else gQ (hc3 b) a i := by
  unfold hc4
  rw [gQ_mk, hN3]
theorem sQ5 (b a i : Nat) : gQ (hc5 b) a i = if a = b + 4 then none else gQ (hc4 b) a i := by
  unfold hc5
  rw [gQ_pR, gQ_mk, hN4]
theorem sQ6 (b a i : Nat) : gQ (hc6 b) a i = gQ (hc5 b) a i := by
  unfold hc6
  rw [gQ_pR]
theorem sQ7 (b a i : Nat) : gQ (hc7 b) a i = if a = b + 5 then none else gQ (hc6 b) a i := by
  unfold hc7
  rw [gQ_mk, hN6]
theorem sQ8 (b a i : Nat) : gQ (hc8 b) a i = if a = b + 6 then none else gQ (hc7 b) a i := by
  unfold hc8
  rw [gQ_pR, gQ_mk, hN7]
theorem sQ9 (b a i : Nat) : gQ (hc9 b) a i = if a = b + 7 then none else gQ (hc8 b) a i := by
  unfold hc9
  rw [gQ_pR, gQ_mk, hN8]
theorem sQ10 (b a i : Nat) : gQ (hc10 b) a i = gQ (hc9 b) a i := by
  unfold hc10
  rw [gQ_pR]
theorem sQ11 (b a i : Nat) : gQ (hc11 b) a i = if a = b + 8 then none else gQ (hc10 b) a i := by
  unfold hc11
  rw [gQ_mk, hN10]
theorem sQ12 (b a i : Nat) : gQ (hc12 b) a i = if a = b + 9 then none else gQ (hc11 b) a i := by
  unfold hc12
  rw [gQ_pR, gQ_mk, hN11]
theorem sQ13 (b a i : Nat) : gQ (hc13 b) a i = if a = b + 10 then none else gQ (hc12 b) a i := by
  unfold hc13
  rw [gQ_mk, hN12]
theorem sQ14 (b a i : Nat) : gQ (hc14 b) a i = if a = b + 11 then none else gQ (hc13 b) a i := by
  unfold hc14
  rw [gQ_mk, hN13]
theorem sQ15 (b a i : Nat) : gQ (hc15 b) a i = if a = b + 12 then none else gQ (hc14 b) a i := by
  unfold hc15
  rw [gQ_pR, gQ_mk, hN14]
theorem sQ16 (b a i : Nat) : gQ (hc16 b) a i = gQ (hc15 b) a i := by
  unfold hc16
  rw [gQ_pI, gQ_pR]
theorem sQ17 (b a i : Nat) : gQ (hc17 b) a i = if a = b + 9 ∧ i = 0 then some (b + 10) else gQ (hc16 b) a i := by
  unfold hc17
  rw [gQ_pQ, gQ_pR]
theorem sQ18 (b a i : Nat) : gQ (hc18 b) a i = gQ (hc17 b) a i := by
  unfold hc18 bgH
  rw [gQ_pI, gQ_pI, gQ_pI, gQ_pI, gQ_pR, gQ_pR, gQ_pR, gQ_pR, gQ_pR, gQ_pI, gQ_pL, gQ_pI, gQ_pI]
theorem sQ19 (b a i : Nat) : gQ (hc19 b) a i = gQ (hc18 b) a i := by
  unfold hc19
  rw [gQ_pR]
theorem sQ20 (b a i : Nat) : gQ (hc20 b) a i = if a = b + 13 then none else gQ (hc19 b) a i := by
  unfold hc20
  rw [gQ_mk, hN19]
theorem sQ21 (b a i : Nat) : gQ (hc21 b) a i = if a = b + 14 then none else gQ (hc20 b) a i := by
  unfold hc21
  rw [gQ_mk, hN20]
theorem sQ22 (b a i : Nat) : gQ (hc22 b) a i = if a = b + 15 then none else gQ (hc21 b) a i := by
  unfold hc22
  rw [gQ_pR, gQ_mk, hN21]
theorem sQ23 (b a i : Nat) : gQ (hc23 b) a i = gQ (hc22 b) a i := by
  unfold hc23
  rw [gQ_pR]
theorem sQ24 (b a i : Nat) : gQ (hc24 b) a i = if a = b + 16 then none else gQ (hc23 b) a i := by
  unfold hc24
  rw [gQ_pR, gQ_mk, hN23]
theorem sQ25 (b a i : Nat) : gQ (hc25 b) a i = if a = b + 17 then none else gQ (hc24 b) a i := by
  unfold hc25
  rw [gQ_pR, gQ_mk, hN24]
theorem sQ26 (b a i : Nat) : gQ (hc26 b) a i = gQ (hc25 b) a i := by
  unfold hc26
  rw [gQ_pR, gQ_pR, gQ_pR]
theorem sQ27 (b a i : Nat) : gQ (hc27 b) a i = gQ (hc26 b) a i := by
  unfold hc27
  rw [gQ_pR]
theorem nR_400_0 (b : Nat) : gR (hc27 b) 400 b = some (b + 1) := by
  simp only [sR27, sR26, sR25, sR24, sR23, sR22, sR21, sR20, sR19, sR18, sR17, sR16, sR15, sR14, sR13, sR12, sR11, sR10, sR9, sR8, sR7, sR6, sR5, sR4, sR3, sR2, sR1, sR0, z_R, Nat.reduceEqDiff, false_and, and_false, and_self, true_and, and_true, ↓reduceIte, ea, ea0, ea1]
theorem nR_401_0 (b : Nat) : gR (hc27 b) 401 b = some (b + 3) := by
  simp only [sR27, sR26, sR25, sR24, sR23, sR22, sR21, sR20, sR19, sR18, sR17, sR16, sR15, sR14, sR13, sR12, sR11, sR10, sR9, sR8, sR7, sR6, sR5, sR4, sR3, sR2, sR1, sR0, z_R, Nat.reduceEqDiff, false_and, and_false, and_self, true_and, and_true, ↓reduceIte, ea, ea0, ea1]
theorem nR_402_0 (b : Nat) : gR (hc27 b) 402 b = some (b + 5) := by
  simp only [sR27, sR26, sR25, sR24, sR23, sR22, sR21, sR20, sR19, sR18, sR17, sR16, sR15, sR14, sR13, sR12, sR11, sR10, sR9, sR8, sR7, sR6, sR5, sR4, sR3, sR2, sR1, sR0, z_R, Nat.reduceEqDiff, false_and, and_false, and_self, true_and, and_true, ↓reduceIte, ea, ea0, ea1]
theorem nR_403_0 (b : Nat) : gR (hc27 b) 403 b = some (b + 8) := by
  simp only [sR27, sR26, sR25, sR24, sR23, sR22, sR21, sR20, sR19, sR18, sR17, sR16, sR15, sR14, sR13, sR12, sR11, sR10, sR9, sR8, sR7, sR6, sR5, sR4, sR3, sR2, sR1, sR0, z_R, Nat.reduceEqDiff, false_and, and_false, and_self, true_and, and_true, ↓reduceIte, ea, ea0, ea1]
theorem nR_404_0 (b : Nat) : gR (hc27 b) 404 b = some (b + 13) := by
  simp only [sR27, sR26, sR25, sR24, sR23, sR22, sR21, sR20, sR19, sR18, sR17, sR16, sR15, sR14, sR13, sR12, sR11, sR10, sR9, sR8, sR7, sR6, sR5, sR4, sR3, sR2, sR1, sR0, z_R, Nat.reduceEqDiff, false_and, and_false, and_self, true_and, and_true, ↓reduceIte, ea, ea0, ea1]
theorem nR_300_1 (b : Nat) : gR (hc27 b) 300 (b + 1) = some (b + 2) := by
  simp only [sR27, sR26, sR25, sR24, sR23, sR22, sR21, sR20, sR19, sR18, sR17, sR16, sR15, sR14, sR13, sR12, sR11, sR10, sR9, sR8, sR7, sR6, sR5, sR4, sR3, sR2, sR1, sR0, z_R, Nat.reduceEqDiff, false_and, and_false, and_self, true_and, and_true, ↓reduceIte, ea, ea0, ea1]
theorem nR_200_3 (b : Nat) : gR (hc27 b) 200 (b + 3) = some (b + 4) := by
  simp only [sR27, sR26, sR25, sR24, sR23, sR22, sR21, sR20, sR19, sR18, sR17, sR16, sR15, sR14, sR13, sR12, sR11, sR10, sR9, sR8, sR7, sR6, sR5, sR4, sR3, sR2, sR1, sR0, z_R, Nat.reduceEqDiff, false_and, and_false, and_self, true_and, and_true, ↓reduceIte, ea, ea0, ea1]
theorem nR_100_5 (b : Nat) : gR (hc27 b) 100 (b + 5) = some (b + 6) := by
  simp only [sR27, sR26, sR25, sR24, sR23, sR22, sR21, sR20, sR19, sR18, sR17, sR16, sR15, sR14, sR13, sR12, sR11, sR10, sR9, sR8, sR7, sR6, sR5, sR4, sR3, sR2, sR1, sR0, z_R, Nat.reduceEqDiff, false_and, and_false, and_self, true_and, and_true, ↓reduceIte, ea, ea0, ea1]
theorem nR_101_5 (b : Nat) : gR (hc27 b) 101 (b + 5) = some (b + 7) := by
  simp only [sR27, sR26, sR25, sR24, sR23, sR22, sR21, sR20, sR19, sR18, sR17, sR16, sR15, sR14, sR13, sR12, sR11, sR10, sR9, sR8, sR7, sR6, sR5, sR4, sR3, sR2, sR1, sR0, z_R, Nat.reduceEqDiff, false_and, and_false, and_self, true_and, and_true, ↓reduceIte, ea, ea0, ea1]
theorem nR_350_8 (b : Nat) : gR (hc27 b) 350 (b + 8) = some (b + 9) := by
  simp only [sR27, sR26, sR25, sR24, sR23, sR22, sR21, sR20, sR19, sR18, sR17, sR16, sR15, sR14, sR13, sR12, sR11, sR10, sR9, sR8, sR7, sR6, sR5, sR4, sR3, sR2, sR1, sR0, z_R, Nat.reduceEqDiff, false_and, and_false, and_self, true_and, and_true, ↓reduceIte, ea, ea0, ea1]
theorem nR_351_8 (b : Nat) : gR (hc27 b) 351 (b + 8) = some (b + 10) := by
  simp only [sR27, sR26, sR25, sR24, sR23, sR22, sR21, sR20, sR19, sR18, sR17, sR16, sR15, sR14, sR13, sR12, sR11, sR10, sR9, sR8, sR7, sR6, sR5, sR4, sR3, sR2, sR1, sR0, z_R, Nat.reduceEqDiff, false_and, and_false, and_self, true_and, and_true, ↓reduceIte, ea, ea0, ea1]
theorem nR_151_10 (b : Nat) : gR (hc27 b) 151 (b + 10) = some (b + 11) := by
  simp only [sR27, sR26, sR25, sR24, sR23, sR22, sR21, sR20, sR19, sR18, sR17, sR16, sR15, sR14, sR13, sR12, sR11, sR10, sR9, sR8, sR7, sR6, sR5, sR4, sR3, sR2, sR1, sR0, z_R, Nat.reduceEqDiff, false_and, and_false, and_self, true_and, and_true, ↓reduceIte, ea, ea0, ea1]
theorem nR_156_10 (b : Nat) : gR (hc27 b) 156 (b + 10) = none := by
  simp only [sR27, sR26, sR25, sR24, sR23, sR22, sR21, sR20, sR19, sR18, sR17, sR16, sR15, sR14, sR13, sR12, sR11, sR10, sR9, sR8, sR7, sR6, sR5, sR4, sR3, sR2, sR1, sR0, z_R, Nat.reduceEqDiff, false_and, and_false, and_self, true_and, and_true, ↓reduceIte, ea, ea0, ea1]
theorem nR_157_10 (b : Nat) : gR (hc27 b) 157 (b + 10) = none := by
  simp only [sR27, sR26, sR25, sR24, sR23, sR22, sR21, sR20, sR19, sR18, sR17, sR16, sR15, sR14, sR13, sR12, sR11, sR10, sR9, sR8, sR7, sR6, sR5, sR4, sR3, sR2, sR1, sR0, z_R, Nat.reduceEqDiff, false_and, and_false, and_self, true_and, and_true, ↓reduceIte, ea, ea0, ea1]
theorem nR_158_10 (b : Nat) : gR (hc27 b) 158 (b + 10) = none := by
  simp only [sR27, sR26, sR25, sR24, sR23, sR22, sR21, sR20, sR19, sR18, sR17, sR16, sR15, sR14, sR13, sR12, sR11, sR10, sR9, sR8, sR7, sR6, sR5, sR4, sR3, sR2, sR1, sR0, z_R, Nat.reduceEqDiff, false_and, and_false, and_self, true_and, and_true, ↓reduceIte, ea, ea0, ea1]
theorem nR_159_10 (b : Nat) : gR (hc27 b) 159 (b + 10) = none := by
  simp only [sR27, sR26, sR25, sR24, sR23, sR22, sR21, sR20, sR19, sR18, sR17, sR16, sR15, sR14, sR13, sR12, sR11, sR10, sR9, sR8, sR7, sR6, sR5, sR4, sR3, sR2, sR1, sR0, z_R, Nat.reduceEqDiff, false_and, and_false, and_self, true_and, and_true, ↓reduceIte, ea, ea0, ea1]
theorem nR_160_10 (b : Nat) : gR (hc27 b) 160 (b + 10) = none := by
  simp only [sR27, sR26, sR25, sR24, sR23, sR22, sR21, sR20, sR19, sR18, sR17, sR16, sR15, sR14, sR13, sR12, sR11, sR10, sR9, sR8, sR7, sR6, sR5, sR4, sR3, sR2, sR1, sR0, z_R, Nat.reduceEqDiff, false_and, and_false, and_self, true_and, and_true, ↓reduceIte, ea, ea0, ea1]
theorem nR_161_10 (b : Nat) : gR (hc27 b) 161 (b + 10) = none := by
  simp only [sR27, sR26, sR25, sR24, sR23, sR22, sR21, sR20, sR19, sR18, sR17, sR16, sR15, sR14, sR13, sR12, sR11, sR10, sR9, sR8, sR7, sR6, sR5, sR4, sR3, sR2, sR1, sR0, z_R, Nat.reduceEqDiff, false_and, and_false, and_self, true_and, and_true, ↓reduceIte, ea, ea0, ea1]
theorem nR_50_11 (b : Nat) : gR (hc27 b) 50 (b + 11) = some (b + 12) := by
  simp only [sR27, sR26, sR25, sR24, sR23, sR22, sR21, sR20, sR19, sR18, sR17, sR16, sR15, sR14, sR13, sR12, sR11, sR10, sR9, sR8, sR7, sR6, sR5, sR4, sR3, sR2, sR1, sR0, z_R, Nat.reduceEqDiff, false_and, and_false, and_self, true_and, and_true, ↓reduceIte, ea, ea0, ea1]
theorem nR_50_14 (b : Nat) : gR (hc27 b) 50 (b + 14) = some (b + 15) := by
  simp only [sR27, sR26, sR25, sR24, sR23, sR22, sR21, sR20, sR19, sR18, sR17, sR16, sR15, sR14, sR13, sR12, sR11, sR10, sR9, sR8, sR7, sR6, sR5, sR4, sR3, sR2, sR1, sR0, z_R, Nat.reduceEqDiff, false_and, and_false, and_self, true_and, and_true, ↓reduceIte, ea, ea0, ea1]
theorem nR_250_13 (b : Nat) : gR (hc27 b) 250 (b + 13) = some (b + 1) := by
  simp only [sR27, sR26, sR25, sR24, sR23, sR22, sR21, sR20, sR19, sR18, sR17, sR16, sR15, sR14, sR13, sR12, sR11, sR10, sR9, sR8, sR7, sR6, sR5, sR4, sR3, sR2, sR1, sR0, z_R, Nat.reduceEqDiff, false_and, and_false, and_self, true_and, and_true, ↓reduceIte, ea, ea0, ea1]
theorem nR_251_13 (b : Nat) : gR (hc27 b) 251 (b + 13) = some (b + 8) := by
  simp only [sR27, sR26, sR25, sR24, sR23, sR22, sR21, sR20, sR19, sR18, sR17, sR16, sR15, sR14, sR13, sR12, sR11, sR10, sR9, sR8, sR7, sR6, sR5, sR4, sR3, sR2, sR1, sR0, z_R, Nat.reduceEqDiff, false_and, and_false, and_self, true_and, and_true, ↓reduceIte, ea, ea0, ea1]
theorem nR_252_13 (b : Nat) : gR (hc27 b) 252 (b + 13) = some (b + 5) := by
  simp only [sR27, sR26, sR25, sR24, sR23, sR22, sR21, sR20, sR19, sR18, sR17, sR16, sR15, sR14, sR13, sR12, sR11, sR10, sR9, sR8, sR7, sR6, sR5, sR4, sR3, sR2, sR1, sR0, z_R, Nat.reduceEqDiff, false_and, and_false, and_self, true_and, and_true, ↓reduceIte, ea, ea0, ea1]
theorem nR_253_13 (b : Nat) : gR (hc27 b) 253 (b + 13) = some (b + 14) := by
  simp only [sR27, sR26, sR25, sR24, sR23, sR22, sR21, sR20, sR19, sR18, sR17, sR16, sR15, sR14, sR13, sR12, sR11, sR10, sR9, sR8, sR7, sR6, sR5, sR4, sR3, sR2, sR1, sR0, z_R, Nat.reduceEqDiff, false_and, and_false, and_self, true_and, and_true, ↓reduceIte, ea, ea0, ea1]
theorem nR_254_13 (b : Nat) : gR (hc27 b) 254 (b + 13) = some (b + 16) := by
  simp only [sR27, sR26, sR25, sR24, sR23, sR22, sR21, sR20, sR19, sR18, sR17, sR16, sR15, sR14, sR13, sR12, sR11, sR10, sR9, sR8, sR7, sR6, sR5, sR4, sR3, sR2, sR1, sR0, z_R, Nat.reduceEqDiff, false_and, and_false, and_self, true_and, and_true, ↓reduceIte, ea, ea0, ea1]
theorem nR_255_13 (b : Nat) : gR (hc27 b) 255 (b + 13) = some (b + 17) := by
  simp only [sR27, sR26, sR25, sR24, sR23, sR22, sR21, sR20, sR19, sR18, sR17, sR16, sR15, sR14, sR13, sR12, sR11, sR10, sR9, sR8, sR7, sR6, sR5, sR4, sR3, sR2, sR1, sR0, z_R, Nat.reduceEqDiff, false_and, and_false, and_self, true_and, and_true, ↓reduceIte, ea, ea0, ea1]
theorem nI_301_1 (b : Nat) : gI (hc27 b) 301 (b + 1) = 0 := by
  simp only [sI27, sI26, sI25, sI24, sI23, sI22, sI21, sI20, sI19, sI18, sI17, sI16, sI15, sI14, sI13, sI12, sI11, sI10, sI9, sI8, sI7, sI6, sI5, sI4, sI3, sI2, sI1, sI0, z_I, Nat.reduceEqDiff, false_and, and_false, and_self, true_and, and_true, ↓reduceIte, ea, ea0, ea1]
theorem nI_201_3 (b : Nat) : gI (hc27 b) 201 (b + 3) = 0 := by
  simp only [sI27, sI26, sI25, sI24, sI23, sI22, sI21, sI20, sI19, sI18, sI17, sI16, sI15, sI14, sI13, sI12, sI11, sI10, sI9, sI8, sI7, sI6, sI5, sI4, sI3, sI2, sI1, sI0, z_I, Nat.reduceEqDiff, false_and, and_false, and_self, true_and, and_true, ↓reduceIte, ea, ea0, ea1]
theorem nI_102_5 (b : Nat) : gI (hc27 b) 102 (b + 5) = 0 := by
  simp only [sI27, sI26, sI25, sI24, sI23, sI22, sI21, sI20, sI19, sI18, sI17, sI16, sI15, sI14, sI13, sI12, sI11, sI10, sI9, sI8, sI7, sI6, sI5, sI4, sI3, sI2, sI1, sI0, z_I, Nat.reduceEqDiff, false_and, and_false, and_self, true_and, and_true, ↓reduceIte, ea, ea0, ea1]
theorem nI_352_8 (b : Nat) : gI (hc27 b) 352 (b + 8) = nI 1 := by
  simp only [sI27, sI26, sI25, sI24, sI23, sI22, sI21, sI20, sI19, sI18, sI17, sI16, sI15, sI14, sI13, sI12, sI11, sI10, sI9, sI8, sI7, sI6, sI5, sI4, sI3, sI2, sI1, sI0, z_I, Nat.reduceEqDiff, false_and, and_false, and_self, true_and, and_true, ↓reduceIte, ea, ea0, ea1]
theorem nI_150_10 (b : Nat) : gI (hc27 b) 150 (b + 10) = nI 0 := by
  simp only [sI27, sI26, sI25, sI24, sI23, sI22, sI21, sI20, sI19, sI18, sI17, sI16, sI15, sI14, sI13, sI12, sI11, sI10, sI9, sI8, sI7, sI6, sI5, sI4, sI3, sI2, sI1, sI0, z_I, Nat.reduceEqDiff, false_and, and_false, and_self, true_and, and_true, ↓reduceIte, ea, ea0, ea1]
theorem nI_152_10 (b : Nat) : gI (hc27 b) 152 (b + 10) = nI 1 := by
  simp only [sI27, sI26, sI25, sI24, sI23, sI22, sI21, sI20, sI19, sI18, sI17, sI16, sI15, sI14, sI13, sI12, sI11, sI10, sI9, sI8, sI7, sI6, sI5, sI4, sI3, sI2, sI1, sI0, z_I, Nat.reduceEqDiff, false_and, and_false, and_self, true_and, and_true, ↓reduceIte, ea, ea0, ea1]
theorem nI_153_10 (b : Nat) : gI (hc27 b) 153 (b + 10) = nI 0 := by
  simp only [sI27, sI26, sI25, sI24, sI23, sI22, sI21, sI20, sI19, sI18, sI17, sI16, sI15, sI14, sI13, sI12, sI11, sI10, sI9, sI8, sI7, sI6, sI5, sI4, sI3, sI2, sI1, sI0, z_I, Nat.reduceEqDiff, false_and, and_false, and_self, true_and, and_true, ↓reduceIte, ea, ea0, ea1]
theorem nI_155_10 (b : Nat) : gI (hc27 b) 155 (b + 10) = nI 0 := by
  simp only [sI27, sI26, sI25, sI24, sI23, sI22, sI21, sI20, sI19, sI18, sI17, sI16, sI15, sI14, sI13, sI12, sI11, sI10, sI9, sI8, sI7, sI6, sI5, sI4, sI3, sI2, sI1, sI0, z_I, Nat.reduceEqDiff, false_and, and_false, and_self, true_and, and_true, ↓reduceIte, ea, ea0, ea1]
theorem nI_162_10 (b : Nat) : gI (hc27 b) 162 (b + 10) = nI 0 := by
  simp only [sI27, sI26, sI25, sI24, sI23, sI22, sI21, sI20, sI19, sI18, sI17, sI16, sI15, sI14, sI13, sI12, sI11, sI10, sI9, sI8, sI7, sI6, sI5, sI4, sI3, sI2, sI1, sI0, z_I, Nat.reduceEqDiff, false_and, and_false, and_self, true_and, and_true, ↓reduceIte, ea, ea0, ea1]
theorem nI_163_10 (b : Nat) : gI (hc27 b) 163 (b + 10) = nI 0 := by
  simp only [sI27, sI26, sI25, sI24, sI23, sI22, sI21, sI20, sI19, sI18, sI17, sI16, sI15, sI14, sI13, sI12, sI11, sI10, sI9, sI8, sI7, sI6, sI5, sI4, sI3, sI2, sI1, sI0, z_I, Nat.reduceEqDiff, false_and, and_false, and_self, true_and, and_true, ↓reduceIte, ea, ea0, ea1]
theorem nI_51_11 (b : Nat) : gI (hc27 b) 51 (b + 11) = nI 0 := by
  simp only [sI27, sI26, sI25, sI24, sI23, sI22, sI21, sI20, sI19, sI18, sI17, sI16, sI15, sI14, sI13, sI12, sI11, sI10, sI9, sI8, sI7, sI6, sI5, sI4, sI3, sI2, sI1, sI0, z_I, Nat.reduceEqDiff, false_and, and_false, and_self, true_and, and_true, ↓reduceIte, ea, ea0, ea1]
theorem nI_51_14 (b : Nat) : gI (hc27 b) 51 (b + 14) = 0 := by
  simp only [sI27, sI26, sI25, sI24, sI23, sI22, sI21, sI20, sI19, sI18, sI17, sI16, sI15, sI14, sI13, sI12, sI11, sI10, sI9, sI8, sI7, sI6, sI5, sI4, sI3, sI2, sI1, sI0, z_I, Nat.reduceEqDiff, false_and, and_false, and_self, true_and, and_true, ↓reduceIte, ea, ea0, ea1]
theorem nL_154 (b : Nat) : gL (hc27 b) 154 (b + 10) = lN (pack [100, 105, 118]) := by
  simp only [sL27, sL26, sL25, sL24, sL23, sL22, sL21, sL20, sL19, sL18, sL17, sL16, sL15, sL14, sL13, sL12, sL11, sL10, sL9, sL8, sL7, sL6, sL5, sL4, sL3, sL2, sL1, sL0, z_L, Nat.reduceEqDiff, false_and, and_false, and_self, true_and, and_true, ↓reduceIte, ea, ea0, ea1]
theorem nQ_9 (b i : Nat) : gQ (hc27 b) (b + 9) i = if i = 0 then some (b + 10) else none := by
  simp only [sQ27, sQ26, sQ25, sQ24, sQ23, sQ22, sQ21, sQ20, sQ19, sQ18, sQ17, sQ16, sQ15, sQ14, sQ13, sQ12, sQ11, sQ10, sQ9, sQ8, sQ7, sQ6, sQ5, sQ4, sQ3, sQ2, sQ1, sQ0, z_Q, Nat.reduceEqDiff, false_and, and_false, and_self, true_and, and_true, ↓reduceIte, ea, ea0, ea1]
theorem nQ_12 (b i : Nat) : gQ (hc27 b) (b + 12) i = none := by
  simp only [sQ27, sQ26, sQ25, sQ24, sQ23, sQ22, sQ21, sQ20, sQ19, sQ18, sQ17, sQ16, sQ15, sQ14, sQ13, sQ12, sQ11, sQ10, sQ9, sQ8, sQ7, sQ6, sQ5, sQ4, sQ3, sQ2, sQ1, sQ0, z_Q, Nat.reduceEqDiff, false_and, and_false, and_self, true_and, and_true, ↓reduceIte, ea, ea0, ea1]
theorem nQ_15 (b i : Nat) : gQ (hc27 b) (b + 15) i = none := by
  simp only [sQ27, sQ26, sQ25, sQ24, sQ23, sQ22, sQ21, sQ20, sQ19, sQ18, sQ17, sQ16, sQ15, sQ14, sQ13, sQ12, sQ11, sQ10, sQ9, sQ8, sQ7, sQ6, sQ5, sQ4, sQ3, sQ2, sQ1, sQ0, z_Q, Nat.reduceEqDiff, false_and, and_false, and_self, true_and, and_true, ↓reduceIte, ea, ea0, ea1]
theorem nA_17 (b i : Nat) : gA (hc27 b) (b + 17) i = 0 := by
  simp only [sA27, sA26, sA25, sA24, sA23, sA22, sA21, sA20, sA19, sA18, sA17, sA16, sA15, sA14, sA13, sA12, sA11, sA10, sA9, sA8, sA7, sA6, sA5, sA4, sA3, sA2, sA1, sA0, z_A, Nat.reduceEqDiff, false_and, and_false, and_self, true_and, and_true, ↓reduceIte, ea, ea0, ea1]
theorem run_8 (b : Nat) : fX8_init (some b) (hc0 b) = some ((), hc27 b) := by
  have k0 : ∀ {p : Nat} {H : AH}, KF b p H → 0 < p → gK H b = (8 + 1, 0) := fun q hp => q.k 0 hp rfl
  have r1 : gR (hc20 b) 400 b = some (b + 1) := by
    simp only [sR20, sR19, sR18, sR17, sR16, sR15, sR14, sR13, sR12, sR11, sR10, sR9, sR8, sR7, sR6, sR5, sR4, sR3, sR2, sR1, sR0, z_R, Nat.reduceEqDiff, false_and, and_false, and_self, true_and, and_true, ↓reduceIte, ea, ea0, ea1]
  have r2 : gR (hc20 b) 403 b = some (b + 8) := by
    simp only [sR20, sR19, sR18, sR17, sR16, sR15, sR14, sR13, sR12, sR11, sR10, sR9, sR8, sR7, sR6, sR5, sR4, sR3, sR2, sR1, sR0, z_R, Nat.reduceEqDiff, false_and, and_false, and_self, true_and, and_true, ↓reduceIte, ea, ea0, ea1]
  have r3 : gR (hc20 b) 402 b = some (b + 5) := by
    simp only [sR20, sR19, sR18, sR17, sR16, sR15, sR14, sR13, sR12, sR11, sR10, sR9, sR8, sR7, sR6, sR5, sR4, sR3, sR2, sR1, sR0, z_R, Nat.reduceEqDiff, false_and, and_false, and_self, true_and, and_true, ↓reduceIte, ea, ea0, ea1]
  have s1 : ∀ (K : Option Nat → AH → Option (Unit × AH)), (cNO (hc0 b) 6 2 fun x1 h2 => cCV h2 6 x1 (fX6_init x1 h2) fun _ h3 => cPR h3 8 400 (some b) x1 fun h4 => K x1 h4) = K (some (b + 1)) (hc3 b) := fun K => by
    rw [oNO, hN0, show mkC (hc0 b) (6 + 1, 0) 2 = hc1 b from rfl, cv_of (c := 6) (k := 0) ((kf1 b).k 1 (by omega) rfl) (run_6 b)]
    exact pr_k (k0 (kf2 b) (by omega)) _ _ _
  have s2 : ∀ (K : Option Nat → AH → Option (Unit × AH)), (cNO (hc3 b) 4 2 fun x1 h2 => cCV h2 4 x1 (fX4_init x1 h2) fun _ h3 => cPR h3 8 401 (some b) x1 fun h4 => K x1 h4) = K (some (b + 3)) (hc6 b) := fun K => by
    rw [oNO, hN3, show mkC (hc3 b) (4 + 1, 0) 2 = hc4 b from rfl, cv_of (c := 4) (k := 0) ((kf4 b).k 3 (by omega) rfl) (run_4 b)]
    exact pr_k (k0 (kf5 b) (by omega)) _ _ _
  have s3 : ∀ (K : Option Nat → AH → Option (Unit × AH)), (cNO (hc6 b) 2 3 fun x1 h2 => cCV h2 2 x1 (fX2_init x1 h2) fun _ h3 => cPR h3 8 402 (some b) x1 fun h4 => K x1 h4) = K (some (b + 5)) (hc10 b) := fun K => by
    rw [oNO, hN6, show mkC (hc6 b) (2 + 1, 0) 3 = hc7 b from rfl, cv_of (c := 2) (k := 0) ((kf7 b).k 5 (by omega) rfl) (run_2 b)]
    exact pr_k (k0 (kf9 b) (by omega)) _ _ _
  have s4 : ∀ (K : Option Nat → AH → Option (Unit × AH)), (cNO (hc10 b) 7 3 fun x1 h2 => cCV h2 7 x1 (fX7_init x1 h2) fun _ h3 => cPR h3 8 403 (some b) x1 fun h4 => K x1 h4) = K (some (b + 8)) (hc19 b) := fun K => by
    rw [oNO, hN10, show mkC (hc10 b) (7 + 1, 0) 3 = hc11 b from rfl, cv_of (c := 7) (k := 0) ((kf11 b).k 8 (by omega) rfl) (run_7 b)]
    exact pr_k (k0 (kf18 b) (by omega)) _ _ _
  have s5 : (cNO (hc19 b) 5 8 fun x17 h18 => cGR h18 8 400 (some b) fun x19 => cGR h18 8 403 (some b) fun x20 => cGR h18 8 402 (some b) fun x21 => cCV h18 5 x17 (fX5_init x17 x19 x20 x21 h18) fun _ h22 => cPR h22 8 404 (some b) x17 fun h23 => some ((), h23)) = some ((), hc27 b) := by
    rw [oNO, hN19, show mkC (hc19 b) (5 + 1, 0) 8 = hc20 b from rfl, gr_of (k0 (kf20 b) (by omega)) r1, gr_of (k0 (kf20 b) (by omega)) r2, gr_of (k0 (kf20 b) (by omega)) r3, cv_of (c := 5) (k := 0) ((kf20 b).k 13 (by omega) rfl) (run_5 b)]
    exact pr_k (k0 (kf26 b) (by omega)) _ _ _
  simp only [fX8_init, fX8_init_0, oNN]
  rw [s1, s2, s3, s4]
  exact s5

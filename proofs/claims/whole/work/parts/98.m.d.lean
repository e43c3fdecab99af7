/-- the reference: the same -/
theorem ref_empty_L {m : Nat} {ra : Nat → Nat} : ∀ (j f i : Nat) (h : AH), i + j = 120 → j < f → RB h m ra → ∃ H, fX9_emptyTree_2 f (some m) (nI i) h = fX9_emptyTree_21 (some m) H ∧ Fr (fun _ _ => False) (fun a => a = ra 6) h H ∧ (∀ k, i ≤ k → k < 120 → gA H (ra 6) k = nI 0) ∧ ∀ k, k < i → gA H (ra 6) k = gA h (ra 6) k := by
  intro j
  induction j with
  | zero =>
    intro f i h hij hjf hB
    obtain ⟨f, rfl⟩ : ∃ g, f = g + 1 := ⟨f - 1, by omega⟩
    refine ⟨h, ?_, Fr.rf, fun k h1 h2 => by omega, fun _ _ => rfl⟩
    rw [fX9_emptyTree_2]
    simp (disch := omega) only [leN, show 120 ≤ i by omega, ↓reduceIte]
  | succ j ih =>
    intro f i h hij hjf hB
    obtain ⟨f, rfl⟩ : ∃ g, f = g + 1 := ⟨f - 1, by omega⟩
    obtain ⟨H, g, F, z1, z2⟩ := ih f (i + 1) (pA h (ra 6) i (nI 0)) (by omega) (by omega) hB
    have F0 : Fr (fun _ _ => False) (fun a => a = ra 6) h (pA h (ra 6) i (nI 0)) := Fr.pA Fr.rf rfl
    refine ⟨H, ?_, F0.tr F, fun k h1 h2 => ?_, fun k hk => ?_⟩
    · rw [fX9_emptyTree_2]
      simp (disch := omega) only [leN, show ¬ 120 ≤ i by omega, ↓reduceIte, ↓gr_of hB.o hB.r6, ↓as_of hB.k6 (show i < 120 by omega) (by omega), vn2a, nI_add]
      exact g
    · by_cases e : k = i
      · rw [z2 k (by omega), gA_pA, if_pos ⟨rfl, e⟩]
      · exact z1 k (by omega) h2
    · rw [z2 k (by omega), gA_pA, if_neg (by omega)]
theorem fr0_vals {H : AH} {m : Nat} {ra : Nat → Nat} (hi : ∀ i j, (ra i = ra j) = (i = j)) : gA (frH (pI H 475 m (nI 0)) ra m 0 (-1) 0 1) (ra 6) 0 = nI 1 ∧ (∀ j, j ≠ 0 → gA (frH (pI H 475 m (nI 0)) ra m 0 (-1) 0 1) (ra 6) j = gA H (ra 6) j) ∧ gA (frH (pI H 475 m (nI 0)) ra m 0 (-1) 0 1) (ra 10) 0 = -1 ∧ gA (frH (pI H 475 m (nI 0)) ra m 0 (-1) 0 1) (ra 11) 0 = -1 ∧ gA (frH (pI H 475 m (nI 0)) ra m 0 (-1) 0 1) (ra 12) 0 = -1 ∧ gA (frH (pI H 475 m (nI 0)) ra m 0 (-1) 0 1) (ra 13) 0 = -1 ∧ gA (frH (pI H 475 m (nI 0)) ra m 0 (-1) 0 1) (ra 14) 0 = -1 ∧ gA (frH (pI H 475 m (nI 0)) ra m 0 (-1) 0 1) (ra 15) 0 = nI 0 ∧ gA (frH (pI H 475 m (nI 0)) ra m 0 (-1) 0 1) (ra 16) 0 = nI 0 ∧ gA (frH (pI H 475 m (nI 0)) ra m 0 (-1) 0 1) (ra 22) 0 = nI 0 ∧ gA (frH (pI H 475 m (nI 0)) ra m 0 (-1) 0 1) (ra 23) 0 = nI 0 ∧ gI (frH (pI H 475 m (nI 0)) ra m 0 (-1) 0 1) 475 m = nI 1 := by
  unfold frH
  refine ⟨?_, fun j hj => ?_, ?_, ?_, ?_, ?_, ?_, ?_, ?_, ?_, ?_, ?_⟩
  · simp only [gA_pA, gA_pI, hi, Nat.reduceEqDiff, false_and, and_self, ↓reduceIte]
  · simp only [gA_pA, gA_pI, hi, Nat.reduceEqDiff, false_and, and_false, hj, ↓reduceIte]
  · simp only [gA_pA, gA_pI, hi, Nat.reduceEqDiff, false_and, and_self, ↓reduceIte]
  · simp only [gA_pA, gA_pI, hi, Nat.reduceEqDiff, false_and, and_self, ↓reduceIte]
  · simp only [gA_pA, gA_pI, hi, Nat.reduceEqDiff, false_and, and_self, ↓reduceIte]
  · simp only [gA_pA, gA_pI, hi, Nat.reduceEqDiff, false_and, and_self, ↓reduceIte]
  · simp only [gA_pA, gA_pI, hi, Nat.reduceEqDiff, false_and, and_self, ↓reduceIte]
  · simp only [gA_pA, gA_pI, hi, Nat.reduceEqDiff, false_and, and_self, ↓reduceIte]
  · simp only [gA_pA, gA_pI, hi, Nat.reduceEqDiff, false_and, and_self, ↓reduceIte]
  · simp only [gA_pA, gA_pI, hi, Nat.reduceEqDiff, false_and, and_self, ↓reduceIte]
  · simp only [gA_pA, gA_pI, hi, Nat.reduceEqDiff, false_and, and_self, ↓reduceIte]
  · simp only [gI_pA, gI_pI, and_self, ↓reduceIte]
theorem ref_freshRoot {H : AH} {m : Nat} {ra : Nat → Nat} (BH : RB H m ra) (z : gA H (ra 6) 0 = nI 0) : fX9_fresh (some m) (-1) (pI H 475 m (nI 0)) = some (nI 0, frH (pI H 475 m (nI 0)) ra m 0 (-1) 0 1) := by
  have B1 : RB (pI H 475 m (nI 0)) m ra := BH
  have z1' : gA (pI H 475 m (nI 0)) (ra 6) 0 = nI 0 := z
  have e475 : gI (pI H 475 m (nI 0)) 475 m = nI 0 := by rw [gI_pI, if_pos ⟨rfl, rfl⟩]
  obtain ⟨fu, hfu⟩ : ∃ q, FU = q + 1 := ⟨FU - 1, by have := FU_ge; omega⟩
  have hh : fX9_fresh (some m) (-1) (pI H 475 m (nI 0)) = fX9_fresh_41 (some m) (-1) (nI 0) (nI 0) (pI H 475 m (nI 0)) := by
    simp only [fX9_fresh, fX9_fresh_0, fX9_fresh_17, ↓reduceIte]
    rw [hfu, fX9_fresh_20]
    simp (disch := omega) only [leN, show ¬ 120 ≤ 0 by omega, ↓reduceIte, ↓gr_of B1.o B1.r6, ↓al_of B1.k6 (show 0 < 120 by omega) (by omega) z1', eq0n]
  rw [hh]
  generalize pI H 475 m (nI 0) = X at *
  simp only [fX9_fresh_41, fX9_fresh_198, frH]
  simp (disch := omega) only [eqN, leN, show ¬ 0 = 120 by omega, show 0 ≤ 20 by omega, ↓reduceIte]
  simp (disch := first | exact And.intro rfl rfl | omega) only [↓B1.g6, ↓B1.s6, ↓B1.gi, ↓B1.pi, ↓B1.g15, ↓B1.s15, ↓B1.g10, ↓B1.s10, ↓B1.g11, ↓B1.s11, ↓B1.g12, ↓B1.s12, ↓B1.g13, ↓B1.s13, ↓B1.g14, ↓B1.s14, ↓B1.g16, ↓B1.s16, ↓B1.g22, ↓B1.s22, ↓B1.g23, ↓B1.s23, ↓B1.g9, ↓B1.s9, gI_pA, nI_add, vn2a, vn2b, vn0, e475]

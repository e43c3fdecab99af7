/-- what THE ROOT alone is, in the arrays -/
def RtV (Y : AH) (m : Nat) (ra : Nat → Nat) : Prop := gI Y 475 m = nI 1 ∧ gA Y (ra 6) 0 = nI 1 ∧ (∀ j, j ≠ 0 → j < 120 → gA Y (ra 6) j = nI 0) ∧ gA Y (ra 7) 0 = nI 0 ∧ gA Y (ra 9) 0 = nI 3 ∧ gA Y (ra 8) 0 = nI 100 ∧ gA Y (ra 8) 1 = nI 105 ∧ gA Y (ra 8) 2 = nI 118 ∧ gA Y (ra 10) 0 = -1 ∧ gA Y (ra 11) 0 = -1 ∧ gA Y (ra 12) 0 = -1 ∧ gA Y (ra 13) 0 = -1 ∧ gA Y (ra 14) 0 = -1 ∧ gA Y (ra 15) 0 = nI 0 ∧ gA Y (ra 16) 0 = nI 0 ∧ gA Y (ra 22) 0 = nI 0 ∧ gA Y (ra 23) 0 = nI 0
theorem RtV.ref {Y : AH} {m : Nat} {ra : Nat → Nat} (q : RtV Y m ra) (T : TS) : RefT Y m ra (T0 T) := by
  obtain ⟨h475, v6, v6o, h7, h9, h80, h81, h82, v10, v11, v12, v13, v14, v15, v16, v22, v23⟩ := q
  obtain ⟨b1, b2, b3, b4, b5, b6, b7, b8, b9, b10, b11, b12⟩ := T0_at T
  have b13 := T0_cnt T
  have b14 : ∀ i, i ≠ 0 → tIs (T0 T) i = false := fun i e => by rw [T0_is, if_neg e]
  generalize T0 T = R at *
  refine ⟨by rw [b13]; exact h475, fun i hi => ?_⟩
  unfold RefN
  by_cases e : i = 0
  · subst e
    rw [b1, b2, b3, b4, b5, b6, b7, b8, b9, b10, b11, b12]
    refine ⟨v6, fun _ => ⟨h7, h9, fun k hk => ?_, v10, v11, v12, v13, v14, v15, v16, fun a ha => by simp at ha, v22, fun k hk => by simp at hk, v23⟩⟩
    have hk3 : k < 3 := hk
    rcases k with _ | _ | _ | k
    · exact h80
    · exact h81
    · exact h82
    · omega
  · rw [b14 i e, v6o i e hi]
    exact ⟨rfl, fun z => by cases z⟩
theorem RB.sA {h : AH} {m a i : Nat} {v : Int32} {ra : Nat → Nat} (q : RB h m ra) : RB (pA h a i v) m ra := q.eq (gR_pA _ _ _ _) (gK_pA _ _ _ _)
theorem ref_empty21 {H : AH} {m : Nat} {ra : Nat → Nat} (BH : RB H m ra) (z1 : ∀ k, k < 120 → gA H (ra 6) k = nI 0) : ∃ Y, fX9_emptyTree_21 (some m) H = some ((), Y) ∧ RtV Y m ra ∧ Fr (fun f a => f = 475 ∧ a = m) (fun a => ∃ k, (6 ≤ k ∧ k ≤ 23) ∧ a = ra k) H Y := by
  have B1 : RB (pI H 475 m (nI 0)) m ra := BH
  have gf := ref_freshRoot BH (z1 0 (by omega))
  have F2 : Fr (fun f a => f = 475 ∧ a = m) (fun a => ∃ k, (6 ≤ k ∧ k ≤ 23) ∧ a = ra k) H (pI H 475 m (nI 0)) := Fr.pI Fr.rf ⟨rfl, rfl⟩
  have FH : Fr (fun f a => f = 475 ∧ a = m) (fun a => ∃ k, (6 ≤ k ∧ k ≤ 23) ∧ a = ra k) (pI H 475 m (nI 0)) (frH (pI H 475 m (nI 0)) ra m 0 (-1) 0 1) := Fr.pA (Fr.pA (Fr.pA (Fr.pA (Fr.pA (Fr.pA (Fr.pA (Fr.pA (Fr.pA (Fr.pA (Fr.pI (Fr.pA Fr.rf ⟨6, by omega, rfl⟩) ⟨rfl, rfl⟩) ⟨15, by omega, rfl⟩) ⟨10, by omega, rfl⟩) ⟨11, by omega, rfl⟩) ⟨12, by omega, rfl⟩) ⟨13, by omega, rfl⟩) ⟨14, by omega, rfl⟩) ⟨16, by omega, rfl⟩) ⟨22, by omega, rfl⟩) ⟨23, by omega, rfl⟩) ⟨9, by omega, rfl⟩
  obtain ⟨v6, v6o, v10, v11, v12, v13, v14, v15, v16, v22, v23, v475⟩ := fr0_vals (H := H) (m := m) (ra := ra) BH.i
  generalize frH (pI H 475 m (nI 0)) ra m 0 (-1) 0 1 = X at *
  have BX : RB X m ra := FH.RB B1
  have X1 : RB (pA X (ra 7) 0 (nI 0)) m ra := BX.sA
  have X2 : RB (pA (pA X (ra 7) 0 (nI 0)) (ra 8) 0 (nI 100)) m ra := X1.sA
  have X3 : RB (pA (pA (pA X (ra 7) 0 (nI 0)) (ra 8) 0 (nI 100)) (ra 8) 1 (nI 105)) m ra := X2.sA
  have X4 : RB (pA (pA (pA (pA X (ra 7) 0 (nI 0)) (ra 8) 0 (nI 100)) (ra 8) 1 (nI 105)) (ra 8) 2 (nI 118)) m ra := X3.sA
  have hq : ∀ c j, c ≠ 7 → c ≠ 8 → c ≠ 9 → gA (pA (pA (pA (pA (pA X (ra 7) 0 (nI 0)) (ra 8) 0 (nI 100)) (ra 8) 1 (nI 105)) (ra 8) 2 (nI 118)) (ra 9) 0 (nI 3)) (ra c) j = gA X (ra c) j := fun c j h7 h8 h9 => by simp only [gA_pA, BH.i, h7, h8, h9, false_and, ↓reduceIte]
  refine ⟨pA (pA (pA (pA (pA X (ra 7) 0 (nI 0)) (ra 8) 0 (nI 100)) (ra 8) 1 (nI 105)) (ra 8) 2 (nI 118)) (ra 9) 0 (nI 3), ?_, ?_, F2.tr (FH.tr (Fr.pA (Fr.pA (Fr.pA (Fr.pA (Fr.pA Fr.rf ⟨7, by omega, rfl⟩) ⟨8, by omega, rfl⟩) ⟨8, by omega, rfl⟩) ⟨8, by omega, rfl⟩) ⟨9, by omega, rfl⟩))⟩
  · simp only [fX9_emptyTree_21]
    simp (disch := omega) only [↓pi_of BH.o, ↓cv_of B1.o gf, ↓gr_of BX.o BX.r7, ↓as_of BX.k7 (show 0 < 120 by omega) (by omega), vn0, vn1, nI_b (show 100 < 128 by omega), nI_b (show 105 < 128 by omega), nI_b (show 118 < 128 by omega), ↓gr_of X1.o X1.r8, ↓as_of X1.k8 (show 0 < 960 by omega) (by omega), ↓gr_of X2.o X2.r8, ↓as_of X2.k8 (show 1 < 960 by omega) (by omega), ↓gr_of X3.o X3.r8, ↓as_of X3.k8 (show 2 < 960 by omega) (by omega), ↓gr_of X4.o X4.r9, ↓as_of X4.k9 (show 0 < 120 by omega) (by omega)]
  · refine ⟨by rw [gI_pA, gI_pA, gI_pA, gI_pA, gI_pA]; exact v475, ?_, fun j hj hj2 => ?_, ?_, ?_, ?_, ?_, ?_, ?_, ?_, ?_, ?_, ?_, ?_, ?_, ?_, ?_⟩
    · rw [hq 6 0 (by omega) (by omega) (by omega)]; exact v6
    · rw [hq 6 j (by omega) (by omega) (by omega), v6o j hj]; exact z1 j hj2
    · simp only [gA_pA, BH.i, Nat.reduceEqDiff, false_and, and_self, ↓reduceIte]
    · simp only [gA_pA, and_self, ↓reduceIte]
    · simp only [gA_pA, BH.i, Nat.reduceEqDiff, false_and, and_false, and_self, ↓reduceIte]
    · simp only [gA_pA, BH.i, Nat.reduceEqDiff, false_and, and_false, and_self, ↓reduceIte]
    · simp only [gA_pA, BH.i, Nat.reduceEqDiff, false_and, and_false, and_self, ↓reduceIte]
    · rw [hq 10 0 (by omega) (by omega) (by omega)]; exact v10
    · rw [hq 11 0 (by omega) (by omega) (by omega)]; exact v11
    · rw [hq 12 0 (by omega) (by omega) (by omega)]; exact v12
    · rw [hq 13 0 (by omega) (by omega) (by omega)]; exact v13
    · rw [hq 14 0 (by omega) (by omega) (by omega)]; exact v14
    · rw [hq 15 0 (by omega) (by omega) (by omega)]; exact v15
    · rw [hq 16 0 (by omega) (by omega) (by omega)]; exact v16
    · rw [hq 22 0 (by omega) (by omega) (by omega)]; exact v22
    · rw [hq 23 0 (by omega) (by omega) (by omega)]; exact v23
theorem ref_emptyTree {h : AH} {m : Nat} {ra : Nat → Nat} (hB : RB h m ra) (T : TS) : ∃ h', fX9_emptyTree (some m) h = some ((), h') ∧ RefT h' m ra (T0 T) ∧ Fr (fun f a => f = 475 ∧ a = m) (fun a => ∃ k, (6 ≤ k ∧ k ≤ 23) ∧ a = ra k) h h' := by
  obtain ⟨H, g1, F1, z1, -⟩ := ref_empty_L (m := m) (ra := ra) 120 FU 0 h (by omega) (by have := FU_ge; omega) hB
  obtain ⟨Y, g2, V, F2⟩ := ref_empty21 (F1.RB hB) (fun k hk => z1 k (by omega) hk)
  refine ⟨Y, ?_, V.ref T, (F1.mo (fun _ _ z => z.elim) (fun a z => ⟨6, by omega, z⟩)).tr F2⟩
  simp only [fX9_emptyTree, fX9_emptyTree_0]
  rw [g1]
  exact g2

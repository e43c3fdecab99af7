theorem cls_restart {h : AH} {bs s0 : Nat} {sg : Nat → Nat} {ad : Nat → Nat → Nat → Nat} {T : TS} (hA : AdOk h bs s0 sg ad) (hC : ClsT h ad (sg 8) (sg 9) T) (hS : SizT T) (hu : tIs T 0 = true) : ∃ h1 ad1, fX7_restart (some (sg 8)) h = some ((), h1) ∧ AdOk h1 bs s0 sg ad1 ∧ ClsT h1 ad1 (sg 8) (sg 9) (T0 T) ∧ FrTB sg h ad h1 ad1 := by
  obtain ⟨h2, g2, A2, C2, F2, Q2⟩ := cls_restart_L (T := T) 120 FU 0 h (by omega) (by have := FU_ge; omega) hA (by rw [offK_0]; exact hC)
  rw [offK_A hS] at C2
  have hq0 : gQ h2 (sg 9) 0 = some (ad 1 0 0) := by rw [Q2]; exact (hC.nd (by omega) hu).1
  obtain ⟨k1, r1, k2, r2, i1, hN⟩ := id C2
  have hB : NdB h2 ad 0 := by
    rcases hN 0 (by omega) with ⟨q1, -⟩ | ⟨-, q2, -⟩
    · rw [q1] at hq0; cases hq0
    · exact q2
  obtain ⟨h3, ad3, g3, A3, C3, F3, E3⟩ := cls_begin (tag := 0) (nm := [100, 105, 118]) A2 C2 ⟨fun _ _ => rfl, fun i hi => by cases hi⟩ (show 0 < 120 by omega) rfl hq0 hB (by omega)
  have k3 := C3.1
  refine ⟨pI h3 352 (sg 8) (nI 1), ad3, ?_, A3.eq rfl rfl rfl, C3.p352 1, F2.tr (F3.tr ⟨FrX.pI FrX.rf (Or.inr (Or.inl rfl)), ExtT.same rfl⟩)⟩
  simp only [fX7_restart, fX7_restart_0]
  rw [g2]
  simp only [fX7_restart_36]
  rw [show (6580598 : Int64) = lN (pack [100, 105, 118]) by decide]
  simp only [↓gr_of k1 r2, ↓cv_of hB.1 g3, ↓pi_of k3]

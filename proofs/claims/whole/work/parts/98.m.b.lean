/-- the class: all NODES go -/
theorem offK_up (T : TS) (k : Nat) : uIs (offK T k) k false = offK T (k + 1) := by
  unfold uIs offK up
  simp only [Prod.mk.injEq, and_true]
  funext j
  by_cases e : j = k
  · rw [if_pos e, if_pos (by omega)]
  · by_cases e2 : j < k
    · rw [if_neg e, if_pos e2, if_pos (by omega)]
    · rw [if_neg e, if_neg e2, if_neg (by omega)]
theorem cls_restart_L {bs s0 : Nat} {sg : Nat → Nat} {ad : Nat → Nat → Nat → Nat} {T : TS} : ∀ (c f i : Nat) (h : AH), i + c = 120 → c < f → AdOk h bs s0 sg ad → ClsT h ad (sg 8) (sg 9) (offK T i) → ∃ h', fX7_restart_2 f (some (sg 8)) (nI i) h = fX7_restart_36 (some (sg 8)) h' ∧ AdOk h' bs s0 sg ad ∧ ClsT h' ad (sg 8) (sg 9) (offK T 120) ∧ FrTB sg h ad h' ad ∧ gQ h' = gQ h := by
  intro c
  induction c with
  | zero =>
    intro f i h hic hcf hA hC
    obtain ⟨f, rfl⟩ : ∃ g, f = g + 1 := ⟨f - 1, by omega⟩
    obtain ⟨k1, r1, k2, -⟩ := id hC
    have e : i = 120 := by omega
    subst e
    refine ⟨h, ?_, hA, hC, FrTB.rf, rfl⟩
    rw [fX7_restart_2]
    simp (disch := omega) only [↓gr_of k1 r1, ↓an_of k2, leN, Nat.le_refl, ↓reduceIte]
  | succ c ih =>
    intro f i h hic hcf hA hC
    obtain ⟨f, rfl⟩ : ∃ g, f = g + 1 := ⟨f - 1, by omega⟩
    obtain ⟨k1, r1, k2, r2, i1, hN⟩ := id hC
    have hi : i < 120 := by omega
    rw [fX7_restart_2]
    simp (disch := omega) only [↓gr_of k1 r1, ↓an_of k2, leN, show ¬ 120 ≤ i by omega, ↓reduceIte, fX7_restart_30, nI_add]
    rcases hN i hi with ⟨q1, q2, q3⟩ | ⟨q1, q2, q3, q4⟩
    · have hC' : ClsT h ad (sg 8) (sg 9) (offK T (i + 1)) := by
        rw [← offK_up]
        refine hC.teq ⟨fun j => ?_, rfl, fun j hj => ⟨rfl, rfl, rfl, rfl, rfl, rfl, rfl, rfl, rfl, rfl, rfl⟩⟩
        rw [tIs_uIs]
        split
        · rename_i e; rw [e, q2]
        · rfl
      obtain ⟨h2, g2, A2, C2, F2, Q2⟩ := ih f (i + 1) h (by omega) (by omega) hA hC'
      refine ⟨h2, ?_, A2, C2, F2, Q2⟩
      simp (disch := omega) only [↓ql_of k2 hi (by omega) q1, ↓reduceIte]
      exact g2
    · obtain ⟨b1, b2, b3, b4, b5⟩ := id q2
      have hC' : ClsT (pI h 152 (ad 1 i 0) (nI 0)) ad (sg 8) (sg 9) (offK T (i + 1)) := by
        rw [← offK_up]
        exact hC.up1 (i := i) hA.1 (fun j hj => by rw [tIs_uIs, if_neg hj]) (fun j hj _ => ⟨rfl, rfl, rfl, rfl, rfl, rfl, rfl, rfl, rfl, rfl, rfl⟩) (S := fun a => a = ad 1 i 0) (FrX.pI FrX.rf rfl) (fun a z => ⟨1, 0, z⟩) (fun c j => hA.2.2.1 c i j 9) (fun c j => hA.2.2.1 c i j 8) rfl rfl (Or.inr ⟨q1, ⟨b1, by rw [gI_pI, if_neg (by omega)]; exact b2, b3, AtB.pI b4, b5⟩, by rw [gI_pI, if_pos ⟨rfl, rfl⟩, tIs_uIs, if_pos rfl]; rfl, fun z => by rw [tIs_uIs, if_pos rfl] at z; cases z⟩)
      obtain ⟨h2, g2, A2, C2, F2, Q2⟩ := ih f (i + 1) (pI h 152 (ad 1 i 0) (nI 0)) (by omega) (by omega) (hA.eq rfl rfl rfl) hC'
      refine ⟨h2, ?_, A2, C2, (FrTB.node hA hi b1 (FrX.pI FrX.rf rfl) rfl).tr F2, Q2⟩
      simp (disch := omega) only [↓ql_of k2 hi (by omega) q1, some_ne, ↓reduceIte, ↓pi_of b1]
      exact g2
theorem offK_0 (T : TS) : offK T 0 = T := by
  unfold offK
  simp
theorem offK_A {T : TS} (hS : SizT T) : offK T 120 = offA T := by
  unfold offK offA
  simp only [Prod.mk.injEq, and_true]
  funext j
  by_cases h : j < 120
  · rw [if_pos h]
  · rw [if_neg h]
    exact hS.1 j (by omega)

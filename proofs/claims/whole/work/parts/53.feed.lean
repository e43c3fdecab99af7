/-- the class's object: its five parts -/
def CB (h : AH) (x t o f tr rd : Nat) : Prop := gK h x = (9, 0) ∧ gR h 400 x = some t ∧ gR h 401 x = some o ∧ gR h 402 x = some f ∧ gR h 403 x = some tr ∧ gR h 404 x = some rd
theorem CB.eq {h h' : AH} {x t o f tr rd : Nat} (q : CB h x t o f tr rd) (e1 : gR h' = gR h) (e2 : gK h' = gK h) : CB h' x t o f tr rd := by unfold CB; rw [e1, e2]; exact q
theorem Fr.CB {I : Nat → Nat → Prop} {A : Nat → Prop} {h h1 : AH} {x t o f tr rd : Nat} (q : Fr I A h h1) (b : CB h x t o f tr rd) : CB h1 x t o f tr rd := b.eq q.2.2.1 q.2.2.2.2.2.1
def p20 (tp : Nat → Int32) (n : Nat) (a b c d e : Int32) : Nat → Int32 := p4 (p4 (p4 (p4 (p4 tp n a) (n + 4) b) (n + 8) c) (n + 12) d) (n + 16) e
theorem cls_feed {h : AH} {x t o f tr rd b n : Nat} {tp : Nat → Int32} (hC : CB h x t o f tr rd) (hT : TapeC h t b n tp) (v1 v2 v3 v4 v5 : Int32) :
    ∃ h', fX8_feed (some x) v1 v2 v3 v4 v5 h = some (if n + 20 ≤ 2000 then nI (n + 20) else -1, h') ∧ FrT t b h h' ∧ (if n + 20 ≤ 2000 then TapeC h' t b (n + 20) (p20 tp n v1 v2 v3 v4 v5) else TapeC h' t b n tp) := by
  obtain ⟨c1, c2, -⟩ := id hC
  have hn := hT.2.2.2.2.1
  have e0 := hT.2.2.2.1
  have k0 := hT.1
  unfold fX8_feed fX8_feed_0
  by_cases hf : n + 20 ≤ 2000
  · obtain ⟨h1, g1, T1, F1⟩ := tape_pushInt hT (by omega) v1
    obtain ⟨h2, g2, T2, F2⟩ := tape_pushInt T1 (by omega) v2
    obtain ⟨h3, g3, T3, F3⟩ := tape_pushInt T2 (by omega) v3
    obtain ⟨h4, g4, T4, F4⟩ := tape_pushInt T3 (by omega) v4
    obtain ⟨h5, g5, T5, F5⟩ := tape_pushInt T4 (by omega) v5
    have C1 := F1.CB hC; have C2 := F2.CB C1; have C3 := F3.CB C2; have C4 := F4.CB C3; have C5 := F5.CB C4
    refine ⟨h5, ?_, F1.tr (F2.tr (F3.tr (F4.tr F5))), ?_⟩
    · simp (disch := omega) only [↓uGI, ↓uGL, ↓uGR, ↓uPI, ↓uPL, ↓uPR, ↓uAL, ↓uQL, ↓uAS, ↓uQS, ↓uAN, ↓uCV, ↓oCL, ↓oNO, ↓uNA, ↓oNN, ↓oZ0, ↓oZ1, gI_pI, gI_pL, gI_pR, gI_pA, gI_pQ, gL_pI, gL_pL, gL_pR, gL_pA, gL_pQ, gR_pI, gR_pL, gR_pR, gR_pA, gR_pQ, gA_pI, gA_pL, gA_pR, gA_pA, gA_pQ, gQ_pI, gQ_pL, gQ_pR, gQ_pA, gQ_pQ, gK_pI, gK_pL, gK_pR, gK_pA, gK_pQ, gN_pI, gN_pL, gN_pR, gN_pA, gN_pQ, gS_pI, gS_pL, gS_pR, gS_pA, gS_pQ, gI_mk, gL_mk, gR_mk, gA_mk, gQ_mk, gK_mk, gN_mk, gS_mk, vn0, vn1, lt0, leN, ltN, eqN, eqM1, M1eq, le0n, eq0n, nI_add, nI_mul, ↓reduceIte, Nat.reduceAdd, Nat.reduceMul, Nat.reduceEqDiff, Nat.reduceLT, Nat.reduceLeDiff, and_true, true_and, and_false, false_and, and_self, reduceCtorEq, not_true_eq_false, not_false_eq_true, c1, c2, k0, e0, hf, g1, C1.1, C1.2.1, T1.1, g2, C2.1, C2.2.1, T2.1, g3, C3.1, C3.2.1, T3.1, g4, C4.1, C4.2.1, T4.1, g5, C5.1, C5.2.1, T5.1, T5.2.2.2.1, show n + 4 + 4 + 4 + 4 + 4 = n + 20 by omega]
    · rw [if_pos hf]
      exact T5
  · refine ⟨h, ?_, Fr.rf, by rw [if_neg hf]; exact hT⟩
    simp (disch := omega) only [↓uGI, ↓uGL, ↓uGR, ↓uPI, ↓uPL, ↓uPR, ↓uAL, ↓uQL, ↓uAS, ↓uQS, ↓uAN, ↓uCV, ↓oCL, ↓oNO, ↓uNA, ↓oNN, ↓oZ0, ↓oZ1, gI_pI, gI_pL, gI_pR, gI_pA, gI_pQ, gL_pI, gL_pL, gL_pR, gL_pA, gL_pQ, gR_pI, gR_pL, gR_pR, gR_pA, gR_pQ, gA_pI, gA_pL, gA_pR, gA_pA, gA_pQ, gQ_pI, gQ_pL, gQ_pR, gQ_pA, gQ_pQ, gK_pI, gK_pL, gK_pR, gK_pA, gK_pQ, gN_pI, gN_pL, gN_pR, gN_pA, gN_pQ, gS_pI, gS_pL, gS_pR, gS_pA, gS_pQ, gI_mk, gL_mk, gR_mk, gA_mk, gQ_mk, gK_mk, gN_mk, gS_mk, vn0, vn1, lt0, leN, ltN, eqN, eqM1, M1eq, le0n, eq0n, nI_add, nI_mul, ↓reduceIte, Nat.reduceAdd, Nat.reduceMul, Nat.reduceEqDiff, Nat.reduceLT, Nat.reduceLeDiff, and_true, true_and, and_false, false_and, and_self, reduceCtorEq, not_true_eq_false, not_false_eq_true, c1, c2, k0, e0, hf]
theorem ref_feed {h : AH} {m n : Nat} {ra : Nat → Nat} {tp : Nat → Int32} (hB : RB h m ra) (hT : TapeR h m ra n tp) (v1 v2 v3 v4 v5 : Int32) :
    ∃ h', fX9_feed (some m) v1 v2 v3 v4 v5 h = some (if n + 20 ≤ 2000 then nI (n + 20) else -1, h') ∧ FrR m ra h h' ∧ (if n + 20 ≤ 2000 then TapeR h' m ra (n + 20) (p20 tp n v1 v2 v3 v4 v5) else TapeR h' m ra n tp) := by
  have hn := hT.2.1
  have e0 := hT.1
  unfold fX9_feed fX9_feed_0
  by_cases hf : n + 20 ≤ 2000
  · obtain ⟨h1, g1, T1, F1⟩ := refb_put4 hB hT (by omega) v1
    have B1 := F1.RB hB
    obtain ⟨h2, g2, T2, F2⟩ := refb_put4 B1 T1 (by omega) v2
    have B2 := F2.RB B1
    obtain ⟨h3, g3, T3, F3⟩ := refb_put4 B2 T2 (by omega) v3
    have B3 := F3.RB B2
    obtain ⟨h4, g4, T4, F4⟩ := refb_put4 B3 T3 (by omega) v4
    have B4 := F4.RB B3
    obtain ⟨h5, g5, T5, F5⟩ := refb_put4 B4 T4 (by omega) v5
    have B5 := F5.RB B4
    refine ⟨h5, ?_, F1.tr (F2.tr (F3.tr (F4.tr F5))), ?_⟩
    · simp (disch := omega) only [↓uGI, ↓uGL, ↓uGR, ↓uPI, ↓uPL, ↓uPR, ↓uAL, ↓uQL, ↓uAS, ↓uQS, ↓uAN, ↓uCV, ↓oCL, ↓oNO, ↓uNA, ↓oNN, ↓oZ0, ↓oZ1, gI_pI, gI_pL, gI_pR, gI_pA, gI_pQ, gL_pI, gL_pL, gL_pR, gL_pA, gL_pQ, gR_pI, gR_pL, gR_pR, gR_pA, gR_pQ, gA_pI, gA_pL, gA_pR, gA_pA, gA_pQ, gQ_pI, gQ_pL, gQ_pR, gQ_pA, gQ_pQ, gK_pI, gK_pL, gK_pR, gK_pA, gK_pQ, gN_pI, gN_pL, gN_pR, gN_pA, gN_pQ, gS_pI, gS_pL, gS_pR, gS_pA, gS_pQ, gI_mk, gL_mk, gR_mk, gA_mk, gQ_mk, gK_mk, gN_mk, gS_mk, vn0, vn1, lt0, leN, ltN, eqN, eqM1, M1eq, le0n, eq0n, nI_add, nI_mul, ↓reduceIte, Nat.reduceAdd, Nat.reduceMul, Nat.reduceEqDiff, Nat.reduceLT, Nat.reduceLeDiff, and_true, true_and, and_false, false_and, and_self, reduceCtorEq, not_true_eq_false, not_false_eq_true, hB.o, e0, hf, g1, B1.o, g2, B2.o, g3, B3.o, g4, B4.o, g5, B5.o, T5.1, show n + 4 + 4 + 4 + 4 + 4 = n + 20 by omega]
    · rw [if_pos hf]
      exact T5
  · refine ⟨h, ?_, Fr.rf, by rw [if_neg hf]; exact hT⟩
    simp (disch := omega) only [↓uGI, ↓uGL, ↓uGR, ↓uPI, ↓uPL, ↓uPR, ↓uAL, ↓uQL, ↓uAS, ↓uQS, ↓uAN, ↓uCV, ↓oCL, ↓oNO, ↓uNA, ↓oNN, ↓oZ0, ↓oZ1, gI_pI, gI_pL, gI_pR, gI_pA, gI_pQ, gL_pI, gL_pL, gL_pR, gL_pA, gL_pQ, gR_pI, gR_pL, gR_pR, gR_pA, gR_pQ, gA_pI, gA_pL, gA_pR, gA_pA, gA_pQ, gQ_pI, gQ_pL, gQ_pR, gQ_pA, gQ_pQ, gK_pI, gK_pL, gK_pR, gK_pA, gK_pQ, gN_pI, gN_pL, gN_pR, gN_pA, gN_pQ, gS_pI, gS_pL, gS_pR, gS_pA, gS_pQ, gI_mk, gL_mk, gR_mk, gA_mk, gQ_mk, gK_mk, gN_mk, gS_mk, vn0, vn1, lt0, leN, ltN, eqN, eqM1, M1eq, le0n, eq0n, nI_add, nI_mul, ↓reduceIte, Nat.reduceAdd, Nat.reduceMul, Nat.reduceEqDiff, Nat.reduceLT, Nat.reduceLeDiff, and_true, true_and, and_false, false_and, and_self, reduceCtorEq, not_true_eq_false, not_false_eq_true, hB.o, e0, hf]
/-- an int is negative, or a small number -/
theorem i32_cases (v : Int32) : v < 0 ∨ ∃ k, k < 2 ^ 31 ∧ v = nI k := by
  by_cases h : v < 0
  · exact Or.inl h
  · exact Or.inr (nI_of h)
def endN (n : Nat) (v : Int32) : Nat := if v < 0 then n else if v ≤ nI n then v.toNatClampNeg else n
def endV (n : Nat) (v : Int32) : Int32 := if v < 0 then -1 else if v ≤ nI n then v else -1
theorem cls_end {h : AH} {x t o f tr rd b n : Nat} {tp : Nat → Int32} (hC : CB h x t o f tr rd) (hT : TapeC h t b n tp) (v : Int32) :
    ∃ h', fX8_end (some x) v h = some (endV n v, h') ∧ FrT t b h h' ∧ TapeC h' t b (endN n v) tp := by
  obtain ⟨c1, c2, -⟩ := id hC
  obtain ⟨k0, t2, t3, e0, hn, t6⟩ := id hT
  unfold fX8_end fX8_end_0 fX8_end_15 endV endN
  by_cases h0 : v < 0
  · refine ⟨h, ?_, Fr.rf, ?_⟩
    · simp only [h0, ↓reduceIte]
    · rw [if_pos h0]; exact hT
  · obtain ⟨k, hk, rfl⟩ := nI_of h0
    by_cases hk2 : k ≤ n
    · refine ⟨pI h 301 t (nI k), ?_, Fr.rf.pI ⟨rfl, rfl⟩, ?_⟩
      · simp (disch := omega) only [↓uGI, ↓uGL, ↓uGR, ↓uPI, ↓uPL, ↓uPR, ↓uAL, ↓uQL, ↓uAS, ↓uQS, ↓uAN, ↓uCV, ↓oCL, ↓oNO, ↓uNA, ↓oNN, ↓oZ0, ↓oZ1, gI_pI, gI_pL, gI_pR, gI_pA, gI_pQ, gL_pI, gL_pL, gL_pR, gL_pA, gL_pQ, gR_pI, gR_pL, gR_pR, gR_pA, gR_pQ, gA_pI, gA_pL, gA_pR, gA_pA, gA_pQ, gQ_pI, gQ_pL, gQ_pR, gQ_pA, gQ_pQ, gK_pI, gK_pL, gK_pR, gK_pA, gK_pQ, gN_pI, gN_pL, gN_pR, gN_pA, gN_pQ, gS_pI, gS_pL, gS_pR, gS_pA, gS_pQ, gI_mk, gL_mk, gR_mk, gA_mk, gQ_mk, gK_mk, gN_mk, gS_mk, vn0, vn1, lt0, leN, ltN, eqN, eqM1, M1eq, le0n, eq0n, nI_add, nI_mul, ↓reduceIte, Nat.reduceAdd, Nat.reduceMul, Nat.reduceEqDiff, Nat.reduceLT, Nat.reduceLeDiff, and_true, true_and, and_false, false_and, and_self, reduceCtorEq, not_true_eq_false, not_false_eq_true, c1, c2, k0, e0, hk2]
      · simp (disch := omega) only [↓uGI, ↓uGL, ↓uGR, ↓uPI, ↓uPL, ↓uPR, ↓uAL, ↓uQL, ↓uAS, ↓uQS, ↓uAN, ↓uCV, ↓oCL, ↓oNO, ↓uNA, ↓oNN, ↓oZ0, ↓oZ1, gI_pI, gI_pL, gI_pR, gI_pA, gI_pQ, gL_pI, gL_pL, gL_pR, gL_pA, gL_pQ, gR_pI, gR_pL, gR_pR, gR_pA, gR_pQ, gA_pI, gA_pL, gA_pR, gA_pA, gA_pQ, gQ_pI, gQ_pL, gQ_pR, gQ_pA, gQ_pQ, gK_pI, gK_pL, gK_pR, gK_pA, gK_pQ, gN_pI, gN_pL, gN_pR, gN_pA, gN_pQ, gS_pI, gS_pL, gS_pR, gS_pA, gS_pQ, gI_mk, gL_mk, gR_mk, gA_mk, gQ_mk, gK_mk, gN_mk, gS_mk, vn0, vn1, lt0, leN, ltN, eqN, eqM1, M1eq, le0n, eq0n, nI_add, nI_mul, ↓reduceIte, Nat.reduceAdd, Nat.reduceMul, Nat.reduceEqDiff, Nat.reduceLT, Nat.reduceLeDiff, and_true, true_and, and_false, false_and, and_self, reduceCtorEq, not_true_eq_false, not_false_eq_true, hk2, nI_clamp]
        exact ⟨k0, t2, t3, if_pos ⟨rfl, rfl⟩, by omega, fun i hi => t6 i (by omega)⟩
    · refine ⟨h, ?_, Fr.rf, ?_⟩
      · simp (disch := omega) only [↓uGI, ↓uGL, ↓uGR, ↓uPI, ↓uPL, ↓uPR, ↓uAL, ↓uQL, ↓uAS, ↓uQS, ↓uAN, ↓uCV, ↓oCL, ↓oNO, ↓uNA, ↓oNN, ↓oZ0, ↓oZ1, gI_pI, gI_pL, gI_pR, gI_pA, gI_pQ, gL_pI, gL_pL, gL_pR, gL_pA, gL_pQ, gR_pI, gR_pL, gR_pR, gR_pA, gR_pQ, gA_pI, gA_pL, gA_pR, gA_pA, gA_pQ, gQ_pI, gQ_pL, gQ_pR, gQ_pA, gQ_pQ, gK_pI, gK_pL, gK_pR, gK_pA, gK_pQ, gN_pI, gN_pL, gN_pR, gN_pA, gN_pQ, gS_pI, gS_pL, gS_pR, gS_pA, gS_pQ, gI_mk, gL_mk, gR_mk, gA_mk, gQ_mk, gK_mk, gN_mk, gS_mk, vn0, vn1, lt0, leN, ltN, eqN, eqM1, M1eq, le0n, eq0n, nI_add, nI_mul, ↓reduceIte, Nat.reduceAdd, Nat.reduceMul, Nat.reduceEqDiff, Nat.reduceLT, Nat.reduceLeDiff, and_true, true_and, and_false, false_and, and_self, reduceCtorEq, not_true_eq_false, not_false_eq_true, c1, c2, k0, e0, hk2]
      · simp (disch := omega) only [↓uGI, ↓uGL, ↓uGR, ↓uPI, ↓uPL, ↓uPR, ↓uAL, ↓uQL, ↓uAS, ↓uQS, ↓uAN, ↓uCV, ↓oCL, ↓oNO, ↓uNA, ↓oNN, ↓oZ0, ↓oZ1, gI_pI, gI_pL, gI_pR, gI_pA, gI_pQ, gL_pI, gL_pL, gL_pR, gL_pA, gL_pQ, gR_pI, gR_pL, gR_pR, gR_pA, gR_pQ, gA_pI, gA_pL, gA_pR, gA_pA, gA_pQ, gQ_pI, gQ_pL, gQ_pR, gQ_pA, gQ_pQ, gK_pI, gK_pL, gK_pR, gK_pA, gK_pQ, gN_pI, gN_pL, gN_pR, gN_pA, gN_pQ, gS_pI, gS_pL, gS_pR, gS_pA, gS_pQ, gI_mk, gL_mk, gR_mk, gA_mk, gQ_mk, gK_mk, gN_mk, gS_mk, vn0, vn1, lt0, leN, ltN, eqN, eqM1, M1eq, le0n, eq0n, nI_add, nI_mul, ↓reduceIte, Nat.reduceAdd, Nat.reduceMul, Nat.reduceEqDiff, Nat.reduceLT, Nat.reduceLeDiff, and_true, true_and, and_false, false_and, and_self, reduceCtorEq, not_true_eq_false, not_false_eq_true, hk2]
        exact hT
theorem ref_end {h : AH} {m n : Nat} {ra : Nat → Nat} {tp : Nat → Int32} (hB : RB h m ra) (hT : TapeR h m ra n tp) (v : Int32) :
    ∃ h', fX9_end (some m) v h = some (endV n v, h') ∧ FrR m ra h h' ∧ TapeR h' m ra (endN n v) tp := by
  obtain ⟨e0, hn, t6⟩ := id hT
  unfold fX9_end fX9_end_0 fX9_end_12 endV endN
  by_cases h0 : v < 0
  · refine ⟨h, ?_, Fr.rf, ?_⟩
    · simp only [h0, ↓reduceIte]
    · rw [if_pos h0]; exact hT
  · obtain ⟨k, hk, rfl⟩ := nI_of h0
    by_cases hk2 : k ≤ n
    · refine ⟨pI h 451 m (nI k), ?_, Fr.rf.pI rfl, ?_⟩
      · simp (disch := omega) only [↓uGI, ↓uGL, ↓uGR, ↓uPI, ↓uPL, ↓uPR, ↓uAL, ↓uQL, ↓uAS, ↓uQS, ↓uAN, ↓uCV, ↓oCL, ↓oNO, ↓uNA, ↓oNN, ↓oZ0, ↓oZ1, gI_pI, gI_pL, gI_pR, gI_pA, gI_pQ, gL_pI, gL_pL, gL_pR, gL_pA, gL_pQ, gR_pI, gR_pL, gR_pR, gR_pA, gR_pQ, gA_pI, gA_pL, gA_pR, gA_pA, gA_pQ, gQ_pI, gQ_pL, gQ_pR, gQ_pA, gQ_pQ, gK_pI, gK_pL, gK_pR, gK_pA, gK_pQ, gN_pI, gN_pL, gN_pR, gN_pA, gN_pQ, gS_pI, gS_pL, gS_pR, gS_pA, gS_pQ, gI_mk, gL_mk, gR_mk, gA_mk, gQ_mk, gK_mk, gN_mk, gS_mk, vn0, vn1, lt0, leN, ltN, eqN, eqM1, M1eq, le0n, eq0n, nI_add, nI_mul, ↓reduceIte, Nat.reduceAdd, Nat.reduceMul, Nat.reduceEqDiff, Nat.reduceLT, Nat.reduceLeDiff, and_true, true_and, and_false, false_and, and_self, reduceCtorEq, not_true_eq_false, not_false_eq_true, hB.o, e0, hk2]
      · simp (disch := omega) only [↓uGI, ↓uGL, ↓uGR, ↓uPI, ↓uPL, ↓uPR, ↓uAL, ↓uQL, ↓uAS, ↓uQS, ↓uAN, ↓uCV, ↓oCL, ↓oNO, ↓uNA, ↓oNN, ↓oZ0, ↓oZ1, gI_pI, gI_pL, gI_pR, gI_pA, gI_pQ, gL_pI, gL_pL, gL_pR, gL_pA, gL_pQ, gR_pI, gR_pL, gR_pR, gR_pA, gR_pQ, gA_pI, gA_pL, gA_pR, gA_pA, gA_pQ, gQ_pI, gQ_pL, gQ_pR, gQ_pA, gQ_pQ, gK_pI, gK_pL, gK_pR, gK_pA, gK_pQ, gN_pI, gN_pL, gN_pR, gN_pA, gN_pQ, gS_pI, gS_pL, gS_pR, gS_pA, gS_pQ, gI_mk, gL_mk, gR_mk, gA_mk, gQ_mk, gK_mk, gN_mk, gS_mk, vn0, vn1, lt0, leN, ltN, eqN, eqM1, M1eq, le0n, eq0n, nI_add, nI_mul, ↓reduceIte, Nat.reduceAdd, Nat.reduceMul, Nat.reduceEqDiff, Nat.reduceLT, Nat.reduceLeDiff, and_true, true_and, and_false, false_and, and_self, reduceCtorEq, not_true_eq_false, not_false_eq_true, hk2, nI_clamp]
        exact ⟨if_pos ⟨rfl, rfl⟩, by omega, fun i hi => t6 i (by omega)⟩
    · refine ⟨h, ?_, Fr.rf, ?_⟩
      · simp (disch := omega) only [↓uGI, ↓uGL, ↓uGR, ↓uPI, ↓uPL, ↓uPR, ↓uAL, ↓uQL, ↓uAS, ↓uQS, ↓uAN, ↓uCV, ↓oCL, ↓oNO, ↓uNA, ↓oNN, ↓oZ0, ↓oZ1, gI_pI, gI_pL, gI_pR, gI_pA, gI_pQ, gL_pI, gL_pL, gL_pR, gL_pA, gL_pQ, gR_pI, gR_pL, gR_pR, gR_pA, gR_pQ, gA_pI, gA_pL, gA_pR, gA_pA, gA_pQ, gQ_pI, gQ_pL, gQ_pR, gQ_pA, gQ_pQ, gK_pI, gK_pL, gK_pR, gK_pA, gK_pQ, gN_pI, gN_pL, gN_pR, gN_pA, gN_pQ, gS_pI, gS_pL, gS_pR, gS_pA, gS_pQ, gI_mk, gL_mk, gR_mk, gA_mk, gQ_mk, gK_mk, gN_mk, gS_mk, vn0, vn1, lt0, leN, ltN, eqN, eqM1, M1eq, le0n, eq0n, nI_add, nI_mul, ↓reduceIte, Nat.reduceAdd, Nat.reduceMul, Nat.reduceEqDiff, Nat.reduceLT, Nat.reduceLeDiff, and_true, true_and, and_false, false_and, and_self, reduceCtorEq, not_true_eq_false, not_false_eq_true, hB.o, e0, hk2]
      · simp (disch := omega) only [↓uGI, ↓uGL, ↓uGR, ↓uPI, ↓uPL, ↓uPR, ↓uAL, ↓uQL, ↓uAS, ↓uQS, ↓uAN, ↓uCV, ↓oCL, ↓oNO, ↓uNA, ↓oNN, ↓oZ0, ↓oZ1, gI_pI, gI_pL, gI_pR, gI_pA, gI_pQ, gL_pI, gL_pL, gL_pR, gL_pA, gL_pQ, gR_pI, gR_pL, gR_pR, gR_pA, gR_pQ, gA_pI, gA_pL, gA_pR, gA_pA, gA_pQ, gQ_pI, gQ_pL, gQ_pR, gQ_pA, gQ_pQ, gK_pI, gK_pL, gK_pR, gK_pA, gK_pQ, gN_pI, gN_pL, gN_pR, gN_pA, gN_pQ, gS_pI, gS_pL, gS_pR, gS_pA, gS_pQ, gI_mk, gL_mk, gR_mk, gA_mk, gQ_mk, gK_mk, gN_mk, gS_mk, vn0, vn1, lt0, leN, ltN, eqN, eqM1, M1eq, le0n, eq0n, nI_add, nI_mul, ↓reduceIte, Nat.reduceAdd, Nat.reduceMul, Nat.reduceEqDiff, Nat.reduceLT, Nat.reduceLeDiff, and_true, true_and, and_false, false_and, and_self, reduceCtorEq, not_true_eq_false, not_false_eq_true, hk2]
        exact hT

/-! reference: a NODE grows -/
theorem vn2a : vp_nar (sr_aty 2) (nI 0) = nI 0 := rfl
theorem vn2b : vp_nar (sr_aty 2) (nI 1) = nI 1 := rfl
/-- what fresh() writes for NODE n itself -/
def frH (h : AH) (ra : Nat → Nat) (m n : Nat) (pr : Int32) (d c : Nat) : AH := pA (pA (pA (pA (pA (pA (pA (pA (pA (pA (pI (pA h (ra 6) n (nI 1)) 475 m (nI c)) (ra 15) n (nI d)) (ra 10) n pr) (ra 11) n (-1)) (ra 12) n (-1)) (ra 13) n (-1)) (ra 14) n (-1)) (ra 16) n (nI 0)) (ra 22) n (nI 0)) (ra 23) n (nI 0)) (ra 9) n (nI 0)
/-- and for those beside it -/
def frK (h : AH) (ra : Nat → Nat) (q n : Nat) (lk : Option Nat) : AH := pA (match lk with
  | none => pA (pA h (ra 14) n (oI lk)) (ra 11) q (nI n)
  | some l => pA (pA h (ra 14) n (oI lk)) (ra 13) l (nI n)) (ra 12) q (nI n)
theorem ref_fresh_L {h : AH} {m : Nat} {ra : Nat → Nat} {T : TS} {v d : Int32} (hB : RB h m ra) (hR : RefT h m ra T) : ∀ (j f i : Nat), i + j = 120 → j < f → fX9_fresh_20 f (some m) v d (nI i) h = fX9_fresh_41 (some m) v d (match lfA T j i with | none => nI 120 | some n => nI n) h := by
  intro j
  induction j with
  | zero =>
    intro f i hij hf
    obtain ⟨f, rfl⟩ : ∃ g, f = g + 1 := ⟨f - 1, by omega⟩
    have e : i = 120 := by omega
    subst e
    rw [fX9_fresh_20]
    simp (disch := omega) only [↓uGI, ↓uGL, ↓uGR, ↓uPI, ↓uPL, ↓uPR, ↓uAL, ↓uQL, ↓uAS, ↓uQS, ↓uAN, ↓uCV, ↓oCL, ↓oNO, ↓uNA, ↓oNN, ↓oZ0, ↓oZ1, gI_pI, gI_pL, gI_pR, gI_pA, gI_pQ, gL_pI, gL_pL, gL_pR, gL_pA, gL_pQ, gR_pI, gR_pL, gR_pR, gR_pA, gR_pQ, gA_pI, gA_pL, gA_pR, gA_pA, gA_pQ, gQ_pI, gQ_pL, gQ_pR, gQ_pA, gQ_pQ, gK_pI, gK_pL, gK_pR, gK_pA, gK_pQ, gN_pI, gN_pL, gN_pR, gN_pA, gN_pQ, gS_pI, gS_pL, gS_pR, gS_pA, gS_pQ, gI_mk, gL_mk, gR_mk, gA_mk, gQ_mk, gK_mk, gN_mk, gS_mk, vn0, vn1, lt0, leN, ltN, eqN, eqM1, M1eq, le0n, eq0n, nI_add, nI_mul, ↓reduceIte, Nat.reduceAdd, Nat.reduceMul, Nat.reduceEqDiff, Nat.reduceLT, Nat.reduceLeDiff, and_true, true_and, and_false, false_and, and_self, reduceCtorEq, not_true_eq_false, not_false_eq_true, lfA]
  | succ j ih =>
    intro f i hij hf
    obtain ⟨f, rfl⟩ : ∃ g, f = g + 1 := ⟨f - 1, by omega⟩
    have w := (hR.2 i (by omega)).1
    rw [fX9_fresh_20]
    simp (disch := omega) only [↓uGI, ↓uGL, ↓uGR, ↓uPI, ↓uPL, ↓uPR, ↓uAL, ↓uQL, ↓uAS, ↓uQS, ↓uAN, ↓uCV, ↓oCL, ↓oNO, ↓uNA, ↓oNN, ↓oZ0, ↓oZ1, gI_pI, gI_pL, gI_pR, gI_pA, gI_pQ, gL_pI, gL_pL, gL_pR, gL_pA, gL_pQ, gR_pI, gR_pL, gR_pR, gR_pA, gR_pQ, gA_pI, gA_pL, gA_pR, gA_pA, gA_pQ, gQ_pI, gQ_pL, gQ_pR, gQ_pA, gQ_pQ, gK_pI, gK_pL, gK_pR, gK_pA, gK_pQ, gN_pI, gN_pL, gN_pR, gN_pA, gN_pQ, gS_pI, gS_pL, gS_pR, gS_pA, gS_pQ, gI_mk, gL_mk, gR_mk, gA_mk, gQ_mk, gK_mk, gN_mk, gS_mk, vn0, vn1, lt0, leN, ltN, eqN, eqM1, M1eq, le0n, eq0n, nI_add, nI_mul, ↓reduceIte, Nat.reduceAdd, Nat.reduceMul, Nat.reduceEqDiff, Nat.reduceLT, Nat.reduceLeDiff, and_true, true_and, and_false, false_and, and_self, reduceCtorEq, not_true_eq_false, not_false_eq_true, show ¬ 120 ≤ i by omega, hB.o, hB.r6, hB.k6, show i < 120 by omega, w, bI0, lfA, ih f (i + 1) (by omega) (by omega)]
    cases tIs T i <;> simp
theorem ref_freshN {h : AH} {m q : Nat} {ra : Nat → Nat} {T : TS} (hB : RB h m ra) (hR : RefT h m ra T) (hS : SizT T) (huq : tIs T q = true) (hg : grw T q = none) : fX9_fresh (some m) (nI q) h = some (-1, h) := by
  have hq := hS.lt huq
  have w9 := ((hR.2 q hq).2 huq).2.2.2.2.2.2.2.2.1
  have hd := (hS.2 q huq).2.2.2.2.2.2.2.2.1
  simp only [fX9_fresh, fX9_fresh_0, fX9_fresh_17]
  simp (disch := omega) only [↓uGI, ↓uGL, ↓uGR, ↓uPI, ↓uPL, ↓uPR, ↓uAL, ↓uQL, ↓uAS, ↓uQS, ↓uAN, ↓uCV, ↓oCL, ↓oNO, ↓uNA, ↓oNN, ↓oZ0, ↓oZ1, gI_pI, gI_pL, gI_pR, gI_pA, gI_pQ, gL_pI, gL_pL, gL_pR, gL_pA, gL_pQ, gR_pI, gR_pL, gR_pR, gR_pA, gR_pQ, gA_pI, gA_pL, gA_pR, gA_pA, gA_pQ, gQ_pI, gQ_pL, gQ_pR, gQ_pA, gQ_pQ, gK_pI, gK_pL, gK_pR, gK_pA, gK_pQ, gN_pI, gN_pL, gN_pR, gN_pA, gN_pQ, gS_pI, gS_pL, gS_pR, gS_pA, gS_pQ, gI_mk, gL_mk, gR_mk, gA_mk, gQ_mk, gK_mk, gN_mk, gS_mk, vn0, vn1, lt0, leN, ltN, eqN, eqM1, M1eq, le0n, eq0n, nI_add, nI_mul, ↓reduceIte, Nat.reduceAdd, Nat.reduceMul, Nat.reduceEqDiff, Nat.reduceLT, Nat.reduceLeDiff, and_true, true_and, and_false, false_and, and_self, reduceCtorEq, not_true_eq_false, not_false_eq_true, hB.o, hB.r15, hB.k15, hq, w9]
  rw [ref_fresh_L hB hR 120 FU 0 rfl (by have := FU_ge; omega)]
  unfold grw at hg
  simp only [fX9_fresh_41, fX9_fresh_53]
  by_cases c : tDep T q < 20
  · rw [if_pos c] at hg
    rw [hg]
    simp (disch := omega) only [↓uGI, ↓uGL, ↓uGR, ↓uPI, ↓uPL, ↓uPR, ↓uAL, ↓uQL, ↓uAS, ↓uQS, ↓uAN, ↓uCV, ↓oCL, ↓oNO, ↓uNA, ↓oNN, ↓oZ0, ↓oZ1, gI_pI, gI_pL, gI_pR, gI_pA, gI_pQ, gL_pI, gL_pL, gL_pR, gL_pA, gL_pQ, gR_pI, gR_pL, gR_pR, gR_pA, gR_pQ, gA_pI, gA_pL, gA_pR, gA_pA, gA_pQ, gQ_pI, gQ_pL, gQ_pR, gQ_pA, gQ_pQ, gK_pI, gK_pL, gK_pR, gK_pA, gK_pQ, gN_pI, gN_pL, gN_pR, gN_pA, gN_pQ, gS_pI, gS_pL, gS_pR, gS_pA, gS_pQ, gI_mk, gL_mk, gR_mk, gA_mk, gQ_mk, gK_mk, gN_mk, gS_mk, vn0, vn1, lt0, leN, ltN, eqN, eqM1, M1eq, le0n, eq0n, nI_add, nI_mul, ↓reduceIte, Nat.reduceAdd, Nat.reduceMul, Nat.reduceEqDiff, Nat.reduceLT, Nat.reduceLeDiff, and_true, true_and, and_false, false_and, and_self, reduceCtorEq, not_true_eq_false, not_false_eq_true]
  · have c' : ¬ tDep T q + 1 ≤ 20 := by omega
    cases hl : lfA T 120 0 with
    | none => simp (disch := omega) only [↓uGI, ↓uGL, ↓uGR, ↓uPI, ↓uPL, ↓uPR, ↓uAL, ↓uQL, ↓uAS, ↓uQS, ↓uAN, ↓uCV, ↓oCL, ↓oNO, ↓uNA, ↓oNN, ↓oZ0, ↓oZ1, gI_pI, gI_pL, gI_pR, gI_pA, gI_pQ, gL_pI, gL_pL, gL_pR, gL_pA, gL_pQ, gR_pI, gR_pL, gR_pR, gR_pA, gR_pQ, gA_pI, gA_pL, gA_pR, gA_pA, gA_pQ, gQ_pI, gQ_pL, gQ_pR, gQ_pA, gQ_pQ, gK_pI, gK_pL, gK_pR, gK_pA, gK_pQ, gN_pI, gN_pL, gN_pR, gN_pA, gN_pQ, gS_pI, gS_pL, gS_pR, gS_pA, gS_pQ, gI_mk, gL_mk, gR_mk, gA_mk, gQ_mk, gK_mk, gN_mk, gS_mk, vn0, vn1, lt0, leN, ltN, eqN, eqM1, M1eq, le0n, eq0n, nI_add, nI_mul, ↓reduceIte, Nat.reduceAdd, Nat.reduceMul, Nat.reduceEqDiff, Nat.reduceLT, Nat.reduceLeDiff, and_true, true_and, and_false, false_and, and_self, reduceCtorEq, not_true_eq_false, not_false_eq_true]
    | some n =>
      have := lfA_some _ _ _ hl
      simp (disch := omega) only [↓uGI, ↓uGL, ↓uGR, ↓uPI, ↓uPL, ↓uPR, ↓uAL, ↓uQL, ↓uAS, ↓uQS, ↓uAN, ↓uCV, ↓oCL, ↓oNO, ↓uNA, ↓oNN, ↓oZ0, ↓oZ1, gI_pI, gI_pL, gI_pR, gI_pA, gI_pQ, gL_pI, gL_pL, gL_pR, gL_pA, gL_pQ, gR_pI, gR_pL, gR_pR, gR_pA, gR_pQ, gA_pI, gA_pL, gA_pR, gA_pA, gA_pQ, gQ_pI, gQ_pL, gQ_pR, gQ_pA, gQ_pQ, gK_pI, gK_pL, gK_pR, gK_pA, gK_pQ, gN_pI, gN_pL, gN_pR, gN_pA, gN_pQ, gS_pI, gS_pL, gS_pR, gS_pA, gS_pQ, gI_mk, gL_mk, gR_mk, gA_mk, gQ_mk, gK_mk, gN_mk, gS_mk, vn0, vn1, lt0, leN, ltN, eqN, eqM1, M1eq, le0n, eq0n, nI_add, nI_mul, ↓reduceIte, Nat.reduceAdd, Nat.reduceMul, Nat.reduceEqDiff, Nat.reduceLT, Nat.reduceLeDiff, and_true, true_and, and_false, false_and, and_self, reduceCtorEq, not_true_eq_false, not_false_eq_true, c', show ¬ n = 120 by omega]
theorem ref_freshS {h : AH} {m q n : Nat} {ra : Nat → Nat} {T : TS} (hB : RB h m ra) (hR : RefT h m ra T) (hS : SizT T) (huq : tIs T q = true) (hg : grw T q = some n) : fX9_fresh (some m) (nI q) h = some (nI n, frK (frH h ra m n (nI q) (tDep T q + 1) (tCnt T + 1)) ra q n (tLk T q)) := by
  obtain ⟨hd, hn, hnu⟩ := grw_some hg
  have hq := hS.lt huq
  have hqn : ¬ q = n := fun z => by rw [z, hnu] at huq; cases huq
  have hlf : lfA T 120 0 = some n := by unfold grw at hg; rw [if_pos hd] at hg; exact hg
  obtain ⟨w1, w2, w3, w4, w5, w6, w7, w8, w9, w10, w11, w12, w13, w14⟩ := (hR.2 q hq).2 huq
  obtain ⟨s1, s2, s3, s4, s5, s6, s7, s8, s9, s10⟩ := hS.2 q huq
  simp only [fX9_fresh, fX9_fresh_0, fX9_fresh_17]
  simp (disch := omega) only [↓uGI, ↓uGL, ↓uGR, ↓uPI, ↓uPL, ↓uPR, ↓uAL, ↓uQL, ↓uAS, ↓uQS, ↓uAN, ↓uCV, ↓oCL, ↓oNO, ↓uNA, ↓oNN, ↓oZ0, ↓oZ1, gI_pI, gI_pL, gI_pR, gI_pA, gI_pQ, gL_pI, gL_pL, gL_pR, gL_pA, gL_pQ, gR_pI, gR_pL, gR_pR, gR_pA, gR_pQ, gA_pI, gA_pL, gA_pR, gA_pA, gA_pQ, gQ_pI, gQ_pL, gQ_pR, gQ_pA, gQ_pQ, gK_pI, gK_pL, gK_pR, gK_pA, gK_pQ, gN_pI, gN_pL, gN_pR, gN_pA, gN_pQ, gS_pI, gS_pL, gS_pR, gS_pA, gS_pQ, gI_mk, gL_mk, gR_mk, gA_mk, gQ_mk, gK_mk, gN_mk, gS_mk, vn0, vn1, lt0, leN, ltN, eqN, eqM1, M1eq, le0n, eq0n, nI_add, nI_mul, ↓reduceIte, Nat.reduceAdd, Nat.reduceMul, Nat.reduceEqDiff, Nat.reduceLT, Nat.reduceLeDiff, and_true, true_and, and_false, false_and, and_self, reduceCtorEq, not_true_eq_false, not_false_eq_true, hB.o, hB.r15, hB.k15, hq, w9]
  rw [ref_fresh_L hB hR 120 FU 0 rfl (by have := FU_ge; omega), hlf]
  simp only [fX9_fresh_41, fX9_fresh_191, fX9_fresh_198, frK, frH]
  simp (disch := omega) only [eqN, leN, show ¬ n = 120 by omega, show tDep T q + 1 ≤ 20 by omega, ↓reduceIte, eqM1]
  simp (disch := first | exact And.intro rfl rfl | omega) only [↓hB.g6, ↓hB.s6, ↓hB.gi, ↓hB.pi, ↓hB.g15, ↓hB.s15, ↓hB.g10, ↓hB.s10, ↓hB.g11, ↓hB.s11, ↓hB.g12, ↓hB.s12, ↓hB.g13, ↓hB.s13, ↓hB.g14, ↓hB.s14, ↓hB.g16, ↓hB.s16, ↓hB.g22, ↓hB.s22, ↓hB.g23, ↓hB.s23, ↓hB.g9, ↓hB.s9, gI_pA, nI_add, vn2a, vn2b, vn0, hR.1]
  have e12 : gA (pA (pA (pA (pA (pA (pA (pA (pA (pA (pA (pI (pA h (ra 6) n (nI 1)) 475 m (nI (tCnt T + 1))) (ra 15) n (nI (tDep T q + 1))) (ra 10) n (nI q)) (ra 11) n (-1)) (ra 12) n (-1)) (ra 13) n (-1)) (ra 14) n (-1)) (ra 16) n (nI 0)) (ra 22) n (nI 0)) (ra 23) n (nI 0)) (ra 9) n (nI 0)) (ra 12) q = oI (tLk T q) := by
    simp only [gA_pA, gA_pI, hB.i, Nat.reduceEqDiff, hqn, false_and, and_false, ↓reduceIte, w6]
  generalize hX : pA (pA (pA (pA (pA (pA (pA (pA (pA (pA (pI (pA h (ra 6) n (nI 1)) 475 m (nI (tCnt T + 1))) (ra 15) n (nI (tDep T q + 1))) (ra 10) n (nI q)) (ra 11) n (-1)) (ra 12) n (-1)) (ra 13) n (-1)) (ra 14) n (-1)) (ra 16) n (nI 0)) (ra 22) n (nI 0)) (ra 23) n (nI 0)) (ra 9) n (nI 0) = X at *
  have BX : RB X m ra := by rw [← hX]; exact hB
  cases hL : tLk T q with
  | none =>
    rw [hL] at e12
    simp (disch := omega) only [↓uGI, ↓uGL, ↓uGR, ↓uPI, ↓uPL, ↓uPR, ↓uAL, ↓uQL, ↓uAS, ↓uQS, ↓uAN, ↓uCV, ↓oCL, ↓oNO, ↓uNA, ↓oNN, ↓oZ0, ↓oZ1, gI_pI, gI_pL, gI_pR, gI_pA, gI_pQ, gL_pI, gL_pL, gL_pR, gL_pA, gL_pQ, gR_pI, gR_pL, gR_pR, gR_pA, gR_pQ, gA_pI, gA_pL, gA_pR, gA_pA, gA_pQ, gQ_pI, gQ_pL, gQ_pR, gQ_pA, gQ_pQ, gK_pI, gK_pL, gK_pR, gK_pA, gK_pQ, gN_pI, gN_pL, gN_pR, gN_pA, gN_pQ, gS_pI, gS_pL, gS_pR, gS_pA, gS_pQ, gI_mk, gL_mk, gR_mk, gA_mk, gQ_mk, gK_mk, gN_mk, gS_mk, vn0, vn1, lt0, leN, ltN, eqN, eqM1, M1eq, le0n, eq0n, nI_add, nI_mul, ↓reduceIte, Nat.reduceAdd, Nat.reduceMul, Nat.reduceEqDiff, Nat.reduceLT, Nat.reduceLeDiff, and_true, true_and, and_false, false_and, and_self, reduceCtorEq, not_true_eq_false, not_false_eq_true, BX.o, BX.r12, BX.k12, BX.r14, BX.k14, BX.r11, BX.k11, hq, hn, e12, oI, BX.i]
  | some l =>
    rw [hL] at e12
    obtain ⟨l1, l2⟩ := s10 l (Or.inr (Or.inr (Or.inl hL)))
    simp (disch := omega) only [↓uGI, ↓uGL, ↓uGR, ↓uPI, ↓uPL, ↓uPR, ↓uAL, ↓uQL, ↓uAS, ↓uQS, ↓uAN, ↓uCV, ↓oCL, ↓oNO, ↓uNA, ↓oNN, ↓oZ0, ↓oZ1, gI_pI, gI_pL, gI_pR, gI_pA, gI_pQ, gL_pI, gL_pL, gL_pR, gL_pA, gL_pQ, gR_pI, gR_pL, gR_pR, gR_pA, gR_pQ, gA_pI, gA_pL, gA_pR, gA_pA, gA_pQ, gQ_pI, gQ_pL, gQ_pR, gQ_pA, gQ_pQ, gK_pI, gK_pL, gK_pR, gK_pA, gK_pQ, gN_pI, gN_pL, gN_pR, gN_pA, gN_pQ, gS_pI, gS_pL, gS_pR, gS_pA, gS_pQ, gI_mk, gL_mk, gR_mk, gA_mk, gQ_mk, gK_mk, gN_mk, gS_mk, vn0, vn1, lt0, leN, ltN, eqN, eqM1, M1eq, le0n, eq0n, nI_add, nI_mul, ↓reduceIte, Nat.reduceAdd, Nat.reduceMul, Nat.reduceEqDiff, Nat.reduceLT, Nat.reduceLeDiff, and_true, true_and, and_false, false_and, and_self, reduceCtorEq, not_true_eq_false, not_false_eq_true, BX.o, BX.r12, BX.k12, BX.r14, BX.k14, BX.r13, BX.k13, hq, hn, l1, e12, oI, BX.i]
/-- the TREE after it, with its TAG and its NAME -/
theorem RefT.fresh {h h2 : AH} {m q n t : Nat} {nm : List Nat} {ra : Nat → Nat} {T : TS} (hR : RefT h m ra T) (hra : ∀ i j, ra i = ra j ↔ i = j) (hS : SizT T) (huq : tIs T q = true) (hg : grw T q = some n) (hnl : nm.length ≤ 8)
    (c1 : ∀ k j, 6 ≤ k → k ≤ 23 → ¬ ((k = 7 ∨ k = 8 ∨ k = 9) ∧ own k j = n) → gA h2 (ra k) j = gA (frK (frH h ra m n (nI q) (tDep T q + 1) (tCnt T + 1)) ra q n (tLk T q)) (ra k) j)
    (c2 : gA h2 (ra 7) n = nI t) (c3 : gA h2 (ra 9) n = nI nm.length) (c4 : ∀ k, k < nm.length → gA h2 (ra 8) (8 * n + k) = nI (nm.getD k 0)) (c5 : gI h2 475 m = nI (tCnt T + 1)) : RefT h2 m ra (gwT T q t nm n) := by
  obtain ⟨hd, hn, hnu⟩ := grw_some hg
  have hq := hS.lt huq
  have hqn : q ≠ n := fun z => by rw [z, hnu] at huq; cases huq
  obtain ⟨s1, s2, s3, s4, s5, s6, s7, s8, s9, s10⟩ := hS.2 q huq
  have hln : tLk T q ≠ some n := fun z => by
    have := (s10 n (Or.inr (Or.inr (Or.inl z)))).2
    rw [hnu] at this; cases this
  have hra' : ∀ i j, (ra i = ra j) = (i = j) := fun i j => propext (hra i j)
  have G := gw_vals (T := T) (tag := t) (nm := nm) hqn hln
  generalize hh : frK (frH h ra m n (nI q) (tDep T q + 1) (tCnt T + 1)) ra q n (tLk T q) = h1 at *
  have rn : gA h1 (ra 6) n = nI 1 ∧ gA h1 (ra 10) n = nI q ∧ gA h1 (ra 11) n = -1 ∧ gA h1 (ra 12) n = -1 ∧ gA h1 (ra 13) n = -1 ∧ gA h1 (ra 14) n = oI (tLk T q) ∧ gA h1 (ra 15) n = nI (tDep T q + 1) ∧ gA h1 (ra 16) n = nI 0 ∧ gA h1 (ra 22) n = nI 0 ∧ gA h1 (ra 23) n = nI 0 := by
    rw [← hh]
    unfold frK frH
    have hnq : ¬ n = q := Ne.symm hqn
    cases hL : tLk T q with
    | none => simp only [gA_pA, gA_pI, hra', Nat.reduceEqDiff, hnq, false_and, and_false, and_self, true_and, ↓reduceIte]
    | some l =>
      have hnl : ¬ n = l := fun z => hln (by rw [hL, z])
      simp only [gA_pA, gA_pI, hra', Nat.reduceEqDiff, hnq, hnl, false_and, and_false, and_self, true_and, ↓reduceIte]
  have ro : ∀ k j, 6 ≤ k → k ≤ 23 → own k j ≠ n → ¬ (k = 11 ∨ k = 12 ∨ k = 13) → gA h1 (ra k) j = gA h (ra k) j := by
    intro k j a b c d
    have key : REq h (frH h ra m n (nI q) (tDep T q + 1) (tCnt T + 1)) ra (own k j) := by
      unfold frH
      exact ((((((((((REq.rf.pA hra (fun _ _ z => c z.symm)).pI).pA hra (fun _ _ z => c z.symm)).pA hra (fun _ _ z => c z.symm)).pA hra (fun _ _ z => c z.symm)).pA hra (fun _ _ z => c z.symm)).pA hra (fun _ _ z => c z.symm)).pA hra (fun _ _ z => c z.symm)).pA hra (fun _ _ z => c z.symm)).pA hra (fun _ _ z => c z.symm)).pA hra (fun _ _ z => c z.symm) |>.pA hra (fun _ _ z => c z.symm)
    have e14 : ¬ (k = 14 ∧ j = n) := fun z => c (by rw [z.1, z.2]; rfl)
    rw [← key k j a b rfl, ← hh]
    unfold frK
    cases tLk T q with
    | none => simp only [gA_pA, hra', show ¬ k = 11 by omega, show ¬ k = 12 by omega, e14, false_and, ↓reduceIte]
    | some l => simp only [gA_pA, hra', show ¬ k = 13 by omega, show ¬ k = 12 by omega, e14, false_and, ↓reduceIte]
  have r11 : ∀ j, j ≠ n → gA h1 (ra 11) j = if j = q ∧ tLk T q = none then nI n else gA h (ra 11) j := by
    intro j hj
    rw [← hh]
    unfold frK frH
    cases tLk T q with
    | none => simp only [gA_pA, gA_pI, hra', Nat.reduceEqDiff, hj, false_and, and_false, and_true, true_and, ↓reduceIte]
    | some l => simp only [gA_pA, gA_pI, hra', Nat.reduceEqDiff, hj, false_and, and_false, true_and, ↓reduceIte, reduceCtorEq]
  have r12 : ∀ j, j ≠ n → gA h1 (ra 12) j = if j = q then nI n else gA h (ra 12) j := by
    intro j hj
    rw [← hh]
    unfold frK frH
    cases tLk T q with
    | none => simp only [gA_pA, gA_pI, hra', Nat.reduceEqDiff, hj, false_and, and_false, and_true, true_and, ↓reduceIte]
    | some l => simp only [gA_pA, gA_pI, hra', Nat.reduceEqDiff, hj, false_and, and_false, true_and, ↓reduceIte, reduceCtorEq]
  have r13 : ∀ j, j ≠ n → gA h1 (ra 13) j = if tLk T q = some j then nI n else gA h (ra 13) j := by
    intro j hj
    rw [← hh]
    unfold frK frH
    cases tLk T q with
    | none => simp only [gA_pA, gA_pI, hra', Nat.reduceEqDiff, hj, false_and, and_false, and_true, true_and, ↓reduceIte, reduceCtorEq]
    | some l => simp only [gA_pA, gA_pI, hra', Nat.reduceEqDiff, hj, false_and, and_false, true_and, ↓reduceIte, Option.some.injEq, eq_comm (a := l) (b := j)]
  refine ⟨c5, fun j hj => ?_⟩
  obtain ⟨g1, g2, g3, g4, g5, g6, g7, g8, g9, g10, g11, g12⟩ := G j
  unfold RefN
  rw [g1, g2, g3, g4, g5, g6, g7, g8, g9, g10, g11, g12]
  by_cases e : j = n
  · subst e
    obtain ⟨n6, n10, n11, n12, n13, n14, n15, n16, n22, n23⟩ := rn
    simp only [↓reduceIte]
    have cc : ∀ k, 6 ≤ k → k ≤ 23 → ¬ (k = 7 ∨ k = 8 ∨ k = 9) → gA h2 (ra k) j = gA h1 (ra k) j := fun k a b c => c1 k j a b (fun z => c z.1)
    rw [cc 6 (by omega) (by omega) (by omega), cc 10 (by omega) (by omega) (by omega), cc 11 (by omega) (by omega) (by omega), cc 12 (by omega) (by omega) (by omega), cc 13 (by omega) (by omega) (by omega), cc 14 (by omega) (by omega) (by omega), cc 15 (by omega) (by omega) (by omega), cc 16 (by omega) (by omega) (by omega), cc 22 (by omega) (by omega) (by omega), cc 23 (by omega) (by omega) (by omega)]
    exact ⟨n6, fun _ => ⟨c2, c3, c4, n10, n11, n12, n13, n14, n15, n16, fun a ha => by simp at ha, n22, fun k hk => by simp at hk, n23⟩⟩
  · simp only [e, ↓reduceIte]
    obtain ⟨q0, q1⟩ := hR.2 j hj
    have rd : ∀ k p, 6 ≤ k → k ≤ 23 → own k p = j → ¬ (k = 11 ∨ k = 12 ∨ k = 13) → gA h2 (ra k) p = gA h (ra k) p := fun k p a b c d => by
      rw [c1 k p a b (fun z => e (by rw [← c]; exact z.2)), ro k p a b (by rw [c]; exact e) d]
    refine ⟨by rw [rd 6 j (by omega) (by omega) rfl (by omega)]; exact q0, fun hu => ?_⟩
    obtain ⟨w1, w2, w3, w4, w5, w6, w7, w8, w9, w10, w11, w12, w13, w14⟩ := q1 hu
    obtain ⟨t1, t2, t3, t4, t5, t6, t7, t8, t9, t10⟩ := hS.2 j hu
    rw [rd 7 j (by omega) (by omega) rfl (by omega), rd 9 j (by omega) (by omega) rfl (by omega), rd 10 j (by omega) (by omega) rfl (by omega), rd 14 j (by omega) (by omega) rfl (by omega), rd 15 j (by omega) (by omega) rfl (by omega), rd 16 j (by omega) (by omega) rfl (by omega), rd 22 j (by omega) (by omega) rfl (by omega), rd 23 j (by omega) (by omega) rfl (by omega)]
    refine ⟨w1, w2, fun k hk => ?_, w4, ?_, ?_, ?_, w8, w9, w10, fun a ha => ?_, w12, fun k hk => ?_, w14⟩
    · rw [rd 8 (8 * j + k) (by omega) (by omega) (show (8 * j + k) / 8 = j by omega) (by omega)]; exact w3 k hk
    · rw [c1 11 j (by omega) (by omega) (by omega), r11 j e]
      split
      · rfl
      · exact w5
    · rw [c1 12 j (by omega) (by omega) (by omega), r12 j e]
      split
      · rfl
      · exact w6
    · rw [c1 13 j (by omega) (by omega) (by omega), r13 j e]
      split
      · rfl
      · exact w7
    · obtain ⟨a1, a2, a3, a4⟩ := w11 a ha
      obtain ⟨z1, z2, z3, z4⟩ := AtS.get ⟨t4, t5⟩ ha
      refine ⟨?_, fun k hk => ?_, ?_, fun k hk => ?_⟩
      · rw [rd 18 (4 * j + a) (by omega) (by omega) (show (4 * j + a) / 4 = j by omega) (by omega)]; exact a1
      · rw [rd 17 (8 * (4 * j + a) + k) (by omega) (by omega) (show (8 * (4 * j + a) + k) / 32 = j by omega) (by omega)]; exact a2 k hk
      · rw [rd 20 (4 * j + a) (by omega) (by omega) (show (4 * j + a) / 4 = j by omega) (by omega)]; exact a3
      · rw [rd 19 (60 * (4 * j + a) + k) (by omega) (by omega) (show (60 * (4 * j + a) + k) / 240 = j by omega) (by omega)]; exact a4 k hk
    · rw [rd 21 (400 * j + k) (by omega) (by omega) (show (400 * j + k) / 400 = j by omega) (by omega)]; exact w13 k hk

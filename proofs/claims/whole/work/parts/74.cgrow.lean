/-! class: a NODE grows -/
/-- the least free number -/
def lfA (T : TS) : Nat → Nat → Option Nat
  | 0, _ => none
  | j + 1, i => if tIs T i = true then lfA T j (i + 1) else some i
theorem lfA_some {T : TS} : ∀ (j i k : Nat), lfA T j i = some k → i ≤ k ∧ k < i + j ∧ tIs T k = false := by
  intro j
  induction j with
  | zero => intro i k h; cases h
  | succ j ih =>
    intro i k h
    unfold lfA at h
    by_cases c : tIs T i = true
    · rw [if_pos c] at h
      have := ih _ _ h
      exact ⟨by omega, by omega, this.2.2⟩
    · rw [if_neg c] at h
      cases h
      exact ⟨by omega, by omega, by simpa using c⟩
theorem lfA_none {T : TS} : ∀ (j i : Nat), lfA T j i = none → ∀ k, i ≤ k → k < i + j → tIs T k = true := by
  intro j
  induction j with
  | zero => intro i _ k h1 h2; omega
  | succ j ih =>
    intro i h k h1 h2
    unfold lfA at h
    by_cases c : tIs T i = true
    · rw [if_pos c] at h
      by_cases e : k = i
      · rw [e]; exact c
      · exact ih _ h k (by omega) (by omega)
    · rw [if_neg c] at h; cases h
theorem cls_leastFree_L {h : AH} {ad : Nat → Nat → Nat → Nat} {tr nd : Nat} {T : TS} (hC : ClsT h ad tr nd T) : ∀ (j f i : Nat), i + j = 120 → j < f → fX7_leastFree_2 f (some tr) (nI i) h = some (oI (lfA T j i), h) := by
  obtain ⟨q1, q2, q3, q4, q5, q6⟩ := hC
  intro j
  induction j with
  | zero =>
    intro f i hij hf
    obtain ⟨f, rfl⟩ : ∃ g, f = g + 1 := ⟨f - 1, by omega⟩
    rw [fX7_leastFree_2]
    simp (disch := omega) only [↓uGI, ↓uGL, ↓uGR, ↓uPI, ↓uPL, ↓uPR, ↓uAL, ↓uQL, ↓uAS, ↓uQS, ↓uAN, ↓uCV, ↓oCL, ↓oNO, ↓uNA, ↓oNN, ↓oZ0, ↓oZ1, gI_pI, gI_pL, gI_pR, gI_pA, gI_pQ, gL_pI, gL_pL, gL_pR, gL_pA, gL_pQ, gR_pI, gR_pL, gR_pR, gR_pA, gR_pQ, gA_pI, gA_pL, gA_pR, gA_pA, gA_pQ, gQ_pI, gQ_pL, gQ_pR, gQ_pA, gQ_pQ, gK_pI, gK_pL, gK_pR, gK_pA, gK_pQ, gN_pI, gN_pL, gN_pR, gN_pA, gN_pQ, gS_pI, gS_pL, gS_pR, gS_pA, gS_pQ, gI_mk, gL_mk, gR_mk, gA_mk, gQ_mk, gK_mk, gN_mk, gS_mk, vn0, vn1, lt0, leN, ltN, eqN, eqM1, M1eq, le0n, eq0n, nI_add, nI_mul, ↓reduceIte, Nat.reduceAdd, Nat.reduceMul, Nat.reduceEqDiff, Nat.reduceLT, Nat.reduceLeDiff, and_true, true_and, and_false, false_and, and_self, reduceCtorEq, not_true_eq_false, not_false_eq_true, q1, q2, q3, show 120 ≤ i by omega, fX7_leastFree_40, lfA, oI]
  | succ j ih =>
    intro f i hij hf
    obtain ⟨f, rfl⟩ : ∃ g, f = g + 1 := ⟨f - 1, by omega⟩
    rw [fX7_leastFree_2]
    rcases q6 i (by omega) with ⟨z1, z2, -⟩ | ⟨z1, ⟨b1, -⟩, z3, -⟩
    · simp (disch := omega) only [↓uGI, ↓uGL, ↓uGR, ↓uPI, ↓uPL, ↓uPR, ↓uAL, ↓uQL, ↓uAS, ↓uQS, ↓uAN, ↓uCV, ↓oCL, ↓oNO, ↓uNA, ↓oNN, ↓oZ0, ↓oZ1, gI_pI, gI_pL, gI_pR, gI_pA, gI_pQ, gL_pI, gL_pL, gL_pR, gL_pA, gL_pQ, gR_pI, gR_pL, gR_pR, gR_pA, gR_pQ, gA_pI, gA_pL, gA_pR, gA_pA, gA_pQ, gQ_pI, gQ_pL, gQ_pR, gQ_pA, gQ_pQ, gK_pI, gK_pL, gK_pR, gK_pA, gK_pQ, gN_pI, gN_pL, gN_pR, gN_pA, gN_pQ, gS_pI, gS_pL, gS_pR, gS_pA, gS_pQ, gI_mk, gL_mk, gR_mk, gA_mk, gQ_mk, gK_mk, gN_mk, gS_mk, vn0, vn1, lt0, leN, ltN, eqN, eqM1, M1eq, le0n, eq0n, nI_add, nI_mul, ↓reduceIte, Nat.reduceAdd, Nat.reduceMul, Nat.reduceEqDiff, Nat.reduceLT, Nat.reduceLeDiff, and_true, true_and, and_false, false_and, and_self, reduceCtorEq, not_true_eq_false, not_false_eq_true, q1, q2, q3, show ¬ 120 ≤ i by omega, show i < 120 by omega, z1, fX7_leastFree_32, lfA, z2, Bool.false_eq_true, oI]
    · simp (disch := omega) only [↓uGI, ↓uGL, ↓uGR, ↓uPI, ↓uPL, ↓uPR, ↓uAL, ↓uQL, ↓uAS, ↓uQS, ↓uAN, ↓uCV, ↓oCL, ↓oNO, ↓uNA, ↓oNN, ↓oZ0, ↓oZ1, gI_pI, gI_pL, gI_pR, gI_pA, gI_pQ, gL_pI, gL_pL, gL_pR, gL_pA, gL_pQ, gR_pI, gR_pL, gR_pR, gR_pA, gR_pQ, gA_pI, gA_pL, gA_pR, gA_pA, gA_pQ, gQ_pI, gQ_pL, gQ_pR, gQ_pA, gQ_pQ, gK_pI, gK_pL, gK_pR, gK_pA, gK_pQ, gN_pI, gN_pL, gN_pR, gN_pA, gN_pQ, gS_pI, gS_pL, gS_pR, gS_pA, gS_pQ, gI_mk, gL_mk, gR_mk, gA_mk, gQ_mk, gK_mk, gN_mk, gS_mk, vn0, vn1, lt0, leN, ltN, eqN, eqM1, M1eq, le0n, eq0n, nI_add, nI_mul, ↓reduceIte, Nat.reduceAdd, Nat.reduceMul, Nat.reduceEqDiff, Nat.reduceLT, Nat.reduceLeDiff, and_true, true_and, and_false, false_and, and_self, reduceCtorEq, not_true_eq_false, not_false_eq_true, q1, q2, q3, show ¬ 120 ≤ i by omega, show i < 120 by omega, z1, some_ne, b1, z3, bI0, fX7_leastFree_32, lfA, ih f (i + 1) (by omega) (by omega)]
      cases tIs T i <;> simp [oI]
theorem cls_leastFree {h : AH} {ad : Nat → Nat → Nat → Nat} {tr nd : Nat} {T : TS} (hC : ClsT h ad tr nd T) : fX7_leastFree (some tr) h = some (oI (lfA T 120 0), h) := cls_leastFree_L hC 120 FU 0 rfl (by have := FU_ge; omega)
/-- NODE n's object is made -/
theorem cls_make {h : AH} {bs s0 n : Nat} {sg : Nat → Nat} {ad : Nat → Nat → Nat → Nat} {T : TS} (hA : AdOk h bs s0 sg ad) (hC : ClsT h ad (sg 8) (sg 9) T) (hS : SizT T) (h0 : tIs T 0 = true) (hn : n < 120) (hnu : tIs T n = false) (hq : gQ h (sg 9) n = none) (hu : ∀ c j, 1 ≤ c → c ≤ 6 → gN h ≤ ad c n j) : ∃ h1 ad1, (∀ K : AH → Option (Option Nat × AH), (cNO h 3 14 fun x9 h10 => cCV h10 3 x9 (fX3_init x9 (nI n) h10) fun _ h11 => cQS h11 3 3 (some (sg 9)) (nI n) x9 fun h12 => K h12) = K h1) ∧ AdOk h1 bs s0 sg ad1 ∧ ClsT h1 ad1 (sg 8) (sg 9) T ∧ gQ h1 (sg 9) n = some (ad1 1 n 0) ∧ NdB h1 ad1 n ∧ FrTB sg h ad h1 ad1 ∧ (∀ c k j, k ≠ n → ad1 c k j = ad c k j) := by
  have hN0 := hA.nek0
  have hN1 := hA.nek 1 (by omega)
  have hN2 := hA.nek 2 (by omega)
  have hl := hA.lt
  have sN0 : ∀ k, (sg k = gN h) = False := fun k => eq_false (hA.sne k)
  have sN : ∀ k d, d ≤ 5 → (sg k = gN h + d) = False := fun k d hd => eq_false (fun z => by rcases hA.2.2.2.2.1 k with y | y <;> omega)
  have unl : ∀ c i j d, d ≤ 5 → gN h ≤ ad c i j → gN h + d ≤ ad c i j := fun c i j d hd y => by rcases hA.2.2.2.1 c i j with z | z <;> omega
  have A1 := hA.mk (c := 1) (i := n) (j := 0) (by omega) (by omega) (by omega) (hu 1 0 (by omega) (by omega)) (4, 0) (n := 14) (by omega)
  have A2 := A1.mk (c := 2) (i := n) (j := 0) (by omega) (by omega) (by omega) (by rw [ad3_n _ (by omega), gN_mk]; exact unl _ _ _ 1 (by omega) (hu 2 0 (by omega) (by omega))) (2, 0) (n := 2) (by omega)
  have A3 := A2.mk (c := 3) (i := n) (j := 0) (by omega) (by omega) (by omega) (by rw [ad3_n _ (by omega), ad3_n _ (by omega), gN_mk, gN_mk]; exact unl _ _ _ 2 (by omega) (hu 3 0 (by omega) (by omega))) (104, 4) (n := 4) (by omega)
  simp only [gN_mk, Nat.add_assoc, Nat.reduceAdd] at A3
  have e1 : ad3 (ad3 (ad3 ad 1 n 0 (gN h)) 2 n 0 (gN h + 1)) 3 n 0 (gN h + 2) 1 n 0 = gN h := by rw [ad3_n _ (by omega), ad3_n _ (by omega), ad3_s]
  have e2 : ad3 (ad3 (ad3 ad 1 n 0 (gN h)) 2 n 0 (gN h + 1)) 3 n 0 (gN h + 2) 2 n 0 = gN h + 1 := by rw [ad3_n _ (by omega), ad3_s]
  have e3 : ad3 (ad3 (ad3 ad 1 n 0 (gN h)) 2 n 0 (gN h + 1)) 3 n 0 (gN h + 2) 3 n 0 = gN h + 2 := ad3_s _ _ _ _ _
  have eo : ∀ c k j, (k ≠ n ∨ 4 ≤ c ∨ c = 0 ∨ j ≠ 0) → ad3 (ad3 (ad3 ad 1 n 0 (gN h)) 2 n 0 (gN h + 1)) 3 n 0 (gN h + 2) c k j = ad c k j := fun c k j hc => by rw [ad3_n _ (by omega), ad3_n _ (by omega), ad3_n _ (by omega)]
  have A4 : AdOk (pQ (pI (pR (pR (mkC (mkC (mkC h (4, 0) 14) (2, 0) 2) (104, 4) 4) 50 (gN h + 1) (some (gN h + 2))) 151 (gN h) (some (gN h + 1))) 150 (gN h) (nI n)) (sg 9) n (some (gN h))) bs s0 sg (ad3 (ad3 (ad3 ad 1 n 0 (gN h)) 2 n 0 (gN h + 1)) 3 n 0 (gN h + 2)) := A3.eq rfl rfl rfl
  generalize hh1 : pQ (pI (pR (pR (mkC (mkC (mkC h (4, 0) 14) (2, 0) 2) (104, 4) 4) 50 (gN h + 1) (some (gN h + 2))) 151 (gN h) (some (gN h + 1))) 150 (gN h) (nI n)) (sg 9) n (some (gN h)) = h1 at *
  generalize had : ad3 (ad3 (ad3 ad 1 n 0 (gN h)) 2 n 0 (gN h + 1)) 3 n 0 (gN h + 2) = ad1 at *
  have gn1 : gN h1 = gN h + 3 := by rw [← hh1]; rfl
  have B1 : NdB h1 ad1 n := by
    refine ⟨?_, ?_, ?_, ⟨?_, ?_, ?_, fun j hj => Or.inl ⟨?_, ?_, ?_⟩⟩, Or.inl ⟨?_, ?_⟩⟩
    · rw [e1, ← hh1]; simp (disch := omega) only [↓uGI, ↓uGL, ↓uGR, ↓uPI, ↓uPL, ↓uPR, ↓uAL, ↓uQL, ↓uAS, ↓uQS, ↓uAN, ↓uCV, ↓oCL, ↓oNO, ↓uNA, ↓oNN, ↓oZ0, ↓oZ1, gI_pI, gI_pL, gI_pR, gI_pA, gI_pQ, gL_pI, gL_pL, gL_pR, gL_pA, gL_pQ, gR_pI, gR_pL, gR_pR, gR_pA, gR_pQ, gA_pI, gA_pL, gA_pR, gA_pA, gA_pQ, gQ_pI, gQ_pL, gQ_pR, gQ_pA, gQ_pQ, gK_pI, gK_pL, gK_pR, gK_pA, gK_pQ, gN_pI, gN_pL, gN_pR, gN_pA, gN_pQ, gS_pI, gS_pL, gS_pR, gS_pA, gS_pQ, gI_mk, gL_mk, gR_mk, gA_mk, gQ_mk, gK_mk, gN_mk, gS_mk, vn0, vn1, lt0, leN, ltN, eqN, eqM1, M1eq, le0n, eq0n, nI_add, nI_mul, ↓reduceIte, Nat.reduceAdd, Nat.reduceMul, Nat.reduceEqDiff, Nat.reduceLT, Nat.reduceLeDiff, and_true, true_and, and_false, false_and, and_self, reduceCtorEq, not_true_eq_false, not_false_eq_true, show ¬ gN h = gN h + 1 by omega, show ¬ gN h = gN h + 1 + 1 by omega]
    · rw [e1, ← hh1]; simp (disch := omega) only [↓uGI, ↓uGL, ↓uGR, ↓uPI, ↓uPL, ↓uPR, ↓uAL, ↓uQL, ↓uAS, ↓uQS, ↓uAN, ↓uCV, ↓oCL, ↓oNO, ↓uNA, ↓oNN, ↓oZ0, ↓oZ1, gI_pI, gI_pL, gI_pR, gI_pA, gI_pQ, gL_pI, gL_pL, gL_pR, gL_pA, gL_pQ, gR_pI, gR_pL, gR_pR, gR_pA, gR_pQ, gA_pI, gA_pL, gA_pR, gA_pA, gA_pQ, gQ_pI, gQ_pL, gQ_pR, gQ_pA, gQ_pQ, gK_pI, gK_pL, gK_pR, gK_pA, gK_pQ, gN_pI, gN_pL, gN_pR, gN_pA, gN_pQ, gS_pI, gS_pL, gS_pR, gS_pA, gS_pQ, gI_mk, gL_mk, gR_mk, gA_mk, gQ_mk, gK_mk, gN_mk, gS_mk, vn0, vn1, lt0, leN, ltN, eqN, eqM1, M1eq, le0n, eq0n, nI_add, nI_mul, ↓reduceIte, Nat.reduceAdd, Nat.reduceMul, Nat.reduceEqDiff, Nat.reduceLT, Nat.reduceLeDiff, and_true, true_and, and_false, false_and, and_self, reduceCtorEq, not_true_eq_false, not_false_eq_true]
    · rw [e1, e2, ← hh1]; simp (disch := omega) only [↓uGI, ↓uGL, ↓uGR, ↓uPI, ↓uPL, ↓uPR, ↓uAL, ↓uQL, ↓uAS, ↓uQS, ↓uAN, ↓uCV, ↓oCL, ↓oNO, ↓uNA, ↓oNN, ↓oZ0, ↓oZ1, gI_pI, gI_pL, gI_pR, gI_pA, gI_pQ, gL_pI, gL_pL, gL_pR, gL_pA, gL_pQ, gR_pI, gR_pL, gR_pR, gR_pA, gR_pQ, gA_pI, gA_pL, gA_pR, gA_pA, gA_pQ, gQ_pI, gQ_pL, gQ_pR, gQ_pA, gQ_pQ, gK_pI, gK_pL, gK_pR, gK_pA, gK_pQ, gN_pI, gN_pL, gN_pR, gN_pA, gN_pQ, gS_pI, gS_pL, gS_pR, gS_pA, gS_pQ, gI_mk, gL_mk, gR_mk, gA_mk, gQ_mk, gK_mk, gN_mk, gS_mk, vn0, vn1, lt0, leN, ltN, eqN, eqM1, M1eq, le0n, eq0n, nI_add, nI_mul, ↓reduceIte, Nat.reduceAdd, Nat.reduceMul, Nat.reduceEqDiff, Nat.reduceLT, Nat.reduceLeDiff, and_true, true_and, and_false, false_and, and_self, reduceCtorEq, not_true_eq_false, not_false_eq_true]
    · rw [e2, ← hh1]; simp (disch := omega) only [↓uGI, ↓uGL, ↓uGR, ↓uPI, ↓uPL, ↓uPR, ↓uAL, ↓uQL, ↓uAS, ↓uQS, ↓uAN, ↓uCV, ↓oCL, ↓oNO, ↓uNA, ↓oNN, ↓oZ0, ↓oZ1, gI_pI, gI_pL, gI_pR, gI_pA, gI_pQ, gL_pI, gL_pL, gL_pR, gL_pA, gL_pQ, gR_pI, gR_pL, gR_pR, gR_pA, gR_pQ, gA_pI, gA_pL, gA_pR, gA_pA, gA_pQ, gQ_pI, gQ_pL, gQ_pR, gQ_pA, gQ_pQ, gK_pI, gK_pL, gK_pR, gK_pA, gK_pQ, gN_pI, gN_pL, gN_pR, gN_pA, gN_pQ, gS_pI, gS_pL, gS_pR, gS_pA, gS_pQ, gI_mk, gL_mk, gR_mk, gA_mk, gQ_mk, gK_mk, gN_mk, gS_mk, vn0, vn1, lt0, leN, ltN, eqN, eqM1, M1eq, le0n, eq0n, nI_add, nI_mul, ↓reduceIte, Nat.reduceAdd, Nat.reduceMul, Nat.reduceEqDiff, Nat.reduceLT, Nat.reduceLeDiff, and_true, true_and, and_false, false_and, and_self, reduceCtorEq, not_true_eq_false, not_false_eq_true, show ¬ gN h + 1 = gN h + 1 + 1 by omega]
    · rw [e2, e3, ← hh1]; simp (disch := omega) only [↓uGI, ↓uGL, ↓uGR, ↓uPI, ↓uPL, ↓uPR, ↓uAL, ↓uQL, ↓uAS, ↓uQS, ↓uAN, ↓uCV, ↓oCL, ↓oNO, ↓uNA, ↓oNN, ↓oZ0, ↓oZ1, gI_pI, gI_pL, gI_pR, gI_pA, gI_pQ, gL_pI, gL_pL, gL_pR, gL_pA, gL_pQ, gR_pI, gR_pL, gR_pR, gR_pA, gR_pQ, gA_pI, gA_pL, gA_pR, gA_pA, gA_pQ, gQ_pI, gQ_pL, gQ_pR, gQ_pA, gQ_pQ, gK_pI, gK_pL, gK_pR, gK_pA, gK_pQ, gN_pI, gN_pL, gN_pR, gN_pA, gN_pQ, gS_pI, gS_pL, gS_pR, gS_pA, gS_pQ, gI_mk, gL_mk, gR_mk, gA_mk, gQ_mk, gK_mk, gN_mk, gS_mk, vn0, vn1, lt0, leN, ltN, eqN, eqM1, M1eq, le0n, eq0n, nI_add, nI_mul, ↓reduceIte, Nat.reduceAdd, Nat.reduceMul, Nat.reduceEqDiff, Nat.reduceLT, Nat.reduceLeDiff, and_true, true_and, and_false, false_and, and_self, reduceCtorEq, not_true_eq_false, not_false_eq_true]
    · rw [e3, ← hh1]; simp (disch := omega) only [↓uGI, ↓uGL, ↓uGR, ↓uPI, ↓uPL, ↓uPR, ↓uAL, ↓uQL, ↓uAS, ↓uQS, ↓uAN, ↓uCV, ↓oCL, ↓oNO, ↓uNA, ↓oNN, ↓oZ0, ↓oZ1, gI_pI, gI_pL, gI_pR, gI_pA, gI_pQ, gL_pI, gL_pL, gL_pR, gL_pA, gL_pQ, gR_pI, gR_pL, gR_pR, gR_pA, gR_pQ, gA_pI, gA_pL, gA_pR, gA_pA, gA_pQ, gQ_pI, gQ_pL, gQ_pR, gQ_pA, gQ_pQ, gK_pI, gK_pL, gK_pR, gK_pA, gK_pQ, gN_pI, gN_pL, gN_pR, gN_pA, gN_pQ, gS_pI, gS_pL, gS_pR, gS_pA, gS_pQ, gI_mk, gL_mk, gR_mk, gA_mk, gQ_mk, gK_mk, gN_mk, gS_mk, vn0, vn1, lt0, leN, ltN, eqN, eqM1, M1eq, le0n, eq0n, nI_add, nI_mul, ↓reduceIte, Nat.reduceAdd, Nat.reduceMul, Nat.reduceEqDiff, Nat.reduceLT, Nat.reduceLeDiff, and_true, true_and, and_false, false_and, and_self, reduceCtorEq, not_true_eq_false, not_false_eq_true, Nat.add_assoc]
    · rw [e3, ← hh1]; simp (disch := omega) only [↓uGI, ↓uGL, ↓uGR, ↓uPI, ↓uPL, ↓uPR, ↓uAL, ↓uQL, ↓uAS, ↓uQS, ↓uAN, ↓uCV, ↓oCL, ↓oNO, ↓uNA, ↓oNN, ↓oZ0, ↓oZ1, gI_pI, gI_pL, gI_pR, gI_pA, gI_pQ, gL_pI, gL_pL, gL_pR, gL_pA, gL_pQ, gR_pI, gR_pL, gR_pR, gR_pA, gR_pQ, gA_pI, gA_pL, gA_pR, gA_pA, gA_pQ, gQ_pI, gQ_pL, gQ_pR, gQ_pA, gQ_pQ, gK_pI, gK_pL, gK_pR, gK_pA, gK_pQ, gN_pI, gN_pL, gN_pR, gN_pA, gN_pQ, gS_pI, gS_pL, gS_pR, gS_pA, gS_pQ, gI_mk, gL_mk, gR_mk, gA_mk, gQ_mk, gK_mk, gN_mk, gS_mk, vn0, vn1, lt0, leN, ltN, eqN, eqM1, M1eq, le0n, eq0n, nI_add, nI_mul, ↓reduceIte, Nat.reduceAdd, Nat.reduceMul, Nat.reduceEqDiff, Nat.reduceLT, Nat.reduceLeDiff, and_true, true_and, and_false, false_and, and_self, reduceCtorEq, not_true_eq_false, not_false_eq_true, Nat.add_assoc, show ¬ gN h + 2 = sg 9 from fun z => by have := sN 9 2 (by omega); rw [z] at this; simp at this]
    · rw [eo _ _ _ (by omega), gn1]; exact unl _ _ _ 3 (by omega) (hu 5 j (by omega) (by omega))
    · rw [eo _ _ _ (by omega), gn1]; exact unl _ _ _ 3 (by omega) (hu 6 j (by omega) (by omega))
    · rw [e1, ← hh1]; simp (disch := omega) only [↓uGI, ↓uGL, ↓uGR, ↓uPI, ↓uPL, ↓uPR, ↓uAL, ↓uQL, ↓uAS, ↓uQS, ↓uAN, ↓uCV, ↓oCL, ↓oNO, ↓uNA, ↓oNN, ↓oZ0, ↓oZ1, gI_pI, gI_pL, gI_pR, gI_pA, gI_pQ, gL_pI, gL_pL, gL_pR, gL_pA, gL_pQ, gR_pI, gR_pL, gR_pR, gR_pA, gR_pQ, gA_pI, gA_pL, gA_pR, gA_pA, gA_pQ, gQ_pI, gQ_pL, gQ_pR, gQ_pA, gQ_pQ, gK_pI, gK_pL, gK_pR, gK_pA, gK_pQ, gN_pI, gN_pL, gN_pR, gN_pA, gN_pQ, gS_pI, gS_pL, gS_pR, gS_pA, gS_pQ, gI_mk, gL_mk, gR_mk, gA_mk, gQ_mk, gK_mk, gN_mk, gS_mk, vn0, vn1, lt0, leN, ltN, eqN, eqM1, M1eq, le0n, eq0n, nI_add, nI_mul, ↓reduceIte, Nat.reduceAdd, Nat.reduceMul, Nat.reduceEqDiff, Nat.reduceLT, Nat.reduceLeDiff, and_true, true_and, and_false, false_and, and_self, reduceCtorEq, not_true_eq_false, not_false_eq_true, show ¬ gN h = gN h + 1 by omega, show ¬ gN h = gN h + 1 + 1 by omega]
    · rw [eo _ _ _ (by omega), gn1]; exact unl _ _ _ 3 (by omega) (hu 4 0 (by omega) (by omega))
  have Q1 : gQ h1 (sg 9) n = some (ad1 1 n 0) := by rw [e1, ← hh1]; simp only [↓uGI, ↓uGL, ↓uGR, ↓uPI, ↓uPL, ↓uPR, ↓uAL, ↓uQL, ↓uAS, ↓uQS, ↓uAN, ↓uCV, ↓oCL, ↓oNO, ↓uNA, ↓oNN, ↓oZ0, ↓oZ1, gI_pI, gI_pL, gI_pR, gI_pA, gI_pQ, gL_pI, gL_pL, gL_pR, gL_pA, gL_pQ, gR_pI, gR_pL, gR_pR, gR_pA, gR_pQ, gA_pI, gA_pL, gA_pR, gA_pA, gA_pQ, gQ_pI, gQ_pL, gQ_pR, gQ_pA, gQ_pQ, gK_pI, gK_pL, gK_pR, gK_pA, gK_pQ, gN_pI, gN_pL, gN_pR, gN_pA, gN_pQ, gS_pI, gS_pL, gS_pR, gS_pA, gS_pQ, gI_mk, gL_mk, gR_mk, gA_mk, gQ_mk, gK_mk, gN_mk, gS_mk, vn0, vn1, lt0, leN, ltN, eqN, eqM1, M1eq, le0n, eq0n, nI_add, nI_mul, ↓reduceIte, Nat.reduceAdd, Nat.reduceMul, Nat.reduceEqDiff, Nat.reduceLT, Nat.reduceLeDiff, and_true, true_and, and_false, false_and, and_self, reduceCtorEq, not_true_eq_false, not_false_eq_true]
  have W1 : FrX (fun a => Own h1 ad1 n a ∨ a = sg 9) h h1 := by
    have o1 : Own h1 ad1 n (gN h) := ⟨1, 0, e1.symm, by omega⟩
    have o2 : Own h1 ad1 n (gN h + 1) := ⟨2, 0, e2.symm, by omega⟩
    have o3 : Own h1 ad1 n (gN h + 2) := ⟨3, 0, e3.symm, by omega⟩
    rw [← hh1] at o1 o2 o3 ⊢
    exact FrX.pQ (FrX.pI (FrX.pR (FrX.pR (FrX.mk (FrX.mk (FrX.mk FrX.rf (Or.inl o1)) (Or.inl o2)) (Or.inl o3)) (Or.inl o2)) (Or.inl o1)) (Or.inl o1)) (Or.inr rfl)
  refine ⟨h1, ad1, fun K => ?_, A4, ?_, Q1, B1, ⟨W1.mo (fun a z => ?_), ⟨by omega, fun c k j hk => ?_⟩, fun c j => eo c 120 j (by omega)⟩, fun c k j hk => eo c k j (by omega)⟩
  · rw [← hh1]
    simp only [fX3_init, fX3_init_0, fX1_init, fX1_init_0]
    simp (disch := omega) only [↓uGI, ↓uGL, ↓uGR, ↓uPI, ↓uPL, ↓uPR, ↓uAL, ↓uQL, ↓uAS, ↓uQS, ↓uAN, ↓uCV, ↓oCL, ↓oNO, ↓uNA, ↓oNN, ↓oZ0, ↓oZ1, gI_pI, gI_pL, gI_pR, gI_pA, gI_pQ, gL_pI, gL_pL, gL_pR, gL_pA, gL_pQ, gR_pI, gR_pL, gR_pR, gR_pA, gR_pQ, gA_pI, gA_pL, gA_pR, gA_pA, gA_pQ, gQ_pI, gQ_pL, gQ_pR, gQ_pA, gQ_pQ, gK_pI, gK_pL, gK_pR, gK_pA, gK_pQ, gN_pI, gN_pL, gN_pR, gN_pA, gN_pQ, gS_pI, gS_pL, gS_pR, gS_pA, gS_pQ, gI_mk, gL_mk, gR_mk, gA_mk, gQ_mk, gK_mk, gN_mk, gS_mk, vn0, vn1, lt0, leN, ltN, eqN, eqM1, M1eq, le0n, eq0n, nI_add, nI_mul, ↓reduceIte, Nat.reduceAdd, Nat.reduceMul, Nat.reduceEqDiff, Nat.reduceLT, Nat.reduceLeDiff, and_true, true_and, and_false, false_and, and_self, reduceCtorEq, not_true_eq_false, not_false_eq_true, hC.2.2.1, sN0, sN, hN0, hN1, hN2, show ¬ gN h = gN h + 1 by omega, show ¬ gN h = gN h + 2 by omega, show ¬ gN h + 1 = gN h by omega, show ¬ gN h + 1 = gN h + 2 by omega, Nat.add_assoc, hn]
  · refine hC.upE hA A4 (fun c k j hk => eo c k j (Or.inl hk)) (fun k hk => eo 1 k 0 (Or.inl (fun z => ?_))) hS (fun _ _ => rfl) (fun _ _ _ => TSame.rf) W1 ?_ (fun k hk => ?_) rfl (Or.inr ⟨Q1, B1, ?_, fun z => ?_⟩)
    · rcases hk with y | y
      · rw [y] at z; rw [← z, h0] at hnu; cases hnu
      · rw [z, hnu] at y; cases y
    · rw [← hh1]; simp (disch := omega) only [↓uGI, ↓uGL, ↓uGR, ↓uPI, ↓uPL, ↓uPR, ↓uAL, ↓uQL, ↓uAS, ↓uQS, ↓uAN, ↓uCV, ↓oCL, ↓oNO, ↓uNA, ↓oNN, ↓oZ0, ↓oZ1, gI_pI, gI_pL, gI_pR, gI_pA, gI_pQ, gL_pI, gL_pL, gL_pR, gL_pA, gL_pQ, gR_pI, gR_pL, gR_pR, gR_pA, gR_pQ, gA_pI, gA_pL, gA_pR, gA_pA, gA_pQ, gQ_pI, gQ_pL, gQ_pR, gQ_pA, gQ_pQ, gK_pI, gK_pL, gK_pR, gK_pA, gK_pQ, gN_pI, gN_pL, gN_pR, gN_pA, gN_pQ, gS_pI, gS_pL, gS_pR, gS_pA, gS_pQ, gI_mk, gL_mk, gR_mk, gA_mk, gQ_mk, gK_mk, gN_mk, gS_mk, vn0, vn1, lt0, leN, ltN, eqN, eqM1, M1eq, le0n, eq0n, nI_add, nI_mul, ↓reduceIte, Nat.reduceAdd, Nat.reduceMul, Nat.reduceEqDiff, Nat.reduceLT, Nat.reduceLeDiff, and_true, true_and, and_false, false_and, and_self, reduceCtorEq, not_true_eq_false, not_false_eq_true, sN0, sN, Nat.add_assoc]
    · rw [← hh1]; simp (disch := omega) only [↓uGI, ↓uGL, ↓uGR, ↓uPI, ↓uPL, ↓uPR, ↓uAL, ↓uQL, ↓uAS, ↓uQS, ↓uAN, ↓uCV, ↓oCL, ↓oNO, ↓uNA, ↓oNN, ↓oZ0, ↓oZ1, gI_pI, gI_pL, gI_pR, gI_pA, gI_pQ, gL_pI, gL_pL, gL_pR, gL_pA, gL_pQ, gR_pI, gR_pL, gR_pR, gR_pA, gR_pQ, gA_pI, gA_pL, gA_pR, gA_pA, gA_pQ, gQ_pI, gQ_pL, gQ_pR, gQ_pA, gQ_pQ, gK_pI, gK_pL, gK_pR, gK_pA, gK_pQ, gN_pI, gN_pL, gN_pR, gN_pA, gN_pQ, gS_pI, gS_pL, gS_pR, gS_pA, gS_pQ, gI_mk, gL_mk, gR_mk, gA_mk, gQ_mk, gK_mk, gN_mk, gS_mk, vn0, vn1, lt0, leN, ltN, eqN, eqM1, M1eq, le0n, eq0n, nI_add, nI_mul, ↓reduceIte, Nat.reduceAdd, Nat.reduceMul, Nat.reduceEqDiff, Nat.reduceLT, Nat.reduceLeDiff, and_true, true_and, and_false, false_and, and_self, reduceCtorEq, not_true_eq_false, not_false_eq_true, sN0, sN, Nat.add_assoc, hk]
    · rw [e1, ← hh1, hnu]; simp (disch := omega) only [↓uGI, ↓uGL, ↓uGR, ↓uPI, ↓uPL, ↓uPR, ↓uAL, ↓uQL, ↓uAS, ↓uQS, ↓uAN, ↓uCV, ↓oCL, ↓oNO, ↓uNA, ↓oNN, ↓oZ0, ↓oZ1, gI_pI, gI_pL, gI_pR, gI_pA, gI_pQ, gL_pI, gL_pL, gL_pR, gL_pA, gL_pQ, gR_pI, gR_pL, gR_pR, gR_pA, gR_pQ, gA_pI, gA_pL, gA_pR, gA_pA, gA_pQ, gQ_pI, gQ_pL, gQ_pR, gQ_pA, gQ_pQ, gK_pI, gK_pL, gK_pR, gK_pA, gK_pQ, gN_pI, gN_pL, gN_pR, gN_pA, gN_pQ, gS_pI, gS_pL, gS_pR, gS_pA, gS_pQ, gI_mk, gL_mk, gR_mk, gA_mk, gQ_mk, gK_mk, gN_mk, gS_mk, vn0, vn1, lt0, leN, ltN, eqN, eqM1, M1eq, le0n, eq0n, nI_add, nI_mul, ↓reduceIte, Nat.reduceAdd, Nat.reduceMul, Nat.reduceEqDiff, Nat.reduceLT, Nat.reduceLeDiff, and_true, true_and, and_false, false_and, and_self, reduceCtorEq, not_true_eq_false, not_false_eq_true, show ¬ gN h = gN h + 1 by omega, show ¬ gN h = gN h + 1 + 1 by omega]; rfl
    · rw [hnu] at z; cases z
  · rcases z with z | z
    · exact Or.inl ⟨n, hn, z⟩
    · exact Or.inr (Or.inr z)
  · refine eo c k j ?_
    by_cases e : k = n ∧ 1 ≤ c ∧ c ≤ 3
    · exfalso
      have := hu c j (by omega) (by omega)
      rw [← e.1] at this
      omega
    · omega

theorem cls_kid_L {h : AH} {ad : Nat → Nat → Nat → Nat} {tr nd : Nat} {T : TS} (hC : ClsT h ad tr nd T) : ∀ (l : List Nat) (o : Option Nat) (f k : Nat), k < 2 ^ 31 → Ch (tNx T) o l → (∀ x ∈ l, x < 120 ∧ tIs T x = true) → l.length < f → fX8_kid_28 f (nI k) (oN ad o) h = some (oI l[k]?, h) := by
  intro l
  induction l with
  | nil =>
    intro o f k hk hc hm hf
    obtain ⟨f, rfl⟩ : ∃ g, f = g + 1 := ⟨f - 1, by simp at hf; omega⟩
    have e : o = none := hc
    subst e
    rw [fX8_kid_28]
    simp only [↓uGI, ↓uGL, ↓uGR, ↓uPI, ↓uPL, ↓uPR, ↓uAL, ↓uQL, ↓uAS, ↓uQS, ↓uAN, ↓uCV, ↓oCL, ↓oNO, ↓uNA, ↓oNN, ↓oZ0, ↓oZ1, gI_pI, gI_pL, gI_pR, gI_pA, gI_pQ, gL_pI, gL_pL, gL_pR, gL_pA, gL_pQ, gR_pI, gR_pL, gR_pR, gR_pA, gR_pQ, gA_pI, gA_pL, gA_pR, gA_pA, gA_pQ, gQ_pI, gQ_pL, gQ_pR, gQ_pA, gQ_pQ, gK_pI, gK_pL, gK_pR, gK_pA, gK_pQ, gN_pI, gN_pL, gN_pR, gN_pA, gN_pQ, gS_pI, gS_pL, gS_pR, gS_pA, gS_pQ, gI_mk, gL_mk, gR_mk, gA_mk, gQ_mk, gK_mk, gN_mk, gS_mk, vn0, vn1, lt0, leN, ltN, eqN, eqM1, M1eq, le0n, eq0n, nI_add, nI_mul, ↓reduceIte, Nat.reduceAdd, Nat.reduceMul, Nat.reduceEqDiff, Nat.reduceLT, Nat.reduceLeDiff, and_true, true_and, and_false, false_and, and_self, reduceCtorEq, not_true_eq_false, not_false_eq_true, oN_n, fX8_kid_57, List.getElem?_nil, oI]
  | cons i l ih =>
    intro o f k hk hc hm hf
    obtain ⟨f, rfl⟩ : ∃ g, f = g + 1 := ⟨f - 1, by simp at hf; omega⟩
    obtain ⟨rfl, hc2⟩ := hc
    obtain ⟨hi, hu⟩ := hm i List.mem_cons_self
    obtain ⟨-, ⟨b1, b2, -⟩, -, -, -, -, -, v6, -⟩ := hC.nd hi hu
    rw [fX8_kid_28]
    cases k with
    | zero => simp (disch := omega) only [↓uGI, ↓uGL, ↓uGR, ↓uPI, ↓uPL, ↓uPR, ↓uAL, ↓uQL, ↓uAS, ↓uQS, ↓uAN, ↓uCV, ↓oCL, ↓oNO, ↓uNA, ↓oNN, ↓oZ0, ↓oZ1, gI_pI, gI_pL, gI_pR, gI_pA, gI_pQ, gL_pI, gL_pL, gL_pR, gL_pA, gL_pQ, gR_pI, gR_pL, gR_pR, gR_pA, gR_pQ, gA_pI, gA_pL, gA_pR, gA_pA, gA_pQ, gQ_pI, gQ_pL, gQ_pR, gQ_pA, gQ_pQ, gK_pI, gK_pL, gK_pR, gK_pA, gK_pQ, gN_pI, gN_pL, gN_pR, gN_pA, gN_pQ, gS_pI, gS_pL, gS_pR, gS_pA, gS_pQ, gI_mk, gL_mk, gR_mk, gA_mk, gQ_mk, gK_mk, gN_mk, gS_mk, vn0, vn1, lt0, leN, ltN, eqN, eqM1, M1eq, le0n, eq0n, nI_add, nI_mul, ↓reduceIte, Nat.reduceAdd, Nat.reduceMul, Nat.reduceEqDiff, Nat.reduceLT, Nat.reduceLeDiff, and_true, true_and, and_false, false_and, and_self, reduceCtorEq, not_true_eq_false, not_false_eq_true, oN_s, some_ne, fX8_kid_38, b1, b2, List.getElem?_cons_zero, oI]
    | succ k =>
      simp (disch := omega) only [↓uGI, ↓uGL, ↓uGR, ↓uPI, ↓uPL, ↓uPR, ↓uAL, ↓uQL, ↓uAS, ↓uQS, ↓uAN, ↓uCV, ↓oCL, ↓oNO, ↓uNA, ↓oNN, ↓oZ0, ↓oZ1, gI_pI, gI_pL, gI_pR, gI_pA, gI_pQ, gL_pI, gL_pL, gL_pR, gL_pA, gL_pQ, gR_pI, gR_pL, gR_pR, gR_pA, gR_pQ, gA_pI, gA_pL, gA_pR, gA_pA, gA_pQ, gQ_pI, gQ_pL, gQ_pR, gQ_pA, gQ_pQ, gK_pI, gK_pL, gK_pR, gK_pA, gK_pQ, gN_pI, gN_pL, gN_pR, gN_pA, gN_pQ, gS_pI, gS_pL, gS_pR, gS_pA, gS_pQ, gI_mk, gL_mk, gR_mk, gA_mk, gQ_mk, gK_mk, gN_mk, gS_mk, vn0, vn1, lt0, leN, ltN, eqN, eqM1, M1eq, le0n, eq0n, nI_add, nI_mul, ↓reduceIte, Nat.reduceAdd, Nat.reduceMul, Nat.reduceEqDiff, Nat.reduceLT, Nat.reduceLeDiff, and_true, true_and, and_false, false_and, and_self, reduceCtorEq, not_true_eq_false, not_false_eq_true, oN_s, some_ne, b1, v6, Nat.succ_ne_zero, Nat.add_eq_zero_iff, Nat.one_ne_zero, pk_m1]
      rw [ih _ f k (by omega) hc2 (fun x hx => hm x (List.mem_cons_of_mem _ hx)) (by simp at hf; omega), List.getElem?_cons_succ]
theorem ref_kid_L {h : AH} {m : Nat} {ra : Nat → Nat} {T : TS} (hB : RB h m ra) (hR : RefT h m ra T) (K : Nat) (hK : K < 2 ^ 31) : ∀ (l : List Nat) (o : Option Nat) (f j : Nat), j ≤ K → Ch (tNx T) o l → (∀ x ∈ l, x < 120 ∧ tIs T x = true) → l.length < f → fX9_kid_24 f (some m) (nI K) (oI o) (nI j) h = some (oI l[K - j]?, h) := by
  intro l
  induction l with
  | nil =>
    intro o f j hj hc hm hf
    obtain ⟨f, rfl⟩ : ∃ g, f = g + 1 := ⟨f - 1, by simp at hf; omega⟩
    have e : o = none := hc
    subst e
    rw [fX9_kid_24]
    by_cases hjk : K ≤ j
    · simp (disch := omega) only [↓uGI, ↓uGL, ↓uGR, ↓uPI, ↓uPL, ↓uPR, ↓uAL, ↓uQL, ↓uAS, ↓uQS, ↓uAN, ↓uCV, ↓oCL, ↓oNO, ↓uNA, ↓oNN, ↓oZ0, ↓oZ1, gI_pI, gI_pL, gI_pR, gI_pA, gI_pQ, gL_pI, gL_pL, gL_pR, gL_pA, gL_pQ, gR_pI, gR_pL, gR_pR, gR_pA, gR_pQ, gA_pI, gA_pL, gA_pR, gA_pA, gA_pQ, gQ_pI, gQ_pL, gQ_pR, gQ_pA, gQ_pQ, gK_pI, gK_pL, gK_pR, gK_pA, gK_pQ, gN_pI, gN_pL, gN_pR, gN_pA, gN_pQ, gS_pI, gS_pL, gS_pR, gS_pA, gS_pQ, gI_mk, gL_mk, gR_mk, gA_mk, gQ_mk, gK_mk, gN_mk, gS_mk, vn0, vn1, lt0, leN, ltN, eqN, eqM1, M1eq, le0n, eq0n, nI_add, nI_mul, ↓reduceIte, Nat.reduceAdd, Nat.reduceMul, Nat.reduceEqDiff, Nat.reduceLT, Nat.reduceLeDiff, and_true, true_and, and_false, false_and, and_self, reduceCtorEq, not_true_eq_false, not_false_eq_true, oI_n, fX9_kid_48, List.getElem?_nil, hjk]
    · simp (disch := omega) only [↓uGI, ↓uGL, ↓uGR, ↓uPI, ↓uPL, ↓uPR, ↓uAL, ↓uQL, ↓uAS, ↓uQS, ↓uAN, ↓uCV, ↓oCL, ↓oNO, ↓uNA, ↓oNN, ↓oZ0, ↓oZ1, gI_pI, gI_pL, gI_pR, gI_pA, gI_pQ, gL_pI, gL_pL, gL_pR, gL_pA, gL_pQ, gR_pI, gR_pL, gR_pR, gR_pA, gR_pQ, gA_pI, gA_pL, gA_pR, gA_pA, gA_pQ, gQ_pI, gQ_pL, gQ_pR, gQ_pA, gQ_pQ, gK_pI, gK_pL, gK_pR, gK_pA, gK_pQ, gN_pI, gN_pL, gN_pR, gN_pA, gN_pQ, gS_pI, gS_pL, gS_pR, gS_pA, gS_pQ, gI_mk, gL_mk, gR_mk, gA_mk, gQ_mk, gK_mk, gN_mk, gS_mk, vn0, vn1, lt0, leN, ltN, eqN, eqM1, M1eq, le0n, eq0n, nI_add, nI_mul, ↓reduceIte, Nat.reduceAdd, Nat.reduceMul, Nat.reduceEqDiff, Nat.reduceLT, Nat.reduceLeDiff, and_true, true_and, and_false, false_and, and_self, reduceCtorEq, not_true_eq_false, not_false_eq_true, oI_n, fX9_kid_48, List.getElem?_nil, hjk]
  | cons i l ih =>
    intro o f j hj hc hm hf
    obtain ⟨f, rfl⟩ : ∃ g, f = g + 1 := ⟨f - 1, by simp at hf; omega⟩
    obtain ⟨rfl, hc2⟩ := hc
    obtain ⟨hi, hu⟩ := hm i List.mem_cons_self
    obtain ⟨-, -, -, -, -, -, v6, -⟩ := (hR.2 i hi).2 hu
    rw [fX9_kid_24]
    by_cases hjk : K ≤ j
    · have e : K - j = 0 := by omega
      simp (disch := omega) only [↓uGI, ↓uGL, ↓uGR, ↓uPI, ↓uPL, ↓uPR, ↓uAL, ↓uQL, ↓uAS, ↓uQS, ↓uAN, ↓uCV, ↓oCL, ↓oNO, ↓uNA, ↓oNN, ↓oZ0, ↓oZ1, gI_pI, gI_pL, gI_pR, gI_pA, gI_pQ, gL_pI, gL_pL, gL_pR, gL_pA, gL_pQ, gR_pI, gR_pL, gR_pR, gR_pA, gR_pQ, gA_pI, gA_pL, gA_pR, gA_pA, gA_pQ, gQ_pI, gQ_pL, gQ_pR, gQ_pA, gQ_pQ, gK_pI, gK_pL, gK_pR, gK_pA, gK_pQ, gN_pI, gN_pL, gN_pR, gN_pA, gN_pQ, gS_pI, gS_pL, gS_pR, gS_pA, gS_pQ, gI_mk, gL_mk, gR_mk, gA_mk, gQ_mk, gK_mk, gN_mk, gS_mk, vn0, vn1, lt0, leN, ltN, eqN, eqM1, M1eq, le0n, eq0n, nI_add, nI_mul, ↓reduceIte, Nat.reduceAdd, Nat.reduceMul, Nat.reduceEqDiff, Nat.reduceLT, Nat.reduceLeDiff, and_true, true_and, and_false, false_and, and_self, reduceCtorEq, not_true_eq_false, not_false_eq_true, oI_s, fX9_kid_48, hjk, e, List.getElem?_cons_zero]
    · have e : K - j = (K - (j + 1)) + 1 := by omega
      simp (disch := omega) only [↓uGI, ↓uGL, ↓uGR, ↓uPI, ↓uPL, ↓uPR, ↓uAL, ↓uQL, ↓uAS, ↓uQS, ↓uAN, ↓uCV, ↓oCL, ↓oNO, ↓uNA, ↓oNN, ↓oZ0, ↓oZ1, gI_pI, gI_pL, gI_pR, gI_pA, gI_pQ, gL_pI, gL_pL, gL_pR, gL_pA, gL_pQ, gR_pI, gR_pL, gR_pR, gR_pA, gR_pQ, gA_pI, gA_pL, gA_pR, gA_pA, gA_pQ, gQ_pI, gQ_pL, gQ_pR, gQ_pA, gQ_pQ, gK_pI, gK_pL, gK_pR, gK_pA, gK_pQ, gN_pI, gN_pL, gN_pR, gN_pA, gN_pQ, gS_pI, gS_pL, gS_pR, gS_pA, gS_pQ, gI_mk, gL_mk, gR_mk, gA_mk, gQ_mk, gK_mk, gN_mk, gS_mk, vn0, vn1, lt0, leN, ltN, eqN, eqM1, M1eq, le0n, eq0n, nI_add, nI_mul, ↓reduceIte, Nat.reduceAdd, Nat.reduceMul, Nat.reduceEqDiff, Nat.reduceLT, Nat.reduceLeDiff, and_true, true_and, and_false, false_and, and_self, reduceCtorEq, not_true_eq_false, not_false_eq_true, oI_s, hjk, hB.o, hB.r13, hB.k13, hi, v6]
      rw [ih _ f (j + 1) (by omega) hc2 (fun x hx => hm x (List.mem_cons_of_mem _ hx)) (by simp at hf; omega), e, List.getElem?_cons_succ]
theorem kid_eq {h h2 : AH} {x t o f tr rd m nd : Nat} {ra : Nat → Nat} {ad : Nat → Nat → Nat → Nat} {T : TS} (hC : CB h x t o f tr rd) (hT : ClsT h ad tr nd T) (hB : RB h2 m ra) (hR : RefT h2 m ra T) (hCh : ChT T) (v w : Int32) :
    ∃ r, fX8_kid (some x) v w h = some (r, h) ∧ fX9_kid (some m) v w h2 = some (r, h2) := by
  obtain ⟨c1, -, -, -, c2, -⟩ := id hC
  have k1 := hT.1
  have hfu := FU_ge
  simp only [fX8_kid, fX8_kid_0, fX8_kid_17, fX9_kid, fX9_kid_0, fX9_kid_12]
  simp only [↓uGI, ↓uGL, ↓uGR, ↓uPI, ↓uPL, ↓uPR, ↓uAL, ↓uQL, ↓uAS, ↓uQS, ↓uAN, ↓uCV, ↓oCL, ↓oNO, ↓uNA, ↓oNN, ↓oZ0, ↓oZ1, gI_pI, gI_pL, gI_pR, gI_pA, gI_pQ, gL_pI, gL_pL, gL_pR, gL_pA, gL_pQ, gR_pI, gR_pL, gR_pR, gR_pA, gR_pQ, gA_pI, gA_pL, gA_pR, gA_pA, gA_pQ, gQ_pI, gQ_pL, gQ_pR, gQ_pA, gQ_pQ, gK_pI, gK_pL, gK_pR, gK_pA, gK_pQ, gN_pI, gN_pL, gN_pR, gN_pA, gN_pQ, gS_pI, gS_pL, gS_pR, gS_pA, gS_pQ, gI_mk, gL_mk, gR_mk, gA_mk, gQ_mk, gK_mk, gN_mk, gS_mk, vn0, vn1, lt0, leN, ltN, eqN, eqM1, M1eq, le0n, eq0n, nI_add, nI_mul, ↓reduceIte, Nat.reduceAdd, Nat.reduceMul, Nat.reduceEqDiff, Nat.reduceLT, Nat.reduceLeDiff, and_true, true_and, and_false, false_and, and_self, reduceCtorEq, not_true_eq_false, not_false_eq_true, c1, c2, k1, cls_nodeAt hT, hB.o, ref_there hB hR, bI0]
  cases hn : nAt T v with
  | none => exact ⟨-1, by simp [oN_n], by simp⟩
  | some i =>
    obtain ⟨hi, hu, rfl⟩ := nAt_some hn
    obtain ⟨⟨l1, ch1, len1, mem1⟩, -⟩ := hCh i hu
    obtain ⟨-, ⟨b1, b2, b3, b4, b5⟩, v1, v2, v3, v4, v5, v6, v7, -⟩ := hT.nd hi hu
    obtain ⟨w1, w2, w3, w4, w5, -⟩ := (hR.2 i hi).2 hu
    simp only [oN_s, some_ne, Option.isSome_some, Bool.true_eq_false, ↓reduceIte]
    by_cases h0 : w < 0
    · have h1 : ¬ (0 : Int32) ≤ w := Int32.not_le.mpr h0
      exact ⟨-1, by simp only [h1, ↓reduceIte], by simp only [h1, ↓reduceIte]⟩
    · have h1 : (0 : Int32) ≤ w := Int32.not_lt.mp h0
      obtain ⟨k, hk, rfl⟩ := nI_of h0
      refine ⟨oI l1[k]?, ?_, ?_⟩
      · simp only [h1, ↓reduceIte, ↓uGI, ↓uGL, ↓uGR, ↓uPI, ↓uPL, ↓uPR, ↓uAL, ↓uQL, ↓uAS, ↓uQS, ↓uAN, ↓uCV, ↓oCL, ↓oNO, ↓uNA, ↓oNN, ↓oZ0, ↓oZ1, gI_pI, gI_pL, gI_pR, gI_pA, gI_pQ, gL_pI, gL_pL, gL_pR, gL_pA, gL_pQ, gR_pI, gR_pL, gR_pR, gR_pA, gR_pQ, gA_pI, gA_pL, gA_pR, gA_pA, gA_pQ, gQ_pI, gQ_pL, gQ_pR, gQ_pA, gQ_pQ, gK_pI, gK_pL, gK_pR, gK_pA, gK_pQ, gN_pI, gN_pL, gN_pR, gN_pA, gN_pQ, gS_pI, gS_pL, gS_pR, gS_pA, gS_pQ, gI_mk, gL_mk, gR_mk, gA_mk, gQ_mk, gK_mk, gN_mk, gS_mk, vn0, vn1, lt0, leN, ltN, eqN, eqM1, M1eq, le0n, eq0n, nI_add, nI_mul, ↓reduceIte, Nat.reduceAdd, Nat.reduceMul, Nat.reduceEqDiff, Nat.reduceLT, Nat.reduceLeDiff, and_true, true_and, and_false, false_and, and_self, reduceCtorEq, not_true_eq_false, not_false_eq_true, b1, v7, cls_kid_L hT l1 _ FU k hk ch1 mem1 (by omega)]
      · simp (disch := omega) only [h1, ↓reduceIte, ↓uGI, ↓uGL, ↓uGR, ↓uPI, ↓uPL, ↓uPR, ↓uAL, ↓uQL, ↓uAS, ↓uQS, ↓uAN, ↓uCV, ↓oCL, ↓oNO, ↓uNA, ↓oNN, ↓oZ0, ↓oZ1, gI_pI, gI_pL, gI_pR, gI_pA, gI_pQ, gL_pI, gL_pL, gL_pR, gL_pA, gL_pQ, gR_pI, gR_pL, gR_pR, gR_pA, gR_pQ, gA_pI, gA_pL, gA_pR, gA_pA, gA_pQ, gQ_pI, gQ_pL, gQ_pR, gQ_pA, gQ_pQ, gK_pI, gK_pL, gK_pR, gK_pA, gK_pQ, gN_pI, gN_pL, gN_pR, gN_pA, gN_pQ, gS_pI, gS_pL, gS_pR, gS_pA, gS_pQ, gI_mk, gL_mk, gR_mk, gA_mk, gQ_mk, gK_mk, gN_mk, gS_mk, vn0, vn1, lt0, leN, ltN, eqN, eqM1, M1eq, le0n, eq0n, nI_add, nI_mul, ↓reduceIte, Nat.reduceAdd, Nat.reduceMul, Nat.reduceEqDiff, Nat.reduceLT, Nat.reduceLeDiff, and_true, true_and, and_false, false_and, and_self, reduceCtorEq, not_true_eq_false, not_false_eq_true, hB.o, hB.r11, hB.k11, hi, w5, ref_kid_L hB hR k hk l1 _ FU 0 (by omega) ch1 mem1 (by omega), Nat.sub_zero]
/-! a NAME to the out -/
def dgs : Nat → Nat → List Nat
  | 0, _ => []
  | k + 1, P => (if P / 256 ^ k % 256 = 0 then [] else [P / 256 ^ k % 256]) ++ dgs k P
theorem dgs_step : ∀ (k X c : Nat), c < 256 → dgs (k + 1) (X * 256 + c) = dgs k X ++ (if c = 0 then [] else [c]) := by
  intro k
  induction k with
  | zero =>
    intro X c hc
    have e : (X * 256 + c) / 256 ^ 0 % 256 = c := by simp; omega
    show (if (X * 256 + c) / 256 ^ 0 % 256 = 0 then [] else [(X * 256 + c) / 256 ^ 0 % 256]) ++ [] = [] ++ _
    rw [e]
    simp
  | succ k ih =>
    intro X c hc
    have e : (X * 256 + c) / 256 ^ (k + 1) = X / 256 ^ k := by
      rw [Nat.pow_succ', ← Nat.div_div_eq_div_mul]
      congr 1
      omega
    show (if (X * 256 + c) / 256 ^ (k + 1) % 256 = 0 then [] else [(X * 256 + c) / 256 ^ (k + 1) % 256]) ++ dgs (k + 1) (X * 256 + c) = ((if X / 256 ^ k % 256 = 0 then [] else [X / 256 ^ k % 256]) ++ dgs k X) ++ _
    rw [e, ih X c hc, List.append_assoc]
theorem dgs_rpk : ∀ (r : List Nat) (k : Nat), vch r → r.length ≤ k → dgs k (rpk r) = r.reverse := by
  intro r
  induction r with
  | nil =>
    intro k _ _
    induction k with
    | zero => rfl
    | succ k ih =>
      have ih' := ih (Nat.zero_le _)
      rw [dgs, ih']
      simp [rpk]
  | cons c r ih =>
    intro k hv hl
    have hc := hv c List.mem_cons_self
    obtain ⟨k, rfl⟩ : ∃ g, k = g + 1 := ⟨k - 1, by simp at hl; omega⟩
    rw [rpk, dgs_step _ _ _ (by omega), ih k (fun x hx => hv x (List.mem_cons_of_mem _ hx)) (by simp at hl; omega), if_neg (by omega), List.reverse_cons]
theorem dgs_pack {l : List Nat} (hv : vch l) (hl : l.length ≤ 8) : dgs 8 (pack l) = l := by
  unfold pack
  rw [dgs_rpk _ _ (vch_rev hv) (by simp; exact hl), List.reverse_reverse]
theorem nI_nat (n : Nat) : (nI n).toBitVec.toNat = n % 2 ^ 32 := by
  show (BitVec.ofNat 32 n).toNat = _
  rw [BitVec.toNat_ofNat]
theorem cls_dig {P s : Nat} (hP : P < 2 ^ 64) (hs : s < 64) : (Int64.toInt32 ((Int64.toUInt64 (lN P) >>> ((Int32.toInt64 (nI s)).toUInt64 &&& Int64.toUInt64 63)).toInt64)) &&& (nI 255) = nI (P / 2 ^ s % 256) := by
  rw [wb_shr hP hs, lN_i, pk_and (nI (P / 2 ^ s)) (m := nI 255) 8 (by decide), nI_nat]
  congr 1
  omega
theorem cls_putName_L {o b P : Nat} (hP : P < 2 ^ 64) : ∀ (k f : Nat) (h : AH) (ol : List Int32), k ≤ 7 → k + 1 < f → OutC h o b ol →
    ∃ h', fX4_putName_3 f (some o) (lN P) (nI (8 * k)) h = some ((), h') ∧ OutC h' o b (ow ol ((dgs (k + 1) P).map sx)) ∧ FrO o b h h' := by
  intro k
  induction k with
  | zero =>
    intro f h ol hk hf hO
    obtain ⟨f, rfl⟩ : ∃ g, f = g + 1 + 1 := ⟨f - 2, by omega⟩
    obtain ⟨h1, g1, O1, F1⟩ := cls_put hO (nI (P / 2 ^ 0 % 256))
    have z : nI (8 * 0) + (-8) < 0 := by decide
    by_cases hd : P / 2 ^ 0 % 256 = 0
    · refine ⟨h, ?_, ?_, Fr.rf⟩
      · rw [fX4_putName_3]
        simp (disch := omega) only [lt0, ↓reduceIte, cls_dig hP (show 8 * 0 < 64 by omega), show 8 * 0 = 0 from rfl, hd]
        rw [if_pos (by rfl)]
        unfold fX4_putName_28
        rw [fX4_putName_3, if_pos z]
        rfl
      · simp [dgs] at hd ⊢
        rw [if_pos hd]
        simp [ow_nil _ hO.2.2.2.2.1]
        exact hO
    · have hd' : ¬ nI (P / 2 ^ 0 % 256) = 0 := by rw [eq0n (by omega)]; exact hd
      refine ⟨h1, ?_, ?_, F1⟩
      · rw [fX4_putName_3]
        simp (disch := omega) only [lt0, ↓reduceIte, cls_dig hP (show 8 * 0 < 64 by omega), show 8 * 0 = 0 from rfl, hd', ↓uGI, ↓uGL, ↓uGR, ↓uPI, ↓uPL, ↓uPR, ↓uAL, ↓uQL, ↓uAS, ↓uQS, ↓uAN, ↓uCV, ↓oCL, ↓oNO, ↓uNA, ↓oNN, ↓oZ0, ↓oZ1, gI_pI, gI_pL, gI_pR, gI_pA, gI_pQ, gL_pI, gL_pL, gL_pR, gL_pA, gL_pQ, gR_pI, gR_pL, gR_pR, gR_pA, gR_pQ, gA_pI, gA_pL, gA_pR, gA_pA, gA_pQ, gQ_pI, gQ_pL, gQ_pR, gQ_pA, gQ_pQ, gK_pI, gK_pL, gK_pR, gK_pA, gK_pQ, gN_pI, gN_pL, gN_pR, gN_pA, gN_pQ, gS_pI, gS_pL, gS_pR, gS_pA, gS_pQ, gI_mk, gL_mk, gR_mk, gA_mk, gQ_mk, gK_mk, gN_mk, gS_mk, vn0, vn1, lt0, leN, ltN, eqN, eqM1, M1eq, le0n, eq0n, nI_add, nI_mul, ↓reduceIte, Nat.reduceAdd, Nat.reduceMul, Nat.reduceEqDiff, Nat.reduceLT, Nat.reduceLeDiff, and_true, true_and, and_false, false_and, and_self, reduceCtorEq, not_true_eq_false, not_false_eq_true, hO.1, g1]
        unfold fX4_putName_28
        rw [show nI 0 = nI (8 * 0) from rfl, fX4_putName_3, if_pos z]
        rfl
      · simp [dgs] at hd ⊢
        rw [if_neg hd]
        simp at O1
        exact O1
  | succ k ih =>
    intro f h ol hk hf hO
    obtain ⟨f, rfl⟩ : ∃ g, f = g + 1 := ⟨f - 1, by omega⟩
    have e256 : 2 ^ (8 * (k + 1)) = 256 ^ (k + 1) := by rw [show (256 : Nat) = 2 ^ 8 from rfl, ← Nat.pow_mul]
    have z : nI (8 * (k + 1)) + (-8) = nI (8 * k) := by
      rw [show (-8 : Int32) = -(nI 8) from rfl, ← Int32.sub_eq_add_neg, nI_sub (by omega)]
      congr 1
    by_cases hd : P / 2 ^ (8 * (k + 1)) % 256 = 0
    · obtain ⟨h1, g1, O1, F1⟩ := ih f h ol (by omega) (by omega) hO
      refine ⟨h1, ?_, ?_, F1⟩
      · rw [fX4_putName_3]
        simp (disch := omega) only [lt0, ↓reduceIte, cls_dig hP (show 8 * (k + 1) < 64 by omega), hd]
        rw [if_pos (by rfl)]
        unfold fX4_putName_28
        rw [z]
        exact g1
      · rw [e256] at hd
        rw [dgs, if_pos hd]
        exact O1
    · have hd' : ¬ nI (P / 2 ^ (8 * (k + 1)) % 256) = 0 := by rw [eq0n (by omega)]; exact hd
      obtain ⟨h0, g0, O0, F0⟩ := cls_put hO (nI (P / 2 ^ (8 * (k + 1)) % 256))
      obtain ⟨h1, g1, O1, F1⟩ := ih f h0 _ (by omega) (by omega) O0
      refine ⟨h1, ?_, ?_, F0.tr F1⟩
      · rw [fX4_putName_3]
        simp (disch := omega) only [lt0, ↓reduceIte, cls_dig hP (show 8 * (k + 1) < 64 by omega), hd', ↓uGI, ↓uGL, ↓uGR, ↓uPI, ↓uPL, ↓uPR, ↓uAL, ↓uQL, ↓uAS, ↓uQS, ↓uAN, ↓uCV, ↓oCL, ↓oNO, ↓uNA, ↓oNN, ↓oZ0, ↓oZ1, gI_pI, gI_pL, gI_pR, gI_pA, gI_pQ, gL_pI, gL_pL, gL_pR, gL_pA, gL_pQ, gR_pI, gR_pL, gR_pR, gR_pA, gR_pQ, gA_pI, gA_pL, gA_pR, gA_pA, gA_pQ, gQ_pI, gQ_pL, gQ_pR, gQ_pA, gQ_pQ, gK_pI, gK_pL, gK_pR, gK_pA, gK_pQ, gN_pI, gN_pL, gN_pR, gN_pA, gN_pQ, gS_pI, gS_pL, gS_pR, gS_pA, gS_pQ, gI_mk, gL_mk, gR_mk, gA_mk, gQ_mk, gK_mk, gN_mk, gS_mk, vn0, vn1, lt0, leN, ltN, eqN, eqM1, M1eq, le0n, eq0n, nI_add, nI_mul, ↓reduceIte, Nat.reduceAdd, Nat.reduceMul, Nat.reduceEqDiff, Nat.reduceLT, Nat.reduceLeDiff, and_true, true_and, and_false, false_and, and_self, reduceCtorEq, not_true_eq_false, not_false_eq_true, hO.1, g0]
        unfold fX4_putName_28
        rw [z]
        exact g1
      · rw [e256] at hd O1
        rw [ow_app] at O1
        rw [dgs, if_neg hd]
        exact O1
theorem sx_map {l : List Nat} (h : ∀ c ∈ l, c < 128) : l.map sx = l.map nI := List.map_congr_left (fun c hc => sx_lo c (h c hc))
theorem cls_putName {h : AH} {o b : Nat} {ol : List Int32} {l : List Nat} (hO : OutC h o b ol) (hv : vch l) (hl : l.length ≤ 8) : ∃ h', fX4_putName (some o) (lN (pack l)) h = some ((), h') ∧ OutC h' o b (ow ol (l.map nI)) ∧ FrO o b h h' := by
  have hp := pack_lt hv hl
  obtain ⟨h1, g1, O1, F1⟩ := cls_putName_L (o := o) (b := b) (P := pack l) (by omega) 7 FU h ol (by omega) (by have := FU_ge; omega) hO
  rw [dgs_pack hv hl, sx_map (fun c hc => (hv c hc).2)] at O1
  exact ⟨h1, g1, O1, F1⟩

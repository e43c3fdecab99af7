/-! what holds the TREE: the reference's arrays, the class's objects -/
def sl (tx : Nat → Nat) (i c : Nat) : List Nat := (List.range c).map (fun k => tx (i + k))
theorem sl_len (tx : Nat → Nat) (i c : Nat) : (sl tx i c).length = c := by simp [sl]
theorem sl_snoc (tx : Nat → Nat) (i c : Nat) : sl tx i (c + 1) = sl tx i c ++ [tx (i + c)] := by simp [sl, List.range_succ]
theorem sl_get (tx : Nat → Nat) {i c k : Nat} (h : k < c) : (sl tx i c).getD k 0 = tx (i + k) := by
  rw [gD_in (by rw [sl_len]; exact h)]
  simp [sl]
/-- reference: NODE i is held, if it is there -/
def RefN (h : AH) (ra : Nat → Nat) (T : TS) (i : Nat) : Prop :=
  gA h (ra 6) i = bI (tIs T i) ∧ (tIs T i = true →
    gA h (ra 7) i = nI (tTag T i) ∧
    gA h (ra 9) i = nI (tNam T i).length ∧ (∀ k, k < (tNam T i).length → gA h (ra 8) (8 * i + k) = nI ((tNam T i).getD k 0)) ∧
    gA h (ra 10) i = oI (tPar T i) ∧ gA h (ra 11) i = oI (tFk T i) ∧ gA h (ra 12) i = oI (tLk T i) ∧ gA h (ra 13) i = oI (tNx T i) ∧ gA h (ra 14) i = oI (tBf T i) ∧
    gA h (ra 15) i = nI (tDep T i) ∧
    gA h (ra 16) i = nI (tAtt T i).length ∧ (∀ a, a < (tAtt T i).length →
      gA h (ra 18) (4 * i + a) = nI ((tAtt T i).getD a ([], [])).1.length ∧ (∀ k, k < ((tAtt T i).getD a ([], [])).1.length → gA h (ra 17) (8 * (4 * i + a) + k) = nI (((tAtt T i).getD a ([], [])).1.getD k 0)) ∧
      gA h (ra 20) (4 * i + a) = nI ((tAtt T i).getD a ([], [])).2.length ∧ (∀ k, k < ((tAtt T i).getD a ([], [])).2.length → gA h (ra 19) (60 * (4 * i + a) + k) = nI (((tAtt T i).getD a ([], [])).2.getD k 0))) ∧
    gA h (ra 22) i = nI (tTxt T i).length ∧ (∀ k, k < (tTxt T i).length → gA h (ra 21) (400 * i + k) = nI ((tTxt T i).getD k 0)) ∧
    gA h (ra 23) i = bI (tLng T i))
def RefT (h : AH) (m : Nat) (ra : Nat → Nat) (T : TS) : Prop := gI h 475 m = nI (tCnt T) ∧ ∀ i, i < 120 → RefN h ra T i
/-- the sizes that both sides keep to -/
def bch (l : List Nat) : Prop := ∀ c ∈ l, okb c = true
def SizN (T : TS) (i : Nat) : Prop := tTag T i ≤ 17 ∧ (tNam T i).length ≤ 8 ∧ vch (tNam T i) ∧ (tAtt T i).length ≤ 4 ∧ (∀ q ∈ tAtt T i, q.1.length ≤ 8 ∧ vch q.1 ∧ q.2.length ≤ 60 ∧ bch q.2) ∧ (tTxt T i).length ≤ 400 ∧ bch (tTxt T i) ∧ (tTag T i ≠ 17 → tTxt T i = []) ∧ tDep T i ≤ 20 ∧ (∀ j, tPar T i = some j ∨ tFk T i = some j ∨ tLk T i = some j ∨ tNx T i = some j ∨ tBf T i = some j → j < 120 ∧ tIs T j = true)
def SizT (T : TS) : Prop := (∀ i, 120 ≤ i → tIs T i = false) ∧ ∀ i, tIs T i = true → SizN T i
/-- class: a NODE's number, as a reference to its object -/
def oN (ad : Nat → Nat → Nat → Nat) (r : Option Nat) : Option Nat := r.map (fun j => ad 1 j 0)
/-- class: the ATTRIBUTES with the number i (120: those of the TAG that is read) are made: their rows -/
def AtB (h : AH) (ad : Nat → Nat → Nat → Nat) (i : Nat) : Prop := gK h (ad 2 i 0) = (2, 0) ∧ gR h 50 (ad 2 i 0) = some (ad 3 i 0) ∧ gK h (ad 3 i 0) = (104, 4) ∧ ∀ j, j < 4 → (gQ h (ad 3 i 0) j = none ∧ gN h ≤ ad 5 i j ∧ gN h ≤ ad 6 i j) ∨ (gQ h (ad 3 i 0) j = some (ad 5 i j) ∧ gK h (ad 5 i j) = (1, 0) ∧ gR h 1 (ad 5 i j) = some (ad 6 i j) ∧ gK h (ad 6 i j) = (101, 60))
/-- class: and what they hold -/
def AtV (h : AH) (ad : Nat → Nat → Nat → Nat) (i : Nat) (L : AttL) : Prop := gI h 51 (ad 2 i 0) = nI L.length ∧ ∀ j, j < L.length → gQ h (ad 3 i 0) j = some (ad 5 i j) ∧ gL h 0 (ad 5 i j) = lN (pack (L.getD j ([], [])).1) ∧ gI h 2 (ad 5 i j) = nI (L.getD j ([], [])).2.length ∧ ∀ k, k < (L.getD j ([], [])).2.length → gA h (ad 6 i j) k = nI ((L.getD j ([], [])).2.getD k 0)
/-- class: NODE i is made: its number, its ATTRIBUTES, its bytes if it has any -/
def NdB (h : AH) (ad : Nat → Nat → Nat → Nat) (i : Nat) : Prop := gK h (ad 1 i 0) = (4, 0) ∧ gI h 150 (ad 1 i 0) = nI i ∧ gR h 151 (ad 1 i 0) = some (ad 2 i 0) ∧ AtB h ad i ∧ ((gR h 161 (ad 1 i 0) = none ∧ gN h ≤ ad 4 i 0) ∨ (gR h 161 (ad 1 i 0) = some (ad 4 i 0) ∧ gK h (ad 4 i 0) = (101, 400)))
/-- class: NODE i is there, and holds -/
def NdV (h : AH) (ad : Nat → Nat → Nat → Nat) (T : TS) (i : Nat) : Prop := gI h 153 (ad 1 i 0) = nI (tTag T i) ∧ gL h 154 (ad 1 i 0) = lN (pack (tNam T i)) ∧ gI h 155 (ad 1 i 0) = nI (tDep T i) ∧ gR h 156 (ad 1 i 0) = oN ad (tPar T i) ∧ gR h 157 (ad 1 i 0) = oN ad (tBf T i) ∧ gR h 158 (ad 1 i 0) = oN ad (tNx T i) ∧ gR h 159 (ad 1 i 0) = oN ad (tFk T i) ∧ gR h 160 (ad 1 i 0) = oN ad (tLk T i) ∧ AtV h ad i (tAtt T i) ∧ gI h 162 (ad 1 i 0) = nI (tTxt T i).length ∧ gI h 163 (ad 1 i 0) = bI (tLng T i) ∧ (tTag T i = 17 → gR h 161 (ad 1 i 0) = some (ad 4 i 0) ∧ ∀ k, k < (tTxt T i).length → gA h (ad 4 i 0) k = nI ((tTxt T i).getD k 0))
def ClsN (h : AH) (ad : Nat → Nat → Nat → Nat) (nd : Nat) (T : TS) (i : Nat) : Prop :=
  (gQ h nd i = none ∧ tIs T i = false ∧ ∀ c j, 1 ≤ c → c ≤ 6 → gN h ≤ ad c i j) ∨ (gQ h nd i = some (ad 1 i 0) ∧ NdB h ad i ∧ gI h 152 (ad 1 i 0) = bI (tIs T i) ∧ (tIs T i = true → NdV h ad T i))
def ClsT (h : AH) (ad : Nat → Nat → Nat → Nat) (tr nd : Nat) (T : TS) : Prop := gK h tr = (8, 0) ∧ gR h 350 tr = some nd ∧ gK h nd = (103, 120) ∧ gR h 351 tr = some (ad 1 0 0) ∧ gI h 352 tr = nI (tCnt T) ∧ ∀ i, i < 120 → ClsN h ad nd T i
/-- the addresses are apart -/
def Inj3 (ad : Nat → Nat → Nat → Nat) : Prop := ∀ c i j c' i' j', ad c i j = ad c' i' j' ↔ c = c' ∧ i = i' ∧ j = j'
theorem Inj3.e {ad : Nat → Nat → Nat → Nat} (q : Inj3 ad) (c i j c' i' j' : Nat) : (ad c i j = ad c' i' j') = (c = c' ∧ i = i' ∧ j = j') := propext (q c i j c' i' j')
/-- nodeAt, elementAt; there, isElement -/
def nAt (T : TS) (v : Int32) : Option Nat := if v < 0 then none else if v.toNatClampNeg < 120 ∧ tIs T v.toNatClampNeg = true then some v.toNatClampNeg else none
def eAt (T : TS) (v : Int32) : Option Nat := if v < 0 then none else if v.toNatClampNeg < 120 ∧ tIs T v.toNatClampNeg = true ∧ tTag T v.toNatClampNeg ≠ 17 then some v.toNatClampNeg else none
theorem ref_there {h : AH} {m : Nat} {ra : Nat → Nat} {T : TS} (hB : RB h m ra) (hR : RefT h m ra T) (v : Int32) : fX9_there (some m) v h = some (bI (nAt T v).isSome, h) := by
  simp only [fX9_there, fX9_there_0, fX9_there_23, fX9_there_24, nAt]
  by_cases h0 : v < 0
  · simp only [h0, ↓reduceIte, oZn0, Option.isSome_none]; rfl
  · obtain ⟨i, hi, rfl⟩ := nI_of h0
    by_cases h1 : i < 120
    · simp (disch := omega) only [↓uGI, ↓uGL, ↓uGR, ↓uPI, ↓uPL, ↓uPR, ↓uAL, ↓uQL, ↓uAS, ↓uQS, ↓uAN, ↓uCV, ↓oCL, ↓oNO, ↓uNA, ↓oNN, ↓oZ0, ↓oZ1, gI_pI, gI_pL, gI_pR, gI_pA, gI_pQ, gL_pI, gL_pL, gL_pR, gL_pA, gL_pQ, gR_pI, gR_pL, gR_pR, gR_pA, gR_pQ, gA_pI, gA_pL, gA_pR, gA_pA, gA_pQ, gQ_pI, gQ_pL, gQ_pR, gQ_pA, gQ_pQ, gK_pI, gK_pL, gK_pR, gK_pA, gK_pQ, gN_pI, gN_pL, gN_pR, gN_pA, gN_pQ, gS_pI, gS_pL, gS_pR, gS_pA, gS_pQ, gI_mk, gL_mk, gR_mk, gA_mk, gQ_mk, gK_mk, gN_mk, gS_mk, vn0, vn1, lt0, leN, ltN, eqN, eqM1, M1eq, le0n, eq0n, nI_add, nI_mul, ↓reduceIte, Nat.reduceAdd, Nat.reduceMul, Nat.reduceEqDiff, Nat.reduceLT, Nat.reduceLeDiff, and_true, true_and, and_false, false_and, and_self, reduceCtorEq, not_true_eq_false, not_false_eq_true, nI_clamp, h1, show ¬ 120 ≤ i by omega, hB.o, hB.r6, hB.k6, (hR.2 i h1).1, bI0]
      cases tIs T i <;> rfl
    · simp (disch := omega) only [↓uGI, ↓uGL, ↓uGR, ↓uPI, ↓uPL, ↓uPR, ↓uAL, ↓uQL, ↓uAS, ↓uQS, ↓uAN, ↓uCV, ↓oCL, ↓oNO, ↓uNA, ↓oNN, ↓oZ0, ↓oZ1, gI_pI, gI_pL, gI_pR, gI_pA, gI_pQ, gL_pI, gL_pL, gL_pR, gL_pA, gL_pQ, gR_pI, gR_pL, gR_pR, gR_pA, gR_pQ, gA_pI, gA_pL, gA_pR, gA_pA, gA_pQ, gQ_pI, gQ_pL, gQ_pR, gQ_pA, gQ_pQ, gK_pI, gK_pL, gK_pR, gK_pA, gK_pQ, gN_pI, gN_pL, gN_pR, gN_pA, gN_pQ, gS_pI, gS_pL, gS_pR, gS_pA, gS_pQ, gI_mk, gL_mk, gR_mk, gA_mk, gQ_mk, gK_mk, gN_mk, gS_mk, vn0, vn1, lt0, leN, ltN, eqN, eqM1, M1eq, le0n, eq0n, nI_add, nI_mul, ↓reduceIte, Nat.reduceAdd, Nat.reduceMul, Nat.reduceEqDiff, Nat.reduceLT, Nat.reduceLeDiff, and_true, true_and, and_false, false_and, and_self, reduceCtorEq, not_true_eq_false, not_false_eq_true, nI_clamp, h1, show 120 ≤ i by omega]
      rfl
theorem cls_nodeAt {h : AH} {ad : Nat → Nat → Nat → Nat} {tr nd : Nat} {T : TS} (hC : ClsT h ad tr nd T) (v : Int32) : fX7_nodeAt (some tr) v h = some (oN ad (nAt T v), h) := by
  obtain ⟨k1, r1, k2, r2, i1, hN⟩ := id hC
  simp only [fX7_nodeAt, fX7_nodeAt_0, fX7_nodeAt_13, fX7_nodeAt_38, fX7_nodeAt_37, nAt]
  by_cases h0 : v < 0
  · simp only [h0, ↓reduceIte]; rfl
  · obtain ⟨i, hi, rfl⟩ := nI_of h0
    by_cases h1 : i < 120
    · rcases hN i h1 with ⟨q1, q2, -⟩ | ⟨q1, q2, q3, q4⟩
      · simp (disch := omega) only [↓uGI, ↓uGL, ↓uGR, ↓uPI, ↓uPL, ↓uPR, ↓uAL, ↓uQL, ↓uAS, ↓uQS, ↓uAN, ↓uCV, ↓oCL, ↓oNO, ↓uNA, ↓oNN, ↓oZ0, ↓oZ1, gI_pI, gI_pL, gI_pR, gI_pA, gI_pQ, gL_pI, gL_pL, gL_pR, gL_pA, gL_pQ, gR_pI, gR_pL, gR_pR, gR_pA, gR_pQ, gA_pI, gA_pL, gA_pR, gA_pA, gA_pQ, gQ_pI, gQ_pL, gQ_pR, gQ_pA, gQ_pQ, gK_pI, gK_pL, gK_pR, gK_pA, gK_pQ, gN_pI, gN_pL, gN_pR, gN_pA, gN_pQ, gS_pI, gS_pL, gS_pR, gS_pA, gS_pQ, gI_mk, gL_mk, gR_mk, gA_mk, gQ_mk, gK_mk, gN_mk, gS_mk, vn0, vn1, lt0, leN, ltN, eqN, eqM1, M1eq, le0n, eq0n, nI_add, nI_mul, ↓reduceIte, Nat.reduceAdd, Nat.reduceMul, Nat.reduceEqDiff, Nat.reduceLT, Nat.reduceLeDiff, and_true, true_and, and_false, false_and, and_self, reduceCtorEq, not_true_eq_false, not_false_eq_true, nI_clamp, h1, show ¬ 120 ≤ i by omega, k1, r1, k2, q1, q2, Bool.false_eq_true]
        rfl
      · simp (disch := omega) only [↓uGI, ↓uGL, ↓uGR, ↓uPI, ↓uPL, ↓uPR, ↓uAL, ↓uQL, ↓uAS, ↓uQS, ↓uAN, ↓uCV, ↓oCL, ↓oNO, ↓uNA, ↓oNN, ↓oZ0, ↓oZ1, gI_pI, gI_pL, gI_pR, gI_pA, gI_pQ, gL_pI, gL_pL, gL_pR, gL_pA, gL_pQ, gR_pI, gR_pL, gR_pR, gR_pA, gR_pQ, gA_pI, gA_pL, gA_pR, gA_pA, gA_pQ, gQ_pI, gQ_pL, gQ_pR, gQ_pA, gQ_pQ, gK_pI, gK_pL, gK_pR, gK_pA, gK_pQ, gN_pI, gN_pL, gN_pR, gN_pA, gN_pQ, gS_pI, gS_pL, gS_pR, gS_pA, gS_pQ, gI_mk, gL_mk, gR_mk, gA_mk, gQ_mk, gK_mk, gN_mk, gS_mk, vn0, vn1, lt0, leN, ltN, eqN, eqM1, M1eq, le0n, eq0n, nI_add, nI_mul, ↓reduceIte, Nat.reduceAdd, Nat.reduceMul, Nat.reduceEqDiff, Nat.reduceLT, Nat.reduceLeDiff, and_true, true_and, and_false, false_and, and_self, reduceCtorEq, not_true_eq_false, not_false_eq_true, nI_clamp, h1, show ¬ 120 ≤ i by omega, k1, r1, k2, q1, q2.1, q3, bI0]
        cases tIs T i <;> rfl
    · simp (disch := omega) only [↓uGI, ↓uGL, ↓uGR, ↓uPI, ↓uPL, ↓uPR, ↓uAL, ↓uQL, ↓uAS, ↓uQS, ↓uAN, ↓uCV, ↓oCL, ↓oNO, ↓uNA, ↓oNN, ↓oZ0, ↓oZ1, gI_pI, gI_pL, gI_pR, gI_pA, gI_pQ, gL_pI, gL_pL, gL_pR, gL_pA, gL_pQ, gR_pI, gR_pL, gR_pR, gR_pA, gR_pQ, gA_pI, gA_pL, gA_pR, gA_pA, gA_pQ, gQ_pI, gQ_pL, gQ_pR, gQ_pA, gQ_pQ, gK_pI, gK_pL, gK_pR, gK_pA, gK_pQ, gN_pI, gN_pL, gN_pR, gN_pA, gN_pQ, gS_pI, gS_pL, gS_pR, gS_pA, gS_pQ, gI_mk, gL_mk, gR_mk, gA_mk, gQ_mk, gK_mk, gN_mk, gS_mk, vn0, vn1, lt0, leN, ltN, eqN, eqM1, M1eq, le0n, eq0n, nI_add, nI_mul, ↓reduceIte, Nat.reduceAdd, Nat.reduceMul, Nat.reduceEqDiff, Nat.reduceLT, Nat.reduceLeDiff, and_true, true_and, and_false, false_and, and_self, reduceCtorEq, not_true_eq_false, not_false_eq_true, nI_clamp, h1, show 120 ≤ i by omega, k1, r1, k2]
      rfl

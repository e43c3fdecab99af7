/-! ATTRIBUTES: found by NAME, on both sides -/
theorem okb_v {c : Nat} (h : okb c = true) : 0 < c ∧ c < 128 := by simp [okb] at h; omega
theorem wname_none {tp : Nat → Int32} {n : Nat} (h : wname tp n = none) : 0 < n ∧ n ≤ 8 ∧ badA tp n 0 = none ∧ ∀ k, k < n → okb (tbv (tp k)) = true := by
  unfold wname at h
  cases hb : badA tp n 0 with
  | some k => rw [hb] at h; cases h
  | none =>
    rw [hb] at h
    unfold wn at h
    have hle := nlen_le (tx := fun k => tbv (tp k)) (n := n) 8 0
    by_cases c : nlen (fun k => tbv (tp k)) n 8 0 < n ∨ nlen (fun k => tbv (tp k)) n 8 0 = 0
    · simp [c] at h
    · exact ⟨by omega, by omega, rfl, fun k hk => badA_none _ _ hb k (by omega) (by omega)⟩
theorem sl_v {tx : Nat → Nat} {c : Nat} (h : ∀ k, k < c → okb (tx k) = true) : vch (sl tx 0 c) := by
  intro x hx
  simp only [sl, List.mem_map, List.mem_range] at hx
  obtain ⟨k, hk, rfl⟩ := hx
  rw [Nat.zero_add]
  exact okb_v (h k hk)
theorem cls_packed_L {h : AH} {t b n c : Nat} {tp : Nat → Int32} (hT : TapeC h t b n tp) (hc : c ≤ n) (hc8 : c ≤ 8) (hok : ∀ k, k < c → okb (tbv (tp k)) = true) : ∀ (j f i : Nat), i + j = c → j < f → fX6_packed_5 f (some t) (nI c) (lN (pack (sl (fun k => tbv (tp k)) 0 i))) (nI i) h = some (lN (pack (sl (fun k => tbv (tp k)) 0 c)), h) := by
  have h1 := hT.1
  have h4 := hT.2.2.2.1
  have h5 := hT.2.2.2.2.1
  intro j
  induction j with
  | zero =>
    intro f i hij hjf
    obtain ⟨f, rfl⟩ : ∃ g, f = g + 1 := ⟨f - 1, by omega⟩
    have e : i = c := by omega
    subst e
    rw [fX6_packed_5]
    simp (disch := omega) only [↓uGI, ↓uGL, ↓uGR, ↓uPI, ↓uPL, ↓uPR, ↓uAL, ↓uQL, ↓uAS, ↓uQS, ↓uAN, ↓uCV, ↓oCL, ↓oNO, ↓uNA, ↓oNN, ↓oZ0, ↓oZ1, gI_pI, gI_pL, gI_pR, gI_pA, gI_pQ, gL_pI, gL_pL, gL_pR, gL_pA, gL_pQ, gR_pI, gR_pL, gR_pR, gR_pA, gR_pQ, gA_pI, gA_pL, gA_pR, gA_pA, gA_pQ, gQ_pI, gQ_pL, gQ_pR, gQ_pA, gQ_pQ, gK_pI, gK_pL, gK_pR, gK_pA, gK_pQ, gN_pI, gN_pL, gN_pR, gN_pA, gN_pQ, gS_pI, gS_pL, gS_pR, gS_pA, gS_pQ, gI_mk, gL_mk, gR_mk, gA_mk, gQ_mk, gK_mk, gN_mk, gS_mk, vn0, vn1, lt0, leN, ltN, eqN, eqM1, M1eq, le0n, eq0n, nI_add, nI_mul, ↓reduceIte, Nat.reduceAdd, Nat.reduceMul, Nat.reduceEqDiff, Nat.reduceLT, Nat.reduceLeDiff, and_true, true_and, and_false, false_and, and_self, reduceCtorEq, not_true_eq_false, not_false_eq_true, Nat.le_refl, fX6_packed_37]
  | succ j ih =>
    intro f i hij hjf
    obtain ⟨f, rfl⟩ : ∃ g, f = g + 1 := ⟨f - 1, by omega⟩
    have hv : vch (sl (fun k => tbv (tp k)) 0 i) := sl_v (fun k hk => hok k (by omega))
    have hch := okb_lt (hok i (by omega))
    have hadd : nadd (sl (fun k => tbv (tp k)) 0 i) (tbv (tp i)) = sl (fun k => tbv (tp k)) 0 (i + 1) := by
      unfold nadd
      rw [if_pos (by rw [sl_len]; omega), sl_snoc, Nat.zero_add]
    have hlg := cls_longer (h := h) hv (by rw [sl_len]; omega) hch
    rw [hadd] at hlg
    rw [fX6_packed_5]
    simp (disch := omega) only [↓uGI, ↓uGL, ↓uGR, ↓uPI, ↓uPL, ↓uPR, ↓uAL, ↓uQL, ↓uAS, ↓uQS, ↓uAN, ↓uCV, ↓oCL, ↓oNO, ↓uNA, ↓oNN, ↓oZ0, ↓oZ1, gI_pI, gI_pL, gI_pR, gI_pA, gI_pQ, gL_pI, gL_pL, gL_pR, gL_pA, gL_pQ, gR_pI, gR_pL, gR_pR, gR_pA, gR_pQ, gA_pI, gA_pL, gA_pR, gA_pA, gA_pQ, gQ_pI, gQ_pL, gQ_pR, gQ_pA, gQ_pQ, gK_pI, gK_pL, gK_pR, gK_pA, gK_pQ, gN_pI, gN_pL, gN_pR, gN_pA, gN_pQ, gS_pI, gS_pL, gS_pR, gS_pA, gS_pQ, gI_mk, gL_mk, gR_mk, gA_mk, gQ_mk, gK_mk, gN_mk, gS_mk, vn0, vn1, lt0, leN, ltN, eqN, eqM1, M1eq, le0n, eq0n, nI_add, nI_mul, ↓reduceIte, Nat.reduceAdd, Nat.reduceMul, Nat.reduceEqDiff, Nat.reduceLT, Nat.reduceLeDiff, and_true, true_and, and_false, false_and, and_self, reduceCtorEq, not_true_eq_false, not_false_eq_true, show ¬ c ≤ i by omega, h1, h4, show ¬ n ≤ i by omega, tape_byteAt hT, bt_in (show i < n by omega), hlg]
    exact ih f (i + 1) (by omega) (by omega)
theorem cls_packed {h : AH} {t b n c : Nat} {tp : Nat → Int32} (hT : TapeC h t b n tp) (hc : c ≤ n) (hc8 : c ≤ 8) (hok : ∀ k, k < c → okb (tbv (tp k)) = true) : fX6_packed (some t) (nI c) h = some (lN (pack (sl (fun k => tbv (tp k)) 0 c)), h) :=
  cls_packed_L hT hc hc8 hok c FU 0 (by omega) (by have := FU_ge; omega)
theorem eAt_nAt (T : TS) (v : Int32) : eAt T v = match nAt T v with
    | none => none
    | some i => if tTag T i = 17 then none else some i := by
  unfold eAt nAt
  by_cases h0 : v < 0
  · simp [h0]
  · by_cases h1 : v.toNatClampNeg < 120 ∧ tIs T v.toNatClampNeg = true
    · by_cases h2 : tTag T v.toNatClampNeg = 17
      · simp [h0, h1, h2]
      · simp [h0, h1, h2]
    · have : ¬ (v.toNatClampNeg < 120 ∧ tIs T v.toNatClampNeg = true ∧ tTag T v.toNatClampNeg ≠ 17) := fun z => h1 ⟨z.1, z.2.1⟩
      rw [if_neg h0, if_neg h0, if_neg h1, if_neg this]
theorem cls_elementAt {h : AH} {ad : Nat → Nat → Nat → Nat} {tr nd : Nat} {T : TS} (hC : ClsT h ad tr nd T) (hS : SizT T) (v : Int32) : fX7_elementAt (some tr) v h = some (oN ad (eAt T v), h) := by
  simp only [fX7_elementAt, fX7_elementAt_0, fX7_elementAt_23, fX7_elementAt_24]
  simp only [↓uGI, ↓uGL, ↓uGR, ↓uPI, ↓uPL, ↓uPR, ↓uAL, ↓uQL, ↓uAS, ↓uQS, ↓uAN, ↓uCV, ↓oCL, ↓oNO, ↓uNA, ↓oNN, ↓oZ0, ↓oZ1, gI_pI, gI_pL, gI_pR, gI_pA, gI_pQ, gL_pI, gL_pL, gL_pR, gL_pA, gL_pQ, gR_pI, gR_pL, gR_pR, gR_pA, gR_pQ, gA_pI, gA_pL, gA_pR, gA_pA, gA_pQ, gQ_pI, gQ_pL, gQ_pR, gQ_pA, gQ_pQ, gK_pI, gK_pL, gK_pR, gK_pA, gK_pQ, gN_pI, gN_pL, gN_pR, gN_pA, gN_pQ, gS_pI, gS_pL, gS_pR, gS_pA, gS_pQ, gI_mk, gL_mk, gR_mk, gA_mk, gQ_mk, gK_mk, gN_mk, gS_mk, vn0, vn1, lt0, leN, ltN, eqN, eqM1, M1eq, le0n, eq0n, nI_add, nI_mul, ↓reduceIte, Nat.reduceAdd, Nat.reduceMul, Nat.reduceEqDiff, Nat.reduceLT, Nat.reduceLeDiff, and_true, true_and, and_false, false_and, and_self, reduceCtorEq, not_true_eq_false, not_false_eq_true, hC.1, cls_nodeAt hC, eAt_nAt]
  cases hn : nAt T v with
  | none => simp only [oN_n, ↓reduceIte]
  | some i =>
    obtain ⟨hi, hu, rfl⟩ := nAt_some hn
    obtain ⟨-, ⟨b1, -⟩, v1, -⟩ := hC.nd hi hu
    have s1 := (hS.2 i hu).1
    simp (disch := omega) only [↓uGI, ↓uGL, ↓uGR, ↓uPI, ↓uPL, ↓uPR, ↓uAL, ↓uQL, ↓uAS, ↓uQS, ↓uAN, ↓uCV, ↓oCL, ↓oNO, ↓uNA, ↓oNN, ↓oZ0, ↓oZ1, gI_pI, gI_pL, gI_pR, gI_pA, gI_pQ, gL_pI, gL_pL, gL_pR, gL_pA, gL_pQ, gR_pI, gR_pL, gR_pR, gR_pA, gR_pQ, gA_pI, gA_pL, gA_pR, gA_pA, gA_pQ, gQ_pI, gQ_pL, gQ_pR, gQ_pA, gQ_pQ, gK_pI, gK_pL, gK_pR, gK_pA, gK_pQ, gN_pI, gN_pL, gN_pR, gN_pA, gN_pQ, gS_pI, gS_pL, gS_pR, gS_pA, gS_pQ, gI_mk, gL_mk, gR_mk, gA_mk, gQ_mk, gK_mk, gN_mk, gS_mk, vn0, vn1, lt0, leN, ltN, eqN, eqM1, M1eq, le0n, eq0n, nI_add, nI_mul, ↓reduceIte, Nat.reduceAdd, Nat.reduceMul, Nat.reduceEqDiff, Nat.reduceLT, Nat.reduceLeDiff, and_true, true_and, and_false, false_and, and_self, reduceCtorEq, not_true_eq_false, not_false_eq_true, oN_s, some_ne, b1, v1]
    by_cases h17 : tTag T i = 17
    · simp [h17, oN_n]
    · simp [h17, oN_s]
theorem ref_isElement {h : AH} {m : Nat} {ra : Nat → Nat} {T : TS} (hB : RB h m ra) (hR : RefT h m ra T) (hS : SizT T) (v : Int32) : fX9_isElement (some m) v h = some (bI (eAt T v).isSome, h) := by
  simp only [fX9_isElement, fX9_isElement_0, fX9_isElement_23, fX9_isElement_24]
  simp only [↓uGI, ↓uGL, ↓uGR, ↓uPI, ↓uPL, ↓uPR, ↓uAL, ↓uQL, ↓uAS, ↓uQS, ↓uAN, ↓uCV, ↓oCL, ↓oNO, ↓uNA, ↓oNN, ↓oZ0, ↓oZ1, gI_pI, gI_pL, gI_pR, gI_pA, gI_pQ, gL_pI, gL_pL, gL_pR, gL_pA, gL_pQ, gR_pI, gR_pL, gR_pR, gR_pA, gR_pQ, gA_pI, gA_pL, gA_pR, gA_pA, gA_pQ, gQ_pI, gQ_pL, gQ_pR, gQ_pA, gQ_pQ, gK_pI, gK_pL, gK_pR, gK_pA, gK_pQ, gN_pI, gN_pL, gN_pR, gN_pA, gN_pQ, gS_pI, gS_pL, gS_pR, gS_pA, gS_pQ, gI_mk, gL_mk, gR_mk, gA_mk, gQ_mk, gK_mk, gN_mk, gS_mk, vn0, vn1, lt0, leN, ltN, eqN, eqM1, M1eq, le0n, eq0n, nI_add, nI_mul, ↓reduceIte, Nat.reduceAdd, Nat.reduceMul, Nat.reduceEqDiff, Nat.reduceLT, Nat.reduceLeDiff, and_true, true_and, and_false, false_and, and_self, reduceCtorEq, not_true_eq_false, not_false_eq_true, hB.o, ref_there hB hR, bI0, eAt_nAt]
  cases hn : nAt T v with
  | none => simp only [Option.isSome_none, ↓reduceIte, oZn0]; rfl
  | some i =>
    obtain ⟨hi, hu, rfl⟩ := nAt_some hn
    obtain ⟨w1, -⟩ := (hR.2 i hi).2 hu
    have s1 := (hS.2 i hu).1
    simp (disch := omega) only [↓uGI, ↓uGL, ↓uGR, ↓uPI, ↓uPL, ↓uPR, ↓uAL, ↓uQL, ↓uAS, ↓uQS, ↓uAN, ↓uCV, ↓oCL, ↓oNO, ↓uNA, ↓oNN, ↓oZ0, ↓oZ1, gI_pI, gI_pL, gI_pR, gI_pA, gI_pQ, gL_pI, gL_pL, gL_pR, gL_pA, gL_pQ, gR_pI, gR_pL, gR_pR, gR_pA, gR_pQ, gA_pI, gA_pL, gA_pR, gA_pA, gA_pQ, gQ_pI, gQ_pL, gQ_pR, gQ_pA, gQ_pQ, gK_pI, gK_pL, gK_pR, gK_pA, gK_pQ, gN_pI, gN_pL, gN_pR, gN_pA, gN_pQ, gS_pI, gS_pL, gS_pR, gS_pA, gS_pQ, gI_mk, gL_mk, gR_mk, gA_mk, gQ_mk, gK_mk, gN_mk, gS_mk, vn0, vn1, lt0, leN, ltN, eqN, eqM1, M1eq, le0n, eq0n, nI_add, nI_mul, ↓reduceIte, Nat.reduceAdd, Nat.reduceMul, Nat.reduceEqDiff, Nat.reduceLT, Nat.reduceLeDiff, and_true, true_and, and_false, false_and, and_self, reduceCtorEq, not_true_eq_false, not_false_eq_true, Option.isSome_some, Bool.true_eq_false, hB.r7, hB.o, hB.k7, hi, w1, oZn0, oZn1]
    by_cases h17 : tTag T i = 17
    · simp [h17]; rfl
    · simp [h17]; rfl
theorem eAt_some {T : TS} {v : Int32} {i : Nat} (q : eAt T v = some i) : i < 120 ∧ tIs T i = true ∧ tTag T i ≠ 17 ∧ v = nI i := by
  unfold eAt at q
  by_cases h0 : v < 0
  · rw [if_pos h0] at q; cases q
  · rw [if_neg h0] at q
    obtain ⟨k, hk, rfl⟩ := nI_of h0
    rw [nI_clamp hk] at q
    by_cases h1 : k < 120 ∧ tIs T k = true ∧ tTag T k ≠ 17
    · rw [if_pos h1] at q
      cases q
      exact ⟨h1.1, h1.2.1, h1.2.2, rfl⟩
    · rw [if_neg h1] at q; cases q
/-- the first ATTRIBUTE of this NAME -/
def fnd (nm : List Nat) : AttL → Nat → Option Nat
  | [], _ => none
  | q :: r, j => if q.1 = nm then some j else fnd nm r (j + 1)
theorem fnd_lt {nm : List Nat} : ∀ (L : AttL) (j k : Nat), fnd nm L j = some k → j ≤ k ∧ k < j + L.length := by
  intro L
  induction L with
  | nil => intro j k h; cases h
  | cons q r ih =>
    intro j k h
    unfold fnd at h
    simp only [List.length_cons]
    by_cases e : q.1 = nm
    · rw [if_pos e] at h; cases h; omega
    · rw [if_neg e] at h
      have := ih _ _ h
      omega
/-- sizes of a row of ATTRIBUTES -/
def AtS (L : AttL) : Prop := L.length ≤ 4 ∧ ∀ q ∈ L, q.1.length ≤ 8 ∧ vch q.1 ∧ q.2.length ≤ 60 ∧ bch q.2
theorem AtS.get {L : AttL} (q : AtS L) {j : Nat} (hj : j < L.length) : (L.getD j ([], [])).1.length ≤ 8 ∧ vch (L.getD j ([], [])).1 ∧ (L.getD j ([], [])).2.length ≤ 60 ∧ bch (L.getD j ([], [])).2 := by
  rw [gD_in hj]
  exact q.2 _ (List.getElem_mem _)
theorem cls_itemAt {h : AH} {ad : Nat → Nat → Nat → Nat} {i : Nat} {L : AttL} (hB : AtB h ad i) (hV : AtV h ad i L) (hS : AtS L) {j : Nat} (hj : j < L.length) : fX1_itemAt (some (ad 2 i 0)) (nI j) h = some (some (ad 5 i j), h) := by
  obtain ⟨b1, b2, b3, b4⟩ := hB
  obtain ⟨v1, v2⟩ := hV
  have := hS.1
  simp only [fX1_itemAt, fX1_itemAt_0, fX1_itemAt_30, fX1_itemAt_31]
  simp (disch := omega) only [↓uGI, ↓uGL, ↓uGR, ↓uPI, ↓uPL, ↓uPR, ↓uAL, ↓uQL, ↓uAS, ↓uQS, ↓uAN, ↓uCV, ↓oCL, ↓oNO, ↓uNA, ↓oNN, ↓oZ0, ↓oZ1, gI_pI, gI_pL, gI_pR, gI_pA, gI_pQ, gL_pI, gL_pL, gL_pR, gL_pA, gL_pQ, gR_pI, gR_pL, gR_pR, gR_pA, gR_pQ, gA_pI, gA_pL, gA_pR, gA_pA, gA_pQ, gQ_pI, gQ_pL, gQ_pR, gQ_pA, gQ_pQ, gK_pI, gK_pL, gK_pR, gK_pA, gK_pQ, gN_pI, gN_pL, gN_pR, gN_pA, gN_pQ, gS_pI, gS_pL, gS_pR, gS_pA, gS_pQ, gI_mk, gL_mk, gR_mk, gA_mk, gQ_mk, gK_mk, gN_mk, gS_mk, vn0, vn1, lt0, leN, ltN, eqN, eqM1, M1eq, le0n, eq0n, nI_add, nI_mul, ↓reduceIte, Nat.reduceAdd, Nat.reduceMul, Nat.reduceEqDiff, Nat.reduceLT, Nat.reduceLeDiff, and_true, true_and, and_false, false_and, and_self, reduceCtorEq, not_true_eq_false, not_false_eq_true, b1, b2, b3, v1, show ¬ L.length ≤ j by omega, show ¬ 4 ≤ j by omega, show j < 4 by omega, (v2 j hj).1]
theorem AtB.k5 {h : AH} {ad : Nat → Nat → Nat → Nat} {i j : Nat} {L : AttL} (hB : AtB h ad i) (hV : AtV h ad i L) (hS : AtS L) (hj : j < L.length) : gK h (ad 5 i j) = (1, 0) ∧ gR h 1 (ad 5 i j) = some (ad 6 i j) ∧ gK h (ad 6 i j) = (101, 60) := by
  have := hS.1
  rcases hB.2.2.2 j (by omega) with z | z
  · have := (hV.2 j hj).1
    rw [z.1] at this
    cases this
  · exact z.2
theorem cls_named_L {h : AH} {ad : Nat → Nat → Nat → Nat} {i : Nat} {L : AttL} {nm : List Nat} (hB : AtB h ad i) (hV : AtV h ad i L) (hS : AtS L) (hv : vch nm) (hl : nm.length ≤ 8) : ∀ (k f j : Nat), j + k = L.length → k < f → fX1_named_2 f (some (ad 2 i 0)) (lN (pack nm)) (nI j) h = some ((fnd nm (L.drop j) j).map (ad 5 i), h) := by
  have b1 := hB.1
  have v1 := hV.1
  have h4 := hS.1
  intro k
  induction k with
  | zero =>
    intro f j hij hjf
    obtain ⟨f, rfl⟩ : ∃ g, f = g + 1 := ⟨f - 1, by omega⟩
    rw [fX1_named_2, List.drop_eq_nil_of_le (by omega)]
    simp (disch := omega) only [↓uGI, ↓uGL, ↓uGR, ↓uPI, ↓uPL, ↓uPR, ↓uAL, ↓uQL, ↓uAS, ↓uQS, ↓uAN, ↓uCV, ↓oCL, ↓oNO, ↓uNA, ↓oNN, ↓oZ0, ↓oZ1, gI_pI, gI_pL, gI_pR, gI_pA, gI_pQ, gL_pI, gL_pL, gL_pR, gL_pA, gL_pQ, gR_pI, gR_pL, gR_pR, gR_pA, gR_pQ, gA_pI, gA_pL, gA_pR, gA_pA, gA_pQ, gQ_pI, gQ_pL, gQ_pR, gQ_pA, gQ_pQ, gK_pI, gK_pL, gK_pR, gK_pA, gK_pQ, gN_pI, gN_pL, gN_pR, gN_pA, gN_pQ, gS_pI, gS_pL, gS_pR, gS_pA, gS_pQ, gI_mk, gL_mk, gR_mk, gA_mk, gQ_mk, gK_mk, gN_mk, gS_mk, vn0, vn1, lt0, leN, ltN, eqN, eqM1, M1eq, le0n, eq0n, nI_add, nI_mul, ↓reduceIte, Nat.reduceAdd, Nat.reduceMul, Nat.reduceEqDiff, Nat.reduceLT, Nat.reduceLeDiff, and_true, true_and, and_false, false_and, and_self, reduceCtorEq, not_true_eq_false, not_false_eq_true, b1, v1, show L.length ≤ j by omega, fX1_named_41, fnd, Option.map_none]
  | succ k ih =>
    intro f j hij hjf
    obtain ⟨f, rfl⟩ : ∃ g, f = g + 1 := ⟨f - 1, by omega⟩
    obtain ⟨s1, s2, -⟩ := hS.get (show j < L.length by omega)
    rw [fX1_named_2, drop_cons ([], []) (show j < L.length by omega), fnd]
    simp (disch := omega) only [↓uGI, ↓uGL, ↓uGR, ↓uPI, ↓uPL, ↓uPR, ↓uAL, ↓uQL, ↓uAS, ↓uQS, ↓uAN, ↓uCV, ↓oCL, ↓oNO, ↓uNA, ↓oNN, ↓oZ0, ↓oZ1, gI_pI, gI_pL, gI_pR, gI_pA, gI_pQ, gL_pI, gL_pL, gL_pR, gL_pA, gL_pQ, gR_pI, gR_pL, gR_pR, gR_pA, gR_pQ, gA_pI, gA_pL, gA_pR, gA_pA, gA_pQ, gQ_pI, gQ_pL, gQ_pR, gQ_pA, gQ_pQ, gK_pI, gK_pL, gK_pR, gK_pA, gK_pQ, gN_pI, gN_pL, gN_pR, gN_pA, gN_pQ, gS_pI, gS_pL, gS_pR, gS_pA, gS_pQ, gI_mk, gL_mk, gR_mk, gA_mk, gQ_mk, gK_mk, gN_mk, gS_mk, vn0, vn1, lt0, leN, ltN, eqN, eqM1, M1eq, le0n, eq0n, nI_add, nI_mul, ↓reduceIte, Nat.reduceAdd, Nat.reduceMul, Nat.reduceEqDiff, Nat.reduceLT, Nat.reduceLeDiff, and_true, true_and, and_false, false_and, and_self, reduceCtorEq, not_true_eq_false, not_false_eq_true, b1, v1, show ¬ L.length ≤ j by omega, cls_itemAt hB hV hS (show j < L.length by omega), some_ne, (hB.k5 hV hS (show j < L.length by omega)).1, (hV.2 j (by omega)).2.1, lgc, lNeP (pack_lt s2 s1) (pack_lt hv hl), fX1_named_32, fX1_named_35, ih f (j + 1) (by omega) (by omega)]
    by_cases e : (L.getD j ([], [])).1 = nm
    · simp only [e, ↓reduceIte, Option.map_some]
    · have : ¬ pack (L.getD j ([], [])).1 = pack nm := fun z => e (pack_inj s2 hv z)
      simp only [e, this, ↓reduceIte]
theorem cls_named {h : AH} {ad : Nat → Nat → Nat → Nat} {i : Nat} {L : AttL} {nm : List Nat} (hB : AtB h ad i) (hV : AtV h ad i L) (hS : AtS L) (hv : vch nm) (hl : nm.length ≤ 8) : fX1_named (some (ad 2 i 0)) (lN (pack nm)) h = some ((fnd nm L 0).map (ad 5 i), h) :=
  cls_named_L hB hV hS hv hl L.length FU 0 (by omega) (by have := FU_ge; have := hS.1; omega)
theorem ref_same_L {h : AH} {a b p q N M : Nat} {l l' : List Nat} (ka : gK h a = (101, N)) (kb : gK h b = (101, M)) (hN : N < 100000) (hM : M < 100000) (hl : l.length = l'.length) (hp : p + l.length ≤ N) (hq : q + l.length ≤ M) (ga : ∀ k, k < l.length → gA h a (p + k) = nI (l.getD k 0)) (gb : ∀ k, k < l.length → gA h b (q + k) = nI (l'.getD k 0)) (hv : ∀ k, l.getD k 0 < 1000 ∧ l'.getD k 0 < 1000) : ∀ (j f i : Nat), i + j = l.length → j < f → fX9_same_3 f (some a) (nI p) (some b) (nI q) (nI l.length) (nI i) h = some (bI (decide (l.drop i = l'.drop i)), h) := by
  intro j
  induction j with
  | zero =>
    intro f i hij hjf
    obtain ⟨f, rfl⟩ : ∃ g, f = g + 1 := ⟨f - 1, by omega⟩
    rw [fX9_same_3, List.drop_eq_nil_of_le (by omega), List.drop_eq_nil_of_le (by omega)]
    simp (disch := omega) only [↓uGI, ↓uGL, ↓uGR, ↓uPI, ↓uPL, ↓uPR, ↓uAL, ↓uQL, ↓uAS, ↓uQS, ↓uAN, ↓uCV, ↓oCL, ↓oNO, ↓uNA, ↓oNN, ↓oZ0, ↓oZ1, gI_pI, gI_pL, gI_pR, gI_pA, gI_pQ, gL_pI, gL_pL, gL_pR, gL_pA, gL_pQ, gR_pI, gR_pL, gR_pR, gR_pA, gR_pQ, gA_pI, gA_pL, gA_pR, gA_pA, gA_pQ, gQ_pI, gQ_pL, gQ_pR, gQ_pA, gQ_pQ, gK_pI, gK_pL, gK_pR, gK_pA, gK_pQ, gN_pI, gN_pL, gN_pR, gN_pA, gN_pQ, gS_pI, gS_pL, gS_pR, gS_pA, gS_pQ, gI_mk, gL_mk, gR_mk, gA_mk, gQ_mk, gK_mk, gN_mk, gS_mk, vn0, vn1, lt0, leN, ltN, eqN, eqM1, M1eq, le0n, eq0n, nI_add, nI_mul, ↓reduceIte, Nat.reduceAdd, Nat.reduceMul, Nat.reduceEqDiff, Nat.reduceLT, Nat.reduceLeDiff, and_true, true_and, and_false, false_and, and_self, reduceCtorEq, not_true_eq_false, not_false_eq_true, show l.length ≤ i by omega, fX9_same_33, oZn1]
    rfl
  | succ j ih =>
    intro f i hij hjf
    obtain ⟨f, rfl⟩ : ∃ g, f = g + 1 := ⟨f - 1, by omega⟩
    have hvi := hv i
    rw [fX9_same_3, drop_cons 0 (show i < l.length by omega), drop_cons 0 (show i < l'.length by omega)]
    simp (disch := omega) only [↓uGI, ↓uGL, ↓uGR, ↓uPI, ↓uPL, ↓uPR, ↓uAL, ↓uQL, ↓uAS, ↓uQS, ↓uAN, ↓uCV, ↓oCL, ↓oNO, ↓uNA, ↓oNN, ↓oZ0, ↓oZ1, gI_pI, gI_pL, gI_pR, gI_pA, gI_pQ, gL_pI, gL_pL, gL_pR, gL_pA, gL_pQ, gR_pI, gR_pL, gR_pR, gR_pA, gR_pQ, gA_pI, gA_pL, gA_pR, gA_pA, gA_pQ, gQ_pI, gQ_pL, gQ_pR, gQ_pA, gQ_pQ, gK_pI, gK_pL, gK_pR, gK_pA, gK_pQ, gN_pI, gN_pL, gN_pR, gN_pA, gN_pQ, gS_pI, gS_pL, gS_pR, gS_pA, gS_pQ, gI_mk, gL_mk, gR_mk, gA_mk, gQ_mk, gK_mk, gN_mk, gS_mk, vn0, vn1, lt0, leN, ltN, eqN, eqM1, M1eq, le0n, eq0n, nI_add, nI_mul, ↓reduceIte, Nat.reduceAdd, Nat.reduceMul, Nat.reduceEqDiff, Nat.reduceLT, Nat.reduceLeDiff, and_true, true_and, and_false, false_and, and_self, reduceCtorEq, not_true_eq_false, not_false_eq_true, show ¬ l.length ≤ i by omega, ka, kb, show p + i < N by omega, show q + i < M by omega, ga i (by omega), gb i (by omega), fX9_same_25, oZn0, ih f (i + 1) (by omega) (by omega)]
    by_cases e : l.getD i 0 = l'.getD i 0
    · simp only [e, ↓reduceIte, List.cons.injEq, true_and]
    · simp only [e, ↓reduceIte, List.cons.injEq, false_and, decide_false]
      rfl
theorem ref_same {h : AH} {a b p q N M : Nat} {l l' : List Nat} (ka : gK h a = (101, N)) (kb : gK h b = (101, M)) (hN : N < 100000) (hM : M < 100000) (hl : l.length = l'.length) (hp : p + l.length ≤ N) (hq : q + l.length ≤ M) (ga : ∀ k, k < l.length → gA h a (p + k) = nI (l.getD k 0)) (gb : ∀ k, k < l.length → gA h b (q + k) = nI (l'.getD k 0)) (hv : ∀ k, l.getD k 0 < 1000 ∧ l'.getD k 0 < 1000) : fX9_same (some a) (nI p) (some b) (nI q) (nI l.length) h = some (bI (decide (l = l')), h) :=
  ref_same_L ka kb hN hM hl hp hq ga gb hv l.length FU 0 (by omega) (by have := FU_ge; omega)
theorem vch_get {l : List Nat} (h : vch l) (k : Nat) : l.getD k 0 < 128 := by
  by_cases hk : k < l.length
  · rw [gD_in hk]; exact (h _ (List.getElem_mem _)).2
  · rw [gD_out (by omega)]; omega
/-- reference: the ATTRIBUTES of NODE i, as the arrays hold them -/
def RAt (h : AH) (ra : Nat → Nat) (i : Nat) (L : AttL) : Prop := gA h (ra 16) i = nI L.length ∧ (∀ a, a < L.length →
      gA h (ra 18) (4 * i + a) = nI (L.getD a ([], [])).1.length ∧ (∀ k, k < (L.getD a ([], [])).1.length → gA h (ra 17) (8 * (4 * i + a) + k) = nI ((L.getD a ([], [])).1.getD k 0)) ∧
      gA h (ra 20) (4 * i + a) = nI (L.getD a ([], [])).2.length ∧ (∀ k, k < (L.getD a ([], [])).2.length → gA h (ra 19) (60 * (4 * i + a) + k) = nI ((L.getD a ([], [])).2.getD k 0)))
theorem RefN.at {h : AH} {ra : Nat → Nat} {T : TS} {i : Nat} (q : RefN h ra T i) (hu : tIs T i = true) : RAt h ra i (tAtt T i) := by
  obtain ⟨w1, w2, w3, w4, w5, w6, w7, w8, w9, w10, w11, w12, w13, w14⟩ := q.2 hu
  exact ⟨w10, w11⟩
theorem ref_attNamed_L {h : AH} {m i : Nat} {ra : Nat → Nat} {L : AttL} {nm : List Nat} (hB : RB h m ra) (hi : i < 120) (hA : RAt h ra i L) (hS : AtS L) (hv : vch nm) (hl : nm.length ≤ 8) (ht : ∀ k, k < nm.length → gA h (ra 2) k = nI (nm.getD k 0)) : ∀ (k f j : Nat), j + k = L.length → k < f → fX9_attributeNamed_4 f (some m) (nI i) (nI nm.length) (nI (4 * i + j)) h = some (oI ((fnd nm (L.drop j) j).map (fun a => 4 * i + a)), h) := by
  obtain ⟨v1, v2⟩ := hA
  have h4 := hS.1
  intro k
  induction k with
  | zero =>
    intro f j hij hjf
    obtain ⟨f, rfl⟩ : ∃ g, f = g + 1 := ⟨f - 1, by omega⟩
    rw [fX9_attributeNamed_4, List.drop_eq_nil_of_le (by omega)]
    simp (disch := omega) only [↓uGI, ↓uGL, ↓uGR, ↓uPI, ↓uPL, ↓uPR, ↓uAL, ↓uQL, ↓uAS, ↓uQS, ↓uAN, ↓uCV, ↓oCL, ↓oNO, ↓uNA, ↓oNN, ↓oZ0, ↓oZ1, gI_pI, gI_pL, gI_pR, gI_pA, gI_pQ, gL_pI, gL_pL, gL_pR, gL_pA, gL_pQ, gR_pI, gR_pL, gR_pR, gR_pA, gR_pQ, gA_pI, gA_pL, gA_pR, gA_pA, gA_pQ, gQ_pI, gQ_pL, gQ_pR, gQ_pA, gQ_pQ, gK_pI, gK_pL, gK_pR, gK_pA, gK_pQ, gN_pI, gN_pL, gN_pR, gN_pA, gN_pQ, gS_pI, gS_pL, gS_pR, gS_pA, gS_pQ, gI_mk, gL_mk, gR_mk, gA_mk, gQ_mk, gK_mk, gN_mk, gS_mk, vn0, vn1, lt0, leN, ltN, eqN, eqM1, M1eq, le0n, eq0n, nI_add, nI_mul, ↓reduceIte, Nat.reduceAdd, Nat.reduceMul, Nat.reduceEqDiff, Nat.reduceLT, Nat.reduceLeDiff, and_true, true_and, and_false, false_and, and_self, reduceCtorEq, not_true_eq_false, not_false_eq_true, hB.o, hB.r16, hB.k16, hi, v1, show 4 * i + L.length ≤ 4 * i + j by omega, fX9_attributeNamed_56, fnd, Option.map_none, oI]
  | succ k ih =>
    intro f j hij hjf
    obtain ⟨f, rfl⟩ : ∃ g, f = g + 1 := ⟨f - 1, by omega⟩
    obtain ⟨s1, s2, -⟩ := hS.get (show j < L.length by omega)
    obtain ⟨a1, a2, -⟩ := v2 j (by omega)
    have ihh := ih f (j + 1) (by omega) (by omega)
    rw [show 4 * i + (j + 1) = 4 * i + j + 1 by omega] at ihh
    rw [fX9_attributeNamed_4, drop_cons ([], []) (show j < L.length by omega), fnd]
    simp (disch := omega) only [↓uGI, ↓uGL, ↓uGR, ↓uPI, ↓uPL, ↓uPR, ↓uAL, ↓uQL, ↓uAS, ↓uQS, ↓uAN, ↓uCV, ↓oCL, ↓oNO, ↓uNA, ↓oNN, ↓oZ0, ↓oZ1, gI_pI, gI_pL, gI_pR, gI_pA, gI_pQ, gL_pI, gL_pL, gL_pR, gL_pA, gL_pQ, gR_pI, gR_pL, gR_pR, gR_pA, gR_pQ, gA_pI, gA_pL, gA_pR, gA_pA, gA_pQ, gQ_pI, gQ_pL, gQ_pR, gQ_pA, gQ_pQ, gK_pI, gK_pL, gK_pR, gK_pA, gK_pQ, gN_pI, gN_pL, gN_pR, gN_pA, gN_pQ, gS_pI, gS_pL, gS_pR, gS_pA, gS_pQ, gI_mk, gL_mk, gR_mk, gA_mk, gQ_mk, gK_mk, gN_mk, gS_mk, vn0, vn1, lt0, leN, ltN, eqN, eqM1, M1eq, le0n, eq0n, nI_add, nI_mul, ↓reduceIte, Nat.reduceAdd, Nat.reduceMul, Nat.reduceEqDiff, Nat.reduceLT, Nat.reduceLeDiff, and_true, true_and, and_false, false_and, and_self, reduceCtorEq, not_true_eq_false, not_false_eq_true, hB.o, hB.r16, hB.k16, hB.r18, hB.k18, hi, v1, show ¬ 4 * i + L.length ≤ 4 * i + j by omega, show 4 * i + j < 480 by omega, a1, fX9_attributeNamed_48, fX9_attributeNamed_50, ihh]
    by_cases el : (L.getD j ([], [])).1.length = nm.length
    · have hsm := ref_same (h := h) (a := ra 17) (b := ra 2) (p := 8 * (4 * i + j)) (q := 0) (l := (L.getD j ([], [])).1) (l' := nm) hB.k17 hB.k2 (by omega) (by omega) el (by omega) (by omega) a2 (fun k hk => by rw [Nat.zero_add]; exact ht k (by omega)) (fun k => ⟨by have := vch_get s2 k; omega, by have := vch_get hv k; omega⟩)
      rw [el] at hsm
      simp (disch := omega) only [↓uGI, ↓uGL, ↓uGR, ↓uPI, ↓uPL, ↓uPR, ↓uAL, ↓uQL, ↓uAS, ↓uQS, ↓uAN, ↓uCV, ↓oCL, ↓oNO, ↓uNA, ↓oNN, ↓oZ0, ↓oZ1, gI_pI, gI_pL, gI_pR, gI_pA, gI_pQ, gL_pI, gL_pL, gL_pR, gL_pA, gL_pQ, gR_pI, gR_pL, gR_pR, gR_pA, gR_pQ, gA_pI, gA_pL, gA_pR, gA_pA, gA_pQ, gQ_pI, gQ_pL, gQ_pR, gQ_pA, gQ_pQ, gK_pI, gK_pL, gK_pR, gK_pA, gK_pQ, gN_pI, gN_pL, gN_pR, gN_pA, gN_pQ, gS_pI, gS_pL, gS_pR, gS_pA, gS_pQ, gI_mk, gL_mk, gR_mk, gA_mk, gQ_mk, gK_mk, gN_mk, gS_mk, vn0, vn1, lt0, leN, ltN, eqN, eqM1, M1eq, le0n, eq0n, nI_add, nI_mul, ↓reduceIte, Nat.reduceAdd, Nat.reduceMul, Nat.reduceEqDiff, Nat.reduceLT, Nat.reduceLeDiff, and_true, true_and, and_false, false_and, and_self, reduceCtorEq, not_true_eq_false, not_false_eq_true, el, hB.o, hB.r17, hB.r2, hsm, bI0]
      by_cases e : (L.getD j ([], [])).1 = nm
      · simp only [e, decide_true, Bool.true_eq_false, ↓reduceIte, Option.map_some, oI]
      · simp only [e, decide_false, ↓reduceIte]
        exact ihh
    · have : ¬ (L.getD j ([], [])).1 = nm := fun z => el (by rw [z])
      simp only [el, this, ↓reduceIte]
theorem ref_attNamed {h : AH} {m i : Nat} {ra : Nat → Nat} {L : AttL} {nm : List Nat} (hB : RB h m ra) (hi : i < 120) (hA : RAt h ra i L) (hS : AtS L) (hv : vch nm) (hl : nm.length ≤ 8) (ht : ∀ k, k < nm.length → gA h (ra 2) k = nI (nm.getD k 0)) : fX9_attributeNamed (some m) (nI i) (nI nm.length) h = some (oI ((fnd nm L 0).map (fun a => 4 * i + a)), h) := by
  have := ref_attNamed_L hB hi hA hS hv hl ht L.length FU 0 (by omega) (by have := FU_ge; have := hS.1; omega)
  unfold fX9_attributeNamed fX9_attributeNamed_0
  rw [nI_mul]
  exact this
theorem SizN.at {T : TS} {i : Nat} (q : SizN T i) : AtS (tAtt T i) := ⟨q.2.2.2.1, q.2.2.2.2.1⟩
/-- attribute(n): its answer, and the out -/
def atR (T : TS) (nm : List Nat) (v : Int32) : Option (List Nat) := match eAt T v with
  | none => none
  | some i => (fnd nm (tAtt T i) 0).map (fun j => ((tAtt T i).getD j ([], [])).2)
def atV (T : TS) (tp : Nat → Int32) (n : Nat) (v : Int32) : Int32 := match wname tp n with
  | some k => (-1000) - nI k
  | none => match atR T (sl (fun k => tbv (tp k)) 0 n) v with
    | none => -1
    | some w => nI (ow [] (w.map nI)).length
def atO (T : TS) (tp : Nat → Int32) (n : Nat) (ol : List Int32) (v : Int32) : List Int32 := match wname tp n with
  | some _ => ol
  | none => match atR T (sl (fun k => tbv (tp k)) 0 n) v with
    | none => ol
    | some w => ow [] (w.map nI)
theorem TapeC.clear {h : AH} {t b n : Nat} {tp : Nat → Int32} (q : TapeC h t b n tp) : TapeC (pI h 301 t (nI 0)) t b 0 tp := ⟨q.1, q.2.1, q.2.2.1, if_pos ⟨rfl, rfl⟩, by omega, fun i hi => by omega⟩
theorem wrongV_ne {k : Nat} (hk : k ≤ 2000) : ((-1000 : Int32) - nI k = 0) = False := by
  have : ∀ k, k ≤ 2000 → ¬ (-1000 : Int32) - nI k = 0 := by decide +kernel
  exact eq_false (this k hk)
theorem wname_le {tp : Nat → Int32} {n k : Nat} (h : wname tp n = some k) : k ≤ n := by
  unfold wname at h
  cases hb : badA tp n 0 with
  | some k' => rw [hb] at h; cases h; have := badA_some _ _ _ hb; omega
  | none =>
    rw [hb] at h
    unfold wn at h
    have hle := nlen_le (tx := fun k => tbv (tp k)) (n := n) 8 0
    by_cases c : nlen (fun k => tbv (tp k)) n 8 0 < n ∨ nlen (fun k => tbv (tp k)) n 8 0 = 0
    · simp only [c, ↓reduceIte, Option.some.injEq] at h; omega
    · simp [c] at h
abbrev FrOT (o ob t : Nat) : AH → AH → Prop := Fr (fun f a => (f = 201 ∧ a = o) ∨ (f = 301 ∧ a = t)) (fun a => a = ob)
theorem cls_attribute {h : AH} {x t o f tr rd nd ob tb n : Nat} {ad : Nat → Nat → Nat → Nat} {T : TS} {ol : List Int32} {tp : Nat → Int32} (hC : CB h x t o f tr rd) (hTp : TapeC h t tb n tp) (hT : ClsT h ad tr nd T) (hS : SizT T) (hO : OutC h o ob ol) (hb6 : ∀ i j, ad 6 i j ≠ ob) (htb : tb ≠ ob) (v : Int32) :
    ∃ h', fX8_attribute (some x) v h = some (atV T tp n v, h') ∧ OutC h' o ob (atO T tp n ol v) ∧ TapeC h' t tb 0 tp ∧ FrOT o ob t h h' := by
  obtain ⟨c1, c4, c3, -, c2, -⟩ := id hC
  have k1 := hT.1
  have hn := hTp.2.2.2.2.1
  simp only [fX8_attribute, fX8_attribute_0, fX8_writeValue, fX8_writeValue_0]
  simp only [↓uGI, ↓uGL, ↓uGR, ↓uPI, ↓uPL, ↓uPR, ↓uAL, ↓uQL, ↓uAS, ↓uQS, ↓uAN, ↓uCV, ↓oCL, ↓oNO, ↓uNA, ↓oNN, ↓oZ0, ↓oZ1, gI_pI, gI_pL, gI_pR, gI_pA, gI_pQ, gL_pI, gL_pL, gL_pR, gL_pA, gL_pQ, gR_pI, gR_pL, gR_pR, gR_pA, gR_pQ, gA_pI, gA_pL, gA_pR, gA_pA, gA_pQ, gQ_pI, gQ_pL, gQ_pR, gQ_pA, gQ_pQ, gK_pI, gK_pL, gK_pR, gK_pA, gK_pQ, gN_pI, gN_pL, gN_pR, gN_pA, gN_pQ, gS_pI, gS_pL, gS_pR, gS_pA, gS_pQ, gI_mk, gL_mk, gR_mk, gA_mk, gQ_mk, gK_mk, gN_mk, gS_mk, vn0, vn1, lt0, leN, ltN, eqN, eqM1, M1eq, le0n, eq0n, nI_add, nI_mul, ↓reduceIte, Nat.reduceAdd, Nat.reduceMul, Nat.reduceEqDiff, Nat.reduceLT, Nat.reduceLeDiff, and_true, true_and, and_false, false_and, and_self, reduceCtorEq, not_true_eq_false, not_false_eq_true, c1, c2, c3, c4, k1, hTp.1, cls_wrongName hTp, hTp.2.2.2.1, cls_elementAt hT hS]
  have base : OutC (pI h 301 t (nI 0)) o ob ol ∧ TapeC (pI h 301 t (nI 0)) t tb 0 tp ∧ FrOT o ob t h (pI h 301 t (nI 0)) := ⟨hO.fr (Fr.pI (I := fun f a => f = 301 ∧ a = t) (A := fun _ => False) Fr.rf ⟨rfl, rfl⟩) (by omega) (fun z => z), hTp.clear, Fr.pI Fr.rf (Or.inr ⟨rfl, rfl⟩)⟩
  unfold atV atO
  cases hw : wname tp n with
  | some k =>
    have := wname_le hw
    exact ⟨_, by simp only [wrongV, wrongV_ne (show k ≤ 2000 by omega), ↓uGI, ↓uGL, ↓uGR, ↓uPI, ↓uPL, ↓uPR, ↓uAL, ↓uQL, ↓uAS, ↓uQS, ↓uAN, ↓uCV, ↓oCL, ↓oNO, ↓uNA, ↓oNN, ↓oZ0, ↓oZ1, gI_pI, gI_pL, gI_pR, gI_pA, gI_pQ, gL_pI, gL_pL, gL_pR, gL_pA, gL_pQ, gR_pI, gR_pL, gR_pR, gR_pA, gR_pQ, gA_pI, gA_pL, gA_pR, gA_pA, gA_pQ, gQ_pI, gQ_pL, gQ_pR, gQ_pA, gQ_pQ, gK_pI, gK_pL, gK_pR, gK_pA, gK_pQ, gN_pI, gN_pL, gN_pR, gN_pA, gN_pQ, gS_pI, gS_pL, gS_pR, gS_pA, gS_pQ, gI_mk, gL_mk, gR_mk, gA_mk, gQ_mk, gK_mk, gN_mk, gS_mk, vn0, vn1, lt0, leN, ltN, eqN, eqM1, M1eq, le0n, eq0n, nI_add, nI_mul, ↓reduceIte, Nat.reduceAdd, Nat.reduceMul, Nat.reduceEqDiff, Nat.reduceLT, Nat.reduceLeDiff, and_true, true_and, and_false, false_and, and_self, reduceCtorEq, not_true_eq_false, not_false_eq_true, c1, c4, hTp.1], base⟩
  | none =>
    obtain ⟨n0, n8, -, hok⟩ := wname_none hw
    have hpk := cls_packed hTp (Nat.le_refl n) n8 hok
    have hv : vch (sl (fun k => tbv (tp k)) 0 n) := sl_v hok
    simp only [wrongV, ↓reduceIte, atR]
    cases he : eAt T v with
    | none =>
      exact ⟨_, by simp only [oN_n, ↓uGI, ↓uGL, ↓uGR, ↓uPI, ↓uPL, ↓uPR, ↓uAL, ↓uQL, ↓uAS, ↓uQS, ↓uAN, ↓uCV, ↓oCL, ↓oNO, ↓uNA, ↓oNN, ↓oZ0, ↓oZ1, gI_pI, gI_pL, gI_pR, gI_pA, gI_pQ, gL_pI, gL_pL, gL_pR, gL_pA, gL_pQ, gR_pI, gR_pL, gR_pR, gR_pA, gR_pQ, gA_pI, gA_pL, gA_pR, gA_pA, gA_pQ, gQ_pI, gQ_pL, gQ_pR, gQ_pA, gQ_pQ, gK_pI, gK_pL, gK_pR, gK_pA, gK_pQ, gN_pI, gN_pL, gN_pR, gN_pA, gN_pQ, gS_pI, gS_pL, gS_pR, gS_pA, gS_pQ, gI_mk, gL_mk, gR_mk, gA_mk, gQ_mk, gK_mk, gN_mk, gS_mk, vn0, vn1, lt0, leN, ltN, eqN, eqM1, M1eq, le0n, eq0n, nI_add, nI_mul, ↓reduceIte, Nat.reduceAdd, Nat.reduceMul, Nat.reduceEqDiff, Nat.reduceLT, Nat.reduceLeDiff, and_true, true_and, and_false, false_and, and_self, reduceCtorEq, not_true_eq_false, not_false_eq_true, c1, c4, hTp.1], base⟩
    | some i =>
      obtain ⟨hi, hu, ht17, rfl⟩ := eAt_some he
      obtain ⟨-, ⟨b1, b2, b3, b4, b5⟩, v1, v2, v3, v4, v5, v6, v7, v8, v9, -⟩ := hT.nd hi hu
      have hAS := (hS.2 i hu).at
      have hnm := cls_named b4 v9 hAS hv (by rw [sl_len]; exact n8)
      simp only [oN_s, some_ne, ↓reduceIte, ↓uGI, ↓uGL, ↓uGR, ↓uPI, ↓uPL, ↓uPR, ↓uAL, ↓uQL, ↓uAS, ↓uQS, ↓uAN, ↓uCV, ↓oCL, ↓oNO, ↓uNA, ↓oNN, ↓oZ0, ↓oZ1, gI_pI, gI_pL, gI_pR, gI_pA, gI_pQ, gL_pI, gL_pL, gL_pR, gL_pA, gL_pQ, gR_pI, gR_pL, gR_pR, gR_pA, gR_pQ, gA_pI, gA_pL, gA_pR, gA_pA, gA_pQ, gQ_pI, gQ_pL, gQ_pR, gQ_pA, gQ_pQ, gK_pI, gK_pL, gK_pR, gK_pA, gK_pQ, gN_pI, gN_pL, gN_pR, gN_pA, gN_pQ, gS_pI, gS_pL, gS_pR, gS_pA, gS_pQ, gI_mk, gL_mk, gR_mk, gA_mk, gQ_mk, gK_mk, gN_mk, gS_mk, vn0, vn1, lt0, leN, ltN, eqN, eqM1, M1eq, le0n, eq0n, nI_add, nI_mul, ↓reduceIte, Nat.reduceAdd, Nat.reduceMul, Nat.reduceEqDiff, Nat.reduceLT, Nat.reduceLeDiff, and_true, true_and, and_false, false_and, and_self, reduceCtorEq, not_true_eq_false, not_false_eq_true, b1, b3, c1, c4, hTp.1, hTp.2.2.2.1, hpk, b4.1, hnm]
      cases hf : fnd (sl (fun k => tbv (tp k)) 0 n) (tAtt T i) 0 with
      | none =>
        exact ⟨_, by simp only [Option.map_none, ↓uGI, ↓uGL, ↓uGR, ↓uPI, ↓uPL, ↓uPR, ↓uAL, ↓uQL, ↓uAS, ↓uQS, ↓uAN, ↓uCV, ↓oCL, ↓oNO, ↓uNA, ↓oNN, ↓oZ0, ↓oZ1, gI_pI, gI_pL, gI_pR, gI_pA, gI_pQ, gL_pI, gL_pL, gL_pR, gL_pA, gL_pQ, gR_pI, gR_pL, gR_pR, gR_pA, gR_pQ, gA_pI, gA_pL, gA_pR, gA_pA, gA_pQ, gQ_pI, gQ_pL, gQ_pR, gQ_pA, gQ_pQ, gK_pI, gK_pL, gK_pR, gK_pA, gK_pQ, gN_pI, gN_pL, gN_pR, gN_pA, gN_pQ, gS_pI, gS_pL, gS_pR, gS_pA, gS_pQ, gI_mk, gL_mk, gR_mk, gA_mk, gQ_mk, gK_mk, gN_mk, gS_mk, vn0, vn1, lt0, leN, ltN, eqN, eqM1, M1eq, le0n, eq0n, nI_add, nI_mul, ↓reduceIte, Nat.reduceAdd, Nat.reduceMul, Nat.reduceEqDiff, Nat.reduceLT, Nat.reduceLeDiff, and_true, true_and, and_false, false_and, and_self, reduceCtorEq, not_true_eq_false, not_false_eq_true, c1, c4, hTp.1], base⟩
      | some j =>
        have hj := (fnd_lt _ _ _ hf).2
        rw [Nat.zero_add] at hj
        obtain ⟨q1, q2, q3⟩ := b4.k5 v9 hAS hj
        obtain ⟨u1, u2, u3, u4⟩ := v9.2 j hj
        obtain ⟨s1, s2, s3, s4⟩ := hAS.get hj
        have O1 := hO.clear
        obtain ⟨h1, g1, O2, F2⟩ := cls_putBytes (w := ((tAtt T i).getD j ([], [])).2.map nI) O1 (hb6 i j) (n := 60) (by simp; exact s3) (by omega) (bch_isB s4) q3 (fun k hk => by rw [mapI_get (by simpa using hk)]; exact u4 k (by simpa using hk))
        rw [List.length_map] at g1
        have Ft : FrO o ob h h1 := Fr.tr (h1 := pI h 201 o (nI 0)) (Fr.pI Fr.rf ⟨rfl, rfl⟩) F2
        have C2 := Ft.CB hC
        have Tp2 := hTp.fr Ft (by omega) htb
        refine ⟨pI h1 301 t (nI 0), ?_, O2.fr (Fr.pI (I := fun f a => f = 301 ∧ a = t) (A := fun _ => False) Fr.rf ⟨rfl, rfl⟩) (by omega) (fun z => z), Tp2.clear, Fr.pI (Ft.mo (fun _ _ z => Or.inl z) (fun _ z => z)) (Or.inr ⟨rfl, rfl⟩)⟩
        simp (disch := omega) only [Option.map_some, some_ne, ↓reduceIte, ↓uGI, ↓uGL, ↓uGR, ↓uPI, ↓uPL, ↓uPR, ↓uAL, ↓uQL, ↓uAS, ↓uQS, ↓uAN, ↓uCV, ↓oCL, ↓oNO, ↓uNA, ↓oNN, ↓oZ0, ↓oZ1, gI_pI, gI_pL, gI_pR, gI_pA, gI_pQ, gL_pI, gL_pL, gL_pR, gL_pA, gL_pQ, gR_pI, gR_pL, gR_pR, gR_pA, gR_pQ, gA_pI, gA_pL, gA_pR, gA_pA, gA_pQ, gQ_pI, gQ_pL, gQ_pR, gQ_pA, gQ_pQ, gK_pI, gK_pL, gK_pR, gK_pA, gK_pQ, gN_pI, gN_pL, gN_pR, gN_pA, gN_pQ, gS_pI, gS_pL, gS_pR, gS_pA, gS_pQ, gI_mk, gL_mk, gR_mk, gA_mk, gQ_mk, gK_mk, gN_mk, gS_mk, vn0, vn1, lt0, leN, ltN, eqN, eqM1, M1eq, le0n, eq0n, nI_add, nI_mul, ↓reduceIte, Nat.reduceAdd, Nat.reduceMul, Nat.reduceEqDiff, Nat.reduceLT, Nat.reduceLeDiff, and_true, true_and, and_false, false_and, and_self, reduceCtorEq, not_true_eq_false, not_false_eq_true, c1, c3, hO.1, q1, q2, u3, show ¬ (2 = 201) by omega, g1, C2.1, C2.2.1, C2.2.2.1, O2.1, O2.2.2.2.1, Tp2.1]
abbrev FrA (m : Nat) (ra : Nat → Nat) : AH → AH → Prop := Fr (fun f a => (f = 451 ∨ f = 453 ∨ f = 455) ∧ a = m) (fun a => a = ra 2 ∨ a = ra 4)
theorem ref_attribute {h : AH} {m n : Nat} {ra : Nat → Nat} {T : TS} {ol : List Int32} {tp : Nat → Int32} (hB : RB h m ra) (hTp : TapeR h m ra n tp) (hb : ∀ i, i < n → isB (tp i)) (hR : RefT h m ra T) (hS : SizT T) (hO : OutR h m ra ol) (v : Int32) :
    ∃ h', fX9_attribute (some m) v h = some (atV T tp n v, h') ∧ OutR h' m ra (atO T tp n ol v) ∧ TapeR h' m ra 0 tp ∧ FrA m ra h h' := by
  obtain ⟨h1, g1, X1, T1, F1⟩ := ref_takeName hB hTp hb
  have hn := hTp.2.1
  have B1 := F1.RB hB
  have R1 : RefT h1 m ra T := hR.fr F1 (by omega) (fun k h6 h23 z => by rw [B1.i] at z; omega)
  have O1 : OutR h1 m ra ol := hO.fr F1 (by omega) (fun z => by rw [B1.i] at z; omega)
  have FA : FrA m ra h h1 := F1.mo (fun f a z => ⟨by omega, z.2⟩) (fun a z => Or.inl z)
  simp only [fX9_attribute, fX9_attribute_0, fX9_attribute_35]
  simp only [↓uGI, ↓uGL, ↓uGR, ↓uPI, ↓uPL, ↓uPR, ↓uAL, ↓uQL, ↓uAS, ↓uQS, ↓uAN, ↓uCV, ↓oCL, ↓oNO, ↓uNA, ↓oNN, ↓oZ0, ↓oZ1, gI_pI, gI_pL, gI_pR, gI_pA, gI_pQ, gL_pI, gL_pL, gL_pR, gL_pA, gL_pQ, gR_pI, gR_pL, gR_pR, gR_pA, gR_pQ, gA_pI, gA_pL, gA_pR, gA_pA, gA_pQ, gQ_pI, gQ_pL, gQ_pR, gQ_pA, gQ_pQ, gK_pI, gK_pL, gK_pR, gK_pA, gK_pQ, gN_pI, gN_pL, gN_pR, gN_pA, gN_pQ, gS_pI, gS_pL, gS_pR, gS_pA, gS_pQ, gI_mk, gL_mk, gR_mk, gA_mk, gQ_mk, gK_mk, gN_mk, gS_mk, vn0, vn1, lt0, leN, ltN, eqN, eqM1, M1eq, le0n, eq0n, nI_add, nI_mul, ↓reduceIte, Nat.reduceAdd, Nat.reduceMul, Nat.reduceEqDiff, Nat.reduceLT, Nat.reduceLeDiff, and_true, true_and, and_false, false_and, and_self, reduceCtorEq, not_true_eq_false, not_false_eq_true, hB.o, g1]
  unfold atV atO
  cases hw : wname tp n with
  | some k =>
    have := wname_le hw
    refine ⟨h1, ?_, O1, T1, FA⟩
    simp (disch := omega) only [↓uGI, ↓uGL, ↓uGR, ↓uPI, ↓uPL, ↓uPR, ↓uAL, ↓uQL, ↓uAS, ↓uQS, ↓uAN, ↓uCV, ↓oCL, ↓oNO, ↓uNA, ↓oNN, ↓oZ0, ↓oZ1, gI_pI, gI_pL, gI_pR, gI_pA, gI_pQ, gL_pI, gL_pL, gL_pR, gL_pA, gL_pQ, gR_pI, gR_pL, gR_pR, gR_pA, gR_pQ, gA_pI, gA_pL, gA_pR, gA_pA, gA_pQ, gQ_pI, gQ_pL, gQ_pR, gQ_pA, gQ_pQ, gK_pI, gK_pL, gK_pR, gK_pA, gK_pQ, gN_pI, gN_pL, gN_pR, gN_pA, gN_pQ, gS_pI, gS_pL, gS_pR, gS_pA, gS_pQ, gI_mk, gL_mk, gR_mk, gA_mk, gQ_mk, gK_mk, gN_mk, gS_mk, vn0, vn1, lt0, leN, ltN, eqN, eqM1, M1eq, le0n, eq0n, nI_add, nI_mul, ↓reduceIte, Nat.reduceAdd, Nat.reduceMul, Nat.reduceEqDiff, Nat.reduceLT, Nat.reduceLeDiff, and_true, true_and, and_false, false_and, and_self, reduceCtorEq, not_true_eq_false, not_false_eq_true, oI, fX9_wrong, fX9_wrong_0]
  | none =>
    obtain ⟨n0, n8, -, hok⟩ := wname_none hw
    have hv : vch (sl (fun k => tbv (tp k)) 0 n) := sl_v hok
    simp only [oI, show ((-1 : Int32) < 0) = True by decide, ↓reduceIte, ↓uGI, ↓uGL, ↓uGR, ↓uPI, ↓uPL, ↓uPR, ↓uAL, ↓uQL, ↓uAS, ↓uQS, ↓uAN, ↓uCV, ↓oCL, ↓oNO, ↓uNA, ↓oNN, ↓oZ0, ↓oZ1, gI_pI, gI_pL, gI_pR, gI_pA, gI_pQ, gL_pI, gL_pL, gL_pR, gL_pA, gL_pQ, gR_pI, gR_pL, gR_pR, gR_pA, gR_pQ, gA_pI, gA_pL, gA_pR, gA_pA, gA_pQ, gQ_pI, gQ_pL, gQ_pR, gQ_pA, gQ_pQ, gK_pI, gK_pL, gK_pR, gK_pA, gK_pQ, gN_pI, gN_pL, gN_pR, gN_pA, gN_pQ, gS_pI, gS_pL, gS_pR, gS_pA, gS_pQ, gI_mk, gL_mk, gR_mk, gA_mk, gQ_mk, gK_mk, gN_mk, gS_mk, vn0, vn1, lt0, leN, ltN, eqN, eqM1, M1eq, le0n, eq0n, nI_add, nI_mul, ↓reduceIte, Nat.reduceAdd, Nat.reduceMul, Nat.reduceEqDiff, Nat.reduceLT, Nat.reduceLeDiff, and_true, true_and, and_false, false_and, and_self, reduceCtorEq, not_true_eq_false, not_false_eq_true, B1.o, ref_isElement B1 R1 hS, bI0, atR]
    cases he : eAt T v with
    | none =>
      refine ⟨h1, ?_, O1, T1, FA⟩
      simp only [Option.isSome_none, ↓reduceIte]
    | some i =>
      obtain ⟨hi, hu, ht17, rfl⟩ := eAt_some he
      have hAS := (hS.2 i hu).at
      have hAt := (R1.2 i hi).at hu
      have hnm := ref_attNamed B1 hi hAt hAS hv (by rw [sl_len]; exact n8) (fun k hk => by
        rw [sl_len] at hk
        rw [sl_get _ hk, X1.2.2 k hk, Nat.zero_add]
        have hl := okb_lt (hok k hk)
        rw [← sx_lo _ hl]
        exact sx_tbv (hb k hk))
      rw [sl_len] at hnm
      simp (disch := omega) only [Option.isSome_some, Bool.true_eq_false, ↓reduceIte, ↓uGI, ↓uGL, ↓uGR, ↓uPI, ↓uPL, ↓uPR, ↓uAL, ↓uQL, ↓uAS, ↓uQS, ↓uAN, ↓uCV, ↓oCL, ↓oNO, ↓uNA, ↓oNN, ↓oZ0, ↓oZ1, gI_pI, gI_pL, gI_pR, gI_pA, gI_pQ, gL_pI, gL_pL, gL_pR, gL_pA, gL_pQ, gR_pI, gR_pL, gR_pR, gR_pA, gR_pQ, gA_pI, gA_pL, gA_pR, gA_pA, gA_pQ, gQ_pI, gQ_pL, gQ_pR, gQ_pA, gQ_pQ, gK_pI, gK_pL, gK_pR, gK_pA, gK_pQ, gN_pI, gN_pL, gN_pR, gN_pA, gN_pQ, gS_pI, gS_pL, gS_pR, gS_pA, gS_pQ, gI_mk, gL_mk, gR_mk, gA_mk, gQ_mk, gK_mk, gN_mk, gS_mk, vn0, vn1, lt0, leN, ltN, eqN, eqM1, M1eq, le0n, eq0n, nI_add, nI_mul, ↓reduceIte, Nat.reduceAdd, Nat.reduceMul, Nat.reduceEqDiff, Nat.reduceLT, Nat.reduceLeDiff, and_true, true_and, and_false, false_and, and_self, reduceCtorEq, not_true_eq_false, not_false_eq_true, B1.o, X1.1, hnm]
      cases hf : fnd (sl (fun k => tbv (tp k)) 0 n) (tAtt T i) 0 with
      | none =>
        refine ⟨h1, ?_, O1, T1, FA⟩
        simp only [Option.map_none, oI, ↓reduceIte]
      | some j =>
        have hj := (fnd_lt _ _ _ hf).2
        rw [Nat.zero_add] at hj
        obtain ⟨a1, a2, a3, a4⟩ := hAt.2 j hj
        obtain ⟨s1, s2, s3, s4⟩ := hAS.get hj
        have := hAS.1
        have O2 : OutR (pI h1 455 m (nI 0)) m ra [] := OutR.clear
        obtain ⟨h2, g2, O3, F2⟩ := ref_sayAll (h := pI h1 455 m (nI 0)) (w := ((tAtt T i).getD j ([], [])).2.map nI) (a := ra 19) (n := 28800) (fr := 60 * (4 * i + j)) B1 O2 (fun q => by rw [B1.i] at q; omega) (by rw [List.length_map]; omega) (by omega) (bch_isB s4) B1.k19 (fun k hk => by rw [mapI_get (by simpa using hk)]; exact a4 k (by simpa using hk))
        rw [List.length_map] at g2
        have Ft : FrS m ra h1 h2 := Fr.tr (h1 := pI h1 455 m (nI 0)) (Fr.pI Fr.rf ⟨rfl, rfl⟩) F2
        have B2 := Ft.RB B1
        refine ⟨h2, ?_, O3, T1.fr Ft (by omega) (fun z => by rw [B1.i] at z; omega), FA.tr (Ft.mo (fun f a z => ⟨by omega, z.2⟩) (fun a z => Or.inr z))⟩
        simp (disch := omega) only [Option.map_some, oI, ↓uGI, ↓uGL, ↓uGR, ↓uPI, ↓uPL, ↓uPR, ↓uAL, ↓uQL, ↓uAS, ↓uQS, ↓uAN, ↓uCV, ↓oCL, ↓oNO, ↓uNA, ↓oNN, ↓oZ0, ↓oZ1, gI_pI, gI_pL, gI_pR, gI_pA, gI_pQ, gL_pI, gL_pL, gL_pR, gL_pA, gL_pQ, gR_pI, gR_pL, gR_pR, gR_pA, gR_pQ, gA_pI, gA_pL, gA_pR, gA_pA, gA_pQ, gQ_pI, gQ_pL, gQ_pR, gQ_pA, gQ_pQ, gK_pI, gK_pL, gK_pR, gK_pA, gK_pQ, gN_pI, gN_pL, gN_pR, gN_pA, gN_pQ, gS_pI, gS_pL, gS_pR, gS_pA, gS_pQ, gI_mk, gL_mk, gR_mk, gA_mk, gQ_mk, gK_mk, gN_mk, gS_mk, vn0, vn1, lt0, leN, ltN, eqN, eqM1, M1eq, le0n, eq0n, nI_add, nI_mul, ↓reduceIte, Nat.reduceAdd, Nat.reduceMul, Nat.reduceEqDiff, Nat.reduceLT, Nat.reduceLeDiff, and_true, true_and, and_false, false_and, and_self, reduceCtorEq, not_true_eq_false, not_false_eq_true, B1.o, B1.r19, B1.r20, B1.k20, show 4 * i + j < 480 by omega, a3, g2, B2.o, O3.1]

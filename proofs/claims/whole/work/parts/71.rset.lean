/-! a row of small numbers written into an array -/
def wrA (h : AH) (a b : Nat) : List Nat → AH
  | [] => h
  | c :: l => wrA (pA h a b (nI c)) a (b + 1) l
theorem wr_I (a : Nat) : ∀ (l : List Nat) (h : AH) (b : Nat), gI (wrA h a b l) = gI h := by
  intro l
  induction l with
  | nil => intro h b; rfl
  | cons c l ih => intro h b; exact ih _ _
theorem wr_L (a : Nat) : ∀ (l : List Nat) (h : AH) (b : Nat), gL (wrA h a b l) = gL h := by
  intro l
  induction l with
  | nil => intro h b; rfl
  | cons c l ih => intro h b; exact ih _ _
theorem wr_R (a : Nat) : ∀ (l : List Nat) (h : AH) (b : Nat), gR (wrA h a b l) = gR h := by
  intro l
  induction l with
  | nil => intro h b; rfl
  | cons c l ih => intro h b; exact ih _ _
theorem wr_Q (a : Nat) : ∀ (l : List Nat) (h : AH) (b : Nat), gQ (wrA h a b l) = gQ h := by
  intro l
  induction l with
  | nil => intro h b; rfl
  | cons c l ih => intro h b; exact ih _ _
theorem wr_K (a : Nat) : ∀ (l : List Nat) (h : AH) (b : Nat), gK (wrA h a b l) = gK h := by
  intro l
  induction l with
  | nil => intro h b; rfl
  | cons c l ih => intro h b; exact ih _ _
theorem wr_N (a : Nat) : ∀ (l : List Nat) (h : AH) (b : Nat), gN (wrA h a b l) = gN h := by
  intro l
  induction l with
  | nil => intro h b; rfl
  | cons c l ih => intro h b; exact ih _ _
theorem wr_S (a : Nat) : ∀ (l : List Nat) (h : AH) (b : Nat), gS (wrA h a b l) = gS h := by
  intro l
  induction l with
  | nil => intro h b; rfl
  | cons c l ih => intro h b; exact ih _ _
theorem wr_o (a : Nat) : ∀ (l : List Nat) (h : AH) (b a' j : Nat), ¬ (a' = a ∧ b ≤ j ∧ j < b + l.length) → gA (wrA h a b l) a' j = gA h a' j := by
  intro l
  induction l with
  | nil => intro h b a' j _; rfl
  | cons c l ih =>
    intro h b a' j hn
    simp only [List.length_cons] at hn
    show gA (wrA (pA h a b (nI c)) a (b + 1) l) a' j = _
    rw [ih _ _ _ _ (by omega), gA_pA, if_neg (by omega)]
theorem wr_i (a : Nat) : ∀ (l : List Nat) (h : AH) (b k : Nat), k < l.length → gA (wrA h a b l) a (b + k) = nI (l.getD k 0) := by
  intro l
  induction l with
  | nil => intro h b k hk; simp at hk
  | cons c l ih =>
    intro h b k hk
    simp only [List.length_cons] at hk
    show gA (wrA (pA h a b (nI c)) a (b + 1) l) a (b + k) = _
    cases k with
    | zero =>
      rw [wr_o _ _ _ _ _ _ (by omega), gA_pA, if_pos ⟨rfl, by omega⟩]
      rfl
    | succ k =>
      rw [show b + (k + 1) = b + 1 + k by omega, ih _ _ _ (by omega)]
      rfl
theorem wr_fr (a : Nat) (l : List Nat) (h : AH) (b : Nat) (I : Nat → Nat → Prop) : Fr I (fun x => x = a) h (wrA h a b l) :=
  ⟨fun _ _ _ => by rw [wr_I], wr_L a l h b, wr_R a l h b, fun x i hx => wr_o a l h b x i (fun z => hx z.1), wr_Q a l h b, wr_K a l h b, wr_N a l h b, wr_S a l h b⟩
theorem wr_rd (a : Nat) (l : List Nat) (h : AH) (b a' j : Nat) : gA (wrA h a b l) a' j = if a' = a ∧ b ≤ j ∧ j < b + l.length then nI (l.getD (j - b) 0) else gA h a' j := by
  by_cases c : a' = a ∧ b ≤ j ∧ j < b + l.length
  · rw [if_pos c]
    obtain ⟨rfl, c2, c3⟩ := c
    have := wr_i a' l h b (j - b) (by omega)
    rw [show b + (j - b) = j by omega] at this
    exact this
  · rw [if_neg c, wr_o _ _ _ _ _ _ c]
theorem nI_b {c : Nat} (h : c < 128) : (nI c).toInt8.toInt32 = nI c := isB_nI h
theorem ref_set205 {m i a eq n : Nat} {ra : Nat → Nat} {tx : Nat → Nat} {cnt : Nat} (ha : a < 480) (hc60 : cnt ≤ 60) (hcn : eq + 1 + cnt ≤ n) (hn : n ≤ 2000) (hlo : ∀ q, q < n → tx q < 128) : ∀ (k f p : Nat) (h : AH), p + k = cnt → k < f → RB h m ra → gA h (ra 20) a = nI cnt → (∀ q, q < n → gA h (ra 2) q = nI (tx q)) → fX9_set_205 f (some m) (nI i) (nI eq) (nI a) (nI p) h = fX9_set_247 (some m) (nI i) (wrA h (ra 19) (60 * a + p) (sl tx (eq + 1 + p) k)) := by
  intro k
  induction k with
  | zero =>
    intro f p h hpk hkf hB h20 h2
    obtain ⟨f, rfl⟩ : ∃ g, f = g + 1 := ⟨f - 1, by omega⟩
    rw [fX9_set_205]
    simp (disch := omega) only [↓uGI, ↓uGL, ↓uGR, ↓uPI, ↓uPL, ↓uPR, ↓uAL, ↓uQL, ↓uAS, ↓uQS, ↓uAN, ↓uCV, ↓oCL, ↓oNO, ↓uNA, ↓oNN, ↓oZ0, ↓oZ1, gI_pI, gI_pL, gI_pR, gI_pA, gI_pQ, gL_pI, gL_pL, gL_pR, gL_pA, gL_pQ, gR_pI, gR_pL, gR_pR, gR_pA, gR_pQ, gA_pI, gA_pL, gA_pR, gA_pA, gA_pQ, gQ_pI, gQ_pL, gQ_pR, gQ_pA, gQ_pQ, gK_pI, gK_pL, gK_pR, gK_pA, gK_pQ, gN_pI, gN_pL, gN_pR, gN_pA, gN_pQ, gS_pI, gS_pL, gS_pR, gS_pA, gS_pQ, gI_mk, gL_mk, gR_mk, gA_mk, gQ_mk, gK_mk, gN_mk, gS_mk, vn0, vn1, lt0, leN, ltN, eqN, eqM1, M1eq, le0n, eq0n, nI_add, nI_mul, ↓reduceIte, Nat.reduceAdd, Nat.reduceMul, Nat.reduceEqDiff, Nat.reduceLT, Nat.reduceLeDiff, and_true, true_and, and_false, false_and, and_self, reduceCtorEq, not_true_eq_false, not_false_eq_true, hB.o, hB.r20, hB.k20, ha, h20, show cnt ≤ p by omega]
    rfl
  | succ k ih =>
    intro f p h hpk hkf hB h20 h2
    obtain ⟨f, rfl⟩ : ∃ g, f = g + 1 := ⟨f - 1, by omega⟩
    have hne : ra 20 ≠ ra 19 := fun q => by rw [hB.i] at q; omega
    have hne2 : ra 2 ≠ ra 19 := fun q => by rw [hB.i] at q; omega
    have hv := h2 (eq + 1 + p) (by omega)
    rw [fX9_set_205]
    simp (disch := omega) only [↓uGI, ↓uGL, ↓uGR, ↓uPI, ↓uPL, ↓uPR, ↓uAL, ↓uQL, ↓uAS, ↓uQS, ↓uAN, ↓uCV, ↓oCL, ↓oNO, ↓uNA, ↓oNN, ↓oZ0, ↓oZ1, gI_pI, gI_pL, gI_pR, gI_pA, gI_pQ, gL_pI, gL_pL, gL_pR, gL_pA, gL_pQ, gR_pI, gR_pL, gR_pR, gR_pA, gR_pQ, gA_pI, gA_pL, gA_pR, gA_pA, gA_pQ, gQ_pI, gQ_pL, gQ_pR, gQ_pA, gQ_pQ, gK_pI, gK_pL, gK_pR, gK_pA, gK_pQ, gN_pI, gN_pL, gN_pR, gN_pA, gN_pQ, gS_pI, gS_pL, gS_pR, gS_pA, gS_pQ, gI_mk, gL_mk, gR_mk, gA_mk, gQ_mk, gK_mk, gN_mk, gS_mk, vn0, vn1, lt0, leN, ltN, eqN, eqM1, M1eq, le0n, eq0n, nI_add, nI_mul, ↓reduceIte, Nat.reduceAdd, Nat.reduceMul, Nat.reduceEqDiff, Nat.reduceLT, Nat.reduceLeDiff, and_true, true_and, and_false, false_and, and_self, reduceCtorEq, not_true_eq_false, not_false_eq_true, hB.o, hB.r20, hB.k20, hB.r19, hB.k19, hB.r2, hB.k2, ha, h20, show ¬ cnt ≤ p by omega, show eq + 1 + p < 2000 by omega, show 60 * a + p < 28800 by omega, hv, nI_b (hlo (eq + 1 + p) (by omega))]
    rw [ih f (p + 1) (pA h (ra 19) (60 * a + p) (nI (tx (eq + 1 + p)))) (by omega) (by omega) hB (by rw [gA_pA, if_neg (fun z => hne z.1)]; exact h20) (fun q hq => by rw [gA_pA, if_neg (fun z => hne2 z.1)]; exact h2 q hq), sl_cons]
    rfl
theorem ref_set150 {m i a eq n : Nat} {ra : Nat → Nat} {tx : Nat → Nat} (ha : a < 480) (he : eq ≤ 8) (hcn : eq ≤ n) (hn : n ≤ 2000) (hlo : ∀ q, q < n → tx q < 128) : ∀ (k f p : Nat) (h : AH), p + k = eq → k < f → RB h m ra → (∀ q, q < n → gA h (ra 2) q = nI (tx q)) → fX9_set_150 f (some m) (nI i) (nI eq) (nI a) (nI p) h = fX9_set_182 (some m) (nI i) (nI eq) (nI a) (wrA h (ra 17) (8 * a + p) (sl tx p k)) := by
  intro k
  induction k with
  | zero =>
    intro f p h hpk hkf hB h2
    obtain ⟨f, rfl⟩ : ∃ g, f = g + 1 := ⟨f - 1, by omega⟩
    rw [fX9_set_150]
    simp (disch := omega) only [↓uGI, ↓uGL, ↓uGR, ↓uPI, ↓uPL, ↓uPR, ↓uAL, ↓uQL, ↓uAS, ↓uQS, ↓uAN, ↓uCV, ↓oCL, ↓oNO, ↓uNA, ↓oNN, ↓oZ0, ↓oZ1, gI_pI, gI_pL, gI_pR, gI_pA, gI_pQ, gL_pI, gL_pL, gL_pR, gL_pA, gL_pQ, gR_pI, gR_pL, gR_pR, gR_pA, gR_pQ, gA_pI, gA_pL, gA_pR, gA_pA, gA_pQ, gQ_pI, gQ_pL, gQ_pR, gQ_pA, gQ_pQ, gK_pI, gK_pL, gK_pR, gK_pA, gK_pQ, gN_pI, gN_pL, gN_pR, gN_pA, gN_pQ, gS_pI, gS_pL, gS_pR, gS_pA, gS_pQ, gI_mk, gL_mk, gR_mk, gA_mk, gQ_mk, gK_mk, gN_mk, gS_mk, vn0, vn1, lt0, leN, ltN, eqN, eqM1, M1eq, le0n, eq0n, nI_add, nI_mul, ↓reduceIte, Nat.reduceAdd, Nat.reduceMul, Nat.reduceEqDiff, Nat.reduceLT, Nat.reduceLeDiff, and_true, true_and, and_false, false_and, and_self, reduceCtorEq, not_true_eq_false, not_false_eq_true, show eq ≤ p by omega]
    rfl
  | succ k ih =>
    intro f p h hpk hkf hB h2
    obtain ⟨f, rfl⟩ : ∃ g, f = g + 1 := ⟨f - 1, by omega⟩
    have hne2 : ra 2 ≠ ra 17 := fun q => by rw [hB.i] at q; omega
    have hv := h2 p (by omega)
    rw [fX9_set_150]
    simp (disch := omega) only [↓uGI, ↓uGL, ↓uGR, ↓uPI, ↓uPL, ↓uPR, ↓uAL, ↓uQL, ↓uAS, ↓uQS, ↓uAN, ↓uCV, ↓oCL, ↓oNO, ↓uNA, ↓oNN, ↓oZ0, ↓oZ1, gI_pI, gI_pL, gI_pR, gI_pA, gI_pQ, gL_pI, gL_pL, gL_pR, gL_pA, gL_pQ, gR_pI, gR_pL, gR_pR, gR_pA, gR_pQ, gA_pI, gA_pL, gA_pR, gA_pA, gA_pQ, gQ_pI, gQ_pL, gQ_pR, gQ_pA, gQ_pQ, gK_pI, gK_pL, gK_pR, gK_pA, gK_pQ, gN_pI, gN_pL, gN_pR, gN_pA, gN_pQ, gS_pI, gS_pL, gS_pR, gS_pA, gS_pQ, gI_mk, gL_mk, gR_mk, gA_mk, gQ_mk, gK_mk, gN_mk, gS_mk, vn0, vn1, lt0, leN, ltN, eqN, eqM1, M1eq, le0n, eq0n, nI_add, nI_mul, ↓reduceIte, Nat.reduceAdd, Nat.reduceMul, Nat.reduceEqDiff, Nat.reduceLT, Nat.reduceLeDiff, and_true, true_and, and_false, false_and, and_self, reduceCtorEq, not_true_eq_false, not_false_eq_true, hB.o, hB.r17, hB.k17, hB.r2, hB.k2, show ¬ eq ≤ p by omega, show p < 2000 by omega, show 8 * a + p < 3840 by omega, hv, nI_b (hlo p (by omega))]
    rw [ih f (p + 1) (pA h (ra 17) (8 * a + p) (nI (tx p))) (by omega) (by omega) hB (fun q hq => by rw [gA_pA, if_neg (fun z => hne2 z.1)]; exact h2 q hq), sl_cons]
    rfl
theorem sl_take (tx : Nat → Nat) (a c : Nat) : vcat [] (sl tx a c) = sl tx a (min c 60) := by
  unfold vcat sl
  rw [List.nil_append, ← List.map_take, List.take_range, Nat.min_comm]
/-- reference: the VALUE is written, and what is answered -/
theorem ref_set182 {h : AH} {m i a eq n A : Nat} {ra : Nat → Nat} {tx : Nat → Nat} (hB : RB h m ra) (ha : a < 480) (hi : i < 120) (heq : eq < n) (hn : n ≤ 2000) (hlo : ∀ q, q < n → tx q < 128) (h453 : gI h 453 m = nI n) (h2 : ∀ q, q < n → gA h (ra 2) q = nI (tx q)) (h16 : gA h (ra 16) i = nI A) : fX9_set_182 (some m) (nI i) (nI eq) (nI a) h = some (nI A, wrA (pA h (ra 20) a (nI (min (n - (eq + 1)) 60))) (ra 19) (60 * a) (sl tx (eq + 1) (min (n - (eq + 1)) 60))) := by
  have e1 : nI n - nI eq - nI 1 = nI (n - (eq + 1)) := by rw [nI_sub (by omega), nI_sub (by omega)]; congr 1
  have hless : fX9_less (nI 60) (nI (n - (eq + 1))) h = some (nI (min (n - (eq + 1)) 60), h) := by
    simp only [fX9_less, fX9_less_0, fX9_less_10]
    by_cases c : n - (eq + 1) ≤ 60
    · simp (disch := omega) only [↓uGI, ↓uGL, ↓uGR, ↓uPI, ↓uPL, ↓uPR, ↓uAL, ↓uQL, ↓uAS, ↓uQS, ↓uAN, ↓uCV, ↓oCL, ↓oNO, ↓uNA, ↓oNN, ↓oZ0, ↓oZ1, gI_pI, gI_pL, gI_pR, gI_pA, gI_pQ, gL_pI, gL_pL, gL_pR, gL_pA, gL_pQ, gR_pI, gR_pL, gR_pR, gR_pA, gR_pQ, gA_pI, gA_pL, gA_pR, gA_pA, gA_pQ, gQ_pI, gQ_pL, gQ_pR, gQ_pA, gQ_pQ, gK_pI, gK_pL, gK_pR, gK_pA, gK_pQ, gN_pI, gN_pL, gN_pR, gN_pA, gN_pQ, gS_pI, gS_pL, gS_pR, gS_pA, gS_pQ, gI_mk, gL_mk, gR_mk, gA_mk, gQ_mk, gK_mk, gN_mk, gS_mk, vn0, vn1, lt0, leN, ltN, eqN, eqM1, M1eq, le0n, eq0n, nI_add, nI_mul, ↓reduceIte, Nat.reduceAdd, Nat.reduceMul, Nat.reduceEqDiff, Nat.reduceLT, Nat.reduceLeDiff, and_true, true_and, and_false, false_and, and_self, reduceCtorEq, not_true_eq_false, not_false_eq_true, c, Nat.min_eq_left c]
    · simp (disch := omega) only [↓uGI, ↓uGL, ↓uGR, ↓uPI, ↓uPL, ↓uPR, ↓uAL, ↓uQL, ↓uAS, ↓uQS, ↓uAN, ↓uCV, ↓oCL, ↓oNO, ↓uNA, ↓oNN, ↓oZ0, ↓oZ1, gI_pI, gI_pL, gI_pR, gI_pA, gI_pQ, gL_pI, gL_pL, gL_pR, gL_pA, gL_pQ, gR_pI, gR_pL, gR_pR, gR_pA, gR_pQ, gA_pI, gA_pL, gA_pR, gA_pA, gA_pQ, gQ_pI, gQ_pL, gQ_pR, gQ_pA, gQ_pQ, gK_pI, gK_pL, gK_pR, gK_pA, gK_pQ, gN_pI, gN_pL, gN_pR, gN_pA, gN_pQ, gS_pI, gS_pL, gS_pR, gS_pA, gS_pQ, gI_mk, gL_mk, gR_mk, gA_mk, gQ_mk, gK_mk, gN_mk, gS_mk, vn0, vn1, lt0, leN, ltN, eqN, eqM1, M1eq, le0n, eq0n, nI_add, nI_mul, ↓reduceIte, Nat.reduceAdd, Nat.reduceMul, Nat.reduceEqDiff, Nat.reduceLT, Nat.reduceLeDiff, and_true, true_and, and_false, false_and, and_self, reduceCtorEq, not_true_eq_false, not_false_eq_true, c, Nat.min_eq_right (show 60 ≤ n - (eq + 1) by omega)]
  have hne2 : ra 2 ≠ ra 20 := fun q => by rw [hB.i] at q; omega
  have hne16 : ra 16 ≠ ra 20 := fun q => by rw [hB.i] at q; omega
  have hne16' : ra 16 ≠ ra 19 := fun q => by rw [hB.i] at q; omega
  have hm : min (n - (eq + 1)) 60 ≤ 60 := Nat.min_le_right _ _
  have hm2 : min (n - (eq + 1)) 60 ≤ n - (eq + 1) := Nat.min_le_left _ _
  have := ref_set205 (i := i) (eq := eq) ha hm (show eq + 1 + min (n - (eq + 1)) 60 ≤ n by omega) hn hlo (min (n - (eq + 1)) 60) FU 0 (pA h (ra 20) a (nI (min (n - (eq + 1)) 60))) (by omega) (by have := FU_ge; omega) hB (by rw [gA_pA, if_pos ⟨rfl, rfl⟩]) (fun q hq => by rw [gA_pA, if_neg (fun z => hne2 z.1)]; exact h2 q hq)
  simp only [fX9_set_182]
  simp (disch := omega) only [↓uGI, ↓uGL, ↓uGR, ↓uPI, ↓uPL, ↓uPR, ↓uAL, ↓uQL, ↓uAS, ↓uQS, ↓uAN, ↓uCV, ↓oCL, ↓oNO, ↓uNA, ↓oNN, ↓oZ0, ↓oZ1, gI_pI, gI_pL, gI_pR, gI_pA, gI_pQ, gL_pI, gL_pL, gL_pR, gL_pA, gL_pQ, gR_pI, gR_pL, gR_pR, gR_pA, gR_pQ, gA_pI, gA_pL, gA_pR, gA_pA, gA_pQ, gQ_pI, gQ_pL, gQ_pR, gQ_pA, gQ_pQ, gK_pI, gK_pL, gK_pR, gK_pA, gK_pQ, gN_pI, gN_pL, gN_pR, gN_pA, gN_pQ, gS_pI, gS_pL, gS_pR, gS_pA, gS_pQ, gI_mk, gL_mk, gR_mk, gA_mk, gQ_mk, gK_mk, gN_mk, gS_mk, vn0, vn1, lt0, leN, ltN, eqN, eqM1, M1eq, le0n, eq0n, nI_add, nI_mul, ↓reduceIte, Nat.reduceAdd, Nat.reduceMul, Nat.reduceEqDiff, Nat.reduceLT, Nat.reduceLeDiff, and_true, true_and, and_false, false_and, and_self, reduceCtorEq, not_true_eq_false, not_false_eq_true, hB.o, hB.r20, hB.k20, ha, h453, e1, hless]
  rw [this]
  simp only [Nat.add_zero, fX9_set_247]
  simp (disch := omega) only [↓uGI, ↓uGL, ↓uGR, ↓uPI, ↓uPL, ↓uPR, ↓uAL, ↓uQL, ↓uAS, ↓uQS, ↓uAN, ↓uCV, ↓oCL, ↓oNO, ↓uNA, ↓oNN, ↓oZ0, ↓oZ1, gI_pI, gI_pL, gI_pR, gI_pA, gI_pQ, gL_pI, gL_pL, gL_pR, gL_pA, gL_pQ, gR_pI, gR_pL, gR_pR, gR_pA, gR_pQ, gA_pI, gA_pL, gA_pR, gA_pA, gA_pQ, gQ_pI, gQ_pL, gQ_pR, gQ_pA, gQ_pQ, gK_pI, gK_pL, gK_pR, gK_pA, gK_pQ, gN_pI, gN_pL, gN_pR, gN_pA, gN_pQ, gS_pI, gS_pL, gS_pR, gS_pA, gS_pQ, gI_mk, gL_mk, gR_mk, gA_mk, gQ_mk, gK_mk, gN_mk, gS_mk, vn0, vn1, lt0, leN, ltN, eqN, eqM1, M1eq, le0n, eq0n, nI_add, nI_mul, ↓reduceIte, Nat.reduceAdd, Nat.reduceMul, Nat.reduceEqDiff, Nat.reduceLT, Nat.reduceLeDiff, and_true, true_and, and_false, false_and, and_self, reduceCtorEq, not_true_eq_false, not_false_eq_true, wr_K, wr_R, hB.o, hB.r16, hB.k16, hi]
  rw [wr_o _ _ _ _ _ _ (fun z => hne16' z.1), gA_pA, if_neg (fun z => hne16 z.1), h16]
theorem RefN.att {h h' : AH} {ra : Nat → Nat} {T : TS} {i : Nat} {L : AttL} (q : RefN h ra T i) (hu : tIs T i = true) (e : ∀ k j, 6 ≤ k → k ≤ 23 → ¬ (16 ≤ k ∧ k ≤ 20) → gA h' (ra k) j = gA h (ra k) j) (hR : RAt h' ra i L) : RefN h' ra (uAtt T i L) i := by
  obtain ⟨q0, q1⟩ := q
  obtain ⟨w1, w2, w3, w4, w5, w6, w7, w8, w9, w10, w11, w12, w13, w14⟩ := q1 hu
  unfold RefN
  simp only [tIs_uIs, tIs_uTag, tIs_uNam, tIs_uPar, tIs_uFk, tIs_uLk, tIs_uNx, tIs_uBf, tIs_uDep, tIs_uAtt, tIs_uTxt, tIs_uLng, tIs_uCnt, tTag_uIs, tTag_uTag, tTag_uNam, tTag_uPar, tTag_uFk, tTag_uLk, tTag_uNx, tTag_uBf, tTag_uDep, tTag_uAtt, tTag_uTxt, tTag_uLng, tTag_uCnt, tNam_uIs, tNam_uTag, tNam_uNam, tNam_uPar, tNam_uFk, tNam_uLk, tNam_uNx, tNam_uBf, tNam_uDep, tNam_uAtt, tNam_uTxt, tNam_uLng, tNam_uCnt, tPar_uIs, tPar_uTag, tPar_uNam, tPar_uPar, tPar_uFk, tPar_uLk, tPar_uNx, tPar_uBf, tPar_uDep, tPar_uAtt, tPar_uTxt, tPar_uLng, tPar_uCnt, tFk_uIs, tFk_uTag, tFk_uNam, tFk_uPar, tFk_uFk, tFk_uLk, tFk_uNx, tFk_uBf, tFk_uDep, tFk_uAtt, tFk_uTxt, tFk_uLng, tFk_uCnt, tLk_uIs, tLk_uTag, tLk_uNam, tLk_uPar, tLk_uFk, tLk_uLk, tLk_uNx, tLk_uBf, tLk_uDep, tLk_uAtt, tLk_uTxt, tLk_uLng, tLk_uCnt, tNx_uIs, tNx_uTag, tNx_uNam, tNx_uPar, tNx_uFk, tNx_uLk, tNx_uNx, tNx_uBf, tNx_uDep, tNx_uAtt, tNx_uTxt, tNx_uLng, tNx_uCnt, tBf_uIs, tBf_uTag, tBf_uNam, tBf_uPar, tBf_uFk, tBf_uLk, tBf_uNx, tBf_uBf, tBf_uDep, tBf_uAtt, tBf_uTxt, tBf_uLng, tBf_uCnt, tDep_uIs, tDep_uTag, tDep_uNam, tDep_uPar, tDep_uFk, tDep_uLk, tDep_uNx, tDep_uBf, tDep_uDep, tDep_uAtt, tDep_uTxt, tDep_uLng, tDep_uCnt, tAtt_uIs, tAtt_uTag, tAtt_uNam, tAtt_uPar, tAtt_uFk, tAtt_uLk, tAtt_uNx, tAtt_uBf, tAtt_uDep, tAtt_uAtt, tAtt_uTxt, tAtt_uLng, tAtt_uCnt, tTxt_uIs, tTxt_uTag, tTxt_uNam, tTxt_uPar, tTxt_uFk, tTxt_uLk, tTxt_uNx, tTxt_uBf, tTxt_uDep, tTxt_uAtt, tTxt_uTxt, tTxt_uLng, tTxt_uCnt, tLng_uIs, tLng_uTag, tLng_uNam, tLng_uPar, tLng_uFk, tLng_uLk, tLng_uNx, tLng_uBf, tLng_uDep, tLng_uAtt, tLng_uTxt, tLng_uLng, tLng_uCnt, tCnt_uIs, tCnt_uTag, tCnt_uNam, tCnt_uPar, tCnt_uFk, tCnt_uLk, tCnt_uNx, tCnt_uBf, tCnt_uDep, tCnt_uAtt, tCnt_uTxt, tCnt_uLng, tCnt_uCnt, ↓reduceIte]
  simp only [e 6 _ (by omega) (by omega) (by omega), e 7 _ (by omega) (by omega) (by omega), e 8 _ (by omega) (by omega) (by omega), e 9 _ (by omega) (by omega) (by omega), e 10 _ (by omega) (by omega) (by omega), e 11 _ (by omega) (by omega) (by omega), e 12 _ (by omega) (by omega) (by omega), e 13 _ (by omega) (by omega) (by omega), e 14 _ (by omega) (by omega) (by omega), e 15 _ (by omega) (by omega) (by omega), e 21 _ (by omega) (by omega) (by omega), e 22 _ (by omega) (by omega) (by omega), e 23 _ (by omega) (by omega) (by omega)]
  exact ⟨q0, fun _ => ⟨w1, w2, w3, w4, w5, w6, w7, w8, w9, hR.1, hR.2, w12, w13, w14⟩⟩
/-- reference: a NODE's ATTRIBUTES are changed -/
theorem RefT.att {h h' : AH} {m i : Nat} {ra : Nat → Nat} {T : TS} {L : AttL} (q : RefT h m ra T) (hSz : SizT T) (hi : i < 120) (hu : tIs T i = true) (h475 : gI h' 475 m = gI h 475 m) (e : ∀ k j, 6 ≤ k → k ≤ 23 → ¬ (16 ≤ k ∧ k ≤ 20) → gA h' (ra k) j = gA h (ra k) j) (e2 : ∀ k j, 16 ≤ k → k ≤ 20 → own k j ≠ i → gA h' (ra k) j = gA h (ra k) j) (hR : RAt h' ra i L) : RefT h' m ra (uAtt T i L) := by
  refine q.up1 (i := i) hSz.z (fun j hj k p a b c => ?_) (fun j _ => rfl) (fun j hj _ => uAtt_same j hj) (by rw [h475]; exact q.1) (fun _ => (q.2 i hi).att hu e hR)
  by_cases z : 16 ≤ k ∧ k ≤ 20
  · exact e2 k p z.1 z.2 (by rw [c]; exact hj)
  · exact e k p a b z
abbrev FrSt (m : Nat) (ra : Nat → Nat) : AH → AH → Prop := Fr (fun f a => (f = 451 ∨ f = 453) ∧ a = m) (fun a => ∃ k, (k = 2 ∨ (6 ≤ k ∧ k ≤ 23)) ∧ a = ra k)
theorem ref_set {h : AH} {m n : Nat} {ra : Nat → Nat} {T : TS} {tp : Nat → Int32} (hB : RB h m ra) (hTp : TapeR h m ra n tp) (hb : ∀ i, i < n → isB (tp i)) (hR : RefT h m ra T) (hS : SizT T) (v : Int32) :
    ∃ h', fX9_set (some m) v h = some (stV T tp n v, h') ∧ RefT h' m ra (stT T tp n v) ∧ TapeR h' m ra 0 tp ∧ FrSt m ra h h' := by
  obtain ⟨h1, g1, X1, T1, F1⟩ := ref_take hB hTp hb
  have hn := hTp.2.1
  have B1 := F1.RB hB
  have R1 : RefT h1 m ra T := hR.fr F1 (by omega) (fun k h6 h23 z => by rw [B1.i] at z; omega)
  have FA : FrSt m ra h h1 := F1.mo (fun f a z => z) (fun a z => ⟨2, Or.inl rfl, z⟩)
  simp only [fX9_set, fX9_set_0]
  simp only [↓uGI, ↓uGL, ↓uGR, ↓uPI, ↓uPL, ↓uPR, ↓uAL, ↓uQL, ↓uAS, ↓uQS, ↓uAN, ↓uCV, ↓oCL, ↓oNO, ↓uNA, ↓oNN, ↓oZ0, ↓oZ1, gI_pI, gI_pL, gI_pR, gI_pA, gI_pQ, gL_pI, gL_pL, gL_pR, gL_pA, gL_pQ, gR_pI, gR_pL, gR_pR, gR_pA, gR_pQ, gA_pI, gA_pL, gA_pR, gA_pA, gA_pQ, gQ_pI, gQ_pL, gQ_pR, gQ_pA, gQ_pQ, gK_pI, gK_pL, gK_pR, gK_pA, gK_pQ, gN_pI, gN_pL, gN_pR, gN_pA, gN_pQ, gS_pI, gS_pL, gS_pR, gS_pA, gS_pQ, gI_mk, gL_mk, gR_mk, gA_mk, gQ_mk, gK_mk, gN_mk, gS_mk, vn0, vn1, lt0, leN, ltN, eqN, eqM1, M1eq, le0n, eq0n, nI_add, nI_mul, ↓reduceIte, Nat.reduceAdd, Nat.reduceMul, Nat.reduceEqDiff, Nat.reduceLT, Nat.reduceLeDiff, and_true, true_and, and_false, false_and, and_self, reduceCtorEq, not_true_eq_false, not_false_eq_true, hB.o, g1]
  unfold stV stT
  cases hbd : badA tp n 0 with
  | some k =>
    have hk := badA_some _ _ _ hbd
    have hw : wset tp n = some k := by unfold wset; rw [hbd]
    rw [hw]
    refine ⟨h1, ?_, R1, T1, FA⟩
    simp (disch := omega) only [↓uGI, ↓uGL, ↓uGR, ↓uPI, ↓uPL, ↓uPR, ↓uAL, ↓uQL, ↓uAS, ↓uQS, ↓uAN, ↓uCV, ↓oCL, ↓oNO, ↓uNA, ↓oNN, ↓oZ0, ↓oZ1, gI_pI, gI_pL, gI_pR, gI_pA, gI_pQ, gL_pI, gL_pL, gL_pR, gL_pA, gL_pQ, gR_pI, gR_pL, gR_pR, gR_pA, gR_pQ, gA_pI, gA_pL, gA_pR, gA_pA, gA_pQ, gQ_pI, gQ_pL, gQ_pR, gQ_pA, gQ_pQ, gK_pI, gK_pL, gK_pR, gK_pA, gK_pQ, gN_pI, gN_pL, gN_pR, gN_pA, gN_pQ, gS_pI, gS_pL, gS_pR, gS_pA, gS_pQ, gI_mk, gL_mk, gR_mk, gA_mk, gQ_mk, gK_mk, gN_mk, gS_mk, vn0, vn1, lt0, leN, ltN, eqN, eqM1, M1eq, le0n, eq0n, nI_add, nI_mul, ↓reduceIte, Nat.reduceAdd, Nat.reduceMul, Nat.reduceEqDiff, Nat.reduceLT, Nat.reduceLeDiff, and_true, true_and, and_false, false_and, and_self, reduceCtorEq, not_true_eq_false, not_false_eq_true, oI, fX9_wrong, fX9_wrong_0]
  | none =>
    have hok : ∀ k, k < n → okb (tbv (tp k)) = true := fun k hk => badA_none _ _ hbd k (by omega) (by omega)
    have h2 : ∀ q, q < n → gA h1 (ra 2) q = nI (tbv (tp q)) := fun q hq => by
      rw [X1.2.2 q hq, ← sx_lo _ (okb_lt (hok q hq))]
      exact sx_tbv (hb q hq)
    have hlo : ∀ q, q < n → tbv (tp q) < 128 := fun q hq => okb_lt (hok q hq)
    have scan : ∀ (j f p : Nat), p + j = n → j < f → fX9_set_16 f (some m) v (nI p) h1 = fX9_set_41 (some m) v (nI (eqA (fun k => tbv (tp k)) j p)) h1 := by
      intro j
      induction j with
      | zero =>
        intro f p hp hf
        obtain ⟨f, rfl⟩ : ∃ g, f = g + 1 := ⟨f - 1, by omega⟩
        rw [fX9_set_16]
        simp (disch := omega) only [↓uGI, ↓uGL, ↓uGR, ↓uPI, ↓uPL, ↓uPR, ↓uAL, ↓uQL, ↓uAS, ↓uQS, ↓uAN, ↓uCV, ↓oCL, ↓oNO, ↓uNA, ↓oNN, ↓oZ0, ↓oZ1, gI_pI, gI_pL, gI_pR, gI_pA, gI_pQ, gL_pI, gL_pL, gL_pR, gL_pA, gL_pQ, gR_pI, gR_pL, gR_pR, gR_pA, gR_pQ, gA_pI, gA_pL, gA_pR, gA_pA, gA_pQ, gQ_pI, gQ_pL, gQ_pR, gQ_pA, gQ_pQ, gK_pI, gK_pL, gK_pR, gK_pA, gK_pQ, gN_pI, gN_pL, gN_pR, gN_pA, gN_pQ, gS_pI, gS_pL, gS_pR, gS_pA, gS_pQ, gI_mk, gL_mk, gR_mk, gA_mk, gQ_mk, gK_mk, gN_mk, gS_mk, vn0, vn1, lt0, leN, ltN, eqN, eqM1, M1eq, le0n, eq0n, nI_add, nI_mul, ↓reduceIte, Nat.reduceAdd, Nat.reduceMul, Nat.reduceEqDiff, Nat.reduceLT, Nat.reduceLeDiff, and_true, true_and, and_false, false_and, and_self, reduceCtorEq, not_true_eq_false, not_false_eq_true, B1.o, X1.1, show n ≤ p by omega, eqA]
      | succ j ih =>
        intro f p hp hf
        obtain ⟨f, rfl⟩ : ∃ g, f = g + 1 := ⟨f - 1, by omega⟩
        have := hlo p (by omega)
        rw [fX9_set_16]
        simp (disch := omega) only [↓uGI, ↓uGL, ↓uGR, ↓uPI, ↓uPL, ↓uPR, ↓uAL, ↓uQL, ↓uAS, ↓uQS, ↓uAN, ↓uCV, ↓oCL, ↓oNO, ↓uNA, ↓oNN, ↓oZ0, ↓oZ1, gI_pI, gI_pL, gI_pR, gI_pA, gI_pQ, gL_pI, gL_pL, gL_pR, gL_pA, gL_pQ, gR_pI, gR_pL, gR_pR, gR_pA, gR_pQ, gA_pI, gA_pL, gA_pR, gA_pA, gA_pQ, gQ_pI, gQ_pL, gQ_pR, gQ_pA, gQ_pQ, gK_pI, gK_pL, gK_pR, gK_pA, gK_pQ, gN_pI, gN_pL, gN_pR, gN_pA, gN_pQ, gS_pI, gS_pL, gS_pR, gS_pA, gS_pQ, gI_mk, gL_mk, gR_mk, gA_mk, gQ_mk, gK_mk, gN_mk, gS_mk, vn0, vn1, lt0, leN, ltN, eqN, eqM1, M1eq, le0n, eq0n, nI_add, nI_mul, ↓reduceIte, Nat.reduceAdd, Nat.reduceMul, Nat.reduceEqDiff, Nat.reduceLT, Nat.reduceLeDiff, and_true, true_and, and_false, false_and, and_self, reduceCtorEq, not_true_eq_false, not_false_eq_true, B1.o, X1.1, show ¬ n ≤ p by omega, B1.r2, B1.k2, show p < 2000 by omega, h2 p (by omega), eqA, ih f (p + 1) (by omega) (by omega)]
        by_cases c : tbv (tp p) = 61
        · simp only [c, ↓reduceIte]
        · simp only [c, ↓reduceIte]
    have hsc := scan n FU 0 (by omega) (by have := FU_ge; omega)
    obtain ⟨e1, e2, e3, e4⟩ := eqA_spec (tx := fun k => tbv (tp k)) n 0
    have hle := nlen_le (tx := fun k => tbv (tp k)) (n := n) 8 0
    obtain ⟨ns1, ns2⟩ := nlen_spec (tx := fun k => tbv (tp k)) (n := n) 8 0
    simp only [oI, show ((-1 : Int32) < 0) = True by decide, ↓reduceIte, hsc]
    generalize hE : eqA (fun k => tbv (tp k)) n 0 = eq at *
    generalize hN : nlen (fun k => tbv (tp k)) n 8 0 = nl at *
    have hne : nl ≤ eq := by
      rcases Nat.lt_or_ge eq nl with z | z
      · have a1 := ns1 eq (by omega) z
        exact absurd (e4 (by omega)) (ncb_ne a1.2)
      · exact z
    have hnl : nlen (fun k => tbv (tp k)) eq 8 0 = nl := by
      refine nlen_eq 8 0 (by omega) (by omega) (fun p a b => ⟨by omega, (ns1 p a b).2⟩) ?_
      by_cases c1 : nl = 8
      · exact Or.inl (by omega)
      · by_cases c2 : nl < n
        · exact Or.inr (Or.inr (ns2 (by omega) c2))
        · exact Or.inr (Or.inl (by omega))
    have hwn := ref_wrongName B1 X1 (show eq ≤ n by omega) hok hb
    have hwv : wn (fun k => tbv (tp k)) eq = if nl < eq ∨ nl = 0 then some nl else none := by unfold wn; rw [hnl]
    have hws : wset tp n = if 0 < nl ∧ nl < n ∧ tbv (tp nl) = 61 then none else some nl := by unfold wset; rw [hbd, hN]
    rw [hwv] at hwn
    simp only [fX9_set_41]
    simp only [↓uGI, ↓uGL, ↓uGR, ↓uPI, ↓uPL, ↓uPR, ↓uAL, ↓uQL, ↓uAS, ↓uQS, ↓uAN, ↓uCV, ↓oCL, ↓oNO, ↓uNA, ↓oNN, ↓oZ0, ↓oZ1, gI_pI, gI_pL, gI_pR, gI_pA, gI_pQ, gL_pI, gL_pL, gL_pR, gL_pA, gL_pQ, gR_pI, gR_pL, gR_pR, gR_pA, gR_pQ, gA_pI, gA_pL, gA_pR, gA_pA, gA_pQ, gQ_pI, gQ_pL, gQ_pR, gQ_pA, gQ_pQ, gK_pI, gK_pL, gK_pR, gK_pA, gK_pQ, gN_pI, gN_pL, gN_pR, gN_pA, gN_pQ, gS_pI, gS_pL, gS_pR, gS_pA, gS_pQ, gI_mk, gL_mk, gR_mk, gA_mk, gQ_mk, gK_mk, gN_mk, gS_mk, vn0, vn1, lt0, leN, ltN, eqN, eqM1, M1eq, le0n, eq0n, nI_add, nI_mul, ↓reduceIte, Nat.reduceAdd, Nat.reduceMul, Nat.reduceEqDiff, Nat.reduceLT, Nat.reduceLeDiff, and_true, true_and, and_false, false_and, and_self, reduceCtorEq, not_true_eq_false, not_false_eq_true, B1.o, hwn, X1.1]
    by_cases c1 : nl < eq ∨ nl = 0
    · have : ¬ (0 < nl ∧ nl < n ∧ tbv (tp nl) = 61) := by
        rintro ⟨a1, a2, a3⟩
        exact e3 nl (by omega) (by omega) a3
      rw [hws, if_neg this]
      refine ⟨h1, ?_, R1, T1, FA⟩
      simp (disch := omega) only [↓uGI, ↓uGL, ↓uGR, ↓uPI, ↓uPL, ↓uPR, ↓uAL, ↓uQL, ↓uAS, ↓uQS, ↓uAN, ↓uCV, ↓oCL, ↓oNO, ↓uNA, ↓oNN, ↓oZ0, ↓oZ1, gI_pI, gI_pL, gI_pR, gI_pA, gI_pQ, gL_pI, gL_pL, gL_pR, gL_pA, gL_pQ, gR_pI, gR_pL, gR_pR, gR_pA, gR_pQ, gA_pI, gA_pL, gA_pR, gA_pA, gA_pQ, gQ_pI, gQ_pL, gQ_pR, gQ_pA, gQ_pQ, gK_pI, gK_pL, gK_pR, gK_pA, gK_pQ, gN_pI, gN_pL, gN_pR, gN_pA, gN_pQ, gS_pI, gS_pL, gS_pR, gS_pA, gS_pQ, gI_mk, gL_mk, gR_mk, gA_mk, gQ_mk, gK_mk, gN_mk, gS_mk, vn0, vn1, lt0, leN, ltN, eqN, eqM1, M1eq, le0n, eq0n, nI_add, nI_mul, ↓reduceIte, Nat.reduceAdd, Nat.reduceMul, Nat.reduceEqDiff, Nat.reduceLT, Nat.reduceLeDiff, and_true, true_and, and_false, false_and, and_self, reduceCtorEq, not_true_eq_false, not_false_eq_true, c1, oI, le0', fX9_set_59, fX9_set_71, fX9_wrong, fX9_wrong_0]
    · have hnle : nl = eq := by omega
      by_cases c2 : eq = n
      · have : ¬ (0 < nl ∧ nl < n ∧ tbv (tp nl) = 61) := by omega
        rw [hws, if_neg this]
        refine ⟨h1, ?_, R1, T1, FA⟩
        simp only [c1, ↓reduceIte, oI, show ((0 : Int32) ≤ -1) = False by decide]
        simp (disch := omega) only [↓uGI, ↓uGL, ↓uGR, ↓uPI, ↓uPL, ↓uPR, ↓uAL, ↓uQL, ↓uAS, ↓uQS, ↓uAN, ↓uCV, ↓oCL, ↓oNO, ↓uNA, ↓oNN, ↓oZ0, ↓oZ1, gI_pI, gI_pL, gI_pR, gI_pA, gI_pQ, gL_pI, gL_pL, gL_pR, gL_pA, gL_pQ, gR_pI, gR_pL, gR_pR, gR_pA, gR_pQ, gA_pI, gA_pL, gA_pR, gA_pA, gA_pQ, gQ_pI, gQ_pL, gQ_pR, gQ_pA, gQ_pQ, gK_pI, gK_pL, gK_pR, gK_pA, gK_pQ, gN_pI, gN_pL, gN_pR, gN_pA, gN_pQ, gS_pI, gS_pL, gS_pR, gS_pA, gS_pQ, gI_mk, gL_mk, gR_mk, gA_mk, gQ_mk, gK_mk, gN_mk, gS_mk, vn0, vn1, lt0, leN, ltN, eqN, eqM1, M1eq, le0n, eq0n, nI_add, nI_mul, ↓reduceIte, Nat.reduceAdd, Nat.reduceMul, Nat.reduceEqDiff, Nat.reduceLT, Nat.reduceLeDiff, and_true, true_and, and_false, false_and, and_self, reduceCtorEq, not_true_eq_false, not_false_eq_true, c2, show ((-1 : Int32) < 0) = True by decide, B1.o, X1.1, fX9_set_59, fX9_set_71, fX9_wrong, fX9_wrong_0, hnle]
      · have : 0 < nl ∧ nl < n ∧ tbv (tp nl) = 61 := ⟨by omega, by omega, by rw [hnle]; exact e4 (by omega)⟩
        have hws2 : wset tp n = none := by rw [hws, if_pos this]
        rw [hws2]
        simp only [c1, ↓reduceIte, oI, show ((0 : Int32) ≤ -1) = False by decide]
        simp (disch := omega) only [↓uGI, ↓uGL, ↓uGR, ↓uPI, ↓uPL, ↓uPR, ↓uAL, ↓uQL, ↓uAS, ↓uQS, ↓uAN, ↓uCV, ↓oCL, ↓oNO, ↓uNA, ↓oNN, ↓oZ0, ↓oZ1, gI_pI, gI_pL, gI_pR, gI_pA, gI_pQ, gL_pI, gL_pL, gL_pR, gL_pA, gL_pQ, gR_pI, gR_pL, gR_pR, gR_pA, gR_pQ, gA_pI, gA_pL, gA_pR, gA_pA, gA_pQ, gQ_pI, gQ_pL, gQ_pR, gQ_pA, gQ_pQ, gK_pI, gK_pL, gK_pR, gK_pA, gK_pQ, gN_pI, gN_pL, gN_pR, gN_pA, gN_pQ, gS_pI, gS_pL, gS_pR, gS_pA, gS_pQ, gI_mk, gL_mk, gR_mk, gA_mk, gQ_mk, gK_mk, gN_mk, gS_mk, vn0, vn1, lt0, leN, ltN, eqN, eqM1, M1eq, le0n, eq0n, nI_add, nI_mul, ↓reduceIte, Nat.reduceAdd, Nat.reduceMul, Nat.reduceEqDiff, Nat.reduceLT, Nat.reduceLeDiff, and_true, true_and, and_false, false_and, and_self, reduceCtorEq, not_true_eq_false, not_false_eq_true, c2, B1.o, ref_isElement B1 R1 hS, bI0, stR]
        cases he : eAt T v with
        | none =>
          refine ⟨h1, ?_, R1, T1, FA⟩
          simp only [Option.isSome_none, ↓reduceIte]
        | some i =>
          obtain ⟨hi, hu, ht17, rfl⟩ := eAt_some he
          have hAS := (hS.2 i hu).at
          have hAt := (R1.2 i hi).at hu
          have hv : vch (sl (fun k => tbv (tp k)) 0 nl) := sl_v (fun k hk => hok k (by omega))
          have hlen : (sl (fun k => tbv (tp k)) 0 nl).length ≤ 8 := by rw [sl_len]; omega
          have hnm := ref_attNamed B1 hi hAt hAS hv hlen (fun k hk => by
            rw [sl_len] at hk
            rw [sl_get _ hk, h2 k (by omega), Nat.zero_add])
          rw [sl_len] at hnm
          have hA4 := hAS.1
          have h16 := hAt.1
          have hv' : bch (vcat [] (sl (fun k => tbv (tp k)) (eq + 1) (n - (eq + 1)))) := vcat_b (fun c hc => by cases hc) (sl_b (fun k a b => hok k (by omega)))
          have hv60 := vcat_len [] (sl (fun k => tbv (tp k)) (eq + 1) (n - (eq + 1)))
          rw [hN, hnle]
          rw [hnle] at hnm hv hlen
          have hsl := sl_take (fun k => tbv (tp k)) (eq + 1) (n - (eq + 1))
          have hslL : (sl (fun k => tbv (tp k)) (eq + 1) (min (n - (eq + 1)) 60)).length = min (n - (eq + 1)) 60 := sl_len _ _ _
          have hm : min (n - (eq + 1)) 60 ≤ 60 := Nat.min_le_right _ _
          simp (disch := omega) only [Option.isSome_some, Bool.true_eq_false, ↓reduceIte, ↓uGI, ↓uGL, ↓uGR, ↓uPI, ↓uPL, ↓uPR, ↓uAL, ↓uQL, ↓uAS, ↓uQS, ↓uAN, ↓uCV, ↓oCL, ↓oNO, ↓uNA, ↓oNN, ↓oZ0, ↓oZ1, gI_pI, gI_pL, gI_pR, gI_pA, gI_pQ, gL_pI, gL_pL, gL_pR, gL_pA, gL_pQ, gR_pI, gR_pL, gR_pR, gR_pA, gR_pQ, gA_pI, gA_pL, gA_pR, gA_pA, gA_pQ, gQ_pI, gQ_pL, gQ_pR, gQ_pA, gQ_pQ, gK_pI, gK_pL, gK_pR, gK_pA, gK_pQ, gN_pI, gN_pL, gN_pR, gN_pA, gN_pQ, gS_pI, gS_pL, gS_pR, gS_pA, gS_pQ, gI_mk, gL_mk, gR_mk, gA_mk, gQ_mk, gK_mk, gN_mk, gS_mk, vn0, vn1, lt0, leN, ltN, eqN, eqM1, M1eq, le0n, eq0n, nI_add, nI_mul, ↓reduceIte, Nat.reduceAdd, Nat.reduceMul, Nat.reduceEqDiff, Nat.reduceLT, Nat.reduceLeDiff, and_true, true_and, and_false, false_and, and_self, reduceCtorEq, not_true_eq_false, not_false_eq_true, B1.o, hnm]
          unfold setL
          cases hf : fnd (sl (fun k => tbv (tp k)) 0 eq) (tAtt T i) 0 with
          | some j =>
            have hj := (fnd_lt _ _ _ hf).2
            rw [Nat.zero_add] at hj
            have h182 := ref_set182 (i := i) (a := 4 * i + j) (A := (tAtt T i).length) B1 (by omega) hi (show eq < n by omega) hn hlo X1.1 h2 h16
            have F3 : Fr (fun _ _ => False) (fun a => ∃ k, (6 ≤ k ∧ k ≤ 23) ∧ a = ra k) h1 (wrA (pA h1 (ra 20) (4 * i + j) (nI (min (n - (eq + 1)) 60))) (ra 19) (60 * (4 * i + j)) (sl (fun k => tbv (tp k)) (eq + 1) (min (n - (eq + 1)) 60))) := (Fr.pA Fr.rf ⟨20, by omega, rfl⟩).tr ((wr_fr _ _ _ _ _).mo (fun _ _ z => z) (fun a z => ⟨19, by omega, z⟩))
            refine ⟨_, ?_, ?_, T1.fr F3 (fun z => z) (fun z => by obtain ⟨k, hk, e⟩ := z; rw [B1.i] at e; omega), FA.tr (F3.mo (fun _ _ z => z.elim) (fun a z => by obtain ⟨k, hk, e⟩ := z; exact ⟨k, Or.inr hk, e⟩))⟩
            · simp (disch := omega) only [Option.map_some, oI, eqM1, ↓reduceIte, fX9_set_111, h182, setV_len]
            · simp only [Option.map_some, hsl]
              refine R1.att hS hi hu (by rw [wr_I]; rfl) (fun k p a b c => ?_) (fun k p a b c => ?_) ?_
              · rw [wr_o _ _ _ _ _ _ (fun z => by have := z.1; rw [B1.i] at this; omega), gA_pA, if_neg (fun z => by have := z.1; rw [B1.i] at this; omega)]
              · rw [wr_o _ _ _ _ _ _ (fun z => by
                  obtain ⟨z1, z2, z3⟩ := z
                  rw [B1.i] at z1
                  subst z1
                  rw [hslL] at z3
                  exact c (show p / 240 = i by omega)), gA_pA, if_neg (fun z => by
                  obtain ⟨z1, z2⟩ := z
                  rw [B1.i] at z1
                  subst z1 z2
                  exact c (show (4 * i + j) / 4 = i by omega))]
              · refine ⟨?_, fun a ha => ?_⟩
                · rw [setV_len, wr_o _ _ _ _ _ _ (fun z => by have := z.1; rw [B1.i] at this; omega), gA_pA, if_neg (fun z => by have := z.1; rw [B1.i] at this; omega)]
                  exact h16
                · rw [setV_len] at ha
                  rw [setV_get _ hj]
                  obtain ⟨a1, a2, a3, a4⟩ := hAt.2 a ha
                  have o18 : gA (wrA (pA h1 (ra 20) (4 * i + j) (nI (min (n - (eq + 1)) 60))) (ra 19) (60 * (4 * i + j)) (sl (fun k => tbv (tp k)) (eq + 1) (min (n - (eq + 1)) 60))) (ra 18) (4 * i + a) = gA h1 (ra 18) (4 * i + a) := by
                    rw [wr_o _ _ _ _ _ _ (fun z => by have := z.1; rw [B1.i] at this; omega), gA_pA, if_neg (fun z => by have := z.1; rw [B1.i] at this; omega)]
                  have o17 : ∀ k, gA (wrA (pA h1 (ra 20) (4 * i + j) (nI (min (n - (eq + 1)) 60))) (ra 19) (60 * (4 * i + j)) (sl (fun k => tbv (tp k)) (eq + 1) (min (n - (eq + 1)) 60))) (ra 17) k = gA h1 (ra 17) k := fun k => by
                    rw [wr_o _ _ _ _ _ _ (fun z => by have := z.1; rw [B1.i] at this; omega), gA_pA, if_neg (fun z => by have := z.1; rw [B1.i] at this; omega)]
                  simp only [o18, o17]
                  by_cases e : a = j
                  · subst e
                    simp only [↓reduceIte]
                    refine ⟨a1, a2, ?_, fun k hk => wr_i _ _ _ _ _ hk⟩
                    rw [wr_o _ _ _ _ _ _ (fun z => by have := z.1; rw [B1.i] at this; omega), gA_pA, if_pos ⟨rfl, rfl⟩, hslL]
                  · simp only [e, ↓reduceIte]
                    have hz3 := (hAS.get ha).2.2.1
                    refine ⟨a1, a2, ?_, fun k hk => ?_⟩
                    · rw [wr_o _ _ _ _ _ _ (fun z => by have := z.1; rw [B1.i] at this; omega), gA_pA, if_neg (fun z => by omega)]
                      exact a3
                    · rw [wr_o _ _ _ _ _ _ (fun z => by rw [hslL] at z; omega), gA_pA, if_neg (fun z => by have := z.1; rw [B1.i] at this; omega)]
                      exact a4 k hk
          | none =>
            by_cases hl : (tAtt T i).length < 4
            · generalize hAl : (tAtt T i).length = A at *
              have B2 : RB (pA (pA h1 (ra 16) i (nI (A + 1))) (ra 18) (4 * i + A) (nI eq)) m ra := B1
              have rd : ∀ k j, k = 2 → gA (pA (pA h1 (ra 16) i (nI (A + 1))) (ra 18) (4 * i + A) (nI eq)) (ra k) j = gA h1 (ra k) j := fun k j hk => by
                simp only [gA_pA, B1.i, hk, Nat.reduceEqDiff, false_and, ↓reduceIte]
              have g150 := ref_set150 (m := m) (ra := ra) (i := i) (a := 4 * i + A) (eq := eq) (n := n) (tx := fun k => tbv (tp k)) (by omega) (by omega) (by omega) hn hlo eq FU 0 _ (by omega) (by have := FU_ge; omega) B2 (fun q hq => by rw [rd 2 q rfl]; exact h2 q hq)
              have B3 : RB (wrA (pA (pA h1 (ra 16) i (nI (A + 1))) (ra 18) (4 * i + A) (nI eq)) (ra 17) (8 * (4 * i + A)) (sl (fun k => tbv (tp k)) 0 eq)) m ra := B2.eq (wr_R _ _ _ _) (wr_K _ _ _ _)
              have h182 := ref_set182 (i := i) (a := 4 * i + A) (A := A + 1) (eq := eq) (n := n) (tx := fun k => tbv (tp k)) B3 (by omega) hi (show eq < n by omega) hn hlo (by rw [wr_I]; exact X1.1) (fun q hq => by
                simp only [wr_rd, gA_pA, B1.i, Nat.reduceEqDiff, false_and, ↓reduceIte]
                exact h2 q hq) (by
                simp only [wr_rd, gA_pA, B1.i, Nat.reduceEqDiff, false_and, and_self, ↓reduceIte])
              have F3 : Fr (fun _ _ => False) (fun a => ∃ k, (6 ≤ k ∧ k ≤ 23) ∧ a = ra k) h1 (wrA (pA (wrA (pA (pA h1 (ra 16) i (nI (A + 1))) (ra 18) (4 * i + A) (nI eq)) (ra 17) (8 * (4 * i + A)) (sl (fun k => tbv (tp k)) 0 eq)) (ra 20) (4 * i + A) (nI (min (n - (eq + 1)) 60))) (ra 19) (60 * (4 * i + A)) (sl (fun k => tbv (tp k)) (eq + 1) (min (n - (eq + 1)) 60))) :=
                (Fr.pA ((Fr.pA (Fr.pA Fr.rf ⟨16, by omega, rfl⟩) ⟨18, by omega, rfl⟩).tr ((wr_fr _ _ _ _ _).mo (fun _ _ z => z) (fun a z => ⟨17, by omega, z⟩))) ⟨20, by omega, rfl⟩).tr ((wr_fr _ _ _ _ _).mo (fun _ _ z => z) (fun a z => ⟨19, by omega, z⟩))
              rw [if_pos hl]
              refine ⟨_, ?_, ?_, T1.fr F3 (fun z => z) (fun z => by obtain ⟨k, hk, e⟩ := z; rw [B1.i] at e; omega), FA.tr (F3.mo (fun _ _ z => z.elim) (fun a z => by obtain ⟨k, hk, e⟩ := z; exact ⟨k, Or.inr hk, e⟩))⟩
              · simp (disch := omega) only [Option.map_none, Option.map_some, oI, ↓reduceIte, ↓uGI, ↓uGL, ↓uGR, ↓uPI, ↓uPL, ↓uPR, ↓uAL, ↓uQL, ↓uAS, ↓uQS, ↓uAN, ↓uCV, ↓oCL, ↓oNO, ↓uNA, ↓oNN, ↓oZ0, ↓oZ1, gI_pI, gI_pL, gI_pR, gI_pA, gI_pQ, gL_pI, gL_pL, gL_pR, gL_pA, gL_pQ, gR_pI, gR_pL, gR_pR, gR_pA, gR_pQ, gA_pI, gA_pL, gA_pR, gA_pA, gA_pQ, gQ_pI, gQ_pL, gQ_pR, gQ_pA, gQ_pQ, gK_pI, gK_pL, gK_pR, gK_pA, gK_pQ, gN_pI, gN_pL, gN_pR, gN_pA, gN_pQ, gS_pI, gS_pL, gS_pR, gS_pA, gS_pQ, gI_mk, gL_mk, gR_mk, gA_mk, gQ_mk, gK_mk, gN_mk, gS_mk, vn0, vn1, lt0, leN, ltN, eqN, eqM1, M1eq, le0n, eq0n, nI_add, nI_mul, ↓reduceIte, Nat.reduceAdd, Nat.reduceMul, Nat.reduceEqDiff, Nat.reduceLT, Nat.reduceLeDiff, and_true, true_and, and_false, false_and, and_self, reduceCtorEq, not_true_eq_false, not_false_eq_true, B1.o, B1.r16, B1.k16, hi, h16, show ¬ A = 4 by omega, fX9_set_111, B1.r18, B1.k18, show 4 * i + A < 480 by omega, List.length_append, List.length_cons, List.length_nil, hAl]
                rw [g150]
                simp only [Nat.add_zero]
                rw [h182]
              · simp only [Option.map_some, hsl]
                refine R1.att hS hi hu (by rw [wr_I]; show gI (wrA _ _ _ _) 475 m = _; rw [wr_I]; rfl) (fun k p a b c => ?_) (fun k p a b c => ?_) ?_
                · have n16 : ¬ k = 16 := by omega
                  have n17 : ¬ k = 17 := by omega
                  have n18 : ¬ k = 18 := by omega
                  have n19 : ¬ k = 19 := by omega
                  have n20 : ¬ k = 20 := by omega
                  simp only [wr_rd, gA_pA, B1.i, n16, n17, n18, n19, n20, false_and, ↓reduceIte]
                · have hk5 : k = 16 ∨ k = 17 ∨ k = 18 ∨ k = 19 ∨ k = 20 := by omega
                  rcases hk5 with rfl | rfl | rfl | rfl | rfl
                  · have c' : ¬ p = i := c
                    simp only [wr_rd, gA_pA, B1.i, Nat.reduceEqDiff, false_and, true_and, c', ↓reduceIte]
                  · have c' : ¬ p / 32 = i := c
                    simp only [wr_rd, gA_pA, B1.i, Nat.reduceEqDiff, false_and, true_and, sl_len, ↓reduceIte]
                    rw [if_neg (by omega)]
                  · have c' : ¬ p / 4 = i := c
                    simp only [wr_rd, gA_pA, B1.i, Nat.reduceEqDiff, false_and, true_and, ↓reduceIte]
                    rw [if_neg (by omega)]
                  · have c' : ¬ p / 240 = i := c
                    simp only [wr_rd, gA_pA, B1.i, Nat.reduceEqDiff, false_and, true_and, hslL, ↓reduceIte]
                    rw [if_neg (by omega)]
                  · have c' : ¬ p / 4 = i := c
                    simp only [wr_rd, gA_pA, B1.i, Nat.reduceEqDiff, false_and, true_and, ↓reduceIte]
                    rw [if_neg (by omega)]
                · refine ⟨?_, fun a ha => ?_⟩
                  · simp only [wr_rd, gA_pA, B1.i, Nat.reduceEqDiff, false_and, true_and, ↓reduceIte, List.length_append, List.length_cons, List.length_nil, hAl, Nat.zero_add]
                  · simp only [List.length_append, List.length_cons, List.length_nil, hAl] at ha
                    rw [getD_snoc, hAl]
                    simp only [wr_rd, gA_pA, B1.i, Nat.reduceEqDiff, false_and, true_and, ↓reduceIte, hslL, sl_len]
                    by_cases e : a = A
                    · subst e
                      simp only [↓reduceIte]
                      refine ⟨by rw [sl_len], fun k hk => ?_, by rw [hslL], fun k hk => ?_⟩
                      · rw [sl_len] at hk
                        rw [if_pos (by omega), show 8 * (4 * i + a) + k - 8 * (4 * i + a) = k by omega]
                      · rw [hslL] at hk
                        rw [if_pos (by omega), show 60 * (4 * i + a) + k - 60 * (4 * i + a) = k by omega]
                    · simp only [e, ↓reduceIte]
                      obtain ⟨a1, a2, a3, a4⟩ := hAt.2 a (by omega)
                      obtain ⟨z1, z2, z3, -⟩ := hAS.get (show a < (tAtt T i).length by omega)
                      have hne' : ¬ 4 * i + a = 4 * i + A := by omega
                      simp only [hne', ↓reduceIte]
                      refine ⟨a1, fun k hk => ?_, a3, fun k hk => ?_⟩
                      · rw [if_neg (by omega)]; exact a2 k hk
                      · rw [if_neg (by omega)]; exact a4 k hk
            · have h4 : (tAtt T i).length = 4 := by omega
              rw [if_neg hl]
              refine ⟨h1, ?_, R1, T1, FA⟩
              simp (disch := omega) only [Option.map_none, oI, ↓reduceIte, ↓uGI, ↓uGL, ↓uGR, ↓uPI, ↓uPL, ↓uPR, ↓uAL, ↓uQL, ↓uAS, ↓uQS, ↓uAN, ↓uCV, ↓oCL, ↓oNO, ↓uNA, ↓oNN, ↓oZ0, ↓oZ1, gI_pI, gI_pL, gI_pR, gI_pA, gI_pQ, gL_pI, gL_pL, gL_pR, gL_pA, gL_pQ, gR_pI, gR_pL, gR_pR, gR_pA, gR_pQ, gA_pI, gA_pL, gA_pR, gA_pA, gA_pQ, gQ_pI, gQ_pL, gQ_pR, gQ_pA, gQ_pQ, gK_pI, gK_pL, gK_pR, gK_pA, gK_pQ, gN_pI, gN_pL, gN_pR, gN_pA, gN_pQ, gS_pI, gS_pL, gS_pR, gS_pA, gS_pQ, gI_mk, gL_mk, gR_mk, gA_mk, gQ_mk, gK_mk, gN_mk, gS_mk, vn0, vn1, lt0, leN, ltN, eqN, eqM1, M1eq, le0n, eq0n, nI_add, nI_mul, ↓reduceIte, Nat.reduceAdd, Nat.reduceMul, Nat.reduceEqDiff, Nat.reduceLT, Nat.reduceLeDiff, and_true, true_and, and_false, false_and, and_self, reduceCtorEq, not_true_eq_false, not_false_eq_true, B1.o, B1.r16, B1.k16, hi, h16, h4]

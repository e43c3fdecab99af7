/-! TEXTS: which bytes are right, NAMES -/
def tbv (x : Int32) : Nat := (x &&& nI 255).toNatClampNeg
theorem tbv_lt (x : Int32) : tbv x < 256 := by
  obtain ⟨j, hj, e⟩ := pk_andE x (m := nI 255) 8 (by decide)
  unfold tbv
  rw [e, nI_clamp (by omega)]
  exact hj
theorem tbv_eq (x : Int32) : x &&& nI 255 = nI (tbv x) := by
  obtain ⟨j, hj, e⟩ := pk_andE x (m := nI 255) 8 (by decide)
  unfold tbv
  rw [e, nI_clamp (by omega)]
def sx (b : Nat) : Int32 := (nI b).toInt8.toInt32
theorem sx_lo : ∀ b, b < 128 → sx b = nI b := by decide +kernel
theorem sx_tbv {x : Int32} (h : isB x) : x = sx (tbv x) := (sc_eq h (tbv_lt x)).mpr (tbv_eq x)
/-- a byte that texts may have -/
def okb (b : Nat) : Bool := b == 10 || (32 ≤ b && b ≤ 126)
theorem okb_lt {b : Nat} (h : okb b = true) : b < 128 := by simp [okb] at h; omega
theorem sx_br : ∀ b, b < 256 → (sx b = nI 10 ↔ b = 10) ∧ (sx b < nI 32 ↔ (b < 32 ∨ 128 ≤ b)) ∧ (sx b ≤ nI 126 ↔ (b ≤ 126 ∨ 128 ≤ b)) := by decide +kernel
def oI (r : Option Nat) : Int32 := match r with
  | none => -1
  | some k => nI k
/-- the first wrong byte among the j from place i on -/
def badA (tp : Nat → Int32) : Nat → Nat → Option Nat
  | 0, _ => none
  | j + 1, i => if okb (tbv (tp i)) then badA tp j (i + 1) else some i
theorem badA_none {tp : Nat → Int32} : ∀ (j i : Nat), badA tp j i = none → ∀ k, i ≤ k → k < i + j → okb (tbv (tp k)) = true := by
  intro j
  induction j with
  | zero => intro i _ k h1 h2; omega
  | succ j ih =>
    intro i h k h1 h2
    unfold badA at h
    by_cases hb : okb (tbv (tp i)) = true
    · rw [if_pos hb] at h
      by_cases e : k = i
      · rw [e]; exact hb
      · exact ih (i + 1) h k (by omega) (by omega)
    · rw [if_neg hb] at h
      cases h
theorem badA_some {tp : Nat → Int32} : ∀ (j i k : Nat), badA tp j i = some k → i ≤ k ∧ k < i + j := by
  intro j
  induction j with
  | zero => intro i k h; cases h
  | succ j ih =>
    intro i k h
    unfold badA at h
    by_cases hb : okb (tbv (tp i)) = true
    · rw [if_pos hb] at h
      have := ih (i + 1) k h
      omega
    · rw [if_neg hb] at h
      cases h
      omega
theorem cls_bad_L {h : AH} {t b n : Nat} {tp : Nat → Int32} (hT : TapeC h t b n tp) : ∀ (j f i : Nat), i + j = n → j < f → fX6_badPlace_2 f (some t) (nI i) h = some (oI (badA tp j i), h) := by
  obtain ⟨h1, h2, h3, h4, h5, h6⟩ := id hT
  intro j
  induction j with
  | zero =>
    intro f i hij hjf
    obtain ⟨f, rfl⟩ : ∃ g, f = g + 1 := ⟨f - 1, by omega⟩
    rw [fX6_badPlace_2]
    simp (disch := omega) only [↓uGI, ↓uGL, ↓uGR, ↓uPI, ↓uPL, ↓uPR, ↓uAL, ↓uQL, ↓uAS, ↓uQS, ↓uAN, ↓uCV, ↓oCL, ↓oNO, ↓uNA, ↓oNN, ↓oZ0, ↓oZ1, gI_pI, gI_pL, gI_pR, gI_pA, gI_pQ, gL_pI, gL_pL, gL_pR, gL_pA, gL_pQ, gR_pI, gR_pL, gR_pR, gR_pA, gR_pQ, gA_pI, gA_pL, gA_pR, gA_pA, gA_pQ, gQ_pI, gQ_pL, gQ_pR, gQ_pA, gQ_pQ, gK_pI, gK_pL, gK_pR, gK_pA, gK_pQ, gN_pI, gN_pL, gN_pR, gN_pA, gN_pQ, gS_pI, gS_pL, gS_pR, gS_pA, gS_pQ, gI_mk, gL_mk, gR_mk, gA_mk, gQ_mk, gK_mk, gN_mk, gS_mk, vn0, vn1, lt0, leN, ltN, eqN, eqM1, M1eq, le0n, eq0n, nI_add, nI_mul, ↓reduceIte, Nat.reduceAdd, Nat.reduceMul, Nat.reduceEqDiff, Nat.reduceLT, Nat.reduceLeDiff, and_true, true_and, and_false, false_and, and_self, reduceCtorEq, not_true_eq_false, not_false_eq_true, h1, h4, show n ≤ i by omega, fX6_badPlace_42, badA, oI]
  | succ j ih =>
    intro f i hij hjf
    obtain ⟨f, rfl⟩ : ∃ g, f = g + 1 := ⟨f - 1, by omega⟩
    have hb : bt tp n i = nI (tbv (tp i)) := by unfold bt; rw [if_pos (by omega), tbv_eq]
    have hl := tbv_lt (tp i)
    have ihh := ih f (i + 1) (by omega) (by omega)
    rw [fX6_badPlace_2]
    simp (disch := omega) only [↓uGI, ↓uGL, ↓uGR, ↓uPI, ↓uPL, ↓uPR, ↓uAL, ↓uQL, ↓uAS, ↓uQS, ↓uAN, ↓uCV, ↓oCL, ↓oNO, ↓uNA, ↓oNN, ↓oZ0, ↓oZ1, gI_pI, gI_pL, gI_pR, gI_pA, gI_pQ, gL_pI, gL_pL, gL_pR, gL_pA, gL_pQ, gR_pI, gR_pL, gR_pR, gR_pA, gR_pQ, gA_pI, gA_pL, gA_pR, gA_pA, gA_pQ, gQ_pI, gQ_pL, gQ_pR, gQ_pA, gQ_pQ, gK_pI, gK_pL, gK_pR, gK_pA, gK_pQ, gN_pI, gN_pL, gN_pR, gN_pA, gN_pQ, gS_pI, gS_pL, gS_pR, gS_pA, gS_pQ, gI_mk, gL_mk, gR_mk, gA_mk, gQ_mk, gK_mk, gN_mk, gS_mk, vn0, vn1, lt0, leN, ltN, eqN, eqM1, M1eq, le0n, eq0n, nI_add, nI_mul, ↓reduceIte, Nat.reduceAdd, Nat.reduceMul, Nat.reduceEqDiff, Nat.reduceLT, Nat.reduceLeDiff, and_true, true_and, and_false, false_and, and_self, reduceCtorEq, not_true_eq_false, not_false_eq_true, h1, h4, show ¬ n ≤ i by omega, tape_byteAt hT, hb, fX6_badPlace_36, fX6_badPlace_34, ihh, badA, okb]
    generalize tbv (tp i) = c at hl
    by_cases c1 : c = 10
    · simp [c1]
    · by_cases c2 : c < 32
      · simp [c1, c2, oI, show ¬ 32 ≤ c by omega]
      · by_cases c3 : c ≤ 126
        · simp [c1, c2, c3, show 32 ≤ c by omega]
        · simp [c1, c2, c3, oI, show 32 ≤ c by omega]
theorem cls_bad {h : AH} {t b n : Nat} {tp : Nat → Int32} (hT : TapeC h t b n tp) : fX6_badPlace (some t) h = some (oI (badA tp n 0), h) :=
  cls_bad_L hT n FU 0 (by omega) (by have := FU_ge; have := hT.2.2.2.2.1; omega)
/-- reference: the text that was taken -/
def TxR (h : AH) (m : Nat) (ra : Nat → Nat) (n : Nat) (tp : Nat → Int32) : Prop := gI h 453 m = nI n ∧ n ≤ 2000 ∧ ∀ i, i < n → gA h (ra 2) i = tp i
theorem ref_take_L2 {h : AH} {m n : Nat} {ra : Nat → Nat} {tp : Nat → Int32} (hB : RB h m ra) (hT : TxR h m ra n tp) (hb : ∀ i, i < n → isB (tp i)) : ∀ (j f i : Nat), i + j = n → j < f → fX9_take_43 f (some m) (nI i) h = some (oI (badA tp j i), h) := by
  obtain ⟨h4, h5, h6⟩ := id hT
  intro j
  induction j with
  | zero =>
    intro f i hij hjf
    obtain ⟨f, rfl⟩ : ∃ g, f = g + 1 := ⟨f - 1, by omega⟩
    rw [fX9_take_43]
    simp (disch := omega) only [↓uGI, ↓uGL, ↓uGR, ↓uPI, ↓uPL, ↓uPR, ↓uAL, ↓uQL, ↓uAS, ↓uQS, ↓uAN, ↓uCV, ↓oCL, ↓oNO, ↓uNA, ↓oNN, ↓oZ0, ↓oZ1, gI_pI, gI_pL, gI_pR, gI_pA, gI_pQ, gL_pI, gL_pL, gL_pR, gL_pA, gL_pQ, gR_pI, gR_pL, gR_pR, gR_pA, gR_pQ, gA_pI, gA_pL, gA_pR, gA_pA, gA_pQ, gQ_pI, gQ_pL, gQ_pR, gQ_pA, gQ_pQ, gK_pI, gK_pL, gK_pR, gK_pA, gK_pQ, gN_pI, gN_pL, gN_pR, gN_pA, gN_pQ, gS_pI, gS_pL, gS_pR, gS_pA, gS_pQ, gI_mk, gL_mk, gR_mk, gA_mk, gQ_mk, gK_mk, gN_mk, gS_mk, vn0, vn1, lt0, leN, ltN, eqN, eqM1, M1eq, le0n, eq0n, nI_add, nI_mul, ↓reduceIte, Nat.reduceAdd, Nat.reduceMul, Nat.reduceEqDiff, Nat.reduceLT, Nat.reduceLeDiff, and_true, true_and, and_false, false_and, and_self, reduceCtorEq, not_true_eq_false, not_false_eq_true, hB.o, h4, show n ≤ i by omega, fX9_take_84, badA, oI]
  | succ j ih =>
    intro f i hij hjf
    obtain ⟨f, rfl⟩ : ∃ g, f = g + 1 := ⟨f - 1, by omega⟩
    have hl := tbv_lt (tp i)
    have hs := sx_tbv (hb i (by omega))
    have ihh := ih f (i + 1) (by omega) (by omega)
    have hq := sx_br _ hl
    rw [← hs] at hq
    rw [fX9_take_43]
    simp (disch := omega) only [↓uGI, ↓uGL, ↓uGR, ↓uPI, ↓uPL, ↓uPR, ↓uAL, ↓uQL, ↓uAS, ↓uQS, ↓uAN, ↓uCV, ↓oCL, ↓oNO, ↓uNA, ↓oNN, ↓oZ0, ↓oZ1, gI_pI, gI_pL, gI_pR, gI_pA, gI_pQ, gL_pI, gL_pL, gL_pR, gL_pA, gL_pQ, gR_pI, gR_pL, gR_pR, gR_pA, gR_pQ, gA_pI, gA_pL, gA_pR, gA_pA, gA_pQ, gQ_pI, gQ_pL, gQ_pR, gQ_pA, gQ_pQ, gK_pI, gK_pL, gK_pR, gK_pA, gK_pQ, gN_pI, gN_pL, gN_pR, gN_pA, gN_pQ, gS_pI, gS_pL, gS_pR, gS_pA, gS_pQ, gI_mk, gL_mk, gR_mk, gA_mk, gQ_mk, gK_mk, gN_mk, gS_mk, vn0, vn1, lt0, leN, ltN, eqN, eqM1, M1eq, le0n, eq0n, nI_add, nI_mul, ↓reduceIte, Nat.reduceAdd, Nat.reduceMul, Nat.reduceEqDiff, Nat.reduceLT, Nat.reduceLeDiff, and_true, true_and, and_false, false_and, and_self, reduceCtorEq, not_true_eq_false, not_false_eq_true, hB.o, hB.r2, hB.k2, h4, show ¬ n ≤ i by omega, show i < 2000 by omega, h6 i (by omega), fX9_take_78, fX9_take_76, ihh, badA, okb, hq.1, hq.2.1, hq.2.2]
    generalize tbv (tp i) = c at hl
    by_cases c1 : c = 10
    · simp [c1]
    · by_cases c2 : c < 32
      · simp [c1, c2, oI, show ¬ 32 ≤ c by omega]
      · by_cases c3 : c ≤ 126
        · simp [c1, c2, c3, show 32 ≤ c by omega, show ¬ 128 ≤ c by omega]
        · by_cases c4 : 128 ≤ c
          · simp [c1, c2, c3, c4, oI, show 32 ≤ c by omega]
          · simp [c1, c2, c3, c4, oI, show 32 ≤ c by omega]
abbrev FrK (m : Nat) (ra : Nat → Nat) : AH → AH → Prop := Fr (fun f a => (f = 451 ∨ f = 453) ∧ a = m) (fun a => a = ra 2)
theorem ref_take_L1 {m n : Nat} {ra : Nat → Nat} {tp : Nat → Int32} (hb : ∀ i, i < n → isB (tp i)) (hn : n ≤ 2000) : ∀ (j f i : Nat) (h : AH), i + j = n → j < f → RB h m ra → gI h 453 m = nI n → (∀ k, k < n → gA h (ra 0) k = tp k) → (∀ k, k < i → gA h (ra 2) k = tp k) →
    ∃ h1, fX9_take_10 f (some m) (nI i) h = fX9_take_36 (some m) h1 ∧ TxR h1 m ra n tp ∧ Fr (fun _ _ => False) (fun a => a = ra 2) h h1 := by
  intro j
  induction j with
  | zero =>
    intro f i h hij hjf hB h4 h6 h7
    obtain ⟨f, rfl⟩ : ∃ g, f = g + 1 := ⟨f - 1, by omega⟩
    refine ⟨h, ?_, ⟨h4, hn, fun k hk => h7 k (by omega)⟩, Fr.rf⟩
    rw [fX9_take_10]
    simp (disch := omega) only [↓uGI, ↓uGL, ↓uGR, ↓uPI, ↓uPL, ↓uPR, ↓uAL, ↓uQL, ↓uAS, ↓uQS, ↓uAN, ↓uCV, ↓oCL, ↓oNO, ↓uNA, ↓oNN, ↓oZ0, ↓oZ1, gI_pI, gI_pL, gI_pR, gI_pA, gI_pQ, gL_pI, gL_pL, gL_pR, gL_pA, gL_pQ, gR_pI, gR_pL, gR_pR, gR_pA, gR_pQ, gA_pI, gA_pL, gA_pR, gA_pA, gA_pQ, gQ_pI, gQ_pL, gQ_pR, gQ_pA, gQ_pQ, gK_pI, gK_pL, gK_pR, gK_pA, gK_pQ, gN_pI, gN_pL, gN_pR, gN_pA, gN_pQ, gS_pI, gS_pL, gS_pR, gS_pA, gS_pQ, gI_mk, gL_mk, gR_mk, gA_mk, gQ_mk, gK_mk, gN_mk, gS_mk, vn0, vn1, lt0, leN, ltN, eqN, eqM1, M1eq, le0n, eq0n, nI_add, nI_mul, ↓reduceIte, Nat.reduceAdd, Nat.reduceMul, Nat.reduceEqDiff, Nat.reduceLT, Nat.reduceLeDiff, and_true, true_and, and_false, false_and, and_self, reduceCtorEq, not_true_eq_false, not_false_eq_true, hB.o, h4, show n ≤ i by omega]
  | succ j ih =>
    intro f i h hij hjf hB h4 h6 h7
    obtain ⟨f, rfl⟩ : ∃ g, f = g + 1 := ⟨f - 1, by omega⟩
    have hbi := hb i (by omega)
    have h02 : ra 0 ≠ ra 2 := fun q => by rw [hB.i] at q; omega
    obtain ⟨h1, g1, T1, F1⟩ := ih f (i + 1) (pA h (ra 2) i (tp i)) (by omega) (by omega) hB h4 (fun k hk => by rw [gA_pA, if_neg (fun q => h02 q.1)]; exact h6 k hk) (fun k hk => by
      rw [gA_pA]
      by_cases e : k = i
      · rw [if_pos ⟨rfl, e⟩, e]
      · rw [if_neg (fun q => e q.2)]; exact h7 k (by omega))
    refine ⟨h1, ?_, T1, Fr.tr (h1 := pA h (ra 2) i (tp i)) (Fr.pA Fr.rf rfl) F1⟩
    rw [fX9_take_10]
    simp (disch := omega) only [↓uGI, ↓uGL, ↓uGR, ↓uPI, ↓uPL, ↓uPR, ↓uAL, ↓uQL, ↓uAS, ↓uQS, ↓uAN, ↓uCV, ↓oCL, ↓oNO, ↓uNA, ↓oNN, ↓oZ0, ↓oZ1, gI_pI, gI_pL, gI_pR, gI_pA, gI_pQ, gL_pI, gL_pL, gL_pR, gL_pA, gL_pQ, gR_pI, gR_pL, gR_pR, gR_pA, gR_pQ, gA_pI, gA_pL, gA_pR, gA_pA, gA_pQ, gQ_pI, gQ_pL, gQ_pR, gQ_pA, gQ_pQ, gK_pI, gK_pL, gK_pR, gK_pA, gK_pQ, gN_pI, gN_pL, gN_pR, gN_pA, gN_pQ, gS_pI, gS_pL, gS_pR, gS_pA, gS_pQ, gI_mk, gL_mk, gR_mk, gA_mk, gQ_mk, gK_mk, gN_mk, gS_mk, vn0, vn1, lt0, leN, ltN, eqN, eqM1, M1eq, le0n, eq0n, nI_add, nI_mul, ↓reduceIte, Nat.reduceAdd, Nat.reduceMul, Nat.reduceEqDiff, Nat.reduceLT, Nat.reduceLeDiff, and_true, true_and, and_false, false_and, and_self, reduceCtorEq, not_true_eq_false, not_false_eq_true, hB.o, hB.r2, hB.r0, hB.k0, hB.k2, h4, show ¬ n ≤ i by omega, show i < 2000 by omega, h6 i (by omega)]
    rw [hbi]
    exact g1
theorem ref_take {h : AH} {m n : Nat} {ra : Nat → Nat} {tp : Nat → Int32} (hB : RB h m ra) (hT : TapeR h m ra n tp) (hb : ∀ i, i < n → isB (tp i)) : ∃ h', fX9_take (some m) h = some (oI (badA tp n 0), h') ∧ TxR h' m ra n tp ∧ TapeR h' m ra 0 tp ∧ FrK m ra h h' := by
  obtain ⟨e0, hn, hv⟩ := id hT
  obtain ⟨h1, g1, T1, F1⟩ := ref_take_L1 (m := m) (ra := ra) hb hn n FU 0 (pI h 453 m (nI n)) (by omega) (by have := FU_ge; omega) hB (if_pos ⟨rfl, rfl⟩) hv (fun k hk => by omega)
  have B1 : RB h1 m ra := F1.RB hB
  have T2 : TxR (pI h1 451 m (nI 0)) m ra n tp := ⟨by rw [gI_pI, if_neg (by omega)]; exact T1.1, T1.2⟩
  have g2 := ref_take_L2 (show RB (pI h1 451 m (nI 0)) m ra from B1) T2 hb n FU 0 (by omega) (by have := FU_ge; omega)
  refine ⟨pI h1 451 m (nI 0), ?_, T2, ⟨if_pos ⟨rfl, rfl⟩, by omega, fun i hi => by omega⟩, ?_⟩
  · unfold fX9_take fX9_take_0
    simp only [↓uGI, ↓uGL, ↓uGR, ↓uPI, ↓uPL, ↓uPR, ↓uAL, ↓uQL, ↓uAS, ↓uQS, ↓uAN, ↓uCV, ↓oCL, ↓oNO, ↓uNA, ↓oNN, ↓oZ0, ↓oZ1, gI_pI, gI_pL, gI_pR, gI_pA, gI_pQ, gL_pI, gL_pL, gL_pR, gL_pA, gL_pQ, gR_pI, gR_pL, gR_pR, gR_pA, gR_pQ, gA_pI, gA_pL, gA_pR, gA_pA, gA_pQ, gQ_pI, gQ_pL, gQ_pR, gQ_pA, gQ_pQ, gK_pI, gK_pL, gK_pR, gK_pA, gK_pQ, gN_pI, gN_pL, gN_pR, gN_pA, gN_pQ, gS_pI, gS_pL, gS_pR, gS_pA, gS_pQ, gI_mk, gL_mk, gR_mk, gA_mk, gQ_mk, gK_mk, gN_mk, gS_mk, vn0, vn1, lt0, leN, ltN, eqN, eqM1, M1eq, le0n, eq0n, nI_add, nI_mul, ↓reduceIte, Nat.reduceAdd, Nat.reduceMul, Nat.reduceEqDiff, Nat.reduceLT, Nat.reduceLeDiff, and_true, true_and, and_false, false_and, and_self, reduceCtorEq, not_true_eq_false, not_false_eq_true, hB.o, e0]
    rw [g1]
    unfold fX9_take_36
    simp only [↓uGI, ↓uGL, ↓uGR, ↓uPI, ↓uPL, ↓uPR, ↓uAL, ↓uQL, ↓uAS, ↓uQS, ↓uAN, ↓uCV, ↓oCL, ↓oNO, ↓uNA, ↓oNN, ↓oZ0, ↓oZ1, gI_pI, gI_pL, gI_pR, gI_pA, gI_pQ, gL_pI, gL_pL, gL_pR, gL_pA, gL_pQ, gR_pI, gR_pL, gR_pR, gR_pA, gR_pQ, gA_pI, gA_pL, gA_pR, gA_pA, gA_pQ, gQ_pI, gQ_pL, gQ_pR, gQ_pA, gQ_pQ, gK_pI, gK_pL, gK_pR, gK_pA, gK_pQ, gN_pI, gN_pL, gN_pR, gN_pA, gN_pQ, gS_pI, gS_pL, gS_pR, gS_pA, gS_pQ, gI_mk, gL_mk, gR_mk, gA_mk, gQ_mk, gK_mk, gN_mk, gS_mk, vn0, vn1, lt0, leN, ltN, eqN, eqM1, M1eq, le0n, eq0n, nI_add, nI_mul, ↓reduceIte, Nat.reduceAdd, Nat.reduceMul, Nat.reduceEqDiff, Nat.reduceLT, Nat.reduceLeDiff, and_true, true_and, and_false, false_and, and_self, reduceCtorEq, not_true_eq_false, not_false_eq_true, B1.o]
    exact g2
  · refine Fr.pI ((Fr.pI (f := 453) (a := m) (v := nI n) Fr.rf ⟨Or.inr rfl, rfl⟩).tr (F1.mo (fun _ _ q => q.elim) (fun _ q => q))) ⟨Or.inl rfl, rfl⟩

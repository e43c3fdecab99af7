/-! TAGS: which number a NAME has -/
def tgNames : List (List Nat) := [[100, 105, 118], [112], [104, 49], [117, 108], [108, 105], [102, 111, 114, 109], [115, 112, 97, 110], [97], [98], [105], [98, 114], [104, 114], [105, 109, 103], [105, 110, 112, 117, 116], [98, 117, 116, 116, 111, 110], [115, 116, 121, 108, 101]]
def tgF (l : List Nat) : List (List Nat) → Nat → Nat
  | [], t => t
  | n :: r, t => if l = n then t else tgF l r (t + 1)
def tagN (l : List Nat) : Nat := tgF l tgNames 0
theorem tgF_le (l : List Nat) : ∀ (r : List (List Nat)) (t : Nat), t ≤ tgF l r t ∧ tgF l r t ≤ t + r.length := by
  intro r
  induction r with
  | nil => intro t; simp [tgF]
  | cons n r ih =>
    intro t
    unfold tgF
    simp only [List.length_cons]
    split
    · omega
    · have := ih (t + 1); omega
theorem tagN_le (l : List Nat) : tagN l ≤ 16 := (tgF_le l tgNames 0).2
theorem tgF_inj {l l' : List Nat} : ∀ (r : List (List Nat)) (t : Nat), tgF l r t = tgF l' r t → tgF l r t ≠ t + r.length → l = l' := by
  intro r
  induction r with
  | nil => intro t _ h; simp [tgF] at h
  | cons n r ih =>
    intro t h1 h2
    unfold tgF at h1 h2
    simp only [List.length_cons] at h2
    have a := tgF_le l r (t + 1)
    have b := tgF_le l' r (t + 1)
    by_cases e1 : l = n
    · by_cases e2 : l' = n
      · rw [e1, e2]
      · rw [if_pos e1, if_neg e2] at h1; omega
    · by_cases e2 : l' = n
      · rw [if_neg e1, if_pos e2] at h1; omega
      · rw [if_neg e1, if_neg e2] at h1
        rw [if_neg e1] at h2
        exact ih (t + 1) h1 (by omega)
/-- two NAMES with one TAG that isn't OTHER are one NAME -/
theorem tagN_inj {l l' : List Nat} (h : tagN l = tagN l') (h2 : tagN l ≠ 16) : l = l' := tgF_inj tgNames 0 h h2
def tgLit : List Nat := [100, 105, 118, 32, 112, 32, 104, 49, 32, 117, 108, 32, 108, 105, 32, 102, 111, 114, 109, 32, 115, 112, 97, 110, 32, 97, 32, 98, 32, 105, 32, 98, 114, 32, 104, 114, 32, 105, 109, 103, 32, 105, 110, 112, 117, 116, 32, 98, 117, 116, 116, 111, 110, 32, 115, 116, 121, 108, 101, 32]
def tgs (l : List Nat) : List Nat → Nat → List Nat → Nat
  | [], _, _ => 16
  | c :: r, t, w => if c = 32 then (if w = l then t else tgs l r (t + 1) []) else tgs l r t (nadd w c)
theorem tgs_lit (l : List Nat) : tgs l tgLit 0 [] = tagN l := by
  simp [tgLit, tgs, nadd, tagN, tgNames, tgF, eq_comm]
theorem sr_len0 : sr_len.getD 0 0 = tgLit.length := by decide
theorem sr_ch0 : ∀ i, i < tgLit.length → sr_ch 0 i = nI (tgLit.getD i 0) ∧ 0 < tgLit.getD i 0 ∧ tgLit.getD i 0 < 128 := by decide
theorem lNeP {a b : Nat} (ha : a < 2 ^ 63) (hb : b < 2 ^ 63) : (lN a = lN b) = (a = b) := propext (pk_lEQ (by omega) (by omega))
theorem cls_tagOf_L {h : AH} {l : List Nat} (hv : vch l) (hl : l.length ≤ 8) : ∀ (j f i t : Nat) (w : List Nat), i + j = tgLit.length → j < f → vch w → w.length ≤ 8 → t ≤ i → fX8_tagOf_7 f (lN (pack l)) (nI t) (lN (pack w)) (nI i) h = some (nI (tgs l (tgLit.drop i) t w), h) := by
  have hp := pack_lt hv hl
  intro j
  induction j with
  | zero =>
    intro f i t w hij hjf hw hwl ht
    obtain ⟨f, rfl⟩ : ∃ g, f = g + 1 := ⟨f - 1, by omega⟩
    have hL : tgLit.length = 60 := rfl
    rw [fX8_tagOf_7, oSN (by omega), sr_len0, List.drop_eq_nil_of_le (by omega)]
    simp (disch := omega) only [↓uGI, ↓uGL, ↓uGR, ↓uPI, ↓uPL, ↓uPR, ↓uAL, ↓uQL, ↓uAS, ↓uQS, ↓uAN, ↓uCV, ↓oCL, ↓oNO, ↓uNA, ↓oNN, ↓oZ0, ↓oZ1, gI_pI, gI_pL, gI_pR, gI_pA, gI_pQ, gL_pI, gL_pL, gL_pR, gL_pA, gL_pQ, gR_pI, gR_pL, gR_pR, gR_pA, gR_pQ, gA_pI, gA_pL, gA_pR, gA_pA, gA_pQ, gQ_pI, gQ_pL, gQ_pR, gQ_pA, gQ_pQ, gK_pI, gK_pL, gK_pR, gK_pA, gK_pQ, gN_pI, gN_pL, gN_pR, gN_pA, gN_pQ, gS_pI, gS_pL, gS_pR, gS_pA, gS_pQ, gI_mk, gL_mk, gR_mk, gA_mk, gQ_mk, gK_mk, gN_mk, gS_mk, vn0, vn1, lt0, leN, ltN, eqN, eqM1, M1eq, le0n, eq0n, nI_add, nI_mul, ↓reduceIte, Nat.reduceAdd, Nat.reduceMul, Nat.reduceEqDiff, Nat.reduceLT, Nat.reduceLeDiff, and_true, true_and, and_false, false_and, and_self, reduceCtorEq, not_true_eq_false, not_false_eq_true, show tgLit.length ≤ i by omega, fX8_tagOf_62, tgs]
  | succ j ih =>
    intro f i t w hij hjf hw hwl ht
    obtain ⟨f, rfl⟩ : ∃ g, f = g + 1 := ⟨f - 1, by omega⟩
    have hL : tgLit.length = 60 := rfl
    have hwp := pack_lt hw hwl
    obtain ⟨e1, e2, e3⟩ := sr_ch0 i (by omega)
    rw [fX8_tagOf_7, oSN (by omega), sr_len0, drop_cons 0 (show i < tgLit.length by omega)]
    simp (disch := omega) only [↓uGI, ↓uGL, ↓uGR, ↓uPI, ↓uPL, ↓uPR, ↓uAL, ↓uQL, ↓uAS, ↓uQS, ↓uAN, ↓uCV, ↓oCL, ↓oNO, ↓uNA, ↓oNN, ↓oZ0, ↓oZ1, gI_pI, gI_pL, gI_pR, gI_pA, gI_pQ, gL_pI, gL_pL, gL_pR, gL_pA, gL_pQ, gR_pI, gR_pL, gR_pR, gR_pA, gR_pQ, gA_pI, gA_pL, gA_pR, gA_pA, gA_pQ, gQ_pI, gQ_pL, gQ_pR, gQ_pA, gQ_pQ, gK_pI, gK_pL, gK_pR, gK_pA, gK_pQ, gN_pI, gN_pL, gN_pR, gN_pA, gN_pQ, gS_pI, gS_pL, gS_pR, gS_pA, gS_pQ, gI_mk, gL_mk, gR_mk, gA_mk, gQ_mk, gK_mk, gN_mk, gS_mk, vn0, vn1, lt0, leN, ltN, eqN, eqM1, M1eq, le0n, eq0n, nI_add, nI_mul, ↓reduceIte, Nat.reduceAdd, Nat.reduceMul, Nat.reduceEqDiff, Nat.reduceLT, Nat.reduceLeDiff, and_true, true_and, and_false, false_and, and_self, reduceCtorEq, not_true_eq_false, not_false_eq_true, show ¬ tgLit.length ≤ i by omega]
    rw [oSC (by omega) (by rw [sr_len0]; omega), e1]
    simp (disch := omega) only [↓uGI, ↓uGL, ↓uGR, ↓uPI, ↓uPL, ↓uPR, ↓uAL, ↓uQL, ↓uAS, ↓uQS, ↓uAN, ↓uCV, ↓oCL, ↓oNO, ↓uNA, ↓oNN, ↓oZ0, ↓oZ1, gI_pI, gI_pL, gI_pR, gI_pA, gI_pQ, gL_pI, gL_pL, gL_pR, gL_pA, gL_pQ, gR_pI, gR_pL, gR_pR, gR_pA, gR_pQ, gA_pI, gA_pL, gA_pR, gA_pA, gA_pQ, gQ_pI, gQ_pL, gQ_pR, gQ_pA, gQ_pQ, gK_pI, gK_pL, gK_pR, gK_pA, gK_pQ, gN_pI, gN_pL, gN_pR, gN_pA, gN_pQ, gS_pI, gS_pL, gS_pR, gS_pA, gS_pQ, gI_mk, gL_mk, gR_mk, gA_mk, gQ_mk, gK_mk, gN_mk, gS_mk, vn0, vn1, lt0, leN, ltN, eqN, eqM1, M1eq, le0n, eq0n, nI_add, nI_mul, ↓reduceIte, Nat.reduceAdd, Nat.reduceMul, Nat.reduceEqDiff, Nat.reduceLT, Nat.reduceLeDiff, and_true, true_and, and_false, false_and, and_self, reduceCtorEq, not_true_eq_false, not_false_eq_true, fX8_tagOf_49, fX8_tagOf_56, lgc, lNeP hwp hp, tgs, cls_longer hw hwl e3]
    by_cases h32 : tgLit.getD i 0 = 32
    · simp only [h32, ↓reduceIte]
      by_cases hx : w = l
      · simp only [hx, ↓reduceIte]
      · have : ¬ pack w = pack l := fun z => hx (pack_inj hw hv z)
        simp only [hx, this, ↓reduceIte]
        exact ih f (i + 1) (t + 1) [] (by omega) (by omega) (fun c hc => by cases hc) (by simp) (by omega)
    · simp only [h32, ↓reduceIte]
      exact ih f (i + 1) t _ (by omega) (by omega) (nadd_v hw ⟨e2, e3⟩) (nadd_len hwl) (by omega)
theorem cls_tagOf {h : AH} {l : List Nat} (hv : vch l) (hl : l.length ≤ 8) : fX8_tagOf (lN (pack l)) h = some (nI (tagN l), h) := by
  have := cls_tagOf_L (h := h) hv hl 60 FU 0 0 [] rfl (by have := FU_ge; omega) (fun c hc => by cases hc) (by simp) (by omega)
  rw [List.drop_zero, tgs_lit] at this
  exact this
/-- a word of the reference, letter by letter -/
def wsb : Int64 → List Nat → Bool
  | v, [] => decide (lg_cmp v 0 ≤ 0)
  | v, c :: W => decide (¬ lg_cmp v 0 ≤ 0) && decide (nI 96 + Int64.toInt32 (v &&& 31) = nI c) && decide (c < 128) && wsb (v >>> (Int32.toInt64 (nI 5) &&& 63)) W
theorem ref_lengthOf_L {h : AH} : ∀ (W : List Nat) (v : Int64) (f k : Nat), wsb v W = true → W.length < f → fX9_lengthOf_4 f (nI k) v h = some (nI (k + W.length), h) := by
  intro W
  induction W with
  | nil =>
    intro v f k hw hf
    obtain ⟨f, rfl⟩ : ∃ g, f = g + 1 := ⟨f - 1, by simp at hf; omega⟩
    have hw : lg_cmp v 0 ≤ 0 := by simpa [wsb] using hw
    rw [fX9_lengthOf_4, if_pos hw]
    rfl
  | cons c W ih =>
    intro v f k hw hf
    obtain ⟨f, rfl⟩ : ∃ g, f = g + 1 := ⟨f - 1, by simp at hf; omega⟩
    simp only [wsb, Bool.and_eq_true, decide_eq_true_eq] at hw
    obtain ⟨⟨⟨h1, h2⟩, h3⟩, h4⟩ := hw
    rw [fX9_lengthOf_4, if_neg h1, nI_add, ih _ f (k + 1) h4 (by simp at hf; omega)]
    simp only [List.length_cons]
    rw [show k + 1 + W.length = k + (W.length + 1) by omega]
/-- do the bytes from k on begin with W, before the place to -/
def isW (tx : Nat → Nat) (to : Nat) : List Nat → Nat → Bool
  | [], _ => true
  | c :: W, k => decide (k < to) && decide (tx k = c) && isW tx to W (k + 1)
theorem ref_isWord_L {h : AH} {a N to : Nat} {tx : Nat → Nat} (hk : gK h a = (101, N)) (hN : N < 100000) (hto : to ≤ N) (hg : ∀ k, k < to → gA h a k = nI (tx k) ∧ tx k < 128) : ∀ (W : List Nat) (v : Int64) (f k : Nat), wsb v W = true → W.length < f → k ≤ 99999 → fX9_isWord_6 f (some a) (nI to) (nI k) v h = some (bI (isW tx to W k), h) := by
  intro W
  induction W with
  | nil =>
    intro v f k hw hf hk'
    obtain ⟨f, rfl⟩ : ∃ g, f = g + 1 := ⟨f - 1, by simp at hf; omega⟩
    have hw : lg_cmp v 0 ≤ 0 := by simpa [wsb] using hw
    rw [fX9_isWord_6, if_pos hw]
    rfl
  | cons c W ih =>
    intro v f k hw hf hk'
    obtain ⟨f, rfl⟩ : ∃ g, f = g + 1 := ⟨f - 1, by simp at hf; omega⟩
    simp only [wsb, Bool.and_eq_true, decide_eq_true_eq] at hw
    obtain ⟨⟨⟨h1, h2⟩, h3⟩, h4⟩ := hw
    rw [fX9_isWord_6, if_neg h1, h2, isW]
    by_cases hkt : k < to
    · obtain ⟨g1, g2⟩ := hg k hkt
      simp (disch := omega) only [↓uGI, ↓uGL, ↓uGR, ↓uPI, ↓uPL, ↓uPR, ↓uAL, ↓uQL, ↓uAS, ↓uQS, ↓uAN, ↓uCV, ↓oCL, ↓oNO, ↓uNA, ↓oNN, ↓oZ0, ↓oZ1, gI_pI, gI_pL, gI_pR, gI_pA, gI_pQ, gL_pI, gL_pL, gL_pR, gL_pA, gL_pQ, gR_pI, gR_pL, gR_pR, gR_pA, gR_pQ, gA_pI, gA_pL, gA_pR, gA_pA, gA_pQ, gQ_pI, gQ_pL, gQ_pR, gQ_pA, gQ_pQ, gK_pI, gK_pL, gK_pR, gK_pA, gK_pQ, gN_pI, gN_pL, gN_pR, gN_pA, gN_pQ, gS_pI, gS_pL, gS_pR, gS_pA, gS_pQ, gI_mk, gL_mk, gR_mk, gA_mk, gQ_mk, gK_mk, gN_mk, gS_mk, vn0, vn1, lt0, leN, ltN, eqN, eqM1, M1eq, le0n, eq0n, nI_add, nI_mul, ↓reduceIte, Nat.reduceAdd, Nat.reduceMul, Nat.reduceEqDiff, Nat.reduceLT, Nat.reduceLeDiff, and_true, true_and, and_false, false_and, and_self, reduceCtorEq, not_true_eq_false, not_false_eq_true, show ¬ to ≤ k by omega, hk, show k < N by omega, g1, fX9_isWord_36, oZn0]
      by_cases e : tx k = c
      · simp only [e, ↓reduceIte, hkt, decide_true, Bool.true_and]
        exact ih _ f (k + 1) h4 (by simp at hf; omega) (by omega)
      · simp only [e, ↓reduceIte, decide_false, Bool.false_and, Bool.and_false]
        rfl
    · simp (disch := omega) only [↓uGI, ↓uGL, ↓uGR, ↓uPI, ↓uPL, ↓uPR, ↓uAL, ↓uQL, ↓uAS, ↓uQS, ↓uAN, ↓uCV, ↓oCL, ↓oNO, ↓uNA, ↓oNN, ↓oZ0, ↓oZ1, gI_pI, gI_pL, gI_pR, gI_pA, gI_pQ, gL_pI, gL_pL, gL_pR, gL_pA, gL_pQ, gR_pI, gR_pL, gR_pR, gR_pA, gR_pQ, gA_pI, gA_pL, gA_pR, gA_pA, gA_pQ, gQ_pI, gQ_pL, gQ_pR, gQ_pA, gQ_pQ, gK_pI, gK_pL, gK_pR, gK_pA, gK_pQ, gN_pI, gN_pL, gN_pR, gN_pA, gN_pQ, gS_pI, gS_pL, gS_pR, gS_pA, gS_pQ, gI_mk, gL_mk, gR_mk, gA_mk, gQ_mk, gK_mk, gN_mk, gS_mk, vn0, vn1, lt0, leN, ltN, eqN, eqM1, M1eq, le0n, eq0n, nI_add, nI_mul, ↓reduceIte, Nat.reduceAdd, Nat.reduceMul, Nat.reduceEqDiff, Nat.reduceLT, Nat.reduceLeDiff, and_true, true_and, and_false, false_and, and_self, reduceCtorEq, not_true_eq_false, not_false_eq_true, show to ≤ k by omega, hkt, fX9_isWord_36, oZn0, decide_false, Bool.false_and]
      rfl
theorem isW_eq (tx : Nat → Nat) : ∀ (W : List Nat) (k n : Nat), W.length = n → (isW tx (k + n) W k = true ↔ sl tx k n = W) := by
  intro W
  induction W with
  | nil => intro k n h; simp at h; subst h; simp [isW, sl]
  | cons c W ih =>
    intro k n h
    obtain ⟨n, rfl⟩ : ∃ g, n = g + 1 := ⟨n - 1, by simp at h; omega⟩
    have e : sl tx k (n + 1) = tx k :: sl tx (k + 1) n := by
      simp only [sl, List.range_succ_eq_map, List.map_cons, List.map_map, Nat.add_zero]
      congr 1
      apply List.map_congr_left
      intro a _
      show tx (k + (a + 1)) = tx (k + 1 + a)
      congr 1
      omega
    rw [isW, e, show k + (n + 1) = (k + 1) + n by omega]
    have hd : decide (k < k + 1 + n) = true := by simp; omega
    rw [hd, Bool.true_and, Bool.and_eq_true, ih (k + 1) n (by simp at h; omega), List.cons.injEq, decide_eq_true_eq]
def tgWord (t : Nat) : Int64 := [22820, 16, 8, 405, 300, 444902, 460307, 1, 2, 9, 578, 584, 7593, 21676489, 486167202, 5662355].getD t 0
theorem ref_tagWord {h : AH} : ∀ t, t < 16 → fX9_tagWord (nI t) h = some (tgWord t, h) := by
  intro t ht
  have hh : t = 0 ∨ t = 1 ∨ t = 2 ∨ t = 3 ∨ t = 4 ∨ t = 5 ∨ t = 6 ∨ t = 7 ∨ t = 8 ∨ t = 9 ∨ t = 10 ∨ t = 11 ∨ t = 12 ∨ t = 13 ∨ t = 14 ∨ t = 15 := by omega
  rcases hh with e | e | e | e | e | e | e | e | e | e | e | e | e | e | e | e <;> subst e <;> rfl
theorem tg_wsb : ∀ t, t < 16 → t ≠ 2 → wsb (tgWord t) (tgNames.getD t []) = true ∧ (tgNames.getD t []).length ≤ 8 := by decide +kernel
theorem sl_one (tx : Nat → Nat) (c d : Nat) : sl tx 0 2 = [c, d] ↔ tx 0 = c ∧ tx 1 = d := by simp [sl, List.range_succ]
theorem ref_tagOf_L {h : AH} {a N n : Nat} {tx : Nat → Nat} (hk : gK h a = (101, N)) (hN : N < 100000) (hn : n ≤ N) (hg : ∀ k, k < n → gA h a k = nI (tx k) ∧ tx k < 128) : ∀ (j f t : Nat), t + j = 16 → j < f → fX9_tagOf_2 f (some a) (nI 0) (nI n) (nI t) h = some (nI (tgF (sl tx 0 n) (tgNames.drop t) t), h) := by
  intro j
  induction j with
  | zero =>
    intro f t hij hjf
    obtain ⟨f, rfl⟩ : ∃ g, f = g + 1 := ⟨f - 1, by omega⟩
    have ht : t = 16 := by omega
    subst ht
    rw [fX9_tagOf_2]
    simp (disch := omega) only [↓uGI, ↓uGL, ↓uGR, ↓uPI, ↓uPL, ↓uPR, ↓uAL, ↓uQL, ↓uAS, ↓uQS, ↓uAN, ↓uCV, ↓oCL, ↓oNO, ↓uNA, ↓oNN, ↓oZ0, ↓oZ1, gI_pI, gI_pL, gI_pR, gI_pA, gI_pQ, gL_pI, gL_pL, gL_pR, gL_pA, gL_pQ, gR_pI, gR_pL, gR_pR, gR_pA, gR_pQ, gA_pI, gA_pL, gA_pR, gA_pA, gA_pQ, gQ_pI, gQ_pL, gQ_pR, gQ_pA, gQ_pQ, gK_pI, gK_pL, gK_pR, gK_pA, gK_pQ, gN_pI, gN_pL, gN_pR, gN_pA, gN_pQ, gS_pI, gS_pL, gS_pR, gS_pA, gS_pQ, gI_mk, gL_mk, gR_mk, gA_mk, gQ_mk, gK_mk, gN_mk, gS_mk, vn0, vn1, lt0, leN, ltN, eqN, eqM1, M1eq, le0n, eq0n, nI_add, nI_mul, ↓reduceIte, Nat.reduceAdd, Nat.reduceMul, Nat.reduceEqDiff, Nat.reduceLT, Nat.reduceLeDiff, and_true, true_and, and_false, false_and, and_self, reduceCtorEq, not_true_eq_false, not_false_eq_true, fX9_tagOf_74]
    rfl
  | succ j ih =>
    intro f t hij hjf
    obtain ⟨f, rfl⟩ : ∃ g, f = g + 1 := ⟨f - 1, by omega⟩
    have ihh := ih f (t + 1) (by omega) (by omega)
    have hlen : tgNames.length = 16 := rfl
    rw [fX9_tagOf_2, ref_tagWord t (by omega), drop_cons [] (show t < tgNames.length by omega), tgF]
    by_cases h2 : t = 2
    · subst h2
      have e2 : tgNames.getD 2 [] = [104, 49] := rfl
      rw [e2]
      by_cases hn2 : n = 2
      · subst hn2
        obtain ⟨g0, g0'⟩ := hg 0 (by omega)
        obtain ⟨g1, g1'⟩ := hg 1 (by omega)
        simp (disch := omega) only [↓uGI, ↓uGL, ↓uGR, ↓uPI, ↓uPL, ↓uPR, ↓uAL, ↓uQL, ↓uAS, ↓uQS, ↓uAN, ↓uCV, ↓oCL, ↓oNO, ↓uNA, ↓oNN, ↓oZ0, ↓oZ1, gI_pI, gI_pL, gI_pR, gI_pA, gI_pQ, gL_pI, gL_pL, gL_pR, gL_pA, gL_pQ, gR_pI, gR_pL, gR_pR, gR_pA, gR_pQ, gA_pI, gA_pL, gA_pR, gA_pA, gA_pQ, gQ_pI, gQ_pL, gQ_pR, gQ_pA, gQ_pQ, gK_pI, gK_pL, gK_pR, gK_pA, gK_pQ, gN_pI, gN_pL, gN_pR, gN_pA, gN_pQ, gS_pI, gS_pL, gS_pR, gS_pA, gS_pQ, gI_mk, gL_mk, gR_mk, gA_mk, gQ_mk, gK_mk, gN_mk, gS_mk, vn0, vn1, lt0, leN, ltN, eqN, eqM1, M1eq, le0n, eq0n, nI_add, nI_mul, ↓reduceIte, Nat.reduceAdd, Nat.reduceMul, Nat.reduceEqDiff, Nat.reduceLT, Nat.reduceLeDiff, and_true, true_and, and_false, false_and, and_self, reduceCtorEq, not_true_eq_false, not_false_eq_true, hk, show 0 < N by omega, show 1 < N by omega, g0, g1, fX9_tagOf_68, fX9_tagOf_42, sl_one, ihh]
        by_cases q0 : tx 0 = 104
        · by_cases q1 : tx 1 = 49
          · simp [q0, q1]
          · simp [q0, q1]
        · simp [q0]
      · have : ¬ sl tx 0 n = [104, 49] := fun z => hn2 (by have := congrArg List.length z; rw [sl_len] at this; exact this)
        simp (disch := omega) only [↓uGI, ↓uGL, ↓uGR, ↓uPI, ↓uPL, ↓uPR, ↓uAL, ↓uQL, ↓uAS, ↓uQS, ↓uAN, ↓uCV, ↓oCL, ↓oNO, ↓uNA, ↓oNN, ↓oZ0, ↓oZ1, gI_pI, gI_pL, gI_pR, gI_pA, gI_pQ, gL_pI, gL_pL, gL_pR, gL_pA, gL_pQ, gR_pI, gR_pL, gR_pR, gR_pA, gR_pQ, gA_pI, gA_pL, gA_pR, gA_pA, gA_pQ, gQ_pI, gQ_pL, gQ_pR, gQ_pA, gQ_pQ, gK_pI, gK_pL, gK_pR, gK_pA, gK_pQ, gN_pI, gN_pL, gN_pR, gN_pA, gN_pQ, gS_pI, gS_pL, gS_pR, gS_pA, gS_pQ, gI_mk, gL_mk, gR_mk, gA_mk, gQ_mk, gK_mk, gN_mk, gS_mk, vn0, vn1, lt0, leN, ltN, eqN, eqM1, M1eq, le0n, eq0n, nI_add, nI_mul, ↓reduceIte, Nat.reduceAdd, Nat.reduceMul, Nat.reduceEqDiff, Nat.reduceLT, Nat.reduceLeDiff, and_true, true_and, and_false, false_and, and_self, reduceCtorEq, not_true_eq_false, not_false_eq_true, hn2, fX9_tagOf_68, this, ihh]
    · obtain ⟨w1, w2⟩ := tg_wsb t (by omega) h2
      have hL := ref_lengthOf_L (h := h) _ _ FU 0 w1 (by have := FU_ge; omega)
      have hW := ref_isWord_L hk hN hn hg _ _ FU 0 w1 (by have := FU_ge; omega) (by omega)
      simp only [Nat.zero_add] at hL
      by_cases hl : (tgNames.getD t []).length = n
      · have hq := isW_eq tx (tgNames.getD t []) 0 n hl
        simp only [Nat.zero_add] at hq
        simp (disch := omega) only [↓uGI, ↓uGL, ↓uGR, ↓uPI, ↓uPL, ↓uPR, ↓uAL, ↓uQL, ↓uAS, ↓uQS, ↓uAN, ↓uCV, ↓oCL, ↓oNO, ↓uNA, ↓oNN, ↓oZ0, ↓oZ1, gI_pI, gI_pL, gI_pR, gI_pA, gI_pQ, gL_pI, gL_pL, gL_pR, gL_pA, gL_pQ, gR_pI, gR_pL, gR_pR, gR_pA, gR_pQ, gA_pI, gA_pL, gA_pR, gA_pA, gA_pQ, gQ_pI, gQ_pL, gQ_pR, gQ_pA, gQ_pQ, gK_pI, gK_pL, gK_pR, gK_pA, gK_pQ, gN_pI, gN_pL, gN_pR, gN_pA, gN_pQ, gS_pI, gS_pL, gS_pR, gS_pA, gS_pQ, gI_mk, gL_mk, gR_mk, gA_mk, gQ_mk, gK_mk, gN_mk, gS_mk, vn0, vn1, lt0, leN, ltN, eqN, eqM1, M1eq, le0n, eq0n, nI_add, nI_mul, ↓reduceIte, Nat.reduceAdd, Nat.reduceMul, Nat.reduceEqDiff, Nat.reduceLT, Nat.reduceLeDiff, and_true, true_and, and_false, false_and, and_self, reduceCtorEq, not_true_eq_false, not_false_eq_true, show ¬ 16 ≤ t by omega, h2, fX9_lengthOf, fX9_lengthOf_0, hL, hl, fX9_isWord, fX9_isWord_0, hW, Nat.zero_add, bI0, fX9_tagOf_68, fX9_tagOf_66, ihh, ← hq]
        cases isW tx n (tgNames.getD t []) 0 <;> simp
      · have : ¬ sl tx 0 n = tgNames.getD t [] := fun z => hl (by rw [← z, sl_len])
        simp (disch := omega) only [↓uGI, ↓uGL, ↓uGR, ↓uPI, ↓uPL, ↓uPR, ↓uAL, ↓uQL, ↓uAS, ↓uQS, ↓uAN, ↓uCV, ↓oCL, ↓oNO, ↓uNA, ↓oNN, ↓oZ0, ↓oZ1, gI_pI, gI_pL, gI_pR, gI_pA, gI_pQ, gL_pI, gL_pL, gL_pR, gL_pA, gL_pQ, gR_pI, gR_pL, gR_pR, gR_pA, gR_pQ, gA_pI, gA_pL, gA_pR, gA_pA, gA_pQ, gQ_pI, gQ_pL, gQ_pR, gQ_pA, gQ_pQ, gK_pI, gK_pL, gK_pR, gK_pA, gK_pQ, gN_pI, gN_pL, gN_pR, gN_pA, gN_pQ, gS_pI, gS_pL, gS_pR, gS_pA, gS_pQ, gI_mk, gL_mk, gR_mk, gA_mk, gQ_mk, gK_mk, gN_mk, gS_mk, vn0, vn1, lt0, leN, ltN, eqN, eqM1, M1eq, le0n, eq0n, nI_add, nI_mul, ↓reduceIte, Nat.reduceAdd, Nat.reduceMul, Nat.reduceEqDiff, Nat.reduceLT, Nat.reduceLeDiff, and_true, true_and, and_false, false_and, and_self, reduceCtorEq, not_true_eq_false, not_false_eq_true, show ¬ 16 ≤ t by omega, h2, fX9_lengthOf, fX9_lengthOf_0, hL, hl, fX9_tagOf_68, ihh, this]
theorem ref_tagOf {h : AH} {a N n : Nat} {tx : Nat → Nat} (hk : gK h a = (101, N)) (hN : N < 100000) (hn : n ≤ N) (hg : ∀ k, k < n → gA h a k = nI (tx k) ∧ tx k < 128) : fX9_tagOf (some a) (nI 0) (nI n) h = some (nI (tagN (sl tx 0 n)), h) :=
  ref_tagOf_L hk hN hn hg 16 FU 0 rfl (by have := FU_ge; omega)
def isEm (t : Nat) : Bool := 10 ≤ t && t ≤ 13
def isBk (t : Nat) : Bool := t ≤ 5 || t == 11
theorem cls_isEm {h : AH} {t : Nat} (ht : t < 1000) : fX8_isEmptyTag (nI t) h = some (bI (isEm t), h) := by
  simp only [fX8_isEmptyTag, fX8_isEmptyTag_0, fX8_isEmptyTag_16, fX8_isEmptyTag_17, isEm, bI]
  by_cases h1 : t < 10
  · simp (disch := omega) only [↓uGI, ↓uGL, ↓uGR, ↓uPI, ↓uPL, ↓uPR, ↓uAL, ↓uQL, ↓uAS, ↓uQS, ↓uAN, ↓uCV, ↓oCL, ↓oNO, ↓uNA, ↓oNN, ↓oZ0, ↓oZ1, gI_pI, gI_pL, gI_pR, gI_pA, gI_pQ, gL_pI, gL_pL, gL_pR, gL_pA, gL_pQ, gR_pI, gR_pL, gR_pR, gR_pA, gR_pQ, gA_pI, gA_pL, gA_pR, gA_pA, gA_pQ, gQ_pI, gQ_pL, gQ_pR, gQ_pA, gQ_pQ, gK_pI, gK_pL, gK_pR, gK_pA, gK_pQ, gN_pI, gN_pL, gN_pR, gN_pA, gN_pQ, gS_pI, gS_pL, gS_pR, gS_pA, gS_pQ, gI_mk, gL_mk, gR_mk, gA_mk, gQ_mk, gK_mk, gN_mk, gS_mk, vn0, vn1, lt0, leN, ltN, eqN, eqM1, M1eq, le0n, eq0n, nI_add, nI_mul, ↓reduceIte, Nat.reduceAdd, Nat.reduceMul, Nat.reduceEqDiff, Nat.reduceLT, Nat.reduceLeDiff, and_true, true_and, and_false, false_and, and_self, reduceCtorEq, not_true_eq_false, not_false_eq_true, h1, oZn0, show ¬ 10 ≤ t by omega, decide_false, Bool.false_and, Bool.false_eq_true]
  · by_cases h2 : 13 < t
    · simp (disch := omega) only [↓uGI, ↓uGL, ↓uGR, ↓uPI, ↓uPL, ↓uPR, ↓uAL, ↓uQL, ↓uAS, ↓uQS, ↓uAN, ↓uCV, ↓oCL, ↓oNO, ↓uNA, ↓oNN, ↓oZ0, ↓oZ1, gI_pI, gI_pL, gI_pR, gI_pA, gI_pQ, gL_pI, gL_pL, gL_pR, gL_pA, gL_pQ, gR_pI, gR_pL, gR_pR, gR_pA, gR_pQ, gA_pI, gA_pL, gA_pR, gA_pA, gA_pQ, gQ_pI, gQ_pL, gQ_pR, gQ_pA, gQ_pQ, gK_pI, gK_pL, gK_pR, gK_pA, gK_pQ, gN_pI, gN_pL, gN_pR, gN_pA, gN_pQ, gS_pI, gS_pL, gS_pR, gS_pA, gS_pQ, gI_mk, gL_mk, gR_mk, gA_mk, gQ_mk, gK_mk, gN_mk, gS_mk, vn0, vn1, lt0, leN, ltN, eqN, eqM1, M1eq, le0n, eq0n, nI_add, nI_mul, ↓reduceIte, Nat.reduceAdd, Nat.reduceMul, Nat.reduceEqDiff, Nat.reduceLT, Nat.reduceLeDiff, and_true, true_and, and_false, false_and, and_self, reduceCtorEq, not_true_eq_false, not_false_eq_true, h1, h2, oZn0, show 10 ≤ t by omega, show ¬ t ≤ 13 by omega, decide_false, decide_true, Bool.and_false, Bool.false_eq_true]
    · simp (disch := omega) only [↓uGI, ↓uGL, ↓uGR, ↓uPI, ↓uPL, ↓uPR, ↓uAL, ↓uQL, ↓uAS, ↓uQS, ↓uAN, ↓uCV, ↓oCL, ↓oNO, ↓uNA, ↓oNN, ↓oZ0, ↓oZ1, gI_pI, gI_pL, gI_pR, gI_pA, gI_pQ, gL_pI, gL_pL, gL_pR, gL_pA, gL_pQ, gR_pI, gR_pL, gR_pR, gR_pA, gR_pQ, gA_pI, gA_pL, gA_pR, gA_pA, gA_pQ, gQ_pI, gQ_pL, gQ_pR, gQ_pA, gQ_pQ, gK_pI, gK_pL, gK_pR, gK_pA, gK_pQ, gN_pI, gN_pL, gN_pR, gN_pA, gN_pQ, gS_pI, gS_pL, gS_pR, gS_pA, gS_pQ, gI_mk, gL_mk, gR_mk, gA_mk, gQ_mk, gK_mk, gN_mk, gS_mk, vn0, vn1, lt0, leN, ltN, eqN, eqM1, M1eq, le0n, eq0n, nI_add, nI_mul, ↓reduceIte, Nat.reduceAdd, Nat.reduceMul, Nat.reduceEqDiff, Nat.reduceLT, Nat.reduceLeDiff, and_true, true_and, and_false, false_and, and_self, reduceCtorEq, not_true_eq_false, not_false_eq_true, h1, h2, oZn1, show 10 ≤ t by omega, show t ≤ 13 by omega, decide_true, Bool.and_self]
theorem ref_isEm {h : AH} {t : Nat} (ht : t < 1000) : fX9_isEmptyTag (nI t) h = some (bI (isEm t), h) := by
  simp only [fX9_isEmptyTag, fX9_isEmptyTag_0, fX9_isEmptyTag_16, fX9_isEmptyTag_17, isEm, bI]
  by_cases h1 : t < 10
  · simp (disch := omega) only [↓uGI, ↓uGL, ↓uGR, ↓uPI, ↓uPL, ↓uPR, ↓uAL, ↓uQL, ↓uAS, ↓uQS, ↓uAN, ↓uCV, ↓oCL, ↓oNO, ↓uNA, ↓oNN, ↓oZ0, ↓oZ1, gI_pI, gI_pL, gI_pR, gI_pA, gI_pQ, gL_pI, gL_pL, gL_pR, gL_pA, gL_pQ, gR_pI, gR_pL, gR_pR, gR_pA, gR_pQ, gA_pI, gA_pL, gA_pR, gA_pA, gA_pQ, gQ_pI, gQ_pL, gQ_pR, gQ_pA, gQ_pQ, gK_pI, gK_pL, gK_pR, gK_pA, gK_pQ, gN_pI, gN_pL, gN_pR, gN_pA, gN_pQ, gS_pI, gS_pL, gS_pR, gS_pA, gS_pQ, gI_mk, gL_mk, gR_mk, gA_mk, gQ_mk, gK_mk, gN_mk, gS_mk, vn0, vn1, lt0, leN, ltN, eqN, eqM1, M1eq, le0n, eq0n, nI_add, nI_mul, ↓reduceIte, Nat.reduceAdd, Nat.reduceMul, Nat.reduceEqDiff, Nat.reduceLT, Nat.reduceLeDiff, and_true, true_and, and_false, false_and, and_self, reduceCtorEq, not_true_eq_false, not_false_eq_true, h1, oZn0, show ¬ 10 ≤ t by omega, decide_false, Bool.false_and, Bool.false_eq_true]
  · by_cases h2 : 13 < t
    · simp (disch := omega) only [↓uGI, ↓uGL, ↓uGR, ↓uPI, ↓uPL, ↓uPR, ↓uAL, ↓uQL, ↓uAS, ↓uQS, ↓uAN, ↓uCV, ↓oCL, ↓oNO, ↓uNA, ↓oNN, ↓oZ0, ↓oZ1, gI_pI, gI_pL, gI_pR, gI_pA, gI_pQ, gL_pI, gL_pL, gL_pR, gL_pA, gL_pQ, gR_pI, gR_pL, gR_pR, gR_pA, gR_pQ, gA_pI, gA_pL, gA_pR, gA_pA, gA_pQ, gQ_pI, gQ_pL, gQ_pR, gQ_pA, gQ_pQ, gK_pI, gK_pL, gK_pR, gK_pA, gK_pQ, gN_pI, gN_pL, gN_pR, gN_pA, gN_pQ, gS_pI, gS_pL, gS_pR, gS_pA, gS_pQ, gI_mk, gL_mk, gR_mk, gA_mk, gQ_mk, gK_mk, gN_mk, gS_mk, vn0, vn1, lt0, leN, ltN, eqN, eqM1, M1eq, le0n, eq0n, nI_add, nI_mul, ↓reduceIte, Nat.reduceAdd, Nat.reduceMul, Nat.reduceEqDiff, Nat.reduceLT, Nat.reduceLeDiff, and_true, true_and, and_false, false_and, and_self, reduceCtorEq, not_true_eq_false, not_false_eq_true, h1, h2, oZn0, show 10 ≤ t by omega, show ¬ t ≤ 13 by omega, decide_false, decide_true, Bool.and_false, Bool.false_eq_true]
    · simp (disch := omega) only [↓uGI, ↓uGL, ↓uGR, ↓uPI, ↓uPL, ↓uPR, ↓uAL, ↓uQL, ↓uAS, ↓uQS, ↓uAN, ↓uCV, ↓oCL, ↓oNO, ↓uNA, ↓oNN, ↓oZ0, ↓oZ1, gI_pI, gI_pL, gI_pR, gI_pA, gI_pQ, gL_pI, gL_pL, gL_pR, gL_pA, gL_pQ, gR_pI, gR_pL, gR_pR, gR_pA, gR_pQ, gA_pI, gA_pL, gA_pR, gA_pA, gA_pQ, gQ_pI, gQ_pL, gQ_pR, gQ_pA, gQ_pQ, gK_pI, gK_pL, gK_pR, gK_pA, gK_pQ, gN_pI, gN_pL, gN_pR, gN_pA, gN_pQ, gS_pI, gS_pL, gS_pR, gS_pA, gS_pQ, gI_mk, gL_mk, gR_mk, gA_mk, gQ_mk, gK_mk, gN_mk, gS_mk, vn0, vn1, lt0, leN, ltN, eqN, eqM1, M1eq, le0n, eq0n, nI_add, nI_mul, ↓reduceIte, Nat.reduceAdd, Nat.reduceMul, Nat.reduceEqDiff, Nat.reduceLT, Nat.reduceLeDiff, and_true, true_and, and_false, false_and, and_self, reduceCtorEq, not_true_eq_false, not_false_eq_true, h1, h2, oZn1, show 10 ≤ t by omega, show t ≤ 13 by omega, decide_true, Bool.and_self]
theorem cls_isBk {h : AH} {t : Nat} (ht : t < 1000) : fX8_isBlockTag (nI t) h = some (bI (isBk t), h) := by
  simp only [fX8_isBlockTag, fX8_isBlockTag_0, fX8_isBlockTag_15, fX8_isBlockTag_9, fX8_isBlockTag_20, isBk, bI]
  by_cases h1 : t ≤ 5
  · simp (disch := omega) only [↓uGI, ↓uGL, ↓uGR, ↓uPI, ↓uPL, ↓uPR, ↓uAL, ↓uQL, ↓uAS, ↓uQS, ↓uAN, ↓uCV, ↓oCL, ↓oNO, ↓uNA, ↓oNN, ↓oZ0, ↓oZ1, gI_pI, gI_pL, gI_pR, gI_pA, gI_pQ, gL_pI, gL_pL, gL_pR, gL_pA, gL_pQ, gR_pI, gR_pL, gR_pR, gR_pA, gR_pQ, gA_pI, gA_pL, gA_pR, gA_pA, gA_pQ, gQ_pI, gQ_pL, gQ_pR, gQ_pA, gQ_pQ, gK_pI, gK_pL, gK_pR, gK_pA, gK_pQ, gN_pI, gN_pL, gN_pR, gN_pA, gN_pQ, gS_pI, gS_pL, gS_pR, gS_pA, gS_pQ, gI_mk, gL_mk, gR_mk, gA_mk, gQ_mk, gK_mk, gN_mk, gS_mk, vn0, vn1, lt0, leN, ltN, eqN, eqM1, M1eq, le0n, eq0n, nI_add, nI_mul, ↓reduceIte, Nat.reduceAdd, Nat.reduceMul, Nat.reduceEqDiff, Nat.reduceLT, Nat.reduceLeDiff, and_true, true_and, and_false, false_and, and_self, reduceCtorEq, not_true_eq_false, not_false_eq_true, h1, oZn1, decide_true, Bool.true_or]
  · by_cases h2 : t = 11
    · subst h2
      simp (disch := omega) only [↓uGI, ↓uGL, ↓uGR, ↓uPI, ↓uPL, ↓uPR, ↓uAL, ↓uQL, ↓uAS, ↓uQS, ↓uAN, ↓uCV, ↓oCL, ↓oNO, ↓uNA, ↓oNN, ↓oZ0, ↓oZ1, gI_pI, gI_pL, gI_pR, gI_pA, gI_pQ, gL_pI, gL_pL, gL_pR, gL_pA, gL_pQ, gR_pI, gR_pL, gR_pR, gR_pA, gR_pQ, gA_pI, gA_pL, gA_pR, gA_pA, gA_pQ, gQ_pI, gQ_pL, gQ_pR, gQ_pA, gQ_pQ, gK_pI, gK_pL, gK_pR, gK_pA, gK_pQ, gN_pI, gN_pL, gN_pR, gN_pA, gN_pQ, gS_pI, gS_pL, gS_pR, gS_pA, gS_pQ, gI_mk, gL_mk, gR_mk, gA_mk, gQ_mk, gK_mk, gN_mk, gS_mk, vn0, vn1, lt0, leN, ltN, eqN, eqM1, M1eq, le0n, eq0n, nI_add, nI_mul, ↓reduceIte, Nat.reduceAdd, Nat.reduceMul, Nat.reduceEqDiff, Nat.reduceLT, Nat.reduceLeDiff, and_true, true_and, and_false, false_and, and_self, reduceCtorEq, not_true_eq_false, not_false_eq_true, oZn1, beq_self_eq_true, Bool.or_true]
    · simp (disch := omega) only [↓uGI, ↓uGL, ↓uGR, ↓uPI, ↓uPL, ↓uPR, ↓uAL, ↓uQL, ↓uAS, ↓uQS, ↓uAN, ↓uCV, ↓oCL, ↓oNO, ↓uNA, ↓oNN, ↓oZ0, ↓oZ1, gI_pI, gI_pL, gI_pR, gI_pA, gI_pQ, gL_pI, gL_pL, gL_pR, gL_pA, gL_pQ, gR_pI, gR_pL, gR_pR, gR_pA, gR_pQ, gA_pI, gA_pL, gA_pR, gA_pA, gA_pQ, gQ_pI, gQ_pL, gQ_pR, gQ_pA, gQ_pQ, gK_pI, gK_pL, gK_pR, gK_pA, gK_pQ, gN_pI, gN_pL, gN_pR, gN_pA, gN_pQ, gS_pI, gS_pL, gS_pR, gS_pA, gS_pQ, gI_mk, gL_mk, gR_mk, gA_mk, gQ_mk, gK_mk, gN_mk, gS_mk, vn0, vn1, lt0, leN, ltN, eqN, eqM1, M1eq, le0n, eq0n, nI_add, nI_mul, ↓reduceIte, Nat.reduceAdd, Nat.reduceMul, Nat.reduceEqDiff, Nat.reduceLT, Nat.reduceLeDiff, and_true, true_and, and_false, false_and, and_self, reduceCtorEq, not_true_eq_false, not_false_eq_true, h1, h2, oZn0, decide_false, Bool.false_or, beq_iff_eq]
theorem ref_isBk {h : AH} {t : Nat} (ht : t < 1000) : fX9_isBlockTag (nI t) h = some (bI (isBk t), h) := by
  simp only [fX9_isBlockTag, fX9_isBlockTag_0, fX9_isBlockTag_11, fX9_isBlockTag_16, isBk, bI]
  by_cases h1 : t ≤ 5
  · simp (disch := omega) only [↓uGI, ↓uGL, ↓uGR, ↓uPI, ↓uPL, ↓uPR, ↓uAL, ↓uQL, ↓uAS, ↓uQS, ↓uAN, ↓uCV, ↓oCL, ↓oNO, ↓uNA, ↓oNN, ↓oZ0, ↓oZ1, gI_pI, gI_pL, gI_pR, gI_pA, gI_pQ, gL_pI, gL_pL, gL_pR, gL_pA, gL_pQ, gR_pI, gR_pL, gR_pR, gR_pA, gR_pQ, gA_pI, gA_pL, gA_pR, gA_pA, gA_pQ, gQ_pI, gQ_pL, gQ_pR, gQ_pA, gQ_pQ, gK_pI, gK_pL, gK_pR, gK_pA, gK_pQ, gN_pI, gN_pL, gN_pR, gN_pA, gN_pQ, gS_pI, gS_pL, gS_pR, gS_pA, gS_pQ, gI_mk, gL_mk, gR_mk, gA_mk, gQ_mk, gK_mk, gN_mk, gS_mk, vn0, vn1, lt0, leN, ltN, eqN, eqM1, M1eq, le0n, eq0n, nI_add, nI_mul, ↓reduceIte, Nat.reduceAdd, Nat.reduceMul, Nat.reduceEqDiff, Nat.reduceLT, Nat.reduceLeDiff, and_true, true_and, and_false, false_and, and_self, reduceCtorEq, not_true_eq_false, not_false_eq_true, h1, oZn1, decide_true, Bool.true_or]
  · by_cases h2 : t = 11
    · subst h2
      simp (disch := omega) only [↓uGI, ↓uGL, ↓uGR, ↓uPI, ↓uPL, ↓uPR, ↓uAL, ↓uQL, ↓uAS, ↓uQS, ↓uAN, ↓uCV, ↓oCL, ↓oNO, ↓uNA, ↓oNN, ↓oZ0, ↓oZ1, gI_pI, gI_pL, gI_pR, gI_pA, gI_pQ, gL_pI, gL_pL, gL_pR, gL_pA, gL_pQ, gR_pI, gR_pL, gR_pR, gR_pA, gR_pQ, gA_pI, gA_pL, gA_pR, gA_pA, gA_pQ, gQ_pI, gQ_pL, gQ_pR, gQ_pA, gQ_pQ, gK_pI, gK_pL, gK_pR, gK_pA, gK_pQ, gN_pI, gN_pL, gN_pR, gN_pA, gN_pQ, gS_pI, gS_pL, gS_pR, gS_pA, gS_pQ, gI_mk, gL_mk, gR_mk, gA_mk, gQ_mk, gK_mk, gN_mk, gS_mk, vn0, vn1, lt0, leN, ltN, eqN, eqM1, M1eq, le0n, eq0n, nI_add, nI_mul, ↓reduceIte, Nat.reduceAdd, Nat.reduceMul, Nat.reduceEqDiff, Nat.reduceLT, Nat.reduceLeDiff, and_true, true_and, and_false, false_and, and_self, reduceCtorEq, not_true_eq_false, not_false_eq_true, oZn1, beq_self_eq_true, Bool.or_true]
    · simp (disch := omega) only [↓uGI, ↓uGL, ↓uGR, ↓uPI, ↓uPL, ↓uPR, ↓uAL, ↓uQL, ↓uAS, ↓uQS, ↓uAN, ↓uCV, ↓oCL, ↓oNO, ↓uNA, ↓oNN, ↓oZ0, ↓oZ1, gI_pI, gI_pL, gI_pR, gI_pA, gI_pQ, gL_pI, gL_pL, gL_pR, gL_pA, gL_pQ, gR_pI, gR_pL, gR_pR, gR_pA, gR_pQ, gA_pI, gA_pL, gA_pR, gA_pA, gA_pQ, gQ_pI, gQ_pL, gQ_pR, gQ_pA, gQ_pQ, gK_pI, gK_pL, gK_pR, gK_pA, gK_pQ, gN_pI, gN_pL, gN_pR, gN_pA, gN_pQ, gS_pI, gS_pL, gS_pR, gS_pA, gS_pQ, gI_mk, gL_mk, gR_mk, gA_mk, gQ_mk, gK_mk, gN_mk, gS_mk, vn0, vn1, lt0, leN, ltN, eqN, eqM1, M1eq, le0n, eq0n, nI_add, nI_mul, ↓reduceIte, Nat.reduceAdd, Nat.reduceMul, Nat.reduceEqDiff, Nat.reduceLT, Nat.reduceLeDiff, and_true, true_and, and_false, false_and, and_self, reduceCtorEq, not_true_eq_false, not_false_eq_true, h1, h2, oZn0, decide_false, Bool.false_or, beq_iff_eq]

/-! NAMES as longs (class) -/
def wrongV (r : Option Nat) : Int32 := match r with
  | none => 0
  | some k => (-1000) - nI k
def wname (tp : Nat → Int32) (n : Nat) : Option Nat := match badA tp n 0 with
  | some k => some k
  | none => wn (fun k => tbv (tp k)) n
theorem cls_wrongName {h : AH} {t b n : Nat} {tp : Nat → Int32} (hT : TapeC h t b n tp) : fX6_wrongAsName (some t) h = some (wrongV (wname tp n), h) := by
  obtain ⟨h1, h2, h3, h4, h5, h6⟩ := id hT
  have hle := nlen_le (tx := fun k => tbv (tp k)) (n := n) 8 0
  simp only [fX6_wrongAsName, fX6_wrongAsName_0, fX6_wrongAsName_37, fX6_wrongAsName_42, wname]
  cases hb : badA tp n 0 with
  | some k =>
    have hk := badA_some _ _ _ hb
    simp (disch := omega) only [↓uGI, ↓uGL, ↓uGR, ↓uPI, ↓uPL, ↓uPR, ↓uAL, ↓uQL, ↓uAS, ↓uQS, ↓uAN, ↓uCV, ↓oCL, ↓oNO, ↓uNA, ↓oNN, ↓oZ0, ↓oZ1, gI_pI, gI_pL, gI_pR, gI_pA, gI_pQ, gL_pI, gL_pL, gL_pR, gL_pA, gL_pQ, gR_pI, gR_pL, gR_pR, gR_pA, gR_pQ, gA_pI, gA_pL, gA_pR, gA_pA, gA_pQ, gQ_pI, gQ_pL, gQ_pR, gQ_pA, gQ_pQ, gK_pI, gK_pL, gK_pR, gK_pA, gK_pQ, gN_pI, gN_pL, gN_pR, gN_pA, gN_pQ, gS_pI, gS_pL, gS_pR, gS_pA, gS_pQ, gI_mk, gL_mk, gR_mk, gA_mk, gQ_mk, gK_mk, gN_mk, gS_mk, vn0, vn1, lt0, leN, ltN, eqN, eqM1, M1eq, le0n, eq0n, nI_add, nI_mul, ↓reduceIte, Nat.reduceAdd, Nat.reduceMul, Nat.reduceEqDiff, Nat.reduceLT, Nat.reduceLeDiff, and_true, true_and, and_false, false_and, and_self, reduceCtorEq, not_true_eq_false, not_false_eq_true, h1, cls_bad hT, hb, oI, wrongV]
  | none =>
    simp (disch := omega) only [↓uGI, ↓uGL, ↓uGR, ↓uPI, ↓uPL, ↓uPR, ↓uAL, ↓uQL, ↓uAS, ↓uQS, ↓uAN, ↓uCV, ↓oCL, ↓oNO, ↓uNA, ↓oNN, ↓oZ0, ↓oZ1, gI_pI, gI_pL, gI_pR, gI_pA, gI_pQ, gL_pI, gL_pL, gL_pR, gL_pA, gL_pQ, gR_pI, gR_pL, gR_pR, gR_pA, gR_pQ, gA_pI, gA_pL, gA_pR, gA_pA, gA_pQ, gQ_pI, gQ_pL, gQ_pR, gQ_pA, gQ_pQ, gK_pI, gK_pL, gK_pR, gK_pA, gK_pQ, gN_pI, gN_pL, gN_pR, gN_pA, gN_pQ, gS_pI, gS_pL, gS_pR, gS_pA, gS_pQ, gI_mk, gL_mk, gR_mk, gA_mk, gQ_mk, gK_mk, gN_mk, gS_mk, vn0, vn1, lt0, leN, ltN, eqN, eqM1, M1eq, le0n, eq0n, nI_add, nI_mul, ↓reduceIte, Nat.reduceAdd, Nat.reduceMul, Nat.reduceEqDiff, Nat.reduceLT, Nat.reduceLeDiff, and_true, true_and, and_false, false_and, and_self, reduceCtorEq, not_true_eq_false, not_false_eq_true, h1, cls_bad hT, hb, oI, cls_nlen hT, h4, wn, wrongV]
    generalize nlen (fun k => tbv (tp k)) n 8 0 = k at hle
    by_cases c0 : k = 0
    · subst c0
      simp
    · by_cases c1 : k = n
      · subst c1
        simp [c0]
        rfl
      · simp [c0, c1, show k < n by omega]
theorem ref_takeName {h : AH} {m n : Nat} {ra : Nat → Nat} {tp : Nat → Int32} (hB : RB h m ra) (hT : TapeR h m ra n tp) (hb : ∀ i, i < n → isB (tp i)) : ∃ h', fX9_takeName (some m) h = some (oI (wname tp n), h') ∧ TxR h' m ra n tp ∧ TapeR h' m ra 0 tp ∧ FrK m ra h h' := by
  obtain ⟨h1, g1, T1, T2, F1⟩ := ref_take hB hT hb
  refine ⟨h1, ?_, T1, T2, F1⟩
  have B1 := F1.RB hB
  simp only [fX9_takeName, fX9_takeName_0, fX9_takeName_21, wname]
  cases hbd : badA tp n 0 with
  | some k =>
    have hk := badA_some _ _ _ hbd
    have := hT.2.1
    simp (disch := omega) only [↓uGI, ↓uGL, ↓uGR, ↓uPI, ↓uPL, ↓uPR, ↓uAL, ↓uQL, ↓uAS, ↓uQS, ↓uAN, ↓uCV, ↓oCL, ↓oNO, ↓uNA, ↓oNN, ↓oZ0, ↓oZ1, gI_pI, gI_pL, gI_pR, gI_pA, gI_pQ, gL_pI, gL_pL, gL_pR, gL_pA, gL_pQ, gR_pI, gR_pL, gR_pR, gR_pA, gR_pQ, gA_pI, gA_pL, gA_pR, gA_pA, gA_pQ, gQ_pI, gQ_pL, gQ_pR, gQ_pA, gQ_pQ, gK_pI, gK_pL, gK_pR, gK_pA, gK_pQ, gN_pI, gN_pL, gN_pR, gN_pA, gN_pQ, gS_pI, gS_pL, gS_pR, gS_pA, gS_pQ, gI_mk, gL_mk, gR_mk, gA_mk, gQ_mk, gK_mk, gN_mk, gS_mk, vn0, vn1, lt0, leN, ltN, eqN, eqM1, M1eq, le0n, eq0n, nI_add, nI_mul, ↓reduceIte, Nat.reduceAdd, Nat.reduceMul, Nat.reduceEqDiff, Nat.reduceLT, Nat.reduceLeDiff, and_true, true_and, and_false, false_and, and_self, reduceCtorEq, not_true_eq_false, not_false_eq_true, hB.o, g1, hbd, oI]
  | none =>
    have hok := badA_none _ _ hbd
    simp (disch := omega) only [↓uGI, ↓uGL, ↓uGR, ↓uPI, ↓uPL, ↓uPR, ↓uAL, ↓uQL, ↓uAS, ↓uQS, ↓uAN, ↓uCV, ↓oCL, ↓oNO, ↓uNA, ↓oNN, ↓oZ0, ↓oZ1, gI_pI, gI_pL, gI_pR, gI_pA, gI_pQ, gL_pI, gL_pL, gL_pR, gL_pA, gL_pQ, gR_pI, gR_pL, gR_pR, gR_pA, gR_pQ, gA_pI, gA_pL, gA_pR, gA_pA, gA_pQ, gQ_pI, gQ_pL, gQ_pR, gQ_pA, gQ_pQ, gK_pI, gK_pL, gK_pR, gK_pA, gK_pQ, gN_pI, gN_pL, gN_pR, gN_pA, gN_pQ, gS_pI, gS_pL, gS_pR, gS_pA, gS_pQ, gI_mk, gL_mk, gR_mk, gA_mk, gQ_mk, gK_mk, gN_mk, gS_mk, vn0, vn1, lt0, leN, ltN, eqN, eqM1, M1eq, le0n, eq0n, nI_add, nI_mul, ↓reduceIte, Nat.reduceAdd, Nat.reduceMul, Nat.reduceEqDiff, Nat.reduceLT, Nat.reduceLeDiff, and_true, true_and, and_false, false_and, and_self, reduceCtorEq, not_true_eq_false, not_false_eq_true, hB.o, g1, hbd, oI, show ((-1 : Int32) < 0) = True by decide, B1.o, T1.1, ref_wrongName B1 T1 (Nat.le_refl _) (fun k hk => hok k (by omega) (by omega)) hb]
/-- a NAME's bytes, its last one lowest; over the turned list -/
def rpk : List Nat → Nat
  | [] => 0
  | c :: r => rpk r * 256 + c
def pack (l : List Nat) : Nat := rpk l.reverse
def vch (l : List Nat) : Prop := ∀ c ∈ l, 0 < c ∧ c < 128
theorem pack_snoc (l : List Nat) (c : Nat) : pack (l ++ [c]) = pack l * 256 + c := by unfold pack; rw [List.reverse_append]; rfl
/-- the turned list's first byte is the name's last: what lies above it -/
theorem rpk_lt : ∀ (r : List Nat), vch r → ∀ k, r.length = k → (0 < k → rpk r < 128 * 256 ^ (k - 1) ∧ 256 ^ (k - 1) ≤ rpk r) := by
  intro r
  induction r with
  | nil => intro _ k hk h0; simp at hk; omega
  | cons c r ih =>
    intro hv k hk h0
    have hc := hv c List.mem_cons_self
    simp only [List.length_cons] at hk
    rcases Nat.eq_zero_or_pos (k - 1) with hz | hz
    · have : r = [] := List.length_eq_zero_iff.mp (by omega)
      subst this
      rw [hz]
      simp [rpk]
      omega
    · have := ih (fun x hx => hv x (List.mem_cons_of_mem _ hx)) (k - 1) (by omega) hz
      have e : 256 ^ (k - 1) = 256 ^ (k - 1 - 1) * 256 := by rw [← Nat.pow_succ]; congr 1; omega
      rw [e]
      unfold rpk
      omega
theorem vch_rev {l : List Nat} (h : vch l) : vch l.reverse := fun c hc => h c (List.mem_reverse.mp hc)
theorem pack_lt {l : List Nat} (hv : vch l) (hl : l.length ≤ 8) : pack l < 2 ^ 63 := by
  rcases Nat.eq_zero_or_pos l.length with h0 | h0
  · have : l = [] := List.length_eq_zero_iff.mp h0
    subst this
    decide
  · have h1 := (rpk_lt l.reverse (vch_rev hv) l.length (by simp) h0).1
    have h2 : 256 ^ (l.length - 1) ≤ 256 ^ 7 := Nat.pow_le_pow_right (by omega) (by omega)
    have h3 : 128 * 256 ^ (l.length - 1) ≤ 128 * 256 ^ 7 := Nat.mul_le_mul_left _ h2
    have h4 : (128 * 256 ^ 7 : Nat) = 2 ^ 63 := by decide
    unfold pack
    omega
theorem pack_full {l : List Nat} (hv : vch l) (hl : l.length = 8) : 2 ^ 56 ≤ pack l := by
  have h1 := (rpk_lt l.reverse (vch_rev hv) l.length (by simp) (by omega)).2
  rw [hl] at h1
  have h4 : (256 ^ (8 - 1) : Nat) = 2 ^ 56 := by decide
  unfold pack
  omega
theorem pack_short {l : List Nat} (hv : vch l) (hl : l.length < 8) : pack l < 2 ^ 55 := by
  rcases Nat.eq_zero_or_pos l.length with h0 | h0
  · have : l = [] := List.length_eq_zero_iff.mp h0
    subst this
    decide
  · have h1 := (rpk_lt l.reverse (vch_rev hv) l.length (by simp) h0).1
    have h2 : 256 ^ (l.length - 1) ≤ 256 ^ 6 := Nat.pow_le_pow_right (by omega) (by omega)
    have h3 : 128 * 256 ^ (l.length - 1) ≤ 128 * 256 ^ 6 := Nat.mul_le_mul_left _ h2
    have h4 : (128 * 256 ^ 6 : Nat) = 2 ^ 55 := by decide
    unfold pack
    omega
theorem rpk_inj : ∀ (r s : List Nat), vch r → vch s → rpk r = rpk s → r = s := by
  intro r
  induction r with
  | nil =>
    intro s _ hs h
    cases s with
    | nil => rfl
    | cons d s =>
      have := hs d List.mem_cons_self
      have h' : 0 = rpk s * 256 + d := h
      omega
  | cons c r ih =>
    intro s hr hs h
    have hc := hr c List.mem_cons_self
    cases s with
    | nil =>
      have h' : rpk r * 256 + c = 0 := h
      omega
    | cons d s =>
      have hd := hs d List.mem_cons_self
      simp only [rpk] at h
      have e1 : c = d := by omega
      have e2 : rpk r = rpk s := by omega
      rw [e1, ih s (fun x hx => hr x (List.mem_cons_of_mem _ hx)) (fun x hx => hs x (List.mem_cons_of_mem _ hx)) e2]
theorem pack_inj {a b : List Nat} (ha : vch a) (hb : vch b) (h : pack a = pack b) : a = b := by
  have := rpk_inj a.reverse b.reverse (vch_rev ha) (vch_rev hb) h
  have h2 := congrArg List.reverse this
  simpa using h2
theorem lgc (x y : Int64) : (lg_cmp x y = 0) = (x = y) := by
  unfold lg_cmp
  by_cases h1 : x > y
  · rw [if_pos h1]
    have h2 : ¬ x = y := fun q => by subst q; exact absurd h1 Int64.lt_irrefl
    simp [h2]
  · rw [if_neg h1]
    by_cases h2 : x = y
    · simp [h2]
    · simp [h2]
/-- a byte more, if there is room -/
def nadd (l : List Nat) (c : Nat) : List Nat := if l.length < 8 then l ++ [c] else l
theorem nadd_len {l : List Nat} {c : Nat} (h : l.length ≤ 8) : (nadd l c).length ≤ 8 := by
  unfold nadd
  split
  · rw [List.length_append]; simp; omega
  · exact h
theorem nadd_v {l : List Nat} {c : Nat} (hv : vch l) (hc : 0 < c ∧ c < 128) : vch (nadd l c) := by
  unfold nadd
  split
  · intro x hx
    rcases List.mem_append.mp hx with h | h
    · exact hv x h
    · rw [List.mem_singleton.mp h]; exact hc
  · exact hv
theorem cls_longer {h : AH} {l : List Nat} {c : Nat} (hv : vch l) (hl : l.length ≤ 8) (hc : c < 128) : fX8_longer (lN (pack l)) (nI c) h = some (lN (pack (nadd l c)), h) := by
  have hp := pack_lt hv hl
  have e1 : (Int64.toUInt64 (lN (pack l)) >>> ((Int32.toInt64 (nI 56)).toUInt64 &&& Int64.toUInt64 63)).toInt64 = lN (pack l / 2 ^ 56) := wb_shr (by omega) (by omega)
  have e2 : lN (pack l) <<< (Int32.toInt64 (nI 8) &&& 63) = lN (pack l * 2 ^ 8) := wb_shl _ (by omega)
  simp only [fX8_longer, fX8_longer_0, fX8_longer_14, fX8_longer_30, e1, e2, lgc]
  unfold nadd
  by_cases hf : l.length < 8
  · have hs := pack_short hv hf
    have e3 : pack l / 2 ^ 56 = 0 := by omega
    have e4 : (nI c).toInt64 = lN c := nI_l (by omega)
    have e5 : lN (pack l * 2 ^ 8) ||| lN c = lN (pack l * 256 + c) := g_or (k := 8) (p := 256) rfl (by omega) (by omega)
    rw [e3, if_pos hf, pack_snoc, e4, e5]
    rfl
  · have hs := pack_full hv (by omega)
    have e3 : ¬ lN (pack l / 2 ^ 56) = 0 := by
      rw [show (0 : Int64) = lN 0 from rfl, pk_lEQ (by omega) (by omega)]
      omega
    rw [if_neg e3, if_neg hf]
    rfl

/-! find(behind) -/
theorem Wf.par {T : TS} {kd : Nat → List Nat} (w : Wf T kd) {k p : Nat} (hu : tIs T k = true) (hp : tPar T k = some p) : tIs T p = true ∧ tDep T k = tDep T p + 1 ∧ k ∈ kd p := by
  have h0 : k ≠ 0 := fun z => by rw [z, w.2.1] at hp; cases hp
  obtain ⟨p', p1, p2, p3⟩ := w.2.2.2.2.2.2.1 k hu h0
  have e : p' = p := by rw [hp] at p2; cases p2; rfl
  subst e
  exact ⟨p1, (w.kid p1 p3).2.2, p3⟩
/-- reference: the links of T lie in the arrays, for NODES of S -/
def LnR (h : AH) (ra : Nat → Nat) (T : TS) (S : Nat → Prop) (top : Nat) : Prop := ∀ i, S i → tIs T i = true ∧ gA h (ra 11) i = oI (tFk T i) ∧ (i ≠ top → gA h (ra 10) i = oI (tPar T i) ∧ gA h (ra 13) i = oI (tNx T i) ∧ ∀ p, tPar T i = some p → S p)
theorem RefT.ln {h : AH} {m : Nat} {ra : Nat → Nat} {T : TS} {kd : Nat → List Nat} (q : RefT h m ra T) (w : Wf T kd) (hS : SizT T) (top : Nat) : LnR h ra T (fun i => tIs T i = true) top := fun i hu => by
  obtain ⟨w1, w2, w3, w4, w5, w6, w7, -⟩ := (q.2 i (hS.lt hu)).2 hu
  exact ⟨hu, w5, fun _ => ⟨w4, w7, fun p hp => (w.par hu hp).1⟩⟩
theorem ref_behind_L {h : AH} {m top : Nat} {ra : Nat → Nat} {T : TS} {S : Nat → Prop} {kd : Nat → List Nat} (hB : RB h m ra) (hL : LnR h ra T S top) (w : Wf T kd) (hS : SizT T) (htop : top < 120) : ∀ (e f k : Nat), S k → Anc T top e k → e < f → fX9_behind_2 f (some m) (nI top) (nI k) h = some (oI (bhT T top k), h) := by
  intro e
  induction e with
  | zero =>
    intro f k hu hc hf
    obtain ⟨f, rfl⟩ : ∃ g, f = g + 1 := ⟨f - 1, by omega⟩
    have e : k = top := hc
    subst e
    rw [fX9_behind_2, bhT_top]
    simp (disch := omega) only [↓uGI, ↓uGL, ↓uGR, ↓uPI, ↓uPL, ↓uPR, ↓uAL, ↓uQL, ↓uAS, ↓uQS, ↓uAN, ↓uCV, ↓oCL, ↓oNO, ↓uNA, ↓oNN, ↓oZ0, ↓oZ1, gI_pI, gI_pL, gI_pR, gI_pA, gI_pQ, gL_pI, gL_pL, gL_pR, gL_pA, gL_pQ, gR_pI, gR_pL, gR_pR, gR_pA, gR_pQ, gA_pI, gA_pL, gA_pR, gA_pA, gA_pQ, gQ_pI, gQ_pL, gQ_pR, gQ_pA, gQ_pQ, gK_pI, gK_pL, gK_pR, gK_pA, gK_pQ, gN_pI, gN_pL, gN_pR, gN_pA, gN_pQ, gS_pI, gS_pL, gS_pR, gS_pA, gS_pQ, gI_mk, gL_mk, gR_mk, gA_mk, gQ_mk, gK_mk, gN_mk, gS_mk, vn0, vn1, lt0, leN, ltN, eqN, eqM1, M1eq, le0n, eq0n, nI_add, nI_mul, ↓reduceIte, Nat.reduceAdd, Nat.reduceMul, Nat.reduceEqDiff, Nat.reduceLT, Nat.reduceLeDiff, and_true, true_and, and_false, false_and, and_self, reduceCtorEq, not_true_eq_false, not_false_eq_true, fX9_behind_27, fX9_behind_42, oI]
  | succ e ih =>
    intro f k hu hc hf
    obtain ⟨f, rfl⟩ : ∃ g, f = g + 1 := ⟨f - 1, by omega⟩
    by_cases ek : k = top
    · subst ek
      rw [fX9_behind_2, bhT_top]
      simp (disch := omega) only [↓uGI, ↓uGL, ↓uGR, ↓uPI, ↓uPL, ↓uPR, ↓uAL, ↓uQL, ↓uAS, ↓uQS, ↓uAN, ↓uCV, ↓oCL, ↓oNO, ↓uNA, ↓oNN, ↓oZ0, ↓oZ1, gI_pI, gI_pL, gI_pR, gI_pA, gI_pQ, gL_pI, gL_pL, gL_pR, gL_pA, gL_pQ, gR_pI, gR_pL, gR_pR, gR_pA, gR_pQ, gA_pI, gA_pL, gA_pR, gA_pA, gA_pQ, gQ_pI, gQ_pL, gQ_pR, gQ_pA, gQ_pQ, gK_pI, gK_pL, gK_pR, gK_pA, gK_pQ, gN_pI, gN_pL, gN_pR, gN_pA, gN_pQ, gS_pI, gS_pL, gS_pR, gS_pA, gS_pQ, gI_mk, gL_mk, gR_mk, gA_mk, gQ_mk, gK_mk, gN_mk, gS_mk, vn0, vn1, lt0, leN, ltN, eqN, eqM1, M1eq, le0n, eq0n, nI_add, nI_mul, ↓reduceIte, Nat.reduceAdd, Nat.reduceMul, Nat.reduceEqDiff, Nat.reduceLT, Nat.reduceLeDiff, and_true, true_and, and_false, false_and, and_self, reduceCtorEq, not_true_eq_false, not_false_eq_true, fX9_behind_27, fX9_behind_42, oI]
    · rcases hc with z | ⟨p, p1, p2, p3⟩
      · exact absurd z ek
      · obtain ⟨hut, l2, l13⟩ := hL k hu
        obtain ⟨l1, l3, lp⟩ := l13 ek
        have hk := hS.lt hut
        have hd := (w.par hut p1).2.1
        have ihp := ih f p (lp p p1) p3 (by omega)
        have hx : ∀ y, tNx T k = some y → y < 120 := fun y hy => ((hS.2 k hut).2.2.2.2.2.2.2.2.2 y (Or.inr (Or.inr (Or.inr (Or.inl hy))))).1
        rw [fX9_behind_2, bhT_kid ek p1 hd]
        simp (disch := omega) only [↓uGI, ↓uGL, ↓uGR, ↓uPI, ↓uPL, ↓uPR, ↓uAL, ↓uQL, ↓uAS, ↓uQS, ↓uAN, ↓uCV, ↓oCL, ↓oNO, ↓uNA, ↓oNN, ↓oZ0, ↓oZ1, gI_pI, gI_pL, gI_pR, gI_pA, gI_pQ, gL_pI, gL_pL, gL_pR, gL_pA, gL_pQ, gR_pI, gR_pL, gR_pR, gR_pA, gR_pQ, gA_pI, gA_pL, gA_pR, gA_pA, gA_pQ, gQ_pI, gQ_pL, gQ_pR, gQ_pA, gQ_pQ, gK_pI, gK_pL, gK_pR, gK_pA, gK_pQ, gN_pI, gN_pL, gN_pR, gN_pA, gN_pQ, gS_pI, gS_pL, gS_pR, gS_pA, gS_pQ, gI_mk, gL_mk, gR_mk, gA_mk, gQ_mk, gK_mk, gN_mk, gS_mk, vn0, vn1, lt0, leN, ltN, eqN, eqM1, M1eq, le0n, eq0n, nI_add, nI_mul, ↓reduceIte, Nat.reduceAdd, Nat.reduceMul, Nat.reduceEqDiff, Nat.reduceLT, Nat.reduceLeDiff, and_true, true_and, and_false, false_and, and_self, reduceCtorEq, not_true_eq_false, not_false_eq_true, ek, hB.o, hB.r13, hB.k13, hB.r10, hB.k10, hk, l3, l1, fX9_behind_27, fX9_behind_42]
        cases hn : tNx T k with
        | none =>
          simp only [oI, ↓reduceIte, p1]
          exact ihp
        | some y =>
          have := hx y hn
          simp (disch := omega) only [oI, eqM1, ↓reduceIte]
theorem ref_after {h : AH} {m top k e : Nat} {ra : Nat → Nat} {T : TS} {S : Nat → Prop} {kd : Nat → List Nat} (hB : RB h m ra) (hL : LnR h ra T S top) (w : Wf T kd) (hS : SizT T) (htop : top < 120) (hsk : S k) (hc : Anc T top e k) (he : e < 100) : fX9_after (some m) (nI k) (nI top) h = some (oI (aftT T top k), h) := by
  obtain ⟨hu, l2, -⟩ := hL k hsk
  have hk := hS.lt hu
  have hb := ref_behind_L hB hL w hS htop e FU k hsk hc (by have := FU_ge; omega)
  simp only [fX9_after, fX9_after_0, fX9_behind, fX9_behind_0]
  unfold aftT
  simp (disch := omega) only [↓uGI, ↓uGL, ↓uGR, ↓uPI, ↓uPL, ↓uPR, ↓uAL, ↓uQL, ↓uAS, ↓uQS, ↓uAN, ↓uCV, ↓oCL, ↓oNO, ↓uNA, ↓oNN, ↓oZ0, ↓oZ1, gI_pI, gI_pL, gI_pR, gI_pA, gI_pQ, gL_pI, gL_pL, gL_pR, gL_pA, gL_pQ, gR_pI, gR_pL, gR_pR, gR_pA, gR_pQ, gA_pI, gA_pL, gA_pR, gA_pA, gA_pQ, gQ_pI, gQ_pL, gQ_pR, gQ_pA, gQ_pQ, gK_pI, gK_pL, gK_pR, gK_pA, gK_pQ, gN_pI, gN_pL, gN_pR, gN_pA, gN_pQ, gS_pI, gS_pL, gS_pR, gS_pA, gS_pQ, gI_mk, gL_mk, gR_mk, gA_mk, gQ_mk, gK_mk, gN_mk, gS_mk, vn0, vn1, lt0, leN, ltN, eqN, eqM1, M1eq, le0n, eq0n, nI_add, nI_mul, ↓reduceIte, Nat.reduceAdd, Nat.reduceMul, Nat.reduceEqDiff, Nat.reduceLT, Nat.reduceLeDiff, and_true, true_and, and_false, false_and, and_self, reduceCtorEq, not_true_eq_false, not_false_eq_true, hB.o, hB.r11, hB.k11, hk, l2, hb]
  cases hf : tFk T k with
  | none => simp only [oI, ↓reduceIte]
  | some x =>
    have := ((hS.2 k hu).2.2.2.2.2.2.2.2.2 x (Or.inr (Or.inl hf))).1
    simp (disch := omega) only [oI, eqM1, ↓reduceIte]
theorem cls_next_L {h : AH} {ad : Nat → Nat → Nat → Nat} {tr nd : Nat} {T : TS} {kd : Nat → List Nat} (hC : ClsT h ad tr nd T) (w : Wf T kd) (hS : SizT T) : ∀ (e f k : Nat), tIs T k = true → Anc T 0 e k → e + 1 < f → fX3_nextInTree_14 f (some (ad 1 k 0)) h = some (oN ad (bhT T 0 k), h) := by
  have root : ∀ f, 1 < f → fX3_nextInTree_14 f (some (ad 1 0 0)) h = some (oN ad (bhT T 0 0), h) := fun f hf => by
    obtain ⟨f, rfl⟩ : ∃ g, f = g + 1 + 1 := ⟨f - 2, by omega⟩
    obtain ⟨-, ⟨b1, -⟩, v1, v2, v3, v4, v5, v6, -⟩ := hC.nd (by omega) w.1
    rw [w.2.1] at v4
    rw [w.2.2.2.1] at v6
    rw [fX3_nextInTree_14, bhT_top]
    simp only [some_ne, ↓reduceIte, ↓uGR, b1, v6, v4, oN_n, Nat.reduceAdd]
    rw [fX3_nextInTree_14]
    simp only [↓reduceIte, fX3_nextInTree_38]
  intro e
  induction e with
  | zero =>
    intro f k hu hc hf
    have e : k = 0 := hc
    subst e
    exact root f (by omega)
  | succ e ih =>
    intro f k hu hc hf
    by_cases ek : k = 0
    · subst ek
      exact root f (by omega)
    · obtain ⟨f, rfl⟩ : ∃ g, f = g + 1 := ⟨f - 1, by omega⟩
      rcases hc with z | ⟨p, p1, p2, p3⟩
      · exact absurd z ek
      · have hk := hS.lt hu
        have hd := (w.par hu p1).2.1
        have ihp := ih f p p2 p3 (by omega)
        obtain ⟨-, ⟨b1, -⟩, v1, v2, v3, v4, v5, v6, -⟩ := hC.nd hk hu
        rw [p1] at v4
        rw [fX3_nextInTree_14, bhT_kid ek p1 hd]
        simp only [some_ne, ↓reduceIte, ↓uGR, b1, v6, v4, Nat.reduceAdd, fX3_nextInTree_25]
        cases hn : tNx T k with
        | none =>
          simp only [oN_n, ↓reduceIte, oN_s]
          exact ihp
        | some y => simp only [oN_s, some_ne, ↓reduceIte]
theorem cls_next {h : AH} {ad : Nat → Nat → Nat → Nat} {tr nd k : Nat} {T : TS} {kd : Nat → List Nat} (hC : ClsT h ad tr nd T) (w : Wf T kd) (hS : SizT T) (hu : tIs T k = true) : fX3_nextInTree (some (ad 1 k 0)) h = some (oN ad (aftT T 0 k), h) := by
  have hk := hS.lt hu
  have hd := (hS.2 k hu).2.2.2.2.2.2.2.2.1
  have hL := cls_next_L hC w hS 20 FU k hu (anc_root w 20 k hu hd) (by have := FU_ge; omega)
  obtain ⟨-, ⟨b1, -⟩, v1, v2, v3, v4, v5, v6, v7, -⟩ := hC.nd hk hu
  simp only [fX3_nextInTree, fX3_nextInTree_0]
  unfold aftT
  simp only [↓uGR, b1, v7, ↓reduceIte, Nat.reduceAdd, hL]
  cases hf : tFk T k with
  | none => simp only [oN_n, ↓reduceIte]
  | some x => simp only [oN_s, some_ne, ↓reduceIte]
/-- is it an ELEMENT of this NAME -/
def isNm (T : TS) (nm : List Nat) (i : Nat) : Bool := decide (tTag T i ≠ 17) && decide (tNam T i = nm)
theorem cls_find_L {h : AH} {ad : Nat → Nat → Nat → Nat} {tr nd : Nat} {T : TS} {kd : Nat → List Nat} {nm : List Nat} (hC : ClsT h ad tr nd T) (w : Wf T kd) (hS : SizT T) (hv : vch nm) (hl : nm.length ≤ 8) : ∀ (l : List Nat) (o : Option Nat) (f c : Nat), Seg (aftT T 0) o l none → (∀ x ∈ l, tIs T x = true) → c + l.length ≤ 120 → l.length < f → fX8_findElement_72 f (oN ad o) (lN (pack nm)) (nI c) h = some (oI (l.find? (isNm T nm)), h) := by
  intro l
  induction l with
  | nil =>
    intro o f c hs hm hc hf
    obtain ⟨f, rfl⟩ : ∃ g, f = g + 1 := ⟨f - 1, by simp at hf; omega⟩
    have e : o = none := hs
    subst e
    rw [fX8_findElement_72]
    simp only [oN_n, ↓reduceIte, fX8_findElement_118, List.find?_nil, oI, ite_self]
  | cons x l ih =>
    intro o f c hs hm hc hf
    simp only [List.length_cons] at hc hf
    obtain ⟨f, rfl⟩ : ∃ g, f = g + 1 := ⟨f - 1, by omega⟩
    obtain ⟨rfl, hs2⟩ := hs
    have hu := hm x List.mem_cons_self
    have hx := hS.lt hu
    obtain ⟨-, ⟨b1, b2, -⟩, v1, v2, -⟩ := hC.nd hx hu
    obtain ⟨s1, s2, s3, -⟩ := hS.2 x hu
    have ihh := ih _ f (c + 1) hs2 (fun y hy => hm y (List.mem_cons_of_mem _ hy)) (by omega) (by omega)
    have hn := cls_next hC w hS hu
    rw [fX8_findElement_72]
    simp (disch := omega) only [↓uGI, ↓uGL, ↓uGR, ↓uPI, ↓uPL, ↓uPR, ↓uAL, ↓uQL, ↓uAS, ↓uQS, ↓uAN, ↓uCV, ↓oCL, ↓oNO, ↓uNA, ↓oNN, ↓oZ0, ↓oZ1, gI_pI, gI_pL, gI_pR, gI_pA, gI_pQ, gL_pI, gL_pL, gL_pR, gL_pA, gL_pQ, gR_pI, gR_pL, gR_pR, gR_pA, gR_pQ, gA_pI, gA_pL, gA_pR, gA_pA, gA_pQ, gQ_pI, gQ_pL, gQ_pR, gQ_pA, gQ_pQ, gK_pI, gK_pL, gK_pR, gK_pA, gK_pQ, gN_pI, gN_pL, gN_pR, gN_pA, gN_pQ, gS_pI, gS_pL, gS_pR, gS_pA, gS_pQ, gI_mk, gL_mk, gR_mk, gA_mk, gQ_mk, gK_mk, gN_mk, gS_mk, vn0, vn1, lt0, leN, ltN, eqN, eqM1, M1eq, le0n, eq0n, nI_add, nI_mul, ↓reduceIte, Nat.reduceAdd, Nat.reduceMul, Nat.reduceEqDiff, Nat.reduceLT, Nat.reduceLeDiff, and_true, true_and, and_false, false_and, and_self, reduceCtorEq, not_true_eq_false, not_false_eq_true, show ¬ 120 ≤ c by omega, oN_s, some_ne, b1, v1, v2, fX8_findElement_107, fX8_findElement_102, hn, b2, lgc, lNeP (pack_lt s3 s2) (pack_lt hv hl), ihh]
    by_cases h17 : tTag T x = 17
    · have : isNm T nm x = false := by simp [isNm, h17]
      simp only [h17, ↓reduceIte, List.find?_cons, this]
    · by_cases hnm : tNam T x = nm
      · have : isNm T nm x = true := by simp [isNm, h17, hnm]
        simp only [h17, hnm, ↓reduceIte, List.find?_cons, this, oI]
      · have : isNm T nm x = false := by simp [isNm, hnm]
        have hp : ¬ pack (tNam T x) = pack nm := fun z => hnm (pack_inj s3 hv z)
        simp only [h17, hp, ↓reduceIte, List.find?_cons, this]
theorem ref_find_L {h : AH} {m n : Nat} {ra : Nat → Nat} {T : TS} {kd : Nat → List Nat} {nm : List Nat} (hB : RB h m ra) (hR : RefT h m ra T) (w : Wf T kd) (hS : SizT T) (hv : vch nm) (hl : nm.length ≤ 8) (hn : nm.length = n) (h453 : gI h 453 m = nI n) (h2 : ∀ q, q < n → gA h (ra 2) q = nI (nm.getD q 0)) : ∀ (l : List Nat) (o : Option Nat) (f : Nat), Seg (aftT T 0) o l none → (∀ x ∈ l, tIs T x = true) → l.length < f → fX9_find_45 f (some m) (oI o) h = some (oI (l.find? (isNm T nm)), h) := by
  intro l
  induction l with
  | nil =>
    intro o f hs hm hf
    obtain ⟨f, rfl⟩ : ∃ g, f = g + 1 := ⟨f - 1, by simp at hf; omega⟩
    have e : o = none := hs
    subst e
    rw [fX9_find_45]
    simp only [oI, ↓reduceIte, fX9_find_107, List.find?_nil]
  | cons x l ih =>
    intro o f hs hm hf
    simp only [List.length_cons] at hf
    obtain ⟨f, rfl⟩ : ∃ g, f = g + 1 := ⟨f - 1, by omega⟩
    obtain ⟨rfl, hs2⟩ := hs
    have hu := hm x List.mem_cons_self
    have hx := hS.lt hu
    obtain ⟨w1, w2, w3, -⟩ := (hR.2 x hx).2 hu
    obtain ⟨s1, s2, s3, -, -, -, -, -, s9, -⟩ := hS.2 x hu
    have ihh := ih _ f hs2 (fun y hy => hm y (List.mem_cons_of_mem _ hy)) (by omega)
    have haf := ref_after hB (hR.ln w hS 0) w hS (show 0 < 120 by omega) hu (anc_root w 20 x hu s9) (by omega)
    rw [fX9_find_45]
    simp (disch := omega) only [oI_s, eqM1, ↓reduceIte, ↓uGR, ↓uAL, hB.o, hB.r7, hB.k7, hx, w1, eqN, and_self, Nat.reduceAdd, fX9_find_97, fX9_find_107]
    by_cases h17 : tTag T x = 17
    · have : isNm T nm x = false := by simp [isNm, h17]
      simp only [h17, ↓reduceIte, List.find?_cons, this, ↓uCV, hB.o, haf, ↓oCL, ihh, Nat.reduceAdd]
    · simp (disch := omega) only [h17, ↓reduceIte, ↓uGR, ↓uAL, ↓uGI, hB.o, hB.r9, hB.k9, hx, w2, h453, eqN, and_self, Nat.reduceAdd]
      by_cases hle : (tNam T x).length = n
      · have hsm := ref_same (h := h) (a := ra 8) (b := ra 2) (p := 8 * x) (q := 0) (l := tNam T x) (l' := nm) hB.k8 hB.k2 (by omega) (by omega) (by omega) (by omega) (by omega) w3 (fun k hk => by rw [Nat.zero_add]; exact h2 k (by omega)) (fun k => ⟨by have := vch_get s3 k; omega, by have := vch_get hv k; omega⟩)
        rw [hle] at hsm
        simp only [hle, ↓reduceIte, ↓uGR, ↓uGI, hB.o, hB.r8, hB.r2, h453, nI_mul, hsm, ↓oCL, bI0, Nat.reduceAdd]
        by_cases hnm : tNam T x = nm
        · have : isNm T nm x = true := by simp [isNm, h17, hnm]
          simp only [hnm, decide_true, Bool.true_eq_false, ↓reduceIte, List.find?_cons, this, oI]
        · have : isNm T nm x = false := by simp [isNm, hnm]
          simp only [hnm, decide_false, ↓reduceIte, List.find?_cons, this, ↓uCV, hB.o, haf, ↓oCL, ihh, Nat.reduceAdd]
      · have hnm : ¬ tNam T x = nm := fun z => hle (by rw [z]; exact hn)
        have : isNm T nm x = false := by simp [isNm, hnm]
        simp only [hle, ↓reduceIte, List.find?_cons, this, ↓uCV, hB.o, haf, ↓oCL, ihh, Nat.reduceAdd]
/-- where the search begins -/
def fnO (T : TS) (v : Int32) : Option Nat := if v = -1 then some 0 else match nAt T v with
  | none => none
  | some i => aftT T 0 i
theorem used_pre {T : TS} {kd : Nat → List Nat} (w : Wf T kd) (hS : SizT T) : ∀ (e i : Nat), tIs T i = true → tDep T i ≤ e → i ∈ pre kd 20 0 := by
  intro e
  induction e with
  | zero =>
    intro i hu hd
    by_cases h0 : i = 0
    · subst h0; exact pre_self _ _ _
    · obtain ⟨p, p1, p2, p3⟩ := w.2.2.2.2.2.2.1 i hu h0
      have := (w.kid p1 p3).2.2
      omega
  | succ e ih =>
    intro i hu hd
    by_cases h0 : i = 0
    · subst h0; exact pre_self _ _ _
    · obtain ⟨p, p1, p2, p3⟩ := w.2.2.2.2.2.2.1 i hu h0
      have := (w.kid p1 p3).2.2
      exact pre_closed w hS 20 0 w.1 (by omega) p (ih p p1 (by omega)) i p3
theorem fn_walk {T : TS} {kd : Nat → List Nat} (w : Wf T kd) (hS : SizT T) (v : Int32) : ∃ l, Seg (aftT T 0) (fnO T v) l none ∧ (∀ x ∈ l, tIs T x = true) ∧ l.length ≤ 120 := by
  have s0 := seg_top w hS w.1
  have hlen := pre_len w hS w.1
  have hmem : ∀ x ∈ pre kd 20 0, tIs T x = true := fun x hx => (pre_mem w 20 0 w.1 x hx).1
  unfold fnO
  by_cases hv : v = -1
  · rw [if_pos hv]
    exact ⟨_, s0, hmem, hlen⟩
  · rw [if_neg hv]
    cases hn : nAt T v with
    | none => exact ⟨[], rfl, fun x hx => (by cases hx), by simp⟩
    | some i =>
      obtain ⟨hi, hu, -⟩ := nAt_some hn
      obtain ⟨a, b, e⟩ := List.append_of_mem (used_pre w hS (tDep T i) i hu (Nat.le_refl _))
      rw [e] at s0 hlen
      have := Seg.suf a b i _ _ s0
      refine ⟨b, this.2, fun x hx => hmem x (by rw [e]; exact List.mem_append_right _ (List.mem_cons_of_mem _ hx)), ?_⟩
      simp at hlen
      omega
def fnV (T : TS) (tp : Nat → Int32) (n : Nat) (l : List Nat) : Int32 := match wname tp n with
  | some k => (-1000) - nI k
  | none => oI (l.find? (isNm T (sl (fun k => tbv (tp k)) 0 n)))
theorem cls_find {h : AH} {bs s0 n : Nat} {sg : Nat → Nat} {ad : Nat → Nat → Nat → Nat} {T : TS} {kd : Nat → List Nat} {tp : Nat → Int32} {ol : List Int32} {fl : FL} {l : List Nat} {v : Int32} (hA : AdOk h bs s0 sg ad) (hC : Cls h sg ad T n tp ol fl) (hS : SizT T) (w : Wf T kd) (h1 : Seg (aftT T 0) (fnO T v) l none) (h2 : ∀ x ∈ l, tIs T x = true) (h3 : l.length ≤ 120) :
    fX8_find (some (sg 0)) v h = some (fnV T tp n l, pI h 301 (sg 1) (nI 0)) := by
  obtain ⟨hcb, hTp, hO, hF, hT, hP, hB120⟩ := id hC
  obtain ⟨c1, c4, c3, -, c2, -⟩ := id hcb
  have k1 := hT.1
  have hn := hTp.2.2.2.2.1
  have hn0 : nAt T (nI 0) = some 0 := by
    unfold nAt
    rw [if_neg (by decide), if_pos (by rw [nI_clamp (by omega)]; exact ⟨by omega, w.1⟩), nI_clamp (by omega)]
  simp only [fX8_find, fX8_find_0, fX8_findElement, fX8_findElement_0, fX8_findElement_52, fX8_findElement_53]
  simp only [↓uGI, ↓uGL, ↓uGR, ↓uPI, ↓uPL, ↓uPR, ↓uAL, ↓uQL, ↓uAS, ↓uQS, ↓uAN, ↓uCV, ↓oCL, ↓oNO, ↓uNA, ↓oNN, ↓oZ0, ↓oZ1, gI_pI, gI_pL, gI_pR, gI_pA, gI_pQ, gL_pI, gL_pL, gL_pR, gL_pA, gL_pQ, gR_pI, gR_pL, gR_pR, gR_pA, gR_pQ, gA_pI, gA_pL, gA_pR, gA_pA, gA_pQ, gQ_pI, gQ_pL, gQ_pR, gQ_pA, gQ_pQ, gK_pI, gK_pL, gK_pR, gK_pA, gK_pQ, gN_pI, gN_pL, gN_pR, gN_pA, gN_pQ, gS_pI, gS_pL, gS_pR, gS_pA, gS_pQ, gI_mk, gL_mk, gR_mk, gA_mk, gQ_mk, gK_mk, gN_mk, gS_mk, vn0, vn1, lt0, leN, ltN, eqN, eqM1, M1eq, le0n, eq0n, nI_add, nI_mul, ↓reduceIte, Nat.reduceAdd, Nat.reduceMul, Nat.reduceEqDiff, Nat.reduceLT, Nat.reduceLeDiff, and_true, true_and, and_false, false_and, and_self, reduceCtorEq, not_true_eq_false, not_false_eq_true, c1, c2, c4, k1, hTp.1, cls_wrongName hTp, cls_nodeAt hT, hn0]
  unfold fnV
  cases hw : wname tp n with
  | some k =>
    have := wname_le hw
    simp only [wrongV, wrongV_ne (show k ≤ 2000 by omega), ↓uGI, ↓uGL, ↓uGR, ↓uPI, ↓uPL, ↓uPR, ↓uAL, ↓uQL, ↓uAS, ↓uQS, ↓uAN, ↓uCV, ↓oCL, ↓oNO, ↓uNA, ↓oNN, ↓oZ0, ↓oZ1, gI_pI, gI_pL, gI_pR, gI_pA, gI_pQ, gL_pI, gL_pL, gL_pR, gL_pA, gL_pQ, gR_pI, gR_pL, gR_pR, gR_pA, gR_pQ, gA_pI, gA_pL, gA_pR, gA_pA, gA_pQ, gQ_pI, gQ_pL, gQ_pR, gQ_pA, gQ_pQ, gK_pI, gK_pL, gK_pR, gK_pA, gK_pQ, gN_pI, gN_pL, gN_pR, gN_pA, gN_pQ, gS_pI, gS_pL, gS_pR, gS_pA, gS_pQ, gI_mk, gL_mk, gR_mk, gA_mk, gQ_mk, gK_mk, gN_mk, gS_mk, vn0, vn1, lt0, leN, ltN, eqN, eqM1, M1eq, le0n, eq0n, nI_add, nI_mul, ↓reduceIte, Nat.reduceAdd, Nat.reduceMul, Nat.reduceEqDiff, Nat.reduceLT, Nat.reduceLeDiff, and_true, true_and, and_false, false_and, and_self, reduceCtorEq, not_true_eq_false, not_false_eq_true, c1, c4, hTp.1]
  | none =>
    obtain ⟨n0, n8, -, hok⟩ := wname_none hw
    have hpk := cls_packed hTp (Nat.le_refl n) n8 hok
    have hv : vch (sl (fun k => tbv (tp k)) 0 n) := sl_v hok
    have hlen : (sl (fun k => tbv (tp k)) 0 n).length ≤ 8 := by rw [sl_len]; exact n8
    have key := cls_find_L hT w hS hv hlen l _ FU 0 h1 h2 (by omega) (by have := FU_ge; omega)
    simp only [wrongV, ↓reduceIte, hTp.2.2.2.1, hpk, ↓oCL]
    unfold fnO at key
    by_cases hv1 : v = -1
    · rw [if_pos hv1] at key
      simp only [hv1, ↓reduceIte, ↓oCL, ↓uGR, ↓uPI, c1, c4, hTp.1, Nat.reduceAdd, key]
    · rw [if_neg hv1] at key
      simp only [hv1, ↓reduceIte]
      cases hnn : nAt T v with
      | none =>
        rw [hnn] at key
        simp only [oN_n, ↓reduceIte] at key ⊢
        simp only [key, ↓oCL, ↓uGR, ↓uPI, c1, c4, hTp.1, Nat.reduceAdd, ↓reduceIte]
      | some i =>
        rw [hnn] at key
        obtain ⟨hi, hu, rfl⟩ := nAt_some hnn
        obtain ⟨-, ⟨b1, -⟩, -⟩ := hT.nd hi hu
        simp only [oN_s, some_ne, ↓reduceIte, ↓uCV, b1, cls_next hT w hS hu, ↓oCL, ↓uGR, ↓uGI, ↓uPI, c1, c4, hTp.1, hTp.2.2.2.1, hpk, Nat.reduceAdd, key]
theorem ref_find {h : AH} {m n : Nat} {ra : Nat → Nat} {T : TS} {kd : Nat → List Nat} {tp : Nat → Int32} {l : List Nat} {v : Int32} (hB : RB h m ra) (hTp : TapeR h m ra n tp) (hb : ∀ i, i < n → isB (tp i)) (hR : RefT h m ra T) (hS : SizT T) (w : Wf T kd) (h1 : Seg (aftT T 0) (fnO T v) l none) (h2 : ∀ x ∈ l, tIs T x = true) (h3 : l.length ≤ 120) :
    ∃ h', fX9_find (some m) v h = some (fnV T tp n l, h') ∧ TapeR h' m ra 0 tp ∧ FrK m ra h h' := by
  obtain ⟨h1', g1, X1, T1, F1⟩ := ref_takeName hB hTp hb
  have hn := hTp.2.1
  have B1 := F1.RB hB
  have R1 : RefT h1' m ra T := hR.fr F1 (by omega) (fun k h6 h23 z => by rw [B1.i] at z; omega)
  refine ⟨h1', ?_, T1, F1⟩
  simp only [fX9_find, fX9_find_0, fX9_find_29, fX9_find_44]
  simp only [↓uGI, ↓uGL, ↓uGR, ↓uPI, ↓uPL, ↓uPR, ↓uAL, ↓uQL, ↓uAS, ↓uQS, ↓uAN, ↓uCV, ↓oCL, ↓oNO, ↓uNA, ↓oNN, ↓oZ0, ↓oZ1, gI_pI, gI_pL, gI_pR, gI_pA, gI_pQ, gL_pI, gL_pL, gL_pR, gL_pA, gL_pQ, gR_pI, gR_pL, gR_pR, gR_pA, gR_pQ, gA_pI, gA_pL, gA_pR, gA_pA, gA_pQ, gQ_pI, gQ_pL, gQ_pR, gQ_pA, gQ_pQ, gK_pI, gK_pL, gK_pR, gK_pA, gK_pQ, gN_pI, gN_pL, gN_pR, gN_pA, gN_pQ, gS_pI, gS_pL, gS_pR, gS_pA, gS_pQ, gI_mk, gL_mk, gR_mk, gA_mk, gQ_mk, gK_mk, gN_mk, gS_mk, vn0, vn1, lt0, leN, ltN, eqN, eqM1, M1eq, le0n, eq0n, nI_add, nI_mul, ↓reduceIte, Nat.reduceAdd, Nat.reduceMul, Nat.reduceEqDiff, Nat.reduceLT, Nat.reduceLeDiff, and_true, true_and, and_false, false_and, and_self, reduceCtorEq, not_true_eq_false, not_false_eq_true, hB.o, g1]
  unfold fnV
  cases hw : wname tp n with
  | some k =>
    have := wname_le hw
    simp (disch := omega) only [↓uGI, ↓uGL, ↓uGR, ↓uPI, ↓uPL, ↓uPR, ↓uAL, ↓uQL, ↓uAS, ↓uQS, ↓uAN, ↓uCV, ↓oCL, ↓oNO, ↓uNA, ↓oNN, ↓oZ0, ↓oZ1, gI_pI, gI_pL, gI_pR, gI_pA, gI_pQ, gL_pI, gL_pL, gL_pR, gL_pA, gL_pQ, gR_pI, gR_pL, gR_pR, gR_pA, gR_pQ, gA_pI, gA_pL, gA_pR, gA_pA, gA_pQ, gQ_pI, gQ_pL, gQ_pR, gQ_pA, gQ_pQ, gK_pI, gK_pL, gK_pR, gK_pA, gK_pQ, gN_pI, gN_pL, gN_pR, gN_pA, gN_pQ, gS_pI, gS_pL, gS_pR, gS_pA, gS_pQ, gI_mk, gL_mk, gR_mk, gA_mk, gQ_mk, gK_mk, gN_mk, gS_mk, vn0, vn1, lt0, leN, ltN, eqN, eqM1, M1eq, le0n, eq0n, nI_add, nI_mul, ↓reduceIte, Nat.reduceAdd, Nat.reduceMul, Nat.reduceEqDiff, Nat.reduceLT, Nat.reduceLeDiff, and_true, true_and, and_false, false_and, and_self, reduceCtorEq, not_true_eq_false, not_false_eq_true, oI, fX9_wrong, fX9_wrong_0]
  | none =>
    obtain ⟨n0, n8, -, hok⟩ := wname_none hw
    have hv : vch (sl (fun k => tbv (tp k)) 0 n) := sl_v hok
    have hlen : (sl (fun k => tbv (tp k)) 0 n).length ≤ 8 := by rw [sl_len]; exact n8
    have key := ref_find_L (n := n) B1 R1 w hS hv hlen (sl_len _ _ _) X1.1 (fun q hq => by
      rw [sl_get _ hq, Nat.zero_add, X1.2.2 q hq, ← sx_lo _ (okb_lt (hok q hq))]
      exact sx_tbv (hb q hq)) l _ FU h1 h2 (by have := FU_ge; omega)
    simp only [oI, show ((-1 : Int32) < 0) = True by decide, ↓reduceIte]
    unfold fnO at key
    by_cases hv1 : v = -1
    · rw [if_pos hv1] at key
      simp only [hv1, ↓reduceIte]
      exact key
    · rw [if_neg hv1] at key
      simp only [hv1, ↓reduceIte, ↓uCV, B1.o, ref_there B1 R1, ↓oCL, bI0, Nat.reduceAdd]
      cases hnn : nAt T v with
      | none =>
        rw [hnn] at key
        have e : l = [] := by
          cases l with
          | nil => rfl
          | cons x l =>
            exfalso
            unfold fnO at h1
            rw [if_neg hv1, hnn] at h1
            cases h1.1
        rw [e]
        simp only [Option.isSome_none, ↓reduceIte, List.find?_nil]
      | some i =>
        rw [hnn] at key
        obtain ⟨hi, hu, rfl⟩ := nAt_some hnn
        have s9 := (hS.2 i hu).2.2.2.2.2.2.2.2.1
        have haf := ref_after B1 (R1.ln w hS 0) w hS (show 0 < 120 by omega) hu (anc_root w 20 i hu s9) (by omega)
        simp only [Option.isSome_some, Bool.true_eq_false, ↓reduceIte, haf, ↓oCL]
        exact key

/-! add(n) -/
def adR (T : TS) (v : Int32) : Option (Nat × Nat) := match eAt T v with
  | none => none
  | some i => if isEm (tTag T i) = true then none else (grw T i).map (fun k => (i, k))
def adV (T : TS) (tp : Nat → Int32) (n : Nat) (v : Int32) : Int32 := match wname tp n with
  | some k => (-1000) - nI k
  | none => match adR T v with
    | none => -1
    | some p => nI p.2
def adT (T : TS) (tp : Nat → Int32) (n : Nat) (v : Int32) : TS := match wname tp n with
  | some _ => T
  | none => match adR T v with
    | none => T
    | some p => gwT T p.1 (tagN (sl (fun k => tbv (tp k)) 0 n)) (sl (fun k => tbv (tp k)) 0 n) p.2
theorem cls_add {h : AH} {bs s0 n : Nat} {sg : Nat → Nat} {ad : Nat → Nat → Nat → Nat} {T : TS} {tp : Nat → Int32} {ol : List Int32} {fl : FL} (hA : AdOk h bs s0 sg ad) (hC : Cls h sg ad T n tp ol fl) (hS : SizT T) (h0 : tIs T 0 = true) (v : Int32) :
    ∃ h' ad', fX8_add (some (sg 0)) v h = some (adV T tp n v, h') ∧ AdOk h' bs s0 sg ad' ∧ ClsT h' ad' (sg 8) (sg 9) (adT T tp n v) ∧ TapeC h' (sg 1) (sg 2) 0 tp ∧ FrTA sg h ad h' ad' := by
  obtain ⟨hcb, hTp, hO, hF, hT, hP, hB120⟩ := id hC
  obtain ⟨c1, c4, c3, -, c2, -⟩ := id hcb
  have k1 := hT.1
  have hn := hTp.2.2.2.2.1
  have base : AdOk (pI h 301 (sg 1) (nI 0)) bs s0 sg ad ∧ ClsT (pI h 301 (sg 1) (nI 0)) ad (sg 8) (sg 9) T ∧ TapeC (pI h 301 (sg 1) (nI 0)) (sg 1) (sg 2) 0 tp ∧ FrTA sg h ad (pI h 301 (sg 1) (nI 0)) ad := ⟨hA.eq rfl rfl rfl, hT.tape0, hTp.clear, FrTA.rf.tape0⟩
  simp only [fX8_add, fX8_add_0, fX8_addElement, fX8_addElement_0, fX8_addElement_37, fX8_addElement_86]
  simp only [↓uGI, ↓uGL, ↓uGR, ↓uPI, ↓uPL, ↓uPR, ↓uAL, ↓uQL, ↓uAS, ↓uQS, ↓uAN, ↓uCV, ↓oCL, ↓oNO, ↓uNA, ↓oNN, ↓oZ0, ↓oZ1, gI_pI, gI_pL, gI_pR, gI_pA, gI_pQ, gL_pI, gL_pL, gL_pR, gL_pA, gL_pQ, gR_pI, gR_pL, gR_pR, gR_pA, gR_pQ, gA_pI, gA_pL, gA_pR, gA_pA, gA_pQ, gQ_pI, gQ_pL, gQ_pR, gQ_pA, gQ_pQ, gK_pI, gK_pL, gK_pR, gK_pA, gK_pQ, gN_pI, gN_pL, gN_pR, gN_pA, gN_pQ, gS_pI, gS_pL, gS_pR, gS_pA, gS_pQ, gI_mk, gL_mk, gR_mk, gA_mk, gQ_mk, gK_mk, gN_mk, gS_mk, vn0, vn1, lt0, leN, ltN, eqN, eqM1, M1eq, le0n, eq0n, nI_add, nI_mul, ↓reduceIte, Nat.reduceAdd, Nat.reduceMul, Nat.reduceEqDiff, Nat.reduceLT, Nat.reduceLeDiff, and_true, true_and, and_false, false_and, and_self, reduceCtorEq, not_true_eq_false, not_false_eq_true, c1, c2, c4, k1, hTp.1, cls_wrongName hTp, cls_elementAt hT hS]
  unfold adV adT
  cases hw : wname tp n with
  | some k =>
    have := wname_le hw
    exact ⟨_, ad, by simp only [wrongV, wrongV_ne (show k ≤ 2000 by omega), ↓uGI, ↓uGL, ↓uGR, ↓uPI, ↓uPL, ↓uPR, ↓uAL, ↓uQL, ↓uAS, ↓uQS, ↓uAN, ↓uCV, ↓oCL, ↓oNO, ↓uNA, ↓oNN, ↓oZ0, ↓oZ1, gI_pI, gI_pL, gI_pR, gI_pA, gI_pQ, gL_pI, gL_pL, gL_pR, gL_pA, gL_pQ, gR_pI, gR_pL, gR_pR, gR_pA, gR_pQ, gA_pI, gA_pL, gA_pR, gA_pA, gA_pQ, gQ_pI, gQ_pL, gQ_pR, gQ_pA, gQ_pQ, gK_pI, gK_pL, gK_pR, gK_pA, gK_pQ, gN_pI, gN_pL, gN_pR, gN_pA, gN_pQ, gS_pI, gS_pL, gS_pR, gS_pA, gS_pQ, gI_mk, gL_mk, gR_mk, gA_mk, gQ_mk, gK_mk, gN_mk, gS_mk, vn0, vn1, lt0, leN, ltN, eqN, eqM1, M1eq, le0n, eq0n, nI_add, nI_mul, ↓reduceIte, Nat.reduceAdd, Nat.reduceMul, Nat.reduceEqDiff, Nat.reduceLT, Nat.reduceLeDiff, and_true, true_and, and_false, false_and, and_self, reduceCtorEq, not_true_eq_false, not_false_eq_true, c1, c4, hTp.1], base⟩
  | none =>
    obtain ⟨n0, n8, -, hok⟩ := wname_none hw
    simp only [wrongV, ↓reduceIte, adR]
    cases he : eAt T v with
    | none => exact ⟨_, ad, by simp only [oN_n, ↓uGI, ↓uGL, ↓uGR, ↓uPI, ↓uPL, ↓uPR, ↓uAL, ↓uQL, ↓uAS, ↓uQS, ↓uAN, ↓uCV, ↓oCL, ↓oNO, ↓uNA, ↓oNN, ↓oZ0, ↓oZ1, gI_pI, gI_pL, gI_pR, gI_pA, gI_pQ, gL_pI, gL_pL, gL_pR, gL_pA, gL_pQ, gR_pI, gR_pL, gR_pR, gR_pA, gR_pQ, gA_pI, gA_pL, gA_pR, gA_pA, gA_pQ, gQ_pI, gQ_pL, gQ_pR, gQ_pA, gQ_pQ, gK_pI, gK_pL, gK_pR, gK_pA, gK_pQ, gN_pI, gN_pL, gN_pR, gN_pA, gN_pQ, gS_pI, gS_pL, gS_pR, gS_pA, gS_pQ, gI_mk, gL_mk, gR_mk, gA_mk, gQ_mk, gK_mk, gN_mk, gS_mk, vn0, vn1, lt0, leN, ltN, eqN, eqM1, M1eq, le0n, eq0n, nI_add, nI_mul, ↓reduceIte, Nat.reduceAdd, Nat.reduceMul, Nat.reduceEqDiff, Nat.reduceLT, Nat.reduceLeDiff, and_true, true_and, and_false, false_and, and_self, reduceCtorEq, not_true_eq_false, not_false_eq_true, c1, c4, hTp.1], base⟩
    | some i =>
      obtain ⟨hi, hu, ht17, rfl⟩ := eAt_some he
      obtain ⟨-, ⟨b1, -⟩, v1, -⟩ := hT.nd hi hu
      have s1 := (hS.2 i hu).1
      simp only [oN_s, some_ne, ↓reduceIte]
      simp (disch := omega) only [↓uGI, b1, v1, ↓reduceIte, cls_isEm, ↓oCL, bI0]
      cases hem : isEm (tTag T i) with
      | true => exact ⟨pI h 301 (sg 1) (nI 0), ad, by simp only [Bool.true_eq_false, ↓reduceIte, ↓uGI, ↓uGL, ↓uGR, ↓uPI, ↓uPL, ↓uPR, ↓uAL, ↓uQL, ↓uAS, ↓uQS, ↓uAN, ↓uCV, ↓oCL, ↓oNO, ↓uNA, ↓oNN, ↓oZ0, ↓oZ1, gI_pI, gI_pL, gI_pR, gI_pA, gI_pQ, gL_pI, gL_pL, gL_pR, gL_pA, gL_pQ, gR_pI, gR_pL, gR_pR, gR_pA, gR_pQ, gA_pI, gA_pL, gA_pR, gA_pA, gA_pQ, gQ_pI, gQ_pL, gQ_pR, gQ_pA, gQ_pQ, gK_pI, gK_pL, gK_pR, gK_pA, gK_pQ, gN_pI, gN_pL, gN_pR, gN_pA, gN_pQ, gS_pI, gS_pL, gS_pR, gS_pA, gS_pQ, gI_mk, gL_mk, gR_mk, gA_mk, gQ_mk, gK_mk, gN_mk, gS_mk, vn0, vn1, lt0, leN, ltN, eqN, eqM1, M1eq, le0n, eq0n, nI_add, nI_mul, ↓reduceIte, Nat.reduceAdd, Nat.reduceMul, Nat.reduceEqDiff, Nat.reduceLT, Nat.reduceLeDiff, and_true, true_and, and_false, false_and, and_self, reduceCtorEq, not_true_eq_false, not_false_eq_true, c1, c4, hTp.1], by simp only [↓reduceIte]; exact base⟩
      | false =>
        have hpk := cls_packed hTp (Nat.le_refl n) n8 hok
        have hv : vch (sl (fun k => tbv (tp k)) 0 n) := sl_v hok
        have hlen : (sl (fun k => tbv (tp k)) 0 n).length ≤ 8 := by rw [sl_len]; exact n8
        have htag := cls_tagOf (h := h) hv hlen
        generalize hN : sl (fun k => tbv (tp k)) 0 n = nm at *
        simp only [Bool.false_eq_true, ↓reduceIte]
        simp only [↓uGR, ↓uGI, ↓uCV, ↓oCL, ↓reduceIte, Nat.reduceAdd, c1, c2, c4, hTp.1, hTp.2.2.2.1, hpk, htag, k1]
        cases hg : grw T i with
        | none =>
          refine ⟨_, ad, ?_, base⟩
          simp only [cls_growN hT hS hu hg, ↓oCL, ↓reduceIte, ↓uGR, ↓uPI, c1, c4, hTp.1, Nat.reduceAdd, Option.map_none]
        | some k =>
          obtain ⟨hd, hk, hku⟩ := grw_some hg
          obtain ⟨h1, ad1, g1, A1, C1, F1⟩ := cls_grow (tag := tagN nm) (nm := nm) hA hT hS h0 hu (by have := tagN_le nm; omega) hlen hv hg
          have T1 := F1.tape A1 hTp
          have D1 := F1.cb A1 hcb
          have hik : i ≠ k := fun z => by rw [z, hku] at hu; cases hu
          have hln : tLk T i ≠ some k := fun z => by
            have := ((hS.2 i hu).2.2.2.2.2.2.2.2.2 k (Or.inr (Or.inr (Or.inl z)))).2
            rw [hku] at this; cases this
          have isk : tIs (gwT T i (tagN nm) nm k) k = true := by rw [(gw_vals hik hln k).1, if_pos rfl]
          obtain ⟨-, ⟨d1, d2, -⟩, -⟩ := C1.nd hk isk
          refine ⟨pI h1 301 (sg 1) (nI 0), ad1, ?_, A1.eq rfl rfl rfl, C1.tape0, T1.clear, F1.a.tape0⟩
          simp only [g1, ↓oCL, some_ne, ↓reduceIte, ↓uGI, ↓uGR, ↓uPI, d1, d2, D1.1, D1.2.1, T1.1, Nat.reduceAdd, Option.map_some]
theorem ref_element_L {m n : Nat} {ra : Nat → Nat} {nm : List Nat} (hn : n < 120) (hnl : nm.length ≤ 8) (hv : vch nm) : ∀ (k f p : Nat) (h : AH), p + k = nm.length → k < f → RB h m ra → gI h 485 m = nI nm.length → (∀ q, q < nm.length → gA h (ra 34) q = nI (nm.getD q 0)) → fX9_element_19 f (some m) (nI n) (nI p) h = some ((), wrA h (ra 8) (8 * n + p) (nm.drop p)) := by
  intro k
  induction k with
  | zero =>
    intro f p h hpk hkf hB h485 h34
    obtain ⟨f, rfl⟩ : ∃ g, f = g + 1 := ⟨f - 1, by omega⟩
    rw [fX9_element_19, List.drop_eq_nil_of_le (by omega)]
    simp (disch := omega) only [↓uGI, ↓uGL, ↓uGR, ↓uPI, ↓uPL, ↓uPR, ↓uAL, ↓uQL, ↓uAS, ↓uQS, ↓uAN, ↓uCV, ↓oCL, ↓oNO, ↓uNA, ↓oNN, ↓oZ0, ↓oZ1, gI_pI, gI_pL, gI_pR, gI_pA, gI_pQ, gL_pI, gL_pL, gL_pR, gL_pA, gL_pQ, gR_pI, gR_pL, gR_pR, gR_pA, gR_pQ, gA_pI, gA_pL, gA_pR, gA_pA, gA_pQ, gQ_pI, gQ_pL, gQ_pR, gQ_pA, gQ_pQ, gK_pI, gK_pL, gK_pR, gK_pA, gK_pQ, gN_pI, gN_pL, gN_pR, gN_pA, gN_pQ, gS_pI, gS_pL, gS_pR, gS_pA, gS_pQ, gI_mk, gL_mk, gR_mk, gA_mk, gQ_mk, gK_mk, gN_mk, gS_mk, vn0, vn1, lt0, leN, ltN, eqN, eqM1, M1eq, le0n, eq0n, nI_add, nI_mul, ↓reduceIte, Nat.reduceAdd, Nat.reduceMul, Nat.reduceEqDiff, Nat.reduceLT, Nat.reduceLeDiff, and_true, true_and, and_false, false_and, and_self, reduceCtorEq, not_true_eq_false, not_false_eq_true, hB.o, h485, show nm.length ≤ p by omega, fX9_element_50]
    rfl
  | succ k ih =>
    intro f p h hpk hkf hB h485 h34
    obtain ⟨f, rfl⟩ : ∃ g, f = g + 1 := ⟨f - 1, by omega⟩
    have hne : ra 34 ≠ ra 8 := fun q => by rw [hB.i] at q; omega
    have hlo := vch_get hv p
    rw [fX9_element_19, drop_cons 0 (show p < nm.length by omega)]
    simp (disch := omega) only [↓uGI, ↓uGL, ↓uGR, ↓uPI, ↓uPL, ↓uPR, ↓uAL, ↓uQL, ↓uAS, ↓uQS, ↓uAN, ↓uCV, ↓oCL, ↓oNO, ↓uNA, ↓oNN, ↓oZ0, ↓oZ1, gI_pI, gI_pL, gI_pR, gI_pA, gI_pQ, gL_pI, gL_pL, gL_pR, gL_pA, gL_pQ, gR_pI, gR_pL, gR_pR, gR_pA, gR_pQ, gA_pI, gA_pL, gA_pR, gA_pA, gA_pQ, gQ_pI, gQ_pL, gQ_pR, gQ_pA, gQ_pQ, gK_pI, gK_pL, gK_pR, gK_pA, gK_pQ, gN_pI, gN_pL, gN_pR, gN_pA, gN_pQ, gS_pI, gS_pL, gS_pR, gS_pA, gS_pQ, gI_mk, gL_mk, gR_mk, gA_mk, gQ_mk, gK_mk, gN_mk, gS_mk, vn0, vn1, lt0, leN, ltN, eqN, eqM1, M1eq, le0n, eq0n, nI_add, nI_mul, ↓reduceIte, Nat.reduceAdd, Nat.reduceMul, Nat.reduceEqDiff, Nat.reduceLT, Nat.reduceLeDiff, and_true, true_and, and_false, false_and, and_self, reduceCtorEq, not_true_eq_false, not_false_eq_true, hB.o, hB.r8, hB.k8, hB.r34, hB.k34, h485, show ¬ nm.length ≤ p by omega, show p < 8 by omega, show 8 * n + p < 960 by omega, h34 p (by omega), nI_b hlo]
    rw [ih f (p + 1) (pA h (ra 8) (8 * n + p) (nI (nm.getD p 0))) (by omega) (by omega) hB h485 (fun q hq => by rw [gA_pA, if_neg (fun z => hne z.1)]; exact h34 q hq)]
    rfl
theorem ref_element {h : AH} {m n t : Nat} {ra : Nat → Nat} {nm : List Nat} (hB : RB h m ra) (hn : n < 120) (hnl : nm.length ≤ 8) (hv : vch nm) (h485 : gI h 485 m = nI nm.length) (h34 : ∀ q, q < nm.length → gA h (ra 34) q = nI (nm.getD q 0)) : fX9_element (some m) (nI n) (nI t) h = some ((), wrA (pA (pA h (ra 7) n (nI t)) (ra 9) n (nI nm.length)) (ra 8) (8 * n) nm) := by
  simp only [fX9_element, fX9_element_0]
  simp (disch := omega) only [↓uGI, ↓uGL, ↓uGR, ↓uPI, ↓uPL, ↓uPR, ↓uAL, ↓uQL, ↓uAS, ↓uQS, ↓uAN, ↓uCV, ↓oCL, ↓oNO, ↓uNA, ↓oNN, ↓oZ0, ↓oZ1, gI_pI, gI_pL, gI_pR, gI_pA, gI_pQ, gL_pI, gL_pL, gL_pR, gL_pA, gL_pQ, gR_pI, gR_pL, gR_pR, gR_pA, gR_pQ, gA_pI, gA_pL, gA_pR, gA_pA, gA_pQ, gQ_pI, gQ_pL, gQ_pR, gQ_pA, gQ_pQ, gK_pI, gK_pL, gK_pR, gK_pA, gK_pQ, gN_pI, gN_pL, gN_pR, gN_pA, gN_pQ, gS_pI, gS_pL, gS_pR, gS_pA, gS_pQ, gI_mk, gL_mk, gR_mk, gA_mk, gQ_mk, gK_mk, gN_mk, gS_mk, vn0, vn1, lt0, leN, ltN, eqN, eqM1, M1eq, le0n, eq0n, nI_add, nI_mul, ↓reduceIte, Nat.reduceAdd, Nat.reduceMul, Nat.reduceEqDiff, Nat.reduceLT, Nat.reduceLeDiff, and_true, true_and, and_false, false_and, and_self, reduceCtorEq, not_true_eq_false, not_false_eq_true, hB.o, hB.r7, hB.k7, hB.r9, hB.k9, hn, h485]
  have := ref_element_L (m := m) (ra := ra) hn hnl hv nm.length FU 0 (pA (pA h (ra 7) n (nI t)) (ra 9) n (nI nm.length)) (by omega) (by have := FU_ge; omega) hB h485 (fun q hq => by
    simp only [gA_pA, hB.i, Nat.reduceEqDiff, false_and, ↓reduceIte]
    exact h34 q hq)
  rw [this]
  rfl
theorem frK_fr {h : AH} {ra : Nat → Nat} {m q n c d : Nat} {v : Int32} {lk : Option Nat} : Fr (fun f a => f = 475 ∧ a = m) (fun a => ∃ k, (6 ≤ k ∧ k ≤ 23) ∧ a = ra k) h (frK (frH h ra m n v d c) ra q n lk) := by
  have F : Fr (fun f a => f = 475 ∧ a = m) (fun a => ∃ k, (6 ≤ k ∧ k ≤ 23) ∧ a = ra k) h (frH h ra m n v d c) :=
    Fr.pA (Fr.pA (Fr.pA (Fr.pA (Fr.pA (Fr.pA (Fr.pA (Fr.pA (Fr.pA (Fr.pA (Fr.pI (Fr.pA Fr.rf ⟨6, by omega, rfl⟩) ⟨rfl, rfl⟩) ⟨15, by omega, rfl⟩) ⟨10, by omega, rfl⟩) ⟨11, by omega, rfl⟩) ⟨12, by omega, rfl⟩) ⟨13, by omega, rfl⟩) ⟨14, by omega, rfl⟩) ⟨16, by omega, rfl⟩) ⟨22, by omega, rfl⟩) ⟨23, by omega, rfl⟩) ⟨9, by omega, rfl⟩
  unfold frK
  cases lk with
  | none => exact Fr.pA (Fr.pA (Fr.pA F ⟨14, by omega, rfl⟩) ⟨11, by omega, rfl⟩) ⟨12, by omega, rfl⟩
  | some l => exact Fr.pA (Fr.pA (Fr.pA F ⟨14, by omega, rfl⟩) ⟨13, by omega, rfl⟩) ⟨12, by omega, rfl⟩
theorem frK_475 {h : AH} {ra : Nat → Nat} {m q n c d : Nat} {v : Int32} {lk : Option Nat} : gI (frK (frH h ra m n v d c) ra q n lk) 475 m = nI c := by
  unfold frK frH
  cases lk <;> simp only [gI_pA, gI_pI, and_self, ↓reduceIte]
theorem ref_add60 {m n k : Nat} {ra : Nat → Nat} {tx : Nat → Nat} (hn : n ≤ 8) (hlo : ∀ q, q < n → tx q < 128) : ∀ (j f p : Nat) (h : AH), p + j = n → j < f → RB h m ra → gI h 453 m = nI n → (∀ q, q < n → gA h (ra 2) q = nI (tx q)) → fX9_add_60 f (some m) (nI k) (nI p) h = fX9_add_89 (some m) (nI k) (wrA h (ra 34) p (sl tx p j)) := by
  intro j
  induction j with
  | zero =>
    intro f p h hpk hkf hB h453 h2
    obtain ⟨f, rfl⟩ : ∃ g, f = g + 1 := ⟨f - 1, by omega⟩
    rw [fX9_add_60]
    simp (disch := omega) only [↓uGI, ↓uGL, ↓uGR, ↓uPI, ↓uPL, ↓uPR, ↓uAL, ↓uQL, ↓uAS, ↓uQS, ↓uAN, ↓uCV, ↓oCL, ↓oNO, ↓uNA, ↓oNN, ↓oZ0, ↓oZ1, gI_pI, gI_pL, gI_pR, gI_pA, gI_pQ, gL_pI, gL_pL, gL_pR, gL_pA, gL_pQ, gR_pI, gR_pL, gR_pR, gR_pA, gR_pQ, gA_pI, gA_pL, gA_pR, gA_pA, gA_pQ, gQ_pI, gQ_pL, gQ_pR, gQ_pA, gQ_pQ, gK_pI, gK_pL, gK_pR, gK_pA, gK_pQ, gN_pI, gN_pL, gN_pR, gN_pA, gN_pQ, gS_pI, gS_pL, gS_pR, gS_pA, gS_pQ, gI_mk, gL_mk, gR_mk, gA_mk, gQ_mk, gK_mk, gN_mk, gS_mk, vn0, vn1, lt0, leN, ltN, eqN, eqM1, M1eq, le0n, eq0n, nI_add, nI_mul, ↓reduceIte, Nat.reduceAdd, Nat.reduceMul, Nat.reduceEqDiff, Nat.reduceLT, Nat.reduceLeDiff, and_true, true_and, and_false, false_and, and_self, reduceCtorEq, not_true_eq_false, not_false_eq_true, hB.o, h453, show n ≤ p by omega]
    rfl
  | succ j ih =>
    intro f p h hpk hkf hB h453 h2
    obtain ⟨f, rfl⟩ : ∃ g, f = g + 1 := ⟨f - 1, by omega⟩
    have hne : ra 2 ≠ ra 34 := fun q => by rw [hB.i] at q; omega
    rw [fX9_add_60]
    simp (disch := omega) only [↓uGI, ↓uGL, ↓uGR, ↓uPI, ↓uPL, ↓uPR, ↓uAL, ↓uQL, ↓uAS, ↓uQS, ↓uAN, ↓uCV, ↓oCL, ↓oNO, ↓uNA, ↓oNN, ↓oZ0, ↓oZ1, gI_pI, gI_pL, gI_pR, gI_pA, gI_pQ, gL_pI, gL_pL, gL_pR, gL_pA, gL_pQ, gR_pI, gR_pL, gR_pR, gR_pA, gR_pQ, gA_pI, gA_pL, gA_pR, gA_pA, gA_pQ, gQ_pI, gQ_pL, gQ_pR, gQ_pA, gQ_pQ, gK_pI, gK_pL, gK_pR, gK_pA, gK_pQ, gN_pI, gN_pL, gN_pR, gN_pA, gN_pQ, gS_pI, gS_pL, gS_pR, gS_pA, gS_pQ, gI_mk, gL_mk, gR_mk, gA_mk, gQ_mk, gK_mk, gN_mk, gS_mk, vn0, vn1, lt0, leN, ltN, eqN, eqM1, M1eq, le0n, eq0n, nI_add, nI_mul, ↓reduceIte, Nat.reduceAdd, Nat.reduceMul, Nat.reduceEqDiff, Nat.reduceLT, Nat.reduceLeDiff, and_true, true_and, and_false, false_and, and_self, reduceCtorEq, not_true_eq_false, not_false_eq_true, hB.o, h453, show ¬ n ≤ p by omega, hB.r34, hB.k34, hB.r2, hB.k2, show p < 8 by omega, show p < 2000 by omega, h2 p (by omega), nI_b (hlo p (by omega))]
    rw [ih f (p + 1) (pA h (ra 34) p (nI (tx p))) (by omega) (by omega) hB h453 (fun q hq => by rw [gA_pA, if_neg (fun z => hne z.1)]; exact h2 q hq), sl_cons]
    rfl
abbrev FrAd (m : Nat) (ra : Nat → Nat) : AH → AH → Prop := Fr (fun f a => (f = 451 ∨ f = 453 ∨ f = 475 ∨ f = 485) ∧ a = m) (fun a => ∃ k, (k = 2 ∨ (6 ≤ k ∧ k ≤ 23) ∨ k = 34) ∧ a = ra k)
theorem ref_add {h : AH} {m n : Nat} {ra : Nat → Nat} {T : TS} {tp : Nat → Int32} (hB : RB h m ra) (hTp : TapeR h m ra n tp) (hb : ∀ i, i < n → isB (tp i)) (hR : RefT h m ra T) (hS : SizT T) (v : Int32) :
    ∃ h', fX9_add (some m) v h = some (adV T tp n v, h') ∧ RefT h' m ra (adT T tp n v) ∧ TapeR h' m ra 0 tp ∧ FrAd m ra h h' := by
  obtain ⟨h1, g1, X1, T1, F1⟩ := ref_takeName hB hTp hb
  have hn := hTp.2.1
  have B1 := F1.RB hB
  have R1 : RefT h1 m ra T := hR.fr F1 (by omega) (fun k h6 h23 z => by rw [B1.i] at z; omega)
  have FA : FrAd m ra h h1 := F1.mo (fun f a z => ⟨by omega, z.2⟩) (fun a z => ⟨2, Or.inl rfl, z⟩)
  simp only [fX9_add, fX9_add_0, fX9_add_34]
  simp only [↓uGI, ↓uGL, ↓uGR, ↓uPI, ↓uPL, ↓uPR, ↓uAL, ↓uQL, ↓uAS, ↓uQS, ↓uAN, ↓uCV, ↓oCL, ↓oNO, ↓uNA, ↓oNN, ↓oZ0, ↓oZ1, gI_pI, gI_pL, gI_pR, gI_pA, gI_pQ, gL_pI, gL_pL, gL_pR, gL_pA, gL_pQ, gR_pI, gR_pL, gR_pR, gR_pA, gR_pQ, gA_pI, gA_pL, gA_pR, gA_pA, gA_pQ, gQ_pI, gQ_pL, gQ_pR, gQ_pA, gQ_pQ, gK_pI, gK_pL, gK_pR, gK_pA, gK_pQ, gN_pI, gN_pL, gN_pR, gN_pA, gN_pQ, gS_pI, gS_pL, gS_pR, gS_pA, gS_pQ, gI_mk, gL_mk, gR_mk, gA_mk, gQ_mk, gK_mk, gN_mk, gS_mk, vn0, vn1, lt0, leN, ltN, eqN, eqM1, M1eq, le0n, eq0n, nI_add, nI_mul, ↓reduceIte, Nat.reduceAdd, Nat.reduceMul, Nat.reduceEqDiff, Nat.reduceLT, Nat.reduceLeDiff, and_true, true_and, and_false, false_and, and_self, reduceCtorEq, not_true_eq_false, not_false_eq_true, hB.o, g1]
  unfold adV adT
  cases hw : wname tp n with
  | some k =>
    have := wname_le hw
    refine ⟨h1, ?_, R1, T1, FA⟩
    simp (disch := omega) only [↓uGI, ↓uGL, ↓uGR, ↓uPI, ↓uPL, ↓uPR, ↓uAL, ↓uQL, ↓uAS, ↓uQS, ↓uAN, ↓uCV, ↓oCL, ↓oNO, ↓uNA, ↓oNN, ↓oZ0, ↓oZ1, gI_pI, gI_pL, gI_pR, gI_pA, gI_pQ, gL_pI, gL_pL, gL_pR, gL_pA, gL_pQ, gR_pI, gR_pL, gR_pR, gR_pA, gR_pQ, gA_pI, gA_pL, gA_pR, gA_pA, gA_pQ, gQ_pI, gQ_pL, gQ_pR, gQ_pA, gQ_pQ, gK_pI, gK_pL, gK_pR, gK_pA, gK_pQ, gN_pI, gN_pL, gN_pR, gN_pA, gN_pQ, gS_pI, gS_pL, gS_pR, gS_pA, gS_pQ, gI_mk, gL_mk, gR_mk, gA_mk, gQ_mk, gK_mk, gN_mk, gS_mk, vn0, vn1, lt0, leN, ltN, eqN, eqM1, M1eq, le0n, eq0n, nI_add, nI_mul, ↓reduceIte, Nat.reduceAdd, Nat.reduceMul, Nat.reduceEqDiff, Nat.reduceLT, Nat.reduceLeDiff, and_true, true_and, and_false, false_and, and_self, reduceCtorEq, not_true_eq_false, not_false_eq_true, oI, fX9_wrong, fX9_wrong_0]
  | none =>
    obtain ⟨n0, n8, -, hok⟩ := wname_none hw
    have h2 : ∀ q, q < n → gA h1 (ra 2) q = nI (tbv (tp q)) := fun q hq => by
      rw [X1.2.2 q hq, ← sx_lo _ (okb_lt (hok q hq))]
      exact sx_tbv (hb q hq)
    have hlo : ∀ q, q < n → tbv (tp q) < 128 := fun q hq => okb_lt (hok q hq)
    simp only [oI, show ((-1 : Int32) < 0) = True by decide, ↓reduceIte, ↓uGI, ↓uGL, ↓uGR, ↓uPI, ↓uPL, ↓uPR, ↓uAL, ↓uQL, ↓uAS, ↓uQS, ↓uAN, ↓uCV, ↓oCL, ↓oNO, ↓uNA, ↓oNN, ↓oZ0, ↓oZ1, gI_pI, gI_pL, gI_pR, gI_pA, gI_pQ, gL_pI, gL_pL, gL_pR, gL_pA, gL_pQ, gR_pI, gR_pL, gR_pR, gR_pA, gR_pQ, gA_pI, gA_pL, gA_pR, gA_pA, gA_pQ, gQ_pI, gQ_pL, gQ_pR, gQ_pA, gQ_pQ, gK_pI, gK_pL, gK_pR, gK_pA, gK_pQ, gN_pI, gN_pL, gN_pR, gN_pA, gN_pQ, gS_pI, gS_pL, gS_pR, gS_pA, gS_pQ, gI_mk, gL_mk, gR_mk, gA_mk, gQ_mk, gK_mk, gN_mk, gS_mk, vn0, vn1, lt0, leN, ltN, eqN, eqM1, M1eq, le0n, eq0n, nI_add, nI_mul, ↓reduceIte, Nat.reduceAdd, Nat.reduceMul, Nat.reduceEqDiff, Nat.reduceLT, Nat.reduceLeDiff, and_true, true_and, and_false, false_and, and_self, reduceCtorEq, not_true_eq_false, not_false_eq_true, B1.o, ref_isElement B1 R1 hS, bI0, adR]
    cases he : eAt T v with
    | none =>
      refine ⟨h1, ?_, R1, T1, FA⟩
      simp only [Option.isSome_none, ↓reduceIte]
    | some i =>
      obtain ⟨hi, hu, ht17, rfl⟩ := eAt_some he
      obtain ⟨w1, -⟩ := (R1.2 i hi).2 hu
      have s1 := (hS.2 i hu).1
      simp (disch := omega) only [Option.isSome_some, Bool.true_eq_false, ↓reduceIte, ↓uGR, ↓uAL, B1.o, B1.r7, B1.k7, hi, w1, ref_isEm, ↓oCL, bI0, and_self, Nat.reduceAdd, ↓uCV]
      cases hem : isEm (tTag T i) with
      | true =>
        refine ⟨h1, ?_, ?_, T1, FA⟩
        · simp only [Bool.true_eq_false, ↓reduceIte]
        · simp only [↓reduceIte]; exact R1
      | false =>
        have hv : vch (sl (fun k => tbv (tp k)) 0 n) := sl_v hok
        have hlen : (sl (fun k => tbv (tp k)) 0 n).length ≤ 8 := by rw [sl_len]; exact n8
        simp only [Bool.false_eq_true, ↓reduceIte]
        cases hg : grw T i with
        | none =>
          refine ⟨h1, ?_, R1, T1, FA⟩
          simp only [ref_freshN B1 R1 hS hu hg, ↓oCL, ↓reduceIte, Option.map_none]
        | some k =>
          obtain ⟨hd, hk, hku⟩ := grw_some hg
          have gF := ref_freshS B1 R1 hS hu hg
          have F2 := frK_fr (h := h1) (ra := ra) (m := m) (q := i) (n := k) (c := tCnt T + 1) (d := tDep T i + 1) (v := nI i) (lk := tLk T i)
          have c475 := frK_475 (h := h1) (ra := ra) (m := m) (q := i) (n := k) (c := tCnt T + 1) (d := tDep T i + 1) (v := nI i) (lk := tLk T i)
          have cfr := RefT.fresh (h2 := wrA (pA (pA (wrA (pI (frK (frH h1 ra m k (nI i) (tDep T i + 1) (tCnt T + 1)) ra i k (tLk T i)) 485 m (nI n)) (ra 34) 0 (sl (fun k => tbv (tp k)) 0 n)) (ra 7) k (nI (tagN (sl (fun k => tbv (tp k)) 0 n)))) (ra 9) k (nI n)) (ra 8) (8 * k) (sl (fun k => tbv (tp k)) 0 n)) (t := tagN (sl (fun k => tbv (tp k)) 0 n)) (nm := sl (fun k => tbv (tp k)) 0 n) R1 B1.2.1 hS hu hg hlen
          generalize hX : frK (frH h1 ra m k (nI i) (tDep T i + 1) (tCnt T + 1)) ra i k (tLk T i) = X at *
          have BX : RB X m ra := F2.RB B1
          have X453 : gI X 453 m = nI n := by rw [F2.1 _ _ (by omega)]; exact X1.1
          have X2 : ∀ q, q < n → gA X (ra 2) q = nI (tbv (tp q)) := fun q hq => by
            rw [F2.2.2.2.1 _ _ (fun z => by obtain ⟨c, hc, e⟩ := z; rw [B1.i] at e; omega)]
            exact h2 q hq
          have T2 : TapeR X m ra 0 tp := T1.fr F2 (by omega) (fun z => by obtain ⟨c, hc, e⟩ := z; rw [B1.i] at e; omega)
          have g60 := ref_add60 (m := m) (ra := ra) (k := k) (tx := fun k => tbv (tp k)) n8 hlo n FU 0 (pI X 485 m (nI n)) (by omega) (by have := FU_ge; omega) BX (by rw [gI_pI, if_neg (by omega)]; exact X453) X2
          generalize hNM : sl (fun k => tbv (tp k)) 0 n = nm at *
          have hnl : nm.length = n := by rw [← hNM, sl_len]
          have B3 : RB (wrA (pI X 485 m (nI n)) (ra 34) 0 nm) m ra := RB.eq (h := X) BX (wr_R _ _ _ _) (wr_K _ _ _ _)
          have h34 : ∀ q, q < nm.length → gA (wrA (pI X 485 m (nI n)) (ra 34) 0 nm) (ra 34) q = nI (nm.getD q 0) := fun q hq => by
            have := wr_i (ra 34) nm (pI X 485 m (nI n)) 0 q hq
            rw [Nat.zero_add] at this
            exact this
          have h485 : gI (wrA (pI X 485 m (nI n)) (ra 34) 0 nm) 485 m = nI nm.length := by rw [wr_I, gI_pI, if_pos ⟨rfl, rfl⟩, hnl]
          have gT := ref_tagOf (h := wrA (pI X 485 m (nI n)) (ra 34) 0 nm) (a := ra 34) (N := 8) (n := n) (tx := fun q => nm.getD q 0) B3.k34 (by omega) n8 (fun q hq => ⟨h34 q (by omega), vch_get hv q⟩)
          have hsl : sl (fun q => nm.getD q 0) 0 n = nm := by
            apply List.ext_getElem
            · rw [sl_len, hnl]
            · intro j h1 h2
              simp only [sl, List.getElem_map, List.getElem_range, Nat.zero_add]
              rw [gD_in h2]
          rw [hsl] at gT
          have gE := ref_element (t := tagN nm) B3 hk hlen hv h485 h34
          rw [hnl] at gE
          have F3 : Fr (fun f a => f = 485 ∧ a = m) (fun a => ∃ c, ((6 ≤ c ∧ c ≤ 23) ∨ c = 34) ∧ a = ra c) X (wrA (pA (pA (wrA (pI X 485 m (nI n)) (ra 34) 0 nm) (ra 7) k (nI (tagN nm))) (ra 9) k (nI n)) (ra 8) (8 * k) nm) :=
            (Fr.pA (Fr.pA ((Fr.pI (f := 485) (a := m) (v := nI n) Fr.rf ⟨rfl, rfl⟩).tr ((wr_fr _ _ _ _ _).mo (fun _ _ z => z) (fun a z => ⟨34, by omega, z⟩))) ⟨7, by omega, rfl⟩) ⟨9, by omega, rfl⟩).tr ((wr_fr _ _ _ _ _).mo (fun _ _ z => z) (fun a z => ⟨8, by omega, z⟩))
          refine ⟨_, ?_, cfr (fun c j a b z => ?_) ?_ ?_ (fun q hq => ?_) ?_, ?_, ?_⟩
          · simp (disch := omega) only [gF, ↓oCL, eqM1, ↓reduceIte, ↓uGI, ↓uPI, BX.o, Nat.reduceAdd, X453, g60, Option.map_some]
            simp only [fX9_add_89]
            simp (disch := omega) only [↓uGI, ↓uGR, ↓uCV, ↓oCL, B3.o, B3.r34, h485, hnl, gT, gE, ↓reduceIte, Nat.reduceAdd]
          · have n34 : ¬ c = 34 := by omega
            simp only [wr_rd, gA_pA, gA_pI, B1.i, n34, false_and, ↓reduceIte]
            by_cases e8 : c = 8
            · subst e8
              have : ¬ j / 8 = k := fun y => z ⟨by omega, y⟩
              simp only [Nat.reduceEqDiff, false_and, true_and, ↓reduceIte]
              rw [if_neg (by omega)]
            · by_cases e9 : c = 9
              · subst e9
                have : ¬ j = k := fun y => z ⟨by omega, y⟩
                simp only [Nat.reduceEqDiff, false_and, true_and, this, ↓reduceIte]
              · by_cases e7 : c = 7
                · subst e7
                  have : ¬ j = k := fun y => z ⟨by omega, y⟩
                  simp only [Nat.reduceEqDiff, false_and, true_and, this, ↓reduceIte]
                · simp only [e7, e8, e9, false_and, ↓reduceIte]
          · simp only [wr_rd, gA_pA, gA_pI, B1.i, Nat.reduceEqDiff, false_and, and_self, ↓reduceIte]
          · simp only [wr_rd, gA_pA, gA_pI, B1.i, Nat.reduceEqDiff, false_and, and_self, ↓reduceIte, hnl]
          · exact wr_i _ _ _ _ _ hq
          · rw [wr_I]
            show gI (wrA (pI X 485 m (nI n)) (ra 34) 0 nm) 475 m = _
            rw [wr_I, gI_pI, if_neg (by omega)]
            exact c475
          · exact T2.fr F3 (by omega) (fun z => by obtain ⟨c, hc, e⟩ := z; rw [B1.i] at e; omega)
          · exact FA.tr ((F2.mo (fun f a z => ⟨by omega, z.2⟩) (fun a z => by obtain ⟨c, hc, e⟩ := z; exact ⟨c, by omega, e⟩)).tr (F3.mo (fun f a z => ⟨by omega, z.2⟩) (fun a z => by obtain ⟨c, hc, e⟩ := z; exact ⟨c, by omega, e⟩)))

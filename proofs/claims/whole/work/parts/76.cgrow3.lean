theorem FrTB.node {sg : Nat → Nat} {h h' : AH} {bs s0 i : Nat} {ad : Nat → Nat → Nat → Nat} (hA : AdOk h bs s0 sg ad) (hi : i < 120) (hk : gK h (ad 1 i 0) = (4, 0)) (w : FrX (fun a => a = ad 1 i 0) h h') (hN : gN h' = gN h) : FrTB sg h ad h' ad :=
  ⟨w.mo (fun a z => Or.inl ⟨i, hi, 1, 0, z, by rw [hN, z]; exact hA.md hk⟩), ExtT.same hN⟩
theorem cls_link {h : AH} {bs s0 q n : Nat} {sg : Nat → Nat} {ad : Nat → Nat → Nat → Nat} {T : TS} (hA : AdOk h bs s0 sg ad) (hC : ClsT h ad (sg 8) (sg 9) T) (hq : q < 120) (huq : tIs T q = true) (hn : n < 120) (hun : tIs T n = true) (hl : ∀ l, tLk T q = some l → l < 120 ∧ tIs T l = true) (hd : tDep T q ≤ 20) : ∃ h1, fX3_linkLast (some (ad 1 q 0)) (some (ad 1 n 0)) h = some ((), h1) ∧ AdOk h1 bs s0 sg ad ∧ ClsT h1 ad (sg 8) (sg 9) (uLk (lk2 (lk1 T q n) q n) q (some n)) ∧ FrTB sg h ad h1 ad := by
  have kq := (hC.nd hq huq).2.1.1
  have kn := (hC.nd hn hun).2.1.1
  have C1 := hC.p156 hA hn hun (some q)
  have A1 : AdOk (pR h 156 (ad 1 n 0) (oN ad (some q))) bs s0 sg ad := hA.eq rfl rfl rfl
  have F1 := FrTB.node (sg := sg) hA hn kn (FrX.pR (v := oN ad (some q)) (f := 156) FrX.rf rfl) rfl
  have C2 := C1.p155 A1 hn hun (tDep T q + 1)
  have A2 : AdOk (pI (pR h 156 (ad 1 n 0) (oN ad (some q))) 155 (ad 1 n 0) (nI (tDep T q + 1))) bs s0 sg ad := A1.eq rfl rfl rfl
  have F2 := FrTB.node (sg := sg) A1 hn kn (FrX.pI (v := nI (tDep T q + 1)) (f := 155) FrX.rf rfl) rfl
  have C3 := C2.p157 A2 hn hun (tLk T q)
  have A3 : AdOk (pR (pI (pR h 156 (ad 1 n 0) (oN ad (some q))) 155 (ad 1 n 0) (nI (tDep T q + 1))) 157 (ad 1 n 0) (oN ad (tLk T q))) bs s0 sg ad := A2.eq rfl rfl rfl
  have F3 := FrTB.node (sg := sg) A2 hn kn (FrX.pR (v := oN ad (tLk T q)) (f := 157) FrX.rf rfl) rfl
  have v3 := (C1.nd hq huq).2.2.2.2.1
  have v8 := (C2.nd hq huq).2.2.2.2.2.2.2.2.2.1
  have v8' := (C3.nd hq huq).2.2.2.2.2.2.2.2.2.1
  have e3 : tDep (uPar T n (some q)) q = tDep T q := rfl
  have e8 : tLk (uDep (uPar T n (some q)) n (tDep T q + 1)) q = tLk T q := rfl
  have e8' : tLk (uBf (uDep (uPar T n (some q)) n (tDep T q + 1)) n (tLk T q)) q = tLk T q := rfl
  rw [e3] at v3
  rw [e8] at v8
  rw [e8'] at v8'
  have F := F1.tr (F2.tr F3)
  simp only [fX3_linkLast, fX3_linkLast_0, fX3_linkLast_46]
  cases hL : tLk T q with
  | none =>
    rw [hL] at v8 v8'
    have C4 := C3.p159 A3 hq huq (some n)
    have A4 : AdOk (pR (pR (pI (pR h 156 (ad 1 n 0) (oN ad (some q))) 155 (ad 1 n 0) (nI (tDep T q + 1))) 157 (ad 1 n 0) (oN ad (tLk T q))) 159 (ad 1 q 0) (oN ad (some n))) bs s0 sg ad := A3.eq rfl rfl rfl
    have F4 := FrTB.node (sg := sg) A3 hq kq (FrX.pR (v := oN ad (some n)) (f := 159) FrX.rf rfl) rfl
    have C5 := C4.p160 A4 hq huq (some n)
    have A5 : AdOk (pR (pR (pR (pI (pR h 156 (ad 1 n 0) (oN ad (some q))) 155 (ad 1 n 0) (nI (tDep T q + 1))) 157 (ad 1 n 0) (oN ad (tLk T q))) 159 (ad 1 q 0) (oN ad (some n))) 160 (ad 1 q 0) (oN ad (some n))) bs s0 sg ad := A4.eq rfl rfl rfl
    have F5 := FrTB.node (sg := sg) A4 hq kq (FrX.pR (v := oN ad (some n)) (f := 160) FrX.rf rfl) rfl
    refine ⟨_, ?_, A5, ?_, F.tr (F4.tr F5)⟩
    · rw [oN_s] at v3 v8 v8'
      simp only [oN_s, hL, oN_n] at v3 v8 v8' ⊢
      simp (disch := omega) only [↓uPR, ↓uPI, ↓uGI, ↓uGR, gK_pI, gK_pR, kq, kn, v3, v8, v8', ↓reduceIte, nI_add]
    · have : lk2 (lk1 T q n) q n = uFk (lk1 T q n) q (some n) := by
        unfold lk2
        have : tLk (lk1 T q n) q = none := hL
        rw [this]
      rw [this]
      exact C5
  | some l =>
    rw [hL] at v8 v8'
    obtain ⟨hl1, hl2⟩ := hl l hL
    have kl := (hC.nd hl1 hl2).2.1.1
    have C4 := C3.p158 A3 hl1 hl2 (some n)
    have A4 : AdOk (pR (pR (pI (pR h 156 (ad 1 n 0) (oN ad (some q))) 155 (ad 1 n 0) (nI (tDep T q + 1))) 157 (ad 1 n 0) (oN ad (tLk T q))) 158 (ad 1 l 0) (oN ad (some n))) bs s0 sg ad := A3.eq rfl rfl rfl
    have F4 := FrTB.node (sg := sg) A3 hl1 kl (FrX.pR (v := oN ad (some n)) (f := 158) FrX.rf rfl) rfl
    have C5 := C4.p160 A4 hq huq (some n)
    have A5 : AdOk (pR (pR (pR (pI (pR h 156 (ad 1 n 0) (oN ad (some q))) 155 (ad 1 n 0) (nI (tDep T q + 1))) 157 (ad 1 n 0) (oN ad (tLk T q))) 158 (ad 1 l 0) (oN ad (some n))) 160 (ad 1 q 0) (oN ad (some n))) bs s0 sg ad := A4.eq rfl rfl rfl
    have F5 := FrTB.node (sg := sg) A4 hq kq (FrX.pR (v := oN ad (some n)) (f := 160) FrX.rf rfl) rfl
    refine ⟨_, ?_, A5, ?_, F.tr (F4.tr F5)⟩
    · simp only [oN_s, hL] at v3 v8 v8' ⊢
      simp (disch := omega) only [↓uPR, ↓uPI, ↓uGI, ↓uGR, gK_pI, gK_pR, kq, kn, kl, v3, v8, v8', ↓reduceIte, nI_add, some_ne]
    · have : lk2 (lk1 T q n) q n = uNx (lk1 T q n) l (some n) := by
        unfold lk2
        have : tLk (lk1 T q n) q = some l := hL
        rw [this]
      rw [this]
      exact C5
theorem lk2_cnt (T : TS) (q n : Nat) : tCnt (lk2 T q n) = tCnt T := by
  unfold lk2
  cases tLk T q <;> rfl
/-- which number a NODE that comes into q gets; none if there is no room -/
def grw (T : TS) (q : Nat) : Option Nat := if tDep T q < 20 then lfA T 120 0 else none
theorem grw_some {T : TS} {q n : Nat} (h : grw T q = some n) : tDep T q < 20 ∧ n < 120 ∧ tIs T n = false := by
  unfold grw at h
  by_cases c : tDep T q < 20
  · rw [if_pos c] at h
    have := lfA_some _ _ _ h
    exact ⟨c, by omega, this.2.2⟩
  · rw [if_neg c] at h; cases h
theorem cls_growN {h : AH} {q : Nat} {ad : Nat → Nat → Nat → Nat} {T : TS} {tr nd : Nat} {t : Int32} {v : Int64} (hC : ClsT h ad tr nd T) (hS : SizT T) (huq : tIs T q = true) (hg : grw T q = none) : fX7_grow (some tr) (some (ad 1 q 0)) t v h = some (none, h) := by
  obtain ⟨-, ⟨b1, -⟩, v1, v2, v3, -⟩ := hC.nd (hS.lt huq) huq
  have hd := (hS.2 q huq).2.2.2.2.2.2.2.2.1
  simp only [fX7_grow, fX7_grow_0, fX7_grow_13, fX7_grow_36]
  unfold grw at hg
  by_cases c : tDep T q < 20
  · rw [if_pos c] at hg
    simp (disch := omega) only [↓uGI, ↓uGL, ↓uGR, ↓uPI, ↓uPL, ↓uPR, ↓uAL, ↓uQL, ↓uAS, ↓uQS, ↓uAN, ↓uCV, ↓oCL, ↓oNO, ↓uNA, ↓oNN, ↓oZ0, ↓oZ1, gI_pI, gI_pL, gI_pR, gI_pA, gI_pQ, gL_pI, gL_pL, gL_pR, gL_pA, gL_pQ, gR_pI, gR_pL, gR_pR, gR_pA, gR_pQ, gA_pI, gA_pL, gA_pR, gA_pA, gA_pQ, gQ_pI, gQ_pL, gQ_pR, gQ_pA, gQ_pQ, gK_pI, gK_pL, gK_pR, gK_pA, gK_pQ, gN_pI, gN_pL, gN_pR, gN_pA, gN_pQ, gS_pI, gS_pL, gS_pR, gS_pA, gS_pQ, gI_mk, gL_mk, gR_mk, gA_mk, gQ_mk, gK_mk, gN_mk, gS_mk, vn0, vn1, lt0, leN, ltN, eqN, eqM1, M1eq, le0n, eq0n, nI_add, nI_mul, ↓reduceIte, Nat.reduceAdd, Nat.reduceMul, Nat.reduceEqDiff, Nat.reduceLT, Nat.reduceLeDiff, and_true, true_and, and_false, false_and, and_self, reduceCtorEq, not_true_eq_false, not_false_eq_true, some_ne, b1, v3, c, hC.1, cls_leastFree hC, hg, oI, show ((-1 : Int32) < 0) = True by decide]
  · simp (disch := omega) only [↓uGI, ↓uGL, ↓uGR, ↓uPI, ↓uPL, ↓uPR, ↓uAL, ↓uQL, ↓uAS, ↓uQS, ↓uAN, ↓uCV, ↓oCL, ↓oNO, ↓uNA, ↓oNN, ↓oZ0, ↓oZ1, gI_pI, gI_pL, gI_pR, gI_pA, gI_pQ, gL_pI, gL_pL, gL_pR, gL_pA, gL_pQ, gR_pI, gR_pL, gR_pR, gR_pA, gR_pQ, gA_pI, gA_pL, gA_pR, gA_pA, gA_pQ, gQ_pI, gQ_pL, gQ_pR, gQ_pA, gQ_pQ, gK_pI, gK_pL, gK_pR, gK_pA, gK_pQ, gN_pI, gN_pL, gN_pR, gN_pA, gN_pQ, gS_pI, gS_pL, gS_pR, gS_pA, gS_pQ, gI_mk, gL_mk, gR_mk, gA_mk, gQ_mk, gK_mk, gN_mk, gS_mk, vn0, vn1, lt0, leN, ltN, eqN, eqM1, M1eq, le0n, eq0n, nI_add, nI_mul, ↓reduceIte, Nat.reduceAdd, Nat.reduceMul, Nat.reduceEqDiff, Nat.reduceLT, Nat.reduceLeDiff, and_true, true_and, and_false, false_and, and_self, reduceCtorEq, not_true_eq_false, not_false_eq_true, some_ne, b1, v3, c]
theorem cls_grow {h : AH} {bs s0 q n tag : Nat} {nm : List Nat} {sg : Nat → Nat} {ad : Nat → Nat → Nat → Nat} {T : TS} (hA : AdOk h bs s0 sg ad) (hC : ClsT h ad (sg 8) (sg 9) T) (hS : SizT T) (h0 : tIs T 0 = true) (huq : tIs T q = true) (htg : tag ≤ 17) (hnl : nm.length ≤ 8) (hnv : vch nm) (hg : grw T q = some n) : ∃ h1 ad1, fX7_grow (some (sg 8)) (some (ad 1 q 0)) (nI tag) (lN (pack nm)) h = some (some (ad1 1 n 0), h1) ∧ AdOk h1 bs s0 sg ad1 ∧ ClsT h1 ad1 (sg 8) (sg 9) (gwT T q tag nm n) ∧ FrTB sg h ad h1 ad1 := by
  obtain ⟨hd, hn, hnu⟩ := grw_some hg
  have hq := hS.lt huq
  obtain ⟨s1, s2, s3, s4, s5, s6, s7, s8, s9, s10⟩ := hS.2 q huq
  have hqn : q ≠ n := fun z => by rw [z, hnu] at huq; cases huq
  have hlf : lfA T 120 0 = some n := by unfold grw at hg; rw [if_pos hd] at hg; exact hg
  obtain ⟨-, ⟨b1, -⟩, v1, v2, v3, -⟩ := hC.nd hq huq
  have mk : ∃ h1 ad1, fX7_grow (some (sg 8)) (some (ad 1 q 0)) (nI tag) (lN (pack nm)) h = fX7_grow_64 (some (sg 8)) (some (ad1 1 q 0)) (nI tag) (lN (pack nm)) (nI n) h1 ∧ AdOk h1 bs s0 sg ad1 ∧ ClsT h1 ad1 (sg 8) (sg 9) T ∧ gQ h1 (sg 9) n = some (ad1 1 n 0) ∧ NdB h1 ad1 n ∧ FrTB sg h ad h1 ad1 := by
    simp only [fX7_grow, fX7_grow_0, fX7_grow_13, fX7_grow_36]
    rcases hC.2.2.2.2.2 n hn with ⟨z1, z2, z3⟩ | ⟨z1, z2, z3, z4⟩
    · obtain ⟨h1, ad1, g1, A1, C1, Q1, B1, F1, E1⟩ := cls_make hA hC hS h0 hn hnu z1 z3
      refine ⟨h1, ad1, ?_, A1, C1, Q1, B1, F1⟩
      rw [E1 1 q 0 hqn, ← g1 (fun h12 => fX7_grow_64 (some (sg 8)) (some (ad 1 q 0)) (nI tag) (lN (pack nm)) (nI n) h12)]
      simp (disch := omega) only [↓uGI, ↓uGR, ↓uCV, ↓uAN, ↓uQL, ↓oCL, ↓reduceIte, some_ne, b1, v3, ltN, hd, hC.1, cls_leastFree hC, hlf, oI, lt0, hC.2.1, hC.2.2.1, Nat.reduceAdd, hn, z1, and_self]
    · refine ⟨h, ad, ?_, hA, hC, z1, z2, FrTB.rf⟩
      simp (disch := omega) only [↓uGI, ↓uGL, ↓uGR, ↓uPI, ↓uPL, ↓uPR, ↓uAL, ↓uQL, ↓uAS, ↓uQS, ↓uAN, ↓uCV, ↓oCL, ↓oNO, ↓uNA, ↓oNN, ↓oZ0, ↓oZ1, gI_pI, gI_pL, gI_pR, gI_pA, gI_pQ, gL_pI, gL_pL, gL_pR, gL_pA, gL_pQ, gR_pI, gR_pL, gR_pR, gR_pA, gR_pQ, gA_pI, gA_pL, gA_pR, gA_pA, gA_pQ, gQ_pI, gQ_pL, gQ_pR, gQ_pA, gQ_pQ, gK_pI, gK_pL, gK_pR, gK_pA, gK_pQ, gN_pI, gN_pL, gN_pR, gN_pA, gN_pQ, gS_pI, gS_pL, gS_pR, gS_pA, gS_pQ, gI_mk, gL_mk, gR_mk, gA_mk, gQ_mk, gK_mk, gN_mk, gS_mk, vn0, vn1, lt0, leN, ltN, eqN, eqM1, M1eq, le0n, eq0n, nI_add, nI_mul, ↓reduceIte, Nat.reduceAdd, Nat.reduceMul, Nat.reduceEqDiff, Nat.reduceLT, Nat.reduceLeDiff, and_true, true_and, and_false, false_and, and_self, reduceCtorEq, not_true_eq_false, not_false_eq_true, some_ne, b1, v3, hd, hC.1, cls_leastFree hC, hlf, oI, hC.2.1, hC.2.2.1, hn, z1]
  obtain ⟨h1, ad1, g1, A1, C1, Q1, B1, F1⟩ := mk
  obtain ⟨h2, ad2, g2, A2, C2, F2, E2⟩ := cls_begin (tag := tag) (nm := nm) A1 C1 hS hn hnu Q1 B1 htg
  have e2q : ad2 1 q 0 = ad1 1 q 0 := E2 1 q 0 (by omega)
  have e2n : ad2 1 n 0 = ad1 1 n 0 := E2 1 n 0 (by omega)
  have nq := nw_off T n tag nm hqn
  have huq2 : tIs (nwT T n tag nm) q = true := by rw [nq.1]; exact huq
  have hun2 : tIs (nwT T n tag nm) n = true := (nw_at T n tag nm).1
  have elk : tLk (nwT T n tag nm) q = tLk T q := nq.2.2.2.2.2.1
  have edp : tDep (nwT T n tag nm) q = tDep T q := nq.2.2.2.2.2.2.2.2.1
  obtain ⟨h3, g3, A3, C3, F3⟩ := cls_link A2 C2 hq huq2 hn hun2 (fun l hl => by
    rw [elk] at hl
    obtain ⟨l1, l2⟩ := s10 l (Or.inr (Or.inr (Or.inl hl)))
    refine ⟨l1, ?_⟩
    rw [(nw_off T n tag nm (fun z => by rw [z, hnu] at l2; cases l2)).1]
    exact l2) (by rw [edp]; omega)
  have C4 := C3.p352 (tCnt T + 1)
  have c5 : gI h3 352 (sg 8) = nI (tCnt T) := by
    have e : tCnt (uLk (lk2 (lk1 (nwT T n tag nm) q n) q n) q (some n)) = tCnt T := by
      show tCnt (lk2 (lk1 (nwT T n tag nm) q n) q n) = _
      rw [lk2_cnt]
      rfl
    rw [← e]
    exact C3.2.2.2.2.1
  refine ⟨pI h3 352 (sg 8) (nI (tCnt T + 1)), ad2, ?_, A3.eq rfl rfl rfl, C4, F1.tr (F2.tr (F3.tr ⟨FrX.pI FrX.rf (Or.inr (Or.inl rfl)), ExtT.same rfl⟩))⟩
  rw [g1]
  simp only [fX7_grow_64]
  have k1n := (C2.nd hn hun2).2.1.1
  have k1q := (C2.nd hq huq2).2.1.1
  rw [e2n] at k1n
  rw [e2q] at k1q
  rw [e2n, e2q] at g3
  simp (disch := omega) only [↓uGI, ↓uGL, ↓uGR, ↓uPI, ↓uPL, ↓uPR, ↓uAL, ↓uQL, ↓uAS, ↓uQS, ↓uAN, ↓uCV, ↓oCL, ↓oNO, ↓uNA, ↓oNN, ↓oZ0, ↓oZ1, gI_pI, gI_pL, gI_pR, gI_pA, gI_pQ, gL_pI, gL_pL, gL_pR, gL_pA, gL_pQ, gR_pI, gR_pL, gR_pR, gR_pA, gR_pQ, gA_pI, gA_pL, gA_pR, gA_pA, gA_pQ, gQ_pI, gQ_pL, gQ_pR, gQ_pA, gQ_pQ, gK_pI, gK_pL, gK_pR, gK_pA, gK_pQ, gN_pI, gN_pL, gN_pR, gN_pA, gN_pQ, gS_pI, gS_pL, gS_pR, gS_pA, gS_pQ, gI_mk, gL_mk, gR_mk, gA_mk, gQ_mk, gK_mk, gN_mk, gS_mk, vn0, vn1, lt0, leN, ltN, eqN, eqM1, M1eq, le0n, eq0n, nI_add, nI_mul, ↓reduceIte, Nat.reduceAdd, Nat.reduceMul, Nat.reduceEqDiff, Nat.reduceLT, Nat.reduceLeDiff, and_true, true_and, and_false, false_and, and_self, reduceCtorEq, not_true_eq_false, not_false_eq_true, C1.1, C1.2.1, C1.2.2.1, hn, Q1, B1.1, g2, k1q, g3, C3.1, c5, e2n]

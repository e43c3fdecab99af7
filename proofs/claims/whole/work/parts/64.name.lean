theorem RefN.fr {h h' : AH} {ra : Nat → Nat} {T : TS} {i : Nat} (q : RefN h ra T i) (e : ∀ k j, 6 ≤ k → k ≤ 23 → gA h' (ra k) j = gA h (ra k) j) : RefN h' ra T i := by
  unfold RefN at q ⊢
  simp only [e 6 _ (by omega) (by omega), e 7 _ (by omega) (by omega), e 8 _ (by omega) (by omega), e 9 _ (by omega) (by omega), e 10 _ (by omega) (by omega), e 11 _ (by omega) (by omega), e 12 _ (by omega) (by omega), e 13 _ (by omega) (by omega), e 14 _ (by omega) (by omega), e 15 _ (by omega) (by omega), e 16 _ (by omega) (by omega), e 17 _ (by omega) (by omega), e 18 _ (by omega) (by omega), e 19 _ (by omega) (by omega), e 20 _ (by omega) (by omega), e 21 _ (by omega) (by omega), e 22 _ (by omega) (by omega), e 23 _ (by omega) (by omega)]
  exact q
theorem RefT.fr {h h' : AH} {m : Nat} {ra : Nat → Nat} {T : TS} (q : RefT h m ra T) {I : Nat → Nat → Prop} {A : Nat → Prop} (w : Fr I A h h') (hI : ¬ I 475 m) (hA : ∀ k, 6 ≤ k → k ≤ 23 → ¬ A (ra k)) : RefT h' m ra T :=
  ⟨by rw [w.1 _ _ hI]; exact q.1, fun i hi => (q.2 i hi).fr (fun k j h1 h2 => w.2.2.2.1 _ _ (hA k h1 h2))⟩
/-- fields of the class's tree -/
def treeF (f : Nat) : Prop := f = 2 ∨ f = 51 ∨ (150 ≤ f ∧ f < 200) ∨ f = 352
theorem AtV.fr {h h' : AH} {ad : Nat → Nat → Nat → Nat} {i : Nat} {L : AttL} (q : AtV h ad i L) (e1 : ∀ f a, treeF f → gI h' f a = gI h f a) (e2 : gL h' = gL h) (e3 : gQ h' = gQ h) (e4 : ∀ j k, gA h' (ad 6 i j) k = gA h (ad 6 i j) k) : AtV h' ad i L := by
  unfold AtV at q ⊢
  rw [e1 51 _ (Or.inr (Or.inl rfl)), e2, e3]
  refine ⟨q.1, fun j hj => ?_⟩
  obtain ⟨q1, q2, q3, q4⟩ := q.2 j hj
  exact ⟨q1, q2, by rw [e1 2 _ (Or.inl rfl)]; exact q3, fun k hk => by rw [e4]; exact q4 k hk⟩
theorem ClsN.fr {h h' : AH} {ad : Nat → Nat → Nat → Nat} {nd i : Nat} {T : TS} (q : ClsN h ad nd T i) (e1 : ∀ f a, treeF f → gI h' f a = gI h f a) (e2 : gL h' = gL h) (e3 : gQ h' = gQ h) (e4 : ∀ i j k, gA h' (ad 6 i j) k = gA h (ad 6 i j) k) (e5 : ∀ i k, gA h' (ad 4 i 0) k = gA h (ad 4 i 0) k) (e6 : gR h' = gR h) (e7 : gK h' = gK h) (e8 : gN h' = gN h) : ClsN h' ad nd T i := by
  have t : ∀ f, 150 ≤ f ∧ f < 200 → treeF f := fun f hf => Or.inr (Or.inr (Or.inl hf))
  rcases q with q | ⟨q1, ⟨b1, b2, b3, b4, b5⟩, q3, q4⟩
  · exact Or.inl (by rw [e3, e8]; exact q)
  · refine Or.inr ⟨by rw [e3]; exact q1, ⟨by rw [e7]; exact b1, by rw [e1 150 _ (t _ (by omega))]; exact b2, by rw [e6]; exact b3, ?_, by rw [e6, e7, e8]; exact b5⟩, by rw [e1 152 _ (t _ (by omega))]; exact q3, fun hu => ?_⟩
    · unfold AtB at b4 ⊢
      rw [e7, e6, e3, e8]
      exact b4
    · obtain ⟨v1, v2, v3, v4, v5, v6, v7, v8, v9, v10, v11, v12⟩ := q4 hu
      refine ⟨by rw [e1 153 _ (t _ (by omega))]; exact v1, by rw [e2]; exact v2, by rw [e1 155 _ (t _ (by omega))]; exact v3, by rw [e6]; exact v4, by rw [e6]; exact v5, by rw [e6]; exact v6, by rw [e6]; exact v7, by rw [e6]; exact v8, v9.fr e1 e2 e3 (e4 i), by rw [e1 162 _ (t _ (by omega))]; exact v10, by rw [e1 163 _ (t _ (by omega))]; exact v11, fun h17 => ?_⟩
      obtain ⟨z1, z2⟩ := v12 h17
      exact ⟨by rw [e6]; exact z1, fun k hk => by rw [e5]; exact z2 k hk⟩
theorem ClsT.fr {h h' : AH} {ad : Nat → Nat → Nat → Nat} {tr nd : Nat} {T : TS} (q : ClsT h ad tr nd T) {I : Nat → Nat → Prop} {A : Nat → Prop} (w : Fr I A h h') (hI : ∀ f a, I f a → ¬ treeF f) (hA : ∀ i j, ¬ A (ad 6 i j)) (hA4 : ∀ i, ¬ A (ad 4 i 0)) : ClsT h' ad tr nd T := by
  obtain ⟨q1, q2, q3, q4, q5, q6⟩ := q
  obtain ⟨w1, w2, w3, w4, w5, w6, w7, w8⟩ := w
  have e1 : ∀ f a, treeF f → gI h' f a = gI h f a := fun f a hf => w1 f a (fun z => hI f a z hf)
  exact ⟨by rw [w6]; exact q1, by rw [w3]; exact q2, by rw [w6]; exact q3, by rw [w3]; exact q4, by rw [e1 352 _ (Or.inr (Or.inr (Or.inr rfl)))]; exact q5, fun i hi => (q6 i hi).fr e1 w2 w5 (fun i j k => w4 _ _ (hA i j)) (fun i k => w4 _ _ (hA4 i)) w3 w6 w7⟩
theorem OutC.clear {h : AH} {o b : Nat} {ol : List Int32} (q : OutC h o b ol) : OutC (pI h 201 o (nI 0)) o b [] := ⟨q.1, q.2.1, q.2.2.1, if_pos ⟨rfl, rfl⟩, by simp, fun i hi => by simp at hi⟩
theorem OutR.clear {h : AH} {m : Nat} {ra : Nat → Nat} : OutR (pI h 455 m (nI 0)) m ra [] := ⟨if_pos ⟨rfl, rfl⟩, by simp, fun i hi => by simp at hi⟩
theorem mapI_get {l : List Nat} {k : Nat} (h : k < l.length) : (l.map nI).getD k 0 = nI (l.getD k 0) := by
  rw [gD_in (by simp; exact h), gD_in h]
  simp
theorem isB_nI {c : Nat} (h : c < 128) : isB (nI c) := by
  unfold isB
  have := sx_lo c h
  unfold sx at this
  rw [this]
theorem bch_isB {l : List Nat} (h : bch l) : ∀ c ∈ l.map nI, isB c := by
  intro c hc
  obtain ⟨d, hd, rfl⟩ := List.mem_map.mp hc
  exact isB_nI (okb_lt (h d hd))
theorem vch_isB {l : List Nat} (h : vch l) : ∀ c ∈ l.map nI, isB c := by
  intro c hc
  obtain ⟨d, hd, rfl⟩ := List.mem_map.mp hc
  exact isB_nI (h d hd).2
def nmL (T : TS) (i : Nat) : List Int32 := if tTag T i = 17 then (tTxt T i).map nI else (tNam T i).map nI
/-- what name() leaves in the out -/
def nmO (T : TS) (ol : List Int32) (v : Int32) : List Int32 := match nAt T v with
  | none => ol
  | some i => ow [] (nmL T i)
def nmV (T : TS) (v : Int32) : Int32 := match nAt T v with
  | none => -1
  | some i => nI (ow [] (nmL T i)).length
theorem cls_name {h : AH} {x t o f tr rd nd b : Nat} {ad : Nat → Nat → Nat → Nat} {T : TS} {ol : List Int32} (hC : CB h x t o f tr rd) (hT : ClsT h ad tr nd T) (hS : SizT T) (hO : OutC h o b ol) (hb4 : ∀ i, ad 4 i 0 ≠ b) (v : Int32) :
    ∃ h', fX8_name (some x) v h = some (nmV T v, h') ∧ OutC h' o b (nmO T ol v) ∧ FrO o b h h' := by
  obtain ⟨c1, -, c3, -, c2, -⟩ := id hC
  have k1 := hT.1
  simp only [fX8_name, fX8_name_0, fX8_name_61, nmV, nmO]
  simp only [↓uGI, ↓uGL, ↓uGR, ↓uPI, ↓uPL, ↓uPR, ↓uAL, ↓uQL, ↓uAS, ↓uQS, ↓uAN, ↓uCV, ↓oCL, ↓oNO, ↓uNA, ↓oNN, ↓oZ0, ↓oZ1, gI_pI, gI_pL, gI_pR, gI_pA, gI_pQ, gL_pI, gL_pL, gL_pR, gL_pA, gL_pQ, gR_pI, gR_pL, gR_pR, gR_pA, gR_pQ, gA_pI, gA_pL, gA_pR, gA_pA, gA_pQ, gQ_pI, gQ_pL, gQ_pR, gQ_pA, gQ_pQ, gK_pI, gK_pL, gK_pR, gK_pA, gK_pQ, gN_pI, gN_pL, gN_pR, gN_pA, gN_pQ, gS_pI, gS_pL, gS_pR, gS_pA, gS_pQ, gI_mk, gL_mk, gR_mk, gA_mk, gQ_mk, gK_mk, gN_mk, gS_mk, vn0, vn1, lt0, leN, ltN, eqN, eqM1, M1eq, le0n, eq0n, nI_add, nI_mul, ↓reduceIte, Nat.reduceAdd, Nat.reduceMul, Nat.reduceEqDiff, Nat.reduceLT, Nat.reduceLeDiff, and_true, true_and, and_false, false_and, and_self, reduceCtorEq, not_true_eq_false, not_false_eq_true, c1, c2, k1, cls_nodeAt hT]
  cases hn : nAt T v with
  | none => exact ⟨h, by simp [oN_n], hO, Fr.rf⟩
  | some i =>
    obtain ⟨hi, hu, rfl⟩ := nAt_some hn
    obtain ⟨-, ⟨b1, b2, b3, b4, b5⟩, v1, v2, v3, v4, v5, v6, v7, v8, v9, v10, v11, v12⟩ := hT.nd hi hu
    obtain ⟨s1, s2, s3, s4, s5, s6, s7, s8, s9, s10⟩ := hS.2 i hu
    have O1 := hO.clear
    simp only [oN_s, some_ne, ↓reduceIte]
    by_cases h17 : tTag T i = 17
    · obtain ⟨z1, z2⟩ := v12 h17
      have hk4 : gK h (ad 4 i 0) = (101, 400) := by
        rcases b5 with b5 | b5
        · rw [z1] at b5; cases b5.1
        · exact b5.2
      obtain ⟨h1, g1, O2, F2⟩ := cls_putBytes (w := (tTxt T i).map nI) O1 (hb4 i) (n := 400) (by simp; exact s6) (by omega) (bch_isB s7) hk4 (fun k hk => by rw [mapI_get (by simpa using hk)]; exact z2 k (by simpa using hk))
      rw [List.length_map] at g1
      have Ft : FrO o b h h1 := Fr.tr (h1 := pI h 201 o (nI 0)) (Fr.pI Fr.rf ⟨rfl, rfl⟩) F2
      have C2 := Ft.CB hC
      refine ⟨h1, ?_, ?_, Ft⟩
      · simp (disch := omega) only [↓uGI, ↓uGL, ↓uGR, ↓uPI, ↓uPL, ↓uPR, ↓uAL, ↓uQL, ↓uAS, ↓uQS, ↓uAN, ↓uCV, ↓oCL, ↓oNO, ↓uNA, ↓oNN, ↓oZ0, ↓oZ1, gI_pI, gI_pL, gI_pR, gI_pA, gI_pQ, gL_pI, gL_pL, gL_pR, gL_pA, gL_pQ, gR_pI, gR_pL, gR_pR, gR_pA, gR_pQ, gA_pI, gA_pL, gA_pR, gA_pA, gA_pQ, gQ_pI, gQ_pL, gQ_pR, gQ_pA, gQ_pQ, gK_pI, gK_pL, gK_pR, gK_pA, gK_pQ, gN_pI, gN_pL, gN_pR, gN_pA, gN_pQ, gS_pI, gS_pL, gS_pR, gS_pA, gS_pQ, gI_mk, gL_mk, gR_mk, gA_mk, gQ_mk, gK_mk, gN_mk, gS_mk, vn0, vn1, lt0, leN, ltN, eqN, eqM1, M1eq, le0n, eq0n, nI_add, nI_mul, ↓reduceIte, Nat.reduceAdd, Nat.reduceMul, Nat.reduceEqDiff, Nat.reduceLT, Nat.reduceLeDiff, and_true, true_and, and_false, false_and, and_self, reduceCtorEq, not_true_eq_false, not_false_eq_true, c1, c3, hO.1, b1, v1, h17, z1, v10, show ¬ (162 = 201) by omega, show ¬ (153 = 201) by omega, g1, C2.1, C2.2.2.1, O2.1, O2.2.2.2.1, nmL]
      · unfold nmL
        rw [if_pos h17]
        exact O2
    · obtain ⟨h1, g1, O2, F2⟩ := cls_putName (l := tNam T i) O1 s3 s2
      have Ft : FrO o b h h1 := Fr.tr (h1 := pI h 201 o (nI 0)) (Fr.pI Fr.rf ⟨rfl, rfl⟩) F2
      have C2 := Ft.CB hC
      refine ⟨h1, ?_, ?_, Ft⟩
      · simp (disch := omega) only [↓uGI, ↓uGL, ↓uGR, ↓uPI, ↓uPL, ↓uPR, ↓uAL, ↓uQL, ↓uAS, ↓uQS, ↓uAN, ↓uCV, ↓oCL, ↓oNO, ↓uNA, ↓oNN, ↓oZ0, ↓oZ1, gI_pI, gI_pL, gI_pR, gI_pA, gI_pQ, gL_pI, gL_pL, gL_pR, gL_pA, gL_pQ, gR_pI, gR_pL, gR_pR, gR_pA, gR_pQ, gA_pI, gA_pL, gA_pR, gA_pA, gA_pQ, gQ_pI, gQ_pL, gQ_pR, gQ_pA, gQ_pQ, gK_pI, gK_pL, gK_pR, gK_pA, gK_pQ, gN_pI, gN_pL, gN_pR, gN_pA, gN_pQ, gS_pI, gS_pL, gS_pR, gS_pA, gS_pQ, gI_mk, gL_mk, gR_mk, gA_mk, gQ_mk, gK_mk, gN_mk, gS_mk, vn0, vn1, lt0, leN, ltN, eqN, eqM1, M1eq, le0n, eq0n, nI_add, nI_mul, ↓reduceIte, Nat.reduceAdd, Nat.reduceMul, Nat.reduceEqDiff, Nat.reduceLT, Nat.reduceLeDiff, and_true, true_and, and_false, false_and, and_self, reduceCtorEq, not_true_eq_false, not_false_eq_true, c1, c3, hO.1, b1, v1, h17, v2, show ¬ (153 = 201) by omega, g1, C2.1, C2.2.2.1, O2.1, O2.2.2.2.1, nmL]
      · unfold nmL
        rw [if_neg h17]
        exact O2
theorem ref_name {h : AH} {m : Nat} {ra : Nat → Nat} {T : TS} {ol : List Int32} (hB : RB h m ra) (hR : RefT h m ra T) (hS : SizT T) (hO : OutR h m ra ol) (v : Int32) :
    ∃ h', fX9_name (some m) v h = some (nmV T v, h') ∧ OutR h' m ra (nmO T ol v) ∧ FrS m ra h h' := by
  simp only [fX9_name, fX9_name_0, fX9_name_66, nmV, nmO]
  simp only [↓uGI, ↓uGL, ↓uGR, ↓uPI, ↓uPL, ↓uPR, ↓uAL, ↓uQL, ↓uAS, ↓uQS, ↓uAN, ↓uCV, ↓oCL, ↓oNO, ↓uNA, ↓oNN, ↓oZ0, ↓oZ1, gI_pI, gI_pL, gI_pR, gI_pA, gI_pQ, gL_pI, gL_pL, gL_pR, gL_pA, gL_pQ, gR_pI, gR_pL, gR_pR, gR_pA, gR_pQ, gA_pI, gA_pL, gA_pR, gA_pA, gA_pQ, gQ_pI, gQ_pL, gQ_pR, gQ_pA, gQ_pQ, gK_pI, gK_pL, gK_pR, gK_pA, gK_pQ, gN_pI, gN_pL, gN_pR, gN_pA, gN_pQ, gS_pI, gS_pL, gS_pR, gS_pA, gS_pQ, gI_mk, gL_mk, gR_mk, gA_mk, gQ_mk, gK_mk, gN_mk, gS_mk, vn0, vn1, lt0, leN, ltN, eqN, eqM1, M1eq, le0n, eq0n, nI_add, nI_mul, ↓reduceIte, Nat.reduceAdd, Nat.reduceMul, Nat.reduceEqDiff, Nat.reduceLT, Nat.reduceLeDiff, and_true, true_and, and_false, false_and, and_self, reduceCtorEq, not_true_eq_false, not_false_eq_true, hB.o, ref_there hB hR, bI0]
  cases hn : nAt T v with
  | none => exact ⟨h, by simp, hO, Fr.rf⟩
  | some i =>
    obtain ⟨hi, hu, rfl⟩ := nAt_some hn
    obtain ⟨w1, w2, w3, w4, w5, w6, w7, w8, w9, w10, w11, w12, w13, w14⟩ := (hR.2 i hi).2 hu
    obtain ⟨s1, s2, s3, s4, s5, s6, s7, s8, s9, s10⟩ := hS.2 i hu
    have O1 : OutR (pI h 455 m (nI 0)) m ra [] := OutR.clear
    simp only [Option.isSome_some, Bool.true_eq_false, ↓reduceIte]
    by_cases h17 : tTag T i = 17
    · obtain ⟨h1, g1, O2, F2⟩ := ref_sayAll (h := pI h 455 m (nI 0)) (w := (tTxt T i).map nI) (a := ra 21) (n := 48000) (fr := 400 * i) hB O1 (fun q => by rw [hB.i] at q; omega) (by simp; omega) (by omega) (bch_isB s7) hB.k21 (fun k hk => by rw [mapI_get (by simpa using hk)]; exact w13 k (by simpa using hk))
      rw [List.length_map] at g1
      have Ft : FrS m ra h h1 := Fr.tr (h1 := pI h 455 m (nI 0)) (Fr.pI Fr.rf ⟨rfl, rfl⟩) F2
      have B2 := Ft.RB hB
      refine ⟨h1, ?_, ?_, Ft⟩
      · simp (disch := omega) only [↓uGI, ↓uGL, ↓uGR, ↓uPI, ↓uPL, ↓uPR, ↓uAL, ↓uQL, ↓uAS, ↓uQS, ↓uAN, ↓uCV, ↓oCL, ↓oNO, ↓uNA, ↓oNN, ↓oZ0, ↓oZ1, gI_pI, gI_pL, gI_pR, gI_pA, gI_pQ, gL_pI, gL_pL, gL_pR, gL_pA, gL_pQ, gR_pI, gR_pL, gR_pR, gR_pA, gR_pQ, gA_pI, gA_pL, gA_pR, gA_pA, gA_pQ, gQ_pI, gQ_pL, gQ_pR, gQ_pA, gQ_pQ, gK_pI, gK_pL, gK_pR, gK_pA, gK_pQ, gN_pI, gN_pL, gN_pR, gN_pA, gN_pQ, gS_pI, gS_pL, gS_pR, gS_pA, gS_pQ, gI_mk, gL_mk, gR_mk, gA_mk, gQ_mk, gK_mk, gN_mk, gS_mk, vn0, vn1, lt0, leN, ltN, eqN, eqM1, M1eq, le0n, eq0n, nI_add, nI_mul, ↓reduceIte, Nat.reduceAdd, Nat.reduceMul, Nat.reduceEqDiff, Nat.reduceLT, Nat.reduceLeDiff, and_true, true_and, and_false, false_and, and_self, reduceCtorEq, not_true_eq_false, not_false_eq_true, hB.o, hB.r7, hB.k7, hi, w1, h17, hB.r21, hB.r22, hB.k22, w12, g1, B2.o, O2.1, nmL]
      · unfold nmL
        rw [if_pos h17]
        exact O2
    · obtain ⟨h1, g1, O2, F2⟩ := ref_sayAll (h := pI h 455 m (nI 0)) (w := (tNam T i).map nI) (a := ra 8) (n := 960) (fr := 8 * i) hB O1 (fun q => by rw [hB.i] at q; omega) (by simp; omega) (by omega) (vch_isB s3) hB.k8 (fun k hk => by rw [mapI_get (by simpa using hk)]; exact w3 k (by simpa using hk))
      rw [List.length_map] at g1
      have Ft : FrS m ra h h1 := Fr.tr (h1 := pI h 455 m (nI 0)) (Fr.pI Fr.rf ⟨rfl, rfl⟩) F2
      have B2 := Ft.RB hB
      refine ⟨h1, ?_, ?_, Ft⟩
      · simp (disch := omega) only [↓uGI, ↓uGL, ↓uGR, ↓uPI, ↓uPL, ↓uPR, ↓uAL, ↓uQL, ↓uAS, ↓uQS, ↓uAN, ↓uCV, ↓oCL, ↓oNO, ↓uNA, ↓oNN, ↓oZ0, ↓oZ1, gI_pI, gI_pL, gI_pR, gI_pA, gI_pQ, gL_pI, gL_pL, gL_pR, gL_pA, gL_pQ, gR_pI, gR_pL, gR_pR, gR_pA, gR_pQ, gA_pI, gA_pL, gA_pR, gA_pA, gA_pQ, gQ_pI, gQ_pL, gQ_pR, gQ_pA, gQ_pQ, gK_pI, gK_pL, gK_pR, gK_pA, gK_pQ, gN_pI, gN_pL, gN_pR, gN_pA, gN_pQ, gS_pI, gS_pL, gS_pR, gS_pA, gS_pQ, gI_mk, gL_mk, gR_mk, gA_mk, gQ_mk, gK_mk, gN_mk, gS_mk, vn0, vn1, lt0, leN, ltN, eqN, eqM1, M1eq, le0n, eq0n, nI_add, nI_mul, ↓reduceIte, Nat.reduceAdd, Nat.reduceMul, Nat.reduceEqDiff, Nat.reduceLT, Nat.reduceLeDiff, and_true, true_and, and_false, false_and, and_self, reduceCtorEq, not_true_eq_false, not_false_eq_true, hB.o, hB.r7, hB.k7, hi, w1, h17, hB.r8, hB.r9, hB.k9, w2, g1, B2.o, O2.1, nmL]
      · unfold nmL
        rw [if_neg h17]
        exact O2

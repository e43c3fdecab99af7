/-! ATTRIBUTES that grow (class) -/
def Own (h : AH) (ad : Nat → Nat → Nat → Nat) (i a : Nat) : Prop := ∃ c j, a = ad c i j ∧ a < gN h
/-- of those, what the ATTRIBUTES have -/
def OwA (h : AH) (ad : Nat → Nat → Nat → Nat) (i a : Nat) : Prop := ∃ c j, (c = 2 ∨ c = 3 ∨ c = 5 ∨ c = 6) ∧ a = ad c i j ∧ a < gN h
theorem OwA.own {h : AH} {ad : Nat → Nat → Nat → Nat} {i a : Nat} (q : OwA h ad i a) : Own h ad i a := by
  obtain ⟨c, j, -, e⟩ := q
  exact ⟨c, j, e⟩
/-- made names stay -/
def Ext (h : AH) (ad : Nat → Nat → Nat → Nat) (h' : AH) (ad' : Nat → Nat → Nat → Nat) : Prop := gN h ≤ gN h' ∧ ∀ c i j, ad c i j < gN h → ad' c i j = ad c i j
theorem Ext.rf {h : AH} {ad : Nat → Nat → Nat → Nat} : Ext h ad h ad := ⟨Nat.le_refl _, fun _ _ _ _ => rfl⟩
theorem Ext.tr {h h1 h2 : AH} {ad ad1 ad2 : Nat → Nat → Nat → Nat} (q : Ext h ad h1 ad1) (r : Ext h1 ad1 h2 ad2) : Ext h ad h2 ad2 :=
  ⟨Nat.le_trans q.1 r.1, fun c i j z => by
    have e := q.2 c i j z
    rw [r.2 c i j (by rw [e]; have := q.1; omega), e]⟩
theorem Ext.same {h h' : AH} {ad : Nat → Nat → Nat → Nat} (e : gN h' = gN h) : Ext h ad h' ad := ⟨by rw [e]; exact Nat.le_refl _, fun _ _ _ _ => rfl⟩
theorem OwA.ext {h h' : AH} {ad ad' : Nat → Nat → Nat → Nat} {i a : Nat} (q : OwA h ad i a) (e : Ext h ad h' ad') : OwA h' ad' i a := by
  obtain ⟨c, j, hc, rfl, hl⟩ := q
  exact ⟨c, j, hc, (e.2 c i j hl).symm, Nat.lt_of_lt_of_le hl e.1⟩
theorem Own.ext {h h' : AH} {ad ad' : Nat → Nat → Nat → Nat} {i a : Nat} (q : Own h ad i a) (e : Ext h ad h' ad') : Own h' ad' i a := by
  obtain ⟨c, j, rfl, hl⟩ := q
  exact ⟨c, j, (e.2 c i j hl).symm, Nat.lt_of_lt_of_le hl e.1⟩
theorem AdOk.nek {h : AH} {bs s0 : Nat} {sg : Nat → Nat} {ad : Nat → Nat → Nat → Nat} (q : AdOk h bs s0 sg ad) (d : Nat) (hd : d ≤ 5) (c i j : Nat) : (ad c i j = gN h + d) = False := by
  have := q.lt
  refine eq_false (fun z => ?_)
  rcases q.2.2.2.1 c i j with z' | z' <;> omega
theorem AdOk.nek0 {h : AH} {bs s0 : Nat} {sg : Nat → Nat} {ad : Nat → Nat → Nat → Nat} (q : AdOk h bs s0 sg ad) (c i j : Nat) : (ad c i j = gN h) = False := q.nek 0 (by omega) c i j
theorem ClsT.upE {h h' : AH} {bs s0 : Nat} {sg : Nat → Nat} {ad ad' : Nat → Nat → Nat → Nat} {T T' : TS} {i : Nat} (q : ClsT h ad (sg 8) (sg 9) T) (hA : AdOk h bs s0 sg ad) (hA' : AdOk h' bs s0 sg ad') (hE : ∀ c k j, k ≠ i → ad' c k j = ad c k j) (e1 : ∀ k, k = 0 ∨ tIs T k = true → ad' 1 k 0 = ad 1 k 0) (hSz : SizT T) (hs : ∀ j, j ≠ i → tIs T' j = tIs T j) (hT : ∀ j, j ≠ i → tIs T j = true → TSame T T' j) (w : FrX (fun a => Own h' ad' i a ∨ a = sg 9) h h') (hk : gK h' (sg 9) = gK h (sg 9)) (hq : ∀ k, k ≠ i → gQ h' (sg 9) k = gQ h (sg 9) k) (hc : tCnt T' = tCnt T) (hn : ClsN h' ad' (sg 9) T' i) : ClsT h' ad' (sg 8) (sg 9) T' := by
  obtain ⟨q1, q2, q3, q4, q5, q6⟩ := q
  have hl := hA'.lt
  have wt := w (sg 8) (fun z => by
    rcases z with ⟨c, j, e, -⟩ | z
    · exact hA'.2.2.1 _ _ _ _ e.symm
    · have := (hA.2.1 8 9).mp z; omega)
  refine ⟨by rw [wt.2.2.2.2.2]; exact q1, by rw [wt.2.2.1]; exact q2, by rw [hk]; exact q3, by rw [wt.2.2.1, e1 0 (Or.inl rfl)]; exact q4, by rw [wt.1, hc]; exact q5, fun k hk => ?_⟩
  by_cases e : k = i
  · rw [e]; exact hn
  · refine (q6 k hk).tr (hs k e) (hT k e) (fun c j => hE c k j e) (fun hu p hp => e1 p (Or.inr ?_)) w (fun c j _ _ z => ?_) (hq k e) (fun c j z => hA.un hl z)
    · obtain ⟨s1, s2, s3, s4, s5, s6, s7, s8, s9, s10⟩ := hSz.2 k hu
      exact (s10 p hp).2
    · rcases z with ⟨c', j', e', -⟩ | z
      · rw [← hE c k j e, hA'.1.e] at e'
        exact e e'.2.1
      · exact hA.2.2.1 _ _ _ _ z
theorem AtB.eq {h h' : AH} {ad : Nat → Nat → Nat → Nat} {i : Nat} (q : AtB h ad i) (e1 : gR h' = gR h) (e2 : gK h' = gK h) (e3 : gQ h' = gQ h) (e4 : gN h' = gN h) : AtB h' ad i := by
  unfold AtB
  rw [e1, e2, e3, e4]
  exact q
def vadd (w : List Nat) (c : Nat) : List Nat := if w.length < 60 then w ++ [c] else w
def setV (L : AttL) (j : Nat) (w : List Nat) : AttL := L.set j ((L.getD j ([], [])).1, w)
theorem setV_len (L : AttL) (j : Nat) (w : List Nat) : (setV L j w).length = L.length := by simp [setV]
theorem setV_get (L : AttL) {j : Nat} (hj : j < L.length) (w : List Nat) (k : Nat) : (setV L j w).getD k ([], []) = if k = j then ((L.getD j ([], [])).1, w) else L.getD k ([], []) := by
  unfold setV
  by_cases e : k = j
  · subst e
    rw [if_pos rfl, gD_in (by simp; exact hj)]
    simp
  · rw [if_neg e]
    by_cases hk : k < L.length
    · rw [gD_in (by simp; exact hk), gD_in hk]
      simp [List.getElem_set, Ne.symm e]
    · rw [gD_out (by simp; omega), gD_out (by omega)]
theorem AtS.setV {L : AttL} (q : AtS L) {j : Nat} (hj : j < L.length) {w : List Nat} (h1 : w.length ≤ 60) (h2 : bch w) : AtS (setV L j w) := by
  refine ⟨by rw [setV_len]; exact q.1, fun p hp => ?_⟩
  unfold Jvm.Pilot.CSoupReaderLaw_law_r6526_685e83.setV at hp
  rcases List.mem_or_eq_of_mem_set hp with z | z
  · exact q.2 p z
  · obtain ⟨s1, s2, -⟩ := q.get hj
    rw [z]
    exact ⟨s1, s2, h1, h2⟩
theorem AtS.snoc {L : AttL} (q : AtS L) (hl : L.length < 4) {nm w : List Nat} (h1 : nm.length ≤ 8) (h2 : vch nm) (h3 : w.length ≤ 60) (h4 : bch w) : AtS (L ++ [(nm, w)]) := by
  refine ⟨by simp; omega, fun p hp => ?_⟩
  rcases List.mem_append.mp hp with z | z
  · exact q.2 p z
  · rw [List.mem_singleton.mp z]
    exact ⟨h1, h2, h3, h4⟩
theorem cls_attPut {h : AH} {ad : Nat → Nat → Nat → Nat} {i j c : Nat} {L : AttL} (hI : Inj3 ad) (hB : AtB h ad i) (hV : AtV h ad i L) (hS : AtS L) (hj : j < L.length) (hc : c < 128) : ∃ h', fX0_put (some (ad 5 i j)) (nI c) h = some ((), h') ∧ AtV h' ad i (setV L j (vadd (L.getD j ([], [])).2 c)) ∧ Fr (fun f a => f = 2 ∧ a = ad 5 i j) (fun a => a = ad 6 i j) h h' := by
  obtain ⟨k1, k2, k3⟩ := hB.k5 hV hS hj
  obtain ⟨v1, v2⟩ := id hV
  obtain ⟨u1, u2, u3, u4⟩ := v2 j hj
  obtain ⟨s1, s2, s3, s4⟩ := hS.get hj
  have hcb : (nI c).toInt8.toInt32 = nI c := isB_nI hc
  simp only [fX0_put, fX0_put_0, fX0_put_40, vadd]
  generalize hw : (L.getD j ([], [])).2 = w at *
  by_cases hf : w.length < 60
  · refine ⟨pI (pA h (ad 6 i j) w.length (nI c)) 2 (ad 5 i j) (nI (w.length + 1)), ?_, ⟨?_, fun k hk => ?_⟩, Fr.pI (Fr.pA Fr.rf rfl) ⟨rfl, rfl⟩⟩
    · simp (disch := omega) only [↓uGI, ↓uGL, ↓uGR, ↓uPI, ↓uPL, ↓uPR, ↓uAL, ↓uQL, ↓uAS, ↓uQS, ↓uAN, ↓uCV, ↓oCL, ↓oNO, ↓uNA, ↓oNN, ↓oZ0, ↓oZ1, gI_pI, gI_pL, gI_pR, gI_pA, gI_pQ, gL_pI, gL_pL, gL_pR, gL_pA, gL_pQ, gR_pI, gR_pL, gR_pR, gR_pA, gR_pQ, gA_pI, gA_pL, gA_pR, gA_pA, gA_pQ, gQ_pI, gQ_pL, gQ_pR, gQ_pA, gQ_pQ, gK_pI, gK_pL, gK_pR, gK_pA, gK_pQ, gN_pI, gN_pL, gN_pR, gN_pA, gN_pQ, gS_pI, gS_pL, gS_pR, gS_pA, gS_pQ, gI_mk, gL_mk, gR_mk, gA_mk, gQ_mk, gK_mk, gN_mk, gS_mk, vn0, vn1, lt0, leN, ltN, eqN, eqM1, M1eq, le0n, eq0n, nI_add, nI_mul, ↓reduceIte, Nat.reduceAdd, Nat.reduceMul, Nat.reduceEqDiff, Nat.reduceLT, Nat.reduceLeDiff, and_true, true_and, and_false, false_and, and_self, reduceCtorEq, not_true_eq_false, not_false_eq_true, k1, k2, k3, u3, hf, show ¬ 60 ≤ w.length by omega, hcb]
    · rw [setV_len, gI_pI, if_neg (by omega)]; exact v1
    · rw [setV_len] at hk
      rw [setV_get _ hj, if_pos hf]
      obtain ⟨x1, x2, x3, x4⟩ := v2 k hk
      by_cases e : k = j
      · subst e
        rw [if_pos rfl]
        refine ⟨x1, x2, ?_, fun p hp => ?_⟩
        · rw [gI_pI, if_pos ⟨rfl, rfl⟩]; simp
        · rw [getD_snoc, gA_pI, gA_pA]
          by_cases ep : p = w.length
          · rw [if_pos ⟨rfl, ep⟩, if_pos ep]
          · rw [if_neg (fun z => ep z.2), if_neg ep]
            exact u4 p (by simp at hp; omega)
      · rw [if_neg e]
        refine ⟨x1, x2, ?_, fun p hp => ?_⟩
        · rw [gI_pI, if_neg (fun z => by rw [hI.e] at z; omega)]; exact x3
        · rw [gA_pI, gA_pA, if_neg (fun z => by rw [hI.e] at z; omega)]; exact x4 p hp
  · refine ⟨h, ?_, ⟨?_, fun k hk => ?_⟩, Fr.rf⟩
    · simp (disch := omega) only [↓uGI, ↓uGL, ↓uGR, ↓uPI, ↓uPL, ↓uPR, ↓uAL, ↓uQL, ↓uAS, ↓uQS, ↓uAN, ↓uCV, ↓oCL, ↓oNO, ↓uNA, ↓oNN, ↓oZ0, ↓oZ1, gI_pI, gI_pL, gI_pR, gI_pA, gI_pQ, gL_pI, gL_pL, gL_pR, gL_pA, gL_pQ, gR_pI, gR_pL, gR_pR, gR_pA, gR_pQ, gA_pI, gA_pL, gA_pR, gA_pA, gA_pQ, gQ_pI, gQ_pL, gQ_pR, gQ_pA, gQ_pQ, gK_pI, gK_pL, gK_pR, gK_pA, gK_pQ, gN_pI, gN_pL, gN_pR, gN_pA, gN_pQ, gS_pI, gS_pL, gS_pR, gS_pA, gS_pQ, gI_mk, gL_mk, gR_mk, gA_mk, gQ_mk, gK_mk, gN_mk, gS_mk, vn0, vn1, lt0, leN, ltN, eqN, eqM1, M1eq, le0n, eq0n, nI_add, nI_mul, ↓reduceIte, Nat.reduceAdd, Nat.reduceMul, Nat.reduceEqDiff, Nat.reduceLT, Nat.reduceLeDiff, and_true, true_and, and_false, false_and, and_self, reduceCtorEq, not_true_eq_false, not_false_eq_true, k1, k2, k3, u3, show 60 ≤ w.length by omega]
    · rw [setV_len]; exact v1
    · rw [setV_len] at hk
      rw [setV_get _ hj, if_neg hf]
      obtain ⟨x1, x2, x3, x4⟩ := v2 k hk
      by_cases e : k = j
      · subst e
        rw [if_pos rfl]
        exact ⟨x1, x2, u3, u4⟩
      · rw [if_neg e]
        exact ⟨x1, x2, x3, x4⟩
/-- the place of the next one is made, if it wasn't -/
theorem cls_attMake {h : AH} {bs s0 : Nat} {sg : Nat → Nat} {ad : Nat → Nat → Nat → Nat} {i : Nat} {L : AttL} {nm : Int64} (hA : AdOk h bs s0 sg ad) (hi : i ≤ 120) (hB : AtB h ad i) (hV : AtV h ad i L) (hl : L.length < 4) : ∃ h1 ad1, fX1_grow (some (ad 2 i 0)) nm h = fX1_grow_49 (some (ad 2 i 0)) nm h1 ∧ AdOk h1 bs s0 sg ad1 ∧ AtB h1 ad1 i ∧ AtV h1 ad1 i L ∧ gQ h1 (ad1 3 i 0) L.length = some (ad1 5 i L.length) ∧ Ext h ad h1 ad1 ∧ (∀ c k j, k ≠ i ∨ c ≤ 4 → ad1 c k j = ad c k j) ∧ FrX (OwA h1 ad1 i) h h1 := by
  obtain ⟨b1, b2, b3, b4⟩ := id hB
  obtain ⟨v1, v2⟩ := id hV
  have hN0 := hA.nek0
  have hN1 := hA.nek 1 (by omega)
  rcases b4 L.length hl with ⟨z1, z2, z3⟩ | ⟨z1, z2, z3, z4⟩
  · have A1 := hA.mk (c := 5) (i := i) (j := L.length) (by omega) hi hl z2 (1, 0) (n := 3) (by omega)
    have z3' : gN h + 1 ≤ ad 6 i L.length := by
      rcases hA.2.2.2.1 6 i L.length with q | q
      · omega
      · have := hA.lt; omega
    have A2 := A1.mk (c := 6) (i := i) (j := L.length) (by omega) hi hl (by rw [ad3_n _ (by omega), gN_mk]; exact z3') (101, 60) (n := 60) (by omega)
    rw [gN_mk] at A2
    refine ⟨pQ (pR (mkC (mkC h (1, 0) 3) (101, 60) 60) 1 (gN h) (some (gN h + 1))) (ad 3 i 0) L.length (some (gN h)), ad3 (ad3 ad 5 i L.length (gN h)) 6 i L.length (gN h + 1), ?_, A2.eq rfl rfl rfl, ?_, ?_, ?_, ?_, ?_, ?_⟩
    · simp only [fX1_grow, fX1_grow_0, fX1_grow_19, fX0_init, fX0_init_0]
      simp (disch := omega) only [↓uGI, ↓uGL, ↓uGR, ↓uPI, ↓uPL, ↓uPR, ↓uAL, ↓uQL, ↓uAS, ↓uQS, ↓uAN, ↓uCV, ↓oCL, ↓oNO, ↓uNA, ↓oNN, ↓oZ0, ↓oZ1, gI_pI, gI_pL, gI_pR, gI_pA, gI_pQ, gL_pI, gL_pL, gL_pR, gL_pA, gL_pQ, gR_pI, gR_pL, gR_pR, gR_pA, gR_pQ, gA_pI, gA_pL, gA_pR, gA_pA, gA_pQ, gQ_pI, gQ_pL, gQ_pR, gQ_pA, gQ_pQ, gK_pI, gK_pL, gK_pR, gK_pA, gK_pQ, gN_pI, gN_pL, gN_pR, gN_pA, gN_pQ, gS_pI, gS_pL, gS_pR, gS_pA, gS_pQ, gI_mk, gL_mk, gR_mk, gA_mk, gQ_mk, gK_mk, gN_mk, gS_mk, vn0, vn1, lt0, leN, ltN, eqN, eqM1, M1eq, le0n, eq0n, nI_add, nI_mul, ↓reduceIte, Nat.reduceAdd, Nat.reduceMul, Nat.reduceEqDiff, Nat.reduceLT, Nat.reduceLeDiff, and_true, true_and, and_false, false_and, and_self, reduceCtorEq, not_true_eq_false, not_false_eq_true, b1, b2, b3, v1, hl, z1, hN0, hN1, show ¬ gN h = gN h + 1 by omega, show ¬ gN h + 1 = gN h by omega]
    · refine ⟨?_, ?_, ?_, fun j hj => ?_⟩
      · rw [ad3_n _ (by omega), ad3_n _ (by omega)]
        simp (disch := omega) only [↓uGI, ↓uGL, ↓uGR, ↓uPI, ↓uPL, ↓uPR, ↓uAL, ↓uQL, ↓uAS, ↓uQS, ↓uAN, ↓uCV, ↓oCL, ↓oNO, ↓uNA, ↓oNN, ↓oZ0, ↓oZ1, gI_pI, gI_pL, gI_pR, gI_pA, gI_pQ, gL_pI, gL_pL, gL_pR, gL_pA, gL_pQ, gR_pI, gR_pL, gR_pR, gR_pA, gR_pQ, gA_pI, gA_pL, gA_pR, gA_pA, gA_pQ, gQ_pI, gQ_pL, gQ_pR, gQ_pA, gQ_pQ, gK_pI, gK_pL, gK_pR, gK_pA, gK_pQ, gN_pI, gN_pL, gN_pR, gN_pA, gN_pQ, gS_pI, gS_pL, gS_pR, gS_pA, gS_pQ, gI_mk, gL_mk, gR_mk, gA_mk, gQ_mk, gK_mk, gN_mk, gS_mk, vn0, vn1, lt0, leN, ltN, eqN, eqM1, M1eq, le0n, eq0n, nI_add, nI_mul, ↓reduceIte, Nat.reduceAdd, Nat.reduceMul, Nat.reduceEqDiff, Nat.reduceLT, Nat.reduceLeDiff, and_true, true_and, and_false, false_and, and_self, reduceCtorEq, not_true_eq_false, not_false_eq_true, hN0, hN1]; exact b1
      · rw [ad3_n _ (by omega), ad3_n _ (by omega), ad3_n _ (by omega), ad3_n _ (by omega)]
        simp (disch := omega) only [↓uGI, ↓uGL, ↓uGR, ↓uPI, ↓uPL, ↓uPR, ↓uAL, ↓uQL, ↓uAS, ↓uQS, ↓uAN, ↓uCV, ↓oCL, ↓oNO, ↓uNA, ↓oNN, ↓oZ0, ↓oZ1, gI_pI, gI_pL, gI_pR, gI_pA, gI_pQ, gL_pI, gL_pL, gL_pR, gL_pA, gL_pQ, gR_pI, gR_pL, gR_pR, gR_pA, gR_pQ, gA_pI, gA_pL, gA_pR, gA_pA, gA_pQ, gQ_pI, gQ_pL, gQ_pR, gQ_pA, gQ_pQ, gK_pI, gK_pL, gK_pR, gK_pA, gK_pQ, gN_pI, gN_pL, gN_pR, gN_pA, gN_pQ, gS_pI, gS_pL, gS_pR, gS_pA, gS_pQ, gI_mk, gL_mk, gR_mk, gA_mk, gQ_mk, gK_mk, gN_mk, gS_mk, vn0, vn1, lt0, leN, ltN, eqN, eqM1, M1eq, le0n, eq0n, nI_add, nI_mul, ↓reduceIte, Nat.reduceAdd, Nat.reduceMul, Nat.reduceEqDiff, Nat.reduceLT, Nat.reduceLeDiff, and_true, true_and, and_false, false_and, and_self, reduceCtorEq, not_true_eq_false, not_false_eq_true, hN0, hN1]; exact b2
      · rw [ad3_n _ (by omega), ad3_n _ (by omega)]
        simp (disch := omega) only [↓uGI, ↓uGL, ↓uGR, ↓uPI, ↓uPL, ↓uPR, ↓uAL, ↓uQL, ↓uAS, ↓uQS, ↓uAN, ↓uCV, ↓oCL, ↓oNO, ↓uNA, ↓oNN, ↓oZ0, ↓oZ1, gI_pI, gI_pL, gI_pR, gI_pA, gI_pQ, gL_pI, gL_pL, gL_pR, gL_pA, gL_pQ, gR_pI, gR_pL, gR_pR, gR_pA, gR_pQ, gA_pI, gA_pL, gA_pR, gA_pA, gA_pQ, gQ_pI, gQ_pL, gQ_pR, gQ_pA, gQ_pQ, gK_pI, gK_pL, gK_pR, gK_pA, gK_pQ, gN_pI, gN_pL, gN_pR, gN_pA, gN_pQ, gS_pI, gS_pL, gS_pR, gS_pA, gS_pQ, gI_mk, gL_mk, gR_mk, gA_mk, gQ_mk, gK_mk, gN_mk, gS_mk, vn0, vn1, lt0, leN, ltN, eqN, eqM1, M1eq, le0n, eq0n, nI_add, nI_mul, ↓reduceIte, Nat.reduceAdd, Nat.reduceMul, Nat.reduceEqDiff, Nat.reduceLT, Nat.reduceLeDiff, and_true, true_and, and_false, false_and, and_self, reduceCtorEq, not_true_eq_false, not_false_eq_true, hN0, hN1]; exact b3
      · rw [ad3_n (c' := 3) _ (by omega), ad3_n (c' := 3) _ (by omega)]
        by_cases e : j = L.length
        · subst e
          rw [ad3_n (c' := 5) _ (by omega), ad3_s, ad3_s]
          right
          simp (disch := omega) only [↓uGI, ↓uGL, ↓uGR, ↓uPI, ↓uPL, ↓uPR, ↓uAL, ↓uQL, ↓uAS, ↓uQS, ↓uAN, ↓uCV, ↓oCL, ↓oNO, ↓uNA, ↓oNN, ↓oZ0, ↓oZ1, gI_pI, gI_pL, gI_pR, gI_pA, gI_pQ, gL_pI, gL_pL, gL_pR, gL_pA, gL_pQ, gR_pI, gR_pL, gR_pR, gR_pA, gR_pQ, gA_pI, gA_pL, gA_pR, gA_pA, gA_pQ, gQ_pI, gQ_pL, gQ_pR, gQ_pA, gQ_pQ, gK_pI, gK_pL, gK_pR, gK_pA, gK_pQ, gN_pI, gN_pL, gN_pR, gN_pA, gN_pQ, gS_pI, gS_pL, gS_pR, gS_pA, gS_pQ, gI_mk, gL_mk, gR_mk, gA_mk, gQ_mk, gK_mk, gN_mk, gS_mk, vn0, vn1, lt0, leN, ltN, eqN, eqM1, M1eq, le0n, eq0n, nI_add, nI_mul, ↓reduceIte, Nat.reduceAdd, Nat.reduceMul, Nat.reduceEqDiff, Nat.reduceLT, Nat.reduceLeDiff, and_true, true_and, and_false, false_and, and_self, reduceCtorEq, not_true_eq_false, not_false_eq_true, hN0, hN1, show ¬ gN h = gN h + 1 by omega, show ¬ gN h + 1 = gN h by omega]
        · rw [ad3_n (c' := 5) _ (by omega), ad3_n (c' := 5) _ (by omega), ad3_n (c' := 6) _ (by omega), ad3_n (c' := 6) _ (by omega)]
          simp (disch := omega) only [↓uGI, ↓uGL, ↓uGR, ↓uPI, ↓uPL, ↓uPR, ↓uAL, ↓uQL, ↓uAS, ↓uQS, ↓uAN, ↓uCV, ↓oCL, ↓oNO, ↓uNA, ↓oNN, ↓oZ0, ↓oZ1, gI_pI, gI_pL, gI_pR, gI_pA, gI_pQ, gL_pI, gL_pL, gL_pR, gL_pA, gL_pQ, gR_pI, gR_pL, gR_pR, gR_pA, gR_pQ, gA_pI, gA_pL, gA_pR, gA_pA, gA_pQ, gQ_pI, gQ_pL, gQ_pR, gQ_pA, gQ_pQ, gK_pI, gK_pL, gK_pR, gK_pA, gK_pQ, gN_pI, gN_pL, gN_pR, gN_pA, gN_pQ, gS_pI, gS_pL, gS_pR, gS_pA, gS_pQ, gI_mk, gL_mk, gR_mk, gA_mk, gQ_mk, gK_mk, gN_mk, gS_mk, vn0, vn1, lt0, leN, ltN, eqN, eqM1, M1eq, le0n, eq0n, nI_add, nI_mul, ↓reduceIte, Nat.reduceAdd, Nat.reduceMul, Nat.reduceEqDiff, Nat.reduceLT, Nat.reduceLeDiff, and_true, true_and, and_false, false_and, and_self, reduceCtorEq, not_true_eq_false, not_false_eq_true, hN0, hN1, e]
          rcases b4 j hj with ⟨y1, y2, y3⟩ | y
          · left
            have := hA.lt
            refine ⟨y1, ?_, ?_⟩
            · rcases hA.2.2.2.1 5 i j with q | q <;> omega
            · rcases hA.2.2.2.1 6 i j with q | q <;> omega
          · exact Or.inr y
    · refine ⟨?_, fun j hj => ?_⟩
      · rw [ad3_n _ (by omega), ad3_n _ (by omega)]
        simp (disch := omega) only [↓uGI, ↓uGL, ↓uGR, ↓uPI, ↓uPL, ↓uPR, ↓uAL, ↓uQL, ↓uAS, ↓uQS, ↓uAN, ↓uCV, ↓oCL, ↓oNO, ↓uNA, ↓oNN, ↓oZ0, ↓oZ1, gI_pI, gI_pL, gI_pR, gI_pA, gI_pQ, gL_pI, gL_pL, gL_pR, gL_pA, gL_pQ, gR_pI, gR_pL, gR_pR, gR_pA, gR_pQ, gA_pI, gA_pL, gA_pR, gA_pA, gA_pQ, gQ_pI, gQ_pL, gQ_pR, gQ_pA, gQ_pQ, gK_pI, gK_pL, gK_pR, gK_pA, gK_pQ, gN_pI, gN_pL, gN_pR, gN_pA, gN_pQ, gS_pI, gS_pL, gS_pR, gS_pA, gS_pQ, gI_mk, gL_mk, gR_mk, gA_mk, gQ_mk, gK_mk, gN_mk, gS_mk, vn0, vn1, lt0, leN, ltN, eqN, eqM1, M1eq, le0n, eq0n, nI_add, nI_mul, ↓reduceIte, Nat.reduceAdd, Nat.reduceMul, Nat.reduceEqDiff, Nat.reduceLT, Nat.reduceLeDiff, and_true, true_and, and_false, false_and, and_self, reduceCtorEq, not_true_eq_false, not_false_eq_true, hN0, hN1]; exact v1
      · have hne : j ≠ L.length := by omega
        rw [ad3_n (c' := 3) _ (by omega), ad3_n (c' := 3) _ (by omega), ad3_n (c' := 5) _ (by omega), ad3_n (c' := 5) _ (by omega), ad3_n (c' := 6) _ (by omega), ad3_n (c' := 6) _ (by omega)]
        simp (disch := omega) only [↓uGI, ↓uGL, ↓uGR, ↓uPI, ↓uPL, ↓uPR, ↓uAL, ↓uQL, ↓uAS, ↓uQS, ↓uAN, ↓uCV, ↓oCL, ↓oNO, ↓uNA, ↓oNN, ↓oZ0, ↓oZ1, gI_pI, gI_pL, gI_pR, gI_pA, gI_pQ, gL_pI, gL_pL, gL_pR, gL_pA, gL_pQ, gR_pI, gR_pL, gR_pR, gR_pA, gR_pQ, gA_pI, gA_pL, gA_pR, gA_pA, gA_pQ, gQ_pI, gQ_pL, gQ_pR, gQ_pA, gQ_pQ, gK_pI, gK_pL, gK_pR, gK_pA, gK_pQ, gN_pI, gN_pL, gN_pR, gN_pA, gN_pQ, gS_pI, gS_pL, gS_pR, gS_pA, gS_pQ, gI_mk, gL_mk, gR_mk, gA_mk, gQ_mk, gK_mk, gN_mk, gS_mk, vn0, vn1, lt0, leN, ltN, eqN, eqM1, M1eq, le0n, eq0n, nI_add, nI_mul, ↓reduceIte, Nat.reduceAdd, Nat.reduceMul, Nat.reduceEqDiff, Nat.reduceLT, Nat.reduceLeDiff, and_true, true_and, and_false, false_and, and_self, reduceCtorEq, not_true_eq_false, not_false_eq_true, hN0, hN1, hne]
        exact v2 j hj
    · rw [ad3_n (c' := 3) _ (by omega), ad3_n (c' := 3) _ (by omega), ad3_n (c' := 5) _ (by omega), ad3_s]
      simp (disch := omega) only [↓uGI, ↓uGL, ↓uGR, ↓uPI, ↓uPL, ↓uPR, ↓uAL, ↓uQL, ↓uAS, ↓uQS, ↓uAN, ↓uCV, ↓oCL, ↓oNO, ↓uNA, ↓oNN, ↓oZ0, ↓oZ1, gI_pI, gI_pL, gI_pR, gI_pA, gI_pQ, gL_pI, gL_pL, gL_pR, gL_pA, gL_pQ, gR_pI, gR_pL, gR_pR, gR_pA, gR_pQ, gA_pI, gA_pL, gA_pR, gA_pA, gA_pQ, gQ_pI, gQ_pL, gQ_pR, gQ_pA, gQ_pQ, gK_pI, gK_pL, gK_pR, gK_pA, gK_pQ, gN_pI, gN_pL, gN_pR, gN_pA, gN_pQ, gS_pI, gS_pL, gS_pR, gS_pA, gS_pQ, gI_mk, gL_mk, gR_mk, gA_mk, gQ_mk, gK_mk, gN_mk, gS_mk, vn0, vn1, lt0, leN, ltN, eqN, eqM1, M1eq, le0n, eq0n, nI_add, nI_mul, ↓reduceIte, Nat.reduceAdd, Nat.reduceMul, Nat.reduceEqDiff, Nat.reduceLT, Nat.reduceLeDiff, and_true, true_and, and_false, false_and, and_self, reduceCtorEq, not_true_eq_false, not_false_eq_true]
    · refine ⟨by simp only [↓uGI, ↓uGL, ↓uGR, ↓uPI, ↓uPL, ↓uPR, ↓uAL, ↓uQL, ↓uAS, ↓uQS, ↓uAN, ↓uCV, ↓oCL, ↓oNO, ↓uNA, ↓oNN, ↓oZ0, ↓oZ1, gI_pI, gI_pL, gI_pR, gI_pA, gI_pQ, gL_pI, gL_pL, gL_pR, gL_pA, gL_pQ, gR_pI, gR_pL, gR_pR, gR_pA, gR_pQ, gA_pI, gA_pL, gA_pR, gA_pA, gA_pQ, gQ_pI, gQ_pL, gQ_pR, gQ_pA, gQ_pQ, gK_pI, gK_pL, gK_pR, gK_pA, gK_pQ, gN_pI, gN_pL, gN_pR, gN_pA, gN_pQ, gS_pI, gS_pL, gS_pR, gS_pA, gS_pQ, gI_mk, gL_mk, gR_mk, gA_mk, gQ_mk, gK_mk, gN_mk, gS_mk, vn0, vn1, lt0, leN, ltN, eqN, eqM1, M1eq, le0n, eq0n, nI_add, nI_mul, ↓reduceIte, Nat.reduceAdd, Nat.reduceMul, Nat.reduceEqDiff, Nat.reduceLT, Nat.reduceLeDiff, and_true, true_and, and_false, false_and, and_self, reduceCtorEq, not_true_eq_false, not_false_eq_true]; omega, fun c k j hk => ?_⟩
      have e6 : ¬ (c = 6 ∧ k = i ∧ j = L.length) := fun q => by obtain ⟨rfl, rfl, rfl⟩ := q; omega
      have e5 : ¬ (c = 5 ∧ k = i ∧ j = L.length) := fun q => by obtain ⟨rfl, rfl, rfl⟩ := q; omega
      rw [ad3_n _ e6, ad3_n _ e5]
    · intro c k j hk
      rw [ad3_n _ (by omega), ad3_n _ (by omega)]
    · have e1 : gN (pQ (pR (mkC (mkC h (1, 0) 3) (101, 60) 60) 1 (gN h) (some (gN h + 1))) (ad 3 i 0) L.length (some (gN h))) = gN h + 2 := rfl
      refine FrX.pQ (FrX.pR (FrX.mk (FrX.mk FrX.rf ?_) ?_) ?_) ?_
      · exact ⟨5, L.length, by omega, by rw [ad3_n _ (by omega), ad3_s], by rw [e1]; omega⟩
      · exact ⟨6, L.length, by omega, by rw [ad3_s]; rfl, by rw [e1]; show gN h + 1 < _; omega⟩
      · exact ⟨5, L.length, by omega, by rw [ad3_n _ (by omega), ad3_s], by rw [e1]; omega⟩
      · refine ⟨3, 0, by omega, by rw [ad3_n _ (by omega), ad3_n _ (by omega)], ?_⟩
        rw [e1]
        have := hA.md b3
        omega
  · refine ⟨h, ad, ?_, hA, hB, hV, z1, Ext.rf, fun _ _ _ _ => rfl, FrX.rf⟩
    simp only [fX1_grow, fX1_grow_0, fX1_grow_19]
    simp (disch := omega) only [↓uGI, ↓uGL, ↓uGR, ↓uPI, ↓uPL, ↓uPR, ↓uAL, ↓uQL, ↓uAS, ↓uQS, ↓uAN, ↓uCV, ↓oCL, ↓oNO, ↓uNA, ↓oNN, ↓oZ0, ↓oZ1, gI_pI, gI_pL, gI_pR, gI_pA, gI_pQ, gL_pI, gL_pL, gL_pR, gL_pA, gL_pQ, gR_pI, gR_pL, gR_pR, gR_pA, gR_pQ, gA_pI, gA_pL, gA_pR, gA_pA, gA_pQ, gQ_pI, gQ_pL, gQ_pR, gQ_pA, gQ_pQ, gK_pI, gK_pL, gK_pR, gK_pA, gK_pQ, gN_pI, gN_pL, gN_pR, gN_pA, gN_pQ, gS_pI, gS_pL, gS_pR, gS_pA, gS_pQ, gI_mk, gL_mk, gR_mk, gA_mk, gQ_mk, gK_mk, gN_mk, gS_mk, vn0, vn1, lt0, leN, ltN, eqN, eqM1, M1eq, le0n, eq0n, nI_add, nI_mul, ↓reduceIte, Nat.reduceAdd, Nat.reduceMul, Nat.reduceEqDiff, Nat.reduceLT, Nat.reduceLeDiff, and_true, true_and, and_false, false_and, and_self, reduceCtorEq, not_true_eq_false, not_false_eq_true, b1, b2, b3, v1, hl, z1, some_ne]
theorem cls_attGrow {h : AH} {bs s0 : Nat} {sg : Nat → Nat} {ad : Nat → Nat → Nat → Nat} {i : Nat} {L : AttL} {nm : List Nat} (hA : AdOk h bs s0 sg ad) (hi : i ≤ 120) (hB : AtB h ad i) (hV : AtV h ad i L) (hl : L.length < 4) : ∃ h1 ad1, fX1_grow (some (ad 2 i 0)) (lN (pack nm)) h = some (some (ad1 5 i L.length), h1) ∧ AdOk h1 bs s0 sg ad1 ∧ AtB h1 ad1 i ∧ AtV h1 ad1 i (L ++ [(nm, [])]) ∧ Ext h ad h1 ad1 ∧ (∀ c k j, k ≠ i ∨ c ≤ 4 → ad1 c k j = ad c k j) ∧ FrX (OwA h1 ad1 i) h h1 := by
  obtain ⟨h1, ad1, g1, A1, B1, V1, Q1, E1, S1, F1⟩ := cls_attMake (nm := lN (pack nm)) hA hi hB hV hl
  obtain ⟨b1, b2, b3, b4⟩ := id B1
  obtain ⟨v1, v2⟩ := id V1
  have hI := A1.1
  have h5 : gK h1 (ad1 5 i L.length) = (1, 0) ∧ gR h1 1 (ad1 5 i L.length) = some (ad1 6 i L.length) ∧ gK h1 (ad1 6 i L.length) = (101, 60) := by
    rcases b4 L.length hl with z | z
    · rw [Q1] at z; cases z.1
    · exact z.2
  refine ⟨pI (pI (pL h1 0 (ad1 5 i L.length) (lN (pack nm))) 2 (ad1 5 i L.length) (nI 0)) 51 (ad1 2 i 0) (nI (L.length + 1)), ad1, ?_, A1.eq rfl rfl rfl, B1.eq rfl rfl rfl rfl, ⟨?_, fun j hj => ?_⟩, E1.tr (Ext.same rfl), S1, ?_⟩
  · rw [g1, ← S1 2 i 0 (by omega)]
    simp only [fX1_grow_49, fX0_begin, fX0_begin_0]
    simp (disch := omega) only [↓uGI, ↓uGL, ↓uGR, ↓uPI, ↓uPL, ↓uPR, ↓uAL, ↓uQL, ↓uAS, ↓uQS, ↓uAN, ↓uCV, ↓oCL, ↓oNO, ↓uNA, ↓oNN, ↓oZ0, ↓oZ1, gI_pI, gI_pL, gI_pR, gI_pA, gI_pQ, gL_pI, gL_pL, gL_pR, gL_pA, gL_pQ, gR_pI, gR_pL, gR_pR, gR_pA, gR_pQ, gA_pI, gA_pL, gA_pR, gA_pA, gA_pQ, gQ_pI, gQ_pL, gQ_pR, gQ_pA, gQ_pQ, gK_pI, gK_pL, gK_pR, gK_pA, gK_pQ, gN_pI, gN_pL, gN_pR, gN_pA, gN_pQ, gS_pI, gS_pL, gS_pR, gS_pA, gS_pQ, gI_mk, gL_mk, gR_mk, gA_mk, gQ_mk, gK_mk, gN_mk, gS_mk, vn0, vn1, lt0, leN, ltN, eqN, eqM1, M1eq, le0n, eq0n, nI_add, nI_mul, ↓reduceIte, Nat.reduceAdd, Nat.reduceMul, Nat.reduceEqDiff, Nat.reduceLT, Nat.reduceLeDiff, and_true, true_and, and_false, false_and, and_self, reduceCtorEq, not_true_eq_false, not_false_eq_true, b1, b2, b3, v1, hl, Q1, h5.1]
  · rw [gI_pI, if_pos ⟨rfl, rfl⟩]; simp
  · simp only [List.length_append, List.length_cons, List.length_nil] at hj
    rw [getD_snoc]
    by_cases e : j = L.length
    · subst e
      rw [if_pos rfl]
      refine ⟨Q1, ?_, ?_, fun k hk => by simp at hk⟩
      · rw [gL_pI, gL_pI, gL_pL, if_pos ⟨rfl, rfl⟩]
      · rw [gI_pI, if_neg (by omega), gI_pI, if_pos ⟨rfl, rfl⟩]; rfl
    · rw [if_neg e]
      obtain ⟨x1, x2, x3, x4⟩ := v2 j (by omega)
      refine ⟨x1, ?_, ?_, x4⟩
      · rw [gL_pI, gL_pI, gL_pL, if_neg (fun z => by rw [hI.e] at z; omega)]; exact x2
      · rw [gI_pI, if_neg (by omega), gI_pI, if_neg (fun z => by rw [hI.e] at z; omega), gI_pL]; exact x3
  · have m5 := A1.md h5.1
    have m2 := A1.md b1
    exact FrX.pI (FrX.pI (FrX.pL F1 ⟨5, L.length, by omega, rfl, m5⟩) ⟨5, L.length, by omega, rfl, m5⟩) ⟨2, 0, by omega, rfl, m2⟩
theorem cls_attFull {h : AH} {ad : Nat → Nat → Nat → Nat} {i : Nat} {L : AttL} {nm : Int64} (hB : AtB h ad i) (hV : AtV h ad i L) (hl : L.length = 4) : fX1_grow (some (ad 2 i 0)) nm h = some (none, h) := by
  obtain ⟨b1, b2, b3, b4⟩ := id hB
  obtain ⟨v1, v2⟩ := id hV
  simp only [fX1_grow, fX1_grow_0, fX1_grow_19]
  simp (disch := omega) only [↓uGI, ↓uGL, ↓uGR, ↓uPI, ↓uPL, ↓uPR, ↓uAL, ↓uQL, ↓uAS, ↓uQS, ↓uAN, ↓uCV, ↓oCL, ↓oNO, ↓uNA, ↓oNN, ↓oZ0, ↓oZ1, gI_pI, gI_pL, gI_pR, gI_pA, gI_pQ, gL_pI, gL_pL, gL_pR, gL_pA, gL_pQ, gR_pI, gR_pL, gR_pR, gR_pA, gR_pQ, gA_pI, gA_pL, gA_pR, gA_pA, gA_pQ, gQ_pI, gQ_pL, gQ_pR, gQ_pA, gQ_pQ, gK_pI, gK_pL, gK_pR, gK_pA, gK_pQ, gN_pI, gN_pL, gN_pR, gN_pA, gN_pQ, gS_pI, gS_pL, gS_pR, gS_pA, gS_pQ, gI_mk, gL_mk, gR_mk, gA_mk, gQ_mk, gK_mk, gN_mk, gS_mk, vn0, vn1, lt0, leN, ltN, eqN, eqM1, M1eq, le0n, eq0n, nI_add, nI_mul, ↓reduceIte, Nat.reduceAdd, Nat.reduceMul, Nat.reduceEqDiff, Nat.reduceLT, Nat.reduceLeDiff, and_true, true_and, and_false, false_and, and_self, reduceCtorEq, not_true_eq_false, not_false_eq_true, b1, b2, b3, v1, hl]

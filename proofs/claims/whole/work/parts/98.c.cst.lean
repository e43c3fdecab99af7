/-! a start TAG is taken: the class -/
theorem ClsT.fx {h h' : AH} {sg : Nat → Nat} {ad : Nat → Nat → Nat → Nat} {T : TS} (q : ClsT h ad (sg 8) (sg 9) T) {S : Nat → Prop} (w : FrX S h h') (hS : ∀ c i j, ¬ S (ad c i j)) (h8 : ¬ S (sg 8)) (h9 : ¬ S (sg 9)) (eN : gN h' = gN h) : ClsT h' ad (sg 8) (sg 9) T := by
  obtain ⟨q1, q2, q3, q4, q5, q6⟩ := q
  have x8 := w (sg 8) h8
  have x9 := w (sg 9) h9
  exact ⟨by rw [x8.2.2.2.2.2]; exact q1, by rw [x8.2.2.1]; exact q2, by rw [x9.2.2.2.2.2]; exact q3, by rw [x8.2.2.1]; exact q4, by rw [x8.1]; exact q5, fun i hi => (q6 i hi).tr rfl (fun _ => TSame.rf) (fun _ _ => rfl) (fun _ _ _ => rfl) w (fun c j _ _ => hS c i j) (x9.2.2.2.2.1 i) (fun c j z => by rw [eN]; exact z)⟩
theorem St.row {h0 h h' : AH} {ad0 ad : Nat → Nat → Nat → Nat} {bs s0 n p p' : Nat} {sg : Nat → Nat} {tp : Nat → Int32} {ol : OLA} {T : TS} {fl : FL} {os os' : OS} (q : St h0 ad0 bs s0 sg n tp ol h ad T fl os p) (w : FrX (fun a => a = sg 10 ∨ a = sg 11 ∨ a = sg 12) h h') (eN : gN h' = gN h) (eS : gS h' = gS h) (eK : gK h' = gK h) (eR : gR h' = gR h) (hO : OsC h' sg ad os') (hp : gI h' 257 (sg 10) = nI p') : St h0 ad0 bs s0 sg n tp ol h' ad T fl os' p' := by
  obtain ⟨q1, ⟨c1, c2, c3, c4, c5, c6, c7⟩, q3, q4, q5, q6⟩ := q
  have no : ∀ k, k < 10 → ¬ (sg k = sg 10 ∨ sg k = sg 11 ∨ sg k = sg 12) := fun k hk z => by
    rcases z with z | z | z <;> (have := (q1.2.1 _ _).mp z; omega)
  have noa : ∀ c i j, ¬ (ad c i j = sg 10 ∨ ad c i j = sg 11 ∨ ad c i j = sg 12) := fun c i j z => by
    rcases z with z | z | z <;> exact q1.2.2.1 _ _ _ _ z
  refine ⟨q1.eq eN eS eK, ⟨c1.fx w (no 0 (by omega)), c2.fx w (no 1 (by omega)) (no 2 (by omega)), c3.fx w (no 3 (by omega)) (no 4 (by omega)), c4.fx w (no 5 (by omega)) (no 6 (by omega)) (no 7 (by omega)), c5.fx w noa (no 8 (by omega)) (no 9 (by omega)) eN, ?_, c7.tr (fun _ _ => rfl) w (fun c j _ _ => noa c 120 j) (fun c j z => by rw [eN]; exact z)⟩, hO, hp, q5.tr ⟨w.mo (fun a z => ?_), Ext.same eN⟩, q6.tr (fun _ _ => rfl) w (fun c j _ _ => noa c 120 j)⟩
  · unfold PR
    rw [eK, eR]
    exact c6
  · rcases z with z | z | z
    · exact Or.inr ⟨10, by omega, z⟩
    · exact Or.inr ⟨11, by omega, z⟩
    · exact Or.inr ⟨12, by omega, z⟩
theorem oN_snoc (os : OS) (k p : Nat) : (∀ j, j < os.length → oN1 (os ++ [(k, p)]) j = oN1 os j ∧ oP1 (os ++ [(k, p)]) j = oP1 os j) ∧ oN1 (os ++ [(k, p)]) os.length = k ∧ oP1 (os ++ [(k, p)]) os.length = p := by
  unfold oN1 oP1
  refine ⟨fun j hj => ?_, ?_, ?_⟩
  · rw [getD_snoc, if_neg (by omega)]; exact ⟨rfl, rfl⟩
  · rw [getD_snoc, if_pos rfl]
  · rw [getD_snoc, if_pos rfl]
theorem cls_push {h0 h : AH} {ad0 ad : Nat → Nat → Nat → Nat} {bs s0 n p k p0 : Nat} {sg : Nat → Nat} {tp : Nat → Int32} {ol : OLA} {T : TS} {fl : FL} {os : OS} (q : St h0 ad0 bs s0 sg n tp ol h ad T fl os p) (hl : os.length ≤ 20) (hk : k < 120) (hu : tIs T k = true) : ∃ h', fX5_push (some (sg 10)) (some (ad 1 k 0)) (nI p0) h = some ((), h') ∧ St h0 ad0 bs s0 sg n tp ol h' ad T fl (os ++ [(k, p0)]) p := by
  obtain ⟨r0, r1, r2, r3, r4, r5, r6, r7, r8⟩ := id q.rd
  have b1 := (q.ct.nd hk hu).2.1.1
  obtain ⟨a1, a2, a3⟩ := oN_snoc os k p0
  have n1 : sg 11 ≠ sg 12 := fun z => by have := (q.1.2.1 _ _).mp z; omega
  have n2 : sg 10 ≠ sg 12 := fun z => by have := (q.1.2.1 _ _).mp z; omega
  refine ⟨pI (pA (pQ h (sg 11) os.length (some (ad 1 k 0))) (sg 12) os.length (nI p0)) 256 (sg 10) (nI (os.length + 1)), ?_, q.row (FrX.pI (FrX.pA (FrX.pQ FrX.rf (Or.inr (Or.inl rfl))) (Or.inr (Or.inr rfl))) (Or.inl rfl)) rfl rfl rfl rfl ⟨by rw [gI_pI, if_pos ⟨rfl, rfl⟩, List.length_append]; rfl, fun j hj => ?_⟩ ?_⟩
  · simp only [fX5_push, fX5_push_0, fX5_push_61]
    have r7' : gK (pQ h (sg 11) os.length (some (ad 1 k 0))) (sg 10) = (6, 0) := r0
    have r8' : gK (pQ h (sg 11) os.length (some (ad 1 k 0))) (sg 12) = (100, 21) := r8
    have r0'' : gK (pA (pQ h (sg 11) os.length (some (ad 1 k 0))) (sg 12) os.length (nI p0)) (sg 10) = (6, 0) := r0
    have x6 : gR (pQ h (sg 11) os.length (some (ad 1 k 0))) 255 (sg 10) = some (sg 12) := r6
    have x7 : gI (pQ h (sg 11) os.length (some (ad 1 k 0))) 256 (sg 10) = nI os.length := q.2.2.1.1
    have x8 : gI (pA (pQ h (sg 11) os.length (some (ad 1 k 0))) (sg 12) os.length (nI p0)) 256 (sg 10) = nI os.length := q.2.2.1.1
    simp (disch := omega) only [↓gi_of r0 q.2.2.1.1, lt0, ↓reduceIte, ↓gr_of r0 r5, ↓an_of r7, leN, show ¬ 21 ≤ os.length by omega, ↓gr_of r0 r6, ↓an_of r8]
    rw [oQS r7 b1 (show os.length < 21 by omega) (by omega)]
    simp only [↓gr_of r7' x6, ↓gi_of r7' x7, ↓as_of r8' (show os.length < 21 by omega) (by omega), vn0, ↓gi_of r0'' x8, ↓pi_of r0'', nI_add]
  · rw [List.length_append, List.length_singleton] at hj
    rw [gQ_pI, gQ_pA, gQ_pQ, gA_pI, gA_pA, gA_pQ]
    by_cases e : j = os.length
    · rw [if_pos ⟨rfl, e⟩, if_pos ⟨rfl, e⟩, e, a2, a3]
      exact ⟨rfl, rfl⟩
    · rw [if_neg (fun z => e z.2), if_neg (fun z => e z.2), (a1 j (by omega)).1, (a1 j (by omega)).2]
      exact q.2.2.1.2 j (by omega)
  · rw [gI_pI, if_neg (by omega)]; exact q.2.2.2.1
theorem uAtt_up (T : TS) (i : Nat) (a b : AttL) : uAtt (uAtt T i a) i b = uAtt T i b := by
  unfold uAtt
  rw [up_up]
theorem uAtt_id (T : TS) (i : Nat) : uAtt T i (tAtt T i) = T := by
  unfold uAtt tAtt
  rw [up_id]
theorem SizT.att {T : TS} {k : Nat} {M : AttL} (s : SizT T) (hM : AtS M) : SizT (uAtt T k M) := by
  refine ⟨s.1, fun i hi => ?_⟩
  obtain ⟨a1, a2, a3, a4, a5, a6, a7, a8, a9, a10⟩ := s.2 i hi
  by_cases e : i = k
  · have ea : tAtt (uAtt T k M) i = M := by rw [tAtt_uAtt, if_pos e]
    exact ⟨a1, a2, a3, by rw [ea]; exact hM.1, by rw [ea]; exact hM.2, a6, a7, a8, a9, a10⟩
  · have ea : tAtt (uAtt T k M) i = tAtt T i := by rw [tAtt_uAtt, if_neg e]
    exact ⟨a1, a2, a3, by rw [ea]; exact a4, by rw [ea]; exact a5, a6, a7, a8, a9, a10⟩
theorem Wf.att {T : TS} {kd : Nat → List Nat} {k : Nat} {M : AttL} (w : Wf T kd) : Wf (uAtt T k M) kd := by
  obtain ⟨w1, w2, w3, w4, w5, w6, w7, w8, w9⟩ := w
  exact ⟨w1, w2, w3, w4, w5, fun i hi => ⟨(w6 i hi).1.fr _ _ _ _ (fun x _ => ⟨rfl, rfl⟩), (w6 i hi).2⟩, w7, w8, w9⟩
theorem OwA.tb {sg : Nat → Nat} {h : AH} {ad : Nat → Nat → Nat → Nat} {k a : Nat} (hk : k < 120) (q : OwA h ad k a) : TB sg h ad a := Or.inl ⟨k, hk, q.own⟩
/-- node k's ATTRIBUTES change, by any step of theirs -/
theorem St.natt {h0 h h' : AH} {ad0 ad ad' : Nat → Nat → Nat → Nat} {bs s0 n p k : Nat} {sg : Nat → Nat} {tp : Nat → Int32} {ol : OLA} {T : TS} {fl : FL} {os : OS} {M M' : AttL} (q : St h0 ad0 bs s0 sg n tp ol h ad (uAtt T k M) fl os p) (hS : SizT T) (hM : AtS M) (hz : tIs T 0 = true) (hu : tIs T k = true) (hOs : ∀ k, k < os.length → oN1 os k < 120 ∧ tIs T (oN1 os k) = true) (A' : AdOk h' bs s0 sg ad') (hE : ∀ c i j, i ≠ k ∨ c ≤ 4 → ad' c i j = ad c i j) (e : Ext h ad h' ad') (w : FrX (OwA h' ad' k) h h') (hB : AtB h' ad' k) (hV : AtV h' ad' k M') : St h0 ad0 bs s0 sg n tp ol h' ad' (uAtt T k M') fl os p := by
  have hk := hS.lt hu
  have C := q.ct.att (i := k) (L := M') q.1 A' hE hz hk hu (hS.att hM) w hB hV
  rw [uAtt_up] at C
  exact q.tree hOs A' ⟨w.mo (fun a z => z.tb hk), e, fun c j => hE c 120 j (by omega)⟩ C
theorem St.nV {h0 h : AH} {ad0 ad : Nat → Nat → Nat → Nat} {bs s0 n p k : Nat} {sg : Nat → Nat} {tp : Nat → Int32} {ol : OLA} {T : TS} {fl : FL} {os : OS} {M : AttL} (q : St h0 ad0 bs s0 sg n tp ol h ad (uAtt T k M) fl os p) (hS : SizT T) (hu : tIs T k = true) : AtB h ad k ∧ AtV h ad k M := by
  obtain ⟨-, ⟨-, -, -, b4, -⟩, -, -, -, -, -, -, -, -, v9, -⟩ := q.ct.nd (hS.lt hu) hu
  rw [tAtt_uAtt, if_pos rfl] at v9
  exact ⟨b4, v9⟩
theorem cls_takeVal_L {h0 : AH} {ad0 ad : Nat → Nat → Nat → Nat} {bs s0 n p k i : Nat} {sg : Nat → Nat} {tp : Nat → Int32} {ol : OLA} {T : TS} {fl : FL} {os : OS} {A : AttL} {nm : List Nat} (hS : SizT T) (hz : tIs T 0 = true) (hu : tIs T k = true) (hOs : ∀ k, k < os.length → oN1 os k < 120 ∧ tIs T (oN1 os k) = true) (hAL : AtS ol.2) (hi : i < ol.2.length) (hA4 : A.length < 4) (hA : AtS A) (hnl : nm.length ≤ 8) (hnv : vch nm) : ∀ (c f r : Nat) (h : AH), r + c = (ol.2.getD i ([], [])).2.length → c < f → St h0 ad0 bs s0 sg n tp ol h ad (uAtt T k (A ++ [(nm, (ol.2.getD i ([], [])).2.take r)])) fl os p →
    ∃ h', fX0_takeValueOf_7 f (some (ad 5 k A.length)) (some (ad 5 120 i)) (nI r) h = some ((), h') ∧ St h0 ad0 bs s0 sg n tp ol h' ad (uAtt T k (A ++ [(nm, (ol.2.getD i ([], [])).2)])) fl os p := by
  obtain ⟨z1, z2, z3, z4⟩ := hAL.get hi
  have hk := hS.lt hu
  intro c
  induction c with
  | zero =>
    intro f r h hrc hcf q
    obtain ⟨f, rfl⟩ : ∃ g, f = g + 1 := ⟨f - 1, by omega⟩
    have hB := q.2.1.2.2.2.2.2.2
    obtain ⟨k5, -⟩ := hB.k5 q.2.2.2.2.2 hAL hi
    obtain ⟨-, -, ql, -⟩ := q.2.2.2.2.2.2 i hi
    refine ⟨h, ?_, ?_⟩
    · rw [fX0_takeValueOf_7]
      simp (disch := omega) only [↓gi_of k5 ql, leN, show (ol.2.getD i ([], [])).2.length ≤ r by omega, ↓reduceIte, fX0_takeValueOf_40]
    · rw [List.take_of_length_le (by omega)] at q
      exact q
  | succ c ih =>
    intro f r h hrc hcf q
    obtain ⟨f, rfl⟩ : ∃ g, f = g + 1 := ⟨f - 1, by omega⟩
    have hB := q.2.1.2.2.2.2.2.2
    obtain ⟨k5, k51, k6⟩ := hB.k5 q.2.2.2.2.2 hAL hi
    obtain ⟨-, -, ql, qv⟩ := q.2.2.2.2.2.2 i hi
    have hr : r < (ol.2.getD i ([], [])).2.length := by omega
    have hM : AtS (A ++ [(nm, (ol.2.getD i ([], [])).2.take r)]) := hA.snoc hA4 hnl hnv (by rw [List.length_take]; omega) (fun d hd => z4 d (List.mem_of_mem_take hd))
    obtain ⟨nB, nV⟩ := q.nV hS hu
    have hj : A.length < (A ++ [(nm, (ol.2.getD i ([], [])).2.take r)]).length := by simp
    have hcb : okb ((ol.2.getD i ([], [])).2.getD r 0) = true := by rw [gD_in hr]; exact z4 _ (List.getElem_mem _)
    obtain ⟨h1, g1, V1, F1⟩ := cls_attPut q.1.1 nB nV hM hj (okb_lt hcb)
    rw [getD_snoc, if_pos rfl, setV_snoc] at V1
    have e1 : vadd ((ol.2.getD i ([], [])).2.take r) ((ol.2.getD i ([], [])).2.getD r 0) = (ol.2.getD i ([], [])).2.take (r + 1) := by
      unfold vadd
      rw [if_pos (by rw [List.length_take]; omega), List.take_succ, gD_in hr, List.getElem?_eq_getElem hr]
      rfl
    rw [e1] at V1
    obtain ⟨m5, -, m6⟩ := nB.k5 nV hM hj
    have q1 := q.natt hS hM hz hu hOs (q.1.eq F1.2.2.2.2.2.2.1 F1.2.2.2.2.2.2.2 F1.2.2.2.2.2.1) (fun _ _ _ _ => rfl) (Ext.same F1.2.2.2.2.2.2.1) (Fr.x F1 (fun f a z => ⟨5, A.length, by omega, z.2, by rw [F1.2.2.2.2.2.2.1, z.2]; exact q.1.md m5⟩) (fun a z => ⟨6, A.length, by omega, z, by rw [F1.2.2.2.2.2.2.1, z]; exact q.1.md m6⟩)) (nB.eq F1.2.2.1 F1.2.2.2.2.2.1 F1.2.2.2.2.1 F1.2.2.2.2.2.2.1) V1
    obtain ⟨h2, g2, S2⟩ := ih f (r + 1) h1 (by omega) (by omega) q1
    refine ⟨h2, ?_, S2⟩
    rw [fX0_takeValueOf_7]
    simp (disch := omega) only [↓gi_of k5 ql, leN, show ¬ (ol.2.getD i ([], [])).2.length ≤ r by omega, ↓reduceIte, ↓gr_of k5 k51, ↓an_of k6, show ¬ 60 ≤ r by omega, ↓al_of k6 (show r < 60 by omega) (by omega) (qv r hr), ↓cv_of m5 g1, nI_add]
    exact g2
theorem take_snoc {L : AttL} {j : Nat} (h : j < L.length) : L.take (j + 1) = L.take j ++ [((L.getD j ([], [])).1, (L.getD j ([], [])).2)] := by
  rw [List.take_succ, gD_in h, List.getElem?_eq_getElem h]
  rfl
theorem cls_copy_L {h0 : AH} {ad0 : Nat → Nat → Nat → Nat} {bs s0 n p k : Nat} {sg : Nat → Nat} {tp : Nat → Int32} {ol : OLA} {T : TS} {fl : FL} {os : OS} (hS : SizT T) (hz : tIs T 0 = true) (hu : tIs T k = true) (hOs : ∀ k, k < os.length → oN1 os k < 120 ∧ tIs T (oN1 os k) = true) (hAL : AtS ol.2) : ∀ (c f j : Nat) (h : AH) (ad : Nat → Nat → Nat → Nat), j + c = ol.2.length → c < f → St h0 ad0 bs s0 sg n tp ol h ad (uAtt T k (ol.2.take j)) fl os p →
    ∃ h' ad', fX1_copyFrom_7 f (some (ad 2 k 0)) (some (ad 2 120 0)) (nI j) h = some ((), h') ∧ St h0 ad0 bs s0 sg n tp ol h' ad' (uAtt T k ol.2) fl os p ∧ ∀ i, ad' 1 i 0 = ad 1 i 0 := by
  have hk := hS.lt hu
  have hL4 := hAL.1
  intro c
  induction c with
  | zero =>
    intro f j h ad hjc hcf q
    obtain ⟨f, rfl⟩ : ∃ g, f = g + 1 := ⟨f - 1, by omega⟩
    have hB := q.2.1.2.2.2.2.2.2
    refine ⟨h, ad, ?_, ?_, fun _ => rfl⟩
    · rw [fX1_copyFrom_7]
      simp (disch := omega) only [↓gi_of hB.1 q.2.2.2.2.2.1, leN, show ol.2.length ≤ j by omega, ↓reduceIte, fX1_copyFrom_56]
    · rw [List.take_of_length_le (by omega)] at q
      exact q
  | succ c ih =>
    intro f j h ad hjc hcf q
    obtain ⟨f, rfl⟩ : ∃ g, f = g + 1 := ⟨f - 1, by omega⟩
    have hB := q.2.1.2.2.2.2.2.2
    have hj : j < ol.2.length := by omega
    obtain ⟨z1, z2, z3, z4⟩ := hAL.get hj
    have hit := cls_itemAt hB q.2.2.2.2.2 hAL hj
    obtain ⟨k5, -⟩ := hB.k5 q.2.2.2.2.2 hAL hj
    obtain ⟨-, qn, -, -⟩ := q.2.2.2.2.2.2 j hj
    have hT4 : (ol.2.take j).length = j := by rw [List.length_take]; omega
    have hM : AtS (ol.2.take j) := ⟨by omega, fun x hx => hAL.2 x (List.mem_of_mem_take hx)⟩
    obtain ⟨nB, nV⟩ := q.nV hS hu
    obtain ⟨h1, ad1, g1, A1, B1, V1, E1, hE, F1⟩ := cls_attGrow (i := k) (nm := (ol.2.getD j ([], [])).1) q.1 (by omega) nB nV (by omega)
    have q1 := q.natt hS hM hz hu hOs A1 hE E1 F1 B1 V1
    rw [hT4] at g1
    have hM1 : AtS (ol.2.take j ++ [((ol.2.getD j ([], [])).1, [])]) := hM.snoc (by omega) z1 z2 (by simp) (fun c hc => by cases hc)
    have hjl : j < (ol.2.take j ++ [((ol.2.getD j ([], [])).1, ([] : List Nat))]).length := by simp; omega
    obtain ⟨m5, -, m6⟩ := B1.k5 V1 hM1 hjl
    have V2 := cls_attZero A1.1 V1 hjl
    rw [show setV (ol.2.take j ++ [((ol.2.getD j ([], [])).1, ([] : List Nat))]) j [] = ol.2.take j ++ [((ol.2.getD j ([], [])).1, ([] : List Nat))] from by
      have := setV_snoc (ol.2.take j) (ol.2.getD j ([], [])).1 [] []
      rw [hT4] at this
      exact this] at V2
    have q2 := q1.natt (h' := pI h1 2 (ad1 5 k j) (nI 0)) (ad' := ad1) hS hM1 hz hu hOs (A1.eq rfl rfl rfl) (fun _ _ _ _ => rfl) (Ext.same rfl) (FrX.pI FrX.rf ⟨5, j, by omega, rfl, A1.md m5⟩) (AtB.pI B1) V2
    have q2' : St h0 ad0 bs s0 sg n tp ol (pI h1 2 (ad1 5 k j) (nI 0)) ad1 (uAtt T k (ol.2.take j ++ [((ol.2.getD j ([], [])).1, (ol.2.getD j ([], [])).2.take 0)])) fl os p := q2
    obtain ⟨h3, g3, S3⟩ := cls_takeVal_L hS hz hu hOs hAL hj (by omega) hM z1 z2 (ol.2.getD j ([], [])).2.length FU 0 (pI h1 2 (ad1 5 k j) (nI 0)) (by omega) (by have := FU_ge; omega) q2'
    rw [hT4] at g3
    rw [← take_snoc hj] at S3
    obtain ⟨h4, ad4, g4, S4, e4⟩ := ih f (j + 1) h3 ad1 (by omega) (by omega) S3
    refine ⟨h4, ad4, ?_, S4, fun i => (e4 i).trans (hE 1 i 0 (by omega))⟩
    have gt : fX0_takeValueOf (some (ad1 5 k j)) (some (ad 5 120 j)) h1 = some ((), h3) := by
      rw [← hE 5 120 j (by omega)]
      simp only [fX0_takeValueOf, fX0_takeValueOf_0, ↓pi_of m5]
      exact g3
    rw [fX1_copyFrom_7]
    simp (disch := omega) only [↓gi_of hB.1 q.2.2.2.2.2.1, leN, show ¬ ol.2.length ≤ j by omega, ↓reduceIte, ↓cv_of hB.1 hit, some_ne, ↓gl_of k5 qn, ↓cv_of nB.1 g1, fX1_copyFrom_37, fX1_copyFrom_50, ↓cv_of m5 gt, nI_add]
    rw [hE 2 k 0 (by omega), hE 2 120 0 (by omega)] at g4
    exact g4
def sgT (T : TS) (os : OS) (nm : List Nat) (L : AttL) : TS := match grw T (oN1 os (os.length - 1)) with
  | none => T
  | some k => uAtt (gwT T (oN1 os (os.length - 1)) (tagN nm) nm k) k L
def sgF (T : TS) (fl : FL) (os : OS) (p : Nat) : FL := match grw T (oN1 os (os.length - 1)) with
  | none => fl ++ [(nI 6, nI p)]
  | some _ => fl
def sgO (T : TS) (os : OS) (nm : List Nat) (p : Nat) : OS := match grw T (oN1 os (os.length - 1)) with
  | none => os
  | some k => if isEm (tagN nm) = true then os else os ++ [(k, p)]
theorem cls_takeStart {h0 h : AH} {ad0 ad : Nat → Nat → Nat → Nat} {bs s0 n p p0 : Nat} {sg : Nat → Nat} {tp : Nat → Int32} {ol : OLA} {T : TS} {kd : Nat → List Nat} {fl : FL} {os : OS} {nm : List Nat} (w : Wf T kd) (hS : SizT T) (hOs : OsOk T os) (hv : vch nm) (hl8 : nm.length ≤ 8) (hAL : AtS ol.2) (hl : fl.length + 100 < 1000000) (q : St h0 ad0 bs s0 sg n tp ol h ad T fl os p) :
    ∃ h' ad', fX5_takeStartTag (some (sg 10)) (lN (pack nm)) (nI p0) h = some ((), h') ∧ St h0 ad0 bs s0 sg n tp ol h' ad' (sgT T (cbS T (tagN nm) fl os p0).2 nm ol.2) (sgF T (cbS T (tagN nm) fl os p0).1 (cbS T (tagN nm) fl os p0).2 p0) (sgO T (cbS T (tagN nm) fl os p0).2 nm p0) p := by
  have r0 := q.rd.1
  have htg := cls_tagOf (h := h) hv hl8
  have hle := tagN_le nm
  obtain ⟨h1, g1, S1⟩ := cls_closeBefore (p0 := p0) hS hOs hle hl q
  obtain ⟨hO1, hlen1⟩ := cbS_ok (t := tagN nm) (p := p0) (fl := fl) hOs
  generalize cbS T (tagN nm) fl os p0 = S at *
  obtain ⟨x0, x1, x2, x3, x4, -⟩ := id S1.rd
  have h1l := hO1.1
  have h21 := hO1.2.1
  obtain ⟨ui, t17i, di, -⟩ := hO1.2.2.2 (S.2.length - 1) (by omega)
  have hin := cls_inner S1 hO1
  simp only [fX5_takeStartTag, fX5_takeStartTag_0, fX5_takeStartTag_72]
  simp only [↓cl_of htg, ↓cv_of r0 g1, ↓gr_of x0 x2, ↓cv_of x0 hin]
  unfold sgT sgF sgO
  generalize oN1 S.2 (S.2.length - 1) = i at *
  cases hg : grw T i with
  | none =>
    obtain ⟨h2, g2, S2⟩ := S1.tell (by omega) (nI 6) (nI p0)
    refine ⟨h2, ad, ?_, S2⟩
    simp only [↓cv_of S1.ct.1 (cls_growN S1.ct hS ui hg), ↓reduceIte, ↓gr_of x0 x3, ↓cv_of S1.fa.1 g2]
  | some k =>
    obtain ⟨hd1, hk, hku⟩ := grw_some hg
    obtain ⟨h2, ad2, g2, A2, C2, F2⟩ := cls_grow (tag := tagN nm) (nm := nm) S1.1 S1.ct hS w.1 ui (by omega) hl8 hv hg
    have S2 := S1.tree (hO1.u hS) A2 F2 C2
    have hS2 := hS.grow (tag := tagN nm) (nm := nm) ui hku hk hd1 (by omega) hl8 hv
    obtain ⟨a1, a2, a3, a4, a5, a6, a7⟩ := gw_used (tag := tagN nm) (nm := nm) w ui hku k
    rw [if_pos rfl] at a1 a4
    have hz : tIs (gwT T i (tagN nm) nm k) 0 = true := by
      rw [(gw_used (tag := tagN nm) (nm := nm) w ui hku 0).1]
      split
      · rfl
      · exact w.1
    have hO2 : ∀ c, c < S.2.length → oN1 S.2 c < 120 ∧ tIs (gwT T i (tagN nm) nm k) (oN1 S.2 c) = true := fun c hc => ⟨(hO1.u hS c hc).1, ((hO1.grow w ui hku).2.2.2 c hc).1⟩
    have S2' : St h0 ad0 bs s0 sg n tp ol h2 ad2 (uAtt (gwT T i (tagN nm) nm k) k []) S.1 S.2 p := by
      have := uAtt_id (gwT T i (tagN nm) nm k) k
      rw [a4] at this
      rw [this]; exact S2
    obtain ⟨nB, nV⟩ := S2'.nV hS2 a1
    have S3 := S2'.natt (h' := pI h2 51 (ad2 2 k 0) (nI 0)) (ad' := ad2) (M' := []) hS2 ⟨by simp, fun x hx => by cases hx⟩ hz a1 hO2 (A2.eq rfl rfl rfl) (fun _ _ _ _ => rfl) (Ext.same rfl) (FrX.pI FrX.rf ⟨2, 0, by omega, rfl, A2.md nB.1⟩) (AtB.pI nB) ⟨by rw [gI_pI, if_pos ⟨rfl, rfl⟩]; rfl, fun j hj => by simp at hj⟩
    obtain ⟨h4, ad4, g4, S4, e4⟩ := cls_copy_L hS2 hz a1 hO2 hAL ol.2.length FU 0 (pI h2 51 (ad2 2 k 0) (nI 0)) ad2 (by omega) (by have := FU_ge; have := hAL.1; omega) S3
    have gc : fX1_copyFrom (some (ad2 2 k 0)) (some (ad2 2 120 0)) h2 = some ((), h4) := by
      simp only [fX1_copyFrom, fX1_copyFrom_0, ↓pi_of nB.1]
      exact g4
    obtain ⟨-, ⟨b1, b2, b3, -⟩, -⟩ := S2.ct.nd hk a1
    obtain ⟨y0, y1, y2, y3, y4, -⟩ := id S2.rd
    have hem := cls_isEm (h := h4) (t := tagN nm) (by omega)
    have y0' := S4.rd.1
    simp only [↓cv_of S1.ct.1 g2, some_ne, ↓reduceIte, ↓gr_of b1 b3, ↓gr_of y0 y4, ↓cv_of nB.1 gc, ↓cl_of hem, bI0]
    cases isEm (tagN nm) with
    | true => exact ⟨h4, ad4, by simp only [Bool.true_eq_false, ↓reduceIte], by simp only [↓reduceIte]; exact S4⟩
    | false =>
      have hl20 : S.2.length ≤ 20 := by omega
      obtain ⟨h5, g5, S5⟩ := cls_push (k := k) (p0 := p0) S4 hl20 hk a1
      rw [e4 k] at g5
      refine ⟨h5, ad4, ?_, by simp only [Bool.false_eq_true, ↓reduceIte]; exact S5⟩
      simp only [↓reduceIte, ↓cv_of y0' g5]

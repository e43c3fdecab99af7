/-! THE OUT, on both sides: a list of bytes, cut off at 8000 -/
def OutC (h : AH) (o b : Nat) (ol : List Int32) : Prop := gK h o = (5, 0) ∧ gR h 200 o = some b ∧ gK h b = (101, 8000) ∧ gI h 201 o = nI ol.length ∧ ol.length ≤ 8000 ∧ ∀ i, i < ol.length → gA h b i = ol.getD i 0
def OutR (h : AH) (m : Nat) (ra : Nat → Nat) (ol : List Int32) : Prop := gI h 455 m = nI ol.length ∧ ol.length ≤ 8000 ∧ ∀ i, i < ol.length → gA h (ra 4) i = ol.getD i 0
abbrev FrO (o b : Nat) : AH → AH → Prop := Fr (fun f a => f = 201 ∧ a = o) (fun a => a = b)
abbrev FrS (m : Nat) (ra : Nat → Nat) : AH → AH → Prop := Fr (fun f a => f = 455 ∧ a = m) (fun a => a = ra 4)
def ow (ol w : List Int32) : List Int32 := (ol ++ w).take 8000
theorem ow_nil (ol : List Int32) (h : ol.length ≤ 8000) : ow ol [] = ol := by unfold ow; rw [List.append_nil, List.take_of_length_le h]
theorem ow_app (ol a b : List Int32) : ow (ow ol a) b = ow ol (a ++ b) := by
  unfold ow
  by_cases h : (ol ++ a).length ≤ 8000
  · rw [List.take_of_length_le h, List.append_assoc]
  · have e1 : (ol ++ (a ++ b)).take 8000 = (ol ++ a).take 8000 := by rw [← List.append_assoc, List.take_append_of_le_length (by omega)]
    rw [e1, List.take_append_of_le_length (by rw [List.length_take]; omega), List.take_take, Nat.min_self]
theorem ow_len (ol w : List Int32) : (ow ol w).length ≤ 8000 := by unfold ow; rw [List.length_take]; omega
theorem ow_one (ol : List Int32) (v : Int32) (h : ol.length < 8000) : ow ol [v] = ol ++ [v] := by unfold ow; rw [List.take_of_length_le]; simp; omega
theorem ow_full (ol w : List Int32) (h : ol.length = 8000) : ow ol w = ol := by unfold ow; rw [List.take_append_of_le_length (by omega), List.take_of_length_le (by omega)]
theorem gD_in {α : Type} {l : List α} {i : Nat} {d : α} (h : i < l.length) : l.getD i d = l[i] := by simp [List.getD_eq_getElem?_getD, h]
theorem gD_out {α : Type} {l : List α} {i : Nat} {d : α} (h : l.length ≤ i) : l.getD i d = d := by simp [List.getD_eq_getElem?_getD, h]
theorem getD_snoc {α : Type} (l : List α) (v d : α) (i : Nat) : (l ++ [v]).getD i d = if i = l.length then v else l.getD i d := by
  by_cases h : i < l.length
  · rw [if_neg (by omega), gD_in h, gD_in (by simp; omega), List.getElem_append_left h]
  · by_cases e : i = l.length
    · subst e; simp [List.getD_eq_getElem?_getD]
    · rw [if_neg e, gD_out (by simp; omega), gD_out (by omega)]
theorem drop_cons {α : Type} {l : List α} {i : Nat} (d : α) (h : i < l.length) : l.drop i = l.getD i d :: l.drop (i + 1) := by rw [gD_in h, List.drop_eq_getElem_cons h]
theorem cls_put {h : AH} {o b : Nat} {ol : List Int32} (hO : OutC h o b ol) (v : Int32) : ∃ h', fX4_put (some o) v h = some ((), h') ∧ OutC h' o b (ow ol [v.toInt8.toInt32]) ∧ FrO o b h h' := by
  obtain ⟨k0, r0, k1, e0, hn, hv⟩ := id hO
  unfold fX4_put fX4_put_0 fX4_put_40
  by_cases hf : ol.length < 8000
  · refine ⟨pI (pA h b ol.length v.toInt8.toInt32) 201 o (nI (ol.length + 1)), ?_, ?_, Fr.pI (Fr.pA Fr.rf rfl) ⟨rfl, rfl⟩⟩
    · simp (disch := omega) only [↓uGI, ↓uGL, ↓uGR, ↓uPI, ↓uPL, ↓uPR, ↓uAL, ↓uQL, ↓uAS, ↓uQS, ↓uAN, ↓uCV, ↓oCL, ↓oNO, ↓uNA, ↓oNN, ↓oZ0, ↓oZ1, gI_pI, gI_pL, gI_pR, gI_pA, gI_pQ, gL_pI, gL_pL, gL_pR, gL_pA, gL_pQ, gR_pI, gR_pL, gR_pR, gR_pA, gR_pQ, gA_pI, gA_pL, gA_pR, gA_pA, gA_pQ, gQ_pI, gQ_pL, gQ_pR, gQ_pA, gQ_pQ, gK_pI, gK_pL, gK_pR, gK_pA, gK_pQ, gN_pI, gN_pL, gN_pR, gN_pA, gN_pQ, gS_pI, gS_pL, gS_pR, gS_pA, gS_pQ, gI_mk, gL_mk, gR_mk, gA_mk, gQ_mk, gK_mk, gN_mk, gS_mk, vn0, vn1, lt0, leN, ltN, eqN, eqM1, M1eq, le0n, eq0n, nI_add, nI_mul, ↓reduceIte, Nat.reduceAdd, Nat.reduceMul, Nat.reduceEqDiff, Nat.reduceLT, Nat.reduceLeDiff, and_true, true_and, and_false, false_and, and_self, reduceCtorEq, not_true_eq_false, not_false_eq_true, k0, r0, k1, e0, hf, show ¬ 8000 ≤ ol.length by omega, isB_b8]
    · rw [ow_one _ _ hf]
      refine ⟨k0, r0, k1, by rw [List.length_append]; exact if_pos ⟨rfl, rfl⟩, by simp; omega, fun i hi => ?_⟩
      rw [getD_snoc, gA_pI, gA_pA]
      by_cases e : i = ol.length
      · rw [if_pos ⟨rfl, e⟩, if_pos e]
      · rw [if_neg (fun q => e q.2), if_neg e]
        exact hv i (by simp at hi; omega)
  · refine ⟨h, ?_, ?_, Fr.rf⟩
    · simp (disch := omega) only [↓uGI, ↓uGL, ↓uGR, ↓uPI, ↓uPL, ↓uPR, ↓uAL, ↓uQL, ↓uAS, ↓uQS, ↓uAN, ↓uCV, ↓oCL, ↓oNO, ↓uNA, ↓oNN, ↓oZ0, ↓oZ1, gI_pI, gI_pL, gI_pR, gI_pA, gI_pQ, gL_pI, gL_pL, gL_pR, gL_pA, gL_pQ, gR_pI, gR_pL, gR_pR, gR_pA, gR_pQ, gA_pI, gA_pL, gA_pR, gA_pA, gA_pQ, gQ_pI, gQ_pL, gQ_pR, gQ_pA, gQ_pQ, gK_pI, gK_pL, gK_pR, gK_pA, gK_pQ, gN_pI, gN_pL, gN_pR, gN_pA, gN_pQ, gS_pI, gS_pL, gS_pR, gS_pA, gS_pQ, gI_mk, gL_mk, gR_mk, gA_mk, gQ_mk, gK_mk, gN_mk, gS_mk, vn0, vn1, lt0, leN, ltN, eqN, eqM1, M1eq, le0n, eq0n, nI_add, nI_mul, ↓reduceIte, Nat.reduceAdd, Nat.reduceMul, Nat.reduceEqDiff, Nat.reduceLT, Nat.reduceLeDiff, and_true, true_and, and_false, false_and, and_self, reduceCtorEq, not_true_eq_false, not_false_eq_true, k0, r0, k1, e0, show 8000 ≤ ol.length by omega]
    · rw [ow_full _ _ (by omega)]; exact hO
theorem ref_say {h : AH} {m : Nat} {ra : Nat → Nat} {ol : List Int32} (hB : RB h m ra) (hO : OutR h m ra ol) (v : Int32) : ∃ h', fX9_say (some m) v h = some ((), h') ∧ OutR h' m ra (ow ol [v.toInt8.toInt32]) ∧ FrS m ra h h' := by
  obtain ⟨e0, hn, hv⟩ := id hO
  unfold fX9_say fX9_say_0 fX9_say_31
  by_cases hf : ol.length < 8000
  · refine ⟨pI (pA h (ra 4) ol.length v.toInt8.toInt32) 455 m (nI (ol.length + 1)), ?_, ?_, Fr.pI (Fr.pA Fr.rf rfl) ⟨rfl, rfl⟩⟩
    · simp (disch := omega) only [↓uGI, ↓uGL, ↓uGR, ↓uPI, ↓uPL, ↓uPR, ↓uAL, ↓uQL, ↓uAS, ↓uQS, ↓uAN, ↓uCV, ↓oCL, ↓oNO, ↓uNA, ↓oNN, ↓oZ0, ↓oZ1, gI_pI, gI_pL, gI_pR, gI_pA, gI_pQ, gL_pI, gL_pL, gL_pR, gL_pA, gL_pQ, gR_pI, gR_pL, gR_pR, gR_pA, gR_pQ, gA_pI, gA_pL, gA_pR, gA_pA, gA_pQ, gQ_pI, gQ_pL, gQ_pR, gQ_pA, gQ_pQ, gK_pI, gK_pL, gK_pR, gK_pA, gK_pQ, gN_pI, gN_pL, gN_pR, gN_pA, gN_pQ, gS_pI, gS_pL, gS_pR, gS_pA, gS_pQ, gI_mk, gL_mk, gR_mk, gA_mk, gQ_mk, gK_mk, gN_mk, gS_mk, vn0, vn1, lt0, leN, ltN, eqN, eqM1, M1eq, le0n, eq0n, nI_add, nI_mul, ↓reduceIte, Nat.reduceAdd, Nat.reduceMul, Nat.reduceEqDiff, Nat.reduceLT, Nat.reduceLeDiff, and_true, true_and, and_false, false_and, and_self, reduceCtorEq, not_true_eq_false, not_false_eq_true, hB.o, hB.r4, hB.k4, e0, hf, show ¬ 8000 ≤ ol.length by omega, isB_b8]
    · rw [ow_one _ _ hf]
      refine ⟨by rw [List.length_append]; exact if_pos ⟨rfl, rfl⟩, by simp; omega, fun i hi => ?_⟩
      rw [getD_snoc, gA_pI, gA_pA]
      by_cases e : i = ol.length
      · rw [if_pos ⟨rfl, e⟩, if_pos e]
      · rw [if_neg (fun q => e q.2), if_neg e]
        exact hv i (by simp at hi; omega)
  · refine ⟨h, ?_, ?_, Fr.rf⟩
    · simp (disch := omega) only [↓uGI, ↓uGL, ↓uGR, ↓uPI, ↓uPL, ↓uPR, ↓uAL, ↓uQL, ↓uAS, ↓uQS, ↓uAN, ↓uCV, ↓oCL, ↓oNO, ↓uNA, ↓oNN, ↓oZ0, ↓oZ1, gI_pI, gI_pL, gI_pR, gI_pA, gI_pQ, gL_pI, gL_pL, gL_pR, gL_pA, gL_pQ, gR_pI, gR_pL, gR_pR, gR_pA, gR_pQ, gA_pI, gA_pL, gA_pR, gA_pA, gA_pQ, gQ_pI, gQ_pL, gQ_pR, gQ_pA, gQ_pQ, gK_pI, gK_pL, gK_pR, gK_pA, gK_pQ, gN_pI, gN_pL, gN_pR, gN_pA, gN_pQ, gS_pI, gS_pL, gS_pR, gS_pA, gS_pQ, gI_mk, gL_mk, gR_mk, gA_mk, gQ_mk, gK_mk, gN_mk, gS_mk, vn0, vn1, lt0, leN, ltN, eqN, eqM1, M1eq, le0n, eq0n, nI_add, nI_mul, ↓reduceIte, Nat.reduceAdd, Nat.reduceMul, Nat.reduceEqDiff, Nat.reduceLT, Nat.reduceLeDiff, and_true, true_and, and_false, false_and, and_self, reduceCtorEq, not_true_eq_false, not_false_eq_true, hB.o, e0, show 8000 ≤ ol.length by omega]
    · rw [ow_full _ _ (by omega)]; exact hO
theorem OutC.fr {h h' : AH} {o b : Nat} {ol : List Int32} (hO : OutC h o b ol) {I : Nat → Nat → Prop} {A : Nat → Prop} (q : Fr I A h h') (hI : ¬ I 201 o) (hA : ¬ A b) : OutC h' o b ol := by
  obtain ⟨h1, h2, h3, h4, h5, h6⟩ := hO
  exact ⟨by rw [q.2.2.2.2.2.1]; exact h1, by rw [q.2.2.1]; exact h2, by rw [q.2.2.2.2.2.1]; exact h3, by rw [q.1 _ _ hI]; exact h4, h5, fun i hi => by rw [q.2.2.2.1 _ _ hA]; exact h6 i hi⟩
theorem OutR.fr {h h' : AH} {m : Nat} {ra : Nat → Nat} {ol : List Int32} (hO : OutR h m ra ol) {I : Nat → Nat → Prop} {A : Nat → Prop} (q : Fr I A h h') (hI : ¬ I 455 m) (hA : ¬ A (ra 4)) : OutR h' m ra ol := by
  obtain ⟨h4, h5, h6⟩ := hO
  exact ⟨by rw [q.1 _ _ hI]; exact h4, h5, fun i hi => by rw [q.2.2.2.1 _ _ hA]; exact h6 i hi⟩
def outV (ol : List Int32) (v : Int32) : Int32 := if v < 0 then -1 else if v < nI ol.length then ol.getD v.toNatClampNeg 0 &&& nI 255 else -1
theorem cls_out {h : AH} {x t o f tr rd b : Nat} {ol : List Int32} (hC : CB h x t o f tr rd) (hO : OutC h o b ol) (v : Int32) : fX8_out (some x) v h = some (outV ol v, h) := by
  obtain ⟨c1, -, c2, -⟩ := id hC
  obtain ⟨k0, r0, k1, e0, hn, hv⟩ := id hO
  unfold fX8_out fX8_out_0 fX4_byteAt fX4_byteAt_0 fX4_byteAt_34 fX4_byteAt_35 outV
  by_cases h0 : v < 0
  · simp (disch := omega) only [↓uGI, ↓uGL, ↓uGR, ↓uPI, ↓uPL, ↓uPR, ↓uAL, ↓uQL, ↓uAS, ↓uQS, ↓uAN, ↓uCV, ↓oCL, ↓oNO, ↓uNA, ↓oNN, ↓oZ0, ↓oZ1, gI_pI, gI_pL, gI_pR, gI_pA, gI_pQ, gL_pI, gL_pL, gL_pR, gL_pA, gL_pQ, gR_pI, gR_pL, gR_pR, gR_pA, gR_pQ, gA_pI, gA_pL, gA_pR, gA_pA, gA_pQ, gQ_pI, gQ_pL, gQ_pR, gQ_pA, gQ_pQ, gK_pI, gK_pL, gK_pR, gK_pA, gK_pQ, gN_pI, gN_pL, gN_pR, gN_pA, gN_pQ, gS_pI, gS_pL, gS_pR, gS_pA, gS_pQ, gI_mk, gL_mk, gR_mk, gA_mk, gQ_mk, gK_mk, gN_mk, gS_mk, vn0, vn1, lt0, leN, ltN, eqN, eqM1, M1eq, le0n, eq0n, nI_add, nI_mul, ↓reduceIte, Nat.reduceAdd, Nat.reduceMul, Nat.reduceEqDiff, Nat.reduceLT, Nat.reduceLeDiff, and_true, true_and, and_false, false_and, and_self, reduceCtorEq, not_true_eq_false, not_false_eq_true, c1, c2, k0, h0]
  · obtain ⟨k, hk, rfl⟩ := nI_of h0
    by_cases hk2 : k < ol.length
    · simp (disch := omega) only [↓uGI, ↓uGL, ↓uGR, ↓uPI, ↓uPL, ↓uPR, ↓uAL, ↓uQL, ↓uAS, ↓uQS, ↓uAN, ↓uCV, ↓oCL, ↓oNO, ↓uNA, ↓oNN, ↓oZ0, ↓oZ1, gI_pI, gI_pL, gI_pR, gI_pA, gI_pQ, gL_pI, gL_pL, gL_pR, gL_pA, gL_pQ, gR_pI, gR_pL, gR_pR, gR_pA, gR_pQ, gA_pI, gA_pL, gA_pR, gA_pA, gA_pQ, gQ_pI, gQ_pL, gQ_pR, gQ_pA, gQ_pQ, gK_pI, gK_pL, gK_pR, gK_pA, gK_pQ, gN_pI, gN_pL, gN_pR, gN_pA, gN_pQ, gS_pI, gS_pL, gS_pR, gS_pA, gS_pQ, gI_mk, gL_mk, gR_mk, gA_mk, gQ_mk, gK_mk, gN_mk, gS_mk, vn0, vn1, lt0, leN, ltN, eqN, eqM1, M1eq, le0n, eq0n, nI_add, nI_mul, ↓reduceIte, Nat.reduceAdd, Nat.reduceMul, Nat.reduceEqDiff, Nat.reduceLT, Nat.reduceLeDiff, and_true, true_and, and_false, false_and, and_self, reduceCtorEq, not_true_eq_false, not_false_eq_true, c1, c2, k0, r0, k1, e0, hk2, show ¬ ol.length ≤ k by omega, show ¬ 8000 ≤ k by omega, show k < 8000 by omega, nI_clamp, hv k hk2]
    · simp (disch := omega) only [↓uGI, ↓uGL, ↓uGR, ↓uPI, ↓uPL, ↓uPR, ↓uAL, ↓uQL, ↓uAS, ↓uQS, ↓uAN, ↓uCV, ↓oCL, ↓oNO, ↓uNA, ↓oNN, ↓oZ0, ↓oZ1, gI_pI, gI_pL, gI_pR, gI_pA, gI_pQ, gL_pI, gL_pL, gL_pR, gL_pA, gL_pQ, gR_pI, gR_pL, gR_pR, gR_pA, gR_pQ, gA_pI, gA_pL, gA_pR, gA_pA, gA_pQ, gQ_pI, gQ_pL, gQ_pR, gQ_pA, gQ_pQ, gK_pI, gK_pL, gK_pR, gK_pA, gK_pQ, gN_pI, gN_pL, gN_pR, gN_pA, gN_pQ, gS_pI, gS_pL, gS_pR, gS_pA, gS_pQ, gI_mk, gL_mk, gR_mk, gA_mk, gQ_mk, gK_mk, gN_mk, gS_mk, vn0, vn1, lt0, leN, ltN, eqN, eqM1, M1eq, le0n, eq0n, nI_add, nI_mul, ↓reduceIte, Nat.reduceAdd, Nat.reduceMul, Nat.reduceEqDiff, Nat.reduceLT, Nat.reduceLeDiff, and_true, true_and, and_false, false_and, and_self, reduceCtorEq, not_true_eq_false, not_false_eq_true, c1, c2, k0, r0, k1, e0, hk2, show ol.length ≤ k by omega]
theorem ref_out {h : AH} {m : Nat} {ra : Nat → Nat} {ol : List Int32} (hB : RB h m ra) (hO : OutR h m ra ol) (v : Int32) : fX9_out (some m) v h = some (outV ol v, h) := by
  obtain ⟨e0, hn, hv⟩ := id hO
  unfold fX9_out fX9_out_0 fX9_out_12 fX9_out_26 outV
  by_cases h0 : v < 0
  · simp (disch := omega) only [↓uGI, ↓uGL, ↓uGR, ↓uPI, ↓uPL, ↓uPR, ↓uAL, ↓uQL, ↓uAS, ↓uQS, ↓uAN, ↓uCV, ↓oCL, ↓oNO, ↓uNA, ↓oNN, ↓oZ0, ↓oZ1, gI_pI, gI_pL, gI_pR, gI_pA, gI_pQ, gL_pI, gL_pL, gL_pR, gL_pA, gL_pQ, gR_pI, gR_pL, gR_pR, gR_pA, gR_pQ, gA_pI, gA_pL, gA_pR, gA_pA, gA_pQ, gQ_pI, gQ_pL, gQ_pR, gQ_pA, gQ_pQ, gK_pI, gK_pL, gK_pR, gK_pA, gK_pQ, gN_pI, gN_pL, gN_pR, gN_pA, gN_pQ, gS_pI, gS_pL, gS_pR, gS_pA, gS_pQ, gI_mk, gL_mk, gR_mk, gA_mk, gQ_mk, gK_mk, gN_mk, gS_mk, vn0, vn1, lt0, leN, ltN, eqN, eqM1, M1eq, le0n, eq0n, nI_add, nI_mul, ↓reduceIte, Nat.reduceAdd, Nat.reduceMul, Nat.reduceEqDiff, Nat.reduceLT, Nat.reduceLeDiff, and_true, true_and, and_false, false_and, and_self, reduceCtorEq, not_true_eq_false, not_false_eq_true, h0]
  · obtain ⟨k, hk, rfl⟩ := nI_of h0
    by_cases hk2 : k < ol.length
    · simp (disch := omega) only [↓uGI, ↓uGL, ↓uGR, ↓uPI, ↓uPL, ↓uPR, ↓uAL, ↓uQL, ↓uAS, ↓uQS, ↓uAN, ↓uCV, ↓oCL, ↓oNO, ↓uNA, ↓oNN, ↓oZ0, ↓oZ1, gI_pI, gI_pL, gI_pR, gI_pA, gI_pQ, gL_pI, gL_pL, gL_pR, gL_pA, gL_pQ, gR_pI, gR_pL, gR_pR, gR_pA, gR_pQ, gA_pI, gA_pL, gA_pR, gA_pA, gA_pQ, gQ_pI, gQ_pL, gQ_pR, gQ_pA, gQ_pQ, gK_pI, gK_pL, gK_pR, gK_pA, gK_pQ, gN_pI, gN_pL, gN_pR, gN_pA, gN_pQ, gS_pI, gS_pL, gS_pR, gS_pA, gS_pQ, gI_mk, gL_mk, gR_mk, gA_mk, gQ_mk, gK_mk, gN_mk, gS_mk, vn0, vn1, lt0, leN, ltN, eqN, eqM1, M1eq, le0n, eq0n, nI_add, nI_mul, ↓reduceIte, Nat.reduceAdd, Nat.reduceMul, Nat.reduceEqDiff, Nat.reduceLT, Nat.reduceLeDiff, and_true, true_and, and_false, false_and, and_self, reduceCtorEq, not_true_eq_false, not_false_eq_true, hB.o, hB.r4, hB.k4, e0, hk2, show k < 8000 by omega, nI_clamp, hv k hk2]
    · simp (disch := omega) only [↓uGI, ↓uGL, ↓uGR, ↓uPI, ↓uPL, ↓uPR, ↓uAL, ↓uQL, ↓uAS, ↓uQS, ↓uAN, ↓uCV, ↓oCL, ↓oNO, ↓uNA, ↓oNN, ↓oZ0, ↓oZ1, gI_pI, gI_pL, gI_pR, gI_pA, gI_pQ, gL_pI, gL_pL, gL_pR, gL_pA, gL_pQ, gR_pI, gR_pL, gR_pR, gR_pA, gR_pQ, gA_pI, gA_pL, gA_pR, gA_pA, gA_pQ, gQ_pI, gQ_pL, gQ_pR, gQ_pA, gQ_pQ, gK_pI, gK_pL, gK_pR, gK_pA, gK_pQ, gN_pI, gN_pL, gN_pR, gN_pA, gN_pQ, gS_pI, gS_pL, gS_pR, gS_pA, gS_pQ, gI_mk, gL_mk, gR_mk, gA_mk, gQ_mk, gK_mk, gN_mk, gS_mk, vn0, vn1, lt0, leN, ltN, eqN, eqM1, M1eq, le0n, eq0n, nI_add, nI_mul, ↓reduceIte, Nat.reduceAdd, Nat.reduceMul, Nat.reduceEqDiff, Nat.reduceLT, Nat.reduceLeDiff, and_true, true_and, and_false, false_and, and_self, reduceCtorEq, not_true_eq_false, not_false_eq_true, hB.o, e0, hk2]
/-- a row of bytes to the out -/
theorem cls_putBytes_L {o b a cnt n : Nat} {w : List Int32} (hab : a ≠ b) (hw : w.length = cnt) (hcn : cnt ≤ n) (hn : n < 100000) (hwb : ∀ c ∈ w, isB c) : ∀ (j f i : Nat) (h : AH) (ol : List Int32), i + j = cnt → j < f → OutC h o b ol → gK h a = (101, n) → (∀ k, k < cnt → gA h a k = w.getD k 0) →
    ∃ h', fX4_putBytes_7 f (some o) (some a) (nI cnt) (nI i) h = some ((), h') ∧ OutC h' o b (ow ol (w.drop i)) ∧ FrO o b h h' := by
  intro j
  induction j with
  | zero =>
    intro f i h ol hij hjf hO hka hg
    obtain ⟨f, rfl⟩ : ∃ g, f = g + 1 := ⟨f - 1, by omega⟩
    refine ⟨h, ?_, ?_, Fr.rf⟩
    · rw [fX4_putBytes_7]
      simp (disch := omega) only [↓uGI, ↓uGL, ↓uGR, ↓uPI, ↓uPL, ↓uPR, ↓uAL, ↓uQL, ↓uAS, ↓uQS, ↓uAN, ↓uCV, ↓oCL, ↓oNO, ↓uNA, ↓oNN, ↓oZ0, ↓oZ1, gI_pI, gI_pL, gI_pR, gI_pA, gI_pQ, gL_pI, gL_pL, gL_pR, gL_pA, gL_pQ, gR_pI, gR_pL, gR_pR, gR_pA, gR_pQ, gA_pI, gA_pL, gA_pR, gA_pA, gA_pQ, gQ_pI, gQ_pL, gQ_pR, gQ_pA, gQ_pQ, gK_pI, gK_pL, gK_pR, gK_pA, gK_pQ, gN_pI, gN_pL, gN_pR, gN_pA, gN_pQ, gS_pI, gS_pL, gS_pR, gS_pA, gS_pQ, gI_mk, gL_mk, gR_mk, gA_mk, gQ_mk, gK_mk, gN_mk, gS_mk, vn0, vn1, lt0, leN, ltN, eqN, eqM1, M1eq, le0n, eq0n, nI_add, nI_mul, ↓reduceIte, Nat.reduceAdd, Nat.reduceMul, Nat.reduceEqDiff, Nat.reduceLT, Nat.reduceLeDiff, and_true, true_and, and_false, false_and, and_self, reduceCtorEq, not_true_eq_false, not_false_eq_true, show cnt ≤ i by omega, fX4_putBytes_31]
    · rw [List.drop_eq_nil_of_le (by omega), ow_nil _ hO.2.2.2.2.1]; exact hO
  | succ j ih =>
    intro f i h ol hij hjf hO hka hg
    obtain ⟨f, rfl⟩ : ∃ g, f = g + 1 := ⟨f - 1, by omega⟩
    obtain ⟨h1, g1, O1, F1⟩ := cls_put hO (w.getD i 0)
    have hmem : isB (w.getD i 0) := by
      rw [gD_in (show i < w.length by omega)]
      exact hwb _ (List.getElem_mem _)
    obtain ⟨h2, g2, O2, F2⟩ := ih f (i + 1) h1 _ (by omega) (by omega) O1 (by rw [F1.2.2.2.2.2.1]; exact hka) (fun k hk => by rw [F1.2.2.2.1 _ _ hab]; exact hg k hk)
    refine ⟨h2, ?_, ?_, F1.tr F2⟩
    · rw [fX4_putBytes_7]
      simp (disch := omega) only [↓uGI, ↓uGL, ↓uGR, ↓uPI, ↓uPL, ↓uPR, ↓uAL, ↓uQL, ↓uAS, ↓uQS, ↓uAN, ↓uCV, ↓oCL, ↓oNO, ↓uNA, ↓oNN, ↓oZ0, ↓oZ1, gI_pI, gI_pL, gI_pR, gI_pA, gI_pQ, gL_pI, gL_pL, gL_pR, gL_pA, gL_pQ, gR_pI, gR_pL, gR_pR, gR_pA, gR_pQ, gA_pI, gA_pL, gA_pR, gA_pA, gA_pQ, gQ_pI, gQ_pL, gQ_pR, gQ_pA, gQ_pQ, gK_pI, gK_pL, gK_pR, gK_pA, gK_pQ, gN_pI, gN_pL, gN_pR, gN_pA, gN_pQ, gS_pI, gS_pL, gS_pR, gS_pA, gS_pQ, gI_mk, gL_mk, gR_mk, gA_mk, gQ_mk, gK_mk, gN_mk, gS_mk, vn0, vn1, lt0, leN, ltN, eqN, eqM1, M1eq, le0n, eq0n, nI_add, nI_mul, ↓reduceIte, Nat.reduceAdd, Nat.reduceMul, Nat.reduceEqDiff, Nat.reduceLT, Nat.reduceLeDiff, and_true, true_and, and_false, false_and, and_self, reduceCtorEq, not_true_eq_false, not_false_eq_true, show ¬ cnt ≤ i by omega, hka, show ¬ n ≤ i by omega, show i < n by omega, hg i (by omega), hO.1, g1, g2]
    · rw [ow_app, hmem] at O2
      rw [drop_cons 0 (show i < w.length by omega)]
      exact O2
theorem ref_sayAll_L {m a cnt n fr : Nat} {ra : Nat → Nat} {w : List Int32} (hab : a ≠ ra 4) (hw : w.length = cnt) (hcn : fr + cnt ≤ n) (hn : n < 100000) (hwb : ∀ c ∈ w, isB c) : ∀ (j f i : Nat) (h : AH) (ol : List Int32), i + j = cnt → j < f → RB h m ra → OutR h m ra ol → gK h a = (101, n) → (∀ k, k < cnt → gA h a (fr + k) = w.getD k 0) →
    ∃ h', fX9_sayAll_3 f (some m) (some a) (nI fr) (nI cnt) (nI i) h = some ((), h') ∧ OutR h' m ra (ow ol (w.drop i)) ∧ FrS m ra h h' := by
  intro j
  induction j with
  | zero =>
    intro f i h ol hij hjf hB hO hka hg
    obtain ⟨f, rfl⟩ : ∃ g, f = g + 1 := ⟨f - 1, by omega⟩
    refine ⟨h, ?_, ?_, Fr.rf⟩
    · rw [fX9_sayAll_3]
      simp (disch := omega) only [↓uGI, ↓uGL, ↓uGR, ↓uPI, ↓uPL, ↓uPR, ↓uAL, ↓uQL, ↓uAS, ↓uQS, ↓uAN, ↓uCV, ↓oCL, ↓oNO, ↓uNA, ↓oNN, ↓oZ0, ↓oZ1, gI_pI, gI_pL, gI_pR, gI_pA, gI_pQ, gL_pI, gL_pL, gL_pR, gL_pA, gL_pQ, gR_pI, gR_pL, gR_pR, gR_pA, gR_pQ, gA_pI, gA_pL, gA_pR, gA_pA, gA_pQ, gQ_pI, gQ_pL, gQ_pR, gQ_pA, gQ_pQ, gK_pI, gK_pL, gK_pR, gK_pA, gK_pQ, gN_pI, gN_pL, gN_pR, gN_pA, gN_pQ, gS_pI, gS_pL, gS_pR, gS_pA, gS_pQ, gI_mk, gL_mk, gR_mk, gA_mk, gQ_mk, gK_mk, gN_mk, gS_mk, vn0, vn1, lt0, leN, ltN, eqN, eqM1, M1eq, le0n, eq0n, nI_add, nI_mul, ↓reduceIte, Nat.reduceAdd, Nat.reduceMul, Nat.reduceEqDiff, Nat.reduceLT, Nat.reduceLeDiff, and_true, true_and, and_false, false_and, and_self, reduceCtorEq, not_true_eq_false, not_false_eq_true, show cnt ≤ i by omega, fX9_sayAll_25]
    · rw [List.drop_eq_nil_of_le (by omega), ow_nil _ hO.2.1]; exact hO
  | succ j ih =>
    intro f i h ol hij hjf hB hO hka hg
    obtain ⟨f, rfl⟩ : ∃ g, f = g + 1 := ⟨f - 1, by omega⟩
    obtain ⟨h1, g1, O1, F1⟩ := ref_say hB hO (w.getD i 0)
    have hmem : isB (w.getD i 0) := by
      rw [gD_in (show i < w.length by omega)]
      exact hwb _ (List.getElem_mem _)
    obtain ⟨h2, g2, O2, F2⟩ := ih f (i + 1) h1 _ (by omega) (by omega) (F1.RB hB) O1 (by rw [F1.2.2.2.2.2.1]; exact hka) (fun k hk => by rw [F1.2.2.2.1 _ _ hab]; exact hg k hk)
    refine ⟨h2, ?_, ?_, F1.tr F2⟩
    · rw [fX9_sayAll_3]
      simp (disch := omega) only [↓uGI, ↓uGL, ↓uGR, ↓uPI, ↓uPL, ↓uPR, ↓uAL, ↓uQL, ↓uAS, ↓uQS, ↓uAN, ↓uCV, ↓oCL, ↓oNO, ↓uNA, ↓oNN, ↓oZ0, ↓oZ1, gI_pI, gI_pL, gI_pR, gI_pA, gI_pQ, gL_pI, gL_pL, gL_pR, gL_pA, gL_pQ, gR_pI, gR_pL, gR_pR, gR_pA, gR_pQ, gA_pI, gA_pL, gA_pR, gA_pA, gA_pQ, gQ_pI, gQ_pL, gQ_pR, gQ_pA, gQ_pQ, gK_pI, gK_pL, gK_pR, gK_pA, gK_pQ, gN_pI, gN_pL, gN_pR, gN_pA, gN_pQ, gS_pI, gS_pL, gS_pR, gS_pA, gS_pQ, gI_mk, gL_mk, gR_mk, gA_mk, gQ_mk, gK_mk, gN_mk, gS_mk, vn0, vn1, lt0, leN, ltN, eqN, eqM1, M1eq, le0n, eq0n, nI_add, nI_mul, ↓reduceIte, Nat.reduceAdd, Nat.reduceMul, Nat.reduceEqDiff, Nat.reduceLT, Nat.reduceLeDiff, and_true, true_and, and_false, false_and, and_self, reduceCtorEq, not_true_eq_false, not_false_eq_true, show ¬ cnt ≤ i by omega, hka, show fr + i < n by omega, hg i (by omega), hB.o, g1, g2]
    · rw [ow_app, hmem] at O2
      rw [drop_cons 0 (show i < w.length by omega)]
      exact O2
theorem cls_putBytes {h : AH} {o b a n : Nat} {ol w : List Int32} (hO : OutC h o b ol) (hab : a ≠ b) (hcn : w.length ≤ n) (hn : n < 100000) (hwb : ∀ c ∈ w, isB c) (hka : gK h a = (101, n)) (hg : ∀ k, k < w.length → gA h a k = w.getD k 0) : ∃ h', fX4_putBytes (some o) (some a) (nI w.length) h = some ((), h') ∧ OutC h' o b (ow ol w) ∧ FrO o b h h' := by
  obtain ⟨h1, g1, O1, F1⟩ := cls_putBytes_L hab rfl hcn hn hwb w.length FU 0 h ol (by omega) (by have := FU_ge; omega) hO hka hg
  refine ⟨h1, ?_, O1, F1⟩
  unfold fX4_putBytes fX4_putBytes_0
  rw [if_neg (by simp)]
  exact g1
theorem ref_sayAll {h : AH} {m a n fr : Nat} {ra : Nat → Nat} {ol w : List Int32} (hB : RB h m ra) (hO : OutR h m ra ol) (hab : a ≠ ra 4) (hcn : fr + w.length ≤ n) (hn : n < 100000) (hwb : ∀ c ∈ w, isB c) (hka : gK h a = (101, n)) (hg : ∀ k, k < w.length → gA h a (fr + k) = w.getD k 0) : ∃ h', fX9_sayAll (some m) (some a) (nI fr) (nI w.length) h = some ((), h') ∧ OutR h' m ra (ow ol w) ∧ FrS m ra h h' := by
  obtain ⟨h1, g1, O1, F1⟩ := ref_sayAll_L hab rfl hcn hn hwb w.length FU 0 h ol (by omega) (by have := FU_ge; omega) hB hO hka hg
  exact ⟨h1, g1, O1, F1⟩

/-! both objects together: what holds between two calls -/
abbrev FrZ (m : Nat) (ra : Nat → Nat) : AH → AH → Prop := Fr (fun f a => f = 451 ∧ a = m) (fun a => a = ra 0)
theorem refZ_put4 {h : AH} {m n : Nat} {ra : Nat → Nat} {tp : Nat → Int32} (hB : RB h m ra) (hT : TapeR h m ra n tp) (hn : n + 4 ≤ 2000) (v : Int32) : ∃ h', fX9_putFour (some m) v h = some ((), h') ∧ TapeR h' m ra (n + 4) (p4 tp n v) ∧ FrZ m ra h h' := by
  obtain ⟨f, hf⟩ : ∃ f, FU = f + 1 + 1 + 1 + 1 + 1 := ⟨FU - 5, by have := FU_ge; omega⟩
  have T1 := hT.push (by omega) (b4 v 0)
  have T2 := T1.push (by omega) (b4 v 1)
  have T3 := T2.push (by omega) (b4 v 2)
  have T4 := T3.push (by omega) (b4 v 3)
  refine ⟨_, ?_, T4, ?_⟩
  · unfold fX9_putFour fX9_putFour_0
    have z1 : nI 24 + (-8) = nI 16 := by decide
    have z2 : nI 16 + (-8) = nI 8 := by decide
    have z3 : nI 8 + (-8) = nI 0 := by decide
    have z4 : nI 0 + (-8) < 0 := by decide
    rw [hf, refb_put1 hT hB (by omega) v _ _ (by omega), z1]
    erw [refb_put1 T1 hB (by omega) v _ _ (by omega)]
    rw [z2]
    erw [refb_put1 T2 hB (by omega) v _ _ (by omega)]
    rw [z3]
    erw [refb_put1 T3 hB (by omega) v _ _ (by omega)]
    rw [fX9_putFour_3, if_pos z4]
    rfl
  · repeat (first | exact Fr.rf | refine Fr.pI ?_ ⟨rfl, rfl⟩ | refine Fr.pA ?_ rfl)
theorem refZ_feed {h : AH} {m n : Nat} {ra : Nat → Nat} {tp : Nat → Int32} (hB : RB h m ra) (hT : TapeR h m ra n tp) (v1 v2 v3 v4 v5 : Int32) :
    ∃ h', fX9_feed (some m) v1 v2 v3 v4 v5 h = some (if n + 20 ≤ 2000 then nI (n + 20) else -1, h') ∧ FrZ m ra h h' ∧ (if n + 20 ≤ 2000 then TapeR h' m ra (n + 20) (p20 tp n v1 v2 v3 v4 v5) else TapeR h' m ra n tp) := by
  have hn := hT.2.1
  have e0 := hT.1
  unfold fX9_feed fX9_feed_0
  by_cases hf : n + 20 ≤ 2000
  · obtain ⟨h1, g1, T1, F1⟩ := refZ_put4 hB hT (by omega) v1
    have B1 := F1.RB hB
    obtain ⟨h2, g2, T2, F2⟩ := refZ_put4 B1 T1 (by omega) v2
    have B2 := F2.RB B1
    obtain ⟨h3, g3, T3, F3⟩ := refZ_put4 B2 T2 (by omega) v3
    have B3 := F3.RB B2
    obtain ⟨h4, g4, T4, F4⟩ := refZ_put4 B3 T3 (by omega) v4
    have B4 := F4.RB B3
    obtain ⟨h5, g5, T5, F5⟩ := refZ_put4 B4 T4 (by omega) v5
    have B5 := F5.RB B4
    refine ⟨h5, ?_, F1.tr (F2.tr (F3.tr (F4.tr F5))), ?_⟩
    · simp (disch := omega) only [↓uGI, ↓uGL, ↓uGR, ↓uPI, ↓uPL, ↓uPR, ↓uAL, ↓uQL, ↓uAS, ↓uQS, ↓uAN, ↓uCV, ↓oCL, ↓oNO, ↓uNA, ↓oNN, ↓oZ0, ↓oZ1, gI_pI, gI_pL, gI_pR, gI_pA, gI_pQ, gL_pI, gL_pL, gL_pR, gL_pA, gL_pQ, gR_pI, gR_pL, gR_pR, gR_pA, gR_pQ, gA_pI, gA_pL, gA_pR, gA_pA, gA_pQ, gQ_pI, gQ_pL, gQ_pR, gQ_pA, gQ_pQ, gK_pI, gK_pL, gK_pR, gK_pA, gK_pQ, gN_pI, gN_pL, gN_pR, gN_pA, gN_pQ, gS_pI, gS_pL, gS_pR, gS_pA, gS_pQ, gI_mk, gL_mk, gR_mk, gA_mk, gQ_mk, gK_mk, gN_mk, gS_mk, vn0, vn1, lt0, leN, ltN, eqN, eqM1, M1eq, le0n, eq0n, nI_add, nI_mul, ↓reduceIte, Nat.reduceAdd, Nat.reduceMul, Nat.reduceEqDiff, Nat.reduceLT, Nat.reduceLeDiff, and_true, true_and, and_false, false_and, and_self, reduceCtorEq, not_true_eq_false, not_false_eq_true, hB.o, e0, hf, g1, B1.o, g2, B2.o, g3, B3.o, g4, B4.o, g5, B5.o, T5.1, show n + 4 + 4 + 4 + 4 + 4 = n + 20 by omega]
    · rw [if_pos hf]
      exact T5
  · refine ⟨h, ?_, Fr.rf, by rw [if_neg hf]; exact hT⟩
    simp (disch := omega) only [↓uGI, ↓uGL, ↓uGR, ↓uPI, ↓uPL, ↓uPR, ↓uAL, ↓uQL, ↓uAS, ↓uQS, ↓uAN, ↓uCV, ↓oCL, ↓oNO, ↓uNA, ↓oNN, ↓oZ0, ↓oZ1, gI_pI, gI_pL, gI_pR, gI_pA, gI_pQ, gL_pI, gL_pL, gL_pR, gL_pA, gL_pQ, gR_pI, gR_pL, gR_pR, gR_pA, gR_pQ, gA_pI, gA_pL, gA_pR, gA_pA, gA_pQ, gQ_pI, gQ_pL, gQ_pR, gQ_pA, gQ_pQ, gK_pI, gK_pL, gK_pR, gK_pA, gK_pQ, gN_pI, gN_pL, gN_pR, gN_pA, gN_pQ, gS_pI, gS_pL, gS_pR, gS_pA, gS_pQ, gI_mk, gL_mk, gR_mk, gA_mk, gQ_mk, gK_mk, gN_mk, gS_mk, vn0, vn1, lt0, leN, ltN, eqN, eqM1, M1eq, le0n, eq0n, nI_add, nI_mul, ↓reduceIte, Nat.reduceAdd, Nat.reduceMul, Nat.reduceEqDiff, Nat.reduceLT, Nat.reduceLeDiff, and_true, true_and, and_false, false_and, and_self, reduceCtorEq, not_true_eq_false, not_false_eq_true, hB.o, e0, hf]
theorem refZ_end {h : AH} {m n : Nat} {ra : Nat → Nat} {tp : Nat → Int32} (hB : RB h m ra) (hT : TapeR h m ra n tp) (v : Int32) :
    ∃ h', fX9_end (some m) v h = some (endV n v, h') ∧ FrZ m ra h h' ∧ TapeR h' m ra (endN n v) tp := by
  obtain ⟨e0, hn, t6⟩ := id hT
  unfold fX9_end fX9_end_0 fX9_end_12 endV endN
  by_cases h0 : v < 0
  · refine ⟨h, ?_, Fr.rf, ?_⟩
    · simp only [h0, ↓reduceIte]
    · rw [if_pos h0]; exact hT
  · obtain ⟨k, hk, rfl⟩ := nI_of h0
    by_cases hk2 : k ≤ n
    · refine ⟨pI h 451 m (nI k), ?_, Fr.rf.pI ⟨rfl, rfl⟩, ?_⟩
      · simp (disch := omega) only [↓uGI, ↓uGL, ↓uGR, ↓uPI, ↓uPL, ↓uPR, ↓uAL, ↓uQL, ↓uAS, ↓uQS, ↓uAN, ↓uCV, ↓oCL, ↓oNO, ↓uNA, ↓oNN, ↓oZ0, ↓oZ1, gI_pI, gI_pL, gI_pR, gI_pA, gI_pQ, gL_pI, gL_pL, gL_pR, gL_pA, gL_pQ, gR_pI, gR_pL, gR_pR, gR_pA, gR_pQ, gA_pI, gA_pL, gA_pR, gA_pA, gA_pQ, gQ_pI, gQ_pL, gQ_pR, gQ_pA, gQ_pQ, gK_pI, gK_pL, gK_pR, gK_pA, gK_pQ, gN_pI, gN_pL, gN_pR, gN_pA, gN_pQ, gS_pI, gS_pL, gS_pR, gS_pA, gS_pQ, gI_mk, gL_mk, gR_mk, gA_mk, gQ_mk, gK_mk, gN_mk, gS_mk, vn0, vn1, lt0, leN, ltN, eqN, eqM1, M1eq, le0n, eq0n, nI_add, nI_mul, ↓reduceIte, Nat.reduceAdd, Nat.reduceMul, Nat.reduceEqDiff, Nat.reduceLT, Nat.reduceLeDiff, and_true, true_and, and_false, false_and, and_self, reduceCtorEq, not_true_eq_false, not_false_eq_true, hB.o, e0, hk2]
      · simp (disch := omega) only [↓uGI, ↓uGL, ↓uGR, ↓uPI, ↓uPL, ↓uPR, ↓uAL, ↓uQL, ↓uAS, ↓uQS, ↓uAN, ↓uCV, ↓oCL, ↓oNO, ↓uNA, ↓oNN, ↓oZ0, ↓oZ1, gI_pI, gI_pL, gI_pR, gI_pA, gI_pQ, gL_pI, gL_pL, gL_pR, gL_pA, gL_pQ, gR_pI, gR_pL, gR_pR, gR_pA, gR_pQ, gA_pI, gA_pL, gA_pR, gA_pA, gA_pQ, gQ_pI, gQ_pL, gQ_pR, gQ_pA, gQ_pQ, gK_pI, gK_pL, gK_pR, gK_pA, gK_pQ, gN_pI, gN_pL, gN_pR, gN_pA, gN_pQ, gS_pI, gS_pL, gS_pR, gS_pA, gS_pQ, gI_mk, gL_mk, gR_mk, gA_mk, gQ_mk, gK_mk, gN_mk, gS_mk, vn0, vn1, lt0, leN, ltN, eqN, eqM1, M1eq, le0n, eq0n, nI_add, nI_mul, ↓reduceIte, Nat.reduceAdd, Nat.reduceMul, Nat.reduceEqDiff, Nat.reduceLT, Nat.reduceLeDiff, and_true, true_and, and_false, false_and, and_self, reduceCtorEq, not_true_eq_false, not_false_eq_true, hk2, nI_clamp]
        exact ⟨if_pos ⟨rfl, rfl⟩, by omega, fun i hi => t6 i (by omega)⟩
    · refine ⟨h, ?_, Fr.rf, ?_⟩
      · simp (disch := omega) only [↓uGI, ↓uGL, ↓uGR, ↓uPI, ↓uPL, ↓uPR, ↓uAL, ↓uQL, ↓uAS, ↓uQS, ↓uAN, ↓uCV, ↓oCL, ↓oNO, ↓uNA, ↓oNN, ↓oZ0, ↓oZ1, gI_pI, gI_pL, gI_pR, gI_pA, gI_pQ, gL_pI, gL_pL, gL_pR, gL_pA, gL_pQ, gR_pI, gR_pL, gR_pR, gR_pA, gR_pQ, gA_pI, gA_pL, gA_pR, gA_pA, gA_pQ, gQ_pI, gQ_pL, gQ_pR, gQ_pA, gQ_pQ, gK_pI, gK_pL, gK_pR, gK_pA, gK_pQ, gN_pI, gN_pL, gN_pR, gN_pA, gN_pQ, gS_pI, gS_pL, gS_pR, gS_pA, gS_pQ, gI_mk, gL_mk, gR_mk, gA_mk, gQ_mk, gK_mk, gN_mk, gS_mk, vn0, vn1, lt0, leN, ltN, eqN, eqM1, M1eq, le0n, eq0n, nI_add, nI_mul, ↓reduceIte, Nat.reduceAdd, Nat.reduceMul, Nat.reduceEqDiff, Nat.reduceLT, Nat.reduceLeDiff, and_true, true_and, and_false, false_and, and_self, reduceCtorEq, not_true_eq_false, not_false_eq_true, hB.o, e0, hk2]
      · simp (disch := omega) only [↓uGI, ↓uGL, ↓uGR, ↓uPI, ↓uPL, ↓uPR, ↓uAL, ↓uQL, ↓uAS, ↓uQS, ↓uAN, ↓uCV, ↓oCL, ↓oNO, ↓uNA, ↓oNN, ↓oZ0, ↓oZ1, gI_pI, gI_pL, gI_pR, gI_pA, gI_pQ, gL_pI, gL_pL, gL_pR, gL_pA, gL_pQ, gR_pI, gR_pL, gR_pR, gR_pA, gR_pQ, gA_pI, gA_pL, gA_pR, gA_pA, gA_pQ, gQ_pI, gQ_pL, gQ_pR, gQ_pA, gQ_pQ, gK_pI, gK_pL, gK_pR, gK_pA, gK_pQ, gN_pI, gN_pL, gN_pR, gN_pA, gN_pQ, gS_pI, gS_pL, gS_pR, gS_pA, gS_pQ, gI_mk, gL_mk, gR_mk, gA_mk, gQ_mk, gK_mk, gN_mk, gS_mk, vn0, vn1, lt0, leN, ltN, eqN, eqM1, M1eq, le0n, eq0n, nI_add, nI_mul, ↓reduceIte, Nat.reduceAdd, Nat.reduceMul, Nat.reduceEqDiff, Nat.reduceLT, Nat.reduceLeDiff, and_true, true_and, and_false, false_and, and_self, reduceCtorEq, not_true_eq_false, not_false_eq_true, hk2]
        exact hT
/-- what the calls leave is well made -/
theorem ad_ok {T : TS} {kd : Nat → List Nat} {tp : Nat → Int32} {n : Nat} (w : Wf T kd) (hS : SizT T) (v : Int32) : (∃ kd', Wf (adT T tp n v) kd') ∧ SizT (adT T tp n v) := by
  unfold adT
  cases hw : wname tp n with
  | some k => exact ⟨⟨kd, w⟩, hS⟩
  | none =>
    obtain ⟨n0, n8, -, hok⟩ := wname_none hw
    have hv : vch (sl (fun k => tbv (tp k)) 0 n) := sl_v hok
    have hlen : (sl (fun k => tbv (tp k)) 0 n).length ≤ 8 := by rw [sl_len]; exact n8
    have htl := tagN_le (sl (fun k => tbv (tp k)) 0 n)
    simp only
    unfold adR
    cases he : eAt T v with
    | none => exact ⟨⟨kd, w⟩, hS⟩
    | some i =>
      obtain ⟨hi, hu, ht17, -⟩ := eAt_some he
      simp only
      cases hem : isEm (tTag T i) with
      | true => exact ⟨⟨kd, w⟩, hS⟩
      | false =>
        simp only [Bool.false_eq_true, ↓reduceIte]
        cases hg : grw T i with
        | none => exact ⟨⟨kd, w⟩, hS⟩
        | some k =>
          obtain ⟨hd, hk, hku⟩ := grw_some hg
          exact ⟨⟨_, w.grow hu ht17 hku hk (Or.inr ⟨by omega, rfl⟩)⟩, hS.grow hu hku hk hd (by omega) hlen hv⟩
theorem st_ok {T : TS} {kd : Nat → List Nat} {tp : Nat → Int32} {n : Nat} (w : Wf T kd) (hS : SizT T) (v : Int32) : (∃ kd', Wf (stT T tp n v) kd') ∧ SizT (stT T tp n v) := by
  unfold stT
  cases hw : wset tp n with
  | some k => exact ⟨⟨kd, w⟩, hS⟩
  | none =>
    obtain ⟨-, hok, n0, nn, n8, -⟩ := wset_none hw
    simp only
    unfold stR
    cases he : eAt T v with
    | none => exact ⟨⟨kd, w⟩, hS⟩
    | some i =>
      obtain ⟨hi, hu, ht17, -⟩ := eAt_some he
      simp only
      cases hs : setL (tAtt T i) (sl (fun k => tbv (tp k)) 0 (nlen (fun k => tbv (tp k)) n 8 0)) (vcat [] (sl (fun k => tbv (tp k)) (nlen (fun k => tbv (tp k)) n 8 0 + 1) (n - (nlen (fun k => tbv (tp k)) n 8 0 + 1)))) with
      | none => exact ⟨⟨kd, w⟩, hS⟩
      | some L =>
        have hA : AtS (tAtt T i) := (hS.z i hu).2.1
        have hv : vch (sl (fun k => tbv (tp k)) 0 (nlen (fun k => tbv (tp k)) n 8 0)) := sl_v (fun k hk => hok k (by omega))
        have hb : bch (sl (fun k => tbv (tp k)) (nlen (fun k => tbv (tp k)) n 8 0 + 1) (n - (nlen (fun k => tbv (tp k)) n 8 0 + 1))) := by
          intro c hc
          unfold sl at hc
          obtain ⟨k, hk, rfl⟩ := List.mem_map.mp hc
          have := List.mem_range.mp hk
          exact hok _ (by omega)
        have hL := setL_S hs hA (by rw [sl_len]; exact n8) hv (vcat_len _ _) (vcat_b (fun c hc => by cases hc) hb)
        exact ⟨⟨kd, w.att⟩, hS.att hL⟩
theorem rv_ok {T : TS} {kd : Nat → List Nat} (w : Wf T kd) (hS : SizT T) (v : Int32) : (∃ kd', Wf (rvT T kd v) kd') ∧ SizT (rvT T kd v) := by
  unfold rvT rmV
  cases he : nAt T v with
  | none => exact ⟨⟨kd, w⟩, hS⟩
  | some n =>
    obtain ⟨hn, hu, -⟩ := nAt_some he
    simp only
    cases hp : tPar T n with
    | none => exact ⟨⟨kd, w⟩, hS⟩
    | some p =>
      obtain ⟨kd', w'⟩ := w.remove hS hu hp
      exact ⟨⟨kd', w'⟩, SizT.remove (kd := kd) hS w'⟩
theorem up_b {tp : Nat → Int32} {n i : Nat} {v : Int32} (h : ∀ i, i < n → isB (tp i)) (hv : isB v) (hi : i < n + 1) : isB (up tp n v i) := by
  by_cases e : i = n
  · rw [e, up_s]; exact hv
  · rw [up_n _ _ e]; exact h i (by omega)
theorem p4_b {tp : Nat → Int32} {n : Nat} {v : Int32} (h : ∀ i, i < n → isB (tp i)) : ∀ i, i < n + 4 → isB (p4 tp n v i) := by
  have hb : ∀ k, isB (b4 v k) := fun k => isB_b8 _
  unfold p4
  have h1 : ∀ i, i < n + 1 → isB (up tp n (b4 v 0) i) := fun i hi => up_b h (hb 0) hi
  have h2 : ∀ i, i < n + 2 → isB (up (up tp n (b4 v 0)) (n + 1) (b4 v 1) i) := fun i hi => up_b h1 (hb 1) hi
  have h3 : ∀ i, i < n + 3 → isB (up (up (up tp n (b4 v 0)) (n + 1) (b4 v 1)) (n + 2) (b4 v 2) i) := fun i hi => up_b h2 (hb 2) hi
  exact fun i hi => up_b h3 (hb 3) hi
theorem p20_b {tp : Nat → Int32} {n : Nat} {v1 v2 v3 v4 v5 : Int32} (h : ∀ i, i < n → isB (tp i)) : ∀ i, i < n + 20 → isB (p20 tp n v1 v2 v3 v4 v5 i) := by
  unfold p20
  exact p4_b (n := n + 16) (p4_b (n := n + 12) (p4_b (n := n + 8) (p4_b (n := n + 4) (p4_b h))))
theorem endN_le (n : Nat) (v : Int32) : endN n v ≤ n := by
  unfold endN
  by_cases h0 : v < 0
  · rw [if_pos h0]; exact Nat.le_refl _
  · rw [if_neg h0]
    obtain ⟨k, hk, rfl⟩ := nI_of h0
    split
    · rename_i z
      rw [nI_clamp hk]
      by_cases hn : n < 2 ^ 31
      · rw [leN hk hn] at z; exact z
      · omega
    · exact Nat.le_refl _
def rg (sg : Nat → Nat) (k : Nat) : Nat := sg (14 + k)
def CP (h : AH) (bs s0 : Nat) (sg : Nat → Nat) (ad : Nat → Nat → Nat → Nat) (T : TS) (n : Nat) (tp : Nat → Int32) (ol : List Int32) (fl : FL) (L : AttL) : Prop := AdOk h bs s0 sg ad ∧ Cls h sg ad T n tp ol fl ∧ AtV h ad 120 L ∧ gA h (sg 12) 0 = nI 0
def RP (h : AH) (sg : Nat → Nat) (T : TS) (n : Nat) (tp : Nat → Int32) (ol : List Int32) (fl : FL) : Prop := RB h (sg 13) (rg sg) ∧ RefT h (sg 13) (rg sg) T ∧ TapeR h (sg 13) (rg sg) n tp ∧ OutR h (sg 13) (rg sg) ol ∧ FauR h (sg 13) (rg sg) fl
def PP (T : TS) (n : Nat) (tp : Nat → Int32) (fl : FL) : Prop := (∃ kd, Wf T kd) ∧ SizT T ∧ (∀ i, i < n → isB (tp i)) ∧ fl.length < 200000
def IV (bs s0 : Nat) (sg : Nat → Nat) (h : AH) : Prop := ∃ ad T n tp ol fl L, CP h bs s0 sg ad T n tp ol fl L ∧ RP h sg T n tp ol fl ∧ PP T n tp fl
theorem RP.fx {h h' : AH} {sg : Nat → Nat} {T : TS} {n : Nat} {tp : Nat → Int32} {ol : List Int32} {fl : FL} (q : RP h sg T n tp ol fl) {S : Nat → Prop} (w : FrX S h h') (hS : ∀ k, 13 ≤ k → ¬ S (sg k)) : RP h' sg T n tp ol fl := by
  obtain ⟨q1, q2, q3, q4, q5⟩ := q
  have hm := hS 13 (by omega)
  have ha : ∀ k, ¬ S (rg sg k) := fun k => hS (14 + k) (by omega)
  exact ⟨q1.fx w hm ha, q2.fx w hm ha, q3.fx w hm ha, q4.fx w hm ha, q5.fx w hm ha⟩
theorem CP.fr {h h' : AH} {bs s0 : Nat} {sg : Nat → Nat} {ad : Nat → Nat → Nat → Nat} {T : TS} {n : Nat} {tp : Nat → Int32} {ol : List Int32} {fl : FL} {L : AttL} (q : CP h bs s0 sg ad T n tp ol fl L) {I : Nat → Nat → Prop} {A : Nat → Prop} (F : Fr I A h h') (hI : ∀ f a, I f a → a = sg 13) (hA : ∀ a, A a → ∃ k, a = rg sg k) : CP h' bs s0 sg ad T n tp ol fl L := by
  obtain ⟨q1, ⟨c1, c2, c3, c4, c5, c6, c7⟩, q3, q4⟩ := q
  have w : FrX (fun a => ∃ k, 13 ≤ k ∧ a = sg k) h h' := Fr.x F (fun f a z => ⟨13, by omega, hI f a z⟩) (fun a z => by obtain ⟨k, e⟩ := hA a z; exact ⟨14 + k, by omega, e⟩)
  have no : ∀ k, k < 13 → ¬ ∃ j, 13 ≤ j ∧ sg k = sg j := fun k hk z => by obtain ⟨j, hj, e⟩ := z; have := (q1.2.1 _ _).mp e; omega
  have noa : ∀ c i j, ¬ ∃ k, 13 ≤ k ∧ ad c i j = sg k := fun c i j z => by obtain ⟨k, hk, e⟩ := z; exact q1.2.2.1 _ _ _ _ e
  refine ⟨q1.eq F.2.2.2.2.2.2.1 F.2.2.2.2.2.2.2 F.2.2.2.2.2.1, ⟨c1.fx w (no 0 (by omega)), c2.fx w (no 1 (by omega)) (no 2 (by omega)), c3.fx w (no 3 (by omega)) (no 4 (by omega)), c4.fx w (no 5 (by omega)) (no 6 (by omega)) (no 7 (by omega)), c5.fx w noa (no 8 (by omega)) (no 9 (by omega)) F.2.2.2.2.2.2.1, ?_, c7.eq F.2.2.1 F.2.2.2.2.2.1 F.2.2.2.2.1 F.2.2.2.2.2.2.1⟩, q3.tr (fun _ _ => rfl) w (fun c j _ _ => noa c 120 j), ?_⟩
  · unfold PR
    rw [F.2.2.1, F.2.2.2.2.2.1]
    exact c6
  · rw [(w (sg 12) (no 12 (by omega))).2.2.2.1]; exact q4
theorem CP.io {h h' : AH} {bs s0 : Nat} {sg : Nat → Nat} {ad : Nat → Nat → Nat → Nat} {T : TS} {n n' : Nat} {tp tp' : Nat → Int32} {ol ol' : List Int32} {fl : FL} {L : AttL} (q : CP h bs s0 sg ad T n tp ol fl L) {I : Nat → Nat → Prop} {A : Nat → Prop} (F : Fr I A h h') (hI : ∀ f a, I f a → (f = 301 ∧ a = sg 1) ∨ (f = 201 ∧ a = sg 3)) (hA : ∀ a, A a → a = sg 2 ∨ a = sg 4) (ht : TapeC h' (sg 1) (sg 2) n' tp') (ho : OutC h' (sg 3) (sg 4) ol') : CP h' bs s0 sg ad T n' tp' ol' fl L ∧ ∀ {T2 : TS} {n2 : Nat} {tp2 : Nat → Int32} {ol2 : List Int32} {fl2 : FL}, RP h sg T2 n2 tp2 ol2 fl2 → RP h' sg T2 n2 tp2 ol2 fl2 := by
  obtain ⟨q1, ⟨c1, c2, c3, c4, c5, c6, c7⟩, q3, q4⟩ := q
  have w : FrX (fun a => a = sg 1 ∨ a = sg 2 ∨ a = sg 3 ∨ a = sg 4) h h' := Fr.x F (fun f a z => (hI f a z).elim (fun z => Or.inl z.2) (fun z => Or.inr (Or.inr (Or.inl z.2)))) (fun a z => (hA a z).elim (fun z => Or.inr (Or.inl z)) (fun z => Or.inr (Or.inr (Or.inr z))))
  have no : ∀ k, k ≠ 1 → k ≠ 2 → k ≠ 3 → k ≠ 4 → ¬ (sg k = sg 1 ∨ sg k = sg 2 ∨ sg k = sg 3 ∨ sg k = sg 4) := fun k h1 h2 h3 h4 z => by
    rcases z with z | z | z | z <;> (have := (q1.2.1 _ _).mp z; omega)
  have noa : ∀ c i j, ¬ (ad c i j = sg 1 ∨ ad c i j = sg 2 ∨ ad c i j = sg 3 ∨ ad c i j = sg 4) := fun c i j z => by
    rcases z with z | z | z | z <;> exact q1.2.2.1 _ _ _ _ z
  refine ⟨⟨q1.eq F.2.2.2.2.2.2.1 F.2.2.2.2.2.2.2 F.2.2.2.2.2.1, ⟨c1.fx w (no 0 (by omega) (by omega) (by omega) (by omega)), ht, ho, c4.fx w (no 5 (by omega) (by omega) (by omega) (by omega)) (no 6 (by omega) (by omega) (by omega) (by omega)) (no 7 (by omega) (by omega) (by omega) (by omega)), c5.fx w noa (no 8 (by omega) (by omega) (by omega) (by omega)) (no 9 (by omega) (by omega) (by omega) (by omega)) F.2.2.2.2.2.2.1, ?_, c7.eq F.2.2.1 F.2.2.2.2.2.1 F.2.2.2.2.1 F.2.2.2.2.2.2.1⟩, q3.tr (fun _ _ => rfl) w (fun c j _ _ => noa c 120 j), ?_⟩, fun r => r.fx w (fun k hk => no k (by omega) (by omega) (by omega) (by omega))⟩
  · unfold PR
    rw [F.2.2.1, F.2.2.2.2.2.1]
    exact c6
  · rw [(w (sg 12) (no 12 (by omega) (by omega) (by omega) (by omega))).2.2.2.1]; exact q4
theorem CP.tr {h h' : AH} {bs s0 : Nat} {sg : Nat → Nat} {ad ad' : Nat → Nat → Nat → Nat} {T T' : TS} {n n' : Nat} {tp tp' : Nat → Int32} {ol : List Int32} {fl : FL} {L : AttL} (q : CP h bs s0 sg ad T n tp ol fl L) (A' : AdOk h' bs s0 sg ad') (F : FrTA sg h ad h' ad') (C' : ClsT h' ad' (sg 8) (sg 9) T') (ht : TapeC h' (sg 1) (sg 2) n' tp') : CP h' bs s0 sg ad' T' n' tp' ol fl L ∧ ∀ {T2 : TS} {n2 : Nat} {tp2 : Nat → Int32} {ol2 : List Int32} {fl2 : FL}, RP h sg T2 n2 tp2 ol2 fl2 → RP h' sg T2 n2 tp2 ol2 fl2 := by
  obtain ⟨q1, q2, q3, q4⟩ := q
  refine ⟨⟨A', q2.tree q1 A' F C' ht, q3.tr F.2.2 F.1 (fun c j _ _ z => ?_), ?_⟩, fun r => r.fx F.1 (fun k hk => TA.no A' (by omega) (by omega) (by omega))⟩
  · rw [← F.2.2] at z
    rcases z with ⟨i, hi, c', j', e, -⟩ | z | z | z
    · rw [A'.1.e] at e; omega
    · exact A'.2.2.1 _ _ _ _ z
    · exact A'.2.2.1 _ _ _ _ z
    · exact A'.2.2.1 _ _ _ _ z
  · rw [(F.1 (sg 12) (TA.no A' (by omega) (by omega) (by omega))).2.2.2.1]; exact q4
theorem PA.no {h : AH} {bs s0 : Nat} {sg : Nat → Nat} {ad : Nat → Nat → Nat → Nat} (hA : AdOk h bs s0 sg ad) {k : Nat} (hk : 13 ≤ k) : ¬ PA sg h ad (sg k) := by
  rintro (⟨c, i, j, e, -⟩ | ⟨j, hj, e⟩)
  · exact hA.2.2.1 _ _ _ _ e.symm
  · have := (hA.2.1 _ _).mp e; omega
/-- one call of each -/
def STEP (bs s0 : Nat) (sg : Nat → Nat) (h : AH) (f g : AH → Option (Int32 × AH)) : Prop := ∃ r h1 h2, f h = some (r, h1) ∧ gK h1 (sg 13) = (10, 0) ∧ g h1 = some (r, h2) ∧ IV bs s0 sg h2

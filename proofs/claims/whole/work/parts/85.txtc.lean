/-! text(n): the class -/
theorem up_id {α : Type} (f : Nat → α) (i : Nat) : up f i (f i) = f := by
  funext j
  unfold up
  split
  · rename_i z; rw [z]
  · rfl
theorem up_up {α : Type} (f : Nat → α) (i : Nat) (a b : α) : up (up f i a) i b = up f i b := by
  funext j
  unfold up
  split <;> rfl
theorem uTxt_id (T : TS) (i : Nat) : uTxt T i (tTxt T i) = T := by
  unfold uTxt tTxt
  rw [up_id]
theorem uTxt_up (T : TS) (i : Nat) (a b : List Nat) : uTxt (uTxt T i a) i b = uTxt T i b := by
  unfold uTxt
  rw [up_up]
def tadd (w : List Nat) (c : Nat) : List Nat := if w.length < 400 then w ++ [c] else w
def tcat (w l : List Nat) : List Nat := (w ++ l).take 400
theorem tk_eq {K : Nat} {w : List Nat} {c : Nat} (h : w.length ≤ K) : (if w.length < K then w ++ [c] else w) = (w ++ [c]).take K := by
  by_cases z : w.length < K
  · rw [if_pos z, List.take_of_length_le (by rw [List.length_append]; exact z)]
  · rw [if_neg z, List.take_append_of_le_length (by omega), List.take_of_length_le (by omega)]
theorem tk_cons (K : Nat) (w l : List Nat) (c : Nat) : ((w ++ [c]).take K ++ l).take K = (w ++ c :: l).take K := by
  by_cases h : (w ++ [c]).length ≤ K
  · rw [List.take_of_length_le h, List.append_assoc]; rfl
  · have e1 : (w ++ c :: l).take K = (w ++ [c]).take K := by
      rw [show w ++ c :: l = (w ++ [c]) ++ l by simp, List.take_append_of_le_length (by omega)]
    rw [e1, List.take_append_of_le_length (by rw [List.length_take]; omega), List.take_take, Nat.min_self]
theorem tk_nil {K : Nat} {w : List Nat} (h : w.length ≤ K) : (w ++ []).take K = w := by rw [List.append_nil, List.take_of_length_le h]
theorem tk_len (K : Nat) (w : List Nat) : (w.take K).length ≤ K := by rw [List.length_take]; omega
theorem tadd_eq {w : List Nat} {c : Nat} (h : w.length ≤ 400) : tadd w c = tcat w [c] := tk_eq h
theorem tcat_cons (w l : List Nat) (c : Nat) : tcat (tcat w [c]) l = tcat w (c :: l) := tk_cons 400 w l c
theorem tcat_nil {w : List Nat} (h : w.length ≤ 400) : tcat w [] = w := tk_nil h
theorem tcat_len (w l : List Nat) : (tcat w l).length ≤ 400 := tk_len 400 (w ++ l)
theorem tcat_b {w l : List Nat} (h1 : bch w) (h2 : bch l) : bch (tcat w l) := by
  intro c hc
  rcases List.mem_append.mp (List.mem_of_mem_take hc) with z | z
  · exact h1 c z
  · exact h2 c z
theorem tadd_len {w : List Nat} {c : Nat} (h : w.length ≤ 400) : (tadd w c).length ≤ 400 := by rw [tadd_eq h]; exact tcat_len _ _
theorem AtV.pA4 {h : AH} {ad : Nat → Nat → Nat → Nat} {i k p : Nat} {v : Int32} {L : AttL} (q : AtV h ad i L) (hI : Inj3 ad) : AtV (pA h (ad 4 k 0) p v) ad i L := by
  refine ⟨q.1, fun j hj => ?_⟩
  obtain ⟨a, b, c, d⟩ := q.2 j hj
  refine ⟨a, b, c, fun k hk => ?_⟩
  rw [gA_pA, if_neg (fun z => by have := z.1; rw [hI.e] at this; omega)]
  exact d k hk
theorem cls_putByte {h : AH} {bs s0 i c : Nat} {sg : Nat → Nat} {ad : Nat → Nat → Nat → Nat} {T : TS} (hA : AdOk h bs s0 sg ad) (hC : ClsT h ad (sg 8) (sg 9) T) (hi : i < 120) (hu : tIs T i = true) (h17 : tTag T i = 17) (hl : (tTxt T i).length ≤ 400) (hc : c < 128) : ∃ h1, fX3_putByte (some (ad 1 i 0)) (nI c) h = some (bI (decide ((tTxt T i).length < 400)), h1) ∧ AdOk h1 bs s0 sg ad ∧ ClsT h1 ad (sg 8) (sg 9) (uTxt T i (tadd (tTxt T i) c)) ∧ FrTB sg h ad h1 ad := by
  obtain ⟨n1, ⟨b1, b2, b3, b4, b5⟩, v1, v2, v3, v4, v5, v6, v7, v8, v9, v10, v11, v12⟩ := hC.nd hi hu
  have hIs := hC.is hi hu
  obtain ⟨t1, t2⟩ := v12 h17
  have k4 : gK h (ad 4 i 0) = (101, 400) := by
    rcases b5 with ⟨z, -⟩ | ⟨-, z⟩
    · rw [t1] at z; cases z
    · exact z
  simp only [fX3_putByte, fX3_putByte_0, fX3_putByte_26]
  by_cases hlt : (tTxt T i).length < 400
  · refine ⟨pI (pA h (ad 4 i 0) (tTxt T i).length (nI c)) 162 (ad 1 i 0) (nI ((tTxt T i).length + 1)), ?_, hA.eq rfl rfl rfl, ?_, ?_⟩
    · simp (disch := omega) only [↓uGI, ↓uGL, ↓uGR, ↓uPI, ↓uPL, ↓uPR, ↓uAL, ↓uQL, ↓uAS, ↓uQS, ↓uAN, ↓uCV, ↓oCL, ↓oNO, ↓uNA, ↓oNN, ↓oZ0, ↓oZ1, gI_pI, gI_pL, gI_pR, gI_pA, gI_pQ, gL_pI, gL_pL, gL_pR, gL_pA, gL_pQ, gR_pI, gR_pL, gR_pR, gR_pA, gR_pQ, gA_pI, gA_pL, gA_pR, gA_pA, gA_pQ, gQ_pI, gQ_pL, gQ_pR, gQ_pA, gQ_pQ, gK_pI, gK_pL, gK_pR, gK_pA, gK_pQ, gN_pI, gN_pL, gN_pR, gN_pA, gN_pQ, gS_pI, gS_pL, gS_pR, gS_pA, gS_pQ, gI_mk, gL_mk, gR_mk, gA_mk, gQ_mk, gK_mk, gN_mk, gS_mk, vn0, vn1, lt0, leN, ltN, eqN, eqM1, M1eq, le0n, eq0n, nI_add, nI_mul, ↓reduceIte, Nat.reduceAdd, Nat.reduceMul, Nat.reduceEqDiff, Nat.reduceLT, Nat.reduceLeDiff, and_true, true_and, and_false, false_and, and_self, reduceCtorEq, not_true_eq_false, not_false_eq_true, b1, t1, some_ne, v10, k4, hlt, nI_b hc, oZn1, decide_true]
      rfl
    · have ne4 : ∀ j, ad 4 j 0 = ad 4 i 0 → j = i := fun j z => by rw [hA.1.e] at z; exact z.2.1
      have hSS : ∀ a, (a = ad 1 i 0 ∨ a = ad 4 i 0) → ∃ c j, a = ad c i j := fun a z => by
        rcases z with z | z
        · exact ⟨1, 0, z⟩
        · exact ⟨4, 0, z⟩
      refine hC.up1 (i := i) hA.1 (fun _ _ => rfl) (fun j hj _ => ⟨rfl, rfl, rfl, rfl, rfl, rfl, rfl, rfl, rfl, by rw [tTxt_uTxt, if_neg hj], rfl⟩) (S := fun a => a = ad 1 i 0 ∨ a = ad 4 i 0) (FrX.pI (FrX.pA FrX.rf (Or.inr rfl)) (Or.inl rfl)) hSS (fun c j => hA.2.2.1 c i j 9) (fun c j => hA.2.2.1 c i j 8) rfl rfl (Or.inr ⟨n1, ⟨b1, by rw [gI_pI, if_neg (by omega)]; exact b2, b3, AtB.pI b4, b5⟩, by rw [gI_pI, if_neg (by omega)]; exact hIs, fun _ => ⟨by rw [gI_pI, if_neg (by omega)]; exact v1, v2, by rw [gI_pI, if_neg (by omega)]; exact v3, v4, v5, v6, v7, v8, AtV.pI (v9.pA4 hA.1) (by omega), ?_, by rw [gI_pI, if_neg (by omega)]; exact v11, fun _ => ⟨t1, fun k hk => ?_⟩⟩⟩)
      · rw [gI_pI, if_pos ⟨rfl, rfl⟩, tTxt_uTxt, if_pos rfl, tadd, if_pos hlt, List.length_append]
        rfl
      · rw [tTxt_uTxt, if_pos rfl, tadd, if_pos hlt] at hk ⊢
        rw [gA_pI, gA_pA]
        by_cases e : k = (tTxt T i).length
        · rw [if_pos ⟨rfl, e⟩, e]
          simp [List.getD_eq_getElem?_getD]
        · rw [if_neg (fun z => e z.2)]
          rw [List.length_append] at hk
          simp only [List.length_singleton] at hk
          rw [t2 k (by omega)]
          congr 1
          simp only [List.getD_eq_getElem?_getD]
          rw [List.getElem?_append_left (by omega)]
    · exact ⟨(FrX.pI (FrX.pA (FrX.rf (S := fun a => a = ad 1 i 0 ∨ a = ad 4 i 0)) (Or.inr rfl)) (Or.inl rfl)).mo (fun a z => Or.inl ⟨i, hi, by
        rcases z with z | z
        · exact ⟨1, 0, z, by rw [z]; exact hA.md b1⟩
        · exact ⟨4, 0, z, by rw [z]; exact hA.md k4⟩⟩), ExtT.same rfl⟩
  · refine ⟨h, ?_, hA, ?_, FrTB.rf⟩
    · simp (disch := omega) only [↓uGI, ↓uGL, ↓uGR, ↓uPI, ↓uPL, ↓uPR, ↓uAL, ↓uQL, ↓uAS, ↓uQS, ↓uAN, ↓uCV, ↓oCL, ↓oNO, ↓uNA, ↓oNN, ↓oZ0, ↓oZ1, gI_pI, gI_pL, gI_pR, gI_pA, gI_pQ, gL_pI, gL_pL, gL_pR, gL_pA, gL_pQ, gR_pI, gR_pL, gR_pR, gR_pA, gR_pQ, gA_pI, gA_pL, gA_pR, gA_pA, gA_pQ, gQ_pI, gQ_pL, gQ_pR, gQ_pA, gQ_pQ, gK_pI, gK_pL, gK_pR, gK_pA, gK_pQ, gN_pI, gN_pL, gN_pR, gN_pA, gN_pQ, gS_pI, gS_pL, gS_pR, gS_pA, gS_pQ, gI_mk, gL_mk, gR_mk, gA_mk, gQ_mk, gK_mk, gN_mk, gS_mk, vn0, vn1, lt0, leN, ltN, eqN, eqM1, M1eq, le0n, eq0n, nI_add, nI_mul, ↓reduceIte, Nat.reduceAdd, Nat.reduceMul, Nat.reduceEqDiff, Nat.reduceLT, Nat.reduceLeDiff, and_true, true_and, and_false, false_and, and_self, reduceCtorEq, not_true_eq_false, not_false_eq_true, b1, t1, some_ne, v10, k4, hlt, oZn0, decide_false]
      rfl
    · rw [tadd, if_neg hlt, uTxt_id]
      exact hC
theorem cls_takeBytes_L {bs s0 i n : Nat} {sg : Nat → Nat} {ad : Nat → Nat → Nat → Nat} {T : TS} {tp : Nat → Int32} (hi : i < 120) (hu : tIs T i = true) (h17 : tTag T i = 17) (hb : ∀ i, i < n → isB (tp i)) (hok : ∀ k, k < n → okb (tbv (tp k)) = true) (hn : n ≤ 2000) : ∀ (k f p : Nat) (h : AH) (w : List Nat), p + k = n → k < f → AdOk h bs s0 sg ad → ClsT h ad (sg 8) (sg 9) (uTxt T i w) → w.length ≤ 400 → gK h (sg 2) = (101, 2000) → (∀ q, q < n → gA h (sg 2) q = tp q) →
    ∃ h1, fX3_takeBytes_2 f (some (ad 1 i 0)) (some (sg 2)) (nI n) (nI p) h = some ((), h1) ∧ AdOk h1 bs s0 sg ad ∧ ClsT h1 ad (sg 8) (sg 9) (uTxt T i (tcat w (sl (fun k => tbv (tp k)) p k))) ∧ FrTB sg h ad h1 ad := by
  intro k
  induction k with
  | zero =>
    intro f p h w hpk hkf hA hC hw hk hg
    obtain ⟨f, rfl⟩ : ∃ g, f = g + 1 := ⟨f - 1, by omega⟩
    refine ⟨h, ?_, hA, ?_, FrTB.rf⟩
    · rw [fX3_takeBytes_2]
      simp (disch := omega) only [leN, show n ≤ p by omega, ↓reduceIte, fX3_takeBytes_27]
    · rw [show sl (fun k => tbv (tp k)) p 0 = [] from rfl, tcat_nil hw]
      exact hC
  | succ k ih =>
    intro f p h w hpk hkf hA hC hw hk hg
    obtain ⟨f, rfl⟩ : ∃ g, f = g + 1 := ⟨f - 1, by omega⟩
    have ew : tTxt (uTxt T i w) i = w := by rw [tTxt_uTxt, if_pos rfl]
    have hlo := okb_lt (hok p (by omega))
    obtain ⟨h1, g1, A1, C1, F1⟩ := cls_putByte (c := tbv (tp p)) hA hC hi hu h17 (by rw [ew]; exact hw) hlo
    rw [ew, uTxt_up] at C1
    obtain ⟨-, -, -, x4, -, x6⟩ := F1.1 (sg 2) (TB.no A1 (by omega) (by omega))
    obtain ⟨h2, g2, A2, C2, F2⟩ := ih f (p + 1) h1 (tadd w (tbv (tp p))) (by omega) (by omega) A1 C1 (tadd_len hw) (by rw [x6]; exact hk) (fun q hq => by rw [x4]; exact hg q hq)
    have e1 : tp p = nI (tbv (tp p)) := by
      have := sx_tbv (hb p (by omega))
      rw [sx_lo _ hlo] at this
      exact this
    have k1 := (hC.nd hi hu).2.1.1
    refine ⟨h2, ?_, A2, ?_, F1.tr F2⟩
    · rw [fX3_takeBytes_2]
      simp (disch := omega) only [leN, show ¬ n ≤ p by omega, ↓reduceIte, ↓uAN, hk, show ¬ 2000 ≤ p by omega, ↓uAL, show p < 2000 by omega, and_self, hg p (by omega), ↓uCV, k1, nI_add, Nat.reduceAdd]
      rw [e1, g1]
      exact g2
    · rw [tadd_eq hw, tcat_cons] at C2
      rw [sl_cons]
      exact C2
def txF (T : TS) (kd : Nat → List Nat) (i : Nat) (tp : Nat → Int32) (n : Nat) : TS := if n = 0 then rmL kd i (kd i) T else match grw (rmL kd i (kd i) T) i with
  | none => rmL kd i (kd i) T
  | some k => uTxt (gwT (rmL kd i (kd i) T) i 17 [] k) k (tcat [] (sl (fun k => tbv (tp k)) 0 n))
def txR (T : TS) (n : Nat) (v : Int32) : Option Nat := match eAt T v with
  | none => none
  | some i => if isEm (tTag T i) = true ∨ tDep T i = 20 ∨ (n ≠ 0 ∧ tCnt T = 120 ∧ tFk T i = none) then none else some i
def txV (T : TS) (kd : Nat → List Nat) (tp : Nat → Int32) (n : Nat) (v : Int32) : Int32 := match badA tp n 0 with
  | some k => (-1000) - nI k
  | none => match txR T n v with
    | none => -1
    | some i => nI (tCnt (txF T kd i tp n))
def txT (T : TS) (kd : Nat → List Nat) (tp : Nat → Int32) (n : Nat) (v : Int32) : TS := match badA tp n 0 with
  | some _ => T
  | none => match txR T n v with
    | none => T
    | some i => txF T kd i tp n
theorem tx_grw {T : TS} {kd : Nat → List Nat} {i : Nat} (w : Wf T kd) (hS : SizT T) (hu : tIs T i = true) (hd : tDep T i < 20) (hf : ¬ (tCnt T = 120 ∧ tFk T i = none)) : ∃ k, grw (rmL kd i (kd i) T) i = some k := by
  obtain ⟨⟨kd', w', hk'⟩, r2, r3, r4, r5, r6, r7⟩ := rmL_ok (kd0 := kd) (kd i) T kd w hS hu rfl (fun _ _ => rfl)
  unfold grw
  rw [r7.2.2.2.2.2.1, if_pos hd]
  cases hl : lfA (rmL kd i (kd i) T) 120 0 with
  | some k => exact ⟨k, rfl⟩
  | none =>
    exfalso
    have h1 := lfA_none _ _ hl
    have h2 := cnU_all (tIs (rmL kd i (kd i) T)) 120 (fun j hj => h1 j (by omega) (by omega))
    rw [← w'.2.2.2.2.2.2.2.2, r5] at h2
    have h3 : tCnt T ≤ 120 := by rw [w.2.2.2.2.2.2.2.2]; exact cnU_le _ _
    have h4 : ((kd i).flatMap (pre kd 20)).length = 0 := by omega
    have h5 : kd i = [] := by
      cases he : kd i with
      | nil => rfl
      | cons x l =>
        rw [he, List.flatMap_cons, List.length_append] at h4
        have := List.length_pos_of_mem (pre_self kd 20 x)
        omega
    have h6 := w.lk hu
    rw [h5] at h6
    exact hf ⟨by omega, h6.1⟩
theorem cls_text84 {h : AH} {bs s0 n i : Nat} {sg : Nat → Nat} {ad : Nat → Nat → Nat → Nat} {T : TS} {kd : Nat → List Nat} {tp : Nat → Int32} (hA : AdOk h bs s0 sg ad) (hcb : CB h (sg 0) (sg 1) (sg 3) (sg 5) (sg 8) (sg 10)) (hTp : TapeC h (sg 1) (sg 2) n tp) (hb : ∀ i, i < n → isB (tp i)) (hok : ∀ k, k < n → okb (tbv (tp k)) = true) (hT : ClsT h ad (sg 8) (sg 9) T) (w : Wf T kd) (hS : SizT T) (hu : tIs T i = true) (hd : tDep T i < 20) (hf : n = 0 ∨ ¬ (tCnt T = 120 ∧ tFk T i = none)) :
    ∃ h' ad', fX8_replaceByText_84 (some (sg 0)) (some (ad 1 i 0)) h = some (nI (tCnt (txF T kd i tp n)), h') ∧ AdOk h' bs s0 sg ad' ∧ ClsT h' ad' (sg 8) (sg 9) (txF T kd i tp n) ∧ FrTB sg h ad h' ad' := by
  obtain ⟨h1, g1, A1, C1, F1⟩ := cls_dropAll hA hT w hS hu
  obtain ⟨⟨kd', w', hk'⟩, r2, r3, r4, r5, r6, r7⟩ := rmL_ok (kd0 := kd) (kd i) T kd w hS hu rfl (fun _ _ => rfl)
  have hn := hTp.2.2.2.2.1
  have D1 := F1.cb A1 hcb
  have P1 := F1.tape A1 hTp
  simp only [fX8_replaceByText_84, fX8_replaceByText_139]
  simp only [↓uGI, ↓uGL, ↓uGR, ↓uPI, ↓uPL, ↓uPR, ↓uAL, ↓uQL, ↓uAS, ↓uQS, ↓uAN, ↓uCV, ↓oCL, ↓oNO, ↓uNA, ↓oNN, ↓oZ0, ↓oZ1, gI_pI, gI_pL, gI_pR, gI_pA, gI_pQ, gL_pI, gL_pL, gL_pR, gL_pA, gL_pQ, gR_pI, gR_pL, gR_pR, gR_pA, gR_pQ, gA_pI, gA_pL, gA_pR, gA_pA, gA_pQ, gQ_pI, gQ_pL, gQ_pR, gQ_pA, gQ_pQ, gK_pI, gK_pL, gK_pR, gK_pA, gK_pQ, gN_pI, gN_pL, gN_pR, gN_pA, gN_pQ, gS_pI, gS_pL, gS_pR, gS_pA, gS_pQ, gI_mk, gL_mk, gR_mk, gA_mk, gQ_mk, gK_mk, gN_mk, gS_mk, vn0, vn1, lt0, leN, ltN, eqN, eqM1, M1eq, le0n, eq0n, nI_add, nI_mul, ↓reduceIte, Nat.reduceAdd, Nat.reduceMul, Nat.reduceEqDiff, Nat.reduceLT, Nat.reduceLeDiff, and_true, true_and, and_false, false_and, and_self, reduceCtorEq, not_true_eq_false, not_false_eq_true, hcb.1, hcb.2.2.2.2.1, hT.1, g1, D1.1, D1.2.1, D1.2.2.2.2.1, P1.1, P1.2.2.2.1]
  unfold txF
  by_cases hn0 : n = 0
  · subst hn0
    refine ⟨h1, ad, ?_, A1, ?_, F1⟩
    · simp (disch := omega) only [↓uGI, ↓uGL, ↓uGR, ↓uPI, ↓uPL, ↓uPR, ↓uAL, ↓uQL, ↓uAS, ↓uQS, ↓uAN, ↓uCV, ↓oCL, ↓oNO, ↓uNA, ↓oNN, ↓oZ0, ↓oZ1, gI_pI, gI_pL, gI_pR, gI_pA, gI_pQ, gL_pI, gL_pL, gL_pR, gL_pA, gL_pQ, gR_pI, gR_pL, gR_pR, gR_pA, gR_pQ, gA_pI, gA_pL, gA_pR, gA_pA, gA_pQ, gQ_pI, gQ_pL, gQ_pR, gQ_pA, gQ_pQ, gK_pI, gK_pL, gK_pR, gK_pA, gK_pQ, gN_pI, gN_pL, gN_pR, gN_pA, gN_pQ, gS_pI, gS_pL, gS_pR, gS_pA, gS_pQ, gI_mk, gL_mk, gR_mk, gA_mk, gQ_mk, gK_mk, gN_mk, gS_mk, vn0, vn1, lt0, leN, ltN, eqN, eqM1, M1eq, le0n, eq0n, nI_add, nI_mul, ↓reduceIte, Nat.reduceAdd, Nat.reduceMul, Nat.reduceEqDiff, Nat.reduceLT, Nat.reduceLeDiff, and_true, true_and, and_false, false_and, and_self, reduceCtorEq, not_true_eq_false, not_false_eq_true, D1.1, D1.2.2.2.2.1, C1.1, C1.2.2.2.2.1]
    · simp only [↓reduceIte]; exact C1
  · obtain ⟨k, hg⟩ := tx_grw w hS hu hd (by rcases hf with z | z; · exact absurd z hn0
                                            · exact z)
    obtain ⟨hd1, hk, hku⟩ := grw_some hg
    obtain ⟨h2, ad2, g2, A2, C2, F2⟩ := cls_grow (tag := 17) (nm := []) A1 C1 r2 w'.1 r3 (by omega) (by simp) (fun c hc => by cases hc) hg
    rw [show lN (pack ([] : List Nat)) = 0 from rfl] at g2
    have hik : i ≠ k := fun z => by rw [← z, r3] at hku; cases hku
    have hln : tLk (rmL kd i (kd i) T) i ≠ some k := fun z => by
      have := w'.links r3 (Or.inr (Or.inr (Or.inl z)))
      rw [hku] at this; cases this
    have V := gw_vals (T := rmL kd i (kd i) T) (tag := 17) (nm := []) hik hln k
    have isk : tIs (gwT (rmL kd i (kd i) T) i 17 [] k) k = true := by rw [V.1, if_pos rfl]
    have tgk : tTag (gwT (rmL kd i (kd i) T) i 17 [] k) k = 17 := by rw [V.2.1, if_pos rfl]
    have txk : tTxt (gwT (rmL kd i (kd i) T) i 17 [] k) k = [] := by rw [V.2.2.2.2.2.2.2.2.2.2.1, if_pos rfl]
    have D2 := F2.cb A2 D1
    have P2 := F2.tape A2 P1
    have kk := (C2.nd hk isk).2.1.1
    have e0 : uTxt (gwT (rmL kd i (kd i) T) i 17 [] k) k [] = gwT (rmL kd i (kd i) T) i 17 [] k := by
      have := uTxt_id (gwT (rmL kd i (kd i) T) i 17 [] k) k
      rw [txk] at this
      exact this
    obtain ⟨h3, g3, A3, C3, F3⟩ := cls_takeBytes_L hk isk tgk hb hok hn n FU 0 h2 [] (by omega) (by have := FU_ge; omega) A2 (by rw [e0]; exact C2) (by simp) P2.2.2.1 P2.2.2.2.2.2
    have D3 := F3.cb A3 D2
    refine ⟨h3, ad2, ?_, A3, ?_, F1.tr (F2.tr F3)⟩
    · simp (disch := omega) only [le0n, hn0, hg, ↓reduceIte, ↓uCV, ↓oCL, C1.1, g2, some_ne, ↓uGR, ↓uGI, D2.1, D2.2.1, P2.1, P2.2.1, P2.2.2.2.1, kk, Nat.reduceAdd, fX3_takeBytes, fX3_takeBytes_0, g3, D3.1, D3.2.2.2.2.1, C3.1, C3.2.2.2.2.1]
    · simp only [hn0, hg, ↓reduceIte]; exact C3
theorem cls_text {h : AH} {bs s0 n : Nat} {sg : Nat → Nat} {ad : Nat → Nat → Nat → Nat} {T : TS} {kd : Nat → List Nat} {tp : Nat → Int32} {ol : List Int32} {fl : FL} (hA : AdOk h bs s0 sg ad) (hC : Cls h sg ad T n tp ol fl) (hb : ∀ i, i < n → isB (tp i)) (w : Wf T kd) (hS : SizT T) (v : Int32) :
    ∃ h' ad', fX8_text (some (sg 0)) v h = some (txV T kd tp n v, h') ∧ AdOk h' bs s0 sg ad' ∧ ClsT h' ad' (sg 8) (sg 9) (txT T kd tp n v) ∧ TapeC h' (sg 1) (sg 2) 0 tp ∧ FrTA sg h ad h' ad' := by
  obtain ⟨hcb, hTp, hO, hF, hT, hP, hB120⟩ := id hC
  obtain ⟨c1, c4, c3, -, c2, -⟩ := id hcb
  have k1 := hT.1
  have hn := hTp.2.2.2.2.1
  have base : AdOk (pI h 301 (sg 1) (nI 0)) bs s0 sg ad ∧ ClsT (pI h 301 (sg 1) (nI 0)) ad (sg 8) (sg 9) T ∧ TapeC (pI h 301 (sg 1) (nI 0)) (sg 1) (sg 2) 0 tp ∧ FrTA sg h ad (pI h 301 (sg 1) (nI 0)) ad := ⟨hA.eq rfl rfl rfl, hT.tape0, hTp.clear, FrTA.rf.tape0⟩
  simp only [fX8_text, fX8_text_0, fX8_replaceByText, fX8_replaceByText_0, fX8_replaceByText_51]
  simp only [↓uGI, ↓uGL, ↓uGR, ↓uPI, ↓uPL, ↓uPR, ↓uAL, ↓uQL, ↓uAS, ↓uQS, ↓uAN, ↓uCV, ↓oCL, ↓oNO, ↓uNA, ↓oNN, ↓oZ0, ↓oZ1, gI_pI, gI_pL, gI_pR, gI_pA, gI_pQ, gL_pI, gL_pL, gL_pR, gL_pA, gL_pQ, gR_pI, gR_pL, gR_pR, gR_pA, gR_pQ, gA_pI, gA_pL, gA_pR, gA_pA, gA_pQ, gQ_pI, gQ_pL, gQ_pR, gQ_pA, gQ_pQ, gK_pI, gK_pL, gK_pR, gK_pA, gK_pQ, gN_pI, gN_pL, gN_pR, gN_pA, gN_pQ, gS_pI, gS_pL, gS_pR, gS_pA, gS_pQ, gI_mk, gL_mk, gR_mk, gA_mk, gQ_mk, gK_mk, gN_mk, gS_mk, vn0, vn1, lt0, leN, ltN, eqN, eqM1, M1eq, le0n, eq0n, nI_add, nI_mul, ↓reduceIte, Nat.reduceAdd, Nat.reduceMul, Nat.reduceEqDiff, Nat.reduceLT, Nat.reduceLeDiff, and_true, true_and, and_false, false_and, and_self, reduceCtorEq, not_true_eq_false, not_false_eq_true, c1, c2, c4, k1, hTp.1, cls_bad hTp, cls_elementAt hT hS]
  unfold txV txT
  cases hw : badA tp n 0 with
  | some k =>
    have := badA_some _ _ _ hw
    exact ⟨_, ad, by simp (disch := omega) only [oI_s, ↓uGI, ↓uGL, ↓uGR, ↓uPI, ↓uPL, ↓uPR, ↓uAL, ↓uQL, ↓uAS, ↓uQS, ↓uAN, ↓uCV, ↓oCL, ↓oNO, ↓uNA, ↓oNN, ↓oZ0, ↓oZ1, gI_pI, gI_pL, gI_pR, gI_pA, gI_pQ, gL_pI, gL_pL, gL_pR, gL_pA, gL_pQ, gR_pI, gR_pL, gR_pR, gR_pA, gR_pQ, gA_pI, gA_pL, gA_pR, gA_pA, gA_pQ, gQ_pI, gQ_pL, gQ_pR, gQ_pA, gQ_pQ, gK_pI, gK_pL, gK_pR, gK_pA, gK_pQ, gN_pI, gN_pL, gN_pR, gN_pA, gN_pQ, gS_pI, gS_pL, gS_pR, gS_pA, gS_pQ, gI_mk, gL_mk, gR_mk, gA_mk, gQ_mk, gK_mk, gN_mk, gS_mk, vn0, vn1, lt0, leN, ltN, eqN, eqM1, M1eq, le0n, eq0n, nI_add, nI_mul, ↓reduceIte, Nat.reduceAdd, Nat.reduceMul, Nat.reduceEqDiff, Nat.reduceLT, Nat.reduceLeDiff, and_true, true_and, and_false, false_and, and_self, reduceCtorEq, not_true_eq_false, not_false_eq_true, c1, c4, hTp.1], base⟩
  | none =>
    have hok : ∀ k, k < n → okb (tbv (tp k)) = true := fun k hk => badA_none _ _ hw k (by omega) (by omega)
    simp only [oI_n, ↓reduceIte, txR]
    cases he : eAt T v with
    | none => exact ⟨_, ad, by simp only [oN_n, ↓uGI, ↓uGL, ↓uGR, ↓uPI, ↓uPL, ↓uPR, ↓uAL, ↓uQL, ↓uAS, ↓uQS, ↓uAN, ↓uCV, ↓oCL, ↓oNO, ↓uNA, ↓oNN, ↓oZ0, ↓oZ1, gI_pI, gI_pL, gI_pR, gI_pA, gI_pQ, gL_pI, gL_pL, gL_pR, gL_pA, gL_pQ, gR_pI, gR_pL, gR_pR, gR_pA, gR_pQ, gA_pI, gA_pL, gA_pR, gA_pA, gA_pQ, gQ_pI, gQ_pL, gQ_pR, gQ_pA, gQ_pQ, gK_pI, gK_pL, gK_pR, gK_pA, gK_pQ, gN_pI, gN_pL, gN_pR, gN_pA, gN_pQ, gS_pI, gS_pL, gS_pR, gS_pA, gS_pQ, gI_mk, gL_mk, gR_mk, gA_mk, gQ_mk, gK_mk, gN_mk, gS_mk, vn0, vn1, lt0, leN, ltN, eqN, eqM1, M1eq, le0n, eq0n, nI_add, nI_mul, ↓reduceIte, Nat.reduceAdd, Nat.reduceMul, Nat.reduceEqDiff, Nat.reduceLT, Nat.reduceLeDiff, and_true, true_and, and_false, false_and, and_self, reduceCtorEq, not_true_eq_false, not_false_eq_true, c1, c4, hTp.1], base⟩
    | some i =>
      obtain ⟨hi, hu, ht17, rfl⟩ := eAt_some he
      obtain ⟨-, ⟨b1, -⟩, v1, -, v3, -, -, -, v7, -⟩ := hT.nd hi hu
      have s1 := (hS.2 i hu).1
      have s9 := (hS.2 i hu).2.2.2.2.2.2.2.2.1
      have hcn : tCnt T ≤ 120 := by rw [w.2.2.2.2.2.2.2.2]; exact cnU_le _ _
      simp only [oN_s, some_ne, ↓reduceIte]
      simp (disch := omega) only [↓uGI, b1, v1, ↓reduceIte, cls_isEm, ↓oCL, bI0]
      by_cases hcond : isEm (tTag T i) = true ∨ tDep T i = 20 ∨ (n ≠ 0 ∧ tCnt T = 120 ∧ tFk T i = none)
      · refine ⟨pI h 301 (sg 1) (nI 0), ad, ?_, by simp only [hcond, ↓reduceIte]; exact base⟩
        simp only [if_pos hcond]
        cases hem : isEm (tTag T i) with
        | true => simp only [Bool.true_eq_false, ↓reduceIte, ↓oCL, ↓uGR, ↓uPI, c1, c4, hTp.1, Nat.reduceAdd]
        | false =>
          simp (disch := omega) only [↓reduceIte, b1, v3, ltN]
          by_cases hd : tDep T i < 20
          · rcases hcond with z | z | ⟨z1, z2, z3⟩
            · rw [hem] at z; cases z
            · omega
            · simp (disch := omega) only [hd, ↓reduceIte, ↓uGR, ↓uGI, c1, c4, hTp.1, hTp.2.2.2.1, le0n, z1, b1, v7, z3, oN_n, c2, k1, hT.2.2.2.2.1, ltN, show ¬ tCnt T < 120 by omega, ↓oCL, ↓uPI, Nat.reduceAdd]
          · simp only [hd, ↓reduceIte, ↓oCL, ↓uGR, ↓uPI, c1, c4, hTp.1, Nat.reduceAdd]
      · have hem : isEm (tTag T i) = false := by
          cases hem : isEm (tTag T i) with
          | true => exact absurd (Or.inl hem) hcond
          | false => rfl
        have hd : tDep T i < 20 := by
          have : ¬ tDep T i = 20 := fun z => hcond (Or.inr (Or.inl z))
          omega
        have hf : n = 0 ∨ ¬ (tCnt T = 120 ∧ tFk T i = none) := by
          by_cases z : n = 0
          · exact Or.inl z
          · exact Or.inr (fun y => hcond (Or.inr (Or.inr ⟨z, y⟩)))
        obtain ⟨h1, ad1, g1, A1, C1, F1⟩ := cls_text84 hA hcb hTp hb hok hT w hS hu hd hf
        have D1 := F1.cb A1 hcb
        have P1 := F1.tape A1 hTp
        refine ⟨pI h1 301 (sg 1) (nI 0), ad1, ?_, A1.eq rfl rfl rfl, by simp only [if_neg hcond]; exact C1.tape0, P1.clear, F1.a.tape0⟩
        simp only [if_neg hcond]
        simp (disch := omega) only [hem, ↓reduceIte, ↓uGI, b1, v3, ltN, hd]
        simp (disch := omega) only [↓uGR, ↓uGI, c1, c4, hTp.1, hTp.2.2.2.1, ↓reduceIte, le0n, g1, b1, v7, Nat.reduceAdd]
        by_cases z : n = 0
        · simp only [z, ↓reduceIte, ↓oCL, ↓uGR, ↓uPI, D1.1, D1.2.1, P1.1, Nat.reduceAdd]
        · simp only [z, ↓reduceIte]
          cases hfk : tFk T i with
          | some x => simp only [oN_s, some_ne, ↓reduceIte, ↓oCL, ↓uGR, ↓uPI, D1.1, D1.2.1, P1.1, Nat.reduceAdd]
          | none =>
            have : tCnt T < 120 := by
              have : ¬ tCnt T = 120 := fun y => by rcases hf with q | q; · exact z q
                                                   · exact q ⟨y, hfk⟩
              omega
            simp (disch := omega) only [oN_n, c2, k1, hT.2.2.2.2.1, ltN, this, ↓reduceIte, ↓oCL, ↓uGI, ↓uGR, ↓uPI, c1, D1.1, D1.2.1, P1.1, Nat.reduceAdd]

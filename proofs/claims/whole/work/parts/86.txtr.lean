/-! text(n): the reference -/
theorem RefN.txt {h h' : AH} {ra : Nat → Nat} {T : TS} {i : Nat} {l : List Nat} (q : RefN h ra T i) (hu : tIs T i = true) (e : ∀ k j, 6 ≤ k → k ≤ 23 → k ≠ 21 → k ≠ 22 → gA h' (ra k) j = gA h (ra k) j) (h22 : gA h' (ra 22) i = nI l.length) (h21 : ∀ k, k < l.length → gA h' (ra 21) (400 * i + k) = nI (l.getD k 0)) : RefN h' ra (uTxt T i l) i := by
  obtain ⟨q0, q1⟩ := q
  obtain ⟨w1, w2, w3, w4, w5, w6, w7, w8, w9, w10, w11, w12, w13, w14⟩ := q1 hu
  unfold RefN
  simp only [tIs_uIs, tIs_uTag, tIs_uNam, tIs_uPar, tIs_uFk, tIs_uLk, tIs_uNx, tIs_uBf, tIs_uDep, tIs_uAtt, tIs_uTxt, tIs_uLng, tIs_uCnt, tTag_uIs, tTag_uTag, tTag_uNam, tTag_uPar, tTag_uFk, tTag_uLk, tTag_uNx, tTag_uBf, tTag_uDep, tTag_uAtt, tTag_uTxt, tTag_uLng, tTag_uCnt, tNam_uIs, tNam_uTag, tNam_uNam, tNam_uPar, tNam_uFk, tNam_uLk, tNam_uNx, tNam_uBf, tNam_uDep, tNam_uAtt, tNam_uTxt, tNam_uLng, tNam_uCnt, tPar_uIs, tPar_uTag, tPar_uNam, tPar_uPar, tPar_uFk, tPar_uLk, tPar_uNx, tPar_uBf, tPar_uDep, tPar_uAtt, tPar_uTxt, tPar_uLng, tPar_uCnt, tFk_uIs, tFk_uTag, tFk_uNam, tFk_uPar, tFk_uFk, tFk_uLk, tFk_uNx, tFk_uBf, tFk_uDep, tFk_uAtt, tFk_uTxt, tFk_uLng, tFk_uCnt, tLk_uIs, tLk_uTag, tLk_uNam, tLk_uPar, tLk_uFk, tLk_uLk, tLk_uNx, tLk_uBf, tLk_uDep, tLk_uAtt, tLk_uTxt, tLk_uLng, tLk_uCnt, tNx_uIs, tNx_uTag, tNx_uNam, tNx_uPar, tNx_uFk, tNx_uLk, tNx_uNx, tNx_uBf, tNx_uDep, tNx_uAtt, tNx_uTxt, tNx_uLng, tNx_uCnt, tBf_uIs, tBf_uTag, tBf_uNam, tBf_uPar, tBf_uFk, tBf_uLk, tBf_uNx, tBf_uBf, tBf_uDep, tBf_uAtt, tBf_uTxt, tBf_uLng, tBf_uCnt, tDep_uIs, tDep_uTag, tDep_uNam, tDep_uPar, tDep_uFk, tDep_uLk, tDep_uNx, tDep_uBf, tDep_uDep, tDep_uAtt, tDep_uTxt, tDep_uLng, tDep_uCnt, tAtt_uIs, tAtt_uTag, tAtt_uNam, tAtt_uPar, tAtt_uFk, tAtt_uLk, tAtt_uNx, tAtt_uBf, tAtt_uDep, tAtt_uAtt, tAtt_uTxt, tAtt_uLng, tAtt_uCnt, tTxt_uIs, tTxt_uTag, tTxt_uNam, tTxt_uPar, tTxt_uFk, tTxt_uLk, tTxt_uNx, tTxt_uBf, tTxt_uDep, tTxt_uAtt, tTxt_uTxt, tTxt_uLng, tTxt_uCnt, tLng_uIs, tLng_uTag, tLng_uNam, tLng_uPar, tLng_uFk, tLng_uLk, tLng_uNx, tLng_uBf, tLng_uDep, tLng_uAtt, tLng_uTxt, tLng_uLng, tLng_uCnt, tCnt_uIs, tCnt_uTag, tCnt_uNam, tCnt_uPar, tCnt_uFk, tCnt_uLk, tCnt_uNx, tCnt_uBf, tCnt_uDep, tCnt_uAtt, tCnt_uTxt, tCnt_uLng, tCnt_uCnt, ↓reduceIte]
  simp only [e 6 _ (by omega) (by omega) (by omega) (by omega), e 7 _ (by omega) (by omega) (by omega) (by omega), e 8 _ (by omega) (by omega) (by omega) (by omega), e 9 _ (by omega) (by omega) (by omega) (by omega), e 10 _ (by omega) (by omega) (by omega) (by omega), e 11 _ (by omega) (by omega) (by omega) (by omega), e 12 _ (by omega) (by omega) (by omega) (by omega), e 13 _ (by omega) (by omega) (by omega) (by omega), e 14 _ (by omega) (by omega) (by omega) (by omega), e 15 _ (by omega) (by omega) (by omega) (by omega), e 16 _ (by omega) (by omega) (by omega) (by omega), e 17 _ (by omega) (by omega) (by omega) (by omega), e 18 _ (by omega) (by omega) (by omega) (by omega), e 19 _ (by omega) (by omega) (by omega) (by omega), e 20 _ (by omega) (by omega) (by omega) (by omega), e 23 _ (by omega) (by omega) (by omega) (by omega)]
  exact ⟨q0, fun _ => ⟨w1, w2, w3, w4, w5, w6, w7, w8, w9, w10, w11, h22, h21, w14⟩⟩
theorem RefT.txt {h h' : AH} {m i : Nat} {ra : Nat → Nat} {T : TS} {l : List Nat} (q : RefT h m ra T) (hSz : Sz0T T) (hi : i < 120) (hu : tIs T i = true) (h475 : gI h' 475 m = gI h 475 m) (e : ∀ k j, 6 ≤ k → k ≤ 23 → k ≠ 21 → k ≠ 22 → gA h' (ra k) j = gA h (ra k) j) (e2 : ∀ k j, k = 21 ∨ k = 22 → own k j ≠ i → gA h' (ra k) j = gA h (ra k) j) (h22 : gA h' (ra 22) i = nI l.length) (h21 : ∀ k, k < l.length → gA h' (ra 21) (400 * i + k) = nI (l.getD k 0)) : RefT h' m ra (uTxt T i l) := by
  refine q.up1 (i := i) hSz (fun j hj k p a b c => ?_) (fun j _ => rfl) (fun j hj _ => ⟨rfl, rfl, rfl, rfl, rfl, rfl, rfl, rfl, rfl, by rw [tTxt_uTxt, if_neg hj], rfl⟩) (by rw [h475]; exact q.1) (fun _ => (q.2 i hi).txt hu e h22 h21)
  by_cases z : k = 21 ∨ k = 22
  · exact e2 k p z (by rw [c]; exact hj)
  · exact e k p a b (by omega) (by omega)
theorem ref_text75 {m i : Nat} {ra : Nat → Nat} {kd0 : Nat → List Nat} : ∀ (l : List Nat) (f : Nat) (h : AH) (T : TS) (kd : Nat → List Nat), l.length < f → RB h m ra → RefT h m ra T → Wf T kd → SizT T → tIs T i = true → kd i = l → (∀ y, y ≠ i → kd y = kd0 y) →
    ∃ h1, fX9_text_75 f (some m) (nI i) h = fX9_text_98 (some m) (nI i) h1 ∧ RefT h1 m ra (rmL kd0 i l T) ∧ FrRm m ra h h1 := by
  intro l
  induction l with
  | nil =>
    intro f h T kd hf hB hR w hS hu hk _
    obtain ⟨f, rfl⟩ : ∃ g, f = g + 1 := ⟨f - 1, by simp at hf; omega⟩
    have hi := hS.lt hu
    have hlk := w.lk hu
    rw [hk] at hlk
    obtain ⟨-, -, -, -, w5, -⟩ := (hR.2 i hi).2 hu
    rw [hlk.1] at w5
    refine ⟨h, ?_, hR, Fr.rf⟩
    rw [fX9_text_75]
    simp (disch := omega) only [↓uGR, ↓uAL, hB.o, hB.r11, hB.k11, hi, w5, oI_n, ↓reduceIte, and_self, Nat.reduceAdd]
  | cons x l ih =>
    intro f h T kd hf hB hR w hS hu hk hk0
    simp only [List.length_cons] at hf
    obtain ⟨f, rfl⟩ : ∃ g, f = g + 1 := ⟨f - 1, by omega⟩
    have hi := hS.lt hu
    have hlk := w.lk hu
    rw [hk] at hlk
    obtain ⟨-, -, -, -, w5, -⟩ := (hR.2 i hi).2 hu
    rw [hlk.1] at w5
    have hx : x ∈ kd i := by rw [hk]; exact List.mem_cons_self
    obtain ⟨ux, px, dx⟩ := w.kid hu hx
    have xl := hS.lt ux
    have pm := pre_mem w 20 x ux
    have ip : i ∉ pre kd 20 x := fun z => by have := (pm i z).2.1; omega
    have pe : pre kd0 20 x = pre kd 20 x := pre_congr 20 x (fun y hy => (hk0 y (fun z => ip (by rw [← z]; exact hy))).symm)
    have w1 := w.removeAt hS ux px (a := []) (b := l) hk
    have S1 := hS.remove (kd := kd) w1
    obtain ⟨o1, o2, o3⟩ := off_vals (pre kd 20 x) (unT T i x)
    have U := un_vals T i x
    have hu1 : tIs (rmT T i x (pre kd 20 x)) i = true := by
      show tIs (offT _ _) i = _
      rw [o1, (U i).2.2.2.2.1, if_neg ip]
      exact hu
    obtain ⟨h1, g1, R1, F1⟩ := ref_remove0 hB hR w hS ux px
    obtain ⟨h2, g2, R2, F2⟩ := ih f h1 (rmT T i x (pre kd 20 x)) (up kd i ([] ++ l)) (by omega) (F1.RB hB) R1 w1 S1 hu1 (up_s _ _ _) (fun y hy => by rw [up_n _ _ hy]; exact hk0 y hy)
    refine ⟨h2, ?_, ?_, F1.tr F2⟩
    · rw [fX9_text_75]
      simp (disch := omega) only [↓uGR, ↓uAL, ↓uCV, ↓oCL, hB.o, hB.r11, hB.k11, hi, w5, oI_s, eqM1, g1, ↓reduceIte, and_self, Nat.reduceAdd]
      exact g2
    · show RefT h2 m ra (rmL kd0 i l (rmT T i x (pre kd0 20 x)))
      rw [pe]
      exact R2
theorem ref_text138 {m k cnt n : Nat} {ra : Nat → Nat} {tx : Nat → Nat} (hk : k < 120) (hc : cnt ≤ 400) (hcn : cnt ≤ n) (hn : n ≤ 2000) (hlo : ∀ q, q < n → tx q < 128) : ∀ (j f p : Nat) (h : AH), p + j = cnt → j < f → RB h m ra → gA h (ra 22) k = nI cnt → (∀ q, q < n → gA h (ra 2) q = nI (tx q)) → fX9_text_138 f (some m) (nI k) (nI p) h = fX9_text_175 (some m) (wrA h (ra 21) (400 * k + p) (sl tx p j)) := by
  intro j
  induction j with
  | zero =>
    intro f p h hpk hkf hB h22 h2
    obtain ⟨f, rfl⟩ : ∃ g, f = g + 1 := ⟨f - 1, by omega⟩
    rw [fX9_text_138]
    simp (disch := omega) only [↓uGI, ↓uGL, ↓uGR, ↓uPI, ↓uPL, ↓uPR, ↓uAL, ↓uQL, ↓uAS, ↓uQS, ↓uAN, ↓uCV, ↓oCL, ↓oNO, ↓uNA, ↓oNN, ↓oZ0, ↓oZ1, gI_pI, gI_pL, gI_pR, gI_pA, gI_pQ, gL_pI, gL_pL, gL_pR, gL_pA, gL_pQ, gR_pI, gR_pL, gR_pR, gR_pA, gR_pQ, gA_pI, gA_pL, gA_pR, gA_pA, gA_pQ, gQ_pI, gQ_pL, gQ_pR, gQ_pA, gQ_pQ, gK_pI, gK_pL, gK_pR, gK_pA, gK_pQ, gN_pI, gN_pL, gN_pR, gN_pA, gN_pQ, gS_pI, gS_pL, gS_pR, gS_pA, gS_pQ, gI_mk, gL_mk, gR_mk, gA_mk, gQ_mk, gK_mk, gN_mk, gS_mk, vn0, vn1, lt0, leN, ltN, eqN, eqM1, M1eq, le0n, eq0n, nI_add, nI_mul, ↓reduceIte, Nat.reduceAdd, Nat.reduceMul, Nat.reduceEqDiff, Nat.reduceLT, Nat.reduceLeDiff, and_true, true_and, and_false, false_and, and_self, reduceCtorEq, not_true_eq_false, not_false_eq_true, hB.o, hB.r22, hB.k22, hk, h22, show cnt ≤ p by omega]
    rfl
  | succ j ih =>
    intro f p h hpk hkf hB h22 h2
    obtain ⟨f, rfl⟩ : ∃ g, f = g + 1 := ⟨f - 1, by omega⟩
    have hne : ra 2 ≠ ra 21 := fun q => by rw [hB.i] at q; omega
    have hne2 : ra 22 ≠ ra 21 := fun q => by rw [hB.i] at q; omega
    rw [fX9_text_138]
    simp (disch := omega) only [↓uGI, ↓uGL, ↓uGR, ↓uPI, ↓uPL, ↓uPR, ↓uAL, ↓uQL, ↓uAS, ↓uQS, ↓uAN, ↓uCV, ↓oCL, ↓oNO, ↓uNA, ↓oNN, ↓oZ0, ↓oZ1, gI_pI, gI_pL, gI_pR, gI_pA, gI_pQ, gL_pI, gL_pL, gL_pR, gL_pA, gL_pQ, gR_pI, gR_pL, gR_pR, gR_pA, gR_pQ, gA_pI, gA_pL, gA_pR, gA_pA, gA_pQ, gQ_pI, gQ_pL, gQ_pR, gQ_pA, gQ_pQ, gK_pI, gK_pL, gK_pR, gK_pA, gK_pQ, gN_pI, gN_pL, gN_pR, gN_pA, gN_pQ, gS_pI, gS_pL, gS_pR, gS_pA, gS_pQ, gI_mk, gL_mk, gR_mk, gA_mk, gQ_mk, gK_mk, gN_mk, gS_mk, vn0, vn1, lt0, leN, ltN, eqN, eqM1, M1eq, le0n, eq0n, nI_add, nI_mul, ↓reduceIte, Nat.reduceAdd, Nat.reduceMul, Nat.reduceEqDiff, Nat.reduceLT, Nat.reduceLeDiff, and_true, true_and, and_false, false_and, and_self, reduceCtorEq, not_true_eq_false, not_false_eq_true, hB.o, hB.r22, hB.k22, hB.r21, hB.k21, hB.r2, hB.k2, hk, h22, show ¬ cnt ≤ p by omega, show p < 2000 by omega, show 400 * k + p < 48000 by omega, h2 p (by omega), nI_b (hlo p (by omega))]
    rw [ih f (p + 1) (pA h (ra 21) (400 * k + p) (nI (tx p))) (by omega) (by omega) hB (by rw [gA_pA, if_neg (fun z => hne2 z.1)]; exact h22) (fun q hq => by rw [gA_pA, if_neg (fun z => hne z.1)]; exact h2 q hq), sl_cons]
    rfl
theorem sl_take400 (tx : Nat → Nat) (a c : Nat) : tcat [] (sl tx a c) = sl tx a (min c 400) := by
  unfold tcat sl
  rw [List.nil_append, ← List.map_take, List.take_range, Nat.min_comm]
theorem ref_text98 {h : AH} {m n i : Nat} {ra : Nat → Nat} {T : TS} {kd : Nat → List Nat} {tp : Nat → Int32} (hB : RB h m ra) (hX : TxR h m ra n tp) (hb : ∀ i, i < n → isB (tp i)) (hok : ∀ k, k < n → okb (tbv (tp k)) = true) (hR : RefT h m ra (rmL kd i (kd i) T)) (w : Wf T kd) (hS : SizT T) (hu : tIs T i = true) (hd : tDep T i < 20) (hf : n = 0 ∨ ¬ (tCnt T = 120 ∧ tFk T i = none)) :
    ∃ h1, fX9_text_98 (some m) (nI i) h = some (nI (tCnt (txF T kd i tp n)), h1) ∧ RefT h1 m ra (txF T kd i tp n) ∧ FrRm m ra h h1 := by
  obtain ⟨⟨kd', w', hk'⟩, r2, r3, r4, r5, r6, r7⟩ := rmL_ok (kd0 := kd) (kd i) T kd w hS hu rfl (fun _ _ => rfl)
  have hn := hX.2.1
  simp only [fX9_text_98]
  unfold txF
  by_cases hn0 : n = 0
  · subst hn0
    refine ⟨h, ?_, by simp only [↓reduceIte]; exact hR, Fr.rf⟩
    simp (disch := omega) only [↓uGI, ↓uGL, ↓uGR, ↓uPI, ↓uPL, ↓uPR, ↓uAL, ↓uQL, ↓uAS, ↓uQS, ↓uAN, ↓uCV, ↓oCL, ↓oNO, ↓uNA, ↓oNN, ↓oZ0, ↓oZ1, gI_pI, gI_pL, gI_pR, gI_pA, gI_pQ, gL_pI, gL_pL, gL_pR, gL_pA, gL_pQ, gR_pI, gR_pL, gR_pR, gR_pA, gR_pQ, gA_pI, gA_pL, gA_pR, gA_pA, gA_pQ, gQ_pI, gQ_pL, gQ_pR, gQ_pA, gQ_pQ, gK_pI, gK_pL, gK_pR, gK_pA, gK_pQ, gN_pI, gN_pL, gN_pR, gN_pA, gN_pQ, gS_pI, gS_pL, gS_pR, gS_pA, gS_pQ, gI_mk, gL_mk, gR_mk, gA_mk, gQ_mk, gK_mk, gN_mk, gS_mk, vn0, vn1, lt0, leN, ltN, eqN, eqM1, M1eq, le0n, eq0n, nI_add, nI_mul, ↓reduceIte, Nat.reduceAdd, Nat.reduceMul, Nat.reduceEqDiff, Nat.reduceLT, Nat.reduceLeDiff, and_true, true_and, and_false, false_and, and_self, reduceCtorEq, not_true_eq_false, not_false_eq_true, hB.o, hX.1, fX9_text_175, hR.1]
  · obtain ⟨k, hg⟩ := tx_grw w hS hu hd (by rcases hf with z | z; · exact absurd z hn0
                                            · exact z)
    obtain ⟨hd1, hk, hku⟩ := grw_some hg
    have hik : i ≠ k := fun z => by rw [← z, r3] at hku; cases hku
    have hln : tLk (rmL kd i (kd i) T) i ≠ some k := fun z => by
      have := w'.links r3 (Or.inr (Or.inr (Or.inl z)))
      rw [hku] at this; cases this
    have gF := ref_freshS hB hR r2 r3 hg
    have F2 := frK_fr (h := h) (ra := ra) (m := m) (q := i) (n := k) (c := tCnt (rmL kd i (kd i) T) + 1) (d := tDep (rmL kd i (kd i) T) i + 1) (v := nI i) (lk := tLk (rmL kd i (kd i) T) i)
    have c475 := frK_475 (h := h) (ra := ra) (m := m) (q := i) (n := k) (c := tCnt (rmL kd i (kd i) T) + 1) (d := tDep (rmL kd i (kd i) T) i + 1) (v := nI i) (lk := tLk (rmL kd i (kd i) T) i)
    have c9 : gA (frK (frH h ra m k (nI i) (tDep (rmL kd i (kd i) T) i + 1) (tCnt (rmL kd i (kd i) T) + 1)) ra i k (tLk (rmL kd i (kd i) T) i)) (ra 9) k = nI 0 := by
      unfold frK frH
      cases tLk (rmL kd i (kd i) T) i <;> simp only [gA_pA, hB.i, Nat.reduceEqDiff, false_and, and_self, ↓reduceIte]
    have cfr := RefT.fresh (h2 := pA (frK (frH h ra m k (nI i) (tDep (rmL kd i (kd i) T) i + 1) (tCnt (rmL kd i (kd i) T) + 1)) ra i k (tLk (rmL kd i (kd i) T) i)) (ra 7) k (nI 17)) (t := 17) (nm := []) hR hB.2.1 r2 r3 hg (by simp) (fun c j a b z => by
      rw [gA_pA, if_neg]
      rintro ⟨y1, y2⟩
      rw [hB.i] at y1
      subst y1
      exact z ⟨by omega, y2⟩) (by rw [gA_pA, if_pos ⟨rfl, rfl⟩]) (by
      rw [gA_pA, if_neg (fun z => by have := z.1; rw [hB.i] at this; omega)]
      exact c9) (fun q hq => by simp at hq) (by rw [gI_pA]; exact c475)
    generalize hXe : frK (frH h ra m k (nI i) (tDep (rmL kd i (kd i) T) i + 1) (tCnt (rmL kd i (kd i) T) + 1)) ra i k (tLk (rmL kd i (kd i) T) i) = X at *
    have BX : RB X m ra := F2.RB hB
    have X453 : gI X 453 m = nI n := by rw [F2.1 _ _ (by omega)]; exact hX.1
    have X2 : ∀ q, q < n → gA X (ra 2) q = nI (tbv (tp q)) := fun q hq => by
      rw [F2.2.2.2.1 _ _ (fun z => by obtain ⟨c, hc, e⟩ := z; rw [hB.i] at e; omega), hX.2.2 q hq, ← sx_lo _ (okb_lt (hok q hq))]
      exact sx_tbv (hb q hq)
    have g138 := ref_text138 (m := m) (ra := ra) (k := k) (cnt := min n 400) (n := n) (tx := fun k => tbv (tp k)) hk (by omega) (by omega) hn (fun q hq => okb_lt (hok q hq)) (min n 400) FU 0 (pA (pA X (ra 7) k (nI 17)) (ra 22) k (nI (min n 400))) (by omega) (by have := FU_ge; omega) BX (by rw [gA_pA, if_pos ⟨rfl, rfl⟩]) (fun q hq => by
      rw [gA_pA, if_neg (fun z => by have := z.1; rw [hB.i] at this; omega), gA_pA, if_neg (fun z => by have := z.1; rw [hB.i] at this; omega)]
      exact X2 q hq)
    have V := gw_vals (T := rmL kd i (kd i) T) (tag := 17) (nm := []) hik hln
    have isk : tIs (gwT (rmL kd i (kd i) T) i 17 [] k) k = true := by rw [(V k).1, if_pos rfl]
    have sz : Sz0T (gwT (rmL kd i (kd i) T) i 17 [] k) := (r2.grow (tag := 17) (nm := []) r3 hku hk hd1 (by omega) (by simp) (fun c hc => by cases hc)).z
    have hless : fX9_less (nI 400) (nI n) (pA X (ra 7) k (nI 17)) = some (nI (min n 400), pA X (ra 7) k (nI 17)) := by
      simp only [fX9_less, fX9_less_0, fX9_less_10]
      by_cases z : n ≤ 400
      · simp (disch := omega) only [leN, z, ↓reduceIte, show min n 400 = n by omega]
      · simp (disch := omega) only [leN, z, ↓reduceIte, show min n 400 = 400 by omega]
    have cc : tCnt (uTxt (gwT (rmL kd i (kd i) T) i 17 [] k) k (tcat [] (sl (fun k => tbv (tp k)) 0 n))) = tCnt (rmL kd i (kd i) T) + 1 := by
      rw [tCnt_uTxt]
      exact gw_cnt _ _ _ _ _
    refine ⟨wrA (pA (pA X (ra 7) k (nI 17)) (ra 22) k (nI (min n 400))) (ra 21) (400 * k) (sl (fun k => tbv (tp k)) 0 (min n 400)), ?_, ?_, ?_⟩
    · simp (disch := omega) only [hn0, ↓reduceIte, hg, cc, ↓uGI, ↓uGR, ↓uCV, ↓oCL, ↓uAS, vn0, hB.o, hX.1, le0n, gF, BX.o, BX.r7, BX.k7, BX.r22, BX.k22, gK_pA, gR_pA, gI_pA, hk, X453, hless, and_self, Nat.reduceAdd, g138, Nat.add_zero]
      simp only [fX9_text_175, ↓uGI, wr_K, wr_I, gK_pA, gI_pA, BX.o, c475, ↓reduceIte, Nat.reduceAdd]
    · simp only [hn0, hg, ↓reduceIte]
      rw [sl_take400]
      refine cfr.txt sz hk isk ?_ (fun c j a b z1 z2 => ?_) (fun c j z1 z2 => ?_) ?_ (fun q hq => wr_i _ _ _ _ _ hq)
      · rw [wr_I]; rfl
      · rw [wr_rd, if_neg (fun z => by have := z.1; rw [hB.i] at this; omega), gA_pA, if_neg (fun z => by have := z.1; rw [hB.i] at this; omega)]
      · rcases z1 with z1 | z1
        · subst z1
          have : ¬ j / 400 = k := z2
          rw [wr_rd, if_neg (fun z => by have h2 := z.2; rw [sl_len] at h2; omega), gA_pA, if_neg (fun z => by have := z.1; rw [hB.i] at this; omega)]
        · subst z1
          have : ¬ j = k := z2
          rw [wr_rd, if_neg (fun z => by have := z.1; rw [hB.i] at this; omega), gA_pA, if_neg (fun z => this z.2)]
      · rw [wr_rd, if_neg (fun z => by have := z.1; rw [hB.i] at this; omega), gA_pA, if_pos ⟨rfl, rfl⟩, sl_len]
    · exact F2.tr ((Fr.pA (Fr.pA (Fr.rf (h := X)) ⟨7, by omega, rfl⟩) ⟨22, by omega, rfl⟩).tr ((wr_fr _ _ _ _ _).mo (fun _ _ z => z) (fun a z => ⟨21, by omega, z⟩)))
theorem ref_text {h : AH} {m n : Nat} {ra : Nat → Nat} {T : TS} {kd : Nat → List Nat} {tp : Nat → Int32} (hB : RB h m ra) (hTp : TapeR h m ra n tp) (hb : ∀ i, i < n → isB (tp i)) (hR : RefT h m ra T) (w : Wf T kd) (hS : SizT T) (v : Int32) :
    ∃ h', fX9_text (some m) v h = some (txV T kd tp n v, h') ∧ RefT h' m ra (txT T kd tp n v) ∧ TapeR h' m ra 0 tp ∧ FrAd m ra h h' := by
  obtain ⟨h1, g1, X1, T1, F1⟩ := ref_take hB hTp hb
  have hn := hTp.2.1
  have B1 := F1.RB hB
  have R1 : RefT h1 m ra T := hR.fr F1 (by omega) (fun k h6 h23 z => by rw [B1.i] at z; omega)
  have FA : FrAd m ra h h1 := F1.mo (fun f a z => ⟨by omega, z.2⟩) (fun a z => ⟨2, Or.inl rfl, z⟩)
  simp only [fX9_text, fX9_text_0, fX9_text_45]
  simp only [↓uGI, ↓uGL, ↓uGR, ↓uPI, ↓uPL, ↓uPR, ↓uAL, ↓uQL, ↓uAS, ↓uQS, ↓uAN, ↓uCV, ↓oCL, ↓oNO, ↓uNA, ↓oNN, ↓oZ0, ↓oZ1, gI_pI, gI_pL, gI_pR, gI_pA, gI_pQ, gL_pI, gL_pL, gL_pR, gL_pA, gL_pQ, gR_pI, gR_pL, gR_pR, gR_pA, gR_pQ, gA_pI, gA_pL, gA_pR, gA_pA, gA_pQ, gQ_pI, gQ_pL, gQ_pR, gQ_pA, gQ_pQ, gK_pI, gK_pL, gK_pR, gK_pA, gK_pQ, gN_pI, gN_pL, gN_pR, gN_pA, gN_pQ, gS_pI, gS_pL, gS_pR, gS_pA, gS_pQ, gI_mk, gL_mk, gR_mk, gA_mk, gQ_mk, gK_mk, gN_mk, gS_mk, vn0, vn1, lt0, leN, ltN, eqN, eqM1, M1eq, le0n, eq0n, nI_add, nI_mul, ↓reduceIte, Nat.reduceAdd, Nat.reduceMul, Nat.reduceEqDiff, Nat.reduceLT, Nat.reduceLeDiff, and_true, true_and, and_false, false_and, and_self, reduceCtorEq, not_true_eq_false, not_false_eq_true, hB.o, g1]
  unfold txV txT
  cases hbd : badA tp n 0 with
  | some k =>
    have hk := badA_some _ _ _ hbd
    refine ⟨h1, ?_, R1, T1, FA⟩
    simp (disch := omega) only [↓uGI, ↓uGL, ↓uGR, ↓uPI, ↓uPL, ↓uPR, ↓uAL, ↓uQL, ↓uAS, ↓uQS, ↓uAN, ↓uCV, ↓oCL, ↓oNO, ↓uNA, ↓oNN, ↓oZ0, ↓oZ1, gI_pI, gI_pL, gI_pR, gI_pA, gI_pQ, gL_pI, gL_pL, gL_pR, gL_pA, gL_pQ, gR_pI, gR_pL, gR_pR, gR_pA, gR_pQ, gA_pI, gA_pL, gA_pR, gA_pA, gA_pQ, gQ_pI, gQ_pL, gQ_pR, gQ_pA, gQ_pQ, gK_pI, gK_pL, gK_pR, gK_pA, gK_pQ, gN_pI, gN_pL, gN_pR, gN_pA, gN_pQ, gS_pI, gS_pL, gS_pR, gS_pA, gS_pQ, gI_mk, gL_mk, gR_mk, gA_mk, gQ_mk, gK_mk, gN_mk, gS_mk, vn0, vn1, lt0, leN, ltN, eqN, eqM1, M1eq, le0n, eq0n, nI_add, nI_mul, ↓reduceIte, Nat.reduceAdd, Nat.reduceMul, Nat.reduceEqDiff, Nat.reduceLT, Nat.reduceLeDiff, and_true, true_and, and_false, false_and, and_self, reduceCtorEq, not_true_eq_false, not_false_eq_true, oI, fX9_wrong, fX9_wrong_0]
  | none =>
    have hok : ∀ k, k < n → okb (tbv (tp k)) = true := fun k hk => badA_none _ _ hbd k (by omega) (by omega)
    simp only [oI, show ((-1 : Int32) < 0) = True by decide, ↓reduceIte, ↓uGI, ↓uGL, ↓uGR, ↓uPI, ↓uPL, ↓uPR, ↓uAL, ↓uQL, ↓uAS, ↓uQS, ↓uAN, ↓uCV, ↓oCL, ↓oNO, ↓uNA, ↓oNN, ↓oZ0, ↓oZ1, gI_pI, gI_pL, gI_pR, gI_pA, gI_pQ, gL_pI, gL_pL, gL_pR, gL_pA, gL_pQ, gR_pI, gR_pL, gR_pR, gR_pA, gR_pQ, gA_pI, gA_pL, gA_pR, gA_pA, gA_pQ, gQ_pI, gQ_pL, gQ_pR, gQ_pA, gQ_pQ, gK_pI, gK_pL, gK_pR, gK_pA, gK_pQ, gN_pI, gN_pL, gN_pR, gN_pA, gN_pQ, gS_pI, gS_pL, gS_pR, gS_pA, gS_pQ, gI_mk, gL_mk, gR_mk, gA_mk, gQ_mk, gK_mk, gN_mk, gS_mk, vn0, vn1, lt0, leN, ltN, eqN, eqM1, M1eq, le0n, eq0n, nI_add, nI_mul, ↓reduceIte, Nat.reduceAdd, Nat.reduceMul, Nat.reduceEqDiff, Nat.reduceLT, Nat.reduceLeDiff, and_true, true_and, and_false, false_and, and_self, reduceCtorEq, not_true_eq_false, not_false_eq_true, B1.o, ref_isElement B1 R1 hS, bI0, txR]
    cases he : eAt T v with
    | none =>
      refine ⟨h1, ?_, R1, T1, FA⟩
      simp only [Option.isSome_none, ↓reduceIte]
    | some i =>
      obtain ⟨hi, hu, ht17, rfl⟩ := eAt_some he
      obtain ⟨w1, -, -, -, w5, -, -, -, w9, -⟩ := (R1.2 i hi).2 hu
      have s1 := (hS.2 i hu).1
      have s9 := (hS.2 i hu).2.2.2.2.2.2.2.2.1
      have hcn : tCnt T ≤ 120 := by rw [w.2.2.2.2.2.2.2.2]; exact cnU_le _ _
      simp (disch := omega) only [Option.isSome_some, Bool.true_eq_false, ↓reduceIte, ↓uGR, ↓uGI, ↓uAL, B1.o, B1.r7, B1.k7, B1.r15, B1.k15, B1.r11, B1.k11, hi, w1, w5, w9, ref_isEm, ↓oCL, bI0, and_self, Nat.reduceAdd, X1.1, R1.1, eqN, le0n]
      by_cases hcond : isEm (tTag T i) = true ∨ tDep T i = 20 ∨ (n ≠ 0 ∧ tCnt T = 120 ∧ tFk T i = none)
      · refine ⟨h1, ?_, by simp only [hcond, ↓reduceIte]; exact R1, T1, FA⟩
        simp only [if_pos hcond]
        cases hem : isEm (tTag T i) with
        | true => simp only [Bool.true_eq_false, ↓reduceIte]
        | false =>
          by_cases hd : tDep T i = 20
          · simp only [hd, ↓reduceIte]
          · rcases hcond with z | z | ⟨z1, z2, z3⟩
            · rw [hem] at z; cases z
            · exact absurd z hd
            · simp only [hd, z1, z2, z3, oI_n, ↓reduceIte]
      · have hem : isEm (tTag T i) = false := by
          cases hem : isEm (tTag T i) with
          | true => exact absurd (Or.inl hem) hcond
          | false => rfl
        have hd : ¬ tDep T i = 20 := fun z => hcond (Or.inr (Or.inl z))
        have hf : n = 0 ∨ ¬ (tCnt T = 120 ∧ tFk T i = none) := by
          by_cases z : n = 0
          · exact Or.inl z
          · exact Or.inr (fun y => hcond (Or.inr (Or.inr ⟨z, y⟩)))
        obtain ⟨h2, g2, R2, F2⟩ := ref_text75 (kd0 := kd) (kd i) FU h1 T kd (by have := FU_ge; have := w.len hS hu; omega) B1 R1 w hS hu rfl (fun _ _ => rfl)
        have X2 : TxR h2 m ra n tp := ⟨by rw [F2.1 _ _ (by omega)]; exact X1.1, hn, fun q hq => by rw [F2.2.2.2.1 _ _ (fun z => by obtain ⟨c, hc, e⟩ := z; rw [B1.i] at e; omega)]; exact X1.2.2 q hq⟩
        obtain ⟨h3, g3, R3, F3⟩ := ref_text98 (F2.RB B1) X2 hb hok R2 w hS hu (by omega) hf
        have F23 := F2.tr F3
        refine ⟨h3, ?_, by simp only [if_neg hcond]; exact R3, T1.fr F23 (by omega) (fun z => by obtain ⟨c, hc, e⟩ := z; rw [B1.i] at e; omega), FA.tr (F23.mo (fun f a z => ⟨by omega, z.2⟩) (fun a z => by obtain ⟨c, hc, e⟩ := z; exact ⟨c, by omega, e⟩))⟩
        have g23 := g2.trans g3
        simp only [if_neg hcond]
        simp only [hem, hd, ↓reduceIte, g23]
        by_cases z : n = 0
        · simp only [z, ↓reduceIte]
        · simp only [z, ↓reduceIte]
          by_cases z2 : tCnt T = 120
          · simp only [z2, ↓reduceIte]
            cases hfk : tFk T i with
            | none => exact absurd (And.intro z2 hfk) (by rcases hf with y | y; · exact absurd y z
                                                          · exact y)
            | some x =>
              have : x < 120 := hS.lt (w.links hu (Or.inr (Or.inl hfk)))
              simp (disch := omega) only [oI_s, eqM1, ↓reduceIte]
          · simp only [z2, ↓reduceIte]
theorem Wf.txt {T : TS} {kd : Nat → List Nat} {k : Nat} {l : List Nat} (w : Wf T kd) : Wf (uTxt T k l) kd := by
  obtain ⟨w1, w2, w3, w4, w5, w6, w7, w8, w9⟩ := w
  exact ⟨w1, w2, w3, w4, w5, fun i hi => ⟨(w6 i hi).1.fr _ _ _ _ (fun x _ => ⟨rfl, rfl⟩), (w6 i hi).2⟩, w7, w8, w9⟩
theorem SizT.txt {T : TS} {k : Nat} {l : List Nat} (s1 : SizT T) (h17 : tTag T k = 17) (hl : l.length ≤ 400) (hb : bch l) : SizT (uTxt T k l) := by
  refine ⟨s1.1, fun j hj => ?_⟩
  obtain ⟨a1, a2, a3, a4, a5, a6, a7, a8, a9, a10⟩ := s1.2 j hj
  by_cases e : j = k
  · have et : tTxt (uTxt T k l) j = l := by rw [tTxt_uTxt, if_pos e]
    refine ⟨a1, a2, a3, a4, a5, by rw [et]; exact hl, by rw [et]; exact hb, fun z => ?_, a9, a10⟩
    exact absurd (by rw [e]; exact h17) z
  · have et : tTxt (uTxt T k l) j = tTxt T j := by rw [tTxt_uTxt, if_neg e]
    exact ⟨a1, a2, a3, a4, a5, by rw [et]; exact a6, by rw [et]; exact a7, fun z => by rw [et]; exact a8 z, a9, a10⟩
theorem tx_ok {T : TS} {kd : Nat → List Nat} {tp : Nat → Int32} {n : Nat} (hok0 : badA tp n 0 = none → ∀ k, k < n → okb (tbv (tp k)) = true) (w : Wf T kd) (hS : SizT T) (v : Int32) : SizT (txT T kd tp n v) ∧ ∃ kd', Wf (txT T kd tp n v) kd' := by
  unfold txT
  cases hbd : badA tp n 0 with
  | some k => exact ⟨hS, kd, w⟩
  | none =>
    have hok := hok0 hbd
    cases hr : txR T n v with
    | none => exact ⟨hS, kd, w⟩
    | some i =>
      have hr' : tIs T i = true ∧ tTag T i ≠ 17 := by
        unfold txR at hr
        cases he : eAt T v with
        | none => rw [he] at hr; cases hr
        | some j =>
          rw [he] at hr
          simp only at hr
          split at hr
          · cases hr
          · cases hr
            obtain ⟨-, a, b, -⟩ := eAt_some he
            exact ⟨a, b⟩
      obtain ⟨hu, h17⟩ := hr'
      obtain ⟨⟨kd', w', hk'⟩, r2, r3, r4, r5, r6, r7⟩ := rmL_ok (kd0 := kd) (kd i) T kd w hS hu rfl (fun _ _ => rfl)
      show SizT (txF T kd i tp n) ∧ ∃ kd', Wf (txF T kd i tp n) kd'
      unfold txF
      split
      · exact ⟨r2, kd', w'⟩
      · cases hg : grw (rmL kd i (kd i) T) i with
        | none => exact ⟨r2, kd', w'⟩
        | some k =>
          obtain ⟨hd1, hk, hku⟩ := grw_some hg
          have s1 := r2.grow (tag := 17) (nm := []) r3 hku hk hd1 (by omega) (by simp) (fun c hc => by cases hc)
          have w1 := w'.grow (tag := 17) (nm := []) r3 (by rw [r7.1]; exact h17) hku hk (Or.inl ⟨rfl, rfl⟩)
          have hik : i ≠ k := fun z => by rw [← z, r3] at hku; cases hku
          have hln : tLk (rmL kd i (kd i) T) i ≠ some k := fun z => by
            have := w'.links r3 (Or.inr (Or.inr (Or.inl z)))
            rw [hku] at this; cases this
          have V := (gw_vals (T := rmL kd i (kd i) T) (tag := 17) (nm := []) hik hln k).2.1
          rw [if_pos rfl] at V
          exact ⟨s1.txt V (tcat_len _ _) (tcat_b (fun c hc => by cases hc) (sl_b (fun k h1 h2 => hok k (by omega)))), _, w1.txt⟩

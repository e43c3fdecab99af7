/-! set(n) -/
def ncb (tx : Nat → Nat) (i : Nat) : Prop := isSm (tx i) = true ∨ (0 < i ∧ isDg (tx i) = true)
theorem nlen_spec {tx : Nat → Nat} {n : Nat} : ∀ (j i : Nat), (∀ p, i ≤ p → p < nlen tx n j i → p < n ∧ ncb tx p) ∧ (nlen tx n j i < i + j → nlen tx n j i < n → ¬ ncb tx (nlen tx n j i)) := by
  intro j
  induction j with
  | zero => intro i; unfold nlen; exact ⟨fun p h1 h2 => by omega, fun h => by omega⟩
  | succ j ih =>
    intro i
    unfold nlen
    by_cases c : i < n ∧ (isSm (tx i) = true ∨ (0 < i ∧ isDg (tx i) = true))
    · rw [if_pos c]
      obtain ⟨a, b⟩ := ih (i + 1)
      refine ⟨fun p h1 h2 => ?_, fun h => b (by omega)⟩
      by_cases e : p = i
      · rw [e]; exact c
      · exact a p (by omega) h2
    · rw [if_neg c]
      exact ⟨fun p h1 h2 => by omega, fun h1 h2 z => c ⟨h2, z⟩⟩
theorem nlen_eq {tx : Nat → Nat} {e k : Nat} : ∀ (j i : Nat), i ≤ k → k ≤ i + j → (∀ p, i ≤ p → p < k → p < e ∧ ncb tx p) → (k = i + j ∨ e ≤ k ∨ ¬ ncb tx k) → nlen tx e j i = k := by
  intro j
  induction j with
  | zero => intro i h1 h2 _ _; unfold nlen; omega
  | succ j ih =>
    intro i h1 h2 h3 h4
    unfold nlen
    by_cases c : i < e ∧ (isSm (tx i) = true ∨ (0 < i ∧ isDg (tx i) = true))
    · rw [if_pos c]
      by_cases z : i = k
      · exfalso
        rcases h4 with q | q | q
        · omega
        · omega
        · rw [← z] at q; exact q c.2
      · exact ih (i + 1) (by omega) (by omega) (fun p a b => h3 p (by omega) b) (h4.imp (fun q => by omega) (fun q => q))
    · rw [if_neg c]
      by_cases z : i = k
      · exact z
      · exact absurd (h3 i (by omega) (by omega)) c
/-- where the first = stands -/
def eqA (tx : Nat → Nat) : Nat → Nat → Nat
  | 0, i => i
  | j + 1, i => if tx i = 61 then i else eqA tx j (i + 1)
theorem eqA_spec {tx : Nat → Nat} : ∀ (j i : Nat), i ≤ eqA tx j i ∧ eqA tx j i ≤ i + j ∧ (∀ p, i ≤ p → p < eqA tx j i → tx p ≠ 61) ∧ (eqA tx j i < i + j → tx (eqA tx j i) = 61) := by
  intro j
  induction j with
  | zero => intro i; unfold eqA; exact ⟨by omega, by omega, fun p a b => by omega, fun h => by omega⟩
  | succ j ih =>
    intro i
    unfold eqA
    by_cases c : tx i = 61
    · rw [if_pos c]
      exact ⟨by omega, by omega, fun p a b => by omega, fun _ => c⟩
    · rw [if_neg c]
      obtain ⟨a1, a2, a3, a4⟩ := ih (i + 1)
      refine ⟨by omega, by omega, fun p h1 h2 => ?_, fun h => a4 (by omega)⟩
      by_cases e : p = i
      · rw [e]; exact c
      · exact a3 p (by omega) h2
theorem ncb_ne {tx : Nat → Nat} {p : Nat} (h : ncb tx p) : tx p ≠ 61 := by
  intro e
  unfold ncb at h
  rw [e] at h
  rcases h with h | ⟨-, h⟩ <;> revert h <;> decide
/-- none where the text is a NAME, = and a VALUE, else where it goes wrong -/
def wset (tp : Nat → Int32) (n : Nat) : Option Nat := match badA tp n 0 with
  | some k => some k
  | none => if 0 < nlen (fun k => tbv (tp k)) n 8 0 ∧ nlen (fun k => tbv (tp k)) n 8 0 < n ∧ tbv (tp (nlen (fun k => tbv (tp k)) n 8 0)) = 61 then none else some (nlen (fun k => tbv (tp k)) n 8 0)
theorem cls_wrongSet {h : AH} {t b n : Nat} {tp : Nat → Int32} (hT : TapeC h t b n tp) : fX6_wrongAsSetting (some t) h = some (wrongV (wset tp n), h) := by
  obtain ⟨h1, h2, h3, h4, h5, h6⟩ := id hT
  have hle := nlen_le (tx := fun k => tbv (tp k)) (n := n) 8 0
  simp only [fX6_wrongAsSetting, fX6_wrongAsSetting_0, fX6_wrongAsSetting_39, fX6_wrongAsSetting_44, wset]
  cases hb : badA tp n 0 with
  | some k =>
    have hk := badA_some _ _ _ hb
    simp (disch := omega) only [↓uGI, ↓uGL, ↓uGR, ↓uPI, ↓uPL, ↓uPR, ↓uAL, ↓uQL, ↓uAS, ↓uQS, ↓uAN, ↓uCV, ↓oCL, ↓oNO, ↓uNA, ↓oNN, ↓oZ0, ↓oZ1, gI_pI, gI_pL, gI_pR, gI_pA, gI_pQ, gL_pI, gL_pL, gL_pR, gL_pA, gL_pQ, gR_pI, gR_pL, gR_pR, gR_pA, gR_pQ, gA_pI, gA_pL, gA_pR, gA_pA, gA_pQ, gQ_pI, gQ_pL, gQ_pR, gQ_pA, gQ_pQ, gK_pI, gK_pL, gK_pR, gK_pA, gK_pQ, gN_pI, gN_pL, gN_pR, gN_pA, gN_pQ, gS_pI, gS_pL, gS_pR, gS_pA, gS_pQ, gI_mk, gL_mk, gR_mk, gA_mk, gQ_mk, gK_mk, gN_mk, gS_mk, vn0, vn1, lt0, leN, ltN, eqN, eqM1, M1eq, le0n, eq0n, nI_add, nI_mul, ↓reduceIte, Nat.reduceAdd, Nat.reduceMul, Nat.reduceEqDiff, Nat.reduceLT, Nat.reduceLeDiff, and_true, true_and, and_false, false_and, and_self, reduceCtorEq, not_true_eq_false, not_false_eq_true, h1, cls_bad hT, hb, oI, wrongV]
  | none =>
    simp (disch := omega) only [↓uGI, ↓uGL, ↓uGR, ↓uPI, ↓uPL, ↓uPR, ↓uAL, ↓uQL, ↓uAS, ↓uQS, ↓uAN, ↓uCV, ↓oCL, ↓oNO, ↓uNA, ↓oNN, ↓oZ0, ↓oZ1, gI_pI, gI_pL, gI_pR, gI_pA, gI_pQ, gL_pI, gL_pL, gL_pR, gL_pA, gL_pQ, gR_pI, gR_pL, gR_pR, gR_pA, gR_pQ, gA_pI, gA_pL, gA_pR, gA_pA, gA_pQ, gQ_pI, gQ_pL, gQ_pR, gQ_pA, gQ_pQ, gK_pI, gK_pL, gK_pR, gK_pA, gK_pQ, gN_pI, gN_pL, gN_pR, gN_pA, gN_pQ, gS_pI, gS_pL, gS_pR, gS_pA, gS_pQ, gI_mk, gL_mk, gR_mk, gA_mk, gQ_mk, gK_mk, gN_mk, gS_mk, vn0, vn1, lt0, leN, ltN, eqN, eqM1, M1eq, le0n, eq0n, nI_add, nI_mul, ↓reduceIte, Nat.reduceAdd, Nat.reduceMul, Nat.reduceEqDiff, Nat.reduceLT, Nat.reduceLeDiff, and_true, true_and, and_false, false_and, and_self, reduceCtorEq, not_true_eq_false, not_false_eq_true, h1, cls_bad hT, hb, oI, cls_nlen hT, tape_byteAt hT]
    generalize nlen (fun k => tbv (tp k)) n 8 0 = k at hle
    by_cases c0 : k = 0
    · subst c0
      simp [wrongV]
    · by_cases c1 : k < n
      · have hl := tbv_lt (tp k)
        simp (disch := omega) only [c0, c1, bt_in c1, eqN, ↓reduceIte, show 0 < k by omega, true_and]
        by_cases c2 : tbv (tp k) = 61
        · simp only [c2, ↓reduceIte, wrongV]; rfl
        · simp only [c2, ↓reduceIte, wrongV]
      · simp (disch := omega) only [c0, c1, bt_out (show n ≤ k by omega), M1eq, ↓reduceIte, false_and, and_false, wrongV]
theorem wset_none {tp : Nat → Int32} {n : Nat} (h : wset tp n = none) : badA tp n 0 = none ∧ (∀ k, k < n → okb (tbv (tp k)) = true) ∧ 0 < nlen (fun k => tbv (tp k)) n 8 0 ∧ nlen (fun k => tbv (tp k)) n 8 0 < n ∧ nlen (fun k => tbv (tp k)) n 8 0 ≤ 8 ∧ tbv (tp (nlen (fun k => tbv (tp k)) n 8 0)) = 61 := by
  unfold wset at h
  have hle := nlen_le (tx := fun k => tbv (tp k)) (n := n) 8 0
  cases hb : badA tp n 0 with
  | some k => rw [hb] at h; cases h
  | none =>
    rw [hb] at h
    by_cases c : 0 < nlen (fun k => tbv (tp k)) n 8 0 ∧ nlen (fun k => tbv (tp k)) n 8 0 < n ∧ tbv (tp (nlen (fun k => tbv (tp k)) n 8 0)) = 61
    · exact ⟨rfl, fun k hk => badA_none _ _ hb k (by omega) (by omega), c.1, c.2.1, by omega, c.2.2⟩
    · simp [c] at h
theorem wset_le {tp : Nat → Int32} {n k : Nat} (h : wset tp n = some k) : k ≤ n := by
  unfold wset at h
  cases hb : badA tp n 0 with
  | some k' => rw [hb] at h; cases h; have := badA_some _ _ _ hb; omega
  | none =>
    rw [hb] at h
    have hle := nlen_le (tx := fun k => tbv (tp k)) (n := n) 8 0
    by_cases c : 0 < nlen (fun k => tbv (tp k)) n 8 0 ∧ nlen (fun k => tbv (tp k)) n 8 0 < n ∧ tbv (tp (nlen (fun k => tbv (tp k)) n 8 0)) = 61
    · simp [c] at h
    · simp only [c, ↓reduceIte, Option.some.injEq] at h; omega
theorem sl_cons (tx : Nat → Nat) (i c : Nat) : sl tx i (c + 1) = tx i :: sl tx (i + 1) c := by
  simp only [sl, List.range_succ_eq_map, List.map_cons, List.map_map, Nat.add_zero]
  congr 1
  apply List.map_congr_left
  intro a _
  show tx (i + (a + 1)) = tx (i + 1 + a)
  congr 1
  omega
def vcat (w l : List Nat) : List Nat := (w ++ l).take 60
theorem vadd_eq {w : List Nat} {c : Nat} (h : w.length ≤ 60) : vadd w c = vcat w [c] := by
  unfold vadd vcat
  by_cases z : w.length < 60
  · rw [if_pos z, List.take_of_length_le (by simp; omega)]
  · rw [if_neg z, List.take_append_of_le_length (by omega), List.take_of_length_le (by omega)]
theorem vcat_cons (w l : List Nat) (c : Nat) : vcat (vcat w [c]) l = vcat w (c :: l) := by
  unfold vcat
  by_cases h : (w ++ [c]).length ≤ 60
  · rw [List.take_of_length_le h, List.append_assoc]; rfl
  · have e1 : (w ++ c :: l).take 60 = (w ++ [c]).take 60 := by
      rw [show w ++ c :: l = (w ++ [c]) ++ l by simp, List.take_append_of_le_length (by omega)]
    rw [e1, List.take_append_of_le_length (by rw [List.length_take]; omega), List.take_take, Nat.min_self]
theorem vcat_nil {w : List Nat} (h : w.length ≤ 60) : vcat w [] = w := by unfold vcat; rw [List.append_nil, List.take_of_length_le h]
theorem vcat_len (w l : List Nat) : (vcat w l).length ≤ 60 := by unfold vcat; rw [List.length_take]; omega
theorem vcat_b {w l : List Nat} (h1 : bch w) (h2 : bch l) : bch (vcat w l) := by
  intro c hc
  rcases List.mem_append.mp (List.mem_of_mem_take hc) with z | z
  · exact h1 c z
  · exact h2 c z
theorem sl_b {tx : Nat → Nat} {i c : Nat} (h : ∀ k, i ≤ k → k < i + c → okb (tx k) = true) : bch (sl tx i c) := by
  intro x hx
  simp only [sl, List.mem_map, List.mem_range] at hx
  obtain ⟨k, hk, rfl⟩ := hx
  exact h (i + k) (by omega) (by omega)
theorem setV_setV (L : AttL) {j : Nat} (hj : j < L.length) (w w' : List Nat) : setV (setV L j w) j w' = setV L j w' := by
  have : ((setV L j w).getD j ([], [])).1 = (L.getD j ([], [])).1 := by rw [setV_get _ hj, if_pos rfl]
  show (setV L j w).set j (((setV L j w).getD j ([], [])).1, w') = _
  rw [this]
  unfold setV
  rw [List.set_set]
theorem setV_snoc (L : AttL) (nm w w' : List Nat) : setV (L ++ [(nm, w)]) L.length w' = L ++ [(nm, w')] := by
  unfold setV
  rw [getD_snoc, if_pos rfl]
  simp
def NdK (h : AH) (ad : Nat → Nat → Nat → Nat) (i : Nat) : Prop := gK h (ad 1 i 0) = (4, 0) ∧ gR h 151 (ad 1 i 0) = some (ad 2 i 0)
theorem cls_setLoop {x t o fa tr rd tb n i j : Nat} {ad : Nat → Nat → Nat → Nat} {tp : Nat → Int32} (hI : Inj3 ad) (h6 : ad 6 i j ≠ tb) (hok : ∀ k, k < n → okb (tbv (tp k)) = true) : ∀ (k f p : Nat) (h : AH) (L : AttL), p + k = n → k < f → CB h x t o fa tr rd → TapeC h t tb n tp → AtB h ad i → AtV h ad i L → AtS L → j < L.length → NdK h ad i →
    ∃ h', fX8_setAttribute_95 f (some x) (some (ad 1 i 0)) (some (ad 5 i j)) (nI p) h = some (nI L.length, h') ∧ AtV h' ad i (setV L j (vcat (L.getD j ([], [])).2 (sl (fun k => tbv (tp k)) p k))) ∧ Fr (fun f a => f = 2 ∧ a = ad 5 i j) (fun a => a = ad 6 i j) h h' := by
  intro k
  induction k with
  | zero =>
    intro f p h L hpk hkf hC hT hB hV hS hj hK
    obtain ⟨f, rfl⟩ : ∃ g, f = g + 1 := ⟨f - 1, by omega⟩
    have hn := hT.2.2.2.2.1
    obtain ⟨s1, s2, s3, s4⟩ := hS.get hj
    refine ⟨h, ?_, ?_, Fr.rf⟩
    · rw [fX8_setAttribute_95]
      simp (disch := omega) only [↓uGI, ↓uGL, ↓uGR, ↓uPI, ↓uPL, ↓uPR, ↓uAL, ↓uQL, ↓uAS, ↓uQS, ↓uAN, ↓uCV, ↓oCL, ↓oNO, ↓uNA, ↓oNN, ↓oZ0, ↓oZ1, gI_pI, gI_pL, gI_pR, gI_pA, gI_pQ, gL_pI, gL_pL, gL_pR, gL_pA, gL_pQ, gR_pI, gR_pL, gR_pR, gR_pA, gR_pQ, gA_pI, gA_pL, gA_pR, gA_pA, gA_pQ, gQ_pI, gQ_pL, gQ_pR, gQ_pA, gQ_pQ, gK_pI, gK_pL, gK_pR, gK_pA, gK_pQ, gN_pI, gN_pL, gN_pR, gN_pA, gN_pQ, gS_pI, gS_pL, gS_pR, gS_pA, gS_pQ, gI_mk, gL_mk, gR_mk, gA_mk, gQ_mk, gK_mk, gN_mk, gS_mk, vn0, vn1, lt0, leN, ltN, eqN, eqM1, M1eq, le0n, eq0n, nI_add, nI_mul, ↓reduceIte, Nat.reduceAdd, Nat.reduceMul, Nat.reduceEqDiff, Nat.reduceLT, Nat.reduceLeDiff, and_true, true_and, and_false, false_and, and_self, reduceCtorEq, not_true_eq_false, not_false_eq_true, hC.1, hC.2.1, hT.1, hT.2.2.2.1, show n ≤ p by omega, fX8_setAttribute_127, hK.1, hK.2, hB.1, hV.1]
    · have e : setV L j (vcat (L.getD j ([], [])).2 (sl (fun k => tbv (tp k)) p 0)) = L := by
        rw [show sl (fun k => tbv (tp k)) p 0 = [] from rfl, vcat_nil s3]
        unfold setV
        rw [gD_in hj]
        exact List.set_getElem_self hj
      rw [e]; exact hV
  | succ k ih =>
    intro f p h L hpk hkf hC hT hB hV hS hj hK
    obtain ⟨f, rfl⟩ : ∃ g, f = g + 1 := ⟨f - 1, by omega⟩
    have hn := hT.2.2.2.2.1
    obtain ⟨s1, s2, s3, s4⟩ := hS.get hj
    have hch := hok p (by omega)
    have hlt := okb_lt hch
    obtain ⟨k1, k2, k3⟩ := hB.k5 hV hS hj
    obtain ⟨h1, g1, V1, F1⟩ := cls_attPut hI hB hV hS hj hlt
    have T1 := hT.fr F1 (by omega) (fun z => h6 z.symm)
    have C1 := F1.CB hC
    have e1 := F1.2.2.1; have e2 := F1.2.2.2.2.2.1; have e3 := F1.2.2.2.2.1; have e4 := F1.2.2.2.2.2.2.1
    have B1 := hB.eq e1 e2 e3 e4
    have hb : bch (vcat (L.getD j ([], [])).2 [tbv (tp p)]) := vcat_b s4 (fun c hc => by rw [List.mem_singleton.mp hc]; exact hch)
    rw [vadd_eq s3] at V1
    obtain ⟨h2, g2, V2, F2⟩ := ih f (p + 1) h1 _ (by omega) (by omega) C1 T1 B1 V1 (hS.setV hj (vcat_len _ _) hb) (by rw [setV_len]; exact hj) ⟨by rw [e2]; exact hK.1, by rw [e1]; exact hK.2⟩
    refine ⟨h2, ?_, ?_, F1.tr F2⟩
    · rw [fX8_setAttribute_95]
      simp (disch := omega) only [↓uGI, ↓uGL, ↓uGR, ↓uPI, ↓uPL, ↓uPR, ↓uAL, ↓uQL, ↓uAS, ↓uQS, ↓uAN, ↓uCV, ↓oCL, ↓oNO, ↓uNA, ↓oNN, ↓oZ0, ↓oZ1, gI_pI, gI_pL, gI_pR, gI_pA, gI_pQ, gL_pI, gL_pL, gL_pR, gL_pA, gL_pQ, gR_pI, gR_pL, gR_pR, gR_pA, gR_pQ, gA_pI, gA_pL, gA_pR, gA_pA, gA_pQ, gQ_pI, gQ_pL, gQ_pR, gQ_pA, gQ_pQ, gK_pI, gK_pL, gK_pR, gK_pA, gK_pQ, gN_pI, gN_pL, gN_pR, gN_pA, gN_pQ, gS_pI, gS_pL, gS_pR, gS_pA, gS_pQ, gI_mk, gL_mk, gR_mk, gA_mk, gQ_mk, gK_mk, gN_mk, gS_mk, vn0, vn1, lt0, leN, ltN, eqN, eqM1, M1eq, le0n, eq0n, nI_add, nI_mul, ↓reduceIte, Nat.reduceAdd, Nat.reduceMul, Nat.reduceEqDiff, Nat.reduceLT, Nat.reduceLeDiff, and_true, true_and, and_false, false_and, and_self, reduceCtorEq, not_true_eq_false, not_false_eq_true, hC.1, hC.2.1, hT.1, hT.2.2.2.1, show ¬ n ≤ p by omega, tape_byteAt hT, bt_in (show p < n by omega), k1, g1, g2, setV_len]
    · rw [setV_get _ hj, if_pos rfl, setV_setV _ hj, vcat_cons] at V2
      rw [sl_cons]
      exact V2
/-- the ATTRIBUTES after it -/
def setL (L : AttL) (nm w : List Nat) : Option AttL := match fnd nm L 0 with
  | some j => some (setV L j w)
  | none => if L.length < 4 then some (L ++ [(nm, w)]) else none
theorem setL_S {L L' : AttL} {nm w : List Nat} (h : setL L nm w = some L') (hS : AtS L) (h1 : nm.length ≤ 8) (h2 : vch nm) (h3 : w.length ≤ 60) (h4 : bch w) : AtS L' := by
  unfold setL at h
  cases hf : fnd nm L 0 with
  | some j =>
    rw [hf] at h
    have hj := (fnd_lt _ _ _ hf).2
    cases h
    exact hS.setV (by omega) h3 h4
  | none =>
    rw [hf] at h
    by_cases c : L.length < 4
    · simp only [c, ↓reduceIte, Option.some.injEq] at h
      rw [← h]
      exact hS.snoc c h1 h2 h3 h4
    · simp [c] at h
def stR (T : TS) (tp : Nat → Int32) (n : Nat) (v : Int32) : Option (Nat × AttL) := match eAt T v with
  | none => none
  | some i => (setL (tAtt T i) (sl (fun k => tbv (tp k)) 0 (nlen (fun k => tbv (tp k)) n 8 0)) (vcat [] (sl (fun k => tbv (tp k)) (nlen (fun k => tbv (tp k)) n 8 0 + 1) (n - (nlen (fun k => tbv (tp k)) n 8 0 + 1))))).map (fun L => (i, L))
def stV (T : TS) (tp : Nat → Int32) (n : Nat) (v : Int32) : Int32 := match wset tp n with
  | some k => (-1000) - nI k
  | none => match stR T tp n v with
    | none => -1
    | some p => nI p.2.length
def stT (T : TS) (tp : Nat → Int32) (n : Nat) (v : Int32) : TS := match wset tp n with
  | some _ => T
  | none => match stR T tp n v with
    | none => T
    | some p => uAtt T p.1 p.2
theorem uAtt_same {T : TS} {i : Nat} {L : AttL} : ∀ j, j ≠ i → TSame T (uAtt T i L) j := by
  intro j hj
  refine ⟨rfl, rfl, rfl, rfl, rfl, rfl, rfl, rfl, ?_, rfl, rfl⟩
  rw [tAtt_uAtt, if_neg hj]
/-- class: the ATTRIBUTES of a NODE are changed -/
theorem ClsT.att {h h' : AH} {bs s0 : Nat} {sg : Nat → Nat} {ad ad' : Nat → Nat → Nat → Nat} {T : TS} {i : Nat} {L : AttL} (q : ClsT h ad (sg 8) (sg 9) T) (hA : AdOk h bs s0 sg ad) (hA' : AdOk h' bs s0 sg ad') (hE : ∀ c k j, k ≠ i ∨ c ≤ 4 → ad' c k j = ad c k j) (h0 : tIs T 0 = true) (hi : i < 120) (hu : tIs T i = true) (hSz : SizT T) (w : FrX (OwA h' ad' i) h h') (hB : AtB h' ad' i) (hV : AtV h' ad' i L) : ClsT h' ad' (sg 8) (sg 9) (uAtt T i L) := by
  obtain ⟨n1, ⟨b1, b2, b3, b4, b5⟩, v1, v2, v3, v4, v5, v6, v7, v8, v9, v10, v11, v12⟩ := q.nd hi hu
  have hIs := q.2.2.2.2.2 i hi
  have w1 : ∀ c j, c = 1 ∨ c = 4 → ¬ OwA h' ad' i (ad c i j) := by
    rintro c j hc ⟨c', j', hc', e, -⟩
    rw [← hE c i j (by omega), hA'.1.e] at e
    omega
  have x1 := w (ad 1 i 0) (w1 1 0 (by omega))
  have x4 := w (ad 4 i 0) (w1 4 0 (by omega))
  have e1 := hE 1 i 0 (by omega)
  have e4 := hE 4 i 0 (by omega)
  have hu152 : gI h 152 (ad 1 i 0) = bI true := by
    rcases hIs with ⟨z, z', -⟩ | ⟨z1, z2, z3, z4⟩
    · rw [hu] at z'; cases z'
    · rw [hu] at z3; exact z3
  have xn : gQ h' (sg 9) i = gQ h (sg 9) i := (w (sg 9) (fun z => by
    obtain ⟨c, j, -, e, -⟩ := z
    exact hA'.2.2.1 _ _ _ _ e.symm)).2.2.2.2.1 i
  refine q.upE hA hA' (fun c k j hk => hE c k j (Or.inl hk)) (fun k _ => hE 1 k 0 (by omega)) hSz (fun j hj => rfl) (fun j hj _ => uAtt_same j hj) (w.mo (fun a z => by
    obtain ⟨c, j, -, e, hl⟩ := z
    exact Or.inl ⟨c, j, e, hl⟩)) ((w (sg 9) (fun z => by
    obtain ⟨c, j, -, e, -⟩ := z
    exact hA'.2.2.1 _ _ _ _ e.symm)).2.2.2.2.2) (fun k hk => (w (sg 9) (fun z => by
    obtain ⟨c, j, -, e, -⟩ := z
    exact hA'.2.2.1 _ _ _ _ e.symm)).2.2.2.2.1 k) rfl ?_
  have oNe : ∀ r : Option Nat, (∀ k, r = some k → tIs T k = true) → oN ad' r = oN ad r := fun r hr => oN_ad (fun k hk => hE 1 k 0 (by omega))
  obtain ⟨s1, s2, s3, s4, s5, s6, s7, s8, s9, s10⟩ := hSz.2 i hu
  right
  refine ⟨by rw [xn, e1]; exact n1, ⟨by rw [e1, x1.2.2.2.2.2]; exact b1, by rw [e1, x1.1]; exact b2, by rw [e1, x1.2.2.1, hE 2 i 0 (by omega)]; exact b3, hB, ?_⟩, ?_, fun _ => ?_⟩
  · rw [e1, e4, x1.2.2.1, x4.2.2.2.2.2]
    rcases b5 with ⟨z1, z2⟩ | z
    · exact Or.inl ⟨z1, hA.un hA'.lt z2⟩
    · exact Or.inr z
  · rw [e1, x1.1]
    show _ = bI (tIs T i)
    rw [hu]
    exact hu152
  · unfold NdV
    rw [e1, e4, x1.1, x1.1, x1.1, x1.1, x1.2.1, x1.2.2.1, x1.2.2.1, x1.2.2.1, x1.2.2.1, x1.2.2.1, x1.2.2.1]
    simp only [x4.2.2.2.1, tIs_uIs, tIs_uTag, tIs_uNam, tIs_uPar, tIs_uFk, tIs_uLk, tIs_uNx, tIs_uBf, tIs_uDep, tIs_uAtt, tIs_uTxt, tIs_uLng, tIs_uCnt, tTag_uIs, tTag_uTag, tTag_uNam, tTag_uPar, tTag_uFk, tTag_uLk, tTag_uNx, tTag_uBf, tTag_uDep, tTag_uAtt, tTag_uTxt, tTag_uLng, tTag_uCnt, tNam_uIs, tNam_uTag, tNam_uNam, tNam_uPar, tNam_uFk, tNam_uLk, tNam_uNx, tNam_uBf, tNam_uDep, tNam_uAtt, tNam_uTxt, tNam_uLng, tNam_uCnt, tPar_uIs, tPar_uTag, tPar_uNam, tPar_uPar, tPar_uFk, tPar_uLk, tPar_uNx, tPar_uBf, tPar_uDep, tPar_uAtt, tPar_uTxt, tPar_uLng, tPar_uCnt, tFk_uIs, tFk_uTag, tFk_uNam, tFk_uPar, tFk_uFk, tFk_uLk, tFk_uNx, tFk_uBf, tFk_uDep, tFk_uAtt, tFk_uTxt, tFk_uLng, tFk_uCnt, tLk_uIs, tLk_uTag, tLk_uNam, tLk_uPar, tLk_uFk, tLk_uLk, tLk_uNx, tLk_uBf, tLk_uDep, tLk_uAtt, tLk_uTxt, tLk_uLng, tLk_uCnt, tNx_uIs, tNx_uTag, tNx_uNam, tNx_uPar, tNx_uFk, tNx_uLk, tNx_uNx, tNx_uBf, tNx_uDep, tNx_uAtt, tNx_uTxt, tNx_uLng, tNx_uCnt, tBf_uIs, tBf_uTag, tBf_uNam, tBf_uPar, tBf_uFk, tBf_uLk, tBf_uNx, tBf_uBf, tBf_uDep, tBf_uAtt, tBf_uTxt, tBf_uLng, tBf_uCnt, tDep_uIs, tDep_uTag, tDep_uNam, tDep_uPar, tDep_uFk, tDep_uLk, tDep_uNx, tDep_uBf, tDep_uDep, tDep_uAtt, tDep_uTxt, tDep_uLng, tDep_uCnt, tAtt_uIs, tAtt_uTag, tAtt_uNam, tAtt_uPar, tAtt_uFk, tAtt_uLk, tAtt_uNx, tAtt_uBf, tAtt_uDep, tAtt_uAtt, tAtt_uTxt, tAtt_uLng, tAtt_uCnt, tTxt_uIs, tTxt_uTag, tTxt_uNam, tTxt_uPar, tTxt_uFk, tTxt_uLk, tTxt_uNx, tTxt_uBf, tTxt_uDep, tTxt_uAtt, tTxt_uTxt, tTxt_uLng, tTxt_uCnt, tLng_uIs, tLng_uTag, tLng_uNam, tLng_uPar, tLng_uFk, tLng_uLk, tLng_uNx, tLng_uBf, tLng_uDep, tLng_uAtt, tLng_uTxt, tLng_uLng, tLng_uCnt, tCnt_uIs, tCnt_uTag, tCnt_uNam, tCnt_uPar, tCnt_uFk, tCnt_uLk, tCnt_uNx, tCnt_uBf, tCnt_uDep, tCnt_uAtt, tCnt_uTxt, tCnt_uLng, tCnt_uCnt, ↓reduceIte]
    rw [oNe _ (fun k hk => (s10 k (Or.inl hk)).2), oNe _ (fun k hk => (s10 k (Or.inr (Or.inr (Or.inr (Or.inr hk))))).2), oNe _ (fun k hk => (s10 k (Or.inr (Or.inr (Or.inr (Or.inl hk))))).2), oNe _ (fun k hk => (s10 k (Or.inr (Or.inl hk))).2), oNe _ (fun k hk => (s10 k (Or.inr (Or.inr (Or.inl hk)))).2)]
    exact ⟨v1, v2, v3, v4, v5, v6, v7, v8, hV, v10, v11, v12⟩
theorem cls_attZero {h : AH} {ad : Nat → Nat → Nat → Nat} {i j : Nat} {L : AttL} (hI : Inj3 ad) (hV : AtV h ad i L) (hj : j < L.length) : AtV (pI h 2 (ad 5 i j) (nI 0)) ad i (setV L j []) := by
  refine ⟨by rw [setV_len, gI_pI, if_neg (by omega)]; exact hV.1, fun k hk => ?_⟩
  rw [setV_len] at hk
  rw [setV_get _ hj]
  obtain ⟨x1, x2, x3, x4⟩ := hV.2 k hk
  by_cases e : k = j
  · subst e
    rw [if_pos rfl]
    exact ⟨x1, x2, if_pos ⟨rfl, rfl⟩, fun p hp => by simp at hp⟩
  · rw [if_neg e]
    exact ⟨x1, x2, by rw [gI_pI, if_neg (fun z => by rw [hI.e] at z; omega)]; exact x3, x4⟩
theorem cls_set {h : AH} {bs s0 n : Nat} {sg : Nat → Nat} {ad : Nat → Nat → Nat → Nat} {T : TS} {tp : Nat → Int32} {ol : List Int32} {fl : FL} (hA : AdOk h bs s0 sg ad) (hC : Cls h sg ad T n tp ol fl) (hS : SizT T) (h0 : tIs T 0 = true) (v : Int32) :
    ∃ h' ad', fX8_set (some (sg 0)) v h = some (stV T tp n v, h') ∧ AdOk h' bs s0 sg ad' ∧ ClsT h' ad' (sg 8) (sg 9) (stT T tp n v) ∧ TapeC h' (sg 1) (sg 2) 0 tp ∧ FrTA sg h ad h' ad' := by
  obtain ⟨hcb, hTp, hO, hF, hT, hP, hB120⟩ := id hC
  obtain ⟨c1, c4, c3, -, c2, -⟩ := id hcb
  have k1 := hT.1
  have hn := hTp.2.2.2.2.1
  have hns := hA.2.2.1
  have hss := hA.2.1
  have last : ∀ (h1 : AH) (ad1 : Nat → Nat → Nat → Nat) (T1 : TS), AdOk h1 bs s0 sg ad1 → ClsT h1 ad1 (sg 8) (sg 9) T1 → TapeC h1 (sg 1) (sg 2) n tp → FrTA sg h ad h1 ad1 → AdOk (pI h1 301 (sg 1) (nI 0)) bs s0 sg ad1 ∧ ClsT (pI h1 301 (sg 1) (nI 0)) ad1 (sg 8) (sg 9) T1 ∧ TapeC (pI h1 301 (sg 1) (nI 0)) (sg 1) (sg 2) 0 tp ∧ FrTA sg h ad (pI h1 301 (sg 1) (nI 0)) ad1 := fun h1 ad1 T1 a b c d => ⟨a.eq rfl rfl rfl, b.fr (Fr.pI (I := fun f a => f = 301 ∧ a = sg 1) (A := fun _ => False) Fr.rf ⟨rfl, rfl⟩) (fun f a z => by unfold treeF; omega) (fun _ _ z => z) (fun _ z => z), c.clear, d.tr ⟨FrX.pI FrX.rf (Or.inr (Or.inr (Or.inr rfl))), ExtT.same rfl⟩⟩
  simp only [fX8_set, fX8_set_0, fX8_setAttribute, fX8_setAttribute_0]
  simp only [↓uGI, ↓uGL, ↓uGR, ↓uPI, ↓uPL, ↓uPR, ↓uAL, ↓uQL, ↓uAS, ↓uQS, ↓uAN, ↓uCV, ↓oCL, ↓oNO, ↓uNA, ↓oNN, ↓oZ0, ↓oZ1, gI_pI, gI_pL, gI_pR, gI_pA, gI_pQ, gL_pI, gL_pL, gL_pR, gL_pA, gL_pQ, gR_pI, gR_pL, gR_pR, gR_pA, gR_pQ, gA_pI, gA_pL, gA_pR, gA_pA, gA_pQ, gQ_pI, gQ_pL, gQ_pR, gQ_pA, gQ_pQ, gK_pI, gK_pL, gK_pR, gK_pA, gK_pQ, gN_pI, gN_pL, gN_pR, gN_pA, gN_pQ, gS_pI, gS_pL, gS_pR, gS_pA, gS_pQ, gI_mk, gL_mk, gR_mk, gA_mk, gQ_mk, gK_mk, gN_mk, gS_mk, vn0, vn1, lt0, leN, ltN, eqN, eqM1, M1eq, le0n, eq0n, nI_add, nI_mul, ↓reduceIte, Nat.reduceAdd, Nat.reduceMul, Nat.reduceEqDiff, Nat.reduceLT, Nat.reduceLeDiff, and_true, true_and, and_false, false_and, and_self, reduceCtorEq, not_true_eq_false, not_false_eq_true, c1, c2, c4, k1, hTp.1, cls_wrongSet hTp, cls_elementAt hT hS]
  unfold stV stT
  cases hw : wset tp n with
  | some k =>
    have := wset_le hw
    exact ⟨_, ad, by simp only [wrongV, wrongV_ne (show k ≤ 2000 by omega), ↓uGI, ↓uGL, ↓uGR, ↓uPI, ↓uPL, ↓uPR, ↓uAL, ↓uQL, ↓uAS, ↓uQS, ↓uAN, ↓uCV, ↓oCL, ↓oNO, ↓uNA, ↓oNN, ↓oZ0, ↓oZ1, gI_pI, gI_pL, gI_pR, gI_pA, gI_pQ, gL_pI, gL_pL, gL_pR, gL_pA, gL_pQ, gR_pI, gR_pL, gR_pR, gR_pA, gR_pQ, gA_pI, gA_pL, gA_pR, gA_pA, gA_pQ, gQ_pI, gQ_pL, gQ_pR, gQ_pA, gQ_pQ, gK_pI, gK_pL, gK_pR, gK_pA, gK_pQ, gN_pI, gN_pL, gN_pR, gN_pA, gN_pQ, gS_pI, gS_pL, gS_pR, gS_pA, gS_pQ, gI_mk, gL_mk, gR_mk, gA_mk, gQ_mk, gK_mk, gN_mk, gS_mk, vn0, vn1, lt0, leN, ltN, eqN, eqM1, M1eq, le0n, eq0n, nI_add, nI_mul, ↓reduceIte, Nat.reduceAdd, Nat.reduceMul, Nat.reduceEqDiff, Nat.reduceLT, Nat.reduceLeDiff, and_true, true_and, and_false, false_and, and_self, reduceCtorEq, not_true_eq_false, not_false_eq_true, c1, c4, hTp.1], last h ad T hA hT hTp FrTA.rf⟩
  | none =>
    obtain ⟨hbad, hok, n0, nn, n8, n61⟩ := wset_none hw
    simp only [wrongV, ↓reduceIte, stR]
    cases he : eAt T v with
    | none => exact ⟨_, ad, by simp only [oN_n, ↓uGI, ↓uGL, ↓uGR, ↓uPI, ↓uPL, ↓uPR, ↓uAL, ↓uQL, ↓uAS, ↓uQS, ↓uAN, ↓uCV, ↓oCL, ↓oNO, ↓uNA, ↓oNN, ↓oZ0, ↓oZ1, gI_pI, gI_pL, gI_pR, gI_pA, gI_pQ, gL_pI, gL_pL, gL_pR, gL_pA, gL_pQ, gR_pI, gR_pL, gR_pR, gR_pA, gR_pQ, gA_pI, gA_pL, gA_pR, gA_pA, gA_pQ, gQ_pI, gQ_pL, gQ_pR, gQ_pA, gQ_pQ, gK_pI, gK_pL, gK_pR, gK_pA, gK_pQ, gN_pI, gN_pL, gN_pR, gN_pA, gN_pQ, gS_pI, gS_pL, gS_pR, gS_pA, gS_pQ, gI_mk, gL_mk, gR_mk, gA_mk, gQ_mk, gK_mk, gN_mk, gS_mk, vn0, vn1, lt0, leN, ltN, eqN, eqM1, M1eq, le0n, eq0n, nI_add, nI_mul, ↓reduceIte, Nat.reduceAdd, Nat.reduceMul, Nat.reduceEqDiff, Nat.reduceLT, Nat.reduceLeDiff, and_true, true_and, and_false, false_and, and_self, reduceCtorEq, not_true_eq_false, not_false_eq_true, c1, c4, hTp.1], last h ad T hA hT hTp FrTA.rf⟩
    | some i =>
      obtain ⟨hi, hu, ht17, rfl⟩ := eAt_some he
      obtain ⟨-, ⟨b1, b2, b3, b4, b5⟩, v1, v2, v3, v4, v5, v6, v7, v8, v9, -⟩ := hT.nd hi hu
      have hAS := (hS.2 i hu).at
      generalize hnl : nlen (fun k => tbv (tp k)) n 8 0 = nl at *
      have hpk := cls_packed hTp (show nl ≤ n by omega) n8 (fun k hk => hok k (by omega))
      have hv : vch (sl (fun k => tbv (tp k)) 0 nl) := sl_v (fun k hk => hok k (by omega))
      have hlen : (sl (fun k => tbv (tp k)) 0 nl).length ≤ 8 := by rw [sl_len]; exact n8
      have hnm := cls_named b4 v9 hAS hv hlen
      generalize hN : sl (fun k => tbv (tp k)) 0 nl = nm at *
      simp only [oN_s, some_ne, ↓reduceIte, ↓uGI, ↓uGL, ↓uGR, ↓uPI, ↓uPL, ↓uPR, ↓uAL, ↓uQL, ↓uAS, ↓uQS, ↓uAN, ↓uCV, ↓oCL, ↓oNO, ↓uNA, ↓oNN, ↓oZ0, ↓oZ1, gI_pI, gI_pL, gI_pR, gI_pA, gI_pQ, gL_pI, gL_pL, gL_pR, gL_pA, gL_pQ, gR_pI, gR_pL, gR_pR, gR_pA, gR_pQ, gA_pI, gA_pL, gA_pR, gA_pA, gA_pQ, gQ_pI, gQ_pL, gQ_pR, gQ_pA, gQ_pQ, gK_pI, gK_pL, gK_pR, gK_pA, gK_pQ, gN_pI, gN_pL, gN_pR, gN_pA, gN_pQ, gS_pI, gS_pL, gS_pR, gS_pA, gS_pQ, gI_mk, gL_mk, gR_mk, gA_mk, gQ_mk, gK_mk, gN_mk, gS_mk, vn0, vn1, lt0, leN, ltN, eqN, eqM1, M1eq, le0n, eq0n, nI_add, nI_mul, ↓reduceIte, Nat.reduceAdd, Nat.reduceMul, Nat.reduceEqDiff, Nat.reduceLT, Nat.reduceLeDiff, and_true, true_and, and_false, false_and, and_self, reduceCtorEq, not_true_eq_false, not_false_eq_true, c1, c4, hTp.1, cls_nlen hTp, hnl, hpk, b1, b3, b4.1, hnm]
      unfold setL
      cases hf : fnd nm (tAtt T i) 0 with
      | some j =>
        have hj := (fnd_lt _ _ _ hf).2
        rw [Nat.zero_add] at hj
        obtain ⟨q1, q2, q3⟩ := b4.k5 v9 hAS hj
        have F1 : Fr (fun f a => f = 2 ∧ a = ad 5 i j) (fun a => a = ad 6 i j) h (pI h 2 (ad 5 i j) (nI 0)) := Fr.pI Fr.rf ⟨rfl, rfl⟩
        have V1 := cls_attZero hA.1 v9 hj
        obtain ⟨h2, g2, V2, F2⟩ := cls_setLoop (x := sg 0) (t := sg 1) (tb := sg 2) hA.1 (hns 6 i j 2) hok (n - (nl + 1)) FU (nl + 1) _ _ (by omega) (by have := FU_ge; omega) (F1.CB hcb) (hTp.fr F1 (by omega) (fun z => hns _ _ _ _ z.symm)) (b4.eq rfl rfl rfl rfl) V1 (hAS.setV hj (by simp) (fun c hc => by cases hc)) (by rw [setV_len]; exact hj) ⟨b1, b3⟩
        have F3 := F1.tr F2
        rw [setV_get _ hj, if_pos rfl, setV_setV _ hj] at V2
        have A2 := hA.eq F3.2.2.2.2.2.2.1 F3.2.2.2.2.2.2.2 F3.2.2.2.2.2.1
        have FX : FrX (OwA h2 ad i) h h2 := F3.x (fun f a z => ⟨5, j, by omega, z.2, by rw [z.2, F3.2.2.2.2.2.2.1]; exact hA.md q1⟩) (fun a z => ⟨6, j, by omega, z, by rw [z, F3.2.2.2.2.2.2.1]; exact hA.md q3⟩)
        have C2 := hT.att hA A2 (fun _ _ _ _ => rfl) h0 hi hu hS FX (b4.eq F3.2.2.1 F3.2.2.2.2.2.1 F3.2.2.2.2.1 F3.2.2.2.2.2.2.1) V2
        have T2 := hTp.fr F3 (by omega) (fun z => hns _ _ _ _ z.symm)
        have D2 := F3.CB hcb
        refine ⟨pI h2 301 (sg 1) (nI 0), ad, ?_, last h2 ad _ A2 C2 T2 ⟨FX.mo (fun a z => Or.inl ⟨i, hi, z.own⟩), ExtT.same F3.2.2.2.2.2.2.1⟩⟩
        simp only [Option.map_some, some_ne, ↓reduceIte, fX8_setAttribute_76, ↓uGI, ↓uGL, ↓uGR, ↓uPI, ↓uPL, ↓uPR, ↓uAL, ↓uQL, ↓uAS, ↓uQS, ↓uAN, ↓uCV, ↓oCL, ↓oNO, ↓uNA, ↓oNN, ↓oZ0, ↓oZ1, gI_pI, gI_pL, gI_pR, gI_pA, gI_pQ, gL_pI, gL_pL, gL_pR, gL_pA, gL_pQ, gR_pI, gR_pL, gR_pR, gR_pA, gR_pQ, gA_pI, gA_pL, gA_pR, gA_pA, gA_pQ, gQ_pI, gQ_pL, gQ_pR, gQ_pA, gQ_pQ, gK_pI, gK_pL, gK_pR, gK_pA, gK_pQ, gN_pI, gN_pL, gN_pR, gN_pA, gN_pQ, gS_pI, gS_pL, gS_pR, gS_pA, gS_pQ, gI_mk, gL_mk, gR_mk, gA_mk, gQ_mk, gK_mk, gN_mk, gS_mk, vn0, vn1, lt0, leN, ltN, eqN, eqM1, M1eq, le0n, eq0n, nI_add, nI_mul, ↓reduceIte, Nat.reduceAdd, Nat.reduceMul, Nat.reduceEqDiff, Nat.reduceLT, Nat.reduceLeDiff, and_true, true_and, and_false, false_and, and_self, reduceCtorEq, not_true_eq_false, not_false_eq_true, q1, g2, D2.1, D2.2.1, T2.1, setV_len]
      | none =>
        by_cases hl : (tAtt T i).length < 4
        · obtain ⟨h1, ad1, g1, A1, B1, V1, E1, S1, F1⟩ := cls_attGrow (nm := nm) hA (by omega) b4 v9 hl
          have hlen1 : (tAtt T i).length < (tAtt T i ++ [(nm, [])]).length := by simp
          have S1s := hAS.snoc hl hlen hv (w := []) (by simp) (fun c hc => by cases hc)
          have w1 : ∀ a, (∀ c k j, k = i → a ≠ ad1 c k j) → ¬ OwA h1 ad1 i a := fun a z y => by
            obtain ⟨c, j, -, e, -⟩ := y
            exact z c i j rfl e
          have ns1 : ∀ k, ¬ OwA h1 ad1 i (sg k) := fun k => w1 _ (fun c i j _ z => A1.2.2.1 _ _ _ _ z.symm)
          have C1 := hcb.fx F1 (ns1 0)
          have T1 := hTp.fx F1 (ns1 1) (ns1 2)
          have e1 : ad1 1 i 0 = ad 1 i 0 := S1 1 i 0 (by omega)
          have e2 : ad1 2 i 0 = ad 2 i 0 := S1 2 i 0 (by omega)
          have x1 := F1 (ad 1 i 0) (fun z => by
            obtain ⟨c, j, hc, e, -⟩ := z
            rw [← e1, A1.1.e] at e
            omega)
          have K1 : NdK h1 ad1 i := ⟨by rw [e1, x1.2.2.2.2.2]; exact b1, by rw [e1, e2, x1.2.2.1]; exact b3⟩
          obtain ⟨q1, q2, q3⟩ := B1.k5 V1 S1s hlen1
          have G1 : Fr (fun f a => f = 2 ∧ a = ad1 5 i (tAtt T i).length) (fun a => a = ad1 6 i (tAtt T i).length) h1 (pI h1 2 (ad1 5 i (tAtt T i).length) (nI 0)) := Fr.pI Fr.rf ⟨rfl, rfl⟩
          have V1' := cls_attZero A1.1 V1 hlen1
          obtain ⟨h2, g2, V2, F2⟩ := cls_setLoop (x := sg 0) (t := sg 1) (tb := sg 2) A1.1 (A1.2.2.1 6 i (tAtt T i).length 2) hok (n - (nl + 1)) FU (nl + 1) _ _ (by omega) (by have := FU_ge; omega) (G1.CB C1) (T1.fr G1 (by omega) (fun z => A1.2.2.1 _ _ _ _ z.symm)) (B1.eq rfl rfl rfl rfl) V1' (S1s.setV hlen1 (by simp) (fun c hc => by cases hc)) (by rw [setV_len]; exact hlen1) K1
          have F3 := G1.tr F2
          rw [setV_get _ hlen1, if_pos rfl, setV_setV _ hlen1, setV_snoc] at V2
          have A2 := A1.eq F3.2.2.2.2.2.2.1 F3.2.2.2.2.2.2.2 F3.2.2.2.2.2.1
          have E2 : Ext h1 ad1 h2 ad1 := Ext.same F3.2.2.2.2.2.2.1
          have FX : FrX (OwA h2 ad1 i) h h2 := (F1.mo (fun a z => z.ext E2)).tr (F3.x (fun f a z => ⟨5, _, by omega, z.2, by rw [z.2, F3.2.2.2.2.2.2.1]; exact A1.md q1⟩) (fun a z => ⟨6, _, by omega, z, by rw [z, F3.2.2.2.2.2.2.1]; exact A1.md q3⟩))
          have C2 := hT.att hA A2 S1 h0 hi hu hS FX (B1.eq F3.2.2.1 F3.2.2.2.2.2.1 F3.2.2.2.2.1 F3.2.2.2.2.2.2.1) V2
          have T2 := T1.fr F3 (by omega) (fun z => A1.2.2.1 _ _ _ _ z.symm)
          have D2 := F3.CB C1
          refine ⟨pI h2 301 (sg 1) (nI 0), ad1, ?_, ?_⟩
          · rw [e1] at g2
            simp only [Option.map_none, ↓reduceIte, ↓uGI, ↓uGL, ↓uGR, ↓uPI, ↓uPL, ↓uPR, ↓uAL, ↓uQL, ↓uAS, ↓uQS, ↓uAN, ↓uCV, ↓oCL, ↓oNO, ↓uNA, ↓oNN, ↓oZ0, ↓oZ1, gI_pI, gI_pL, gI_pR, gI_pA, gI_pQ, gL_pI, gL_pL, gL_pR, gL_pA, gL_pQ, gR_pI, gR_pL, gR_pR, gR_pA, gR_pQ, gA_pI, gA_pL, gA_pR, gA_pA, gA_pQ, gQ_pI, gQ_pL, gQ_pR, gQ_pA, gQ_pQ, gK_pI, gK_pL, gK_pR, gK_pA, gK_pQ, gN_pI, gN_pL, gN_pR, gN_pA, gN_pQ, gS_pI, gS_pL, gS_pR, gS_pA, gS_pQ, gI_mk, gL_mk, gR_mk, gA_mk, gQ_mk, gK_mk, gN_mk, gS_mk, vn0, vn1, lt0, leN, ltN, eqN, eqM1, M1eq, le0n, eq0n, nI_add, nI_mul, ↓reduceIte, Nat.reduceAdd, Nat.reduceMul, Nat.reduceEqDiff, Nat.reduceLT, Nat.reduceLeDiff, and_true, true_and, and_false, false_and, and_self, reduceCtorEq, not_true_eq_false, not_false_eq_true, b1, b3, b4.1, g1, hl, Option.map_some, fX8_setAttribute_76, some_ne, q1, g2, D2.1, D2.2.1, T2.1, setV_len, List.length_append, List.length_cons, List.length_nil]
          · rw [if_pos hl]
            exact last h2 ad1 _ A2 C2 T2 ⟨FX.mo (fun a z => Or.inl ⟨i, hi, z.own⟩), E1.tr E2, fun c j => S1 c 120 j (by omega)⟩
        · have h4 : (tAtt T i).length = 4 := by have := hAS.1; omega
          refine ⟨pI h 301 (sg 1) (nI 0), ad, ?_, ?_⟩
          · simp only [Option.map_none, ↓reduceIte, ↓uGI, ↓uGL, ↓uGR, ↓uPI, ↓uPL, ↓uPR, ↓uAL, ↓uQL, ↓uAS, ↓uQS, ↓uAN, ↓uCV, ↓oCL, ↓oNO, ↓uNA, ↓oNN, ↓oZ0, ↓oZ1, gI_pI, gI_pL, gI_pR, gI_pA, gI_pQ, gL_pI, gL_pL, gL_pR, gL_pA, gL_pQ, gR_pI, gR_pL, gR_pR, gR_pA, gR_pQ, gA_pI, gA_pL, gA_pR, gA_pA, gA_pQ, gQ_pI, gQ_pL, gQ_pR, gQ_pA, gQ_pQ, gK_pI, gK_pL, gK_pR, gK_pA, gK_pQ, gN_pI, gN_pL, gN_pR, gN_pA, gN_pQ, gS_pI, gS_pL, gS_pR, gS_pA, gS_pQ, gI_mk, gL_mk, gR_mk, gA_mk, gQ_mk, gK_mk, gN_mk, gS_mk, vn0, vn1, lt0, leN, ltN, eqN, eqM1, M1eq, le0n, eq0n, nI_add, nI_mul, ↓reduceIte, Nat.reduceAdd, Nat.reduceMul, Nat.reduceEqDiff, Nat.reduceLT, Nat.reduceLeDiff, and_true, true_and, and_false, false_and, and_self, reduceCtorEq, not_true_eq_false, not_false_eq_true, b1, b3, b4.1, cls_attFull b4 v9 h4, hl, fX8_setAttribute_76, c1, c4, hTp.1]
          · rw [if_neg hl]
            exact last h ad T hA hT hTp FrTA.rf

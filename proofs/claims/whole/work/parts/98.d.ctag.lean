/-! a TAG is read: the class -/
def tgE (tx : Nat → Nat) (N p : Nat) : Bool := hbA tx N (p + 1) 47
def tgQ (tx : Nat → Nat) (N p : Nat) : Nat := if tgE tx N p = true then p + 2 else p + 1
def tgN (tx : Nat → Nat) (N p : Nat) : List Nat × Nat := tnm tx (N - tgQ tx N p) (tgQ tx N p) []
def tgA (e : Bool) (tx : Nat → Nat) (N p : Nat) : Nat × AttL × List Nat := atL e tx N (N - (tgN tx N p).2) (tgN tx N p).2 [] []
theorem atL_end {tx : Nat → Nat} {N : Nat} : ∀ (j q : Nat) (L : AttL) (tw : List Nat), (atL true tx N j q L tw).2 = (L, tw) := by
  intro j
  induction j with
  | zero => intro q L tw; rfl
  | succ j ih =>
    intro q L tw
    unfold atL
    have e : ∀ nm w p, adL true L tw nm w p = (L, tw) := fun nm w p => by unfold adL; rw [if_pos rfl]
    simp only [e]
    split
    · split
      · rfl
      · split
        · exact ih _ _ _
        · exact ih _ _ _
    · rfl
theorem atL_pos {e e' : Bool} {tx : Nat → Nat} {N : Nat} : ∀ (j q : Nat) (L L' : AttL) (tw tw' : List Nat), (atL e tx N j q L tw).1 = (atL e' tx N j q L' tw').1 := by
  intro j
  induction j with
  | zero => intro q L L' tw tw'; rfl
  | succ j ih =>
    intro q L L' tw tw'
    unfold atL
    split
    · split
      · rfl
      · split
        · exact ih _ _ _ _ _
        · exact ih _ _ _ _ _
    · rfl
theorem atL_le {e : Bool} {tx : Nat → Nat} {N : Nat} : ∀ (j q : Nat) (L : AttL) (tw : List Nat), q ≤ N → q ≤ (atL e tx N j q L tw).1 ∧ (atL e tx N j q L tw).1 ≤ N ∧ (atL e tx N j q L tw).2.2.length ≤ tw.length + ((atL e tx N j q L tw).1 - q) := by
  intro j
  induction j with
  | zero => intro q L tw h; exact ⟨Nat.le_refl _, h, by simp [atL]⟩
  | succ j ih =>
    intro q L tw h
    unfold atL
    split
    · split
      · exact ⟨Nat.le_refl _, h, by simp⟩
      · split
        · obtain ⟨a, b, c⟩ := ih (q + 1) L tw (by omega)
          exact ⟨by omega, b, by omega⟩
        · have hle := a1E_le (tx := tx) (by assumption : q < N)
          have hal := adL_len (e := e) (L := L) (tw := tw) (nm := (an0 tx N q).1) (w := a1W tx N q) (p := q)
          obtain ⟨a, b, c⟩ := ih (a1E tx N q) (adL e L tw (an0 tx N q).1 (a1W tx N q) q).1 (adL e L tw (an0 tx N q).1 (a1W tx N q) q).2 hle.2
          exact ⟨by omega, b, by omega⟩
    · exact ⟨Nat.le_refl _, h, by simp⟩
theorem isTg_lt {tx : Nat → Nat} {N p : Nat} (h : isTg tx N p = true) : p < N ∧ tgQ tx N p < N := by
  unfold isTg at h
  rw [Bool.and_eq_true] at h
  refine ⟨hbA_lt h.1, ?_⟩
  have h2 := h.2
  unfold tgQ tgE
  have hlt : ∀ q, ltA tx N q = true → q < N := fun q hq => by unfold ltA at hq; simp at hq; exact hq.1
  split at h2
  · rename_i z; rw [if_pos z]; exact hlt _ h2
  · rename_i z; rw [if_neg z]; exact hlt _ h2
/-- what a TAG leaves -/
def tsT (T : TS) (fl : FL) (os : OS) (tx : Nat → Nat) (N p : Nat) : TS := if (tgA (tgE tx N p) tx N p).1 < N then (if tgE tx N p = true then T else sgT T (cbS T (tagN (tgN tx N p).1) (fl ++ g2L (tgA false tx N p).2.2) os p).2 (tgN tx N p).1 (tgA false tx N p).2.1) else T
def tsF (T : TS) (fl : FL) (os : OS) (tx : Nat → Nat) (N p : Nat) : FL := if (tgA (tgE tx N p) tx N p).1 < N then (if tgE tx N p = true then enF T fl os (tgN tx N p).1 p else sgF T (cbS T (tagN (tgN tx N p).1) (fl ++ g2L (tgA false tx N p).2.2) os p).1 (cbS T (tagN (tgN tx N p).1) (fl ++ g2L (tgA false tx N p).2.2) os p).2 p) else fl ++ [(nI 1, nI p)]
def tsO (T : TS) (fl : FL) (os : OS) (tx : Nat → Nat) (N p : Nat) : OS := if (tgA (tgE tx N p) tx N p).1 < N then (if tgE tx N p = true then enO T os (tgN tx N p).1 else sgO T (cbS T (tagN (tgN tx N p).1) (fl ++ g2L (tgA false tx N p).2.2) os p).2 (tgN tx N p).1 p) else os
def tsP (tx : Nat → Nat) (N p : Nat) : Nat := if (tgA (tgE tx N p) tx N p).1 < N then (tgA (tgE tx N p) tx N p).1 + 1 else N
theorem St.trunc {h0 h : AH} {ad0 ad : Nat → Nat → Nat → Nat} {bs s0 n p : Nat} {sg : Nat → Nat} {tp : Nat → Int32} {ol : OLA} {T : TS} {fl x : FL} {os : OS} (q : St h0 ad0 bs s0 sg n tp ol h ad T (fl ++ x) os p) : St h0 ad0 bs s0 sg n tp ol (pI h 102 (sg 5) (nI fl.length)) ad T fl os p := by
  have w : Fr (fun f a => f = 102 ∧ a = sg 5) (fun _ => False) h (pI h 102 (sg 5) (nI fl.length)) := Fr.pI Fr.rf ⟨rfl, rfl⟩
  obtain ⟨q1, q2, q3, q4, q5⟩ := id q
  obtain ⟨f1, f2, f3, f4, f5, f6, f7, f8, f9⟩ := q2.2.2.2.1
  refine q.put w (fun f a z => ⟨by unfold treeF; omega, by omega, by omega, 5, by omega, z.2⟩) (fun a z => z.elim) ⟨f1, f2, f3, f4, f5, f6, by rw [gI_pI, if_pos ⟨rfl, rfl⟩], by rw [List.length_append] at f8; omega, fun i h1 h2 => ?_⟩ ⟨by rw [w.1 _ _ (by omega)]; exact q3.1, q3.2⟩ (by rw [w.1 _ _ (by omega)]; exact q4)
  have := f9 i h1 (by rw [List.length_append]; omega)
  rw [List.getD_eq_getElem?_getD, List.getElem?_append_left h2, ← List.getD_eq_getElem?_getD] at this
  exact this
theorem atL_ok {e : Bool} {tx : Nat → Nat} {N : Nat} (hok : ∀ k, k < N → okb (tx k) = true) : ∀ (j q : Nat) (L : AttL) (tw : List Nat), AtS L → AtS (atL e tx N j q L tw).2.1 := by
  intro j
  induction j with
  | zero => intro q L tw h; exact h
  | succ j ih =>
    intro q L tw h
    unfold atL
    split
    · rename_i hq
      split
      · exact h
      · split
        · exact ih _ _ _ h
        · have hnm := anm_ok (tx := tx) (N - (q + 1)) (q + 1) [toSm (tx q)] (fun k a b => hok k (by omega)) (fun c hc => by rw [List.mem_singleton] at hc; rw [hc]; exact toSm_v (hok q hq)) (by simp)
          exact ih _ _ _ (adL_ok h hnm.2 hnm.1 (a1W_b hok))
    · exact h
theorem cls_readTag {h0 h : AH} {ad0 ad : Nat → Nat → Nat → Nat} {bs s0 n p : Nat} {sg : Nat → Nat} {tp : Nat → Int32} {ol : OLA} {T : TS} {kd : Nat → List Nat} {fl : FL} {os : OS} (hn : n ≤ 1500) (hok : ∀ q, q < n → okb (tbv (tp q)) = true) (w : Wf T kd) (hS : SizT T) (hOs : OsOk T os) (hl : fl.length + 2000 < 1000000) (htg : isTg (fun k => tbv (tp k)) n p = true) (q : St h0 ad0 bs s0 sg n tp ol h ad T fl os p) :
    ∃ h' ad' L', fX5_readTag (some (sg 10)) h = some ((), h') ∧ St h0 ad0 bs s0 sg n tp (ol.1, L') h' ad' (tsT T fl os (fun k => tbv (tp k)) n p) (tsF T fl os (fun k => tbv (tp k)) n p) (tsO T fl os (fun k => tbv (tp k)) n p) (tsP (fun k => tbv (tp k)) n p) := by
  obtain ⟨hp, hq0⟩ := isTg_lt htg
  obtain ⟨r0, r1, r2, r3, -⟩ := id q.rd
  have hb := tape_byteAt q.tp (show p + 1 < 2 ^ 31 by omega)
  have hfl := q.fa.2.2.2.2.2.2.1
  -- to the loop of the ATTRIBUTES
  have h48 : fX5_readTag (some (sg 10)) h = fX5_readTag_48 (some (sg 10)) (nI p) (nI fl.length) (bI (tgE (fun k => tbv (tp k)) n p)) (nI (tgQ (fun k => tbv (tp k)) n p)) (some (sg 10)) h := by
    simp only [fX5_readTag, fX5_readTag_0, fX5_readTag_33]
    simp (disch := omega) only [↓gi_of r0 q.2.2.2.1, ↓gr_of r0 r3, ↓gi_of q.fa.1 hfl, ↓gr_of r0 r1, nI_add, ↓cv_of q.tp.1 hb, bt_hb, eq0n, Nat.reduceEqDiff, ↓reduceIte]
    unfold tgQ tgE
    by_cases h47 : hbA (fun k => tbv (tp k)) n (p + 1) 47 = true
    · rw [if_pos h47, if_pos h47, h47]; rfl
    · rw [if_neg h47, if_neg h47]
      rw [Bool.not_eq_true] at h47
      rw [h47]; rfl
  have hnm0 := tnm_le (tx := fun k => tbv (tp k)) (fun k => Or.inr trivial) (n - tgQ (fun k => tbv (tp k)) n p) (tgQ (fun k => tbv (tp k)) n p) []
  have hnm1 := tnm_ok (tx := fun k => tbv (tp k)) (n - tgQ (fun k => tbv (tp k)) n p) (tgQ (fun k => tbv (tp k)) n p) [] (fun k a b => hok k (by omega)) (fun c hc => by cases hc) (by simp)
  obtain ⟨h1, g1, S1⟩ := cls_tagName_L (by omega) hok (n - tgQ (fun k => tbv (tp k)) n p) FU (tgQ (fun k => tbv (tp k)) n p) (pI h 257 (sg 10) (nI (tgQ (fun k => tbv (tp k)) n p))) [] (by omega) (by have := FU_ge; omega) (fun c hc => by cases hc) (by simp) (q.at _)
  have eN : tnm (fun k => tbv (tp k)) (n - tgQ (fun k => tbv (tp k)) n p) (tgQ (fun k => tbv (tp k)) n p) [] = tgN (fun k => tbv (tp k)) n p := rfl
  rw [eN] at g1 S1 hnm0 hnm1
  rw [show lN (pack ([] : List Nat)) = 0 from rfl] at g1
  obtain ⟨x0, x1, x2, x3, x4, -⟩ := id S1.rd
  have hB1 := S1.2.1.2.2.2.2.2.2
  have S2 := S1.seen (h' := pI h1 51 (ad 2 120 0) (nI 0)) (ad' := ad) (L' := []) hS (S1.1.eq rfl rfl rfl) (fun _ _ _ _ => rfl) (Ext.same rfl) (FrX.pI FrX.rf ⟨2, 0, by omega, rfl, S1.1.md hB1.1⟩) (AtB.pI hB1) ⟨by rw [gI_pI, if_pos ⟨rfl, rfl⟩]; rfl, fun j hj => by simp at hj⟩
  have S2' : StL h0 ad0 bs s0 sg n tp ol.1 (pI h1 51 (ad 2 120 0) (nI 0)) ad T (fl ++ g2L []) os (tgN (fun k => tbv (tp k)) n p).2 [] := by
    refine ⟨?_, S2.2.2.2.2.2, ⟨by simp, fun x hx => by cases hx⟩⟩
    show St h0 ad0 bs s0 sg n tp (ol.1, []) _ ad T (fl ++ []) os _
    rw [List.append_nil]
    exact S2
  obtain ⟨h3, ad3, g3, S3⟩ := cls_atts (e := tgE (fun k => tbv (tp k)) n p) (v1 := nI p) (v2 := nI fl.length) (v4 := lN (pack (tgN (fun k => tbv (tp k)) n p).1)) (by omega) hok hS (n - (tgN (fun k => tbv (tp k)) n p).2) FU (tgN (fun k => tbv (tp k)) n p).2 p (pI h1 51 (ad 2 120 0) (nI 0)) ad [] [] (by omega) (by omega) (by unfold tgQ at hnm0; split at hnm0 <;> omega) (by have := FU_ge; omega) (by simp; omega) S2'
  have eA : atL (tgE (fun k => tbv (tp k)) n p) (fun k => tbv (tp k)) n (n - (tgN (fun k => tbv (tp k)) n p).2) (tgN (fun k => tbv (tp k)) n p).2 [] [] = tgA (tgE (fun k => tbv (tp k)) n p) (fun k => tbv (tp k)) n p := rfl
  rw [eA] at S3
  have hAle := atL_le (e := tgE (fun k => tbv (tp k)) n p) (tx := fun k => tbv (tp k)) (N := n) (n - (tgN (fun k => tbv (tp k)) n p).2) (tgN (fun k => tbv (tp k)) n p).2 [] [] (by omega)
  rw [eA] at hAle
  have hend : tgE (fun k => tbv (tp k)) n p = true → (tgA (tgE (fun k => tbv (tp k)) n p) (fun k => tbv (tp k)) n p).2 = ([], []) := fun z => by
    rw [z]
    exact atL_end _ _ _ _
  have key : fX5_readTag (some (sg 10)) h = fX5_readTag_151 (some (sg 10)) (nI p) (nI fl.length) (bI (tgE (fun k => tbv (tp k)) n p)) (lN (pack (tgN (fun k => tbv (tp k)) n p).1)) h3 := by
    rw [h48]
    have gn : fX5_readTagName (some (sg 10)) (pI h 257 (sg 10) (nI (tgQ (fun k => tbv (tp k)) n p))) = some (lN (pack (tgN (fun k => tbv (tp k)) n p).1), h1) := g1
    have r0' : gK (pI h 257 (sg 10) (nI (tgQ (fun k => tbv (tp k)) n p))) (sg 10) = (6, 0) := r0
    simp only [fX5_readTag_48]
    simp only [↓pi_of r0, ↓cv_of r0' gn, ↓gr_of x0 x4, ↓pi_of hB1.1]
    exact g3
  rw [key]
  obtain ⟨y0, y1, y2, y3, -⟩ := id S3.1.rd
  unfold tsT tsF tsO tsP
  simp only [fX5_readTag_151, fX5_readTag_214]
  simp (disch := omega) only [↓gi_of y0 S3.1.2.2.2.1, ↓gr_of y0 y1, ↓gi_of S3.1.tp.1 S3.1.tp.2.2.2.1, ltN]
  by_cases hlt : (tgA (tgE (fun k => tbv (tp k)) n p) (fun k => tbv (tp k)) n p).1 < n
  · simp only [hlt, ↓reduceIte, ↓gi_of y0 S3.1.2.2.2.1, ↓pi_of y0, nI_add, bI0]
    have S4 := S3.at ((tgA (tgE (fun k => tbv (tp k)) n p) (fun k => tbv (tp k)) n p).1 + 1)
    have y0' : gK (pI h3 257 (sg 10) (nI ((tgA (tgE (fun k => tbv (tp k)) n p) (fun k => tbv (tp k)) n p).1 + 1))) (sg 10) = (6, 0) := y0
    cases he : tgE (fun k => tbv (tp k)) n p with
    | true =>
      have e2 := hend he
      rw [he] at S4 y0' e2
      rw [e2] at S4
      have S5 : St h0 ad0 bs s0 sg n tp (ol.1, []) (pI h3 257 (sg 10) (nI ((tgA true (fun k => tbv (tp k)) n p).1 + 1))) ad3 T fl os ((tgA true (fun k => tbv (tp k)) n p).1 + 1) := by
        have := S4.1
        rw [show fl ++ g2L (([], []) : AttL × List Nat).2 = fl from List.append_nil fl] at this
        exact this
      obtain ⟨h5, g5, S6⟩ := cls_takeEnd (p0 := p) (nm := (tgN (fun k => tbv (tp k)) n p).1) hS hOs hnm1.1 hnm1.2 (by omega) S5
      refine ⟨h5, ad3, [], ?_, by simp only [↓reduceIte]; exact S6⟩
      simp only [Bool.true_eq_false, ↓reduceIte, ↓cv_of y0' g5]
    | false =>
      rw [he] at S4 y0' hAle
      have htw : (tgA false (fun k => tbv (tp k)) n p).2.2.length ≤ 1500 := by have := hAle.2.2; simp at this; omega
      have hlen : (fl ++ g2L (tgA false (fun k => tbv (tp k)) n p).2.2).length + 100 < 1000000 := by rw [List.length_append]; unfold g2L; rw [List.length_map]; omega
      obtain ⟨h5, ad5, g5, S6⟩ := cls_takeStart (p0 := p) (nm := (tgN (fun k => tbv (tp k)) n p).1) w hS hOs hnm1.1 hnm1.2 (show AtS ((ol.1, (tgA false (fun k => tbv (tp k)) n p).2.1) : OLA).2 from S4.2.2) hlen S4.1
      refine ⟨h5, ad5, _, ?_, by simp only [Bool.false_eq_true, ↓reduceIte]; exact S6⟩
      simp only [↓reduceIte, ↓cv_of y0' g5]
  · simp only [hlt, ↓reduceIte]
    have S4 := S3.1.trunc
    obtain ⟨h5, g5, S5⟩ := S4.tell (by omega) (nI 1) (nI p)
    obtain ⟨z0, z1, z2, z3, -⟩ := id S4.rd
    have en : (tgA (tgE (fun k => tbv (tp k)) n p) (fun k => tbv (tp k)) n p).1 = n := by omega
    rw [en] at S5
    refine ⟨h5, ad3, _, ?_, S5⟩
    simp only [↓gr_of y0 y3, ↓pi_of S3.1.fa.1, ↓gr_of z0 z3, ↓cv_of S4.fa.1 g5]

/-! a TAG is read: its NAME, the ATTRIBUTES that are seen -/
theorem ClsT.seen {h h' : AH} {bs s0 : Nat} {sg : Nat → Nat} {ad ad' : Nat → Nat → Nat → Nat} {T : TS} (q : ClsT h ad (sg 8) (sg 9) T) (hS : SizT T) (hA : AdOk h bs s0 sg ad) (hA' : AdOk h' bs s0 sg ad') (hE : ∀ c k j, k ≠ 120 ∨ c ≤ 4 → ad' c k j = ad c k j) (w : FrX (OwA h' ad' 120) h h') : ClsT h' ad' (sg 8) (sg 9) T := by
  have no : ∀ k, ¬ OwA h' ad' 120 (sg k) := fun k z => by
    obtain ⟨c, j, -, e, -⟩ := z
    exact hA'.2.2.1 _ _ _ _ e.symm
  obtain ⟨q1, q2, q3, q4, q5, q6⟩ := q
  have x8 := w (sg 8) (no 8)
  have x9 := w (sg 9) (no 9)
  refine ⟨by rw [x8.2.2.2.2.2]; exact q1, by rw [x8.2.2.1]; exact q2, by rw [x9.2.2.2.2.2]; exact q3, by rw [x8.2.2.1, hE 1 0 0 (by omega)]; exact q4, by rw [x8.1]; exact q5, fun i hi => (q6 i hi).tr rfl (fun _ => TSame.rf) (fun c j => hE c i j (by omega)) (fun hu k hk => hE 1 k 0 (by omega)) w (fun c j _ _ z => ?_) (x9.2.2.2.2.1 i) (fun c j z => hA.un hA'.lt z)⟩
  obtain ⟨c', j', -, e, -⟩ := z
  rw [← hE c i j (by omega), hA'.1.e] at e
  omega
theorem St.seen {h0 h h' : AH} {ad0 ad ad' : Nat → Nat → Nat → Nat} {bs s0 n p : Nat} {sg : Nat → Nat} {tp : Nat → Int32} {ol : OLA} {T : TS} {fl : FL} {os : OS} (q : St h0 ad0 bs s0 sg n tp ol h ad T fl os p) (hS : SizT T) (A' : AdOk h' bs s0 sg ad') (hE : ∀ c k j, k ≠ 120 ∨ c ≤ 4 → ad' c k j = ad c k j) (e : Ext h ad h' ad') (w : FrX (OwA h' ad' 120) h h') (hB' : AtB h' ad' 120) {L' : AttL} (hV' : AtV h' ad' 120 L') : St h0 ad0 bs s0 sg n tp (ol.1, L') h' ad' T fl os p := by
  obtain ⟨q1, ⟨c1, c2, c3, c4, c5, c6, c7⟩, q3, q4, q5, -⟩ := q
  have no : ∀ k, ¬ OwA h' ad' 120 (sg k) := fun k z => by
    obtain ⟨c, j, -, e, -⟩ := z
    exact A'.2.2.1 _ _ _ _ e.symm
  have x10 := w (sg 10) (no 10)
  have x11 := w (sg 11) (no 11)
  have x12 := w (sg 12) (no 12)
  refine ⟨A', ⟨c1.fx w (no 0), c2.fx w (no 1) (no 2), c3.fx w (no 3) (no 4), c4.fx w (no 5) (no 6) (no 7), c5.seen hS q1 A' hE w, ?_, hB'⟩, ⟨by rw [x10.1]; exact q3.1, fun k hk => ?_⟩, by rw [x10.1]; exact q4, q5.tr ⟨w.mo (fun a z => ?_), e⟩, hV'⟩
  · unfold PR
    rw [x10.2.2.1, x10.2.2.1, x10.2.2.1, x10.2.2.1, x10.2.2.1, x10.2.2.1, x10.2.2.2.2.2, x11.2.2.2.2.2, x12.2.2.2.2.2, hE 2 120 0 (by omega)]
    exact c6
  · rw [x11.2.2.2.2.1, x12.2.2.2.1, hE 1 _ 0 (by omega)]
    exact q3.2 k hk
  · obtain ⟨c, j, -, e1, e2⟩ := z
    exact Or.inl ⟨c, 120, j, e1, e2⟩
/-- with the ATTRIBUTES seen -/
def StL (h0 : AH) (ad0 : Nat → Nat → Nat → Nat) (bs s0 : Nat) (sg : Nat → Nat) (n : Nat) (tp : Nat → Int32) (ol : List Int32) (h : AH) (ad : Nat → Nat → Nat → Nat) (T : TS) (fl : FL) (os : OS) (p : Nat) (L : AttL) : Prop := St h0 ad0 bs s0 sg n tp (ol, L) h ad T fl os p ∧ AtV h ad 120 L ∧ AtS L
theorem StL.at {h0 h : AH} {ad0 ad : Nat → Nat → Nat → Nat} {bs s0 n p : Nat} {sg : Nat → Nat} {tp : Nat → Int32} {ol : List Int32} {T : TS} {fl : FL} {os : OS} {L : AttL} (q : StL h0 ad0 bs s0 sg n tp ol h ad T fl os p L) (v : Nat) : StL h0 ad0 bs s0 sg n tp ol (pI h 257 (sg 10) (nI v)) ad T fl os v L :=
  ⟨q.1.at v, q.2.1.pI (by omega), q.2.2⟩
theorem StL.tell {h0 h : AH} {ad0 ad : Nat → Nat → Nat → Nat} {bs s0 n p : Nat} {sg : Nat → Nat} {tp : Nat → Int32} {ol : List Int32} {T : TS} {fl : FL} {os : OS} {L : AttL} (q : StL h0 ad0 bs s0 sg n tp ol h ad T fl os p L) (hl : fl.length + 1 < 1000000) (a b : Int32) : ∃ h', fX2_tell (some (sg 5)) a b h = some ((), h') ∧ StL h0 ad0 bs s0 sg n tp ol h' ad T (fl ++ [(a, b)]) os p L := by
  obtain ⟨h1, g1, S1⟩ := q.1.tell hl a b
  obtain ⟨h1', g1', -, F1⟩ := cls_tell q.1.fa hl a b
  rw [g1] at g1'
  cases g1'
  refine ⟨h1, g1, S1, q.2.1.fr (fun f a hf => F1.1 f a (fun z => by unfold treeF at hf; omega)) F1.2.1 F1.2.2.2.2.1 (fun j k => F1.2.2.2.1 _ _ (fun z => ?_)), q.2.2⟩
  rcases z with z | z
  · exact q.1.1.2.2.1 _ _ _ _ z
  · exact q.1.1.2.2.1 _ _ _ _ z
def tnm (tx : Nat → Nat) : Nat → Nat → List Nat → List Nat × Nat
  | 0, q, l => (l, q)
  | j + 1, q, l => if (isLt (tx q) || isDg (tx q)) = true then tnm tx j (q + 1) (nadd l (toSm (tx q))) else (l, q)
theorem tnm_le {tx : Nat → Nat} (hok : ∀ k, 0 < tx k ∧ tx k < 128 ∨ True) : ∀ (j q : Nat) (l : List Nat), q ≤ (tnm tx j q l).2 ∧ (tnm tx j q l).2 ≤ q + j := by
  intro j
  induction j with
  | zero => intro q l; exact ⟨Nat.le_refl _, Nat.le_refl _⟩
  | succ j ih =>
    intro q l
    unfold tnm
    split
    · have := ih (q + 1) (nadd l (toSm (tx q))); omega
    · exact ⟨Nat.le_refl _, by simp⟩
theorem toSm_v {c : Nat} (h : okb c = true) : 0 < toSm c ∧ toSm c < 128 := by
  have := okb_v h
  have h2 := toSm_lt this.2
  refine ⟨?_, h2⟩
  unfold toSm
  split <;> omega
theorem tnm_ok {tx : Nat → Nat} : ∀ (j q : Nat) (l : List Nat), (∀ k, q ≤ k → k < q + j → okb (tx k) = true) → vch l → l.length ≤ 8 → vch (tnm tx j q l).1 ∧ (tnm tx j q l).1.length ≤ 8 := by
  intro j
  induction j with
  | zero => intro q l _ h1 h2; exact ⟨h1, h2⟩
  | succ j ih =>
    intro q l hok h1 h2
    unfold tnm
    split
    · exact ih (q + 1) _ (fun k a b => hok k (by omega) (by omega)) (nadd_v h1 (toSm_v (hok q (by omega) (by omega)))) (nadd_len h2)
    · exact ⟨h1, h2⟩
theorem dg_sm {c : Nat} (h : isLt c = false) : isDg (toSm c) = isDg c := by
  unfold isLt at h
  simp only [Bool.or_eq_false_iff] at h
  unfold toSm
  rw [h.2]
  rfl
theorem cls_tagName_L {h0 : AH} {ad0 ad : Nat → Nat → Nat → Nat} {bs s0 n : Nat} {sg : Nat → Nat} {tp : Nat → Int32} {ol : OLA} {T : TS} {fl : FL} {os : OS} (hn : n ≤ 2000) (hok : ∀ q, q < n → okb (tbv (tp q)) = true) : ∀ (j f q : Nat) (h : AH) (l : List Nat), q + j = n → j < f → vch l → l.length ≤ 8 → St h0 ad0 bs s0 sg n tp ol h ad T fl os q → ∃ h', fX5_readTagName_2 f (some (sg 10)) (lN (pack l)) h = some (lN (pack (tnm (fun k => tbv (tp k)) j q l).1), h') ∧ St h0 ad0 bs s0 sg n tp ol h' ad T fl os (tnm (fun k => tbv (tp k)) j q l).2 := by
  intro j
  induction j with
  | zero =>
    intro f q h l hqj hjf hv hl8 s
    obtain ⟨f, rfl⟩ : ∃ g, f = g + 1 := ⟨f - 1, by omega⟩
    obtain ⟨r0, r1, -⟩ := id s.rd
    refine ⟨h, ?_, s⟩
    rw [fX5_readTagName_2]
    simp (disch := omega) only [↓gi_of r0 s.2.2.2.1, ↓gr_of r0 r1, ↓gi_of s.tp.1 s.tp.2.2.2.1, leN, show n ≤ q by omega, ↓reduceIte, fX5_readTagName_67]
    rfl
  | succ j ih =>
    intro f q h l hqj hjf hv hl8 s
    obtain ⟨f, rfl⟩ : ∃ g, f = g + 1 := ⟨f - 1, by omega⟩
    obtain ⟨r0, r1, -⟩ := id s.rd
    have hin : q < n := by omega
    have hv1 := toSm_v (hok q hin)
    have hlt := tbv_lt (tp q)
    have hb := tape_byteAt s.tp (show q < 2 ^ 31 by omega)
    rw [bt_in hin] at hb
    have hsm := cls_small (h := h) (c := tbv (tp q)) (by omega)
    have hs2 := cls_sm (h := h) (c := toSm (tbv (tp q))) (by omega)
    have hd2 := cls_dg (h := h) (c := toSm (tbv (tp q))) (by omega)
    have hlo := cls_longer (h := h) hv hl8 (c := toSm (tbv (tp q))) hv1.2
    obtain ⟨h1, g1, S1⟩ := ih f (q + 1) (pI h 257 (sg 10) (nI (q + 1))) (nadd l (toSm (tbv (tp q)))) (by omega) (by omega) (nadd_v hv hv1) (nadd_len hl8) (s.at (q + 1))
    have go : fX5_readTagName_48 (fX5_readTagName_2 f) (some (sg 10)) (lN (pack l)) (nI (toSm (tbv (tp q)))) h = some (lN (pack (tnm (fun k => tbv (tp k)) j (q + 1) (nadd l (toSm (tbv (tp q))))).1), h1) := by
      simp only [fX5_readTagName_48]
      simp only [↓cl_of hlo, ↓gi_of r0 s.2.2.2.1, ↓pi_of r0, nI_add]
      exact g1
    rw [fX5_readTagName_2]
    rw [show tnm (fun k => tbv (tp k)) (j + 1) q l = if (isLt (tbv (tp q)) || isDg (tbv (tp q))) = true then tnm (fun k => tbv (tp k)) j (q + 1) (nadd l (toSm (tbv (tp q)))) else (l, q) from rfl]
    simp (disch := omega) only [↓gi_of r0 s.2.2.2.1, ↓gr_of r0 r1, ↓gi_of s.tp.1 s.tp.2.2.2.1, leN, show ¬ n ≤ q by omega, ↓reduceIte, ↓cv_of s.tp.1 hb, ↓cl_of hsm, ↓cl_of hs2, bI0, sm_lt, go, fX5_readTagName_45, fX5_readTagName_67]
    cases hlt2 : isLt (tbv (tp q)) with
    | true => exact ⟨h1, by simp only [Bool.true_eq_false, ↓reduceIte, Bool.true_or], by simp only [Bool.true_or, ↓reduceIte]; exact S1⟩
    | false =>
      rw [dg_sm hlt2] at hd2
      simp only [↓reduceIte, Bool.false_or, ↓cl_of hd2, bI0]
      cases isDg (tbv (tp q)) with
      | true => exact ⟨h1, by simp only [Bool.true_eq_false, ↓reduceIte]; exact go, by simp only [↓reduceIte]; exact S1⟩
      | false => exact ⟨h, by simp only [↓reduceIte, Bool.false_eq_true], by simp only [Bool.false_eq_true, ↓reduceIte]; exact s⟩
def prt (c : Nat) : Bool := isBl c || c == 47
def eNm (c : Nat) : Bool := c == 61 || c == 62 || prt c
theorem cls_parts {h : AH} {c : Nat} (hc : c < 256) : fX5_partsAttributes (nI c) h = some (bI (prt c), h) := by
  have hb := cls_bl (h := h) (c := c) (by omega)
  simp only [fX5_partsAttributes, fX5_partsAttributes_0, fX5_partsAttributes_13, fX5_partsAttributes_18]
  simp (disch := omega) only [↓cl_of hb, bI0, eqN, oZn0, oZn1]
  unfold prt
  cases isBl c with
  | true => simp only [Bool.true_eq_false, ↓reduceIte, Bool.true_or]; rfl
  | false =>
    simp only [↓reduceIte, Bool.false_or]
    by_cases h47 : c = 47
    · subst h47; rfl
    · rw [if_neg h47, show (c == 47) = false by simp [h47]]; rfl
theorem cls_endsName {h : AH} {c : Nat} (hc : c < 256) : fX5_endsAttributeName (nI c) h = some (bI (eNm c), h) := by
  simp only [fX5_endsAttributeName, fX5_endsAttributeName_0, fX5_endsAttributeName_19, fX5_endsAttributeName_24]
  simp (disch := omega) only [↓cl_of (cls_parts hc), bI0, eqN, oZn0, oZn1]
  unfold eNm
  by_cases h61 : c = 61
  · subst h61; rfl
  · by_cases h62 : c = 62
    · subst h62; rfl
    · rw [if_neg h61, if_neg h62, show (c == 61) = false by simp [h61], show (c == 62) = false by simp [h62], Bool.false_or, Bool.false_or]
      cases prt c with
      | true => simp only [Bool.true_eq_false, ↓reduceIte]; rfl
      | false => simp only [↓reduceIte]; rfl
def anm (tx : Nat → Nat) : Nat → Nat → List Nat → List Nat × Nat
  | 0, q, l => (l, q)
  | j + 1, q, l => if eNm (tx q) = true then (l, q) else anm tx j (q + 1) (nadd l (toSm (tx q)))
theorem anm_le {tx : Nat → Nat} : ∀ (j q : Nat) (l : List Nat), q ≤ (anm tx j q l).2 ∧ (anm tx j q l).2 ≤ q + j := by
  intro j
  induction j with
  | zero => intro q l; exact ⟨Nat.le_refl _, Nat.le_refl _⟩
  | succ j ih =>
    intro q l
    unfold anm
    split
    · exact ⟨Nat.le_refl _, by simp⟩
    · have := ih (q + 1) (nadd l (toSm (tx q))); omega
theorem anm_ok {tx : Nat → Nat} : ∀ (j q : Nat) (l : List Nat), (∀ k, q ≤ k → k < q + j → okb (tx k) = true) → vch l → l.length ≤ 8 → vch (anm tx j q l).1 ∧ (anm tx j q l).1.length ≤ 8 := by
  intro j
  induction j with
  | zero => intro q l _ h1 h2; exact ⟨h1, h2⟩
  | succ j ih =>
    intro q l hok h1 h2
    unfold anm
    split
    · exact ⟨h1, h2⟩
    · exact ih (q + 1) _ (fun k a b => hok k (by omega) (by omega)) (nadd_v h1 (toSm_v (hok q (by omega) (by omega)))) (nadd_len h2)
theorem cls_attName_L {h0 : AH} {ad0 ad : Nat → Nat → Nat → Nat} {bs s0 n : Nat} {sg : Nat → Nat} {tp : Nat → Int32} {ol : List Int32} {T : TS} {fl : FL} {os : OS} {L : AttL} (hn : n ≤ 2000) (hok : ∀ q, q < n → okb (tbv (tp q)) = true) : ∀ (j f q : Nat) (h : AH) (l : List Nat), q + j = n → j < f → vch l → l.length ≤ 8 → StL h0 ad0 bs s0 sg n tp ol h ad T fl os q L → ∃ h', fX5_readAttributeName_29 f (some (sg 10)) (lN (pack l)) h = some (lN (pack (anm (fun k => tbv (tp k)) j q l).1), h') ∧ StL h0 ad0 bs s0 sg n tp ol h' ad T fl os (anm (fun k => tbv (tp k)) j q l).2 L := by
  intro j
  induction j with
  | zero =>
    intro f q h l hqj hjf hv hl8 s
    obtain ⟨f, rfl⟩ : ∃ g, f = g + 1 := ⟨f - 1, by omega⟩
    obtain ⟨r0, r1, -⟩ := id s.1.rd
    refine ⟨h, ?_, s⟩
    rw [fX5_readAttributeName_29]
    simp (disch := omega) only [↓gi_of r0 s.1.2.2.2.1, ↓gr_of r0 r1, ↓gi_of s.1.tp.1 s.1.tp.2.2.2.1, leN, show n ≤ q by omega, ↓reduceIte, fX5_readAttributeName_92]
    rfl
  | succ j ih =>
    intro f q h l hqj hjf hv hl8 s
    obtain ⟨f, rfl⟩ : ∃ g, f = g + 1 := ⟨f - 1, by omega⟩
    obtain ⟨r0, r1, -⟩ := id s.1.rd
    have hin : q < n := by omega
    have hv1 := toSm_v (hok q hin)
    have hlt := tbv_lt (tp q)
    have hb := tape_byteAt s.1.tp (show q < 2 ^ 31 by omega)
    rw [bt_in hin] at hb
    have hsm := cls_small (h := h) (c := tbv (tp q)) (by omega)
    have hen := cls_endsName (h := h) (c := tbv (tp q)) (by omega)
    have hlo := cls_longer (h := h) hv hl8 (c := toSm (tbv (tp q))) hv1.2
    obtain ⟨h1, g1, S1⟩ := ih f (q + 1) (pI h 257 (sg 10) (nI (q + 1))) (nadd l (toSm (tbv (tp q)))) (by omega) (by omega) (nadd_v hv hv1) (nadd_len hl8) (s.at (q + 1))
    rw [fX5_readAttributeName_29]
    rw [show anm (fun k => tbv (tp k)) (j + 1) q l = if eNm (tbv (tp q)) = true then (l, q) else anm (fun k => tbv (tp k)) j (q + 1) (nadd l (toSm (tbv (tp q)))) from rfl]
    simp (disch := omega) only [↓gi_of r0 s.1.2.2.2.1, ↓gr_of r0 r1, ↓gi_of s.1.tp.1 s.1.tp.2.2.2.1, leN, show ¬ n ≤ q by omega, ↓reduceIte, ↓cv_of s.1.tp.1 hb, ↓cl_of hen, bI0, fX5_readAttributeName_92]
    cases eNm (tbv (tp q)) with
    | true => exact ⟨h, by simp only [Bool.true_eq_false, ↓reduceIte], by simp only [↓reduceIte]; exact s⟩
    | false =>
      refine ⟨h1, ?_, by simp only [Bool.false_eq_true, ↓reduceIte]; exact S1⟩
      simp only [↓reduceIte, ↓gr_of r0 r1, ↓gi_of r0 s.1.2.2.2.1, ↓cv_of s.1.tp.1 hb, ↓cl_of hsm, ↓cl_of hlo, ↓pi_of r0, nI_add, Bool.false_eq_true]
      exact g1
def an0 (tx : Nat → Nat) (N p : Nat) : List Nat × Nat := anm tx (N - (p + 1)) (p + 1) [toSm (tx p)]
theorem cls_attName {h0 h : AH} {ad0 ad : Nat → Nat → Nat → Nat} {bs s0 n p : Nat} {sg : Nat → Nat} {tp : Nat → Int32} {ol : List Int32} {T : TS} {fl : FL} {os : OS} {L : AttL} (hn : n ≤ 2000) (hok : ∀ q, q < n → okb (tbv (tp q)) = true) (hp : p < n) (s : StL h0 ad0 bs s0 sg n tp ol h ad T fl os p L) : ∃ h', fX5_readAttributeName (some (sg 10)) h = some (lN (pack (an0 (fun k => tbv (tp k)) n p).1), h') ∧ StL h0 ad0 bs s0 sg n tp ol h' ad T fl os (an0 (fun k => tbv (tp k)) n p).2 L := by
  obtain ⟨r0, r1, -⟩ := id s.1.rd
  have hv1 := toSm_v (hok p hp)
  have hlt := tbv_lt (tp p)
  have hb := tape_byteAt s.1.tp (show p < 2 ^ 31 by omega)
  rw [bt_in hp] at hb
  have hsm := cls_small (h := h) (c := tbv (tp p)) (by omega)
  have hlo := cls_longer (h := h) (l := []) (fun c hc => by cases hc) (by simp) (c := toSm (tbv (tp p))) hv1.2
  rw [show lN (pack ([] : List Nat)) = 0 from rfl, show nadd [] (toSm (tbv (tp p))) = [toSm (tbv (tp p))] from rfl] at hlo
  obtain ⟨h1, g1, S1⟩ := cls_attName_L hn hok (n - (p + 1)) FU (p + 1) (pI h 257 (sg 10) (nI (p + 1))) [toSm (tbv (tp p))] (by omega) (by have := FU_ge; omega) (fun c hc => by rw [List.mem_singleton] at hc; rw [hc]; exact hv1) (by simp) (s.at (p + 1))
  refine ⟨h1, ?_, S1⟩
  simp only [fX5_readAttributeName, fX5_readAttributeName_0]
  simp only [↓gr_of r0 r1, ↓gi_of r0 s.1.2.2.2.1, ↓cv_of s.1.tp.1 hb, ↓cl_of hsm, ↓cl_of hlo, ↓pi_of r0, nI_add]
  exact g1

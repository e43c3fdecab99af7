/-! the page's bytes: what stands where, on both sides -/
def hbA (tx : Nat → Nat) (N k c : Nat) : Bool := decide (k < N) && decide (tx k = c)
def wNT : List Nat := [60, 33, 45, 45]
def wNE : List Nat := [45, 45, 62]
def wST : List Nat := [60, 47, 115, 116, 121, 108, 101]
def ltA (tx : Nat → Nat) (N q : Nat) : Bool := decide (q < N) && isLt (tx q)
def isTg (tx : Nat → Nat) (N p : Nat) : Bool := hbA tx N p 60 && (if hbA tx N (p + 1) 47 = true then ltA tx N (p + 2) else ltA tx N (p + 1))
def rEnd (tx : Nat → Nat) (N : Nat) (raw : Bool) (p : Nat) : Bool := if raw = true then isW tx N wST p else isTg tx N p || isW tx N wNT p
theorem bt_hb {tp : Nat → Int32} {N k c : Nat} (hc : c < 2 ^ 31) : (bt tp N k = nI c) = (hbA (fun k => tbv (tp k)) N k c = true) := by
  unfold hbA
  by_cases h : k < N
  · rw [bt_in h, eqN (by have := tbv_lt (tp k); omega) hc]
    simp [h]
  · rw [bt_out (by omega), M1eq hc]
    simp [h]
theorem cls_holds_L {h : AH} {t b n w : Nat} {tp : Nat → Int32} {W : List Nat} (hT : TapeC h t b n tp) (hw : w < 8) (hW : sr_txt.getD w [] = W.map nI) (hc : ∀ c ∈ W, c < 128) {k : Nat} (hk : k < 100000) : ∀ (j f p : Nat), p + j = W.length → j < f → fX6_holds_2 f (some t) w (nI k) (nI p) h = some (bI (isW (fun k => tbv (tp k)) n (W.drop p) (k + p)), h) := by
  have hl : sr_len.getD w 0 = W.length := by rw [sr_len_t w hw, hW, List.length_map]
  have hl2 := sr_len_ok w hw
  rw [hl] at hl2
  intro j
  induction j with
  | zero =>
    intro f p hpj hjf
    obtain ⟨f, rfl⟩ : ∃ g, f = g + 1 := ⟨f - 1, by omega⟩
    rw [fX6_holds_2, oSN hw, hl, List.drop_eq_nil_of_le (by omega)]
    simp (disch := omega) only [leN, show W.length ≤ p by omega, ↓reduceIte, fX6_holds_33, oZn1]
    rfl
  | succ j ih =>
    intro f p hpj hjf
    obtain ⟨f, rfl⟩ : ∃ g, f = g + 1 := ⟨f - 1, by omega⟩
    have hp : p < W.length := by omega
    have hch : sr_ch w p = nI (W.getD p 0) := by
      unfold sr_ch
      rw [hW, gD_in (by rw [List.length_map]; exact hp), List.getElem_map, gD_in hp]
    have hcl : W.getD p 0 < 128 := by rw [gD_in hp]; exact hc _ (List.getElem_mem _)
    rw [fX6_holds_2, oSN hw, hl, drop_cons 0 hp]
    simp (disch := omega) only [leN, show ¬ W.length ≤ p by omega, ↓reduceIte, nI_add, ↓uCV, hT.1, tape_byteAt hT, ↓oCL, Nat.reduceAdd]
    rw [oSC hw (by rw [hl]; exact hp), hch, ih f (p + 1) (by omega) (by omega)]
    simp (disch := omega) only [bt_hb, fX6_holds_25, oZn0]
    unfold hbA
    rw [isW, show k + p + 1 = k + (p + 1) by omega]
    by_cases h1 : k + p < n
    · by_cases h2 : tbv (tp (k + p)) = W.getD p 0
      · simp only [h1, h2, decide_true, Bool.and_true, Bool.true_and, ↓reduceIte]
      · simp only [h1, h2, decide_true, decide_false, Bool.and_false, Bool.false_and, Bool.false_eq_true, ↓reduceIte]; rfl
    · simp only [h1, decide_false, Bool.false_and, Bool.false_eq_true, ↓reduceIte]; rfl
theorem cls_holds {h : AH} {t b n w : Nat} {tp : Nat → Int32} {W : List Nat} (hT : TapeC h t b n tp) (hw : w < 8) (hW : sr_txt.getD w [] = W.map nI) (hc : ∀ c ∈ W, c < 128) {k : Nat} (hk : k < 100000) : fX6_holds (some t) w (nI k) h = some (bI (isW (fun k => tbv (tp k)) n W k), h) := by
  have hl2 := sr_len_ok w hw
  rw [sr_len_t w hw, hW, List.length_map] at hl2
  exact cls_holds_L hT hw hW hc hk W.length FU 0 (by omega) (by have := FU_ge; omega)
theorem w5 : sr_txt.getD 5 [] = wNT.map nI := by decide +kernel
theorem w6 : sr_txt.getD 6 [] = wNE.map nI := by decide +kernel
theorem w7 : sr_txt.getD 7 [] = wST.map nI := by decide +kernel
theorem w1 : sr_txt.getD 1 [] = [38, 108, 116, 59].map nI := by decide +kernel
theorem w2 : sr_txt.getD 2 [] = [38, 103, 116, 59].map nI := by decide +kernel
theorem w3 : sr_txt.getD 3 [] = [38, 97, 109, 112, 59].map nI := by decide +kernel
theorem w4 : sr_txt.getD 4 [] = [38, 113, 117, 111, 116, 59].map nI := by decide +kernel
theorem sm_lt (c : Nat) : isSm (toSm c) = isLt c := by
  unfold toSm isLt
  by_cases h : isUp c = true
  · rw [if_pos h, h, Bool.or_true]
    unfold isUp at h
    unfold isSm
    simp at h ⊢
    omega
  · rw [if_neg h]
    simp only [Bool.not_eq_true] at h
    rw [h, Bool.or_false]
theorem toSm_lt {c : Nat} (h : c < 128) : toSm c < 128 := by
  unfold toSm isUp
  split
  · rename_i z; simp at z; omega
  · exact h
theorem cls_startsTag {h : AH} {t b n rd : Nat} {tp : Nat → Int32} (hT : TapeC h t b n tp) (k1 : gK h rd = (6, 0)) (r1 : gR h 250 rd = some t) {i : Nat} (hi : i < 100000) : fX5_startsTag (some rd) (nI i) h = some (bI (if hbA (fun k => tbv (tp k)) n (i + 1) 47 = true then ltA (fun k => tbv (tp k)) n (i + 2) else ltA (fun k => tbv (tp k)) n (i + 1)), h) := by
  have tail : ∀ q, q < 200000 → fX5_startsTag_24 (some rd) (nI q) h = some (bI (ltA (fun k => tbv (tp k)) n q), h) := by
    intro q hq
    simp only [fX5_startsTag_24]
    simp (disch := omega) only [↓uGR, ↓uCV, k1, r1, hT.1, ↓reduceIte, tape_byteAt hT, ↓oCL, Nat.reduceAdd]
    unfold ltA
    by_cases h1 : q < n
    · have := tbv_lt (tp q)
      have := toSm_lt (c := tbv (tp q))
      have h3 : toSm (tbv (tp q)) < 1000 := by unfold toSm; split <;> omega
      simp (disch := omega) only [bt_in h1, cls_small, cls_sm, ↓oCL, oZI, sm_lt, h1, decide_true, Bool.true_and]
    · simp (disch := omega) only [bt_out (show n ≤ q by omega), cls_smallM, cls_smM, ↓oCL, oZI, h1, decide_false, Bool.false_and]
  simp only [fX5_startsTag, fX5_startsTag_0]
  simp (disch := omega) only [↓uGR, ↓uCV, k1, r1, hT.1, ↓reduceIte, nI_add, tape_byteAt hT, ↓oCL, Nat.reduceAdd, bt_hb, tail]
  by_cases h1 : hbA (fun k => tbv (tp k)) n (i + 1) 47 = true
  · simp only [h1, ↓reduceIte]
  · rw [if_neg h1, if_neg h1]
theorem isW_hd {tx : Nat → Nat} {N c k : Nat} {W : List Nat} (h : isW tx N (c :: W) k = true) : hbA tx N k c = true := by
  unfold isW at h
  unfold hbA
  simp only [Bool.and_eq_true] at h ⊢
  exact h.1
theorem cls_endsRun {h : AH} {t b n rd : Nat} {tp : Nat → Int32} (hT : TapeC h t b n tp) (k1 : gK h rd = (6, 0)) (r1 : gR h 250 rd = some t) {i : Nat} (hi : i < 100000) (raw : Bool) : fX5_endsRun (some rd) (nI i) (bI raw) h = some (bI (rEnd (fun k => tbv (tp k)) n raw i), h) := by
  simp only [fX5_endsRun, fX5_endsRun_0, fX5_endsRun_53, fX5_endsRun_49, fX5_endsRun_54]
  have h7 := cls_holds hT (by omega) w7 (by decide) hi
  have h5 := cls_holds hT (by omega) w5 (by decide) hi
  cases raw with
  | true =>
    simp (disch := omega) only [bI0, Bool.true_eq_false, ↓reduceIte, ↓uGR, ↓uCV, k1, r1, hT.1, h7, ↓oCL, oZI, Nat.reduceAdd, rEnd]
  | false =>
    simp (disch := omega) only [bI0, ↓reduceIte, ↓uGR, ↓uCV, k1, r1, hT.1, tape_byteAt hT, ↓oCL, bt_hb, h5, cls_startsTag hT k1 r1 hi, oZn0, oZn1, Nat.reduceAdd, rEnd, Bool.false_eq_true]
    unfold isTg
    by_cases h60 : hbA (fun k => tbv (tp k)) n i 60 = true
    · simp only [h60, ↓reduceIte, Bool.true_and]
      cases (if hbA (fun k => tbv (tp k)) n (i + 1) 47 = true then ltA (fun k => tbv (tp k)) n (i + 2) else ltA (fun k => tbv (tp k)) n (i + 1)) with
      | true => simp only [Bool.true_eq_false, ↓reduceIte, Bool.true_or]; rfl
      | false =>
        simp only [↓reduceIte, Bool.false_or]
        cases isW (fun k => tbv (tp k)) n wNT i with
        | true => simp only [Bool.true_eq_false, ↓reduceIte]; rfl
        | false => simp only [↓reduceIte]; rfl
    · have h0 : isW (fun k => tbv (tp k)) n wNT i = false := by
        cases hc : isW (fun k => tbv (tp k)) n wNT i with
        | true => exact absurd (isW_hd hc) h60
        | false => rfl
      rw [if_neg h60, h0]
      simp only [Bool.not_eq_true] at h60
      rw [h60]
      rfl
/-- the reference's copy of the page -/
def SrcR (h : AH) (m : Nat) (ra : Nat → Nat) (N : Nat) (tx : Nat → Nat) : Prop := gI h 482 m = nI N ∧ N ≤ 1500 ∧ (∀ k, k < N → tx k < 128) ∧ ∀ k, k < N → gA h (ra 31) k = nI (tx k)
theorem SrcR.fr {h h' : AH} {m N : Nat} {ra : Nat → Nat} {tx : Nat → Nat} (q : SrcR h m ra N tx) {I : Nat → Nat → Prop} {A : Nat → Prop} (w : Fr I A h h') (hI : ¬ I 482 m) (hA : ¬ A (ra 31)) : SrcR h' m ra N tx :=
  ⟨by rw [w.1 _ _ hI]; exact q.1, q.2.1, q.2.2.1, fun k hk => by rw [w.2.2.2.1 _ _ hA]; exact q.2.2.2 k hk⟩
theorem hbA_in {tx : Nat → Nat} {N k c : Nat} (h : k < N) : hbA tx N k c = decide (tx k = c) := by unfold hbA; simp [h]
theorem hbA_out {tx : Nat → Nat} {N k c : Nat} (h : N ≤ k) : hbA tx N k c = false := by unfold hbA; simp; omega
theorem isW_cons (tx : Nat → Nat) (N c k : Nat) (W : List Nat) : isW tx N (c :: W) k = (hbA tx N k c && isW tx N W (k + 1)) := rfl
theorem isW_nil (tx : Nat → Nat) (N k : Nat) : isW tx N [] k = true := rfl
theorem ref_isAt {h : AH} {m N p a b c : Nat} {ra : Nat → Nat} {tx : Nat → Nat} (hB : RB h m ra) (hs : SrcR h m ra N tx) (hp : p < 100000) (ha : a < 128) (hb : b < 128) (hc : c < 128) : fX9_isAt (some m) (nI p) (nI a) (nI b) (nI c) h = some (bI (isW tx N [a, b, c] p), h) := by
  obtain ⟨s1, s2, s3, s4⟩ := hs
  simp only [fX9_isAt, fX9_isAt_0, fX9_isAt_49, fX9_isAt_50]
  by_cases h1 : N ≤ p + 2
  · simp (disch := omega) only [↓uGI, hB.o, s1, nI_add, leN, h1, ↓reduceIte, oZn0, Nat.reduceAdd]
    have : isW tx N [a, b, c] p = false := by
      simp only [isW_cons, isW_nil, hbA_out (show N ≤ p + 1 + 1 by omega), Bool.false_and, Bool.and_false]
    rw [this]
    rfl
  · have g0 := s4 p (by omega)
    have g1 := s4 (p + 1) (by omega)
    have g2 := s4 (p + 2) (by omega)
    have t0 := s3 p (by omega)
    have t1 := s3 (p + 1) (by omega)
    have t2 := s3 (p + 2) (by omega)
    simp (disch := omega) only [↓uGI, ↓uGR, ↓uAL, hB.o, hB.r31, hB.k31, s1, nI_add, leN, h1, ↓reduceIte, oZn0, oZn1, Nat.reduceAdd, g0, g1, g2, eqN, show p < 2000 by omega, show p + 1 < 2000 by omega, show p + 2 < 2000 by omega, and_self]
    simp only [isW_cons, isW_nil, hbA_in (show p < N by omega), hbA_in (show p + 1 < N by omega), hbA_in (show p + 1 + 1 < N by omega), Bool.and_true]
    by_cases e0 : tx p = a
    · by_cases e1 : tx (p + 1) = b
      · by_cases e2 : tx (p + 2) = c
        · simp only [e0, e1, e2, ↓reduceIte, decide_true, Bool.and_self]; rfl
        · simp only [e0, e1, e2, ↓reduceIte, decide_true, decide_false, Bool.and_false]; rfl
      · simp only [e0, e1, ↓reduceIte, decide_true, decide_false, Bool.false_and, Bool.and_false]; rfl
    · simp only [e0, ↓reduceIte, decide_false, Bool.false_and]; rfl
theorem ref_isNote {h : AH} {m N p : Nat} {ra : Nat → Nat} {tx : Nat → Nat} (hB : RB h m ra) (hs : SrcR h m ra N tx) (hp : p < 100000) : fX9_isNote (some m) (nI p) h = some (bI (isW tx N wNT p), h) := by
  have hA := ref_isAt (a := 60) (b := 33) (c := 45) hB hs hp (by omega) (by omega) (by omega)
  obtain ⟨s1, s2, s3, s4⟩ := hs
  simp only [fX9_isNote, fX9_isNote_0, fX9_isNote_41, fX9_isNote_42]
  simp (disch := omega) only [↓uCV, hB.o, hA, ↓oCL, bI0, ↓reduceIte, ↓uGI, s1, nI_add, leN, Nat.reduceAdd, oZn0, oZn1]
  have e : isW tx N wNT p = (isW tx N [60, 33, 45] p && hbA tx N (p + 3) 45) := by
    unfold wNT
    simp only [isW_cons, isW_nil, Bool.and_true, Bool.and_assoc]
  rw [e]
  cases isW tx N [60, 33, 45] p with
  | false => simp only [↓reduceIte, Bool.false_and]; rfl
  | true =>
    simp only [Bool.true_eq_false, ↓reduceIte, Bool.true_and]
    by_cases h1 : N ≤ p + 3
    · simp only [h1, ↓reduceIte, hbA_out h1]; rfl
    · have g0 := s4 (p + 3) (by omega)
      have t0 := s3 (p + 3) (by omega)
      simp (disch := omega) only [h1, ↓reduceIte, ↓uGR, ↓uAL, hB.o, hB.r31, hB.k31, show p + 3 < 2000 by omega, and_self, g0, eqN, Nat.reduceAdd, hbA_in (show p + 3 < N by omega)]
      by_cases e0 : tx (p + 3) = 45
      · simp only [e0, ↓reduceIte, decide_true]; rfl
      · simp only [e0, ↓reduceIte, decide_false]; rfl
theorem ref_isTag {h : AH} {m N p : Nat} {ra : Nat → Nat} {tx : Nat → Nat} (hB : RB h m ra) (hs : SrcR h m ra N tx) (hp : p < 100000) : fX9_isTag (some m) (nI p) h = some (bI (isTg tx N p), h) := by
  obtain ⟨s1, s2, s3, s4⟩ := hs
  have tail : ∀ q, q < 200000 → fX9_isTag_53 (some m) (nI q) h = some (bI (ltA tx N q), h) := by
    intro q hq
    simp only [fX9_isTag_53, fX9_isTag_78, fX9_isTag_79]
    unfold ltA
    by_cases h1 : N ≤ q
    · simp (disch := omega) only [↓uGI, hB.o, s1, leN, h1, ↓reduceIte, oZn0, Nat.reduceAdd, show ¬ q < N by omega, decide_false, Bool.false_and]
      rfl
    · have g0 := s4 q (by omega)
      have t0 := s3 q (by omega)
      simp (disch := omega) only [↓uGI, ↓uGR, ↓uAL, hB.o, hB.r31, hB.k31, s1, leN, h1, ↓reduceIte, Nat.reduceAdd, show q < 2000 by omega, and_self, g0, ref_lt, ↓oCL, bI0, oZn0, oZn1, show q < N by omega, decide_true, Bool.true_and]
      cases isLt (tx q) <;> rfl
  simp only [fX9_isTag, fX9_isTag_0, fX9_isTag_19, fX9_isTag_50]
  unfold isTg
  by_cases h1 : N ≤ p
  · simp (disch := omega) only [↓uGI, hB.o, s1, leN, h1, ↓reduceIte, oZn0, Nat.reduceAdd, hbA_out h1, Bool.false_and]
    rfl
  · have g0 := s4 p (by omega)
    have t0 := s3 p (by omega)
    simp (disch := omega) only [↓uGI, ↓uGR, ↓uAL, hB.o, hB.r31, hB.k31, s1, leN, h1, ↓reduceIte, Nat.reduceAdd, show p < 2000 by omega, and_self, g0, eqN, oZn0, nI_add, tail, hbA_in (show p < N by omega)]
    by_cases e0 : tx p = 60
    · simp only [e0, ↓reduceIte, decide_true, Bool.true_and]
      by_cases h2 : N ≤ p + 1
      · simp only [h2, ↓reduceIte, hbA_out h2, Bool.false_eq_true]
      · have g1 := s4 (p + 1) (by omega)
        have t1 := s3 (p + 1) (by omega)
        simp (disch := omega) only [h2, ↓reduceIte, ↓uGR, ↓uAL, hB.o, hB.r31, hB.k31, show p + 1 < 2000 by omega, and_self, g1, eqN, Nat.reduceAdd, hbA_in (show p + 1 < N by omega), decide_eq_true_eq]
        by_cases e1 : tx (p + 1) = 47
        · simp only [e1, ↓reduceIte]
        · simp only [e1, ↓reduceIte]
    · simp only [e0, ↓reduceIte, decide_false, Bool.false_and]
      rfl
theorem ref_endsStyle {h : AH} {m N p : Nat} {ra : Nat → Nat} {tx : Nat → Nat} (hB : RB h m ra) (hs : SrcR h m ra N tx) (hp : p < 99990) : fX9_endsStyle (some m) (nI p) h = some (bI (isW tx N wST p), h) := by
  have hA := ref_isAt (p := p) (a := 60) (b := 47) (c := 115) hB hs (by omega) (by omega) (by omega) (by omega)
  obtain ⟨s1, s2, s3, s4⟩ := hs
  have hW := ref_isWord_L (h := h) (a := ra 31) (N := 2000) (to := N) (tx := tx) hB.k31 (by omega) (by omega) (fun k hk => ⟨s4 k hk, s3 k hk⟩) [115, 116, 121, 108, 101] (tgWord 15) FU (p + 2) (tg_wsb 15 (by omega) (by omega)).1 (by have := FU_ge; simp; omega) (by omega)
  simp only [fX9_endsStyle, fX9_endsStyle_0, fX9_endsStyle_40, fX9_endsStyle_41]
  simp (disch := omega) only [↓uCV, hB.o, hA, ↓oCL, bI0, ↓reduceIte, ↓uGI, ↓uGR, s1, hB.r31, nI_add, Nat.reduceAdd, ref_tagWord, fX9_isWord, fX9_isWord_0, hW, oZn0, oZn1]
  have e : isW tx N wST p = (isW tx N [60, 47, 115] p && isW tx N [115, 116, 121, 108, 101] (p + 2)) := by
    unfold wST
    simp only [isW_cons, isW_nil, Bool.and_true]
    cases hbA tx N p 60 <;> cases hbA tx N (p + 1) 47 <;> cases hbA tx N (p + 1 + 1) 115 <;> simp
  rw [e]
  cases isW tx N [60, 47, 115] p with
  | false => simp only [↓reduceIte, Bool.false_and]; rfl
  | true =>
    simp only [Bool.true_eq_false, ↓reduceIte, Bool.true_and]
    cases isW tx N [115, 116, 121, 108, 101] (p + 2) <;> rfl

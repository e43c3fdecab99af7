/-! comments -/
def nte (tx : Nat → Nat) (N : Nat) : Nat → Nat → Option Nat
  | 0, _ => none
  | j + 1, q => if isW tx N wNE q = true then some q else nte tx N j (q + 1)
theorem nte_le {tx : Nat → Nat} {N : Nat} : ∀ (j q k : Nat), nte tx N j q = some k → q ≤ k ∧ k < q + j ∧ isW tx N wNE k = true := by
  intro j
  induction j with
  | zero => intro q k h; cases h
  | succ j ih =>
    intro q k h
    unfold nte at h
    split at h
    · cases h; exact ⟨Nat.le_refl _, by omega, by assumption⟩
    · have := ih _ _ h; exact ⟨by omega, by omega, this.2.2⟩
def ntP (N : Nat) (r : Option Nat) : Nat := match r with
  | none => N
  | some q => q + 3
def ntF (fl : FL) (p : Nat) (r : Option Nat) : FL := match r with
  | none => fl ++ [(nI 1, nI p)]
  | some _ => fl
theorem isW_len {tx : Nat → Nat} {N : Nat} : ∀ (W : List Nat) (k : Nat), isW tx N W k = true → W = [] ∨ k + W.length ≤ N := by
  intro W
  induction W with
  | nil => intro k _; exact Or.inl rfl
  | cons c W ih =>
    intro k h
    rw [isW_cons, Bool.and_eq_true] at h
    right
    have h1 : k < N := by
      have := h.1
      unfold hbA at this
      simp at this
      exact this.1
    rcases ih (k + 1) h.2 with z | z
    · rw [z]; simp; omega
    · simp only [List.length_cons]; omega
theorem ntP_le {tx : Nat → Nat} {N j q : Nat} (h : q + j = N) : q ≤ ntP N (nte tx N j q) ∧ ntP N (nte tx N j q) ≤ N := by
  cases e : nte tx N j q with
  | none => exact ⟨by show q ≤ N; omega, Nat.le_refl _⟩
  | some k =>
    obtain ⟨a, b, c⟩ := nte_le _ _ _ e
    have : k + wNE.length ≤ N := by
      rcases isW_len _ _ c with z | z
      · cases z
      · exact z
    have h3 : wNE.length = 3 := rfl
    exact ⟨by show q ≤ k + 3; omega, by show k + 3 ≤ N; omega⟩
theorem cls_note_L {h0 h : AH} {ad0 ad : Nat → Nat → Nat → Nat} {bs s0 n p : Nat} {sg : Nat → Nat} {tp : Nat → Int32} {ol : OLA} {T : TS} {fl : FL} {os : OS} (hn : n ≤ 2000) (hl : fl.length + 1 < 1000000) (q : St h0 ad0 bs s0 sg n tp ol h ad T fl os p) : ∀ (j f i : Nat), i + j = n → j < f → ∃ h', fX5_readComment_11 f (some (sg 10)) (nI i) h = some ((), h') ∧ St h0 ad0 bs s0 sg n tp ol h' ad T (ntF fl p (nte (fun k => tbv (tp k)) n j i)) os (ntP n (nte (fun k => tbv (tp k)) n j i)) := by
  obtain ⟨r0, r1, r2, r3, -⟩ := id q.rd
  intro j
  induction j with
  | zero =>
    intro f i hij hjf
    obtain ⟨f, rfl⟩ : ∃ g, f = g + 1 := ⟨f - 1, by omega⟩
    obtain ⟨h1, g1, S1⟩ := q.tell hl (nI 1) (nI p)
    obtain ⟨x0, x1, -⟩ := id S1.rd
    refine ⟨pI h1 257 (sg 10) (nI n), ?_, S1.at n⟩
    rw [fX5_readComment_11]
    simp (disch := omega) only [↓gr_of r0 r1, ↓gi_of q.tp.1 q.tp.2.2.2.1, leN, show n ≤ i by omega, ↓reduceIte, fX5_readComment_53, ↓gr_of r0 r3, ↓gi_of r0 q.2.2.2.1, ↓cv_of q.fa.1 g1, ↓gr_of x0 x1, ↓gi_of S1.tp.1 S1.tp.2.2.2.1, ↓pi_of x0]
  | succ j ih =>
    intro f i hij hjf
    obtain ⟨f, rfl⟩ : ∃ g, f = g + 1 := ⟨f - 1, by omega⟩
    have h6 := cls_holds q.tp (by omega) w6 (by decide) (show i < 100000 by omega)
    have l6 : sr_len.getD 6 0 = 3 := by decide
    rw [fX5_readComment_11]
    rw [show nte (fun k => tbv (tp k)) n (j + 1) i = if isW (fun k => tbv (tp k)) n wNE i = true then some i else nte (fun k => tbv (tp k)) n j (i + 1) from rfl]
    simp (disch := omega) only [↓gr_of r0 r1, ↓gi_of q.tp.1 q.tp.2.2.2.1, leN, show ¬ n ≤ i by omega, ↓reduceIte, ↓cv_of q.tp.1 h6, bI0, fX5_readComment_35, nI_add]
    cases isW (fun k => tbv (tp k)) n wNE i with
    | true =>
      refine ⟨pI h 257 (sg 10) (nI (i + 3)), ?_, q.at (i + 3)⟩
      simp only [Bool.true_eq_false, ↓reduceIte]
      rw [oSN (by omega), l6]
      simp only [nI_add, ↓pi_of r0]
    | false =>
      obtain ⟨h1, g1, S1⟩ := ih f (i + 1) (by omega) (by omega)
      exact ⟨h1, by simp only [↓reduceIte]; exact g1, by simp only [Bool.false_eq_true, ↓reduceIte]; exact S1⟩
theorem cls_note {h0 h : AH} {ad0 ad : Nat → Nat → Nat → Nat} {bs s0 n p : Nat} {sg : Nat → Nat} {tp : Nat → Int32} {ol : OLA} {T : TS} {fl : FL} {os : OS} (hn : n ≤ 2000) (hl : fl.length + 1 < 1000000) (hp : p + 4 ≤ n) (q : St h0 ad0 bs s0 sg n tp ol h ad T fl os p) : ∃ h', fX5_readComment (some (sg 10)) h = some ((), h') ∧ St h0 ad0 bs s0 sg n tp ol h' ad T (ntF fl p (nte (fun k => tbv (tp k)) n (n - (p + 4)) (p + 4))) os (ntP n (nte (fun k => tbv (tp k)) n (n - (p + 4)) (p + 4))) := by
  obtain ⟨r0, -⟩ := id q.rd
  have l5 : sr_len.getD 5 0 = 4 := by decide
  obtain ⟨h1, g1, S1⟩ := cls_note_L hn hl q (n - (p + 4)) FU (p + 4) (by omega) (by have := FU_ge; omega)
  refine ⟨h1, ?_, S1⟩
  simp only [fX5_readComment, fX5_readComment_0]
  simp only [↓gi_of r0 q.2.2.2.1]
  rw [oSN (by omega), l5]
  simp only [nI_add]
  exact g1
theorem ref_note_L {h0 h : AH} {m N p : Nat} {ra : Nat → Nat} {tx : Nat → Nat} {T : TS} {fl : FL} {os : OS} (hl : fl.length + 1 < 1000000) (q : SR h0 m ra N tx h T fl os) : ∀ (j f i : Nat), i + j = N → j < f → ∃ h', fX9_note_4 f (some m) (nI p) (nI i) h = some (nI (ntP N (nte tx N j i)), h') ∧ SR h0 m ra N tx h' T (ntF fl p (nte tx N j i)) os := by
  have hB := q.1
  have hN := q.2.2.2.1.2.1
  intro j
  induction j with
  | zero =>
    intro f i hij hjf
    obtain ⟨f, rfl⟩ : ∃ g, f = g + 1 := ⟨f - 1, by omega⟩
    obtain ⟨h1, g1, S1⟩ := q.tell hl (nI 1) (nI p)
    refine ⟨h1, ?_, S1⟩
    rw [fX9_note_4]
    simp (disch := omega) only [↓gi_of hB.o q.2.2.2.1.1, leN, show N ≤ i by omega, ↓reduceIte, fX9_note_32, ↓cv_of hB.o g1, ↓gi_of S1.1.o S1.2.2.2.1.1]
    rfl
  | succ j ih =>
    intro f i hij hjf
    obtain ⟨f, rfl⟩ : ∃ g, f = g + 1 := ⟨f - 1, by omega⟩
    have h6 := ref_isAt (p := i) (a := 45) (b := 45) (c := 62) hB q.2.2.2.1 (by omega) (by omega) (by omega) (by omega)
    rw [fX9_note_4]
    rw [show nte tx N (j + 1) i = if isW tx N wNE i = true then some i else nte tx N j (i + 1) from rfl]
    simp (disch := omega) only [↓gi_of hB.o q.2.2.2.1.1, leN, show ¬ N ≤ i by omega, ↓reduceIte, ↓cv_of hB.o h6, bI0, fX9_note_32, nI_add]
    rw [show ([45, 45, 62] : List Nat) = wNE from rfl]
    cases isW tx N wNE i with
    | true => exact ⟨h, by simp only [Bool.true_eq_false, ↓reduceIte]; rfl, q⟩
    | false =>
      obtain ⟨h1, g1, S1⟩ := ih f (i + 1) (by omega) (by omega)
      exact ⟨h1, by simp only [↓reduceIte, Bool.false_eq_true]; exact g1, by simp only [Bool.false_eq_true, ↓reduceIte]; exact S1⟩
theorem ref_note {h0 h : AH} {m N p : Nat} {ra : Nat → Nat} {tx : Nat → Nat} {T : TS} {fl : FL} {os : OS} (hl : fl.length + 1 < 1000000) (hp : p + 4 ≤ N) (q : SR h0 m ra N tx h T fl os) : ∃ h', fX9_note (some m) (nI p) h = some (nI (ntP N (nte tx N (N - (p + 4)) (p + 4))), h') ∧ SR h0 m ra N tx h' T (ntF fl p (nte tx N (N - (p + 4)) (p + 4))) os := by
  have hN := q.2.2.2.1.2.1
  obtain ⟨h1, g1, S1⟩ := ref_note_L (p := p) hl q (N - (p + 4)) FU (p + 4) (by omega) (by have := FU_ge; omega)
  refine ⟨h1, ?_, S1⟩
  simp only [fX9_note, fX9_note_0, nI_add]
  exact g1

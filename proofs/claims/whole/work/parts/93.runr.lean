/-! the page is read: the reference's state; its runs -/
def OsR (h : AH) (m : Nat) (ra : Nat → Nat) (os : OS) : Prop := gI h 480 m = nI os.length ∧ ∀ k, k < os.length → gA h (ra 29) k = nI (oN1 os k) ∧ (0 < k → gA h (ra 24) (oN1 os k) = nI (oP1 os k))
abbrev FrQ (m : Nat) (ra : Nat → Nat) : AH → AH → Prop := Fr (fun f a => a = m ∧ f ≠ 451 ∧ f ≠ 455 ∧ f ≠ 482) (fun a => ∃ k, 5 ≤ k ∧ k ≠ 31 ∧ a = ra k)
def SR (h0 : AH) (m : Nat) (ra : Nat → Nat) (N : Nat) (tx : Nat → Nat) (h : AH) (T : TS) (fl : FL) (os : OS) : Prop := RB h m ra ∧ RefT h m ra T ∧ FauR h m ra fl ∧ SrcR h m ra N tx ∧ OsR h m ra os ∧ FrQ m ra h0 h
theorem SR.put {h0 h h' : AH} {m N : Nat} {ra : Nat → Nat} {tx : Nat → Nat} {T T' : TS} {fl fl' : FL} {os os' : OS} (q : SR h0 m ra N tx h T fl os) (w : FrQ m ra h h') (hR : RefT h' m ra T') (hF : FauR h' m ra fl') (hO : OsR h' m ra os') : SR h0 m ra N tx h' T' fl' os' := by
  obtain ⟨q1, q2, q3, q4, q5, q6⟩ := q
  exact ⟨w.RB q1, hR, hF, q4.fr w (by omega) (fun z => by obtain ⟨k, -, h2, e⟩ := z; rw [q1.i] at e; omega), hO, q6.tr w⟩
theorem OsR.fr {h h' : AH} {m : Nat} {ra : Nat → Nat} {os : OS} (q : OsR h m ra os) {I : Nat → Nat → Prop} {A : Nat → Prop} (w : Fr I A h h') (hI : ¬ I 480 m) (hA : ¬ A (ra 29)) (hA2 : ¬ A (ra 24)) : OsR h' m ra os :=
  ⟨by rw [w.1 _ _ hI]; exact q.1, fun k hk => by rw [w.2.2.2.1 _ _ hA, w.2.2.2.1 _ _ hA2]; exact q.2 k hk⟩
theorem SR.tell {h0 h : AH} {m N : Nat} {ra : Nat → Nat} {tx : Nat → Nat} {T : TS} {fl : FL} {os : OS} (q : SR h0 m ra N tx h T fl os) (hl : fl.length + 1 < 1000000) (a b : Int32) : ∃ h', fX9_tellFault (some m) a b h = some ((), h') ∧ SR h0 m ra N tx h' T (fl ++ [(a, b)]) os := by
  obtain ⟨q1, q2, q3, q4, q5, q6⟩ := id q
  obtain ⟨h1, g1, X1, F1⟩ := ref_tell q1 q3 hl a b
  have hno : ∀ k, k ≠ 27 → k ≠ 28 → ¬ (ra k = ra 27 ∨ ra k = ra 28) := fun k h1 h2 z => by rw [q1.i, q1.i] at z; omega
  exact ⟨h1, g1, q.put (F1.mo (fun f a z => ⟨z.2, by omega, by omega, by omega⟩) (fun a z => by
    rcases z with z | z
    · exact ⟨27, by omega, by omega, z⟩
    · exact ⟨28, by omega, by omega, z⟩)) (q2.fr F1 (by omega) (fun k h6 h23 => hno k (by omega) (by omega))) X1 (q5.fr F1 (by omega) (hno 29 (by omega) (by omega)) (hno 24 (by omega) (by omega)))⟩
theorem SR.sc {h0 h h' : AH} {m N : Nat} {ra : Nat → Nat} {tx : Nat → Nat} {T : TS} {fl : FL} {os : OS} (q : SR h0 m ra N tx h T fl os) {I : Nat → Nat → Prop} (w : Fr I (fun _ => False) h h') (hI : ∀ f a, I f a → a = m ∧ (f = 483 ∨ (485 ≤ f ∧ f < 500))) : SR h0 m ra N tx h' T fl os := by
  obtain ⟨q1, q2, q3, q4, q5, q6⟩ := id q
  have hn : ∀ f, f ≠ 483 → ¬ (485 ≤ f ∧ f < 500) → ¬ I f m := fun f h1 h2 z => by have := (hI _ _ z).2; omega
  exact q.put (w.mo (fun f a z => by have := hI f a z; exact ⟨this.1, by omega, by omega, by omega⟩) (fun a z => z.elim)) (q2.fr w (hn 475 (by omega) (by omega)) (fun _ _ _ z => z)) (q3.fr w (hn 476 (by omega) (by omega)) (fun z => z) (fun z => z)) (q5.fr w (hn 480 (by omega) (by omega)) (fun z => z) (fun z => z))
theorem ref_ent150 {h : AH} {m N to p : Nat} {ra : Nat → Nat} {tx : Nat → Nat} {v4 : Int32} (hB : RB h m ra) (hs : SrcR h m ra N tx) (hto : to ≤ N) (hp : p < to) (h38 : tx p = 38) : fX9_entity_150 (some m) (some (ra 31)) (nI p) (nI to) v4 h = if isW tx to [38, 113, 117, 111, 116, 59] p = true then some (nI 34, pI h 483 m (nI 6)) else some (v4, h) := by
  obtain ⟨s1, s2, s3, s4⟩ := hs
  simp only [fX9_entity_150, fX9_entity_217, isW_cons, isW_nil, hbA_in hp, h38, decide_true, Bool.true_and, Bool.and_true]
  by_cases h5 : to ≤ p + 5
  · simp (disch := omega) only [nI_add, leN, h5, ↓reduceIte]
    rw [hbA_out (show to ≤ p + 1 + 1 + 1 + 1 + 1 by omega)]
    simp only [Bool.and_false, Bool.false_eq_true, ↓reduceIte]
  · have t1 := s3 (p + 1) (by omega)
    have t2 := s3 (p + 2) (by omega)
    have t3 := s3 (p + 3) (by omega)
    have t4 := s3 (p + 4) (by omega)
    have t5 := s3 (p + 5) (by omega)
    rw [hbA_in (show p + 1 < to by omega), hbA_in (show p + 1 + 1 < to by omega), hbA_in (show p + 1 + 1 + 1 < to by omega), hbA_in (show p + 1 + 1 + 1 + 1 < to by omega), hbA_in (show p + 1 + 1 + 1 + 1 + 1 < to by omega)]
    simp (disch := omega) only [nI_add, leN, h5, ↓reduceIte, ↓al_of hB.k31 (show p + 1 < 2000 by omega) (by omega) (s4 (p + 1) (by omega)), ↓al_of hB.k31 (show p + 2 < 2000 by omega) (by omega) (s4 (p + 2) (by omega)), ↓al_of hB.k31 (show p + 3 < 2000 by omega) (by omega) (s4 (p + 3) (by omega)), ↓al_of hB.k31 (show p + 4 < 2000 by omega) (by omega) (s4 (p + 4) (by omega)), ↓al_of hB.k31 (show p + 5 < 2000 by omega) (by omega) (s4 (p + 5) (by omega)), eqN, ↓pi_of hB.o, show p + 1 + 1 = p + 2 by omega, show p + 2 + 1 = p + 3 by omega, show p + 3 + 1 = p + 4 by omega, show p + 4 + 1 = p + 5 by omega]
    by_cases e1 : tx (p + 1) = 113
    · by_cases e2 : tx (p + 2) = 117
      · by_cases e3 : tx (p + 3) = 111
        · by_cases e4 : tx (p + 4) = 116
          · by_cases e5 : tx (p + 5) = 59
            · simp only [e1, e2, e3, e4, e5, ↓reduceIte, decide_true, Bool.and_self]
            · simp only [e1, e2, e3, e4, e5, ↓reduceIte, decide_true, decide_false, Bool.and_false, Bool.false_eq_true]
          · simp only [e1, e2, e3, e4, ↓reduceIte, decide_true, decide_false, Bool.and_false, Bool.false_and, Bool.false_eq_true]
        · simp only [e1, e2, e3, ↓reduceIte, decide_true, decide_false, Bool.and_false, Bool.false_and, Bool.false_eq_true]
      · simp only [e1, e2, ↓reduceIte, decide_true, decide_false, Bool.and_false, Bool.false_and, Bool.false_eq_true]
    · simp only [e1, ↓reduceIte, decide_false, Bool.false_and, Bool.false_eq_true]
theorem ref_ent95 {h : AH} {m N to p : Nat} {ra : Nat → Nat} {tx : Nat → Nat} {v4 : Int32} (hB : RB h m ra) (hs : SrcR h m ra N tx) (hto : to ≤ N) (hp : p < to) (h38 : tx p = 38) : fX9_entity_95 (some m) (some (ra 31)) (nI p) (nI to) v4 h = if isW tx to [38, 97, 109, 112, 59] p = true then some (v4, pI h 483 m (nI 5)) else fX9_entity_150 (some m) (some (ra 31)) (nI p) (nI to) v4 h := by
  obtain ⟨s1, s2, s3, s4⟩ := hs
  simp only [fX9_entity_95, fX9_entity_217, isW_cons, isW_nil, hbA_in hp, h38, decide_true, Bool.true_and, Bool.and_true]
  by_cases h5 : to ≤ p + 4
  · simp (disch := omega) only [nI_add, leN, h5, ↓reduceIte]
    rw [hbA_out (show to ≤ p + 1 + 1 + 1 + 1 by omega)]
    simp only [Bool.and_false, Bool.false_eq_true, ↓reduceIte]
  · have t1 := s3 (p + 1) (by omega)
    have t2 := s3 (p + 2) (by omega)
    have t3 := s3 (p + 3) (by omega)
    have t4 := s3 (p + 4) (by omega)
    rw [hbA_in (show p + 1 < to by omega), hbA_in (show p + 1 + 1 < to by omega), hbA_in (show p + 1 + 1 + 1 < to by omega), hbA_in (show p + 1 + 1 + 1 + 1 < to by omega)]
    generalize fX9_entity_150 (some m) (some (ra 31)) (nI p) (nI to) v4 h = Z
    simp (disch := omega) only [nI_add, leN, h5, ↓reduceIte, ↓al_of hB.k31 (show p + 1 < 2000 by omega) (by omega) (s4 (p + 1) (by omega)), ↓al_of hB.k31 (show p + 2 < 2000 by omega) (by omega) (s4 (p + 2) (by omega)), ↓al_of hB.k31 (show p + 3 < 2000 by omega) (by omega) (s4 (p + 3) (by omega)), ↓al_of hB.k31 (show p + 4 < 2000 by omega) (by omega) (s4 (p + 4) (by omega)), eqN, ↓pi_of hB.o, show p + 1 + 1 = p + 2 by omega, show p + 2 + 1 = p + 3 by omega, show p + 3 + 1 = p + 4 by omega]
    by_cases e1 : tx (p + 1) = 97
    · by_cases e2 : tx (p + 2) = 109
      · by_cases e3 : tx (p + 3) = 112
        · by_cases e4 : tx (p + 4) = 59
          · simp only [e1, e2, e3, e4, ↓reduceIte, decide_true, Bool.and_self]
          · simp only [e1, e2, e3, e4, ↓reduceIte, decide_true, decide_false, Bool.and_false, Bool.false_eq_true]
        · simp only [e1, e2, e3, ↓reduceIte, decide_true, decide_false, Bool.and_false, Bool.false_and, Bool.false_eq_true]
      · simp only [e1, e2, ↓reduceIte, decide_true, decide_false, Bool.and_false, Bool.false_and, Bool.false_eq_true]
    · simp only [e1, ↓reduceIte, decide_false, Bool.false_and, Bool.false_eq_true]
theorem ref_entity {h : AH} {m N to p : Nat} {ra : Nat → Nat} {tx : Nat → Nat} (hB : RB h m ra) (hs : SrcR h m ra N tx) (hto : to ≤ N) (hp : p < to) : ∃ h', fX9_entity (some m) (some (ra 31)) (nI p) (nI to) h = some (nI ((eC tx to p).getD (tx p)), h') ∧ gI h' 483 m = nI (wd (eC tx to p)) ∧ Fr (fun f a => a = m ∧ f = 483) (fun _ => False) h h' := by
  have hs1 : SrcR (pI h 483 m (nI 1)) m ra N tx := ⟨by rw [gI_pI, if_neg (by omega)]; exact hs.1, hs.2⟩
  have hB1 : RB (pI h 483 m (nI 1)) m ra := hB
  have F1 : Fr (fun f a => a = m ∧ f = 483) (fun _ => False) h (pI h 483 m (nI 1)) := Fr.pI Fr.rf ⟨rfl, rfl⟩
  have F2 : ∀ v, Fr (fun f a => a = m ∧ f = 483) (fun _ => False) h (pI (pI h 483 m (nI 1)) 483 m v) := fun v => Fr.pI F1 ⟨rfl, rfl⟩
  obtain ⟨s1, s2, s3, s4⟩ := id hs1
  have t0 := s3 p (by omega)
  simp only [fX9_entity, fX9_entity_0, fX9_entity_68, fX9_entity_90, fX9_entity_217]
  simp (disch := omega) only [↓pi_of hB.o, ↓al_of hB1.k31 (show p < 2000 by omega) (by omega) (s4 p (by omega)), eqN]
  unfold eC
  by_cases h38 : tx p = 38
  · have e95 := ref_ent95 (v4 := nI 38) hB1 hs1 hto hp h38
    have e150 := ref_ent150 (v4 := nI 38) hB1 hs1 hto hp h38
    rw [e150] at e95
    have tail : ∃ h', fX9_entity_95 (some m) (some (ra 31)) (nI p) (nI to) (nI 38) (pI h 483 m (nI 1)) = some (nI ((if isW tx to [38, 97, 109, 112, 59] p = true then some 38 else if isW tx to [38, 113, 117, 111, 116, 59] p = true then some 34 else none : Option Nat).getD 38), h') ∧ gI h' 483 m = nI (wd (if isW tx to [38, 97, 109, 112, 59] p = true then some 38 else if isW tx to [38, 113, 117, 111, 116, 59] p = true then some 34 else none)) ∧ Fr (fun f a => a = m ∧ f = 483) (fun _ => False) h h' := by
      rw [e95]
      cases isW tx to [38, 97, 109, 112, 59] p with
      | true => exact ⟨_, by simp only [↓reduceIte]; rfl, by rw [gI_pI, if_pos ⟨rfl, rfl⟩]; rfl, F2 _⟩
      | false =>
        cases isW tx to [38, 113, 117, 111, 116, 59] p with
        | true => exact ⟨_, by simp only [↓reduceIte, Bool.false_eq_true]; rfl, by rw [gI_pI, if_pos ⟨rfl, rfl⟩]; rfl, F2 _⟩
        | false => exact ⟨_, by simp only [↓reduceIte, Bool.false_eq_true]; rfl, by rw [gI_pI, if_pos ⟨rfl, rfl⟩]; rfl, F1⟩
    simp only [h38, ↓reduceIte]
    by_cases h3 : to ≤ p + 3
    · have a1 : isW tx to [38, 108, 116, 59] p = false := by
        simp only [isW_cons, hbA_out (show to ≤ p + 1 + 1 + 1 by omega), Bool.false_and, Bool.and_false]
      have a2 : isW tx to [38, 103, 116, 59] p = false := by
        simp only [isW_cons, hbA_out (show to ≤ p + 1 + 1 + 1 by omega), Bool.false_and, Bool.and_false]
      simp (disch := omega) only [nI_add, leN, h3, ↓reduceIte, a1, a2, Bool.false_eq_true]
      exact tail
    · have t1 := s3 (p + 1) (by omega)
      have t2 := s3 (p + 2) (by omega)
      have t3 := s3 (p + 3) (by omega)
      have a1 : isW tx to [38, 108, 116, 59] p = (decide (tx (p + 1) = 108) && (decide (tx (p + 2) = 116) && decide (tx (p + 3) = 59))) := by
        simp only [isW_cons, isW_nil, hbA_in hp, h38, hbA_in (show p + 1 < to by omega), hbA_in (show p + 1 + 1 < to by omega), hbA_in (show p + 1 + 1 + 1 < to by omega), decide_true, Bool.true_and, Bool.and_true, show p + 1 + 1 = p + 2 by omega, show p + 2 + 1 = p + 3 by omega]
      have a2 : isW tx to [38, 103, 116, 59] p = (decide (tx (p + 1) = 103) && (decide (tx (p + 2) = 116) && decide (tx (p + 3) = 59))) := by
        simp only [isW_cons, isW_nil, hbA_in hp, h38, hbA_in (show p + 1 < to by omega), hbA_in (show p + 1 + 1 < to by omega), hbA_in (show p + 1 + 1 + 1 < to by omega), decide_true, Bool.true_and, Bool.and_true, show p + 1 + 1 = p + 2 by omega, show p + 2 + 1 = p + 3 by omega]
      rw [a1, a2]
      have s41 : gA (pI (pI h 483 m (nI 1)) 483 m (nI 4)) (ra 31) (p + 1) = nI (tx (p + 1)) := s4 (p + 1) (by omega)
      have hB2 : RB (pI (pI h 483 m (nI 1)) 483 m (nI 4)) m ra := hB
      generalize fX9_entity_95 (some m) (some (ra 31)) (nI p) (nI to) (nI 38) (pI h 483 m (nI 1)) = Z at *
      simp (disch := omega) only [nI_add, leN, h3, ↓reduceIte, ↓al_of hB1.k31 (show p + 1 < 2000 by omega) (by omega) (s4 (p + 1) (by omega)), ↓al_of hB1.k31 (show p + 2 < 2000 by omega) (by omega) (s4 (p + 2) (by omega)), ↓al_of hB1.k31 (show p + 3 < 2000 by omega) (by omega) (s4 (p + 3) (by omega)), eqN, ↓pi_of hB1.o, ↓al_of hB2.k31 (show p + 1 < 2000 by omega) (by omega) s41]
      by_cases e2 : tx (p + 2) = 116
      · by_cases e3 : tx (p + 3) = 59
        · by_cases e1 : tx (p + 1) = 108
          · refine ⟨pI (pI h 483 m (nI 1)) 483 m (nI 4), ?_, ?_, F2 _⟩
            · simp only [e1, e2, e3, ↓reduceIte, decide_true, Bool.and_self]; rfl
            · simp only [e1, e2, e3, ↓reduceIte, decide_true, Bool.and_self]
              rw [gI_pI, if_pos ⟨rfl, rfl⟩]; rfl
          · by_cases e1' : tx (p + 1) = 103
            · refine ⟨pI (pI h 483 m (nI 1)) 483 m (nI 4), ?_, ?_, F2 _⟩
              · simp only [e1', e2, e3, ↓reduceIte, decide_true, decide_false, Bool.and_self, Bool.false_and, Bool.false_eq_true, Nat.reduceEqDiff]; rfl
              · simp only [e1', e2, e3, ↓reduceIte, decide_true, decide_false, Bool.and_self, Bool.false_and, Bool.false_eq_true, Nat.reduceEqDiff]
                rw [gI_pI, if_pos ⟨rfl, rfl⟩]; rfl
            · simp only [e1, e1', e2, e3, ↓reduceIte, decide_false, Bool.false_and, Bool.false_eq_true]
              exact tail
        · simp only [e2, e3, ↓reduceIte, decide_false, Bool.and_false, Bool.false_eq_true]
          exact tail
      · simp only [e2, ↓reduceIte, decide_false, Bool.and_false, Bool.false_and, Bool.false_eq_true]
        exact tail
  · refine ⟨pI h 483 m (nI 1), ?_, ?_, F1⟩
    · simp only [h38, ↓reduceIte, Option.getD_none]
    · simp only [h38, ↓reduceIte]
      rw [gI_pI, if_pos ⟨rfl, rfl⟩]; rfl

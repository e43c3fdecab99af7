/-! a TAG is read: the reference's NAMES and VALUES -/
theorem SR.ax {h0 h h' : AH} {m N : Nat} {ra : Nat → Nat} {tx : Nat → Nat} {T : TS} {fl : FL} {os : OS} (q : SR h0 m ra N tx h T fl os) {I : Nat → Nat → Prop} {A : Nat → Prop} (w : Fr I A h h') (hI : ∀ f a, I f a → a = m ∧ (f = 483 ∨ (485 ≤ f ∧ f < 500))) (hA : ∀ a, A a → ∃ k, 34 ≤ k ∧ a = ra k) : SR h0 m ra N tx h' T fl os := by
  obtain ⟨q1, q2, q3, q4, q5, q6⟩ := id q
  have hn : ∀ f, f ≠ 483 → ¬ (485 ≤ f ∧ f < 500) → ¬ I f m := fun f h1 h2 z => by have := (hI _ _ z).2; omega
  have ha : ∀ k, k < 34 → ¬ A (ra k) := fun k hk z => by obtain ⟨j, hj, e⟩ := hA _ z; rw [q1.i] at e; omega
  exact q.put (w.mo (fun f a z => by have := hI f a z; exact ⟨this.1, by omega, by omega, by omega⟩) (fun a z => by obtain ⟨j, hj, e⟩ := hA _ z; exact ⟨j, by omega, by omega, e⟩)) (q2.fr w (hn 475 (by omega) (by omega)) (fun k h6 h23 => ha k (by omega))) (q3.fr w (hn 476 (by omega) (by omega)) (ha 27 (by omega)) (ha 28 (by omega))) (q5.fr w (hn 480 (by omega) (by omega)) (ha 29 (by omega)) (ha 24 (by omega)))
def LsR (h : AH) (a : Nat) (l : List Nat) : Prop := ∀ k, k < l.length → gA h a k = nI (l.getD k 0)
theorem LsR.fr {h h' : AH} {a : Nat} {l : List Nat} (q : LsR h a l) (e : ∀ k, gA h' a k = gA h a k) : LsR h' a l := fun k hk => by rw [e]; exact q k hk
theorem LsR.snoc {h : AH} {a : Nat} {l : List Nat} {c : Nat} (q : LsR h a l) : LsR (pA h a l.length (nI c)) a (l ++ [c]) := fun k hk => by
  rw [List.length_append, List.length_singleton] at hk
  rw [gA_pA, getD_snoc]
  by_cases e : k = l.length
  · rw [if_pos ⟨rfl, e⟩, if_pos e]
  · rw [if_neg (fun z => e z.2), if_neg e]; exact q k (by omega)
def TnR (h : AH) (m : Nat) (ra : Nat → Nat) (nm : List Nat) : Prop := gI h 485 m = nI nm.length ∧ nm.length ≤ 8 ∧ LsR h (ra 34) nm
theorem TnR.fr {h h' : AH} {m : Nat} {ra : Nat → Nat} {nm : List Nat} (q : TnR h m ra nm) {I : Nat → Nat → Prop} {A : Nat → Prop} (w : Fr I A h h') (hI : ¬ I 485 m) (hA : ¬ A (ra 34)) : TnR h' m ra nm := ⟨by rw [w.1 _ _ hI]; exact q.1, q.2.1, q.2.2.fr (fun k => w.2.2.2.1 _ _ hA)⟩
theorem ref_tagName_L {h0 : AH} {m N : Nat} {ra : Nat → Nat} {tx : Nat → Nat} {T : TS} {fl : FL} {os : OS} {v1 v2 : Int32} (hok : ∀ q, q < N → okb (tx q) = true) : ∀ (j f q : Nat) (h : AH) (l : List Nat), q + j = N → j < f → SR h0 m ra N tx h T fl os → TnR h m ra l → ∃ h', fX9_readTag_38 f (some m) v1 v2 (nI q) h = fX9_readTag_114 (some m) v1 v2 (nI (tnm tx j q l).2) h' ∧ SR h0 m ra N tx h' T fl os ∧ TnR h' m ra (tnm tx j q l).1 := by
  intro j
  induction j with
  | zero =>
    intro f q h l hqj hjf s t
    obtain ⟨f, rfl⟩ : ∃ g, f = g + 1 := ⟨f - 1, by omega⟩
    have hN := s.2.2.2.1.2.1
    refine ⟨h, ?_, s, t⟩
    rw [fX9_readTag_38]
    simp (disch := omega) only [↓gi_of s.1.o s.2.2.2.1.1, leN, show N ≤ q by omega, ↓reduceIte]
    rfl
  | succ j ih =>
    intro f q h l hqj hjf s t
    obtain ⟨f, rfl⟩ : ∃ g, f = g + 1 := ⟨f - 1, by omega⟩
    have hN := s.2.2.2.1.2.1
    have hB := s.1
    have hin : q < N := by omega
    have hv1 := toSm_v (hok q hin)
    have hlt := s.2.2.2.1.2.2.1 q hin
    have hsrc := s.2.2.2.1.2.2.2 q hin
    have hl1 := ref_lt (h := h) (c := tx q) (by omega)
    have hd1 := ref_dg (h := h) (c := tx q) (by omega)
    have hsm := ref_small (h := h) (c := tx q) (by omega)
    have go : ∃ h', fX9_readTag_70 (fX9_readTag_38 f) (some m) v1 v2 (nI q) h = fX9_readTag_114 (some m) v1 v2 (nI (tnm tx j (q + 1) (nadd l (toSm (tx q)))).2) h' ∧ SR h0 m ra N tx h' T fl os ∧ TnR h' m ra (tnm tx j (q + 1) (nadd l (toSm (tx q)))).1 := by
      simp only [fX9_readTag_70, fX9_readTag_108]
      have t2 := t.2.1
      simp (disch := omega) only [↓gi_of hB.o t.1, leN, nI_add]
      unfold nadd
      by_cases h8 : l.length < 8
      · rw [if_pos h8, if_neg (by omega)]
        have F1 : Fr (fun f a => a = m ∧ f = 485) (fun a => a = ra 34) h (pI (pA h (ra 34) l.length (nI (toSm (tx q)))) 485 m (nI (l.length + 1))) := Fr.pI (Fr.pA Fr.rf rfl) ⟨rfl, rfl⟩
        have s1 := s.ax F1 (fun f a z => ⟨z.1, Or.inr (by omega)⟩) (fun a z => ⟨34, by omega, z⟩)
        obtain ⟨h2, g2, s2, t2'⟩ := ih f (q + 1) (pI (pA h (ra 34) l.length (nI (toSm (tx q)))) 485 m (nI (l.length + 1))) (l ++ [toSm (tx q)]) (by omega) (by omega) s1 ⟨by rw [gI_pI, if_pos ⟨rfl, rfl⟩, List.length_append]; rfl, by simp; omega, t.2.2.snoc⟩
        refine ⟨h2, ?_, s2, t2'⟩
        have hB' : RB (pA h (ra 34) l.length (nI (toSm (tx q)))) m ra := hB
        have e485 : gI (pA h (ra 34) l.length (nI (toSm (tx q)))) 485 m = nI l.length := t.1
        simp (disch := omega) only [↓gr_of hB.o hB.r34, ↓gr_of hB.o hB.r31, ↓al_of hB.k31 (show q < 2000 by omega) (by omega) hsrc, ↓cl_of hsm, ↓as_of hB.k34 h8 (by omega), vn1, nI_b hv1.2, ↓gi_of hB'.o e485, ↓pi_of hB'.o, nI_add]
        exact g2
      · rw [if_neg h8, if_pos (by omega)]
        obtain ⟨h2, g2, s2, t2'⟩ := ih f (q + 1) h l (by omega) (by omega) s t
        exact ⟨h2, g2, s2, t2'⟩
    rw [fX9_readTag_38]
    rw [show tnm tx (j + 1) q l = if (isLt (tx q) || isDg (tx q)) = true then tnm tx j (q + 1) (nadd l (toSm (tx q))) else (l, q) from rfl]
    simp (disch := omega) only [↓gi_of hB.o s.2.2.2.1.1, leN, show ¬ N ≤ q by omega, ↓reduceIte, ↓gr_of hB.o hB.r31, ↓al_of hB.k31 (show q < 2000 by omega) (by omega) hsrc, ↓cl_of hl1, bI0]
    cases isLt (tx q) with
    | true => simp only [Bool.true_eq_false, ↓reduceIte, Bool.true_or]; exact go
    | false =>
      simp only [↓reduceIte, Bool.false_or, ↓gr_of hB.o hB.r31, ↓al_of hB.k31 (show q < 2000 by omega) (by omega) hsrc, ↓cl_of hd1, bI0]
      cases isDg (tx q) with
      | true => simp only [Bool.true_eq_false, ↓reduceIte]; exact go
      | false => exact ⟨h, by simp only [↓reduceIte, Bool.false_eq_true], s, t⟩
/-- what is kept beside while one ATTRIBUTE is read -/
def AlR (h : AH) (m : Nat) (ra : Nat → Nat) (L : AttL) (tw : List Nat) : Prop := gI h 486 m = nI L.length ∧ (∀ a, a < L.length → gA h (ra 38) a = nI (L.getD a ([], [])).1.length ∧ (∀ k, k < (L.getD a ([], [])).1.length → gA h (ra 37) (8 * a + k) = nI ((L.getD a ([], [])).1.getD k 0)) ∧ gA h (ra 40) a = nI (L.getD a ([], [])).2.length ∧ ∀ k, k < (L.getD a ([], [])).2.length → gA h (ra 39) (60 * a + k) = nI ((L.getD a ([], [])).2.getD k 0)) ∧ gI h 491 m = nI tw.length ∧ LsR h (ra 42) tw
theorem AlR.fr {h h' : AH} {m : Nat} {ra : Nat → Nat} {L : AttL} {tw : List Nat} (q : AlR h m ra L tw) {I : Nat → Nat → Prop} {A : Nat → Prop} (w : Fr I A h h') (hI : ¬ I 486 m) (hI2 : ¬ I 491 m) (hA : ∀ k, 37 ≤ k → k ≤ 42 → ¬ A (ra k)) : AlR h' m ra L tw := by
  refine ⟨by rw [w.1 _ _ hI]; exact q.1, fun a ha => ?_, by rw [w.1 _ _ hI2]; exact q.2.2.1, q.2.2.2.fr (fun k => w.2.2.2.1 _ _ (hA 42 (by omega) (by omega)))⟩
  obtain ⟨a1, a2, a3, a4⟩ := q.2.1 a ha
  exact ⟨by rw [w.2.2.2.1 _ _ (hA 38 (by omega) (by omega))]; exact a1, fun k hk => by rw [w.2.2.2.1 _ _ (hA 37 (by omega) (by omega))]; exact a2 k hk, by rw [w.2.2.2.1 _ _ (hA 40 (by omega) (by omega))]; exact a3, fun k hk => by rw [w.2.2.2.1 _ _ (hA 39 (by omega) (by omega))]; exact a4 k hk⟩
def SA (h0 : AH) (m : Nat) (ra : Nat → Nat) (N : Nat) (tx : Nat → Nat) (h : AH) (T : TS) (fl : FL) (os : OS) (nm : List Nat) (L : AttL) (tw : List Nat) : Prop := SR h0 m ra N tx h T fl os ∧ TnR h m ra nm ∧ AlR h m ra L tw
theorem SA.ax {h0 h h' : AH} {m N : Nat} {ra : Nat → Nat} {tx : Nat → Nat} {T : TS} {fl : FL} {os : OS} {nm tw : List Nat} {L : AttL} (q : SA h0 m ra N tx h T fl os nm L tw) {I : Nat → Nat → Prop} {A : Nat → Prop} (w : Fr I A h h') (hI : ∀ f a, I f a → a = m ∧ f = 483) (hA : ∀ a, A a → a = ra 43 ∨ a = ra 44) : SA h0 m ra N tx h' T fl os nm L tw := by
  have hB := q.1.1
  have hn : ∀ f, f ≠ 483 → ¬ I f m := fun f h1 z => h1 (hI _ _ z).2
  have ha : ∀ k, k < 43 → ¬ A (ra k) := fun k hk z => by
    rcases hA _ z with e | e <;> (rw [hB.i] at e; omega)
  exact ⟨q.1.ax w (fun f a z => ⟨(hI f a z).1, Or.inl (hI f a z).2⟩) (fun a z => (hA a z).elim (fun e => ⟨43, by omega, e⟩) (fun e => ⟨44, by omega, e⟩)), q.2.1.fr w (hn 485 (by omega)) (ha 34 (by omega)), q.2.2.fr w (hn 486 (by omega)) (hn 491 (by omega)) (fun k _ h2 => ha k (by omega))⟩
theorem ref_eNm (c : Nat) : eNm c = (c == 61 || (isBl c || (c == 47 || c == 62))) := by
  unfold eNm prt
  cases c == 61 <;> cases c == 62 <;> cases isBl c <;> cases c == 47 <;> rfl
theorem ref_attName_L {h0 : AH} {m N p : Nat} {ra : Nat → Nat} {tx : Nat → Nat} {T : TS} {fl : FL} {os : OS} {nm tw : List Nat} {L : AttL} (hok : ∀ q, q < N → okb (tx q) = true) : ∀ (j f q : Nat) (h : AH) (l : List Nat), q + j = N → j < f → p < q → l.length ≤ 8 → SA h0 m ra N tx h T fl os nm L tw → LsR h (ra 43) l → ∃ h', fX9_readAttribute_4 f (some m) (nI p) (nI l.length) (nI q) h = fX9_readAttribute_93 (some m) (nI p) (nI (anm tx j q l).1.length) (nI (anm tx j q l).2) h' ∧ SA h0 m ra N tx h' T fl os nm L tw ∧ LsR h' (ra 43) (anm tx j q l).1 := by
  intro j
  induction j with
  | zero =>
    intro f q h l hqj hjf hpq hl8 s t
    obtain ⟨f, rfl⟩ : ∃ g, f = g + 1 := ⟨f - 1, by omega⟩
    have hN := s.1.2.2.2.1.2.1
    refine ⟨h, ?_, s, t⟩
    rw [fX9_readAttribute_4]
    simp (disch := omega) only [↓gi_of s.1.1.o s.1.2.2.2.1.1, leN, show N ≤ q by omega, ↓reduceIte]
    rfl
  | succ j ih =>
    intro f q h l hqj hjf hpq hl8 s t
    obtain ⟨f, rfl⟩ : ∃ g, f = g + 1 := ⟨f - 1, by omega⟩
    have hN := s.1.2.2.2.1.2.1
    have hB := s.1.1
    have hin : q < N := by omega
    have hv1 := toSm_v (hok q hin)
    have hlt := s.1.2.2.2.1.2.2.1 q hin
    have hsrc := s.1.2.2.2.1.2.2.2 q hin
    have hb1 := ref_bl (h := h) (c := tx q) (by omega)
    have hsm := ref_small (h := h) (c := tx q) (by omega)
    have go : ∃ h', fX9_readAttribute_62 (fX9_readAttribute_4 f) (some m) (nI p) (nI l.length) (nI q) h = fX9_readAttribute_93 (some m) (nI p) (nI (anm tx j (q + 1) (nadd l (toSm (tx q)))).1.length) (nI (anm tx j (q + 1) (nadd l (toSm (tx q)))).2) h' ∧ SA h0 m ra N tx h' T fl os nm L tw ∧ LsR h' (ra 43) (anm tx j (q + 1) (nadd l (toSm (tx q)))).1 := by
      simp only [fX9_readAttribute_62, fX9_readAttribute_87]
      simp (disch := omega) only [leN, nI_add]
      unfold nadd
      by_cases h8 : l.length < 8
      · rw [if_pos h8, if_neg (by omega)]
        have F1 : Fr (fun f a => a = m ∧ f = 483) (fun a => a = ra 43) h (pA h (ra 43) l.length (nI (toSm (tx q)))) := Fr.pA Fr.rf rfl
        have s1 := s.ax F1 (fun f a z => z) (fun a z => Or.inl z)
        obtain ⟨h2, g2, s2, t2'⟩ := ih f (q + 1) (pA h (ra 43) l.length (nI (toSm (tx q)))) (l ++ [toSm (tx q)]) (by omega) (by omega) (by omega) (by simp; omega) s1 t.snoc
        refine ⟨h2, ?_, s2, t2'⟩
        rw [List.length_append, List.length_singleton] at g2
        simp (disch := omega) only [↓gr_of hB.o hB.r43, ↓gr_of hB.o hB.r31, ↓al_of hB.k31 (show q < 2000 by omega) (by omega) hsrc, ↓cl_of hsm, ↓as_of hB.k43 h8 (by omega), vn1, nI_b hv1.2, nI_add]
        exact g2
      · rw [if_neg h8, if_pos (by omega)]
        obtain ⟨h2, g2, s2, t2'⟩ := ih f (q + 1) h l (by omega) (by omega) (by omega) hl8 s t
        exact ⟨h2, g2, s2, t2'⟩
    rw [fX9_readAttribute_4]
    rw [show anm tx (j + 1) q l = if eNm (tx q) = true then (l, q) else anm tx j (q + 1) (nadd l (toSm (tx q))) from rfl, ref_eNm]
    simp (disch := omega) only [↓gi_of hB.o s.1.2.2.2.1.1, leN, show ¬ N ≤ q by omega, ↓reduceIte, eqN, show ¬ q = p by omega, ↓gr_of hB.o hB.r31, ↓al_of hB.k31 (show q < 2000 by omega) (by omega) hsrc, ↓cl_of hb1, bI0]
    by_cases h61 : tx q = 61
    · rw [if_pos h61, show (tx q == 61) = true by simp [h61], Bool.true_or]
      exact ⟨h, rfl, s, t⟩
    · rw [if_neg h61, show (tx q == 61) = false by simp [h61], Bool.false_or]
      cases isBl (tx q) with
      | true => exact ⟨h, by simp only [Bool.true_eq_false, ↓reduceIte, Bool.true_or], s, t⟩
      | false =>
        simp only [↓reduceIte, Bool.false_or]
        by_cases h47 : tx q = 47
        · rw [if_pos h47, show (tx q == 47) = true by simp [h47], Bool.true_or]
          exact ⟨h, rfl, s, t⟩
        · rw [if_neg h47, show (tx q == 47) = false by simp [h47], Bool.false_or]
          by_cases h62 : tx q = 62
          · rw [if_pos h62, show (tx q == 62) = true by simp [h62]]
            exact ⟨h, rfl, s, t⟩
          · rw [if_neg h62, show (tx q == 62) = false by simp [h62]]
            simp only [Bool.false_eq_true, ↓reduceIte]
            exact go
theorem ref_attName {h0 h : AH} {m N p : Nat} {ra : Nat → Nat} {tx : Nat → Nat} {T : TS} {fl : FL} {os : OS} {nm tw : List Nat} {L : AttL} (hok : ∀ q, q < N → okb (tx q) = true) (hp : p < N) (s : SA h0 m ra N tx h T fl os nm L tw) : ∃ h', fX9_readAttribute (some m) (nI p) h = fX9_readAttribute_93 (some m) (nI p) (nI (an0 tx N p).1.length) (nI (an0 tx N p).2) h' ∧ SA h0 m ra N tx h' T fl os nm L tw ∧ LsR h' (ra 43) (an0 tx N p).1 := by
  have hN := s.1.2.2.2.1.2.1
  have hB := s.1.1
  have hv1 := toSm_v (hok p hp)
  have hlt := s.1.2.2.2.1.2.2.1 p hp
  have hsrc := s.1.2.2.2.1.2.2.2 p hp
  have hsm := ref_small (h := h) (c := tx p) (by omega)
  obtain ⟨fu, hfu⟩ : ∃ q, FU = q + 1 := ⟨FU - 1, by have := FU_ge; omega⟩
  have F1 : Fr (fun f a => a = m ∧ f = 483) (fun a => a = ra 43) h (pA h (ra 43) 0 (nI (toSm (tx p)))) := Fr.pA Fr.rf rfl
  have s1 := s.ax F1 (fun f a z => z) (fun a z => Or.inl z)
  have t1 : LsR (pA h (ra 43) 0 (nI (toSm (tx p)))) (ra 43) [toSm (tx p)] := (show LsR h (ra 43) [] from fun k hk => by simp at hk).snoc
  obtain ⟨h2, g2, s2, t2⟩ := ref_attName_L (p := p) hok (N - (p + 1)) fu (p + 1) (pA h (ra 43) 0 (nI (toSm (tx p)))) [toSm (tx p)] (by omega) (by have := FU_ge; omega) (by omega) (by simp) s1 t1
  refine ⟨h2, ?_, s2, t2⟩
  simp only [fX9_readAttribute, fX9_readAttribute_0]
  rw [hfu, fX9_readAttribute_4]
  simp (disch := omega) only [↓gi_of hB.o s.1.2.2.2.1.1, leN, show ¬ N ≤ p by omega, ↓reduceIte, fX9_readAttribute_62, fX9_readAttribute_87, show ¬ 8 ≤ 0 by omega, ↓gr_of hB.o hB.r43, ↓gr_of hB.o hB.r31, ↓al_of hB.k31 (show p < 2000 by omega) (by omega) hsrc, ↓cl_of hsm, ↓as_of hB.k43 (show 0 < 8 by omega) (by omega), vn1, nI_b hv1.2, nI_add, Nat.zero_add]
  exact g2
theorem ref_ven {h0 h : AH} {m N : Nat} {ra : Nat → Nat} {tx : Nat → Nat} {T : TS} {fl : FL} {os : OS} {v1 v2 v3 : Int32} {qt : Option Nat} (hq : ∀ u, qt = some u → u = 34 ∨ u = 39) (s : SR h0 m ra N tx h T fl os) : ∀ (j f to : Nat), to + j = N → j < f → fX9_readAttribute_176 f (some m) v1 v2 v3 (nI 0) (nI (qt.getD 0)) (nI to) h = fX9_readAttribute_236 FU (some m) v1 v2 v3 (nI 0) (nI (qt.getD 0)) (nI (ven tx qt j to)) h := by
  have hN := s.2.2.2.1.2.1
  have hB := s.1
  intro j
  induction j with
  | zero =>
    intro f to htj hjf
    obtain ⟨f, rfl⟩ : ∃ g, f = g + 1 := ⟨f - 1, by omega⟩
    rw [fX9_readAttribute_176]
    simp (disch := omega) only [↓gi_of hB.o s.2.2.2.1.1, leN, show N ≤ to by omega, ↓reduceIte]
    rfl
  | succ j ih =>
    intro f to htj hjf
    obtain ⟨f, rfl⟩ : ∃ g, f = g + 1 := ⟨f - 1, by omega⟩
    have hin : to < N := by omega
    have hlt := s.2.2.2.1.2.2.1 to hin
    have hsrc := s.2.2.2.1.2.2.2 to hin
    have hb1 := ref_bl (h := h) (c := tx to) (by omega)
    have hi := ih f (to + 1) (by omega) (by omega)
    rw [fX9_readAttribute_176]
    rw [show ven tx qt (j + 1) to = if eVl qt (tx to) = true then to else ven tx qt j (to + 1) from rfl]
    simp (disch := omega) only [↓gi_of hB.o s.2.2.2.1.1, leN, show ¬ N ≤ to by omega, ↓reduceIte, fX9_readAttribute_230, nI_add]
    unfold eVl
    cases qt with
    | some u =>
      have hu : u < 128 ∧ 0 < u := by rcases hq u rfl with z | z <;> omega
      simp (disch := omega) only [Option.getD_some, le0n, show ¬ u = 0 by omega, ↓reduceIte, ↓gr_of hB.o hB.r31, ↓al_of hB.k31 (show to < 2000 by omega) (by omega) hsrc, eqN]
      by_cases e : tx to = u
      · rw [if_pos e, if_pos (by simp [e])]
      · rw [if_neg e, if_neg (by simp [e])]; exact hi
    | none =>
      simp (disch := omega) only [Option.getD_none, le0n, ↓reduceIte, ↓gr_of hB.o hB.r31, ↓al_of hB.k31 (show to < 2000 by omega) (by omega) hsrc, ↓cl_of hb1, bI0, eqN]
      cases isBl (tx to) with
      | true => simp only [Bool.true_eq_false, ↓reduceIte, Bool.true_or]
      | false =>
        simp only [↓reduceIte, Bool.false_or]
        by_cases e : tx to = 62
        · rw [if_pos e, if_pos (by simp [e])]
        · rw [if_neg e, if_neg (by simp [e])]; exact hi
theorem ref_val_L {h0 : AH} {m N to : Nat} {ra : Nat → Nat} {tx : Nat → Nat} {T : TS} {fl : FL} {os : OS} {nm tw : List Nat} {L : AttL} {v1 v2 v5 : Int32} {l : List Nat} (hok : ∀ q, q < N → okb (tx q) = true) (hto : to ≤ N) : ∀ (j f i : Nat) (h : AH) (w : List Nat), i ≤ to → to ≤ i + j → j < f → w.length ≤ 60 → SA h0 m ra N tx h T fl os nm L tw → LsR h (ra 43) l → LsR h (ra 44) w → ∃ h', fX9_readAttribute_236 f (some m) v1 v2 (nI i) (nI w.length) v5 (nI to) h = fX9_readAttribute_285 (some m) v1 v2 (nI to) (nI (vcat w ((decL tx to false j i).map (fun q => q.2))).length) v5 h' ∧ SA h0 m ra N tx h' T fl os nm L tw ∧ LsR h' (ra 43) l ∧ LsR h' (ra 44) (vcat w ((decL tx to false j i).map (fun q => q.2))) := by
  have stop : ∀ (f : Nat) (h : AH) (w : List Nat), w.length ≤ 60 → SA h0 m ra N tx h T fl os nm L tw → fX9_readAttribute_236 (f + 1) (some m) v1 v2 (nI to) (nI w.length) v5 (nI to) h = fX9_readAttribute_285 (some m) v1 v2 (nI to) (nI (vcat w []).length) v5 h := by
    intro f h w hw s
    have hN := s.1.2.2.2.1.2.1
    rw [fX9_readAttribute_236, vcat_nil hw]
    simp (disch := omega) only [leN, Nat.le_refl, ↓reduceIte]
  intro j
  induction j with
  | zero =>
    intro f i h w hit hij hjf hw s t1 t2
    obtain ⟨f, rfl⟩ : ∃ g, f = g + 1 := ⟨f - 1, by omega⟩
    have e : i = to := by omega
    subst e
    exact ⟨h, stop f h w hw s, s, t1, by rw [show (decL tx i false 0 i).map (fun q => q.2) = [] from rfl, vcat_nil hw]; exact t2⟩
  | succ j ih =>
    intro f i h w hit hij hjf hw s t1 t2
    obtain ⟨f, rfl⟩ : ∃ g, f = g + 1 := ⟨f - 1, by omega⟩
    have hN := s.1.2.2.2.1.2.1
    have hB := s.1.1
    rw [show decL tx to false (j + 1) i = if i < to then (i, (eX false tx to i).getD (tx i)) :: decL tx to false j (i + wd (eX false tx to i)) else [] from rfl]
    by_cases hlt2 : i < to
    · rw [if_pos hlt2, List.map_cons]
      have eXe : eX false tx to i = eC tx to i := rfl
      have hcb := eX_b (raw := false) (tx := tx) (to := to) (hok i (by omega))
      rw [eXe] at hcb ⊢
      have hw1 := eC_wd (tx := tx) hlt2
      have hwp := wd_pos (eC tx to i)
      obtain ⟨h1, g1, e1, F1⟩ := ref_entity hB s.1.2.2.2.1 hto hlt2
      have s1 := s.ax F1 (fun f a z => z) (fun a z => z.elim)
      have t11 := t1.fr (fun k => F1.2.2.2.1 (ra 43) k (fun z => z))
      have t21 := t2.fr (fun k => F1.2.2.2.1 (ra 44) k (fun z => z))
      have hB1 := s1.1.1
      generalize hcg : (eC tx to i).getD (tx i) = c at *
      have hc := okb_lt hcb
      have hva : vadd w c = vcat w [c] := vadd_eq hw
      rw [← vcat_cons w _ c, ← hva]
      rw [fX9_readAttribute_236]
      simp (disch := omega) only [leN, show ¬ to ≤ i by omega, ↓reduceIte, ↓gr_of hB.o hB.r31, ↓cv_of hB.o g1, fX9_readAttribute_275]
      unfold vadd
      by_cases h60 : w.length < 60
      · rw [if_pos h60, if_neg (by omega)]
        have F2 : Fr (fun f a => a = m ∧ f = 483) (fun a => a = ra 44) h1 (pA h1 (ra 44) w.length (nI c)) := Fr.pA Fr.rf rfl
        have s2 := s1.ax F2 (fun f a z => z) (fun a z => Or.inr z)
        obtain ⟨h3, g3, s3, t3, t4⟩ := ih f (i + wd (eC tx to i)) (pA h1 (ra 44) w.length (nI c)) (w ++ [c]) (by omega) (by omega) (by omega) (by simp; omega) s2 (t11.fr (fun k => F2.2.2.2.1 (ra 43) k (fun z => by have z' : ra 43 = ra 44 := z; rw [hB.i] at z'; omega))) t21.snoc
        refine ⟨h3, ?_, s3, t3, t4⟩
        have hB2 := s2.1.1
        have e2 : gI (pA h1 (ra 44) w.length (nI c)) 483 m = nI (wd (eC tx to i)) := e1
        rw [List.length_append, List.length_singleton] at g3
        simp (disch := omega) only [↓gr_of hB1.o hB1.r44, ↓as_of hB1.k44 h60 (by omega), vn1, nI_b hc, ↓gi_of hB2.o e2, nI_add]
        exact g3
      · rw [if_neg h60, if_pos (by omega)]
        obtain ⟨h3, g3, s3, t3, t4⟩ := ih f (i + wd (eC tx to i)) h1 w (by omega) (by omega) (by omega) hw s1 t11 t21
        refine ⟨h3, ?_, s3, t3, t4⟩
        simp (disch := omega) only [↓gi_of hB1.o e1, nI_add]
        exact g3
    · rw [if_neg hlt2]
      have e : i = to := by omega
      subst e
      exact ⟨h, stop f h w hw s, s, t1, by rw [List.map_nil, vcat_nil hw]; exact t2⟩

/-! the ATTRIBUTES of a TAG: the reference -/
theorem ref_has {h0 h : AH} {m N : Nat} {ra : Nat → Nat} {tx : Nat → Nat} {T : TS} {fl : FL} {os : OS} {nm tw : List Nat} {L : AttL} {v1 v3 v4 : Int32} {l : List Nat} (hL : AtS L) (hl8 : l.length ≤ 8) (hlv : vch l) (s : SA h0 m ra N tx h T fl os nm L tw) (t : LsR h (ra 43) l) : ∀ (j f a : Nat) (has : Bool), a + j = L.length → j < f → fX9_readAttribute_320 f (some m) v1 (nI l.length) v3 v4 (bI has) (nI a) h = fX9_readAttribute_379 (some m) v1 (nI l.length) v3 v4 (bI (has || (fnd l (L.drop a) a).isSome)) h := by
  have hB := s.1.1
  have hL4 := hL.1
  intro j
  induction j with
  | zero =>
    intro f a has haj hjf
    obtain ⟨f, rfl⟩ : ∃ g, f = g + 1 := ⟨f - 1, by omega⟩
    rw [fX9_readAttribute_320, List.drop_eq_nil_of_le (by omega)]
    simp (disch := omega) only [↓gi_of hB.o s.2.2.1, leN, show L.length ≤ a by omega, ↓reduceIte]
    rw [show (fnd l ([] : AttL) a).isSome = false from rfl, Bool.or_false]
  | succ j ih =>
    intro f a has haj hjf
    obtain ⟨f, rfl⟩ : ∃ g, f = g + 1 := ⟨f - 1, by omega⟩
    have ha : a < L.length := by omega
    obtain ⟨z1, z2, z3, z4⟩ := hL.get ha
    obtain ⟨a1, a2, a3, a4⟩ := s.2.2.2.1 a ha
    rw [fX9_readAttribute_320, drop_cons ([], []) ha]
    rw [show fnd l (L.getD a ([], []) :: L.drop (a + 1)) a = if (L.getD a ([], [])).1 = l then some a else fnd l (L.drop (a + 1)) (a + 1) from rfl]
    simp (disch := omega) only [↓gi_of hB.o s.2.2.1, leN, show ¬ L.length ≤ a by omega, ↓reduceIte, bI0, fX9_readAttribute_370, fX9_readAttribute_366, fX9_readAttribute_371, nI_add]
    cases has with
    | true =>
      simp only [Bool.true_eq_false, ↓reduceIte, Bool.true_or]
      have := ih f (a + 1) true (by omega) (by omega)
      rw [Bool.true_or] at this
      exact this
    | false =>
      simp (disch := omega) only [↓reduceIte, Bool.false_or, ↓gr_of hB.o hB.r38, ↓al_of hB.k38 (show a < 4 by omega) (by omega) a1, eqN]
      by_cases hlen : (L.getD a ([], [])).1.length = l.length
      · have hsame := ref_same (h := h) (a := ra 37) (b := ra 43) (p := 8 * a) (q := 0) (N := 32) (M := 8) (l := (L.getD a ([], [])).1) (l' := l) hB.k37 hB.k43 (by omega) (by omega) hlen (by omega) (by omega) a2 (fun k hk => by rw [Nat.zero_add]; exact t k (by omega)) (fun k => ⟨by have := vch_get z2 k; omega, by have := vch_get hlv k; omega⟩)
        rw [hlen] at hsame
        simp (disch := omega) only [hlen, ↓reduceIte, ↓gr_of hB.o hB.r37, ↓gr_of hB.o hB.r43, nI_mul, ↓cl_of hsame, bI0]
        by_cases e : (L.getD a ([], [])).1 = l
        · simp only [e, decide_true, Bool.true_eq_false, ↓reduceIte, Option.isSome_some]
          have := ih f (a + 1) true (by omega) (by omega)
          rw [Bool.true_or] at this
          exact this
        · simp only [e, decide_false, ↓reduceIte]
          have := ih f (a + 1) false (by omega) (by omega)
          rw [Bool.false_or] at this
          exact this
      · have e : ¬ (L.getD a ([], [])).1 = l := fun z => hlen (by rw [z])
        rw [if_neg hlen, if_neg e]
        have := ih f (a + 1) false (by omega) (by omega)
        rw [Bool.false_or] at this
        exact this
theorem ref_cpN {m N' : Nat} {ra : Nat → Nat} {l : List Nat} {v3 v4 : Int32} (hv : vch l) (hl8 : l.length ≤ 8) (hN : N' < 4) : ∀ (j f r : Nat) (h : AH), r + j = l.length → j < f → RB h m ra → gI h 486 m = nI N' → LsR h (ra 43) l → fX9_readAttribute_438 f (some m) (nI l.length) v3 v4 (nI r) h = fX9_readAttribute_472 (some m) v3 v4 (wrA h (ra 37) (8 * N' + r) (l.drop r)) := by
  intro j
  induction j with
  | zero =>
    intro f r h hrj hjf hB e t
    obtain ⟨f, rfl⟩ : ∃ g, f = g + 1 := ⟨f - 1, by omega⟩
    rw [fX9_readAttribute_438, List.drop_eq_nil_of_le (by omega)]
    simp (disch := omega) only [leN, show l.length ≤ r by omega, ↓reduceIte]
    rfl
  | succ j ih =>
    intro f r h hrj hjf hB e t
    obtain ⟨f, rfl⟩ : ∃ g, f = g + 1 := ⟨f - 1, by omega⟩
    have hne : ra 43 ≠ ra 37 := fun q => by rw [hB.i] at q; omega
    have hlo := vch_get hv r
    rw [fX9_readAttribute_438, drop_cons 0 (show r < l.length by omega)]
    simp (disch := omega) only [leN, show ¬ l.length ≤ r by omega, ↓reduceIte, ↓gr_of hB.o hB.r37, ↓gi_of hB.o e, ↓gr_of hB.o hB.r43, ↓al_of hB.k43 (show r < 8 by omega) (by omega) (t r (by omega)), nI_mul, nI_add, ↓as_of hB.k37 (show 8 * N' + r < 32 by omega) (by omega), vn1, nI_b hlo]
    rw [ih f (r + 1) (pA h (ra 37) (8 * N' + r) (nI (l.getD r 0))) (by omega) (by omega) hB e (t.fr (fun k => by rw [gA_pA, if_neg (fun z => hne z.1)]))]
    rfl
theorem ref_cpV {m N' : Nat} {ra : Nat → Nat} {w : List Nat} {v3 : Int32} (hv : bch w) (hl : w.length ≤ 60) (hN : N' < 4) : ∀ (j f r : Nat) (h : AH), r + j = w.length → j < f → RB h m ra → gI h 486 m = nI N' → LsR h (ra 44) w → fX9_readAttribute_475 f (some m) v3 (nI w.length) (nI r) h = fX9_readAttribute_510 (some m) v3 (wrA h (ra 39) (60 * N' + r) (w.drop r)) := by
  intro j
  induction j with
  | zero =>
    intro f r h hrj hjf hB e t
    obtain ⟨f, rfl⟩ : ∃ g, f = g + 1 := ⟨f - 1, by omega⟩
    rw [fX9_readAttribute_475, List.drop_eq_nil_of_le (by omega)]
    simp (disch := omega) only [leN, show w.length ≤ r by omega, ↓reduceIte]
    rfl
  | succ j ih =>
    intro f r h hrj hjf hB e t
    obtain ⟨f, rfl⟩ : ∃ g, f = g + 1 := ⟨f - 1, by omega⟩
    have hne : ra 44 ≠ ra 39 := fun q => by rw [hB.i] at q; omega
    have hlo := bch_get hv r
    rw [fX9_readAttribute_475, drop_cons 0 (show r < w.length by omega)]
    simp (disch := omega) only [leN, show ¬ w.length ≤ r by omega, ↓reduceIte, ↓gr_of hB.o hB.r39, ↓gi_of hB.o e, ↓gr_of hB.o hB.r44, ↓al_of hB.k44 (show r < 60 by omega) (by omega) (t r (by omega)), nI_mul, nI_add, ↓as_of hB.k39 (show 60 * N' + r < 240 by omega) (by omega), vn1, nI_b hlo]
    rw [ih f (r + 1) (pA h (ra 39) (60 * N' + r) (nI (w.getD r 0))) (by omega) (by omega) hB e (t.fr (fun k => by rw [gA_pA, if_neg (fun z => hne z.1)]))]
    rfl
theorem ref_put314 {h0 h : AH} {m N p q : Nat} {ra : Nat → Nat} {tx : Nat → Nat} {T : TS} {fl : FL} {os : OS} {nm tw : List Nat} {L : AttL} {l w : List Nat} (hL : AtS L) (hl8 : l.length ≤ 8) (hlv : vch l) (hw60 : w.length ≤ 60) (hwb : bch w) (htw : tw.length < 2000) (s : SA h0 m ra N tx h T fl os nm L tw) (t1 : LsR h (ra 43) l) (t2 : LsR h (ra 44) w) :
    ∃ h', fX9_readAttribute_314 (some m) (nI p) (nI l.length) (nI q) (nI w.length) h = some (nI q, h') ∧ SA h0 m ra N tx h' T fl os nm (if (fnd l L 0).isSome = true ∨ L.length = 4 then L else L ++ [(l, w)]) (if (fnd l L 0).isSome = true ∨ L.length = 4 then tw ++ [p] else tw) := by
  have hB := s.1.1
  have hL4 := hL.1
  have hhas := ref_has (v1 := nI p) (v3 := nI q) (v4 := nI w.length) hL hl8 hlv s t1 L.length FU 0 false (by omega) (by have := FU_ge; omega)
  rw [Bool.false_or, List.drop_zero] at hhas
  have e314 : fX9_readAttribute_314 (some m) (nI p) (nI l.length) (nI q) (nI w.length) h = fX9_readAttribute_379 (some m) (nI p) (nI l.length) (nI q) (nI w.length) (bI (fnd l L 0).isSome) h := hhas
  rw [e314]
  have tell2 : ∃ h', fX9_readAttribute_392 (some m) (nI p) (nI q) h = some (nI q, h') ∧ SA h0 m ra N tx h' T fl os nm L (tw ++ [p]) := by
    have F1 : Fr (fun f a => a = m ∧ f = 491) (fun a => a = ra 42) h (pI (pA h (ra 42) tw.length (nI p)) 491 m (nI (tw.length + 1))) := Fr.pI (Fr.pA Fr.rf rfl) ⟨rfl, rfl⟩
    have hno : ∀ k, k ≠ 42 → ¬ (ra k = ra 42) := fun k hk z => hk (by rw [hB.i] at z; exact z)
    refine ⟨pI (pA h (ra 42) tw.length (nI p)) 491 m (nI (tw.length + 1)), ?_, s.1.ax F1 (fun f a z => ⟨z.1, Or.inr (by omega)⟩) (fun a z => ⟨42, by omega, z⟩), s.2.1.fr F1 (by omega) (hno 34 (by omega)), ?_⟩
    · simp only [fX9_readAttribute_392]
      have hB' : RB (pA h (ra 42) tw.length (nI p)) m ra := hB
      have e' : gI (pA h (ra 42) tw.length (nI p)) 491 m = nI tw.length := s.2.2.2.2.1
      simp only [↓gr_of hB.o hB.r42, ↓gi_of hB.o s.2.2.2.2.1, ↓as_of hB.k42 htw (by omega), vn0, ↓gi_of hB'.o e', ↓pi_of hB'.o, nI_add]
    · refine ⟨by rw [F1.1 _ _ (by omega)]; exact s.2.2.1, fun a ha => ?_, by rw [gI_pI, if_pos ⟨rfl, rfl⟩, List.length_append]; rfl, s.2.2.2.2.2.snoc⟩
      obtain ⟨a1, a2, a3, a4⟩ := s.2.2.2.1 a ha
      exact ⟨by rw [F1.2.2.2.1 _ _ (hno 38 (by omega))]; exact a1, fun k hk => by rw [F1.2.2.2.1 _ _ (hno 37 (by omega))]; exact a2 k hk, by rw [F1.2.2.2.1 _ _ (hno 40 (by omega))]; exact a3, fun k hk => by rw [F1.2.2.2.1 _ _ (hno 39 (by omega))]; exact a4 k hk⟩
  simp only [fX9_readAttribute_379, bI0]
  cases hf : (fnd l L 0).isSome with
  | true =>
    simp only [Bool.true_eq_false, ↓reduceIte, true_or]
    exact tell2
  | false =>
    simp (disch := omega) only [↓reduceIte, Bool.false_eq_true, false_or, ↓gi_of hB.o s.2.2.1, eqN]
    by_cases h4 : L.length = 4
    · simp only [h4, ↓reduceIte]
      exact tell2
    · simp only [h4, ↓reduceIte]
      have hl4 : L.length < 4 := by omega
      have hne : ∀ i j, i ≠ j → ra i ≠ ra j := fun i j hij z => hij (by rw [hB.i] at z; exact z)
      have X0 : RB (pA (pA h (ra 38) L.length (nI l.length)) (ra 40) L.length (nI w.length)) m ra := hB
      have t1' : LsR (pA (pA h (ra 38) L.length (nI l.length)) (ra 40) L.length (nI w.length)) (ra 43) l := t1.fr (fun k => by rw [gA_pA, if_neg (fun z => hne 43 40 (by omega) z.1), gA_pA, if_neg (fun z => hne 43 38 (by omega) z.1)])
      have t2' : LsR (pA (pA h (ra 38) L.length (nI l.length)) (ra 40) L.length (nI w.length)) (ra 44) w := t2.fr (fun k => by rw [gA_pA, if_neg (fun z => hne 44 40 (by omega) z.1), gA_pA, if_neg (fun z => hne 44 38 (by omega) z.1)])
      have g1 := ref_cpN (m := m) (ra := ra) (l := l) (v3 := nI q) (v4 := nI w.length) (N' := L.length) hlv hl8 hl4 l.length FU 0 (pA (pA h (ra 38) L.length (nI l.length)) (ra 40) L.length (nI w.length)) (by omega) (by have := FU_ge; omega) X0 s.2.2.1 t1'
      rw [List.drop_zero, Nat.add_zero] at g1
      have g2 := ref_cpV (m := m) (ra := ra) (w := w) (v3 := nI q) (N' := L.length) hwb hw60 hl4 w.length FU 0 (wrA (pA (pA h (ra 38) L.length (nI l.length)) (ra 40) L.length (nI w.length)) (ra 37) (8 * L.length) l) (by omega) (by have := FU_ge; omega) (RB.eq (h := pA (pA h (ra 38) L.length (nI l.length)) (ra 40) L.length (nI w.length)) X0 (wr_R _ _ _ _) (wr_K _ _ _ _)) (by rw [wr_I]; exact s.2.2.1) (t2'.fr (fun k => by rw [wr_rd, if_neg (fun z => hne 44 37 (by omega) z.1)]))
      rw [List.drop_zero, Nat.add_zero] at g2
      have F1 : Fr (fun f a => a = m ∧ f = 486) (fun a => ∃ k, (37 ≤ k ∧ k ≤ 40) ∧ a = ra k) h (pI (wrA (wrA (pA (pA h (ra 38) L.length (nI l.length)) (ra 40) L.length (nI w.length)) (ra 37) (8 * L.length) l) (ra 39) (60 * L.length) w) 486 m (nI (L.length + 1))) := Fr.pI ((Fr.pA (Fr.pA Fr.rf ⟨38, by omega, rfl⟩) ⟨40, by omega, rfl⟩).tr (((wr_fr _ _ _ _ _).mo (fun _ _ z => z) (fun a z => ⟨37, by omega, z⟩)).tr ((wr_fr _ _ _ _ _).mo (fun _ _ z => z) (fun a z => ⟨39, by omega, z⟩)))) ⟨rfl, rfl⟩
      have hno : ∀ k, ¬ (37 ≤ k ∧ k ≤ 40) → ¬ ∃ j, (37 ≤ j ∧ j ≤ 40) ∧ ra k = ra j := fun k hk z => by obtain ⟨j, hj, e⟩ := z; rw [hB.i] at e; omega
      refine ⟨_, ?_, s.1.ax F1 (fun f a z => ⟨z.1, Or.inr (by omega)⟩) (fun a z => by obtain ⟨k, hk, e⟩ := z; exact ⟨k, by omega, e⟩), s.2.1.fr F1 (by omega) (hno 34 (by omega)), ⟨by rw [gI_pI, if_pos ⟨rfl, rfl⟩, List.length_append]; rfl, fun a ha => ?_, by rw [F1.1 _ _ (by omega)]; exact s.2.2.2.2.1, s.2.2.2.2.2.fr (fun k => F1.2.2.2.1 _ _ (hno 42 (by omega)))⟩⟩
      · have hB1 : RB (pA h (ra 38) L.length (nI l.length)) m ra := hB
        have e1 : gI (pA h (ra 38) L.length (nI l.length)) 486 m = nI L.length := s.2.2.1
        simp (disch := omega) only [↓gr_of hB.o hB.r38, ↓gi_of hB.o s.2.2.1, ↓as_of hB.k38 hl4 (by omega), vn0, ↓gr_of hB1.o hB1.r40, ↓gi_of hB1.o e1, ↓as_of hB1.k40 hl4 (by omega), g1, fX9_readAttribute_472, g2]
        have hB2 : RB (wrA (wrA (pA (pA h (ra 38) L.length (nI l.length)) (ra 40) L.length (nI w.length)) (ra 37) (8 * L.length) l) (ra 39) (60 * L.length) w) m ra := RB.eq (h := h) hB (by rw [wr_R, wr_R]; rfl) (by rw [wr_K, wr_K]; rfl)
        have e2 : gI (wrA (wrA (pA (pA h (ra 38) L.length (nI l.length)) (ra 40) L.length (nI w.length)) (ra 37) (8 * L.length) l) (ra 39) (60 * L.length) w) 486 m = nI L.length := by rw [wr_I, wr_I]; exact s.2.2.1
        simp only [fX9_readAttribute_510, ↓gi_of hB2.o e2, ↓pi_of hB2.o, nI_add]
      · rw [List.length_append, List.length_singleton] at ha
        rw [getD_snoc]
        simp only [gA_pI, wr_rd, gA_pA, hB.i, Nat.reduceEqDiff, false_and, true_and, ↓reduceIte]
        by_cases e : a = L.length
        · subst e
          simp only [↓reduceIte]
          refine ⟨trivial, fun k hk => ?_, trivial, fun k hk => ?_⟩
          · rw [if_pos (by omega), Nat.add_sub_cancel_left]
          · rw [if_pos (by omega), Nat.add_sub_cancel_left]
        · obtain ⟨a1, a2, a3, a4⟩ := s.2.2.2.1 a (by omega)
          obtain ⟨z1, z2, z3, z4⟩ := hL.get (show a < L.length by omega)
          simp only [e, ↓reduceIte]
          refine ⟨a1, fun k hk => ?_, a3, fun k hk => ?_⟩
          · rw [if_neg (by omega)]; exact a2 k hk
          · rw [if_neg (by omega)]; exact a4 k hk
theorem ref_rv {h0 h : AH} {m N q : Nat} {ra : Nat → Nat} {tx : Nat → Nat} {T : TS} {fl : FL} {os : OS} {nm tw : List Nat} {L : AttL} {l : List Nat} {v1 v2 : Int32} (hok : ∀ q, q < N → okb (tx q) = true) (hq : q ≤ N) (s : SA h0 m ra N tx h T fl os nm L tw) (t : LsR h (ra 43) l) : ∃ h', fX9_readAttribute_158 (some m) v1 v2 (nI q) (nI 0) (nI ((vq tx N q).getD 0)) h = fX9_readAttribute_314 (some m) v1 v2 (nI (ved tx N q)) (nI (vcat [] (vby tx N q)).length) h' ∧ SA h0 m ra N tx h' T fl os nm L tw ∧ LsR h' (ra 43) l ∧ LsR h' (ra 44) (vcat [] (vby tx N q)) := by
  have hN := s.1.2.2.2.1.2.1
  have hle := vq2_le (tx := tx) hq
  obtain ⟨v1', v2', -, -⟩ := ven_spec (tx := tx) (qt := vq tx N q) (N - vq2 tx N q) (vq2 tx N q)
  have hto : vto tx N q ≤ N := by unfold vto; omega
  have hv := ref_ven (v1 := v1) (v2 := v2) (v3 := nI (vq2 tx N q)) (qt := vq tx N q) (fun u hu => (vq_ok hu).1) s.1 (N - vq2 tx N q) FU (vq2 tx N q) (by omega) (by have := FU_ge; omega)
  rw [show ven tx (vq tx N q) (N - vq2 tx N q) (vq2 tx N q) = vto tx N q from rfl] at hv
  obtain ⟨h1, g1, s1, t1, t2⟩ := ref_val_L (to := vto tx N q) (v1 := v1) (v2 := v2) (v5 := nI ((vq tx N q).getD 0)) (l := l) hok hto (vto tx N q - vq2 tx N q) FU (vq2 tx N q) h [] (by unfold vto; omega) (by omega) (by have := FU_ge; omega) (by simp) s t (fun k hk => by simp at hk)
  rw [show (decL tx (vto tx N q) false (vto tx N q - vq2 tx N q) (vq2 tx N q)).map (fun q => q.2) = vby tx N q from rfl] at g1 t2
  rw [show nI ([] : List Nat).length = nI 0 from rfl] at g1
  rw [g1] at hv
  have hB := s1.1.1
  have e0 : fX9_readAttribute_158 (some m) v1 v2 (nI q) (nI 0) (nI ((vq tx N q).getD 0)) h = fX9_readAttribute_176 FU (some m) v1 v2 (nI (vq2 tx N q)) (nI 0) (nI ((vq tx N q).getD 0)) (nI (vq2 tx N q)) h := by
    simp only [fX9_readAttribute_158, fX9_readAttribute_172]
    unfold vq2
    cases e : vq tx N q with
    | none => simp (disch := omega) only [Option.getD_none, le0n, ↓reduceIte, Option.isSome_none, Bool.false_eq_true]
    | some u =>
      have := (vq_ok e).1
      simp (disch := omega) only [Option.getD_some, le0n, show ¬ u = 0 by omega, ↓reduceIte, Option.isSome_some, nI_add]
  refine ⟨h1, ?_, s1, t1, t2⟩
  rw [e0, hv]
  simp only [fX9_readAttribute_285, fX9_readAttribute_304]
  unfold ved
  cases e : vq tx N q with
  | none => simp (disch := omega) only [Option.getD_none, le0n, ↓reduceIte, Option.isSome_none, Bool.false_eq_true, false_and]
  | some u =>
    have := (vq_ok e).1
    simp (disch := omega) only [Option.getD_some, le0n, show ¬ u = 0 by omega, ↓reduceIte, Option.isSome_some, nI_add, ↓gi_of hB.o s1.1.2.2.2.1.1, leN, true_and]
    by_cases h1 : vto tx N q < N
    · rw [if_neg (by omega), if_pos h1]
    · rw [if_pos (by omega), if_neg h1, show vto tx N q = N by omega]
theorem ref_readAttribute {h0 h : AH} {m N p : Nat} {ra : Nat → Nat} {tx : Nat → Nat} {T : TS} {fl : FL} {os : OS} {nm tw : List Nat} {L : AttL} (hok : ∀ q, q < N → okb (tx q) = true) (hL : AtS L) (hp : p < N) (htw : tw.length < 2000) (s : SA h0 m ra N tx h T fl os nm L tw) : ∃ h', fX9_readAttribute (some m) (nI p) h = some (nI (a1E tx N p), h') ∧ SA h0 m ra N tx h' T fl os nm (adL false L tw (an0 tx N p).1 (a1W tx N p) p).1 (adL false L tw (an0 tx N p).1 (a1W tx N p) p).2 := by
  obtain ⟨h1, g1, s1, t1⟩ := ref_attName hok hp s
  have han := an0_le (tx := tx) hp
  have hnm := anm_ok (tx := tx) (N - (p + 1)) (p + 1) [toSm (tx p)] (fun k a b => hok k (by omega)) (fun c hc => by rw [List.mem_singleton] at hc; rw [hc]; exact toSm_v (hok p hp)) (by simp)
  have hnm' : vch (an0 tx N p).1 ∧ (an0 tx N p).1.length ≤ 8 := hnm
  have hN := s.1.2.2.2.1.2.1
  have hB1 := s1.1.1
  rw [g1]
  have fin : ∀ (h2 : AH) (w : List Nat) (q : Nat), bch w → SA h0 m ra N tx h2 T fl os nm L tw → LsR h2 (ra 43) (an0 tx N p).1 → LsR h2 (ra 44) (vcat [] w) → ∃ h', fX9_readAttribute_314 (some m) (nI p) (nI (an0 tx N p).1.length) (nI q) (nI (vcat [] w).length) h2 = some (nI q, h') ∧ SA h0 m ra N tx h' T fl os nm (adL false L tw (an0 tx N p).1 w p).1 (adL false L tw (an0 tx N p).1 w p).2 := by
    intro h2 w q hwb s2 t2 t3
    obtain ⟨h3, g3, s3⟩ := ref_put314 (p := p) (q := q) hL hnm'.2 hnm'.1 (vcat_len _ _) (vcat_b (fun c hc => by cases hc) hwb) htw s2 t2 t3
    refine ⟨h3, g3, ?_⟩
    unfold adL
    simp only [Bool.false_eq_true, ↓reduceIte]
    by_cases hc : (fnd (an0 tx N p).1 L 0).isSome = true ∨ L.length = 4
    · rw [if_pos hc, if_pos hc] at s3
      rw [if_pos hc]; exact s3
    · rw [if_neg hc, if_neg hc] at s3
      rw [if_neg hc]; exact s3
  simp only [fX9_readAttribute_93]
  unfold a1E a1W
  simp (disch := omega) only [↓gi_of hB1.o s1.1.2.2.2.1.1, leN]
  by_cases hqN : N ≤ (an0 tx N p).2
  · rw [if_pos hqN, hbA_out hqN]
    simp only [Bool.false_eq_true, ↓reduceIte]
    exact fin h1 [] (an0 tx N p).2 (fun c hc => by cases hc) s1 t1 (fun k hk => by simp [vcat] at hk)
  · have hq1 : (an0 tx N p).2 < N := by omega
    have hlt := s1.1.2.2.2.1.2.2.1 _ hq1
    have hsrc := s1.1.2.2.2.1.2.2.2 _ hq1
    rw [if_neg hqN, hbA_in hq1]
    simp (disch := omega) only [↓gr_of hB1.o hB1.r31, ↓al_of hB1.k31 (show (an0 tx N p).2 < 2000 by omega) (by omega) hsrc, eqN]
    by_cases h61 : tx (an0 tx N p).2 = 61
    · simp only [h61, ↓reduceIte, decide_true]
      have hdb := dec_b (tx := tx) (N := N) (q := (an0 tx N p).2 + 1) hok (by omega)
      obtain ⟨h2, g2, s2, t2, t3⟩ := ref_rv (q := (an0 tx N p).2 + 1) (v1 := nI p) (v2 := nI (an0 tx N p).1.length) hok (by omega) s1 t1
      obtain ⟨h3, g3, s3⟩ := fin h2 _ (ved tx N ((an0 tx N p).2 + 1)) hdb s2 t2 t3
      refine ⟨h3, ?_, s3⟩
      rw [← g3, ← g2]
      simp only [fX9_readAttribute_148, fX9_readAttribute_157, nI_add]
      simp (disch := omega) only [↓gi_of hB1.o s1.1.2.2.2.1.1, leN]
      unfold vq
      by_cases hq2 : N ≤ (an0 tx N p).2 + 1
      · simp only [hq2, ↓reduceIte, hbA_out hq2, Bool.false_eq_true, Option.getD_none]
      · have hlt2 := s1.1.2.2.2.1.2.2.1 ((an0 tx N p).2 + 1) (by omega)
        have hsrc2 := s1.1.2.2.2.1.2.2.2 ((an0 tx N p).2 + 1) (by omega)
        simp (disch := omega) only [hq2, ↓reduceIte, ↓gr_of hB1.o hB1.r31, ↓al_of hB1.k31 (show (an0 tx N p).2 + 1 < 2000 by omega) (by omega) hsrc2, eqN, hbA_in (show (an0 tx N p).2 + 1 < N by omega), decide_eq_true_eq]
        by_cases h34 : tx ((an0 tx N p).2 + 1) = 34
        · simp only [h34, ↓reduceIte, Option.getD_some]
        · by_cases h39 : tx ((an0 tx N p).2 + 1) = 39
          · simp only [h39, ↓reduceIte, Option.getD_some, Nat.reduceEqDiff]
          · simp only [h34, h39, ↓reduceIte, Option.getD_none]
    · simp only [h61, ↓reduceIte, decide_false, Bool.false_eq_true]
      exact fin h1 [] (an0 tx N p).2 (fun c hc => by cases hc) s1 t1 (fun k hk => by simp [vcat] at hk)

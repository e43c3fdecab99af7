/-! a TAG is read: the reference -/
theorem ref_atts {h0 : AH} {m N : Nat} {ra : Nat → Nat} {tx : Nat → Nat} {T : TS} {fl : FL} {os : OS} {nm : List Nat} {v1 v2 : Int32} (hok : ∀ q, q < N → okb (tx q) = true) (hN : N ≤ 1500) : ∀ (j f1 f2 q : Nat) (h : AH) (L : AttL) (tw : List Nat), N ≤ q + j → q ≤ N → j ≤ 1500 → j < f1 → j < f2 → tw.length + (N - q) < 2000 → AtS L → SA h0 m ra N tx h T fl os nm L tw → ∃ h', fX9_readTag_132 (fX9_readTag_127 f1) f2 (some m) v1 v2 (nI q) h = fX9_readTag_209 (some m) v1 v2 (nI (atL false tx N j q L tw).1) h' ∧ SA h0 m ra N tx h' T fl os nm (atL false tx N j q L tw).2.1 (atL false tx N j q L tw).2.2 := by
  have stop : ∀ (f : Nat) (q : Nat) (h : AH) (L : AttL) (tw : List Nat), SA h0 m ra N tx h T fl os nm L tw → fX9_readTag_192 (fX9_readTag_127 (f + 1)) (some m) v1 v2 (nI q) h = fX9_readTag_209 (some m) v1 v2 (nI q) h := by
    intro f q h L tw s
    simp only [fX9_readTag_192, fX9_readTag_193]
    rw [if_pos (show nI 0 = 0 from rfl), fX9_readTag_127, if_pos (show nI 0 = 0 from rfl)]
  have full : ∀ (f1 f2 : Nat) (h : AH) (L : AttL) (tw : List Nat), SA h0 m ra N tx h T fl os nm L tw → fX9_readTag_132 (fX9_readTag_127 (f1 + 1)) (f2 + 1) (some m) v1 v2 (nI N) h = fX9_readTag_209 (some m) v1 v2 (nI N) h := by
    intro f1 f2 h L tw s
    rw [fX9_readTag_132]
    simp only [fX9_readTag_169]
    simp (disch := omega) only [↓gi_of s.1.1.o s.1.2.2.2.1.1, leN, Nat.le_refl, ↓reduceIte]
    exact stop f1 N h L tw s
  intro j
  induction j with
  | zero =>
    intro f1 f2 q h L tw hqj hqN hj h1 h2 htw hL s
    obtain ⟨f1, rfl⟩ : ∃ g, f1 = g + 1 := ⟨f1 - 1, by omega⟩
    obtain ⟨f2, rfl⟩ : ∃ g, f2 = g + 1 := ⟨f2 - 1, by omega⟩
    have e : q = N := by omega
    subst e
    exact ⟨h, full f1 f2 h L tw s, s⟩
  | succ j ih =>
    intro f1 f2 q h L tw hqj hqN hj h1 h2 htw hL s
    obtain ⟨f1, rfl⟩ : ∃ g, f1 = g + 1 := ⟨f1 - 1, by omega⟩
    obtain ⟨f2, rfl⟩ : ∃ g, f2 = g + 1 := ⟨f2 - 1, by omega⟩
    rw [show atL false tx N (j + 1) q L tw = if q < N then (if tx q = 62 then (q, L, tw) else if prt (tx q) = true then atL false tx N j (q + 1) L tw else atL false tx N j (a1E tx N q) (adL false L tw (an0 tx N q).1 (a1W tx N q) q).1 (adL false L tw (an0 tx N q).1 (a1W tx N q) q).2) else (q, L, tw) from rfl]
    by_cases hin : q < N
    · rw [if_pos hin]
      have hB := s.1.1
      have hlt := s.1.2.2.2.1.2.2.1 q hin
      have hsrc := s.1.2.2.2.1.2.2.2 q hin
      have hb1 := ref_bl (h := h) (c := tx q) (by omega)
      rw [fX9_readTag_132]
      simp (disch := omega) only [↓gi_of hB.o s.1.2.2.2.1.1, leN, show ¬ N ≤ q by omega, ↓reduceIte, ↓gr_of hB.o hB.r31, ↓al_of hB.k31 (show q < 2000 by omega) (by omega) hsrc, ↓cl_of hb1, bI0, eqN, fX9_readTag_163, nI_add]
      have skip : prt (tx q) = true → ∃ h', fX9_readTag_132 (fX9_readTag_127 (f1 + 1)) f2 (some m) v1 v2 (nI (q + 1)) h = fX9_readTag_209 (some m) v1 v2 (nI (atL false tx N j (q + 1) L tw).1) h' ∧ SA h0 m ra N tx h' T fl os nm (atL false tx N j (q + 1) L tw).2.1 (atL false tx N j (q + 1) L tw).2.2 := fun _ => ih (f1 + 1) f2 (q + 1) h L tw (by omega) (by omega) (by omega) (by omega) (by omega) (by omega) hL s
      cases hbl : isBl (tx q) with
      | true =>
        have hp : prt (tx q) = true := by unfold prt; rw [hbl, Bool.true_or]
        have h62 : ¬ tx q = 62 := fun z => by rw [z] at hbl; exact absurd hbl (by decide)
        simp only [Bool.true_eq_false, ↓reduceIte, h62, hp]
        exact skip hp
      | false =>
        simp only [↓reduceIte]
        by_cases h47 : tx q = 47
        · have hp : prt (tx q) = true := by unfold prt; rw [h47]; rfl
          have h62 : ¬ tx q = 62 := by omega
          rw [if_pos h47, if_neg h62, if_pos hp]
          exact skip hp
        · have hp : prt (tx q) = false := by unfold prt; rw [hbl, Bool.false_or]; simp [h47]
          rw [if_neg h47]
          simp only [fX9_readTag_169]
          simp (disch := omega) only [↓gi_of hB.o s.1.2.2.2.1.1, leN, show ¬ N ≤ q by omega, ↓reduceIte, ↓gr_of hB.o hB.r31, ↓al_of hB.k31 (show q < 2000 by omega) (by omega) hsrc, eqN]
          by_cases h62 : tx q = 62
          · rw [if_pos h62, if_pos h62]
            exact ⟨h, stop f1 q h L tw s, s⟩
          · rw [if_neg h62, if_neg h62, hp]
            simp only [Bool.false_eq_true, ↓reduceIte]
            obtain ⟨h3, g3, s3⟩ := ref_readAttribute hok hL hin (by omega) s
            have hle := a1E_le (tx := tx) hin
            have hal := adL_len (e := false) (L := L) (tw := tw) (nm := (an0 tx N q).1) (w := a1W tx N q) (p := q)
            have hnm := anm_ok (tx := tx) (N - (q + 1)) (q + 1) [toSm (tx q)] (fun k a b => hok k (by omega)) (fun c hc => by rw [List.mem_singleton] at hc; rw [hc]; exact toSm_v (hok q hin)) (by simp)
            obtain ⟨h4, g4, s4⟩ := ih f1 FU (a1E tx N q) h3 _ _ (by omega) (by omega) (by omega) (by omega) (by have := FU_ge; omega) (by omega) (adL_ok (e := false) (tw := tw) (p := q) hL hnm.2 hnm.1 (a1W_b hok)) s3
            refine ⟨h4, ?_, s4⟩
            simp only [fX9_readTag_193]
            rw [if_neg (show ¬ nI 1 = 0 by decide), cv_of hB.o g3, fX9_readTag_127, if_neg (show ¬ nI 1 = 0 by decide)]
            exact g4
    · rw [if_neg hin]
      have e : q = N := by omega
      subst e
      exact ⟨h, full f1 f2 h L tw s, s⟩
theorem g2L_take {tw : List Nat} {r : Nat} (h : r < tw.length) : g2L (tw.take (r + 1)) = g2L (tw.take r) ++ [(nI 2, nI (tw.getD r 0))] := by
  unfold g2L
  rw [List.take_succ, gD_in h, List.getElem?_eq_getElem h, List.map_append]
  rfl
theorem ref_tw {h0 : AH} {m N : Nat} {ra : Nat → Nat} {tx : Nat → Nat} {T : TS} {fl : FL} {os : OS} {nm tw : List Nat} {L : AttL} {v1 v3 v5 : Int32} (htw : tw.length < 2000) (hl : fl.length + 2001 < 1000000) : ∀ (c f r : Nat) (h : AH), r + c = tw.length → c < f → SA h0 m ra N tx h T (fl ++ g2L (tw.take r)) os nm L tw → ∃ h', fX9_readTag_259 f (some m) v1 v3 v5 (nI r) h = fX9_readTag_286 (some m) v1 v3 v5 h' ∧ SA h0 m ra N tx h' T (fl ++ g2L tw) os nm L tw := by
  intro c
  induction c with
  | zero =>
    intro f r h hrc hcf s
    obtain ⟨f, rfl⟩ : ∃ g, f = g + 1 := ⟨f - 1, by omega⟩
    refine ⟨h, ?_, by rw [List.take_of_length_le (by omega)] at s; exact s⟩
    rw [fX9_readTag_259]
    simp (disch := omega) only [↓gi_of s.1.1.o s.2.2.2.2.1, leN, show tw.length ≤ r by omega, ↓reduceIte]
  | succ c ih =>
    intro f r h hrc hcf s
    obtain ⟨f, rfl⟩ : ∃ g, f = g + 1 := ⟨f - 1, by omega⟩
    have hB := s.1.1
    have hr : r < tw.length := by omega
    have e42 := s.2.2.2.2.2 r hr
    obtain ⟨h1, g1, S1, F1⟩ := s.1.tellF (by rw [List.length_append]; unfold g2L; rw [List.length_map, List.length_take]; omega) (nI 2) (nI (tw.getD r 0))
    have s1 := s.frc F1 S1
    rw [List.append_assoc, ← g2L_take hr] at s1
    obtain ⟨h2, g2, s2⟩ := ih f (r + 1) h1 (by omega) (by omega) s1
    refine ⟨h2, ?_, s2⟩
    rw [fX9_readTag_259]
    simp (disch := omega) only [↓gi_of hB.o s.2.2.2.2.1, leN, show ¬ tw.length ≤ r by omega, ↓reduceIte, ↓gr_of hB.o hB.r42, ↓al_of hB.k42 (show r < 2000 by omega) (by omega) e42, ↓cv_of hB.o g1, nI_add]
    exact g2
theorem ref_readTag {h0 h : AH} {m N p : Nat} {ra : Nat → Nat} {tx : Nat → Nat} {T : TS} {kd : Nat → List Nat} {fl : FL} {os : OS} (hok : ∀ q, q < N → okb (tx q) = true) (w : Wf T kd) (hS : SizT T) (hOs : OsOk T os) (hl : fl.length + 2500 < 1000000) (htg : isTg tx N p = true) (q : SR h0 m ra N tx h T fl os) :
    ∃ h', fX9_readTag (some m) (nI p) h = some (nI (tsP tx N p), h') ∧ SR h0 m ra N tx h' (tsT T fl os tx N p) (tsF T fl os tx N p) (tsO T fl os tx N p) := by
  obtain ⟨hp, hq0⟩ := isTg_lt htg
  have hB := q.1
  have hN := q.2.2.2.1.2.1
  have hp1 : p + 1 < N := by
    have := hq0
    unfold tgQ at this
    split at this <;> omega
  have hlt := q.2.2.2.1.2.2.1 (p + 1) hp1
  have hsrc := q.2.2.2.1.2.2.2 (p + 1) hp1
  -- to its NAME
  have F1 : Fr (fun f a => a = m ∧ f = 485) (fun _ => False) h (pI h 485 m (nI 0)) := Fr.pI Fr.rf ⟨rfl, rfl⟩
  have q1 : SR h0 m ra N tx (pI h 485 m (nI 0)) T fl os := q.sc F1 (fun f a z => ⟨z.1, Or.inr (by omega)⟩)
  have t1 : TnR (pI h 485 m (nI 0)) m ra [] := ⟨by rw [gI_pI, if_pos ⟨rfl, rfl⟩]; rfl, by simp, fun k hk => by simp at hk⟩
  have h32 : fX9_readTag (some m) (nI p) h = fX9_readTag_38 FU (some m) (nI p) (bI (tgE tx N p)) (nI (tgQ tx N p)) (pI h 485 m (nI 0)) := by
    simp only [fX9_readTag, fX9_readTag_0, fX9_readTag_18, fX9_readTag_32]
    simp (disch := omega) only [nI_add, ↓gr_of hB.o hB.r31, ↓al_of hB.k31 (show p + 1 < 2000 by omega) (by omega) hsrc, eqN, eq0n, Nat.reduceEqDiff, ↓reduceIte, ↓pi_of hB.o]
    unfold tgQ tgE
    rw [hbA_in hp1]
    by_cases h47 : tx (p + 1) = 47
    · simp only [h47, ↓reduceIte, decide_true]; rfl
    · simp only [h47, ↓reduceIte, decide_false, Bool.false_eq_true]; rfl
  obtain ⟨h2, g2, q2, t2⟩ := ref_tagName_L (v1 := nI p) (v2 := bI (tgE tx N p)) hok (N - tgQ tx N p) FU (tgQ tx N p) (pI h 485 m (nI 0)) [] (by omega) (by have := FU_ge; omega) q1 t1
  have hnm0 := tnm_le (tx := tx) (fun k => Or.inr trivial) (N - tgQ tx N p) (tgQ tx N p) []
  have hnm1 := tnm_ok (tx := tx) (N - tgQ tx N p) (tgQ tx N p) [] (fun k a b => hok k (by omega)) (fun c hc => by cases hc) (by simp)
  have eN : tnm tx (N - tgQ tx N p) (tgQ tx N p) [] = tgN tx N p := rfl
  rw [eN] at g2 t2 hnm0 hnm1
  have hB2 := q2.1
  have F3 : Fr (fun f a => a = m ∧ (f = 486 ∨ f = 491)) (fun _ => False) h2 (pI (pI h2 486 m (nI 0)) 491 m (nI 0)) := Fr.pI (Fr.pI Fr.rf ⟨rfl, Or.inl rfl⟩) ⟨rfl, Or.inr rfl⟩
  have q3 : SR h0 m ra N tx (pI (pI h2 486 m (nI 0)) 491 m (nI 0)) T fl os := q2.sc F3 (fun f a z => ⟨z.1, Or.inr (by omega)⟩)
  have s3 : SA h0 m ra N tx (pI (pI h2 486 m (nI 0)) 491 m (nI 0)) T fl os (tgN tx N p).1 [] [] := ⟨q3, t2.fr F3 (by omega) (fun z => z), by rw [gI_pI, if_neg (by omega), gI_pI, if_pos ⟨rfl, rfl⟩]; rfl, fun a ha => by simp at ha, by rw [gI_pI, if_pos ⟨rfl, rfl⟩]; rfl, fun k hk => by simp at hk⟩
  obtain ⟨fu, hfu⟩ : ∃ q, FU = q + 1 := ⟨FU - 1, by have := FU_ge; omega⟩
  obtain ⟨h4, g4, s4⟩ := ref_atts (v1 := nI p) (v2 := bI (tgE tx N p)) hok hN (N - (tgN tx N p).2) fu FU (tgN tx N p).2 _ [] [] (by omega) (by omega) (by omega) (by have := FU_ge; omega) (by have := FU_ge; omega) (by simp; omega) ⟨by simp, fun x hx => by cases hx⟩ s3
  have eA : atL false tx N (N - (tgN tx N p).2) (tgN tx N p).2 [] [] = tgA false tx N p := rfl
  have hAle := atL_le (e := false) (tx := tx) (N := N) (N - (tgN tx N p).2) (tgN tx N p).2 [] [] (by omega)
  have hAok := atL_ok (e := false) (tx := tx) (N := N) hok (N - (tgN tx N p).2) (tgN tx N p).2 [] [] ⟨by simp, fun x hx => by cases hx⟩
  rw [eA] at g4 s4 hAle hAok
  have epos : (tgA (tgE tx N p) tx N p).1 = (tgA false tx N p).1 := atL_pos _ _ _ _ _ _
  have key : fX9_readTag (some m) (nI p) h = fX9_readTag_209 (some m) (nI p) (bI (tgE tx N p)) (nI (tgA false tx N p).1) h4 := by
    rw [h32, g2]
    simp only [fX9_readTag_114]
    have hB2' : RB (pI h2 486 m (nI 0)) m ra := hB2
    simp only [↓pi_of hB2.o, ↓pi_of hB2'.o]
    rw [show fX9_readTag_127 FU (some m) (nI p) (bI (tgE tx N p)) (nI (tgN tx N p).2) (nI 1) (pI (pI h2 486 m (nI 0)) 491 m (nI 0)) = fX9_readTag_127 (fu + 1) (some m) (nI p) (bI (tgE tx N p)) (nI (tgN tx N p).2) (nI 1) (pI (pI h2 486 m (nI 0)) 491 m (nI 0)) by rw [← hfu], fX9_readTag_127, if_neg (show ¬ nI 1 = 0 by decide)]
    exact g4
  rw [key]
  have hB4 := s4.1.1
  have hnl := s4.2.1.2.1
  have gT := ref_tagOf (h := h4) (a := ra 34) (N := 8) (n := (tgN tx N p).1.length) (tx := fun q => (tgN tx N p).1.getD q 0) hB4.k34 (by omega) hnl (fun q hq => ⟨s4.2.1.2.2 q hq, vch_get hnm1.1 q⟩)
  have hsl : sl (fun q => (tgN tx N p).1.getD q 0) 0 (tgN tx N p).1.length = (tgN tx N p).1 := by
    apply List.ext_getElem
    · rw [sl_len]
    · intro j h1 h2
      simp only [sl, List.getElem_map, List.getElem_range, Nat.zero_add]
      rw [gD_in h2]
  rw [hsl] at gT
  unfold tsT tsF tsO tsP
  rw [epos]
  simp only [fX9_readTag_209]
  simp (disch := omega) only [↓gi_of hB4.o s4.1.2.2.2.1.1, ltN]
  by_cases hlt2 : (tgA false tx N p).1 < N
  · simp only [hlt2, ↓reduceIte, ↓gr_of hB4.o hB4.r34, ↓gi_of hB4.o s4.2.1.1, ↓cl_of gT, bI0]
    cases he : tgE tx N p with
    | true =>
      obtain ⟨h5, g5, S5⟩ := ref_endTag (p0 := p) w hS hOs hnm1.1 (by omega) s4.1 s4.2.1
      refine ⟨h5, ?_, by simp only [↓reduceIte]; exact S5⟩
      simp only [Bool.true_eq_false, ↓reduceIte, ↓cv_of hB4.o g5, fX9_readTag_293, nI_add]
    | false =>
      have htw : (tgA false tx N p).2.2.length ≤ 1500 := by have := hAle.2.2; simp at this; omega
      have s4' : SA h0 m ra N tx h4 T (fl ++ g2L ((tgA false tx N p).2.2.take 0)) os (tgN tx N p).1 (tgA false tx N p).2.1 (tgA false tx N p).2.2 := by
        rw [List.take_zero, show g2L [] = [] from rfl, List.append_nil]; exact s4
      obtain ⟨h5, g5, s5⟩ := ref_tw (v1 := nI p) (v3 := nI (tgA false tx N p).1) (v5 := nI (tagN (tgN tx N p).1)) (by omega) (by omega) (tgA false tx N p).2.2.length FU 0 h4 (by omega) (by have := FU_ge; omega) s4'
      have hlen : (fl ++ g2L (tgA false tx N p).2.2).length ≤ fl.length + 1500 := by rw [List.length_append]; unfold g2L; rw [List.length_map]; omega
      have htl := tagN_le (tgN tx N p).1
      obtain ⟨h6, g6, s6⟩ := ref_closeBefore (p0 := p) (t := tagN (tgN tx N p).1) hS hOs htl (by omega) s5
      obtain ⟨hO1, hlen1⟩ := cbS_ok (t := tagN (tgN tx N p).1) (p := p) (fl := fl ++ g2L (tgA false tx N p).2.2) hOs
      obtain ⟨h7, g7, S7⟩ := ref_start189 (p0 := p) w hS hO1 hnm1.1 hAok (by omega) s6
      refine ⟨h7, ?_, by simp only [Bool.false_eq_true, ↓reduceIte]; exact S7⟩
      simp only [↓reduceIte]
      rw [show fX9_readTag_259 FU (some m) (nI p) (nI (tgA false tx N p).1) (nI (tagN (tgN tx N p).1)) (nI 0) h4 = _ from g5]
      simp only [fX9_readTag_286, fX9_readTag_293]
      rw [g6, cv_of s5.1.1.o g7]
      simp only [nI_add]
  · simp only [hlt2, ↓reduceIte]
    obtain ⟨h5, g5, S5⟩ := s4.1.tell (by omega) (nI 1) (nI p)
    refine ⟨h5, ?_, S5⟩
    simp only [↓cv_of hB4.o g5, ↓gi_of S5.1.o S5.2.2.2.1.1]

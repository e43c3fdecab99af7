/-! ELEMENTS are closed: the reference -/
theorem SR.cnt {h0 h : AH} {m N k : Nat} {ra : Nat → Nat} {tx : Nat → Nat} {T : TS} {fl : FL} {os : OS} (q : SR h0 m ra N tx h T fl os) (hk : k ≤ os.length) : SR h0 m ra N tx (pI h 480 m (nI k)) T fl (os.take k) := by
  have w : Fr (fun f a => f = 480 ∧ a = m) (fun _ => False) h (pI h 480 m (nI k)) := Fr.pI Fr.rf ⟨rfl, rfl⟩
  obtain ⟨q1, q2, q3, q4, q5, q6⟩ := id q
  have hl : (os.take k).length = k := by rw [List.length_take]; omega
  refine q.put (w.mo (fun f a z => ⟨z.2, by omega, by omega, by omega⟩) (fun a z => z.elim)) (q2.fr w (by omega) (fun _ _ _ z => z)) (q3.fr w (by omega) (fun z => z) (fun z => z)) ⟨by rw [gI_pI, if_pos ⟨rfl, rfl⟩, hl], fun j hj => ?_⟩
  rw [hl] at hj
  rw [(oN1_take hj hk).1, (oN1_take hj hk).2]
  exact q5.2 j (by omega)
/-- what closing touches -/
abbrev FrC (m : Nat) (ra : Nat → Nat) : AH → AH → Prop := Fr (fun f a => a = m ∧ (f = 476 ∨ f = 480)) (fun a => a = ra 27 ∨ a = ra 28)
theorem SR.tellF {h0 h : AH} {m N : Nat} {ra : Nat → Nat} {tx : Nat → Nat} {T : TS} {fl : FL} {os : OS} (q : SR h0 m ra N tx h T fl os) (hl : fl.length + 1 < 1000000) (a b : Int32) : ∃ h', fX9_tellFault (some m) a b h = some ((), h') ∧ SR h0 m ra N tx h' T (fl ++ [(a, b)]) os ∧ FrC m ra h h' := by
  obtain ⟨h1, g1, S1⟩ := q.tell hl a b
  obtain ⟨h1', g1', -, F1⟩ := ref_tell q.1 q.2.2.1 hl a b
  rw [g1] at g1'
  cases g1'
  exact ⟨h1, g1, S1, F1.mo (fun f a z => ⟨z.2, Or.inl z.1⟩) (fun a z => z)⟩
theorem SA.frc {h0 h h' : AH} {m N : Nat} {ra : Nat → Nat} {tx : Nat → Nat} {T T' : TS} {fl fl' : FL} {os os' : OS} {nm tw : List Nat} {L : AttL} (q : SA h0 m ra N tx h T fl os nm L tw) (w : FrC m ra h h') (s : SR h0 m ra N tx h' T' fl' os') : SA h0 m ra N tx h' T' fl' os' nm L tw := by
  have hB := q.1.1
  have hno : ∀ k, 34 ≤ k → ¬ (ra k = ra 27 ∨ ra k = ra 28) := fun k hk z => by rw [hB.i, hB.i] at z; omega
  exact ⟨s, q.2.1.fr w (by omega) (hno 34 (by omega)), q.2.2.fr w (by omega) (by omega) (fun k h1 h2 => hno k (by omega))⟩
theorem ref_close_L {h0 : AH} {m N fm sk : Nat} {ra : Nat → Nat} {tx : Nat → Nat} {T : TS} {x y : Int32} (hS : SizT T) (hst : 1 ≤ fm) (hsk : sk ≤ 1) : ∀ (k f : Nat) (h : AH) (fl : FL) (os : OS), os.length = fm + k → k < f → OsOk T os → fl.length + k + 1 < 1000000 → (∀ i, fm ≤ i → i < os.length → ((nI (oN1 os i) = x ∨ nI (oN1 os i) = y) ↔ (sk = 1 ∧ i = fm))) → SR h0 m ra N tx h T fl os → ∃ h', fX9_closeTo_0 f (some m) (nI fm) x y h = some ((), h') ∧ SR h0 m ra N tx h' T (fl ++ clL T os (k - sk) (os.length - 1)) (os.take fm) ∧ FrC m ra h h' := by
  intro k
  induction k with
  | zero =>
    intro f h fl os hlen hkf hOs hl hxy q
    obtain ⟨f, rfl⟩ : ∃ g, f = g + 1 := ⟨f - 1, by omega⟩
    have h21 := hOs.2.1
    refine ⟨h, ?_, ?_, Fr.rf⟩
    · rw [fX9_closeTo_0]
      simp (disch := omega) only [↓gi_of q.1.o q.2.2.2.2.1.1, leN, show os.length ≤ fm by omega, ↓reduceIte, fX9_closeTo_78]
    · rw [show 0 - sk = 0 by omega, show clL T os 0 (os.length - 1) = [] from rfl, List.append_nil, List.take_of_length_le (by omega)]
      exact q
  | succ k ih =>
    intro f h fl os hlen hkf hOs hl hxy q
    obtain ⟨f, rfl⟩ : ∃ g, f = g + 1 := ⟨f - 1, by omega⟩
    have h21 := hOs.2.1
    have hB := q.1
    obtain ⟨ui, -⟩ := hOs.2.2.2 (os.length - 1) (by omega)
    have il := hS.lt ui
    have s1 := (hS.2 _ ui).1
    have hl2 : (os.take (os.length - 1)).length = os.length - 1 := by rw [List.length_take]; omega
    have q3 := q.cnt (k := os.length - 1) (by omega)
    have hB3 := q3.1
    obtain ⟨o1, o2⟩ := q.2.2.2.2.1.2 (os.length - 1) (by omega)
    obtain ⟨w1, -⟩ := (q.2.1.2 _ il).2 ui
    have hxy1 := hxy (os.length - 1) (by omega) (by omega)
    have o1' : gA (pI h 480 m (nI (os.length - 1))) (ra 29) (os.length - 1) = nI (oN1 os (os.length - 1)) := o1
    have w1' : gA (pI h 480 m (nI (os.length - 1))) (ra 7) (oN1 os (os.length - 1)) = nI (tTag T (oN1 os (os.length - 1))) := w1
    have o2' : gA (pI h 480 m (nI (os.length - 1))) (ra 24) (oN1 os (os.length - 1)) = nI (oP1 os (os.length - 1)) := o2 (by omega)
    have e480 : gI (pI h 480 m (nI (os.length - 1))) 480 m = nI (os.length - 1) := by rw [gI_pI, if_pos ⟨rfl, rfl⟩]
    have next : ∀ (h2 : AH) (fl2 : FL), fl2.length + k + 1 < 1000000 → SR h0 m ra N tx h2 T fl2 (os.take (os.length - 1)) → ∃ h', fX9_closeTo_75 (fX9_closeTo_0 f) (some m) (nI fm) x y h2 = some ((), h') ∧ SR h0 m ra N tx h' T (fl2 ++ clL T os (k - sk) (os.length - 1 - 1)) (os.take fm) ∧ FrC m ra h2 h' := by
      intro h2 fl2 hl2' q2
      obtain ⟨h3, g3, S3, F3⟩ := ih f h2 fl2 (os.take (os.length - 1)) (by omega) (by omega) (hOs.take (by omega) (by omega)) hl2' (fun i a b => by rw [hl2] at b; rw [(oN1_take b (by omega)).1]; exact hxy i a (by omega)) q2
      rw [hl2] at S3
      rw [clL_take (by omega) (k - sk) _ (by omega), List.take_take, Nat.min_eq_left (by omega)] at S3
      exact ⟨h3, g3, S3, F3⟩
    have F0 : FrC m ra h (pI h 480 m (nI (os.length - 1))) := Fr.pI Fr.rf ⟨rfl, Or.inr rfl⟩
    have next0 : ∃ h', fX9_closeTo_75 (fX9_closeTo_0 f) (some m) (nI fm) x y (pI h 480 m (nI (os.length - 1))) = some ((), h') ∧ SR h0 m ra N tx h' T (fl ++ clL T os (k - sk) (os.length - 1 - 1)) (os.take fm) ∧ FrC m ra h h' := by
      obtain ⟨h3, g3, S3, F3⟩ := next _ fl (by omega) q3
      exact ⟨h3, g3, S3, F0.tr F3⟩
    rw [fX9_closeTo_0]
    simp (disch := omega) only [↓gi_of hB.o q.2.2.2.2.1.1, leN, show ¬ os.length ≤ fm by omega, ↓reduceIte, nI_sub (show 1 ≤ os.length by omega), ↓pi_of hB.o, ↓gr_of hB3.o hB3.r29, ↓gi_of hB3.o e480, ↓al_of hB3.k29 (show os.length - 1 < 22 by omega) (by omega) o1', ↓gr_of hB3.o hB3.r7, ↓al_of hB3.k7 il (by omega) w1', eqN, ↓gr_of hB3.o hB3.r24, ↓al_of hB3.k24 il (by omega) o2']
    by_cases hz : sk = 1 ∧ os.length - 1 = fm
    · obtain ⟨h3, g3, S3, F3⟩ := next0
      refine ⟨h3, ?_, ?_, F3⟩
      · by_cases z' : nI (oN1 os (os.length - 1)) = x
        · rw [if_pos z']; exact g3
        · rcases hxy1.mpr hz with z | z
          · exact absurd z z'
          · rw [if_neg z', if_pos z]; exact g3
      · rw [show k + 1 - sk = 0 by omega]
        rw [show k - sk = 0 by omega] at S3
        exact S3
    · have nx : ¬ (nI (oN1 os (os.length - 1)) = x) := fun z => hz (hxy1.mp (Or.inl z))
      have ny : ¬ (nI (oN1 os (os.length - 1)) = y) := fun z => hz (hxy1.mp (Or.inr z))
      rw [if_neg nx, if_neg ny, show k + 1 - sk = (k - sk) + 1 by omega]
      rw [show clL T os (k - sk + 1) (os.length - 1) = (if tTag T (oN1 os (os.length - 1)) = 1 ∨ tTag T (oN1 os (os.length - 1)) = 4 then [] else [(nI 4, nI (oP1 os (os.length - 1)))]) ++ clL T os (k - sk) (os.length - 1 - 1) from rfl]
      by_cases h1 : tTag T (oN1 os (os.length - 1)) = 1
      · rw [if_pos h1, if_pos (Or.inl h1), List.nil_append]
        exact next0
      · rw [if_neg h1]
        by_cases h4 : tTag T (oN1 os (os.length - 1)) = 4
        · rw [if_pos h4, if_pos (Or.inr h4), List.nil_append]
          exact next0
        · rw [if_neg h4, if_neg (by omega)]
          obtain ⟨h2, g2, S2, F2⟩ := q3.tellF (by omega) (nI 4) (nI (oP1 os (os.length - 1)))
          obtain ⟨h3, g3, S3, F3⟩ := next h2 _ (by rw [List.length_append]; simp; omega) S2
          refine ⟨h3, ?_, by rw [← List.append_assoc]; exact S3, F0.tr (F2.tr F3)⟩
          simp only [↓cv_of hB3.o g2]
          exact g3
theorem ref_close {h0 h : AH} {m N fm : Nat} {ra : Nat → Nat} {tx : Nat → Nat} {T : TS} {fl : FL} {os : OS} (hS : SizT T) (hst : 1 ≤ fm) (hle : fm ≤ os.length) (hOs : OsOk T os) (hl : fl.length + 30 < 1000000) (q : SR h0 m ra N tx h T fl os) : ∃ h', fX9_closeTo (some m) (nI fm) (-1) (-1) h = some ((), h') ∧ SR h0 m ra N tx h' T (fl ++ clL T os (os.length - fm) (os.length - 1)) (os.take fm) ∧ FrC m ra h h' := by
  have h21 := hOs.2.1
  obtain ⟨h1, g1, S1, F1⟩ := ref_close_L (sk := 0) (x := -1) (y := -1) hS hst (by omega) (os.length - fm) FU h fl os (by omega) (by have := FU_ge; omega) hOs (by omega) (fun i a b => by
    have := (hOs.u hS i b).1
    rw [eqM1 (by omega)]
    simp) q
  exact ⟨h1, g1, S1, F1⟩
theorem OsOk.inj {T : TS} {os : OS} (o : OsOk T os) {i k : Nat} (hi : i < os.length) (hk : k < os.length) (e : oN1 os i = oN1 os k) : i = k := by
  have a := (o.2.2.2 i hi).2.2.1
  have b := (o.2.2.2 k hk).2.2.1
  rw [e] at a
  omega
theorem ref_closeK {h0 h : AH} {m N fm : Nat} {ra : Nat → Nat} {tx : Nat → Nat} {T : TS} {fl : FL} {os : OS} {x y : Int32} (hS : SizT T) (hst : 1 ≤ fm) (hle : fm < os.length) (hOs : OsOk T os) (hl : fl.length + 30 < 1000000) (hxy : (x = nI (oN1 os fm) ∧ y = -1) ∨ (x = -1 ∧ y = nI (oN1 os fm))) (q : SR h0 m ra N tx h T fl os) : ∃ h', fX9_closeTo (some m) (nI fm) x y h = some ((), h') ∧ SR h0 m ra N tx h' T (fl ++ clL T os (os.length - (fm + 1)) (os.length - 1)) (os.take fm) ∧ FrC m ra h h' := by
  have h21 := hOs.2.1
  obtain ⟨h1, g1, S1, F1⟩ := ref_close_L (sk := 1) (x := x) (y := y) hS hst (by omega) (os.length - fm) FU h fl os (by omega) (by have := FU_ge; omega) hOs (by omega) (fun i a b => by
    have b1 := (hOs.u hS i b).1
    have b2 := (hOs.u hS fm hle).1
    have key : (nI (oN1 os i) = nI (oN1 os fm)) = (i = fm) := by
      rw [eqN (by omega) (by omega)]
      exact propext ⟨fun z => hOs.inj b hle z, fun z => by rw [z]⟩
    rcases hxy with ⟨rfl, rfl⟩ | ⟨rfl, rfl⟩
    · rw [key, eqM1 (by omega)]; simp
    · rw [key, eqM1 (by omega)]; simp) q
  rw [show os.length - fm - 1 = os.length - (fm + 1) by omega] at S1
  exact ⟨h1, g1, S1, F1⟩
theorem ref_endTag_L {h0 h : AH} {m N p0 : Nat} {ra : Nat → Nat} {tx : Nat → Nat} {T : TS} {kd : Nat → List Nat} {fl : FL} {os : OS} {nm : List Nat} (w : Wf T kd) (hS : SizT T) (hOs : OsOk T os) (hv : vch nm) (q : SR h0 m ra N tx h T fl os) (t : TnR h m ra nm) : ∀ (i f : Nat), i < os.length → i < f → fX9_endTag_7 f (some m) (nI p0) (nI (tagN nm)) (nI i) h = fX9_endTag_84 (some m) (nI p0) (nI (tagN nm)) (nI (inM T os nm i)) h := by
  have hB := q.1
  have h21 := hOs.2.1
  have htl := tagN_le nm
  have hl8 := t.2.1
  intro i
  induction i with
  | zero =>
    intro f hi hf
    obtain ⟨f, rfl⟩ : ∃ g, f = g + 1 := ⟨f - 1, by omega⟩
    rw [fX9_endTag_7]
    simp (disch := omega) only [le0n, ↓reduceIte]
    rfl
  | succ i ih =>
    intro f hi hf
    obtain ⟨f, rfl⟩ : ∃ g, f = g + 1 := ⟨f - 1, by omega⟩
    obtain ⟨ui, t17, -⟩ := hOs.2.2.2 (i + 1) hi
    have il := hS.lt ui
    obtain ⟨s1, s2, s3, -⟩ := hS.2 _ ui
    obtain ⟨w1, w2, w3, -⟩ := (q.2.1.2 _ il).2 ui
    obtain ⟨o1, -⟩ := q.2.2.2.2.1.2 (i + 1) hi
    have htag := (w.2.2.2.2.2.2.2.1 _ ui).2 t17
    have hi2 := ih f (by omega) (by omega)
    rw [fX9_endTag_7]
    rw [show inM T os nm (i + 1) = if tNam T (oN1 os (i + 1)) = nm then i + 1 else inM T os nm i from rfl]
    generalize oN1 os (i + 1) = nd at *
    simp (disch := omega) only [le0n, show ¬ i + 1 = 0 by omega, ↓reduceIte, ↓gr_of hB.o hB.r7, ↓gr_of hB.o hB.r29, ↓al_of hB.k29 (show i + 1 < 22 by omega) (by omega) o1, ↓al_of hB.k7 il (by omega) w1, eqN, fX9_endTag_78, nI_m1 (show 1 ≤ i + 1 by omega), Nat.add_sub_cancel, hi2, ↓gr_of hB.o hB.r9, ↓al_of hB.k9 il (by omega) w2, ↓gi_of hB.o t.1, ↓gr_of hB.o hB.r8, ↓gr_of hB.o hB.r34, nI_mul]
    by_cases htg : tTag T nd = tagN nm
    · rw [if_pos htg]
      by_cases h16 : tagN nm = 16
      · rw [if_pos h16]
        by_cases hlen : (tNam T nd).length = nm.length
        · have hsame := ref_same (h := h) (a := ra 8) (b := ra 34) (p := 8 * nd) (q := 0) (N := 960) (M := 8) (l := tNam T nd) (l' := nm) hB.k8 hB.k34 (by omega) (by omega) hlen (by omega) (by omega) w3 (fun k hk => by rw [Nat.zero_add]; exact t.2.2 k (by omega)) (fun k => ⟨by have := vch_get s3 k; omega, by have := vch_get hv k; omega⟩)
          rw [hlen] at hsame
          rw [if_pos hlen]
          simp only [↓cl_of hsame, bI0]
          by_cases e : tNam T nd = nm
          · simp only [e, decide_true, Bool.true_eq_false, ↓reduceIte]
          · simp only [e, decide_false, ↓reduceIte]
            exact hi2
        · have e : ¬ tNam T nd = nm := fun z => hlen (by rw [z])
          rw [if_neg hlen, if_neg e]
      · have e : tNam T nd = nm := tagN_inj (by rw [← htag]; exact htg) (by rw [← htag, htg]; exact h16)
        rw [if_neg h16, if_pos e]
    · have e : ¬ tNam T nd = nm := fun z => htg (by rw [htag, z])
      rw [if_neg htg, if_neg e]
theorem ref_endTag {h0 h : AH} {m N p0 : Nat} {ra : Nat → Nat} {tx : Nat → Nat} {T : TS} {kd : Nat → List Nat} {fl : FL} {os : OS} {nm : List Nat} (w : Wf T kd) (hS : SizT T) (hOs : OsOk T os) (hv : vch nm) (hl : fl.length + 30 < 1000000) (q : SR h0 m ra N tx h T fl os) (t : TnR h m ra nm) : ∃ h', fX9_endTag (some m) (nI p0) (nI (tagN nm)) h = some ((), h') ∧ SR h0 m ra N tx h' T (enF T fl os nm p0) (enO T os nm) := by
  have hB := q.1
  have h1 := hOs.1
  have h21 := hOs.2.1
  have htl := tagN_le nm
  have hml := inM_le T os nm (os.length - 1)
  have hem := ref_isEm (h := h) (t := tagN nm) (by omega)
  have hL := ref_endTag_L (p0 := p0) w hS hOs hv q t (os.length - 1) FU (by omega) (by have := FU_ge; omega)
  simp only [fX9_endTag, fX9_endTag_0]
  simp (disch := omega) only [↓gi_of hB.o q.2.2.2.2.1.1, nI_sub h1, hL, fX9_endTag_84, eq0n, fX9_endTag_95, fX9_endTag_116]
  unfold enF enO enW2
  obtain ⟨h2, g2, S2⟩ := q.tell (by omega) (nI 3) (nI p0)
  by_cases hz : inM T os nm (os.length - 1) = 0
  · have e : (if isEm (tagN nm) = true then 0 else inM T os nm (os.length - 1)) = 0 := by rw [hz, ite_self]
    refine ⟨h2, ?_, by rw [if_pos e, if_pos e]; exact S2⟩
    rw [if_pos hz]
    simp only [↓cv_of hB.o g2]
  · rw [if_neg hz]
    simp only [↓cl_of hem, bI0]
    cases isEm (tagN nm) with
    | true =>
      refine ⟨h2, ?_, by simp only [↓reduceIte]; exact S2⟩
      simp only [Bool.true_eq_false, ↓reduceIte, ↓cv_of hB.o g2]
    | false =>
      simp only [Bool.false_eq_true, ↓reduceIte, hz]
      obtain ⟨o1, -⟩ := q.2.2.2.2.1.2 (inM T os nm (os.length - 1)) (by omega)
      obtain ⟨h3, g3, S3, -⟩ := ref_closeK (fm := inM T os nm (os.length - 1)) hS (by omega) (by omega) hOs hl (Or.inl ⟨rfl, rfl⟩) q
      refine ⟨h3, ?_, S3⟩
      simp (disch := omega) only [↓gr_of hB.o hB.r29, ↓al_of hB.k29 (show inM T os nm (os.length - 1) < 22 by omega) (by omega) o1, ↓cv_of hB.o g3]

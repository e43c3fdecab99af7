/-! a start TAG: what it closes, its NODE: the reference -/
theorem ref_in14 {h0 h : AH} {m N : Nat} {ra : Nat → Nat} {tx : Nat → Nat} {T : TS} {fl : FL} {os : OS} {v1 v2 : Int32} (hS : SizT T) (hOs : OsOk T os) (q : SR h0 m ra N tx h T fl os) : ∀ (i f : Nat), i < os.length → i < f → fX9_startTag_14 f (some m) v1 v2 (nI i) h = fX9_startTag_39 (some m) v1 v2 (nI (inO T os 1 i)) h := by
  have hB := q.1
  have h21 := hOs.2.1
  intro i
  induction i with
  | zero =>
    intro f hi hf
    obtain ⟨f, rfl⟩ : ∃ g, f = g + 1 := ⟨f - 1, by omega⟩
    rw [fX9_startTag_14]
    simp (disch := omega) only [le0n, ↓reduceIte]
    rfl
  | succ i ih =>
    intro f hi hf
    obtain ⟨f, rfl⟩ : ∃ g, f = g + 1 := ⟨f - 1, by omega⟩
    obtain ⟨ui, -⟩ := hOs.2.2.2 (i + 1) hi
    have il := hS.lt ui
    have s1 := (hS.2 _ ui).1
    obtain ⟨w1, -⟩ := (q.2.1.2 _ il).2 ui
    obtain ⟨o1, -⟩ := q.2.2.2.2.1.2 (i + 1) hi
    rw [fX9_startTag_14]
    rw [show inO T os 1 (i + 1) = if tTag T (oN1 os (i + 1)) = 1 then i + 1 else inO T os 1 i from rfl]
    simp (disch := omega) only [le0n, show ¬ i + 1 = 0 by omega, ↓reduceIte, ↓gr_of hB.o hB.r7, ↓gr_of hB.o hB.r29, ↓al_of hB.k29 (show i + 1 < 22 by omega) (by omega) o1, ↓al_of hB.k7 il (by omega) w1, eqN, nI_m1 (show 1 ≤ i + 1 by omega), Nat.add_sub_cancel, ih f (by omega) (by omega)]
    by_cases h1 : tTag T (oN1 os (i + 1)) = 1
    · rw [if_pos h1, if_pos h1]
    · rw [if_neg h1, if_neg h1]
theorem ref_in141 {h0 h : AH} {m N : Nat} {ra : Nat → Nat} {tx : Nat → Nat} {T : TS} {fl : FL} {os : OS} {v1 v2 : Int32} (hS : SizT T) (hOs : OsOk T os) (q : SR h0 m ra N tx h T fl os) : ∀ (i f : Nat), i < os.length → i < f → fX9_startTag_141 f (some m) v1 v2 (nI i) h = fX9_startTag_167 (some m) v1 v2 (nI (inO T os 7 i)) h := by
  have hB := q.1
  have h21 := hOs.2.1
  intro i
  induction i with
  | zero =>
    intro f hi hf
    obtain ⟨f, rfl⟩ : ∃ g, f = g + 1 := ⟨f - 1, by omega⟩
    rw [fX9_startTag_141]
    simp (disch := omega) only [le0n, ↓reduceIte]
    rfl
  | succ i ih =>
    intro f hi hf
    obtain ⟨f, rfl⟩ : ∃ g, f = g + 1 := ⟨f - 1, by omega⟩
    obtain ⟨ui, -⟩ := hOs.2.2.2 (i + 1) hi
    have il := hS.lt ui
    have s1 := (hS.2 _ ui).1
    obtain ⟨w1, -⟩ := (q.2.1.2 _ il).2 ui
    obtain ⟨o1, -⟩ := q.2.2.2.2.1.2 (i + 1) hi
    rw [fX9_startTag_141]
    rw [show inO T os 7 (i + 1) = if tTag T (oN1 os (i + 1)) = 7 then i + 1 else inO T os 7 i from rfl]
    simp (disch := omega) only [le0n, show ¬ i + 1 = 0 by omega, ↓reduceIte, ↓gr_of hB.o hB.r7, ↓gr_of hB.o hB.r29, ↓al_of hB.k29 (show i + 1 < 22 by omega) (by omega) o1, ↓al_of hB.k7 il (by omega) w1, eqN, nI_m1 (show 1 ≤ i + 1 by omega), Nat.add_sub_cancel, ih f (by omega) (by omega)]
    by_cases h1 : tTag T (oN1 os (i + 1)) = 7
    · rw [if_pos h1, if_pos h1]
    · rw [if_neg h1, if_neg h1]
def inLU (T : TS) (os : OS) : Nat → Nat
  | 0 => 0
  | i + 1 => if tTag T (oN1 os (i + 1)) = 4 ∨ tTag T (oN1 os (i + 1)) = 3 then i + 1 else inLU T os i
theorem inLU_le (T : TS) (os : OS) : ∀ i, inLU T os i ≤ i := by
  intro i
  induction i with
  | zero => exact Nat.le_refl _
  | succ i ih => unfold inLU; split <;> omega
theorem inLU_eq (T : TS) (os : OS) : ∀ i, (inLU T os i ≠ 0 ∧ tTag T (oN1 os (inLU T os i)) = 4 → inO T os 3 i < inO T os 4 i ∧ inO T os 4 i = inLU T os i) ∧ (¬ (inLU T os i ≠ 0 ∧ tTag T (oN1 os (inLU T os i)) = 4) → ¬ inO T os 3 i < inO T os 4 i) := by
  intro i
  induction i with
  | zero => exact ⟨fun z => absurd rfl z.1, fun _ => by simp [inO]⟩
  | succ i ih =>
    have l3 := inO_le T os 3 i
    have l4 := inO_le T os 4 i
    unfold inLU inO
    by_cases h4 : tTag T (oN1 os (i + 1)) = 4
    · have h3 : ¬ tTag T (oN1 os (i + 1)) = 3 := by omega
      simp only [h4, true_or, ↓reduceIte, Nat.reduceEqDiff]
      exact ⟨fun _ => ⟨by omega, trivial⟩, fun z => absurd ⟨by omega, trivial⟩ z⟩
    · by_cases h3 : tTag T (oN1 os (i + 1)) = 3
      · simp only [h3, or_true, ↓reduceIte, Nat.reduceEqDiff]
        exact ⟨fun z => by simp at z, fun _ => by omega⟩
      · simp only [h3, h4, or_self, ↓reduceIte]
        exact ih
theorem ref_in62 {h0 h : AH} {m N : Nat} {ra : Nat → Nat} {tx : Nat → Nat} {T : TS} {fl : FL} {os : OS} {v1 v2 : Int32} (hS : SizT T) (hOs : OsOk T os) (q : SR h0 m ra N tx h T fl os) : ∀ (i f : Nat), i < os.length → i < f → fX9_startTag_62 f (some m) v1 v2 (nI i) h = fX9_startTag_102 (some m) v1 v2 (nI (inLU T os i)) h := by
  have hB := q.1
  have h21 := hOs.2.1
  intro i
  induction i with
  | zero =>
    intro f hi hf
    obtain ⟨f, rfl⟩ : ∃ g, f = g + 1 := ⟨f - 1, by omega⟩
    rw [fX9_startTag_62]
    simp (disch := omega) only [le0n, ↓reduceIte]
    rfl
  | succ i ih =>
    intro f hi hf
    obtain ⟨f, rfl⟩ : ∃ g, f = g + 1 := ⟨f - 1, by omega⟩
    obtain ⟨ui, -⟩ := hOs.2.2.2 (i + 1) hi
    have il := hS.lt ui
    have s1 := (hS.2 _ ui).1
    obtain ⟨w1, -⟩ := (q.2.1.2 _ il).2 ui
    obtain ⟨o1, -⟩ := q.2.2.2.2.1.2 (i + 1) hi
    rw [fX9_startTag_62]
    rw [show inLU T os (i + 1) = if tTag T (oN1 os (i + 1)) = 4 ∨ tTag T (oN1 os (i + 1)) = 3 then i + 1 else inLU T os i from rfl]
    simp (disch := omega) only [le0n, show ¬ i + 1 = 0 by omega, ↓reduceIte, ↓gr_of hB.o hB.r7, ↓gr_of hB.o hB.r29, ↓al_of hB.k29 (show i + 1 < 22 by omega) (by omega) o1, ↓al_of hB.k7 il (by omega) w1, eqN, nI_m1 (show 1 ≤ i + 1 by omega), Nat.add_sub_cancel, ih f (by omega) (by omega)]
    by_cases h4 : tTag T (oN1 os (i + 1)) = 4
    · rw [if_pos h4, if_pos (Or.inl h4)]
    · rw [if_neg h4]
      by_cases h3 : tTag T (oN1 os (i + 1)) = 3
      · rw [if_pos h3, if_pos (Or.inr h3)]
      · rw [if_neg h3, if_neg (by omega)]
theorem ref_closeBefore {h0 h : AH} {m N p0 t : Nat} {ra : Nat → Nat} {tx : Nat → Nat} {T : TS} {fl : FL} {os : OS} {nm tw : List Nat} {L : AttL} (hS : SizT T) (hOs : OsOk T os) (ht : t ≤ 16) (hl : fl.length + 100 < 1000000) (q : SA h0 m ra N tx h T fl os nm L tw) : ∃ h', fX9_startTag (some m) (nI p0) (nI t) h = fX9_startTag_189 (some m) (nI p0) (nI t) h' ∧ SA h0 m ra N tx h' T (cbS T t fl os p0).1 (cbS T t fl os p0).2 nm L tw := by
  have third : ∀ (h : AH) (S : FL × OS), OsOk T S.2 → S.1.length + 50 < 1000000 → SA h0 m ra N tx h T S.1 S.2 nm L tw → ∃ h', fX9_startTag_128 (some m) (nI p0) (nI t) h = fX9_startTag_189 (some m) (nI p0) (nI t) h' ∧ SA h0 m ra N tx h' T (cb3 T t S p0).1 (cb3 T t S p0).2 nm L tw := by
    intro h S hO hl q
    have hB := q.1.1
    have hle := inO_le T S.2 7 (S.2.length - 1)
    have h21 := hO.2.1
    have h1 := hO.1
    simp only [fX9_startTag_128]
    unfold cb3
    simp (disch := omega) only [eqN, ↓gi_of hB.o q.1.2.2.2.2.1.1, nI_sub h1]
    by_cases h7 : t = 7
    · rw [if_pos h7, ref_in141 hS hO q.1 (S.2.length - 1) FU (by omega) (by have := FU_ge; omega)]
      simp only [fX9_startTag_167]
      simp (disch := omega) only [le0n]
      by_cases hw : inO T S.2 7 (S.2.length - 1) = 0
      · exact ⟨h, by rw [if_pos hw], by rw [if_neg (fun z => z.2 hw)]; exact q⟩
      · obtain ⟨o1, -⟩ := q.1.2.2.2.2.1.2 (inO T S.2 7 (S.2.length - 1)) (by omega)
        obtain ⟨h2, g2, S2, F2⟩ := ref_closeK (fm := inO T S.2 7 (S.2.length - 1)) hS (by omega) (by omega) hO (by omega) (Or.inr ⟨rfl, rfl⟩) q.1
        have A2 := q.frc F2 S2
        have hcl := clL_len T S.2 (S.2.length - (inO T S.2 7 (S.2.length - 1) + 1)) (S.2.length - 1)
        obtain ⟨h4, g4, S4, F4⟩ := S2.tellF (by rw [List.length_append]; omega) (nI 5) (nI p0)
        refine ⟨h4, ?_, by rw [if_pos ⟨h7, hw⟩]; exact A2.frc F4 S4⟩
        rw [if_neg hw]
        simp (disch := omega) only [↓gr_of hB.o hB.r29, ↓al_of hB.k29 (show inO T S.2 7 (S.2.length - 1) < 22 by omega) (by omega) o1, ↓cv_of hB.o g2, ↓cv_of S2.1.o g4]
    · rw [if_neg h7]
      exact ⟨h, rfl, by rw [if_neg (fun z => h7 z.1)]; exact q⟩
  have second : ∀ (h : AH) (S : FL × OS), OsOk T S.2 → S.1.length + 75 < 1000000 → SA h0 m ra N tx h T S.1 S.2 nm L tw → ∃ h', fX9_startTag_50 (some m) (nI p0) (nI t) h = fX9_startTag_189 (some m) (nI p0) (nI t) h' ∧ SA h0 m ra N tx h' T (cb3 T t (cb2 T t S) p0).1 (cb3 T t (cb2 T t S) p0).2 nm L tw := by
    intro h S hO hl q
    have hB := q.1.1
    have hle := inLU_le T S.2 (S.2.length - 1)
    have h21 := hO.2.1
    have h1 := hO.1
    have c2 := cb2_ok (t := t) hO
    obtain ⟨u1, u2⟩ := inLU_eq T S.2 (S.2.length - 1)
    simp only [fX9_startTag_50]
    simp (disch := omega) only [eqN, ↓gi_of hB.o q.1.2.2.2.2.1.1, nI_sub h1]
    by_cases h4 : t = 4
    · rw [if_pos h4, ref_in62 hS hO q.1 (S.2.length - 1) FU (by omega) (by have := FU_ge; omega)]
      simp only [fX9_startTag_102]
      simp (disch := omega) only [le0n]
      by_cases hw : inLU T S.2 (S.2.length - 1) = 0
      · have e2 : cb2 T t S = S := by unfold cb2; rw [if_neg (fun z => u2 (fun y => y.1 hw) z.2)]
        rw [e2, if_pos hw]
        exact third h S hO (by omega) q
      · rw [if_neg hw]
        obtain ⟨ui, -⟩ := hO.2.2.2 (inLU T S.2 (S.2.length - 1)) (by omega)
        have il := hS.lt ui
        have s1 := (hS.2 _ ui).1
        obtain ⟨w1, -⟩ := (q.1.2.1.2 _ il).2 ui
        obtain ⟨o1, -⟩ := q.1.2.2.2.2.1.2 (inLU T S.2 (S.2.length - 1)) (by omega)
        simp (disch := omega) only [↓gr_of hB.o hB.r7, ↓gr_of hB.o hB.r29, ↓al_of hB.k29 (show inLU T S.2 (S.2.length - 1) < 22 by omega) (by omega) o1, ↓al_of hB.k7 il (by omega) w1, eqN]
        by_cases h44 : tTag T (oN1 S.2 (inLU T S.2 (S.2.length - 1))) = 4
        · obtain ⟨v1, v2⟩ := u1 ⟨hw, h44⟩
          obtain ⟨h2, g2, S2, F2⟩ := ref_close (fm := inLU T S.2 (S.2.length - 1)) hS (by omega) (by omega) hO (by omega) q.1
          have e2 : cb2 T t S = clP T S (inLU T S.2 (S.2.length - 1)) := by unfold cb2; rw [if_pos ⟨h4, v1⟩, v2]
          rw [e2] at c2 ⊢
          obtain ⟨h3, g3, S3⟩ := third h2 (clP T S (inLU T S.2 (S.2.length - 1))) c2.1 (by omega) (q.frc F2 S2)
          refine ⟨h3, ?_, S3⟩
          rw [if_pos h44]
          simp only [↓cv_of hB.o g2]
          exact g3
        · have e2 : cb2 T t S = S := by unfold cb2; rw [if_neg (fun z => u2 (fun y => h44 y.2) z.2)]
          rw [e2, if_neg h44]
          exact third h S hO (by omega) q
    · have e2 : cb2 T t S = S := by unfold cb2; rw [if_neg (fun z => h4 z.1)]
      rw [e2, if_neg h4]
      exact third h S hO (by omega) q
  have hB := q.1.1
  have hle := inO_le T os 1 (os.length - 1)
  have h1 := hOs.1
  have h21 := hOs.2.1
  have c1 := cb1_ok (t := t) (S := (fl, os)) hOs
  have hbk := ref_isBk (h := h) (t := t) (by omega)
  simp only [fX9_startTag, fX9_startTag_0]
  simp (disch := omega) only [↓cl_of hbk, bI0, ↓gi_of hB.o q.1.2.2.2.2.1.1, nI_sub h1]
  unfold cbS
  cases hb : isBk t with
  | false =>
    have e1 : cb1 T t (fl, os) = (fl, os) := by unfold cb1; rw [if_neg (fun z => by rw [hb] at z; cases z.1)]
    rw [e1]
    simp only [↓reduceIte]
    exact second h (fl, os) hOs (by show fl.length + 75 < 1000000; omega) q
  | true =>
    simp only [Bool.true_eq_false, ↓reduceIte]
    rw [ref_in14 hS hOs q.1 (os.length - 1) FU (by omega) (by have := FU_ge; omega)]
    simp only [fX9_startTag_39]
    simp (disch := omega) only [le0n]
    by_cases hw : inO T os 1 (os.length - 1) = 0
    · have e1 : cb1 T t (fl, os) = (fl, os) := by unfold cb1; rw [if_neg (fun z => z.2 hw)]
      rw [e1, if_pos hw]
      exact second h (fl, os) hOs (by show fl.length + 75 < 1000000; omega) q
    · have e1 : cb1 T t (fl, os) = clP T (fl, os) (inO T os 1 (os.length - 1)) := by unfold cb1; rw [if_pos ⟨hb, hw⟩]
      obtain ⟨h2, g2, S2, F2⟩ := ref_close (fm := inO T os 1 (os.length - 1)) hS (by omega) (by omega) hOs (by omega) q.1
      rw [e1] at c1 ⊢
      have hl3 : (clP T (fl, os) (inO T os 1 (os.length - 1))).1.length ≤ fl.length + 21 := c1.2
      obtain ⟨h3, g3, S3⟩ := second h2 (clP T (fl, os) (inO T os 1 (os.length - 1))) c1.1 (by omega) (q.frc F2 S2)
      refine ⟨h3, ?_, S3⟩
      rw [if_neg hw]
      simp only [↓cv_of hB.o g2]
      exact g3
theorem ref_start189 {h0 h : AH} {m N p0 : Nat} {ra : Nat → Nat} {tx : Nat → Nat} {T : TS} {kd : Nat → List Nat} {fl : FL} {os : OS} {nm tw : List Nat} {L : AttL} (w : Wf T kd) (hS : SizT T) (hOs : OsOk T os) (hv : vch nm) (hL : AtS L) (hl : fl.length + 1 < 1000000) (q : SA h0 m ra N tx h T fl os nm L tw) : ∃ h', fX9_startTag_189 (some m) (nI p0) (nI (tagN nm)) h = some ((), h') ∧ SR h0 m ra N tx h' (sgT T os nm L) (sgF T fl os p0) (sgO T os nm p0) := by
  have hB := q.1.1
  have h1l := hOs.1
  have h21 := hOs.2.1
  have hlen := q.2.1.2.1
  have htl := tagN_le nm
  obtain ⟨ui, t17i, di, -⟩ := hOs.2.2.2 (os.length - 1) (by omega)
  obtain ⟨o1, -⟩ := q.1.2.2.2.2.1.2 (os.length - 1) (by omega)
  simp only [fX9_startTag_189]
  simp (disch := omega) only [↓gr_of hB.o hB.r29, ↓gi_of hB.o q.1.2.2.2.2.1.1, nI_sub h1l, ↓al_of hB.k29 (show os.length - 1 < 22 by omega) (by omega) o1]
  unfold sgT sgF sgO
  generalize hi : oN1 os (os.length - 1) = i at *
  have il := hS.lt ui
  cases hg : grw T i with
  | none =>
    obtain ⟨h2, g2, S2⟩ := q.1.tell hl (nI 6) (nI p0)
    refine ⟨h2, ?_, S2⟩
    simp only [↓cv_of hB.o (ref_freshN hB q.1.2.1 hS ui hg), ↓reduceIte, ↓cv_of hB.o g2]
  | some k =>
    obtain ⟨hd1, hk, hku⟩ := grw_some hg
    have gF := ref_freshS hB q.1.2.1 hS ui hg
    have F2 := frK_fr (h := h) (ra := ra) (m := m) (q := i) (n := k) (c := tCnt T + 1) (d := tDep T i + 1) (v := nI i) (lk := tLk T i)
    have c475 := frK_475 (h := h) (ra := ra) (m := m) (q := i) (n := k) (c := tCnt T + 1) (d := tDep T i + 1) (v := nI i) (lk := tLk T i)
    have cfr := RefT.fresh (h2 := wrA (pA (pA (frK (frH h ra m k (nI i) (tDep T i + 1) (tCnt T + 1)) ra i k (tLk T i)) (ra 7) k (nI (tagN nm))) (ra 9) k (nI nm.length)) (ra 8) (8 * k) nm) (t := tagN nm) (nm := nm) q.1.2.1 hB.2.1 hS ui hg hlen
    generalize hX : frK (frH h ra m k (nI i) (tDep T i + 1) (tCnt T + 1)) ra i k (tLk T i) = X at *
    have BX : RB X m ra := F2.RB hB
    have hno : ∀ c, ¬ (6 ≤ c ∧ c ≤ 23) → ¬ ∃ j, (6 ≤ j ∧ j ≤ 23) ∧ ra c = ra j := fun c hc z => by obtain ⟨j, hj, e⟩ := z; rw [hB.i] at e; omega
    have tX : TnR X m ra nm := q.2.1.fr F2 (by omega) (hno 34 (by omega))
    have aX : AlR X m ra L tw := q.2.2.fr F2 (by omega) (by omega) (fun c h1 h2 => hno c (by omega))
    have gE := ref_element (t := tagN nm) BX hk hlen hv tX.1 tX.2.2
    have cfr2 : RefT (wrA (pA (pA X (ra 7) k (nI (tagN nm))) (ra 9) k (nI nm.length)) (ra 8) (8 * k) nm) m ra (gwT T i (tagN nm) nm k) := by
      refine cfr (fun c j a b z => ?_) ?_ ?_ (fun r hr => wr_i _ _ _ _ _ hr) ?_
      · simp only [wr_rd, gA_pA, hB.i]
        by_cases e8 : c = 8
        · subst e8
          have : ¬ j / 8 = k := fun y => z ⟨by omega, y⟩
          simp only [Nat.reduceEqDiff, false_and, true_and, ↓reduceIte]
          rw [if_neg (by omega)]
        · by_cases e9 : c = 9
          · subst e9
            have : ¬ j = k := fun y => z ⟨by omega, y⟩
            simp only [Nat.reduceEqDiff, false_and, true_and, this, ↓reduceIte]
          · by_cases e7 : c = 7
            · subst e7
              have : ¬ j = k := fun y => z ⟨by omega, y⟩
              simp only [Nat.reduceEqDiff, false_and, true_and, this, ↓reduceIte]
            · simp only [e7, e8, e9, false_and, ↓reduceIte]
      · simp only [wr_rd, gA_pA, hB.i, Nat.reduceEqDiff, false_and, and_self, ↓reduceIte]
      · simp only [wr_rd, gA_pA, hB.i, Nat.reduceEqDiff, false_and, and_self, ↓reduceIte]
      · rw [wr_I]; exact c475
    have FE : Fr (fun f a => f = 475 ∧ a = m) (fun a => ∃ c, (6 ≤ c ∧ c ≤ 23) ∧ a = ra c) X (wrA (pA (pA X (ra 7) k (nI (tagN nm))) (ra 9) k (nI nm.length)) (ra 8) (8 * k) nm) := (Fr.pA (Fr.pA Fr.rf ⟨7, by omega, rfl⟩) ⟨9, by omega, rfl⟩).tr ((wr_fr _ _ _ _ _).mo (fun _ _ z => z) (fun a z => ⟨8, by omega, z⟩))
    generalize hY : wrA (pA (pA X (ra 7) k (nI (tagN nm))) (ra 9) k (nI nm.length)) (ra 8) (8 * k) nm = Y at *
    have BY : RB Y m ra := FE.RB BX
    have aY : AlR Y m ra L tw := aX.fr FE (by omega) (by omega) (fun c h1 h2 => hno c (by omega))
    have FZ : Fr (fun _ _ => False) (fun a => a = ra 24 ∨ a = ra 16) Y (pA (pA Y (ra 24) k (nI p0)) (ra 16) k (nI L.length)) := Fr.pA (Fr.pA Fr.rf (Or.inl rfl)) (Or.inr rfl)
    have hno2 : ∀ c, c ≠ 24 → c ≠ 16 → ¬ (ra c = ra 24 ∨ ra c = ra 16) := fun c h1 h2 z => by rw [hB.i, hB.i] at z; omega
    have z16 : gA (pA (pA Y (ra 24) k (nI p0)) (ra 16) k (nI L.length)) (ra 16) k = nI L.length := by rw [gA_pA, if_pos ⟨rfl, rfl⟩]
    have z24 : gA (pA (pA Y (ra 24) k (nI p0)) (ra 16) k (nI L.length)) (ra 24) k = nI p0 := by rw [gA_pA, if_neg (fun z => by have := z.1; rw [hB.i] at this; omega), gA_pA, if_pos ⟨rfl, rfl⟩]
    have z24o : ∀ j, j ≠ k → gA (pA (pA Y (ra 24) k (nI p0)) (ra 16) k (nI L.length)) (ra 24) j = gA Y (ra 24) j := fun j hj => by rw [gA_pA, if_neg (fun z => by have := z.1; rw [hB.i] at this; omega), gA_pA, if_neg (fun z => hj z.2)]
    have z16o : ∀ j, j ≠ k → gA (pA (pA Y (ra 24) k (nI p0)) (ra 16) k (nI L.length)) (ra 16) j = gA Y (ra 16) j := fun j hj => by rw [gA_pA, if_neg (fun z => hj z.2), gA_pA, if_neg (fun z => by have := z.1; rw [hB.i] at this; omega)]
    have gstep : ∀ K : AH → Option (Unit × AH), (cGR Y 9 474 (some m) fun x7 => cAS Y 0 x7 (nI k) (nI p0) fun h8 => cGR h8 9 466 (some m) fun x9 => cGI h8 9 486 (some m) fun x10 => cAS h8 0 x9 (nI k) x10 fun h11 => K h11) = K (pA (pA Y (ra 24) k (nI p0)) (ra 16) k (nI L.length)) := by
      intro K
      have BY1 : RB (pA Y (ra 24) k (nI p0)) m ra := BY
      have e486 : gI (pA Y (ra 24) k (nI p0)) 486 m = nI L.length := aY.1
      simp only [↓gr_of BY.o BY.r24, ↓as_of BY.k24 hk (by omega), vn0, ↓gr_of BY1.o BY1.r16, ↓gi_of BY1.o e486, ↓as_of BY1.k16 hk (by omega)]
    generalize hZ : pA (pA Y (ra 24) k (nI p0)) (ra 16) k (nI L.length) = Z at *
    have BZ : RB Z m ra := FZ.RB BY
    have aZ : AlR Z m ra L tw := aY.fr FZ (fun z => z) (fun z => z) (fun c h1 h2 => hno2 c (by omega) (by omega))
    obtain ⟨h3, g3, F3, O3, E3⟩ := ref_cpA (v2 := nI (tagN nm)) hk hL L.length FU 0 Z (by omega) (by have := FU_ge; have := hL.1; omega) BZ aZ (fun b hb => by omega)
    have B3 : RB h3 m ra := F3.RB BZ
    have hno3 : ∀ c, ¬ (17 ≤ c ∧ c ≤ 20) → ¬ ∃ j, (17 ≤ j ∧ j ≤ 20) ∧ ra c = ra j := fun c hc z => by obtain ⟨j, hj, e⟩ := z; rw [hB.i] at e; omega
    have hS2 := hS.grow (tag := tagN nm) (nm := nm) ui hku hk hd1 (by omega) hlen hv
    obtain ⟨a1, a2, a3, a4, a5, a6, a7⟩ := gw_used (tag := tagN nm) (nm := nm) w ui hku k
    rw [if_pos rfl] at a1
    have R3 : RefT h3 m ra (uAtt (gwT T i (tagN nm) nm k) k L) := by
      refine RefT.att (h := Y) cfr2 hS2 hk a1 (by rw [F3.1 _ _ (fun z => z), FZ.1 _ _ (fun z => z)]) (fun c j h1 h2 h3 => ?_) (fun c j h1 h2 ho => ?_) ⟨by rw [F3.2.2.2.1 _ _ (hno3 16 (by omega))]; exact z16, fun a ha => E3 a ha⟩
      · rw [F3.2.2.2.1 _ _ (hno3 c (by omega)), FZ.2.2.2.1 _ _ (hno2 c (by omega) (by omega))]
      · by_cases e16 : c = 16
        · subst e16
          rw [F3.2.2.2.1 _ _ (hno3 16 (by omega)), z16o j ho]
        · rw [O3 c j (by omega) h2 ho, FZ.2.2.2.1 _ _ (hno2 c (by omega) (by omega))]
    have FA : Fr (fun f a => f = 475 ∧ a = m) (fun a => ∃ c, (6 ≤ c ∧ c ≤ 24) ∧ a = ra c) h h3 := (F2.mo (fun f a z => z) (fun a z => by obtain ⟨c, hc, e⟩ := z; exact ⟨c, by omega, e⟩)).tr ((FE.mo (fun f a z => z) (fun a z => by obtain ⟨c, hc, e⟩ := z; exact ⟨c, by omega, e⟩)).tr ((FZ.mo (fun f a z => z.elim) (fun a z => z.elim (fun e => ⟨24, by omega, e⟩) (fun e => ⟨16, by omega, e⟩))).tr (F3.mo (fun f a z => z.elim) (fun a z => by obtain ⟨c, hc, e⟩ := z; exact ⟨c, by omega, e⟩))))
    have hno4 : ∀ c, ¬ (6 ≤ c ∧ c ≤ 24) → ¬ ∃ j, (6 ≤ j ∧ j ≤ 24) ∧ ra c = ra j := fun c hc z => by obtain ⟨j, hj, e⟩ := z; rw [hB.i] at e; omega
    have onk : ∀ j, j < os.length → oN1 os j ≠ k := fun j hj z => by
      have := (hOs.u hS j hj).2
      rw [z, hku] at this; cases this
    have O1 : gI h3 480 m = nI os.length ∧ ∀ j, j < os.length → gA h3 (ra 29) j = nI (oN1 os j) ∧ (0 < j → gA h3 (ra 24) (oN1 os j) = nI (oP1 os j)) := by
      refine ⟨by rw [FA.1 _ _ (by omega)]; exact q.1.2.2.2.2.1.1, fun j hj => ?_⟩
      obtain ⟨b1, b2⟩ := q.1.2.2.2.2.1.2 j hj
      refine ⟨by rw [FA.2.2.2.1 _ _ (hno4 29 (by omega))]; exact b1, fun h0 => ?_⟩
      rw [F3.2.2.2.1 _ _ (hno3 24 (by omega)), z24o _ (onk j hj), FE.2.2.2.1 _ _ (hno 24 (by omega)), F2.2.2.2.1 _ _ (hno 24 (by omega))]
      exact b2 h0
    have U3 : FauR h3 m ra fl := q.1.2.2.1.fr FA (by omega) (hno4 27 (by omega)) (hno4 28 (by omega))
    have S3 : SR h0 m ra N tx h3 (uAtt (gwT T i (tagN nm) nm k) k L) fl os := q.1.put (FA.mo (fun f a z => ⟨z.2, by omega, by omega, by omega⟩) (fun a z => by obtain ⟨c, hc, e⟩ := z; exact ⟨c, by omega, by omega, e⟩)) R3 U3 O1
    have hem := ref_isEm (h := h3) (t := tagN nm) (by omega)
    have e0 : fX9_startTag_387 (some m) (nI (tagN nm)) (nI k) h3 = if isEm (tagN nm) = true then some ((), h3) else some ((), pI (pA h3 (ra 29) os.length (nI k)) 480 m (nI (os.length + 1))) := by
      have B31 : RB (pA h3 (ra 29) os.length (nI k)) m ra := B3
      have e480 : gI (pA h3 (ra 29) os.length (nI k)) 480 m = nI os.length := O1.1
      simp only [fX9_startTag_387, fX9_startTag_414]
      simp (disch := omega) only [↓cl_of hem, bI0, ↓gr_of B3.o B3.r29, ↓gi_of B3.o O1.1, ↓as_of B3.k29 (show os.length < 22 by omega) (by omega), vn0, ↓gi_of B31.o e480, ↓pi_of B31.o, nI_add]
      cases isEm (tagN nm) with
      | true => simp only [Bool.true_eq_false, ↓reduceIte]
      | false => simp only [↓reduceIte, Bool.false_eq_true]
    simp (disch := omega) only [↓cv_of hB.o gF, eqM1, ↓reduceIte, ↓cv_of BX.o gE]
    rw [gstep (fX9_startTag_244 FU (some m) (nI (tagN nm)) (nI k) (nI 0)), g3, e0]
    cases isEm (tagN nm) with
    | true => exact ⟨h3, by simp only [↓reduceIte], by simp only [↓reduceIte]; exact S3⟩
    | false =>
      refine ⟨pI (pA h3 (ra 29) os.length (nI k)) 480 m (nI (os.length + 1)), by simp only [Bool.false_eq_true, ↓reduceIte], ?_⟩
      simp only [Bool.false_eq_true, ↓reduceIte]
      have FB : Fr (fun f a => f = 480 ∧ a = m) (fun a => a = ra 29) h3 (pI (pA h3 (ra 29) os.length (nI k)) 480 m (nI (os.length + 1))) := Fr.pI (Fr.pA Fr.rf rfl) ⟨rfl, rfl⟩
      have hno5 : ∀ c, c ≠ 29 → ¬ (ra c = ra 29) := fun c hc z => hc (by rw [hB.i] at z; exact z)
      refine S3.put (FB.mo (fun f a z => ⟨z.2, by omega, by omega, by omega⟩) (fun a z => ⟨29, by omega, by omega, z⟩)) (R3.fr FB (by omega) (fun c h6 h23 => hno5 c (by omega))) (U3.fr FB (by omega) (hno5 27 (by omega)) (hno5 28 (by omega))) ⟨by rw [gI_pI, if_pos ⟨rfl, rfl⟩, List.length_append]; rfl, fun j hj => ?_⟩
      rw [List.length_append, List.length_singleton] at hj
      have e1 : oN1 (os ++ [(k, p0)]) j = if j = os.length then k else oN1 os j := by unfold oN1; rw [getD_snoc]; split <;> rfl
      have e2 : oP1 (os ++ [(k, p0)]) j = if j = os.length then p0 else oP1 os j := by unfold oP1; rw [getD_snoc]; split <;> rfl
      rw [e1, e2, gA_pI, gA_pA, gA_pA]
      by_cases e : j = os.length
      · rw [if_pos ⟨rfl, e⟩, if_pos e, if_pos e, if_neg (fun z => hno5 24 (by omega) z.1)]
        exact ⟨rfl, fun _ => by rw [F3.2.2.2.1 _ _ (hno3 24 (by omega))]; exact z24⟩
      · rw [if_neg (fun z => e z.2), if_neg e, if_neg e, if_neg (fun z => hno5 24 (by omega) z.1)]
        exact O1.2 j (by omega)

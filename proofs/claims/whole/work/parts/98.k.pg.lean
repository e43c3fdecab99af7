/-! a page: step by step, as neither side is asked -/
abbrev PGS : Type := TS × FL × OS
def pgT (S : PGS) : Nat := tTag S.1 (oN1 S.2.2 (S.2.2.length - 1))
def rnE (tx : Nat → Nat) (N : Nat) (raw : Bool) (p : Nat) : Nat := rnd tx N raw (N - (p + 1)) (p + 1)
def pgRun (tx : Nat → Nat) (N : Nat) (raw : Bool) (S : PGS) (p : Nat) : PGS := ((rnS S.1 S.2.1 (oN1 S.2.2 (S.2.2.length - 1)) (decL tx (rnE tx N raw p) raw (rnE tx N raw p - p) p) (blk tx (rnE tx N raw p - p) p) p).1, (rnS S.1 S.2.1 (oN1 S.2.2 (S.2.2.length - 1)) (decL tx (rnE tx N raw p) raw (rnE tx N raw p - p) p) (blk tx (rnE tx N raw p - p) p) p).2, S.2.2)
def pgNote (tx : Nat → Nat) (N : Nat) (S : PGS) (p : Nat) : PGS := (S.1, ntF S.2.1 p (nte tx N (N - (p + 4)) (p + 4)), S.2.2)
def pgTag (tx : Nat → Nat) (N : Nat) (S : PGS) (p : Nat) : PGS := (tsT S.1 S.2.1 S.2.2 tx N p, tsF S.1 S.2.1 S.2.2 tx N p, tsO S.1 S.2.1 S.2.2 tx N p)
def pgD (tx : Nat → Nat) (N : Nat) (S : PGS) (p : Nat) : PGS × Nat := if pgT S = 15 ∧ isW tx N wST p = false then (pgRun tx N true S p, rnE tx N true p) else if isW tx N wNT p = true then (pgNote tx N S p, ntP N (nte tx N (N - (p + 4)) (p + 4))) else if isTg tx N p = true then (pgTag tx N S p, tsP tx N p) else (pgRun tx N false S p, rnE tx N false p)
def pgL (tx : Nat → Nat) (N : Nat) : Nat → Nat → PGS → PGS
  | 0, _, S => S
  | j + 1, p, S => if p < N then pgL tx N j (pgD tx N S p).2 (pgD tx N S p).1 else S
/-- what holds between two steps -/
def PgOk (S : PGS) (p : Nat) : Prop := (∃ kd, Wf S.1 kd) ∧ SizT S.1 ∧ OsOk S.1 S.2.2 ∧ oP1 S.2.2 0 = 0 ∧ S.2.1.length ≤ 71 * p
theorem isW_nt {tx : Nat → Nat} {N p : Nat} (h : isW tx N wNT p = true) : p + 4 ≤ N := by
  rcases isW_len _ _ h with z | z
  · cases z
  · exact z
theorem tgA_le {tx : Nat → Nat} {N p : Nat} (e : Bool) (h : isTg tx N p = true) : p < (tgA e tx N p).1 ∧ (tgA e tx N p).1 ≤ N ∧ (tgA e tx N p).2.2.length ≤ (tgA e tx N p).1 - p := by
  obtain ⟨hp, hq⟩ := isTg_lt h
  have h1 := tnm_le (tx := tx) (fun k => Or.inr trivial) (N - tgQ tx N p) (tgQ tx N p) []
  have hq1 : p < tgQ tx N p := by unfold tgQ; split <;> omega
  have h2 := atL_le (e := e) (tx := tx) (N := N) (N - (tgN tx N p).2) (tgN tx N p).2 [] [] (by unfold tgN; omega)
  have eA : atL e tx N (N - (tgN tx N p).2) (tgN tx N p).2 [] [] = tgA e tx N p := rfl
  have eN : tnm tx (N - tgQ tx N p) (tgQ tx N p) [] = tgN tx N p := rfl
  rw [eA] at h2
  rw [eN] at h1
  have h3 := h2.2.2
  rw [List.length_nil] at h3
  exact ⟨by omega, h2.2.1, by omega⟩
theorem tsP_le {tx : Nat → Nat} {N p : Nat} (h : isTg tx N p = true) : p < tsP tx N p ∧ tsP tx N p ≤ N := by
  have := tgA_le (tgE tx N p) h
  have hp := (isTg_lt h).1
  unfold tsP
  split <;> omega
theorem rnE_le {tx : Nat → Nat} {N p : Nat} {raw : Bool} (h : p < N) : p < rnE tx N raw p ∧ rnE tx N raw p ≤ N := by
  have := rnd_spec (tx := tx) (N := N) (raw := raw) (N - (p + 1)) (p + 1)
  unfold rnE
  omega
theorem pgD_le {tx : Nat → Nat} {N p : Nat} {S : PGS} (h : p < N) : p < (pgD tx N S p).2 ∧ (pgD tx N S p).2 ≤ N := by
  unfold pgD
  split
  · exact rnE_le h
  · split
    · rename_i z
      have h4 := isW_nt z
      have := ntP_le (tx := tx) (N := N) (j := N - (p + 4)) (q := p + 4) (by omega)
      show p < ntP N _ ∧ ntP N _ ≤ N
      omega
    · split
      · rename_i z; exact tsP_le z
      · exact rnE_le h
theorem enO_ok {T : TS} {os : OS} {nm : List Nat} (o : OsOk T os) : OsOk T (enO T os nm) ∧ (oP1 os 0 = 0 → oP1 (enO T os nm) 0 = 0) := by
  have hml := inM_le T os nm (os.length - 1)
  have hwle : enW2 T os nm ≤ os.length - 1 := by unfold enW2; split <;> omega
  unfold enO
  split
  · exact ⟨o, fun z => z⟩
  · have h1 := o.1
    exact ⟨o.take (by omega) (by omega), fun z => by rw [(oN1_take (show 0 < enW2 T os nm by omega) (by omega)).2]; exact z⟩
theorem enF_len {T : TS} {fl : FL} {os : OS} {nm : List Nat} {p : Nat} (o : OsOk T os) : (enF T fl os nm p).length ≤ fl.length + 21 := by
  unfold enF
  have := o.2.1
  split
  · simp
  · rw [List.length_append]
    have := clL_len T os (os.length - (enW2 T os nm + 1)) (os.length - 1)
    omega
theorem cb_p0 {T : TS} {t p : Nat} {fl : FL} {os : OS} (o : OsOk T os) (h : oP1 os 0 = 0) : oP1 (cbS T t fl os p).2 0 = 0 := by
  have tk : ∀ (os : OS) (k : Nat), k ≠ 0 → k ≤ os.length → oP1 os 0 = 0 → oP1 (os.take k) 0 = 0 := fun os k hk hl z => by rw [(oN1_take (show 0 < k by omega) hl).2]; exact z
  have a1 : oP1 (cb1 T t (fl, os)).2 0 = 0 := by
    unfold cb1
    split
    · rename_i z
      have := inO_le T os 1 (os.length - 1)
      exact tk _ _ z.2 (by show inO T os 1 (os.length - 1) ≤ os.length; omega) h
    · exact h
  have b1 := cb1_ok (t := t) (S := (fl, os)) o
  have a2 : oP1 (cb2 T t (cb1 T t (fl, os))).2 0 = 0 := by
    unfold cb2
    split
    · rename_i z
      have := inO_le T (cb1 T t (fl, os)).2 4 ((cb1 T t (fl, os)).2.length - 1)
      exact tk _ _ (by have := z.2; omega) (by omega) a1
    · exact a1
  have b2 := cb2_ok (t := t) b1.1
  unfold cbS cb3
  split
  · rename_i z
    have := inO_le T (cb2 T t (cb1 T t (fl, os))).2 7 ((cb2 T t (cb1 T t (fl, os))).2.length - 1)
    exact tk _ _ z.2 (by omega) a2
  · exact a2
theorem sg_ok {T : TS} {kd : Nat → List Nat} {fl : FL} {os : OS} {nm : List Nat} {L : AttL} {p : Nat} (w : Wf T kd) (hS : SizT T) (o : OsOk T os) (hv : vch nm) (hl : nm.length ≤ 8) (hL : AtS L) (hp : p < 2000) (h0 : oP1 os 0 = 0) : (∃ kd', Wf (sgT T os nm L) kd') ∧ SizT (sgT T os nm L) ∧ OsOk (sgT T os nm L) (sgO T os nm p) ∧ oP1 (sgO T os nm p) 0 = 0 ∧ (sgF T fl os p).length ≤ fl.length + 1 := by
  have h1 := o.1
  have h21 := o.2.1
  have htl := tagN_le nm
  obtain ⟨ui, t17i, di, -⟩ := o.2.2.2 (os.length - 1) (by omega)
  unfold sgT sgO sgF
  generalize oN1 os (os.length - 1) = i at *
  cases hg : grw T i with
  | none => exact ⟨⟨kd, w⟩, hS, o, h0, by simp⟩
  | some k =>
    obtain ⟨hd1, hk, hku⟩ := grw_some hg
    have w1 := w.grow (tag := tagN nm) (nm := nm) ui t17i hku hk (Or.inr ⟨by omega, rfl⟩)
    have s1 := hS.grow (tag := tagN nm) (nm := nm) ui hku hk hd1 (by omega) hl hv
    have o1 := o.grow (tag := tagN nm) (nm := nm) w ui hku
    obtain ⟨a1, a2, a3, a4, a5, a6, a7⟩ := gw_used (tag := tagN nm) (nm := nm) w ui hku k
    rw [if_pos rfl] at a1 a2 a3
    have o2 : OsOk (uAtt (gwT T i (tagN nm) nm k) k L) os := o1
    refine ⟨⟨_, w1.att⟩, s1.att hL, ?_, ?_, by simp⟩
    · simp only
      split
      · exact o2
      · have e1 : ∀ j, oN1 (os ++ [(k, p)]) j = if j = os.length then k else oN1 os j := fun j => by unfold oN1; rw [getD_snoc]; split <;> rfl
        have e2 : ∀ j, oP1 (os ++ [(k, p)]) j = if j = os.length then p else oP1 os j := fun j => by unfold oP1; rw [getD_snoc]; split <;> rfl
        refine ⟨by simp, by rw [List.length_append, List.length_singleton]; omega, by rw [e1, if_neg (by omega)]; exact o.2.2.1, fun j hj => ?_⟩
        rw [List.length_append, List.length_singleton] at hj
        rw [e1, e2]
        by_cases e : j = os.length
        · rw [if_pos e, if_pos e]
          refine ⟨a1, ?_, ?_, hp⟩
          · show tTag (gwT T i (tagN nm) nm k) k ≠ 17
            rw [a2]; omega
          · show tDep (gwT T i (tagN nm) nm k) k = j
            rw [a3, di]; omega
        · rw [if_neg e, if_neg e]
          exact o2.2.2.2 j (by omega)
    · simp only
      split
      · exact h0
      · unfold oP1
        rw [getD_snoc, if_neg (by omega)]
        exact h0
theorem pgTag_ok {tx : Nat → Nat} {N p : Nat} {S : PGS} (hN : N ≤ 1500) (hok : ∀ k, k < N → okb (tx k) = true) (h : isTg tx N p = true) (q : PgOk S p) : PgOk (pgTag tx N S p) (tsP tx N p) := by
  obtain ⟨⟨kd, w⟩, hS, o, h0, hl⟩ := q
  have hq := (isTg_lt h).2
  have hA := tgA_le (tgE tx N p) h
  have hF := tgA_le false h
  have epos : (tgA (tgE tx N p) tx N p).1 = (tgA false tx N p).1 := atL_pos _ _ _ _ _ _
  have hnm1 := tnm_ok (tx := tx) (N - tgQ tx N p) (tgQ tx N p) [] (fun k a b => hok k (by omega)) (fun c hc => by cases hc) (by simp)
  have hLok : AtS (tgA false tx N p).2.1 := atL_ok hok _ _ _ _ ⟨by simp, fun x hx => by cases hx⟩
  have hp := (isTg_lt h).1
  unfold pgTag tsT tsF tsO tsP PgOk
  simp only
  rw [epos]
  by_cases hlt : (tgA false tx N p).1 < N
  · simp only [hlt, ↓reduceIte]
    cases he : tgE tx N p with
    | true =>
      simp only [↓reduceIte]
      have a := enO_ok (nm := (tgN tx N p).1) o
      have b := enF_len (fl := S.2.1) (nm := (tgN tx N p).1) (p := p) o
      exact ⟨⟨kd, w⟩, hS, a.1, a.2 h0, by omega⟩
    | false =>
      simp only [Bool.false_eq_true, ↓reduceIte]
      have c := cbS_ok (t := tagN (tgN tx N p).1) (p := p) (fl := S.2.1 ++ g2L (tgA false tx N p).2.2) o
      have c0 := cb_p0 (t := tagN (tgN tx N p).1) (p := p) (fl := S.2.1 ++ g2L (tgA false tx N p).2.2) o h0
      obtain ⟨d1, d2, d3, d4, d5⟩ := sg_ok (fl := (cbS S.1 (tagN (tgN tx N p).1) (S.2.1 ++ g2L (tgA false tx N p).2.2) S.2.2 p).1) (p := p) w hS c.1 hnm1.1 hnm1.2 hLok (by omega) c0
      refine ⟨d1, d2, d3, d4, ?_⟩
      have e1 : (S.2.1 ++ g2L (tgA false tx N p).2.2).length = S.2.1.length + (tgA false tx N p).2.2.length := by rw [List.length_append]; unfold g2L; rw [List.length_map]
      rw [e1] at c
      have := c.2
      have := hF.2.2
      exact Nat.le_trans d5 (by omega)
  · simp only [hlt, ↓reduceIte]
    exact ⟨⟨kd, w⟩, hS, o, h0, by rw [List.length_append, List.length_singleton]; omega⟩
theorem pgRun_ok {tx : Nat → Nat} {N p : Nat} {S : PGS} {raw : Bool} (hok : ∀ k, k < N → okb (tx k) = true) (h : p < N) (q : PgOk S p) : PgOk (pgRun tx N raw S p) (rnE tx N raw p) := by
  obtain ⟨⟨kd, w⟩, hS, o, h0, hl⟩ := q
  have hr := rnE_le (tx := tx) (raw := raw) h
  obtain ⟨a, b, c, d⟩ := rnS_ok (fl := S.2.1) (L := decL tx (rnE tx N raw p) raw (rnE tx N raw p - p) p) (bl := blk tx (rnE tx N raw p - p) p) (p := p) w hS o (dec_ok (fun k hk => hok k (by omega)) _ _)
  exact ⟨a, b, c, h0, Nat.le_trans d (by omega)⟩
theorem pgNote_ok {tx : Nat → Nat} {N p : Nat} {S : PGS} (h : p + 4 ≤ N) (q : PgOk S p) : PgOk (pgNote tx N S p) (ntP N (nte tx N (N - (p + 4)) (p + 4))) := by
  obtain ⟨⟨kd, w⟩, hS, o, h0, hl⟩ := q
  have := ntP_le (tx := tx) (N := N) (j := N - (p + 4)) (q := p + 4) (by omega)
  refine ⟨⟨kd, w⟩, hS, o, h0, ?_⟩
  show (ntF S.2.1 p _).length ≤ _
  unfold ntF
  split
  · rw [List.length_append, List.length_singleton]; omega
  · omega
theorem pgD_ok {tx : Nat → Nat} {N p : Nat} {S : PGS} (hN : N ≤ 1500) (hok : ∀ k, k < N → okb (tx k) = true) (h : p < N) (q : PgOk S p) : PgOk (pgD tx N S p).1 (pgD tx N S p).2 := by
  unfold pgD
  split
  · exact pgRun_ok hok h q
  · split
    · rename_i z; exact pgNote_ok (isW_nt z) q
    · split
      · rename_i z; exact pgTag_ok hN hok z q
      · exact pgRun_ok hok h q
theorem pgL_end {tx : Nat → Nat} {N p : Nat} {S : PGS} (h : N ≤ p) : ∀ j, pgL tx N j p S = S := by
  intro j
  cases j with
  | zero => rfl
  | succ j => unfold pgL; rw [if_neg (by omega)]
theorem pgL_ok {tx : Nat → Nat} {N : Nat} (hN : N ≤ 1500) (hok : ∀ k, k < N → okb (tx k) = true) : ∀ (j p : Nat) (S : PGS), N ≤ p + j → p ≤ N → PgOk S p → PgOk (pgL tx N j p S) N := by
  intro j
  induction j with
  | zero =>
    intro p S h1 h2 q
    have e : p = N := by omega
    subst e
    exact q
  | succ j ih =>
    intro p S h1 h2 q
    unfold pgL
    by_cases h : p < N
    · rw [if_pos h]
      have := pgD_le (tx := tx) (S := S) h
      exact ih _ _ (by omega) this.2 (pgD_ok hN hok h q)
    · rw [if_neg h]
      have e : p = N := by omega
      subst e
      exact q
/-- the reference, between its TREE's begin and its last closing -/
theorem ref_pgL {h0 : AH} {m N : Nat} {ra : Nat → Nat} {tx : Nat → Nat} (hN : N ≤ 1500) (hok : ∀ q, q < N → okb (tx q) = true) : ∀ (j f p : Nat) (h : AH) (S : PGS), N ≤ p + j → p ≤ N → j < f → PgOk S p → SR h0 m ra N tx h S.1 S.2.1 S.2.2 → ∃ h', fX9_readPage_23 f (some m) (nI p) h = fX9_readPage_114 (some m) h' ∧ SR h0 m ra N tx h' (pgL tx N j p S).1 (pgL tx N j p S).2.1 (pgL tx N j p S).2.2 := by
  have full : ∀ (f : Nat) (h : AH) (S : PGS), SR h0 m ra N tx h S.1 S.2.1 S.2.2 → fX9_readPage_23 (f + 1) (some m) (nI N) h = fX9_readPage_114 (some m) h := by
    intro f h S s
    rw [fX9_readPage_23]
    simp (disch := omega) only [↓gi_of s.1.o s.2.2.2.1.1, leN, Nat.le_refl, ↓reduceIte]
  intro j
  induction j with
  | zero =>
    intro f p h S h1 h2 hf q s
    obtain ⟨f, rfl⟩ : ∃ g, f = g + 1 := ⟨f - 1, by omega⟩
    have e : p = N := by omega
    subst e
    exact ⟨h, full f h S s, s⟩
  | succ j ih =>
    intro f p hh S h1 h2 hf q s
    obtain ⟨f, rfl⟩ : ∃ g, f = g + 1 := ⟨f - 1, by omega⟩
    rw [show pgL tx N (j + 1) p S = if p < N then pgL tx N j (pgD tx N S p).2 (pgD tx N S p).1 else S from rfl]
    by_cases h : p < N
    · rw [if_pos h]
      have hle := pgD_le (tx := tx) (S := S) h
      have hok2 := pgD_ok hN hok h q
      have hB := s.1
      obtain ⟨⟨kd, w⟩, hS, o, h00, hl⟩ := id q
      have h1l := o.1
      have h21 := o.2.1
      obtain ⟨ui, t17i, -⟩ := o.2.2.2 (S.2.2.length - 1) (by omega)
      have il := hS.lt ui
      have s1 := (hS.2 _ ui).1
      obtain ⟨w1, -⟩ := (s.2.1.2 _ il).2 ui
      obtain ⟨o1, -⟩ := s.2.2.2.2.1.2 (S.2.2.length - 1) (by omega)
      have eSt := ref_endsStyle hB s.2.2.2.1 (show p < 99990 by omega)
      have eNt := ref_isNote hB s.2.2.2.1 (show p < 100000 by omega)
      have eTg := ref_isTag hB s.2.2.2.1 (show p < 100000 by omega)
      -- every step goes on
      have go : ∀ (h3 : AH), SR h0 m ra N tx h3 (pgD tx N S p).1.1 (pgD tx N S p).1.2.1 (pgD tx N S p).1.2.2 → ∃ h', fX9_readPage_23 f (some m) (nI (pgD tx N S p).2) h3 = fX9_readPage_114 (some m) h' ∧ SR h0 m ra N tx h' (pgL tx N j (pgD tx N S p).2 (pgD tx N S p).1).1 (pgL tx N j (pgD tx N S p).2 (pgD tx N S p).1).2.1 (pgL tx N j (pgD tx N S p).2 (pgD tx N S p).1).2.2 := fun h3 s3 => ih f _ h3 _ (by omega) hle.2 (by omega) hok2 s3
      have run : ∀ raw, ∃ h3, fX9_run (some m) (nI p) (bI raw) hh = some (nI (rnE tx N raw p), h3) ∧ SR h0 m ra N tx h3 (pgRun tx N raw S p).1 (pgRun tx N raw S p).2.1 (pgRun tx N raw S p).2.2 := fun raw => ref_run (raw := raw) h hok w hS o (by omega) s
      have e70 : ¬ (pgT S = 15 ∧ isW tx N wST p = false) → ∃ h', fX9_readPage_70 (fX9_readPage_23 f) (some m) (nI p) hh = fX9_readPage_114 (some m) h' ∧ SR h0 m ra N tx h' (pgL tx N j (pgD tx N S p).2 (pgD tx N S p).1).1 (pgL tx N j (pgD tx N S p).2 (pgD tx N S p).1).2.1 (pgL tx N j (pgD tx N S p).2 (pgD tx N S p).1).2.2 := by
        intro hn
        simp only [fX9_readPage_70]
        simp only [↓cv_of hB.o eNt, bI0]
        cases hnt : isW tx N wNT p with
        | true =>
          have e : pgD tx N S p = (pgNote tx N S p, ntP N (nte tx N (N - (p + 4)) (p + 4))) := by unfold pgD; rw [if_neg hn, if_pos hnt]
          obtain ⟨h3, g3, S3⟩ := ref_note (fl := S.2.1) (by omega) (isW_nt hnt) s
          rw [e] at go ⊢
          obtain ⟨h4, g4, S4⟩ := go h3 S3
          refine ⟨h4, ?_, S4⟩
          simp only [Bool.true_eq_false, ↓reduceIte, ↓cv_of hB.o g3]
          exact g4
        | false =>
          simp only [↓reduceIte, ↓cv_of hB.o eTg, bI0]
          cases htg : isTg tx N p with
          | true =>
            have e : pgD tx N S p = (pgTag tx N S p, tsP tx N p) := by unfold pgD; rw [if_neg hn, if_neg (by rw [hnt]; simp), if_pos htg]
            obtain ⟨h3, g3, S3⟩ := ref_readTag (fl := S.2.1) hok w hS o (by omega) htg s
            rw [e] at go ⊢
            obtain ⟨h4, g4, S4⟩ := go h3 S3
            refine ⟨h4, ?_, S4⟩
            simp only [Bool.true_eq_false, ↓reduceIte, ↓cv_of hB.o g3]
            exact g4
          | false =>
            have e : pgD tx N S p = (pgRun tx N false S p, rnE tx N false p) := by unfold pgD; rw [if_neg hn, if_neg (by rw [hnt]; simp), if_neg (by rw [htg]; simp)]
            obtain ⟨h3, g3, S3⟩ := run false
            rw [show bI false = nI 0 from rfl] at g3
            rw [e] at go ⊢
            obtain ⟨h4, g4, S4⟩ := go h3 S3
            refine ⟨h4, ?_, S4⟩
            simp only [↓reduceIte, ↓cv_of hB.o g3]
            exact g4
      rw [fX9_readPage_23]
      simp (disch := omega) only [↓gi_of hB.o s.2.2.2.1.1, leN, show ¬ N ≤ p by omega, ↓reduceIte, ↓gr_of hB.o hB.r7, ↓gr_of hB.o hB.r29, ↓gi_of hB.o s.2.2.2.2.1.1, nI_sub h1l, ↓al_of hB.k29 (show S.2.2.length - 1 < 22 by omega) (by omega) o1, ↓al_of hB.k7 il (by omega) w1, eqN]
      by_cases h15 : pgT S = 15
      · have h15' : tTag S.1 (oN1 S.2.2 (S.2.2.length - 1)) = 15 := h15
        rw [if_pos h15']
        simp only [↓cv_of hB.o eSt, bI0]
        cases hst : isW tx N wST p with
        | true =>
          obtain ⟨h4, g4, S4⟩ := e70 (fun z => by rw [hst] at z; cases z.2)
          refine ⟨h4, ?_, S4⟩
          simp only [Bool.true_eq_false, ↓reduceIte]
          exact g4
        | false =>
          have e : pgD tx N S p = (pgRun tx N true S p, rnE tx N true p) := by unfold pgD; rw [if_pos ⟨h15, hst⟩]
          obtain ⟨h3, g3, S3⟩ := run true
          rw [show bI true = nI 1 from rfl] at g3
          rw [e] at go ⊢
          obtain ⟨h4, g4, S4⟩ := go h3 S3
          refine ⟨h4, ?_, S4⟩
          simp only [↓reduceIte, ↓cv_of hB.o g3]
          exact g4
      · have h15' : ¬ tTag S.1 (oN1 S.2.2 (S.2.2.length - 1)) = 15 := h15
        rw [if_neg h15']
        exact e70 (fun z => h15 z.1)
    · rw [if_neg h]
      have e : p = N := by omega
      subst e
      exact ⟨_, full f _ S s, s⟩

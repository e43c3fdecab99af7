/-! a page: the class -/
theorem rEnd_60 {tx : Nat → Nat} {N k : Nat} {raw : Bool} (h : rEnd tx N raw k = true) : k < N ∧ tx k = 60 := by
  have hh : hbA tx N k 60 = true → k < N ∧ tx k = 60 := fun z => by
    have h1 := hbA_lt z
    rw [hbA_in h1] at z
    exact ⟨h1, by simpa using z⟩
  unfold rEnd at h
  split at h
  · exact hh (isW_hd h)
  · rw [Bool.or_eq_true] at h
    rcases h with z | z
    · unfold isTg at z
      rw [Bool.and_eq_true] at z
      exact hh z.1
    · exact hh (isW_hd z)
theorem st_tg {tx : Nat → Nat} {N p : Nat} (h : isW tx N wST p = true) : isTg tx N p = true ∧ isW tx N wNT p = false := by
  unfold wST at h
  simp only [isW_cons, isW_nil, Bool.and_eq_true] at h
  obtain ⟨h0, h1, h2, -⟩ := h
  have l1 := hbA_lt h1
  have l2 := hbA_lt h2
  have e1 : tx (p + 1) = 47 := by rw [hbA_in l1] at h1; simpa using h1
  have e2 : tx (p + 2) = 115 := by rw [hbA_in l2] at h2; simpa using h2
  refine ⟨?_, ?_⟩
  · unfold isTg ltA
    rw [h0, h1]
    simp only [↓reduceIte, Bool.true_and, show p + 2 < N from l2, decide_true, e2]
    decide
  · unfold wNT
    simp only [isW_cons, hbA_in l1, e1]
    simp
theorem rnS_tag {T : TS} {kd : Nat → List Nat} {fl : FL} {i p : Nat} {L : List (Nat × Nat)} {bl : Bool} (w : Wf T kd) (ui : tIs T i = true) : tTag (rnS T fl i L bl p).1 i = tTag T i := by
  unfold rnS
  cases rnN T i with
  | some l => rfl
  | none =>
    simp only
    split
    · rfl
    · cases hg : grw T i with
      | none => rfl
      | some k =>
        obtain ⟨hd1, hk, hku⟩ := grw_some hg
        have hne : i ≠ k := fun z => by rw [z, hku] at ui; cases ui
        have := (gw_used (tag := 17) (nm := []) w ui hku i).2.1
        rw [if_neg hne] at this
        exact this
theorem pgT_run {tx : Nat → Nat} {N p : Nat} {S : PGS} {raw : Bool} (q : PgOk S p) : pgT (pgRun tx N raw S p) = pgT S := by
  obtain ⟨⟨kd, w⟩, hS, o, -, -⟩ := q
  have h1 := o.1
  exact rnS_tag w (o.2.2.2 (S.2.2.length - 1) (by omega)).1
theorem cls_pgL {h0 : AH} {ad0 : Nat → Nat → Nat → Nat} {bs s0 n : Nat} {sg : Nat → Nat} {tp : Nat → Int32} {ol : List Int32} (hn : n ≤ 1500) (hok : ∀ q, q < n → okb (tbv (tp q)) = true) : ∀ (j f p st : Nat) (h : AH) (ad : Nat → Nat → Nat → Nat) (L : AttL) (S : PGS), n ≤ p + j → p ≤ n → j < f → st ≤ p → PgOk S p → St h0 ad0 bs s0 sg n tp (ol, L) h ad S.1 S.2.1 S.2.2 p →
    ∃ h' ad' L', fX5_readAll_40 f (some (sg 10)) (nI st) h = fX5_readAll_169 (some (sg 10)) h' ∧ St h0 ad0 bs s0 sg n tp (ol, L') h' ad' (pgL (fun k => tbv (tp k)) n j p S).1 (pgL (fun k => tbv (tp k)) n j p S).2.1 (pgL (fun k => tbv (tp k)) n j p S).2.2 n := by
  have full : ∀ (f st : Nat) (h : AH) (ad : Nat → Nat → Nat → Nat) (L : AttL) (S : PGS), st < 100000 → St h0 ad0 bs s0 sg n tp (ol, L) h ad S.1 S.2.1 S.2.2 n → fX5_readAll_40 (f + 1) (some (sg 10)) (nI st) h = fX5_readAll_169 (some (sg 10)) h := by
    intro f st h ad L S hst s
    obtain ⟨r0, r1, -⟩ := id s.rd
    rw [fX5_readAll_40]
    simp (disch := omega) only [↓gr_of r0 r1, ↓gi_of s.tp.1 s.tp.2.2.2.1, ↓gi_of r0 s.2.2.2.1, ltN, leN, Nat.le_refl, ↓reduceIte, ite_self]
  intro j
  induction j using Nat.strongRecOn with
  | _ j ih =>
    intro f p st hh ad L S h1 h2 hf hst q s
    obtain ⟨f, rfl⟩ : ∃ g, f = g + 1 := ⟨f - 1, by omega⟩
    by_cases h : p < n
    · obtain ⟨⟨kd, w⟩, hS, o, h00, hl⟩ := id q
      have h1l := o.1
      have h21 := o.2.1
      obtain ⟨r0, r1, -⟩ := id s.rd
      obtain ⟨ui, t17i, -⟩ := o.2.2.2 (S.2.2.length - 1) (by omega)
      have s1 := (hS.2 _ ui).1
      have htg := cls_tagAt s hS o (show S.2.2.length - 1 < S.2.2.length by omega)
      -- behind the run
      have at122 : ∀ (k p2 : Nat) (h3 : AH) (ad3 : Nat → Nat → Nat → Nat) (L3 : AttL) (S2 : PGS), k ≤ j → p ≤ p2 → p2 ≤ n → n ≤ p2 + k → (p2 < n → ¬ (pgT S2 = 15 ∧ isW (fun k => tbv (tp k)) n wST p2 = false) ∧ (isW (fun k => tbv (tp k)) n wNT p2 = true ∨ isTg (fun k => tbv (tp k)) n p2 = true)) → PgOk S2 p2 → St h0 ad0 bs s0 sg n tp (ol, L3) h3 ad3 S2.1 S2.2.1 S2.2.2 p2 → ∃ h' ad' L', fX5_readAll_122 (fX5_readAll_40 f) (some (sg 10)) (nI st) h3 = fX5_readAll_169 (some (sg 10)) h' ∧ St h0 ad0 bs s0 sg n tp (ol, L') h' ad' (pgL (fun k => tbv (tp k)) n k p2 S2).1 (pgL (fun k => tbv (tp k)) n k p2 S2).2.1 (pgL (fun k => tbv (tp k)) n k p2 S2).2.2 n := by
        intro k p2 h3 ad3 L3 S2 hkj hpp hpn hnk hc q2 s2
        obtain ⟨x0, x1, -⟩ := id s2.rd
        have e5 := cls_holds s2.tp (by omega) w5 (by decide) (show p2 < 100000 by omega)
        simp only [fX5_readAll_122, fX5_readAll_163]
        simp (disch := omega) only [↓gr_of x0 x1, ↓gi_of x0 s2.2.2.2.1, ↓cv_of s2.tp.1 e5, bI0, ↓gi_of s2.tp.1 s2.tp.2.2.2.1, leN, nI_add]
        by_cases hlt : p2 < n
        · obtain ⟨k, rfl⟩ : ∃ g, k = g + 1 := ⟨k - 1, by omega⟩
          obtain ⟨hc1, hc2⟩ := hc hlt
          have hle := pgD_le (tx := fun k => tbv (tp k)) (S := S2) hlt
          have hok2 := pgD_ok hn hok hlt q2
          obtain ⟨⟨kd2, w2⟩, hS2, o2, -, hl2⟩ := id q2
          rw [show pgL (fun k => tbv (tp k)) n (k + 1) p2 S2 = if p2 < n then pgL (fun k => tbv (tp k)) n k (pgD (fun k => tbv (tp k)) n S2 p2).2 (pgD (fun k => tbv (tp k)) n S2 p2).1 else S2 from rfl, if_pos hlt]
          cases hnt : isW (fun k => tbv (tp k)) n wNT p2 with
          | true =>
            have e : pgD (fun k => tbv (tp k)) n S2 p2 = (pgNote (fun k => tbv (tp k)) n S2 p2, ntP n (nte (fun k => tbv (tp k)) n (n - (p2 + 4)) (p2 + 4))) := by unfold pgD; rw [if_neg hc1, if_pos hnt]
            obtain ⟨h4, g4, S4⟩ := cls_note (by omega) (by omega) (isW_nt hnt) s2
            rw [e] at hle hok2 ⊢
            simp only at hle hok2
            obtain ⟨h5, ad5, L5, g5, S5⟩ := ih k (by omega) f _ (st + 1) h4 ad3 L3 (pgNote (fun k => tbv (tp k)) n S2 p2) (by omega) hle.2 (by omega) (by omega) hok2 S4
            refine ⟨h5, ad5, L5, ?_, S5⟩
            simp only [Bool.true_eq_false, ↓reduceIte, ↓cv_of x0 g4]
            exact g5
          | false =>
            have htg2 : isTg (fun k => tbv (tp k)) n p2 = true := by
              rcases hc2 with z | z
              · rw [hnt] at z; cases z
              · exact z
            have e : pgD (fun k => tbv (tp k)) n S2 p2 = (pgTag (fun k => tbv (tp k)) n S2 p2, tsP (fun k => tbv (tp k)) n p2) := by unfold pgD; rw [if_neg hc1, if_neg (by rw [hnt]; simp), if_pos htg2]
            obtain ⟨h4, ad4, L4, g4, S4⟩ := cls_readTag hn hok w2 hS2 o2 (by omega) htg2 s2
            rw [e] at hle hok2 ⊢
            simp only at hle hok2
            obtain ⟨h5, ad5, L5, g5, S5⟩ := ih k (by omega) f _ (st + 1) h4 ad4 L4 (pgTag (fun k => tbv (tp k)) n S2 p2) (by omega) hle.2 (by omega) (by omega) hok2 S4
            refine ⟨h5, ad5, L5, ?_, S5⟩
            simp only [↓reduceIte, show ¬ n ≤ p2 by omega, ↓cv_of x0 g4]
            exact g5
        · have e : p2 = n := by omega
          subst e
          obtain ⟨f, rfl⟩ : ∃ g, f = g + 1 := ⟨f - 1, by omega⟩
          rw [pgL_end (Nat.le_refl _)]
          have hnt : isW (fun k => tbv (tp k)) p2 wNT p2 = false := by
            cases hz : isW (fun k => tbv (tp k)) p2 wNT p2 with
            | false => rfl
            | true => have := isW_nt hz; omega
          refine ⟨h3, ad3, L3, ?_, s2⟩
          rw [hnt]
          simp only [↓reduceIte, Nat.le_refl]
          exact full f (st + 1) h3 ad3 L3 S2 (by omega) s2
      -- the run
      have at90 : ∀ raw : Bool, raw = decide (pgT S = 15) → ∃ h' ad' L', fX5_readAll_90 (fX5_readAll_40 f) (some (sg 10)) (nI st) (nI p) (bI raw) hh = fX5_readAll_169 (some (sg 10)) h' ∧ St h0 ad0 bs s0 sg n tp (ol, L') h' ad' (pgL (fun k => tbv (tp k)) n j p S).1 (pgL (fun k => tbv (tp k)) n j p S).2.1 (pgL (fun k => tbv (tp k)) n j p S).2.2 n := by
        intro raw hraw
        obtain ⟨h3, g3, S3⟩ := cls_skip_L raw (show n ≤ 2000 by omega) (n - p) FU p hh (by omega) (by have := FU_ge; omega) s
        have g3' : fX5_skipRun (some (sg 10)) (bI raw) hh = some ((), h3) := g3
        obtain ⟨x0, x1, -⟩ := id S3.rd
        simp only [fX5_readAll_90]
        simp only [↓cv_of r0 g3']
        have hsp := rnd_spec (tx := fun k => tbv (tp k)) (N := n) (raw := raw) (n - p) p
        simp (disch := omega) only [↓gi_of x0 S3.2.2.2.1, leN, bI0]
        -- what a run's end allows
        have endc : ∀ (p2 : Nat) (S2 : PGS), pgT S2 = pgT S → rEnd (fun k => tbv (tp k)) n raw p2 = true → ¬ (pgT S2 = 15 ∧ isW (fun k => tbv (tp k)) n wST p2 = false) ∧ (isW (fun k => tbv (tp k)) n wNT p2 = true ∨ isTg (fun k => tbv (tp k)) n p2 = true) := by
          intro p2 S2 hT he
          unfold rEnd at he
          by_cases h15 : pgT S = 15
          · rw [hraw, if_pos (by simp [h15])] at he
            exact ⟨(fun z => by have z2 := z.2; rw [he] at z2; cases z2), Or.inr (st_tg he).1⟩
          · rw [hraw, if_neg (by simp [h15]), Bool.or_eq_true] at he
            exact ⟨fun z => h15 (by rw [← hT]; exact z.1), he.elim Or.inr Or.inl⟩
        cases hE : rEnd (fun k => tbv (tp k)) n raw p with
        | true =>
          obtain ⟨g, hg⟩ : ∃ g, n - p = g + 1 := ⟨n - p - 1, by omega⟩
          have er : rnd (fun k => tbv (tp k)) n raw (n - p) p = p := by rw [hg]; unfold rnd; rw [if_pos hE]
          rw [er] at S3 ⊢
          rw [if_pos (Nat.le_refl p)]
          exact at122 j p h3 ad L S (Nat.le_refl _) (Nat.le_refl _) h2 h1 (fun _ => endc p S rfl hE) q S3
        | false =>
          obtain ⟨g, hg⟩ : ∃ g, n - p = g + 1 := ⟨n - p - 1, by omega⟩
          have er : rnd (fun k => tbv (tp k)) n raw (n - p) p = rnE (fun k => tbv (tp k)) n raw p := by
            unfold rnE
            rw [hg]
            rw [show rnd (fun k => tbv (tp k)) n raw (g + 1) p = if rEnd (fun k => tbv (tp k)) n raw p = true then p else rnd (fun k => tbv (tp k)) n raw g (p + 1) from rfl, if_neg (by rw [hE]; simp), show n - (p + 1) = g by omega]
          rw [er] at S3 hsp ⊢
          have hle := rnE_le (tx := fun k => tbv (tp k)) (raw := raw) h
          have hend : rnE (fun k => tbv (tp k)) n raw p < n → rEnd (fun k => tbv (tp k)) n raw (rnE (fun k => tbv (tp k)) n raw p) = true := fun z => hsp.2.2.2 (by omega)
          obtain ⟨h4, ad4, g4, S4⟩ := cls_takeRun (p := p) (to := rnE (fun k => tbv (tp k)) n raw p) (raw := raw) (by omega) (by omega) hle.2 (fun z => by
            have := (rEnd_60 (hend z)).2
            show tbv (tp (rnE (fun k => tbv (tp k)) n raw p)) ∉ entB
            rw [this]; decide) hok w hS o (by omega) S3
          obtain ⟨j, rfl⟩ : ∃ g, j = g + 1 := ⟨j - 1, by omega⟩
          have eD : pgD (fun k => tbv (tp k)) n S p = (pgRun (fun k => tbv (tp k)) n raw S p, rnE (fun k => tbv (tp k)) n raw p) := by
            unfold pgD
            unfold rEnd at hE
            by_cases h15 : pgT S = 15
            · rw [hraw, if_pos (by simp [h15])] at hE
              have er : raw = true := by rw [hraw]; simp [h15]
              rw [if_pos ⟨h15, hE⟩, er]
            · have er : raw = false := by rw [hraw]; simp [h15]
              rw [er, if_neg (by simp), Bool.or_eq_false_iff] at hE
              rw [if_neg (fun z => h15 z.1), if_neg (by rw [hE.2]; simp), if_neg (by rw [hE.1]; simp), er]
          have hok2 := pgRun_ok (raw := raw) hok h q
          obtain ⟨h5, ad5, L5, g5, S5⟩ := at122 j (rnE (fun k => tbv (tp k)) n raw p) h4 ad4 L (pgRun (fun k => tbv (tp k)) n raw S p) (by omega) (by omega) hle.2 (by omega) (fun z => endc _ _ (pgT_run q) (hend z)) hok2 S4
          rw [show pgL (fun k => tbv (tp k)) n (j + 1) p S = if p < n then pgL (fun k => tbv (tp k)) n j (pgD (fun k => tbv (tp k)) n S p).2 (pgD (fun k => tbv (tp k)) n S p).1 else S from rfl, if_pos h, eD]
          refine ⟨h5, ad5, L5, ?_, S5⟩
          rw [if_neg (by omega)]
          simp only [fX5_readAll_119]
          cases hr : raw with
          | true =>
            rw [hr] at g4
            rw [show bI (!true) = nI 0 from rfl] at g4
            simp only [Bool.true_eq_false, ↓reduceIte, ↓cv_of x0 g4]
            exact g5
          | false =>
            rw [hr] at g4
            rw [show bI (!false) = nI 1 from rfl] at g4
            simp only [↓reduceIte, ↓cv_of x0 g4]
            exact g5
      rw [fX5_readAll_40]
      simp (disch := omega) only [↓gr_of r0 r1, ↓gi_of s.tp.1 s.tp.2.2.2.1, ltN, show ¬ n < st by omega, ↓reduceIte, ↓gi_of r0 s.2.2.2.1, leN, show ¬ n ≤ p by omega, ↓gi_of r0 s.2.2.1.1, nI_sub h1l, ↓cv_of r0 htg, eqN]
      by_cases h15 : pgT S = 15
      · have h15' : tTag S.1 (oN1 S.2.2 (S.2.2.length - 1)) = 15 := h15
        rw [if_pos h15']
        exact at90 true (by simp [h15])
      · have h15' : ¬ tTag S.1 (oN1 S.2.2 (S.2.2.length - 1)) = 15 := h15
        rw [if_neg h15']
        exact at90 false (by simp [h15])
    · have e : p = n := by omega
      subst e
      rw [pgL_end (Nat.le_refl _)]
      exact ⟨hh, ad, L, full f st hh ad L S (by omega) s, s⟩

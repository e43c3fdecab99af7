/-! runs of the reference -/
theorem ref_rEnd {h : AH} {m N p : Nat} {ra : Nat → Nat} {tx : Nat → Nat} {r8 : Option Nat → Int32 → Int32 → Int32 → Int32 → Int32 → AH → Option (Int32 × AH)} {v1 s0 : Int32} {raw : Bool} (hB : RB h m ra) (hs : SrcR h m ra N tx) (hp : p < N) : fX9_run_35 r8 (some m) v1 (bI raw) (nI p) s0 h = r8 (some m) v1 (bI raw) (nI (p + 1)) s0 (bI (decide (p + 1 < N) && !rEnd tx N raw (p + 1))) h := by
  have hN := hs.2.1
  have e1 := ref_isNote hB hs (show p + 1 < 100000 by omega)
  have e2 := ref_isTag hB hs (show p + 1 < 100000 by omega)
  have e3 := ref_endsStyle hB hs (show p + 1 < 99990 by omega)
  simp only [fX9_run_35, fX9_run_83, fX9_run_79, fX9_run_84]
  simp (disch := omega) only [↓gi_of hB.o hs.1, nI_add, leN]
  by_cases h1 : N ≤ p + 1
  · simp only [h1, ↓reduceIte, show ¬ p + 1 < N by omega, decide_false, Bool.false_and]
    rfl
  · simp only [h1, ↓reduceIte, show p + 1 < N by omega, decide_true, Bool.true_and, bI0]
    unfold rEnd
    cases raw with
    | true =>
      simp only [Bool.true_eq_false, ↓reduceIte, ↓cv_of hB.o e3, bI0]
      cases isW tx N wST (p + 1) with
      | true => simp only [Bool.true_eq_false, ↓reduceIte]; rfl
      | false => simp only [↓reduceIte]; rfl
    | false =>
      simp only [↓reduceIte, ↓cv_of hB.o e1, ↓cv_of hB.o e2, bI0, Bool.false_eq_true]
      cases isW tx N wNT (p + 1) with
      | true => simp only [Bool.true_eq_false, ↓reduceIte, Bool.or_true]; rfl
      | false =>
        simp only [↓reduceIte, Bool.or_false]
        cases isTg tx N (p + 1) with
        | true => simp only [Bool.true_eq_false, ↓reduceIte]; rfl
        | false => simp only [↓reduceIte]; rfl
theorem ref_scan {h : AH} {m N p0 : Nat} {ra : Nat → Nat} {tx : Nat → Nat} {raw : Bool} (hB : RB h m ra) (hs : SrcR h m ra N tx) : ∀ (j f i : Nat) (bl : Bool), i + 1 + j = N → j + 2 ≤ f → fX9_run_8 f (some m) (nI p0) (bI raw) (nI i) (bI bl) (nI 1) h = fX9_run_89 (some m) (nI p0) (bI raw) (nI (rnd tx N raw j (i + 1))) (bI (bl && blk tx (rnd tx N raw j (i + 1) - i) i)) h := by
  have hN := hs.2.1
  have step : ∀ (f i : Nat) (bl : Bool), i < N → fX9_run_8 (f + 1) (some m) (nI p0) (bI raw) (nI i) (bI bl) (nI 1) h = fX9_run_8 f (some m) (nI p0) (bI raw) (nI (i + 1)) (bI (bl && isBl (tx i))) (bI (decide (i + 1 < N) && !rEnd tx N raw (i + 1))) h := by
    intro f i bl hi
    have t0 := hs.2.2.1 i hi
    have hb := ref_bl (h := h) (c := tx i) (by omega)
    rw [fX9_run_8]
    simp (disch := omega) only [eq0n, Nat.reduceEqDiff, ↓reduceIte, bI0, fX9_run_34]
    cases bl with
    | false =>
      simp only [↓reduceIte, Bool.false_and]
      rw [show nI 0 = bI false from rfl]
      exact ref_rEnd hB hs hi
    | true =>
      simp only [Bool.true_eq_false, ↓reduceIte, Bool.true_and, ↓gr_of hB.o hB.r31, ↓al_of hB.k31 (show i < 2000 by omega) (by omega) (hs.2.2.2 i hi), ↓cl_of hb, bI0]
      cases isBl (tx i) with
      | false =>
        simp only [↓reduceIte]
        rw [show nI 0 = bI false from rfl]
        exact ref_rEnd hB hs hi
      | true =>
        simp only [Bool.true_eq_false, ↓reduceIte]
        rw [show nI 1 = bI true from rfl]
        exact ref_rEnd hB hs hi
  have stop : ∀ (f i : Nat) (bl : Bool), fX9_run_8 (f + 1) (some m) (nI p0) (bI raw) (nI i) (bI bl) (bI false) h = fX9_run_89 (some m) (nI p0) (bI raw) (nI i) (bI bl) h := by
    intro f i bl
    rw [fX9_run_8]
    simp only [bI0, ↓reduceIte]
  intro j
  induction j with
  | zero =>
    intro f i bl hij hf
    obtain ⟨f, rfl⟩ : ∃ g, f = g + 2 := ⟨f - 2, by omega⟩
    rw [step (f + 1) i bl (by omega), show (decide (i + 1 < N) && !rEnd tx N raw (i + 1)) = false by simp only [show ¬ i + 1 < N by omega, decide_false, Bool.false_and], stop f (i + 1)]
    show _ = fX9_run_89 (some m) (nI p0) (bI raw) (nI (i + 1)) (bI (bl && blk tx (i + 1 - i) i)) h
    rw [show i + 1 - i = 1 by omega]
    show _ = fX9_run_89 (some m) (nI p0) (bI raw) (nI (i + 1)) (bI (bl && (isBl (tx i) && true))) h
    rw [Bool.and_true]
  | succ j ih =>
    intro f i bl hij hf
    obtain ⟨f, rfl⟩ : ∃ g, f = g + 2 := ⟨f - 2, by omega⟩
    rw [step (f + 1) i bl (by omega)]
    have hr : rnd tx N raw (j + 1) (i + 1) = if rEnd tx N raw (i + 1) = true then i + 1 else rnd tx N raw j (i + 1 + 1) := rfl
    cases hc : rEnd tx N raw (i + 1) with
    | true =>
      rw [hc] at hr
      simp only [↓reduceIte] at hr
      rw [hr, show (decide (i + 1 < N) && !true) = false by simp, stop f (i + 1), show i + 1 - i = 1 by omega]
      show _ = fX9_run_89 (some m) (nI p0) (bI raw) (nI (i + 1)) (bI (bl && (isBl (tx i) && true))) h
      rw [Bool.and_true]
    | false =>
      rw [hc] at hr
      simp only [Bool.false_eq_true, ↓reduceIte] at hr
      rw [hr, show (decide (i + 1 < N) && !false) = true by simp only [show i + 1 < N by omega, decide_true, Bool.not_false, Bool.and_self]]
      have := ih (f + 1) (i + 1) (bl && isBl (tx i)) (by omega) (by omega)
      rw [show bI true = nI 1 from rfl, this]
      have hge := (rnd_spec (tx := tx) (N := N) (raw := raw) j (i + 1 + 1)).1
      generalize rnd tx N raw j (i + 1 + 1) = e at *
      obtain ⟨d, rfl⟩ : ∃ d, e = i + 1 + d := ⟨e - (i + 1), by omega⟩
      rw [show i + 1 + d - (i + 1) = d by omega, show i + 1 + d - i = d + 1 by omega]
      show _ = fX9_run_89 (some m) (nI p0) (bI raw) (nI (i + 1 + d)) (bI (bl && (isBl (tx i) && blk tx d (i + 1)))) h
      rw [Bool.and_assoc]
theorem RefT.p23 {h : AH} {m i : Nat} {ra : Nat → Nat} {T : TS} (q : RefT h m ra T) (hSz : Sz0T T) (hra : ∀ i j, ra i = ra j ↔ i = j) (hu : tIs T i = true) (v : Bool) : RefT (pA h (ra 23) i (bI v)) m ra (uLng T i v) := by
  have hne : ∀ k, k ≠ 23 → ra k ≠ ra 23 := fun k hk z => hk ((hra _ _).mp z)
  refine q.up1 (i := i) hSz (fun j hj => REq.rf.pA hra (fun _ _ z => hj z.symm)) (fun _ _ => rfl) (fun j hj _ => ⟨rfl, rfl, rfl, rfl, rfl, rfl, rfl, rfl, rfl, rfl, by rw [tLng_uLng, if_neg hj]⟩) q.1 (fun hi => ?_)
  obtain ⟨q0, q1⟩ := q.2 i hi
  obtain ⟨w1, w2, w3, w4, w5, w6, w7, w8, w9, w10, w11, w12, w13, w14⟩ := q1 hu
  have e : ∀ k j, k ≠ 23 → gA (pA h (ra 23) i (bI v)) (ra k) j = gA h (ra k) j := fun k j hk => by rw [gA_pA, if_neg (fun z => hne k hk z.1)]
  refine ⟨by rw [e 6 i (by omega)]; exact q0, fun _ => ?_⟩
  rw [e 7 i (by omega), e 9 i (by omega), e 10 i (by omega), e 11 i (by omega), e 12 i (by omega), e 13 i (by omega), e 14 i (by omega), e 15 i (by omega), e 16 i (by omega), e 22 i (by omega)]
  refine ⟨w1, w2, fun k hk => by rw [e 8 _ (by omega)]; exact w3 k hk, w4, w5, w6, w7, w8, w9, w10, fun a ha => ?_, w12, fun k hk => by rw [e 21 _ (by omega)]; exact w13 k hk, by rw [gA_pA, if_pos ⟨rfl, rfl⟩, tLng_uLng, if_pos rfl]⟩
  obtain ⟨a1, a2, a3, a4⟩ := w11 a ha
  exact ⟨by rw [e 18 _ (by omega)]; exact a1, fun k hk => by rw [e 17 _ (by omega)]; exact a2 k hk, by rw [e 20 _ (by omega)]; exact a3, fun k hk => by rw [e 19 _ (by omega)]; exact a4 k hk⟩
theorem RefT.tadd {h : AH} {m i c : Nat} {ra : Nat → Nat} {T : TS} (q : RefT h m ra T) (hSz : Sz0T T) (hra : ∀ i j, ra i = ra j ↔ i = j) (hi : i < 120) (hu : tIs T i = true) (hl : (tTxt T i).length < 400) : RefT (pA (pA h (ra 21) (400 * i + (tTxt T i).length) (nI c)) (ra 22) i (nI ((tTxt T i).length + 1))) m ra (uTxt T i (tTxt T i ++ [c])) := by
  have hne : ∀ k k', k ≠ k' → ra k ≠ ra k' := fun k k' hk z => hk ((hra _ _).mp z)
  obtain ⟨q0, q1⟩ := q.2 i hi
  obtain ⟨-, -, -, -, -, -, -, -, -, -, -, w12, w13, -⟩ := q1 hu
  refine q.txt hSz hi hu rfl (fun k j a b z1 z2 => ?_) (fun k j z1 z2 => ?_) ?_ (fun k hk => ?_)
  · rw [gA_pA, if_neg (fun z => hne k 22 z2 z.1), gA_pA, if_neg (fun z => hne k 21 z1 z.1)]
  · rcases z1 with z1 | z1
    · subst z1
      have hj : ¬ j / 400 = i := z2
      rw [gA_pA, if_neg (fun z => hne 21 22 (by omega) z.1), gA_pA, if_neg (fun z => by have := z.2; omega)]
    · subst z1
      have hj : ¬ j = i := z2
      rw [gA_pA, if_neg (fun z => hj z.2), gA_pA, if_neg (fun z => hne 22 21 (by omega) z.1)]
  · rw [gA_pA, if_pos ⟨rfl, rfl⟩, List.length_append]; rfl
  · rw [gA_pA, if_neg (fun z => hne 21 22 (by omega) z.1), gA_pA, getD_snoc]
    rw [List.length_append, List.length_singleton] at hk
    by_cases e : k = (tTxt T i).length
    · rw [if_pos ⟨rfl, by omega⟩, if_pos e]
    · rw [if_neg (fun z => e (by have := z.2; omega)), if_neg e]
      exact w13 k (by omega)
theorem Sz0T.rn {T : TS} (q : Sz0T T) (k : Nat) (R : List Nat × Bool × FL) (hl : R.1.length ≤ 400) : Sz0T (rnU T k R) := fun i hi => by
  obtain ⟨a, b, c⟩ := q i hi
  refine ⟨a, b, ?_⟩
  by_cases e : i = k
  · rw [e, (rnU_t T k R).1]; exact hl
  · have : tTxt (rnU T k R) i = tTxt T i := by
      unfold rnU
      rw [tTxt_uLng, tTxt_uTxt, if_neg e]
    rw [this]; exact c
theorem SR.rt {h0 h h' : AH} {m N : Nat} {ra : Nat → Nat} {tx : Nat → Nat} {T T' : TS} {fl : FL} {os : OS} (q : SR h0 m ra N tx h T fl os) (w : Fr (fun f a => f = 475 ∧ a = m) (fun a => ∃ k, (6 ≤ k ∧ k ≤ 23) ∧ a = ra k) h h') (hR : RefT h' m ra T') : SR h0 m ra N tx h' T' fl os := by
  obtain ⟨q1, q2, q3, q4, q5, q6⟩ := id q
  have hno : ∀ k, ¬ (6 ≤ k ∧ k ≤ 23) → ¬ ∃ j, (6 ≤ j ∧ j ≤ 23) ∧ ra k = ra j := fun k hk z => by obtain ⟨j, hj, e⟩ := z; rw [q1.i] at e; omega
  exact q.put (w.mo (fun f a z => ⟨z.2, by omega, by omega, by omega⟩) (fun a z => by obtain ⟨k, hk, e⟩ := z; exact ⟨k, by omega, by omega, e⟩)) hR (q3.fr w (by omega) (hno 27 (by omega)) (hno 28 (by omega))) (q5.fr w (by omega) (hno 29 (by omega)) (hno 24 (by omega)))
theorem ref_run_L {h0 : AH} {m N k to : Nat} {ra : Nat → Nat} {tx : Nat → Nat} {T : TS} {os : OS} {raw : Bool} (hto : to ≤ N) (hk : k < 120) (hu : tIs T k = true) (hSz : Sz0T T) (hok : ∀ q, q < N → okb (tx q) = true) : ∀ (j f i : Nat) (h : AH) (R : List Nat × Bool × FL), to ≤ i + j → i ≤ to + 6 → j < f → R.1.length ≤ 400 → R.2.2.length + (if R.2.1 = true then 1 else 2) < 1000000 → SR h0 m ra N tx h (rnU T k R) R.2.2 os →
    ∃ h', fX9_run_188 f (some m) (bI raw) (nI to) (nI k) (nI i) h = some (nI to, h') ∧ SR h0 m ra N tx h' (rnU T k ((decL tx to raw j i).foldl txS R)) ((decL tx to raw j i).foldl txS R).2.2 os := by
  intro j
  induction j with
  | zero =>
    intro f i h R hij hi6 hjf hR hl q
    obtain ⟨f, rfl⟩ : ∃ g, f = g + 1 := ⟨f - 1, by omega⟩
    have hN := q.2.2.2.1.2.1
    refine ⟨h, ?_, q⟩
    rw [fX9_run_188]
    simp (disch := omega) only [leN, show to ≤ i by omega, ↓reduceIte, fX9_run_313]
  | succ j ih =>
    intro f i h R hij hi6 hjf hR hl q
    obtain ⟨f, rfl⟩ : ∃ g, f = g + 1 := ⟨f - 1, by omega⟩
    have hN := q.2.2.2.1.2.1
    rw [show decL tx to raw (j + 1) i = if i < to then (i, (eX raw tx to i).getD (tx i)) :: decL tx to raw j (i + wd (eX raw tx to i)) else [] from rfl]
    by_cases hit : i < to
    · rw [if_pos hit, List.foldl_cons]
      have hB := q.1
      have q' : SR h0 m ra N tx (pI h 483 m (nI 1)) (rnU T k R) R.2.2 os := q.sc (I := fun f a => a = m ∧ f = 483) (Fr.pI Fr.rf ⟨rfl, rfl⟩) (fun f a z => ⟨z.1, Or.inl z.2⟩)
      have hB' := q'.1
      have hcb := eX_b (raw := raw) (tx := tx) (to := to) (hok i (by omega))
      have hwd := wd_pos (eX raw tx to i)
      have first : ∃ h1, fX9_run_188 (f + 1) (some m) (bI raw) (nI to) (nI k) (nI i) h = fX9_run_224 (fX9_run_188 f) (some m) (bI raw) (nI to) (nI k) (nI i) (nI ((eX raw tx to i).getD (tx i))) h1 ∧ gI h1 483 m = nI (wd (eX raw tx to i)) ∧ SR h0 m ra N tx h1 (rnU T k R) R.2.2 os := by
        rw [fX9_run_188]
        simp (disch := omega) only [leN, show ¬ to ≤ i by omega, ↓reduceIte, ↓pi_of hB.o, bI0]
        unfold eX
        cases raw with
        | true =>
          refine ⟨pI h 483 m (nI 1), ?_, by rw [gI_pI, if_pos ⟨rfl, rfl⟩]; rfl, q'⟩
          simp only [Bool.true_eq_false, ↓reduceIte, ↓gr_of hB'.o hB'.r31, ↓al_of hB'.k31 (show i < 2000 by omega) (by omega) (q'.2.2.2.1.2.2.2 i (by omega)), Option.getD_none]
        | false =>
          obtain ⟨h1, g1, e1, F1⟩ := ref_entity hB' q'.2.2.2.1 hto hit
          refine ⟨h1, ?_, ?_, q'.sc F1 (fun f a z => ⟨z.1, Or.inl z.2⟩)⟩
          · simp only [↓reduceIte, ↓gr_of hB'.o hB'.r31, ↓cv_of hB'.o g1, Bool.false_eq_true]
          · simp only [Bool.false_eq_true, ↓reduceIte]; exact e1
      obtain ⟨h1, g1, e483, q1⟩ := first
      rw [g1]
      generalize hcg : (eX raw tx to i).getD (tx i) = c at *
      have hc := okb_lt hcb
      have B1 := q1.1
      obtain ⟨-, -, -, -, -, -, -, -, -, -, -, w12, w13, w14⟩ := (q1.2.1.2 k hk).2 hu
      rw [(rnU_t T k R).1] at w12 w13
      rw [(rnU_t T k R).2] at w14
      have hSz1 := hSz.rn k R hR
      have ht0 : txS R (i, c) = if R.1.length < 400 then (R.1 ++ [c], R.2.1, R.2.2) else if R.2.1 = true then R else (R.1, true, R.2.2 ++ [(nI 7, nI i)]) := rfl
      have next : ∀ (h2 : AH) (R' : List Nat × Bool × FL), gI h2 483 m = nI (wd (eX raw tx to i)) → R'.1.length ≤ 400 → R'.2.2.length + (if R'.2.1 = true then 1 else 2) < 1000000 → SR h0 m ra N tx h2 (rnU T k R') R'.2.2 os → ∃ h', fX9_run_301 (fX9_run_188 f) (some m) (bI raw) (nI to) (nI k) (nI i) h2 = some (nI to, h') ∧ SR h0 m ra N tx h' (rnU T k ((decL tx to raw j (i + wd (eX raw tx to i))).foldl txS R')) ((decL tx to raw j (i + wd (eX raw tx to i))).foldl txS R').2.2 os := by
        intro h2 R' e2 hR' hl' q2
        obtain ⟨h3, g3, q3⟩ := ih f (i + wd (eX raw tx to i)) h2 R' (by omega) (by omega) (by omega) hR' hl' q2
        refine ⟨h3, ?_, q3⟩
        simp only [fX9_run_301]
        simp only [↓gi_of q2.1.o e2, nI_add]
        exact g3
      simp only [fX9_run_224]
      simp (disch := omega) only [↓gr_of B1.o B1.r22, ↓al_of B1.k22 hk (by omega) w12, leN]
      by_cases hlt : R.1.length < 400
      · rw [if_pos hlt] at ht0
        have R2 := q1.2.1.tadd (c := c) hSz1 B1.2.1 hk hu (by rw [(rnU_t T k R).1]; exact hlt)
        rw [(rnU_t T k R).1, rnU_put] at R2
        have FA : Fr (fun f a => f = 475 ∧ a = m) (fun a => ∃ k, (6 ≤ k ∧ k ≤ 23) ∧ a = ra k) h1 (pA (pA h1 (ra 21) (400 * k + R.1.length) (nI c)) (ra 22) k (nI (R.1.length + 1))) := Fr.pA (Fr.pA Fr.rf ⟨21, by omega, rfl⟩) ⟨22, by omega, rfl⟩
        have q2 := q1.rt FA R2
        obtain ⟨h3, g3, q3⟩ := next (pA (pA h1 (ra 21) (400 * k + R.1.length) (nI c)) (ra 22) k (nI (R.1.length + 1))) (R.1 ++ [c], R.2.1, R.2.2) e483 (by simp; omega) hl q2
        refine ⟨h3, ?_, by rw [ht0]; exact q3⟩
        rw [if_neg (by omega)]
        have w12' : gA (pA h1 (ra 21) (400 * k + R.1.length) (nI c)) (ra 22) k = nI R.1.length := by rw [gA_pA, if_neg (fun z => by have := z.1; rw [B1.i] at this; omega)]; exact w12
        have B1' : RB (pA h1 (ra 21) (400 * k + R.1.length) (nI c)) m ra := B1
        simp (disch := omega) only [↓gr_of B1.o B1.r21, ↓gr_of B1.o B1.r22, ↓al_of B1.k22 hk (by omega) w12, nI_mul, nI_add, ↓as_of B1.k21 (show 400 * k + R.1.length < 48000 by omega) (by omega), vn1, nI_b hc, ↓gr_of B1'.o B1'.r22, ↓al_of B1'.k22 hk (by omega) w12', ↓as_of B1'.k22 hk (by omega), vn0]
        exact g3
      · rw [if_neg hlt] at ht0
        rw [if_pos (by omega)]
        simp only [↓gr_of B1.o B1.r23, ↓al_of B1.k23 hk (by omega) w14, bI0]
        cases hlg : R.2.1 with
        | true =>
          rw [hlg] at ht0
          simp only [↓reduceIte] at ht0
          obtain ⟨h3, g3, q3⟩ := next h1 R e483 hR hl q1
          refine ⟨h3, ?_, by rw [ht0]; exact q3⟩
          simp only [Bool.true_eq_false, ↓reduceIte]
          exact g3
        | false =>
          rw [hlg] at ht0
          simp only [Bool.false_eq_true, ↓reduceIte] at ht0
          rw [hlg] at hl
          simp only [Bool.false_eq_true, ↓reduceIte] at hl
          have R2 := q1.2.1.p23 hSz1 B1.2.1 (i := k) hu true
          rw [rnU_lng T k R true (R.2.2 ++ [(nI 7, nI i)])] at R2
          have FA : Fr (fun f a => f = 475 ∧ a = m) (fun a => ∃ k, (6 ≤ k ∧ k ≤ 23) ∧ a = ra k) h1 (pA h1 (ra 23) k (bI true)) := Fr.pA Fr.rf ⟨23, by omega, rfl⟩
          have q2 := q1.rt FA R2
          obtain ⟨h3, g3, q3⟩ := q2.tell (show R.2.2.length + 1 < 1000000 by omega) (nI 7) (nI i)
          have e3 : gI h3 483 m = nI (wd (eX raw tx to i)) := by
            obtain ⟨h3', g3', -, F3⟩ := ref_tell q2.1 q2.2.2.1 (show R.2.2.length + 1 < 1000000 by omega) (nI 7) (nI i)
            rw [g3] at g3'
            cases g3'
            rw [F3.1 _ _ (by omega)]
            exact e483
          obtain ⟨h4, g4, q4⟩ := next h3 (R.1, true, R.2.2 ++ [(nI 7, nI i)]) e3 hR (by simp only [↓reduceIte, List.length_append, List.length_singleton]; omega) q3
          refine ⟨h4, ?_, by rw [ht0]; exact q4⟩
          simp only [↓reduceIte, ↓as_of B1.k23 hk (by omega), vn2b]
          rw [show nI 1 = bI true from rfl]
          simp only [↓cv_of q2.1.o g3]
          exact g4
    · rw [if_neg hit]
      refine ⟨h, ?_, q⟩
      rw [fX9_run_188]
      simp (disch := omega) only [leN, show to ≤ i by omega, ↓reduceIte, fX9_run_313]
theorem ref_run {h0 h : AH} {m N p : Nat} {ra : Nat → Nat} {tx : Nat → Nat} {T : TS} {kd : Nat → List Nat} {fl : FL} {os : OS} {raw : Bool} (hp : p < N) (hok : ∀ q, q < N → okb (tx q) = true) (w : Wf T kd) (hS : SizT T) (hOs : OsOk T os) (hl : fl.length + 2 < 1000000) (q : SR h0 m ra N tx h T fl os) :
    ∃ h', fX9_run (some m) (nI p) (bI raw) h = some (nI (rnd tx N raw (N - (p + 1)) (p + 1)), h') ∧ SR h0 m ra N tx h' (rnS T fl (oN1 os (os.length - 1)) (decL tx (rnd tx N raw (N - (p + 1)) (p + 1)) raw (rnd tx N raw (N - (p + 1)) (p + 1) - p) p) (blk tx (rnd tx N raw (N - (p + 1)) (p + 1) - p) p) p).1 (rnS T fl (oN1 os (os.length - 1)) (decL tx (rnd tx N raw (N - (p + 1)) (p + 1)) raw (rnd tx N raw (N - (p + 1)) (p + 1) - p) p) (blk tx (rnd tx N raw (N - (p + 1)) (p + 1) - p) p) p).2 os := by
  have hB := q.1
  have hN := q.2.2.2.1.2.1
  have h1 := hOs.1
  have h21 := hOs.2.1
  have hsc := ref_scan (p0 := p) (raw := raw) hB q.2.2.2.1 (N - (p + 1)) FU p true (by omega) (by have := FU_ge; omega)
  obtain ⟨ui, t17i, -⟩ := hOs.2.2.2 (os.length - 1) (by omega)
  obtain ⟨o1, -⟩ := q.2.2.2.2.1.2 (os.length - 1) (by omega)
  have hrs := rnd_spec (tx := tx) (N := N) (raw := raw) (N - (p + 1)) (p + 1)
  generalize rnd tx N raw (N - (p + 1)) (p + 1) = to at *
  generalize oN1 os (os.length - 1) = i at *
  have il := hS.lt ui
  obtain ⟨w1, w2, w3, w4, w5, w6, -⟩ := (q.2.1.2 i il).2 ui
  have go : ∀ (T' : TS) (k : Nat) (h1 : AH), k < 120 → tIs T' k = true → Sz0T T' → SR h0 m ra N tx h1 T' fl os → ∃ h', fX9_run_185 (some m) (nI p) (bI raw) (nI to) (nI k) h1 = some (nI to, h') ∧ SR h0 m ra N tx h' (rnF T' k (decL tx to raw (to - p) p) fl).1 (rnF T' k (decL tx to raw (to - p) p) fl).2 os := by
    intro T' k h1 hk hu hz S
    exact ref_run_L (by omega) hk hu hz hok (to - p) FU p h1 (tTxt T' k, tLng T' k, fl) (by omega) (by omega) (by have := FU_ge; omega) (hz k hu).2.2 (by simp only; split <;> omega) (by rw [rnU_id]; exact S)
  have t0 : rnN T i = none → ∀ v7, ∃ h', fX9_run_134 (some m) (nI p) (bI raw) (nI to) (bI (blk tx (to - p) p)) (nI i) v7 (nI 0) h = some (nI to, h') ∧ SR h0 m ra N tx h' (rnS T fl i (decL tx to raw (to - p) p) (blk tx (to - p) p) p).1 (rnS T fl i (decL tx to raw (to - p) p) (blk tx (to - p) p) p).2 os := by
    intro hN v7
    unfold rnS
    rw [hN]
    simp only [fX9_run_134, fX9_run_148]
    simp (disch := omega) only [bI0, eq0n, ↓reduceIte]
    cases blk tx (to - p) p with
    | true => exact ⟨h, by simp only [Bool.true_eq_false, ↓reduceIte], by simp only [↓reduceIte]; exact q⟩
    | false =>
      simp only [↓reduceIte, Bool.false_eq_true]
      cases hg : grw T i with
      | none =>
        obtain ⟨h2, g2, S2⟩ := q.tell (by omega) (nI 6) (nI p)
        refine ⟨h2, ?_, S2⟩
        simp only [↓cv_of hB.o (ref_freshN hB q.2.1 hS ui hg), ↓reduceIte, ↓cv_of hB.o g2]
      | some k =>
        obtain ⟨hd1, hk, hku⟩ := grw_some hg
        have gF := ref_freshS hB q.2.1 hS ui hg
        have F2 := frK_fr (h := h) (ra := ra) (m := m) (q := i) (n := k) (c := tCnt T + 1) (d := tDep T i + 1) (v := nI i) (lk := tLk T i)
        have c475 := frK_475 (h := h) (ra := ra) (m := m) (q := i) (n := k) (c := tCnt T + 1) (d := tDep T i + 1) (v := nI i) (lk := tLk T i)
        have c9 : gA (frK (frH h ra m k (nI i) (tDep T i + 1) (tCnt T + 1)) ra i k (tLk T i)) (ra 9) k = nI 0 := by
          unfold frK frH
          cases tLk T i <;> simp only [gA_pA, hB.i, Nat.reduceEqDiff, false_and, and_self, ↓reduceIte]
        have cfr := RefT.fresh (h2 := pA (frK (frH h ra m k (nI i) (tDep T i + 1) (tCnt T + 1)) ra i k (tLk T i)) (ra 7) k (nI 17)) (t := 17) (nm := []) q.2.1 hB.2.1 hS ui hg (by simp) (fun c j a b z => by
          rw [gA_pA, if_neg]
          rintro ⟨y1, y2⟩
          rw [hB.i] at y1
          subst y1
          exact z ⟨by omega, y2⟩) (by rw [gA_pA, if_pos ⟨rfl, rfl⟩]) (by
          rw [gA_pA, if_neg (fun z => by have := z.1; rw [hB.i] at this; omega)]
          exact c9) (fun q hq => by simp at hq) (by rw [gI_pA]; exact c475)
        generalize hXe : frK (frH h ra m k (nI i) (tDep T i + 1) (tCnt T + 1)) ra i k (tLk T i) = X at *
        have BX : RB X m ra := F2.RB hB
        have S2 := q.rt (F2.pA (a := ra 7) (i := k) (v := nI 17) ⟨7, by omega, rfl⟩) cfr
        obtain ⟨a1, a2, a3, a4, a5, a6, a7⟩ := gw_used (tag := 17) (nm := []) w ui hku k
        rw [if_pos rfl] at a1
        obtain ⟨h3, g3, S3⟩ := go (gwT T i 17 [] k) k _ hk a1 (hS.grow (tag := 17) (nm := []) ui hku hk hd1 (by omega) (by simp) (fun c hc => by cases hc)).z S2
        refine ⟨h3, ?_, S3⟩
        simp (disch := omega) only [↓cv_of hB.o gF, eqM1, ↓reduceIte, ↓gr_of BX.o BX.r7, ↓as_of BX.k7 hk (by omega), vn0]
        exact g3
  simp only [fX9_run, fX9_run_0]
  rw [show fX9_run_8 FU (some m) (nI p) (bI raw) (nI p) (nI 1) (nI 1) h = _ from hsc, Bool.true_and]
  simp only [fX9_run_89, fX9_run_133]
  simp (disch := omega) only [↓gr_of hB.o hB.r29, ↓gi_of hB.o q.2.2.2.2.1.1, nI_sub h1, ↓al_of hB.k29 (show os.length - 1 < 22 by omega) (by omega) o1, ↓gr_of hB.o hB.r12, ↓al_of hB.k12 il (by omega) w6]
  cases hlk : tLk T i with
  | none =>
    have hNn : rnN T i = none := by unfold rnN; rw [hlk]
    obtain ⟨h2, g2, S2⟩ := t0 hNn (-1)
    refine ⟨h2, ?_, S2⟩
    simp only [oI_n, ↓reduceIte]
    exact g2
  | some l =>
    have ul := w.links ui (Or.inr (Or.inr (Or.inl hlk)))
    have ll := hS.lt ul
    obtain ⟨x1, -⟩ := (q.2.1.2 l ll).2 ul
    have s1 := (hS.2 l ul).1
    simp (disch := omega) only [oI_s, eqM1, ↓reduceIte, ↓gr_of hB.o hB.r7, ↓al_of hB.k7 ll (by omega) x1, eqN]
    by_cases h17 : tTag T l = 17
    · have hNn : rnN T i = some l := by unfold rnN; rw [hlk]; simp only [h17, ↓reduceIte]
      obtain ⟨h3, g3, S3⟩ := go T l h ll ul hS.z q
      refine ⟨h3, ?_, ?_⟩
      · simp only [h17, ↓reduceIte, fX9_run_134, fX9_run_148]
        simp (disch := omega) only [eq0n, Nat.reduceEqDiff, ↓reduceIte, bI0]
        cases blk tx (to - p) p with
        | true => simp only [Bool.true_eq_false, ↓reduceIte]; exact g3
        | false => simp only [↓reduceIte]; exact g3
      · unfold rnS; rw [hNn]; exact S3
    · have hNn : rnN T i = none := by unfold rnN; rw [hlk]; simp only [h17, ↓reduceIte]
      obtain ⟨h2, g2, S2⟩ := t0 hNn (nI l)
      refine ⟨h2, ?_, S2⟩
      simp only [h17, ↓reduceIte]
      exact g2

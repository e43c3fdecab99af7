/-! page(): both sides -/
def pgZ (T : TS) (tp : Nat → Int32) (n : Nat) : PGS := pgL (fun k => tbv (tp k)) n n 0 (T0 T, [], [(0, 0)])
def pgF (S : PGS) : FL := S.2.1 ++ clL S.1 S.2.2 (S.2.2.length - 1) (S.2.2.length - 1)
def pgV (T : TS) (tp : Nat → Int32) (n : Nat) : Int32 := match badA tp n 0 with
  | some k => (-1000) - nI k
  | none => if n ≤ 1500 then nI (tCnt (pgZ T tp n).1) else -1
def pgTr (T : TS) (tp : Nat → Int32) (n : Nat) : TS := match badA tp n 0 with
  | some _ => T
  | none => if n ≤ 1500 then (pgZ T tp n).1 else T
def pgFl (T : TS) (fl : FL) (tp : Nat → Int32) (n : Nat) : FL := match badA tp n 0 with
  | some _ => fl
  | none => if n ≤ 1500 then pgF (pgZ T tp n) else fl
theorem T0_pg (T : TS) : PgOk (T0 T, [], [(0, 0)]) 0 := ⟨⟨_, (T0_ok T).1⟩, (T0_ok T).2.1, (T0_ok T).2.2, rfl, by simp⟩
theorem pgZ_ok {T : TS} {tp : Nat → Int32} {n : Nat} (hn : n ≤ 1500) (hok : ∀ q, q < n → okb (tbv (tp q)) = true) : PgOk (pgZ T tp n) n := pgL_ok hn hok n 0 _ (by omega) (by omega) (T0_pg T)
theorem pgTr_ok {T : TS} {kd : Nat → List Nat} {fl : FL} {tp : Nat → Int32} {n : Nat} (w : Wf T kd) (hS : SizT T) (hl : fl.length < 200000) : (∃ kd', Wf (pgTr T tp n) kd') ∧ SizT (pgTr T tp n) ∧ (pgFl T fl tp n).length < 200000 := by
  unfold pgTr pgFl
  cases hb : badA tp n 0 with
  | some k => exact ⟨⟨kd, w⟩, hS, hl⟩
  | none =>
    have hok : ∀ k, k < n → okb (tbv (tp k)) = true := fun k hk => badA_none _ _ hb k (by omega) (by omega)
    simp only
    by_cases hn : n ≤ 1500
    · rw [if_pos hn, if_pos hn]
      obtain ⟨a, b, c, d, e⟩ := pgZ_ok (T := T) hn hok
      refine ⟨a, b, ?_⟩
      unfold pgF
      rw [List.length_append]
      have := clL_len (pgZ T tp n).1 (pgZ T tp n).2.2 ((pgZ T tp n).2.2.length - 1) ((pgZ T tp n).2.2.length - 1)
      have := c.2.1
      omega
    · rw [if_neg hn, if_neg hn]
      exact ⟨⟨kd, w⟩, hS, hl⟩
theorem cls_readAll {h : AH} {bs s0 n : Nat} {sg : Nat → Nat} {ad : Nat → Nat → Nat → Nat} {T : TS} {kd : Nat → List Nat} {tp : Nat → Int32} {ol : List Int32} {fl : FL} {L : AttL} (hA : AdOk h bs s0 sg ad) (hC : Cls h sg ad T n tp ol fl) (w : Wf T kd) (hS : SizT T) (hV : AtV h ad 120 L) (h12 : gA h (sg 12) 0 = nI 0) (hn : n ≤ 1500) (hok : ∀ q, q < n → okb (tbv (tp q)) = true) :
    ∃ h' ad' L', fX5_readAll (some (sg 10)) h = some ((), h') ∧ St h ad bs s0 sg n tp (ol, L') h' ad' (pgZ T tp n).1 (pgF (pgZ T tp n)) ((pgZ T tp n).2.2.take 1) n := by
  obtain ⟨q1, q2, q3, q4, q5, q6, q7⟩ := id hC
  obtain ⟨r0, r1, r2, r3, r4, r5, r6, r7, r8⟩ := id q6
  obtain ⟨h2, ad2, g2, A2, C2, F2⟩ := cls_restart hA q5 hS w.1
  have D2 := hC.tree hA A2 F2.a C2 (F2.tape A2 q2)
  obtain ⟨c1, c2, c3, c4, c5, c6, c7⟩ := id D2
  obtain ⟨x0, x1, x2, x3, x4, x5, x6, x7, x8⟩ := id c6
  obtain ⟨f1, f2, f3, f4, f5, f6, f7, f8, f9⟩ := id c4
  have V2 : AtV h2 ad2 120 L := hV.tr (F2.2.2) F2.1 (fun c j _ _ z => by
    rw [← F2.2.2] at z
    rcases z with ⟨i, hi, c', j', e, -⟩ | z | z
    · rw [A2.1.e] at e; omega
    · exact A2.2.2.1 _ _ _ _ z
    · exact A2.2.2.1 _ _ _ _ z)
  have e12 : gA h2 (sg 12) 0 = nI 0 := by rw [(F2.1 (sg 12) (TB.no A2 (by omega) (by omega))).2.2.2.1]; exact h12
  have hroot := (C2.nd (j := 0) (by omega) (T0_at T).1).2.1.1
  -- what is set behind that
  have wf : FrX (fun a => a = sg 5 ∨ a = sg 10 ∨ a = sg 11) h2 (pI (pI (pQ (pI h2 102 (sg 5) (nI 0)) (sg 11) 0 (some (ad2 1 0 0))) 256 (sg 10) (nI 1)) 257 (sg 10) (nI 0)) := FrX.pI (FrX.pI (FrX.pQ (FrX.pI FrX.rf (Or.inl rfl)) (Or.inr (Or.inr rfl))) (Or.inr (Or.inl rfl))) (Or.inr (Or.inl rfl))
  have no : ∀ k, k ≠ 5 → k ≠ 10 → k ≠ 11 → ¬ (sg k = sg 5 ∨ sg k = sg 10 ∨ sg k = sg 11) := fun k a b c z => by
    rcases z with z | z | z <;> (have := (hA.2.1 _ _).mp z; omega)
  have noa : ∀ c i j, ¬ (ad2 c i j = sg 5 ∨ ad2 c i j = sg 10 ∨ ad2 c i j = sg 11) := fun c i j z => by
    rcases z with z | z | z <;> exact A2.2.2.1 _ _ _ _ z
  have n510 : sg 5 ≠ sg 10 := fun z => by have := (hA.2.1 _ _).mp z; omega
  have S0 : St h ad bs s0 sg n tp (ol, L) (pI (pI (pQ (pI h2 102 (sg 5) (nI 0)) (sg 11) 0 (some (ad2 1 0 0))) 256 (sg 10) (nI 1)) 257 (sg 10) (nI 0)) ad2 (T0 T) [] [(0, 0)] 0 := by
    refine ⟨A2.eq rfl rfl rfl, ⟨c1.fx wf (no 0 (by omega) (by omega) (by omega)), c2.fx wf (no 1 (by omega) (by omega) (by omega)) (no 2 (by omega) (by omega) (by omega)), c3.fx wf (no 3 (by omega) (by omega) (by omega)) (no 4 (by omega) (by omega) (by omega)), ⟨f1, f2, f3, f4, f5, f6, ?_, by simp, fun i _ hi => by simp at hi⟩, c5.fx wf noa (no 8 (by omega) (by omega) (by omega)) (no 9 (by omega) (by omega) (by omega)) rfl, c6, c7.tr (fun _ _ => rfl) wf (fun c j _ _ => noa c 120 j) (fun c j z => z)⟩, ⟨?_, fun k hk => ?_⟩, ?_, F2.p.tr ⟨wf.mo (fun a z => ?_), Ext.same rfl⟩, V2.tr (fun _ _ => rfl) wf (fun c j _ _ => noa c 120 j)⟩
    · rw [gI_pI, if_neg (by omega), gI_pI, if_neg (by omega), gI_pQ, gI_pI, if_pos ⟨rfl, rfl⟩]; rfl
    · rw [gI_pI, if_neg (by omega), gI_pI, if_pos ⟨rfl, rfl⟩]; rfl
    · have e : k = 0 := by simp at hk; exact hk
      subst e
      refine ⟨?_, ?_⟩
      · rw [gQ_pI, gQ_pI, gQ_pQ, if_pos ⟨rfl, rfl⟩]; rfl
      · rw [gA_pI, gA_pI, gA_pQ, gA_pI]; exact e12
    · rw [gI_pI, if_pos ⟨rfl, rfl⟩]
    · rcases z with z | z | z
      · exact Or.inr ⟨5, by omega, z⟩
      · exact Or.inr ⟨10, by omega, z⟩
      · exact Or.inr ⟨11, by omega, z⟩
  obtain ⟨h3, ad3, L3, g3, S3⟩ := cls_pgL hn hok n FU 0 0 _ ad2 L (T0 T, [], [(0, 0)]) (by omega) (by omega) (by have := FU_ge; omega) (by omega) (T0_pg T) S0
  have eZ : pgL (fun k => tbv (tp k)) n n 0 (T0 T, [], [(0, 0)]) = pgZ T tp n := rfl
  rw [eZ] at S3
  obtain ⟨-, hS3, hO3, -, hl3⟩ := pgZ_ok (T := T) hn hok
  obtain ⟨h4, g4, S4⟩ := cls_close (stay := 1) hS3 (by omega) hO3.1 hO3 (by omega) S3
  refine ⟨h4, ad3, L3, ?_, S4⟩
  have x0' : gK (pI h2 102 (sg 5) (nI 0)) (sg 10) = (6, 0) := x0
  have x5' : gR (pI h2 102 (sg 5) (nI 0)) 254 (sg 10) = some (sg 11) := x5
  have x2' : gR (pI h2 102 (sg 5) (nI 0)) 251 (sg 10) = some (sg 8) := x2
  have k8 : gK (pI h2 102 (sg 5) (nI 0)) (sg 8) = (8, 0) := C2.1
  have r8' : gR (pI h2 102 (sg 5) (nI 0)) 351 (sg 8) = some (ad2 1 0 0) := C2.2.2.2.1
  have k11 : gK (pI h2 102 (sg 5) (nI 0)) (sg 11) = (103, 21) := x7
  have kr : gK (pI h2 102 (sg 5) (nI 0)) (ad2 1 0 0) = (4, 0) := hroot
  have y0 : gK (pQ (pI h2 102 (sg 5) (nI 0)) (sg 11) 0 (some (ad2 1 0 0))) (sg 10) = (6, 0) := x0
  have y1 : gK (pI (pQ (pI h2 102 (sg 5) (nI 0)) (sg 11) 0 (some (ad2 1 0 0))) 256 (sg 10) (nI 1)) (sg 10) = (6, 0) := x0
  have r03 := S3.rd.1
  simp only [fX5_readAll, fX5_readAll_0]
  simp only [↓gr_of r0 r2, ↓cv_of q5.1 g2, ↓gr_of x0 x3, ↓pi_of f1, ↓gr_of x0' x5', ↓gr_of x0' x2', ↓gr_of k8 r8']
  rw [oQS k11 kr (show 0 < 21 by omega) (by omega)]
  simp only [↓pi_of y0, ↓pi_of y1]
  rw [g3]
  simp only [fX5_readAll_169]
  simp only [↓cv_of r03 g4]
theorem cls_page {h : AH} {bs s0 n : Nat} {sg : Nat → Nat} {ad : Nat → Nat → Nat → Nat} {T : TS} {kd : Nat → List Nat} {tp : Nat → Int32} {ol : List Int32} {fl : FL} {L : AttL} (hA : AdOk h bs s0 sg ad) (hC : Cls h sg ad T n tp ol fl) (w : Wf T kd) (hS : SizT T) (hV : AtV h ad 120 L) (h12 : gA h (sg 12) 0 = nI 0) :
    ∃ h' ad' L', fX8_page (some (sg 0)) h = some (pgV T tp n, h') ∧ AdOk h' bs s0 sg ad' ∧ Cls h' sg ad' (pgTr T tp n) 0 tp ol (pgFl T fl tp n) ∧ AtV h' ad' 120 L' ∧ gA h' (sg 12) 0 = nI 0 ∧ FrP sg h ad h' ad' := by
  obtain ⟨hcb, hTp, hO, hF, hT, hP, hB120⟩ := id hC
  obtain ⟨c1, c4, c3, c5, c2, c6⟩ := id hcb
  have hn := hTp.2.2.2.2.1
  -- the tape goes
  have tz : ∀ {h1 : AH} {ad1 : Nat → Nat → Nat → Nat} {T1 : TS} {fl1 : FL} {L1 : AttL}, AdOk h1 bs s0 sg ad1 → Cls h1 sg ad1 T1 n tp ol fl1 → AtV h1 ad1 120 L1 → gA h1 (sg 12) 0 = nI 0 → FrP sg h ad h1 ad1 → AdOk (pI h1 301 (sg 1) (nI 0)) bs s0 sg ad1 ∧ Cls (pI h1 301 (sg 1) (nI 0)) sg ad1 T1 0 tp ol fl1 ∧ AtV (pI h1 301 (sg 1) (nI 0)) ad1 120 L1 ∧ gA (pI h1 301 (sg 1) (nI 0)) (sg 12) 0 = nI 0 ∧ FrP sg h ad (pI h1 301 (sg 1) (nI 0)) ad1 := by
    intro h1 ad1 T1 fl1 L1 a b c d e
    exact ⟨a.eq rfl rfl rfl, b.tree a (a.eq rfl rfl rfl) FrTA.rf.tape0 b.2.2.2.2.1.tape0 b.2.1.clear, c.pI (by omega), d, e.tr ⟨FrX.pI FrX.rf (Or.inr ⟨1, by omega, rfl⟩), Ext.same rfl⟩⟩
  have p52 : ∀ {h1 : AH} {ad1 : Nat → Nat → Nat → Nat} {T1 : TS} {fl1 : FL} (v : Int32), Cls h1 sg ad1 T1 n tp ol fl1 → fX8_page_52 (some (sg 0)) v h1 = some (v, pI h1 301 (sg 1) (nI 0)) := by
    intro h1 ad1 T1 fl1 v b
    simp only [fX8_page_52]
    simp only [↓gr_of b.1.1 b.1.2.1, ↓pi_of b.2.1.1]
  simp only [fX8_page, fX8_page_0]
  simp only [↓gr_of c1 c4, ↓cv_of hTp.1 (cls_bad hTp)]
  unfold pgV pgTr pgFl
  cases hb : badA tp n 0 with
  | some k =>
    have := badA_some _ _ _ hb
    refine ⟨_, ad, L, ?_, tz hA hC hV h12 FrP.rf⟩
    simp (disch := omega) only [oI_s, eqM1, ↓reduceIte, p52 _ hC]
  | none =>
    have hok : ∀ k, k < n → okb (tbv (tp k)) = true := fun k hk => badA_none _ _ hb k (by omega) (by omega)
    simp (disch := omega) only [oI_n, ↓reduceIte, ↓gr_of c1 c4, ↓gi_of hTp.1 hTp.2.2.2.1, ltN]
    by_cases h15 : n ≤ 1500
    · obtain ⟨h2, ad2, L2, g2, S2⟩ := cls_readAll hA hC w hS hV h12 h15 hok
      obtain ⟨-, -, hO3, h00, -⟩ := pgZ_ok (T := T) h15 hok
      have h1l := hO3.1
      have e12 : gA h2 (sg 12) 0 = nI 0 := by
        have := (S2.2.2.1.2 0 (by rw [List.length_take]; omega)).2
        rw [(oN1_take (show 0 < 1 by omega) h1l).2, h00] at this
        exact this
      have CB2 := S2.2.1.1
      simp only [h15, ↓reduceIte]
      refine ⟨_, ad2, L2, ?_, tz S2.1 S2.2.1 S2.2.2.2.2.2 e12 S2.2.2.2.2.1⟩
      simp only [show ¬ 1500 < n by omega, ↓reduceIte, ↓gr_of c1 c6, ↓cv_of hP.1 g2, ↓gr_of CB2.1 CB2.2.2.2.2.1, ↓gi_of S2.ct.1 S2.ct.2.2.2.2.1, p52 _ S2.2.1]
    · simp only [h15, ↓reduceIte]
      refine ⟨_, ad, L, ?_, tz hA hC hV h12 FrP.rf⟩
      simp only [show 1500 < n by omega, ↓reduceIte, p52 _ hC]
abbrev FrPg (m : Nat) (ra : Nat → Nat) : AH → AH → Prop := Fr (fun f a => a = m ∧ f ≠ 455) (fun a => ∃ k, (k = 2 ∨ 5 ≤ k) ∧ a = ra k)
theorem ref_cp36 {m n : Nat} {ra : Nat → Nat} {g : Nat → Int32} (hn : n ≤ 1500) : ∀ (j f i : Nat) (h : AH), i + j = n → j < f → RB h m ra → gI h 453 m = nI n → (∀ k, k < n → gA h (ra 2) k = g k ∧ isB (g k)) → (∀ k, k < i → gA h (ra 31) k = g k) → ∃ h', fX9_page_36 f (some m) (nI i) h = fX9_page_62 (some m) h' ∧ RB h' m ra ∧ (∀ k, k < n → gA h' (ra 31) k = g k) ∧ Fr (fun _ _ => False) (fun a => a = ra 31) h h' := by
  intro j
  induction j with
  | zero =>
    intro f i h hij hjf hB e h2 h31
    obtain ⟨f, rfl⟩ : ∃ g, f = g + 1 := ⟨f - 1, by omega⟩
    refine ⟨h, ?_, hB, fun k hk => h31 k (by omega), Fr.rf⟩
    rw [fX9_page_36]
    simp (disch := omega) only [↓gi_of hB.o e, leN, show n ≤ i by omega, ↓reduceIte]
  | succ j ih =>
    intro f i h hij hjf hB e h2 h31
    obtain ⟨f, rfl⟩ : ∃ g, f = g + 1 := ⟨f - 1, by omega⟩
    have hne : ra 2 ≠ ra 31 := fun q => by rw [hB.i] at q; omega
    have F0 : Fr (fun _ _ => False) (fun a => a = ra 31) h (pA h (ra 31) i (g i)) := Fr.pA Fr.rf rfl
    obtain ⟨h3, g3, B3, z3, F3⟩ := ih f (i + 1) (pA h (ra 31) i (g i)) (by omega) (by omega) hB e (fun k hk => ⟨by rw [gA_pA, if_neg (fun z => hne z.1)]; exact (h2 k hk).1, (h2 k hk).2⟩) (fun k hk => by
      rw [gA_pA]
      by_cases ek : k = i
      · rw [if_pos ⟨rfl, ek⟩, ek]
      · rw [if_neg (fun z => ek z.2)]; exact h31 k (by omega))
    refine ⟨h3, ?_, B3, z3, F0.tr F3⟩
    have hb : (g i).toInt8.toInt32 = g i := (h2 i (by omega)).2
    rw [fX9_page_36]
    simp (disch := omega) only [↓gi_of hB.o e, leN, show ¬ n ≤ i by omega, ↓reduceIte, ↓gr_of hB.o hB.r31, ↓gr_of hB.o hB.r2, ↓al_of hB.k2 (show i < 2000 by omega) (by omega) (h2 i (by omega)).1, ↓as_of hB.k31 (show i < 2000 by omega) (by omega), vn1, hb, nI_add]
    exact g3
theorem ref_readPage {h : AH} {m n : Nat} {ra : Nat → Nat} {tx : Nat → Nat} (hB : RB h m ra) (hs : SrcR h m ra n tx) (hok : ∀ q, q < n → okb (tx q) = true) (T : TS) : ∃ h', fX9_readPage (some m) h = some ((), h') ∧ RefT h' m ra (pgL tx n n 0 (T0 T, [], [(0, 0)])).1 ∧ FauR h' m ra (pgF (pgL tx n n 0 (T0 T, [], [(0, 0)]))) ∧ FrQ m ra h h' := by
  have hn := hs.2.1
  have B1 : RB (pI h 476 m (nI 0)) m ra := hB
  obtain ⟨h2, g2, R2, F2⟩ := ref_emptyTree B1 T
  have B2 := F2.RB B1
  have hno : ∀ c, ¬ (6 ≤ c ∧ c ≤ 23) → ¬ ∃ j, (6 ≤ j ∧ j ≤ 23) ∧ ra c = ra j := fun c hc z => by obtain ⟨j, hj, e⟩ := z; rw [hB.i] at e; omega
  have hno5 : ∀ c, c ≠ 29 → ¬ (ra c = ra 29) := fun c hc z => hc (by rw [hB.i] at z; exact z)
  have F1 : FrQ m ra h (pI h 476 m (nI 0)) := Fr.pI Fr.rf ⟨rfl, by omega, by omega, by omega⟩
  have F3 : Fr (fun f a => f = 480 ∧ a = m) (fun a => a = ra 29) h2 (pI (pA h2 (ra 29) 0 (nI 0)) 480 m (nI 1)) := Fr.pI (Fr.pA Fr.rf rfl) ⟨rfl, rfl⟩
  have FQ : FrQ m ra h (pI (pA h2 (ra 29) 0 (nI 0)) 480 m (nI 1)) := F1.tr ((F2.mo (fun f a z => ⟨z.2, by omega, by omega, by omega⟩) (fun a z => by obtain ⟨c, hc, e⟩ := z; exact ⟨c, by omega, by omega, e⟩)).tr (F3.mo (fun f a z => ⟨z.2, by omega, by omega, by omega⟩) (fun a z => ⟨29, by omega, by omega, z⟩)))
  have S0 : SR h m ra n tx (pI (pA h2 (ra 29) 0 (nI 0)) 480 m (nI 1)) (T0 T) [] [(0, 0)] := by
    refine ⟨FQ.RB hB, R2.fr F3 (by omega) (fun c h6 h23 => hno5 c (by omega)), ⟨?_, by simp, fun i _ hi => by simp at hi⟩, hs.fr FQ (by omega) (fun z => by obtain ⟨k, -, h2, e⟩ := z; rw [hB.i] at e; omega), ⟨?_, fun k hk => ?_⟩, FQ⟩
    · rw [F3.1 _ _ (by omega), F2.1 _ _ (by omega), gI_pI, if_pos ⟨rfl, rfl⟩]; rfl
    · rw [gI_pI, if_pos ⟨rfl, rfl⟩]; rfl
    · have e : k = 0 := by simp at hk; exact hk
      subst e
      refine ⟨?_, fun z => by omega⟩
      rw [gA_pI, gA_pA, if_pos ⟨rfl, rfl⟩]; rfl
  obtain ⟨h3, g3, S3⟩ := ref_pgL hn hok n FU 0 _ (T0 T, [], [(0, 0)]) (by omega) (by omega) (by have := FU_ge; omega) (T0_pg T) S0
  obtain ⟨-, hS3, hO3, -, hl3⟩ := pgL_ok hn hok n 0 (T0 T, [], [(0, 0)]) (by omega) (by omega) (T0_pg T)
  obtain ⟨h4, g4, S4, -⟩ := ref_close (fm := 1) hS3 (by omega) hO3.1 hO3 (by omega) S3
  refine ⟨h4, ?_, S4.2.1, S4.2.2.1, S4.2.2.2.2.2⟩
  have B21 : RB (pA h2 (ra 29) 0 (nI 0)) m ra := B2
  simp only [fX9_readPage, fX9_readPage_0]
  simp (disch := omega) only [↓pi_of hB.o, ↓cv_of B1.o g2, ↓gr_of B2.o B2.r29, ↓as_of B2.k29 (show 0 < 22 by omega) (by omega), vn0, ↓pi_of B21.o]
  rw [g3]
  simp only [fX9_readPage_114]
  simp only [↓cv_of S3.1.o g4]
theorem ref_page {h : AH} {m n : Nat} {ra : Nat → Nat} {T : TS} {tp : Nat → Int32} {fl : FL} (hB : RB h m ra) (hTp : TapeR h m ra n tp) (hb : ∀ i, i < n → isB (tp i)) (hR : RefT h m ra T) (hF : FauR h m ra fl) :
    ∃ h', fX9_page (some m) h = some (pgV T tp n, h') ∧ RefT h' m ra (pgTr T tp n) ∧ FauR h' m ra (pgFl T fl tp n) ∧ TapeR h' m ra 0 tp ∧ FrPg m ra h h' := by
  obtain ⟨h1, g1, X1, T1, F1⟩ := ref_take hB hTp hb
  have hn := hTp.2.1
  have B1 := F1.RB hB
  have hno : ∀ c, c ≠ 2 → ¬ (ra c = ra 2) := fun c hc z => hc (by rw [hB.i] at z; exact z)
  have R1 : RefT h1 m ra T := hR.fr F1 (by omega) (fun k h6 h23 => hno k (by omega))
  have U1 : FauR h1 m ra fl := hF.fr F1 (by omega) (hno 27 (by omega)) (hno 28 (by omega))
  have FA : FrPg m ra h h1 := F1.mo (fun f a z => ⟨z.2, by omega⟩) (fun a z => ⟨2, Or.inl rfl, z⟩)
  simp only [fX9_page, fX9_page_0]
  simp only [↓cv_of hB.o g1]
  unfold pgV pgTr pgFl
  cases hbad : badA tp n 0 with
  | some k =>
    have := badA_some _ _ _ hbad
    refine ⟨h1, ?_, R1, U1, T1, FA⟩
    simp (disch := omega) only [oI_s, lt0, ↓reduceIte, fX9_wrong, fX9_wrong_0, ↓oCL]
  | none =>
    have hok : ∀ k, k < n → okb (tbv (tp k)) = true := fun k hk => badA_none _ _ hbad k (by omega) (by omega)
    simp (disch := omega) only [oI_n, show ((-1 : Int32) < 0) = True by decide, ↓reduceIte, ↓gi_of B1.o X1.1, leN]
    by_cases h15 : n ≤ 1500
    · simp only [h15, ↓reduceIte]
      have F2 : Fr (fun f a => f = 482 ∧ a = m) (fun _ => False) h1 (pI h1 482 m (nI n)) := Fr.pI Fr.rf ⟨rfl, rfl⟩
      have B2 : RB (pI h1 482 m (nI n)) m ra := B1
      obtain ⟨h3, g3, B3, z3, F3⟩ := ref_cp36 (g := tp) h15 n FU 0 (pI h1 482 m (nI n)) (by omega) (by have := FU_ge; omega) B2 (by rw [gI_pI, if_neg (by omega)]; exact X1.1) (fun k hk => ⟨X1.2.2 k hk, hb k hk⟩) (fun k hk => by omega)
      have hs : SrcR h3 m ra n (fun k => tbv (tp k)) := ⟨by rw [F3.1 _ _ (fun z => z), gI_pI, if_pos ⟨rfl, rfl⟩], h15, fun k hk => okb_lt (hok k hk), fun k hk => by
        rw [z3 k hk, ← sx_lo _ (okb_lt (hok k hk))]
        exact sx_tbv (hb k hk)⟩
      obtain ⟨h4, g4, R4, U4, F4⟩ := ref_readPage B3 hs hok T
      have eZ : pgL (fun k => tbv (tp k)) n n 0 (T0 T, [], [(0, 0)]) = pgZ T tp n := rfl
      rw [eZ] at R4 U4
      have B4 := F4.RB B3
      have T4 : TapeR h4 m ra 0 tp := ((T1.fr F2 (by omega) (fun z => z)).fr F3 (fun z => z) (fun z => by have z' : ra 0 = ra 31 := z; rw [hB.i] at z'; omega)).fr F4 (fun z => z.2.1 rfl) (fun z => by obtain ⟨k, h1, h2, e⟩ := z; rw [hB.i] at e; omega)
      refine ⟨h4, ?_, R4, U4, T4, FA.tr ((F2.mo (fun f a z => ⟨z.2, by omega⟩) (fun a z => z.elim)).tr ((F3.mo (fun f a z => z.elim) (fun a z => ⟨31, by omega, z⟩)).tr (F4.mo (fun f a z => ⟨z.1, by omega⟩) (fun a z => by obtain ⟨k, h1, h2, e⟩ := z; exact ⟨k, by omega, e⟩))))⟩
      simp only [↓pi_of B1.o]
      rw [g3]
      simp only [fX9_page_62]
      simp only [↓cv_of B3.o g4, ↓gi_of B4.o R4.1]
    · refine ⟨h1, ?_, ?_, ?_, T1, FA⟩
      · simp only [h15, ↓reduceIte]
      · simp only [h15, ↓reduceIte]; exact R1
      · simp only [h15, ↓reduceIte]; exact U1

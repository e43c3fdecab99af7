/-! a page begins: THE ROOT alone -/
def offK (T : TS) (k : Nat) : TS := ((fun j => if j < k then false else T.1 j), T.2)
def offA (T : TS) : TS := ((fun _ => false), T.2)
def T0 (T : TS) : TS := uCnt (nwT (offA T) 0 0 [100, 105, 118]) 1
theorem T0_at (T : TS) : tIs (T0 T) 0 = true ∧ tTag (T0 T) 0 = 0 ∧ tNam (T0 T) 0 = [100, 105, 118] ∧ tPar (T0 T) 0 = none ∧ tFk (T0 T) 0 = none ∧ tLk (T0 T) 0 = none ∧ tNx (T0 T) 0 = none ∧ tBf (T0 T) 0 = none ∧ tDep (T0 T) 0 = 0 ∧ tAtt (T0 T) 0 = [] ∧ tTxt (T0 T) 0 = [] ∧ tLng (T0 T) 0 = false := by
  unfold T0
  rw [tIs_uCnt, tTag_uCnt, tNam_uCnt, tPar_uCnt, tFk_uCnt, tLk_uCnt, tNx_uCnt, tBf_uCnt, tDep_uCnt, tAtt_uCnt, tTxt_uCnt, tLng_uCnt]
  exact nw_at (offA T) 0 0 [100, 105, 118]
theorem T0_cnt (T : TS) : tCnt (T0 T) = 1 := by
  unfold T0
  rw [tCnt_uCnt]
theorem T0_is (T : TS) (j : Nat) : tIs (T0 T) j = if j = 0 then true else false := by
  unfold T0 nwT
  rw [tIs_uCnt, tIs_uIs]
  simp only [tIs_uTag, tIs_uNam, tIs_uPar, tIs_uFk, tIs_uLk, tIs_uNx, tIs_uBf, tIs_uDep, tIs_uAtt, tIs_uTxt, tIs_uLng]
  rfl
theorem T0_u {T : TS} {j : Nat} (h : tIs (T0 T) j = true) : j = 0 := by
  rw [T0_is] at h
  split at h
  · assumption
  · cases h
theorem T0_ok (T : TS) : Wf (T0 T) (fun _ => []) ∧ SizT (T0 T) ∧ OsOk (T0 T) [(0, 0)] := by
  obtain ⟨a1, a2, a3, a4, a5, a6, a7, a8, a9, a10, a11, a12⟩ := T0_at T
  have c1 := T0_cnt T
  have hu : ∀ j, tIs (T0 T) j = true → j = 0 := fun j => T0_u
  have hno : ∀ j, tIs (T0 T) j = if j = 0 then true else false := T0_is T
  have hv : vch [100, 105, 118] := by
    intro c hc
    simp only [List.mem_cons, List.not_mem_nil, or_false] at hc
    omega
  generalize T0 T = R at *
  have hcn : cnU (tIs R) 120 = 1 := by
    rw [cnU_eq (g := up (fun _ => false) 0 true) 120 (fun i _ => hno i), cnU_up (f := fun _ => false) rfl 120 (by omega)]
    have : ∀ N, cnU (fun _ => false) N = 0 := fun N => by
      induction N with
      | zero => rfl
      | succ N ih => unfold cnU; rw [ih]; rfl
    rw [this]
  refine ⟨⟨a1, a4, a9, a7, a8, fun i hi => ?_, fun x hx h0 => absurd (hu x hx) h0, fun i hi => ?_, ?_⟩, ⟨fun i hi => ?_, fun i hi => ?_⟩, by simp, by simp, rfl, fun k hk => ?_⟩
  · have e := hu i hi
    subst e
    exact ⟨⟨a5, a6⟩, List.nodup_nil, fun x hx => by cases hx⟩
  · have e := hu i hi
    subst e
    rw [a2, a3]
    exact ⟨(fun z => by cases z), fun _ => by decide⟩
  · rw [c1, hcn]
  · rw [hno, if_neg (by omega)]
  · have e := hu i hi
    subst e
    unfold SizN
    rw [a2, a3, a4, a5, a6, a7, a8, a9, a10, a11]
    exact ⟨by omega, by simp, hv, by simp, (fun q hq => by cases hq), by simp, (fun c hc => by cases hc), fun _ => rfl, by omega, fun j hj => by simp at hj⟩
  · have e : k = 0 := by simp at hk; exact hk
    subst e
    exact ⟨a1, by show tTag R 0 ≠ 17; rw [a2]; omega, a9, by show (0 : Nat) < 2000; omega⟩
/-- the class: all NODES go -/
theorem offK_up (T : TS) (k : Nat) : uIs (offK T k) k false = offK T (k + 1) := by
  unfold uIs offK up
  simp only [Prod.mk.injEq, and_true]
  funext j
  by_cases e : j = k
  · rw [if_pos e, if_pos (by omega)]
  · by_cases e2 : j < k
    · rw [if_neg e, if_pos e2, if_pos (by omega)]
    · rw [if_neg e, if_neg e2, if_neg (by omega)]
theorem cls_restart_L {bs s0 : Nat} {sg : Nat → Nat} {ad : Nat → Nat → Nat → Nat} {T : TS} : ∀ (c f i : Nat) (h : AH), i + c = 120 → c < f → AdOk h bs s0 sg ad → ClsT h ad (sg 8) (sg 9) (offK T i) → ∃ h', fX7_restart_2 f (some (sg 8)) (nI i) h = fX7_restart_36 (some (sg 8)) h' ∧ AdOk h' bs s0 sg ad ∧ ClsT h' ad (sg 8) (sg 9) (offK T 120) ∧ FrTB sg h ad h' ad ∧ gQ h' = gQ h := by
  intro c
  induction c with
  | zero =>
    intro f i h hic hcf hA hC
    obtain ⟨f, rfl⟩ : ∃ g, f = g + 1 := ⟨f - 1, by omega⟩
    obtain ⟨k1, r1, k2, -⟩ := id hC
    have e : i = 120 := by omega
    subst e
    refine ⟨h, ?_, hA, hC, FrTB.rf, rfl⟩
    rw [fX7_restart_2]
    simp (disch := omega) only [↓gr_of k1 r1, ↓an_of k2, leN, Nat.le_refl, ↓reduceIte]
  | succ c ih =>
    intro f i h hic hcf hA hC
    obtain ⟨f, rfl⟩ : ∃ g, f = g + 1 := ⟨f - 1, by omega⟩
    obtain ⟨k1, r1, k2, r2, i1, hN⟩ := id hC
    have hi : i < 120 := by omega
    rw [fX7_restart_2]
    simp (disch := omega) only [↓gr_of k1 r1, ↓an_of k2, leN, show ¬ 120 ≤ i by omega, ↓reduceIte, fX7_restart_30, nI_add]
    rcases hN i hi with ⟨q1, q2, q3⟩ | ⟨q1, q2, q3, q4⟩
    · have hC' : ClsT h ad (sg 8) (sg 9) (offK T (i + 1)) := by
        rw [← offK_up]
        refine hC.teq ⟨fun j => ?_, rfl, fun j hj => ⟨rfl, rfl, rfl, rfl, rfl, rfl, rfl, rfl, rfl, rfl, rfl⟩⟩
        rw [tIs_uIs]
        split
        · rename_i e; rw [e, q2]
        · rfl
      obtain ⟨h2, g2, A2, C2, F2, Q2⟩ := ih f (i + 1) h (by omega) (by omega) hA hC'
      refine ⟨h2, ?_, A2, C2, F2, Q2⟩
      simp (disch := omega) only [↓ql_of k2 hi (by omega) q1, ↓reduceIte]
      exact g2
    · obtain ⟨b1, b2, b3, b4, b5⟩ := id q2
      have hC' : ClsT (pI h 152 (ad 1 i 0) (nI 0)) ad (sg 8) (sg 9) (offK T (i + 1)) := by
        rw [← offK_up]
        exact hC.up1 (i := i) hA.1 (fun j hj => by rw [tIs_uIs, if_neg hj]) (fun j hj _ => ⟨rfl, rfl, rfl, rfl, rfl, rfl, rfl, rfl, rfl, rfl, rfl⟩) (S := fun a => a = ad 1 i 0) (FrX.pI FrX.rf rfl) (fun a z => ⟨1, 0, z⟩) (fun c j => hA.2.2.1 c i j 9) (fun c j => hA.2.2.1 c i j 8) rfl rfl (Or.inr ⟨q1, ⟨b1, by rw [gI_pI, if_neg (by omega)]; exact b2, b3, AtB.pI b4, b5⟩, by rw [gI_pI, if_pos ⟨rfl, rfl⟩, tIs_uIs, if_pos rfl]; rfl, fun z => by rw [tIs_uIs, if_pos rfl] at z; cases z⟩)
      obtain ⟨h2, g2, A2, C2, F2, Q2⟩ := ih f (i + 1) (pI h 152 (ad 1 i 0) (nI 0)) (by omega) (by omega) (hA.eq rfl rfl rfl) hC'
      refine ⟨h2, ?_, A2, C2, (FrTB.node hA hi b1 (FrX.pI FrX.rf rfl) rfl).tr F2, Q2⟩
      simp (disch := omega) only [↓ql_of k2 hi (by omega) q1, some_ne, ↓reduceIte, ↓pi_of b1]
      exact g2
theorem offK_0 (T : TS) : offK T 0 = T := by
  unfold offK
  simp
theorem offK_A {T : TS} (hS : SizT T) : offK T 120 = offA T := by
  unfold offK offA
  simp only [Prod.mk.injEq, and_true]
  funext j
  by_cases h : j < 120
  · rw [if_pos h]
  · rw [if_neg h]
    exact hS.1 j (by omega)
theorem cls_restart {h : AH} {bs s0 : Nat} {sg : Nat → Nat} {ad : Nat → Nat → Nat → Nat} {T : TS} (hA : AdOk h bs s0 sg ad) (hC : ClsT h ad (sg 8) (sg 9) T) (hS : SizT T) (hu : tIs T 0 = true) : ∃ h1 ad1, fX7_restart (some (sg 8)) h = some ((), h1) ∧ AdOk h1 bs s0 sg ad1 ∧ ClsT h1 ad1 (sg 8) (sg 9) (T0 T) ∧ FrTB sg h ad h1 ad1 := by
  obtain ⟨h2, g2, A2, C2, F2, Q2⟩ := cls_restart_L (T := T) 120 FU 0 h (by omega) (by have := FU_ge; omega) hA (by rw [offK_0]; exact hC)
  rw [offK_A hS] at C2
  have hq0 : gQ h2 (sg 9) 0 = some (ad 1 0 0) := by rw [Q2]; exact (hC.nd (by omega) hu).1
  obtain ⟨k1, r1, k2, r2, i1, hN⟩ := id C2
  have hB : NdB h2 ad 0 := by
    rcases hN 0 (by omega) with ⟨q1, -⟩ | ⟨-, q2, -⟩
    · rw [q1] at hq0; cases hq0
    · exact q2
  obtain ⟨h3, ad3, g3, A3, C3, F3, E3⟩ := cls_begin (tag := 0) (nm := [100, 105, 118]) A2 C2 ⟨fun _ _ => rfl, fun i hi => by cases hi⟩ (show 0 < 120 by omega) rfl hq0 hB (by omega)
  have k3 := C3.1
  refine ⟨pI h3 352 (sg 8) (nI 1), ad3, ?_, A3.eq rfl rfl rfl, C3.p352 1, F2.tr (F3.tr ⟨FrX.pI FrX.rf (Or.inr (Or.inl rfl)), ExtT.same rfl⟩)⟩
  simp only [fX7_restart, fX7_restart_0]
  rw [g2]
  simp only [fX7_restart_36]
  rw [show (6580598 : Int64) = lN (pack [100, 105, 118]) by decide]
  simp only [↓gr_of k1 r2, ↓cv_of hB.1 g3, ↓pi_of k3]
/-- the reference: the same -/
theorem ref_empty_L {m : Nat} {ra : Nat → Nat} : ∀ (j f i : Nat) (h : AH), i + j = 120 → j < f → RB h m ra → ∃ H, fX9_emptyTree_2 f (some m) (nI i) h = fX9_emptyTree_21 (some m) H ∧ Fr (fun _ _ => False) (fun a => a = ra 6) h H ∧ (∀ k, i ≤ k → k < 120 → gA H (ra 6) k = nI 0) ∧ ∀ k, k < i → gA H (ra 6) k = gA h (ra 6) k := by
  intro j
  induction j with
  | zero =>
    intro f i h hij hjf hB
    obtain ⟨f, rfl⟩ : ∃ g, f = g + 1 := ⟨f - 1, by omega⟩
    refine ⟨h, ?_, Fr.rf, fun k h1 h2 => by omega, fun _ _ => rfl⟩
    rw [fX9_emptyTree_2]
    simp (disch := omega) only [leN, show 120 ≤ i by omega, ↓reduceIte]
  | succ j ih =>
    intro f i h hij hjf hB
    obtain ⟨f, rfl⟩ : ∃ g, f = g + 1 := ⟨f - 1, by omega⟩
    obtain ⟨H, g, F, z1, z2⟩ := ih f (i + 1) (pA h (ra 6) i (nI 0)) (by omega) (by omega) hB
    have F0 : Fr (fun _ _ => False) (fun a => a = ra 6) h (pA h (ra 6) i (nI 0)) := Fr.pA Fr.rf rfl
    refine ⟨H, ?_, F0.tr F, fun k h1 h2 => ?_, fun k hk => ?_⟩
    · rw [fX9_emptyTree_2]
      simp (disch := omega) only [leN, show ¬ 120 ≤ i by omega, ↓reduceIte, ↓gr_of hB.o hB.r6, ↓as_of hB.k6 (show i < 120 by omega) (by omega), vn2a, nI_add]
      exact g
    · by_cases e : k = i
      · rw [z2 k (by omega), gA_pA, if_pos ⟨rfl, e⟩]
      · exact z1 k (by omega) h2
    · rw [z2 k (by omega), gA_pA, if_neg (by omega)]
theorem fr0_vals {H : AH} {m : Nat} {ra : Nat → Nat} (hi : ∀ i j, (ra i = ra j) = (i = j)) : gA (frH (pI H 475 m (nI 0)) ra m 0 (-1) 0 1) (ra 6) 0 = nI 1 ∧ (∀ j, j ≠ 0 → gA (frH (pI H 475 m (nI 0)) ra m 0 (-1) 0 1) (ra 6) j = gA H (ra 6) j) ∧ gA (frH (pI H 475 m (nI 0)) ra m 0 (-1) 0 1) (ra 10) 0 = -1 ∧ gA (frH (pI H 475 m (nI 0)) ra m 0 (-1) 0 1) (ra 11) 0 = -1 ∧ gA (frH (pI H 475 m (nI 0)) ra m 0 (-1) 0 1) (ra 12) 0 = -1 ∧ gA (frH (pI H 475 m (nI 0)) ra m 0 (-1) 0 1) (ra 13) 0 = -1 ∧ gA (frH (pI H 475 m (nI 0)) ra m 0 (-1) 0 1) (ra 14) 0 = -1 ∧ gA (frH (pI H 475 m (nI 0)) ra m 0 (-1) 0 1) (ra 15) 0 = nI 0 ∧ gA (frH (pI H 475 m (nI 0)) ra m 0 (-1) 0 1) (ra 16) 0 = nI 0 ∧ gA (frH (pI H 475 m (nI 0)) ra m 0 (-1) 0 1) (ra 22) 0 = nI 0 ∧ gA (frH (pI H 475 m (nI 0)) ra m 0 (-1) 0 1) (ra 23) 0 = nI 0 ∧ gI (frH (pI H 475 m (nI 0)) ra m 0 (-1) 0 1) 475 m = nI 1 := by
  unfold frH
  refine ⟨?_, fun j hj => ?_, ?_, ?_, ?_, ?_, ?_, ?_, ?_, ?_, ?_, ?_⟩
  · simp only [gA_pA, gA_pI, hi, Nat.reduceEqDiff, false_and, and_self, ↓reduceIte]
  · simp only [gA_pA, gA_pI, hi, Nat.reduceEqDiff, false_and, and_false, hj, ↓reduceIte]
  · simp only [gA_pA, gA_pI, hi, Nat.reduceEqDiff, false_and, and_self, ↓reduceIte]
  · simp only [gA_pA, gA_pI, hi, Nat.reduceEqDiff, false_and, and_self, ↓reduceIte]
  · simp only [gA_pA, gA_pI, hi, Nat.reduceEqDiff, false_and, and_self, ↓reduceIte]
  · simp only [gA_pA, gA_pI, hi, Nat.reduceEqDiff, false_and, and_self, ↓reduceIte]
  · simp only [gA_pA, gA_pI, hi, Nat.reduceEqDiff, false_and, and_self, ↓reduceIte]
  · simp only [gA_pA, gA_pI, hi, Nat.reduceEqDiff, false_and, and_self, ↓reduceIte]
  · simp only [gA_pA, gA_pI, hi, Nat.reduceEqDiff, false_and, and_self, ↓reduceIte]
  · simp only [gA_pA, gA_pI, hi, Nat.reduceEqDiff, false_and, and_self, ↓reduceIte]
  · simp only [gA_pA, gA_pI, hi, Nat.reduceEqDiff, false_and, and_self, ↓reduceIte]
  · simp only [gI_pA, gI_pI, and_self, ↓reduceIte]
theorem ref_freshRoot {H : AH} {m : Nat} {ra : Nat → Nat} (BH : RB H m ra) (z : gA H (ra 6) 0 = nI 0) : fX9_fresh (some m) (-1) (pI H 475 m (nI 0)) = some (nI 0, frH (pI H 475 m (nI 0)) ra m 0 (-1) 0 1) := by
  have B1 : RB (pI H 475 m (nI 0)) m ra := BH
  have z1' : gA (pI H 475 m (nI 0)) (ra 6) 0 = nI 0 := z
  have e475 : gI (pI H 475 m (nI 0)) 475 m = nI 0 := by rw [gI_pI, if_pos ⟨rfl, rfl⟩]
  obtain ⟨fu, hfu⟩ : ∃ q, FU = q + 1 := ⟨FU - 1, by have := FU_ge; omega⟩
  have hh : fX9_fresh (some m) (-1) (pI H 475 m (nI 0)) = fX9_fresh_41 (some m) (-1) (nI 0) (nI 0) (pI H 475 m (nI 0)) := by
    simp only [fX9_fresh, fX9_fresh_0, fX9_fresh_17, ↓reduceIte]
    rw [hfu, fX9_fresh_20]
    simp (disch := omega) only [leN, show ¬ 120 ≤ 0 by omega, ↓reduceIte, ↓gr_of B1.o B1.r6, ↓al_of B1.k6 (show 0 < 120 by omega) (by omega) z1', eq0n]
  rw [hh]
  generalize pI H 475 m (nI 0) = X at *
  simp only [fX9_fresh_41, fX9_fresh_198, frH]
  simp (disch := omega) only [eqN, leN, show ¬ 0 = 120 by omega, show 0 ≤ 20 by omega, ↓reduceIte]
  simp (disch := first | exact And.intro rfl rfl | omega) only [↓B1.g6, ↓B1.s6, ↓B1.gi, ↓B1.pi, ↓B1.g15, ↓B1.s15, ↓B1.g10, ↓B1.s10, ↓B1.g11, ↓B1.s11, ↓B1.g12, ↓B1.s12, ↓B1.g13, ↓B1.s13, ↓B1.g14, ↓B1.s14, ↓B1.g16, ↓B1.s16, ↓B1.g22, ↓B1.s22, ↓B1.g23, ↓B1.s23, ↓B1.g9, ↓B1.s9, gI_pA, nI_add, vn2a, vn2b, vn0, e475]
/-- what THE ROOT alone is, in the arrays -/
def RtV (Y : AH) (m : Nat) (ra : Nat → Nat) : Prop := gI Y 475 m = nI 1 ∧ gA Y (ra 6) 0 = nI 1 ∧ (∀ j, j ≠ 0 → j < 120 → gA Y (ra 6) j = nI 0) ∧ gA Y (ra 7) 0 = nI 0 ∧ gA Y (ra 9) 0 = nI 3 ∧ gA Y (ra 8) 0 = nI 100 ∧ gA Y (ra 8) 1 = nI 105 ∧ gA Y (ra 8) 2 = nI 118 ∧ gA Y (ra 10) 0 = -1 ∧ gA Y (ra 11) 0 = -1 ∧ gA Y (ra 12) 0 = -1 ∧ gA Y (ra 13) 0 = -1 ∧ gA Y (ra 14) 0 = -1 ∧ gA Y (ra 15) 0 = nI 0 ∧ gA Y (ra 16) 0 = nI 0 ∧ gA Y (ra 22) 0 = nI 0 ∧ gA Y (ra 23) 0 = nI 0
theorem RtV.ref {Y : AH} {m : Nat} {ra : Nat → Nat} (q : RtV Y m ra) (T : TS) : RefT Y m ra (T0 T) := by
  obtain ⟨h475, v6, v6o, h7, h9, h80, h81, h82, v10, v11, v12, v13, v14, v15, v16, v22, v23⟩ := q
  obtain ⟨b1, b2, b3, b4, b5, b6, b7, b8, b9, b10, b11, b12⟩ := T0_at T
  have b13 := T0_cnt T
  have b14 : ∀ i, i ≠ 0 → tIs (T0 T) i = false := fun i e => by rw [T0_is, if_neg e]
  generalize T0 T = R at *
  refine ⟨by rw [b13]; exact h475, fun i hi => ?_⟩
  unfold RefN
  by_cases e : i = 0
  · subst e
    rw [b1, b2, b3, b4, b5, b6, b7, b8, b9, b10, b11, b12]
    refine ⟨v6, fun _ => ⟨h7, h9, fun k hk => ?_, v10, v11, v12, v13, v14, v15, v16, fun a ha => by simp at ha, v22, fun k hk => by simp at hk, v23⟩⟩
    have hk3 : k < 3 := hk
    rcases k with _ | _ | _ | k
    · exact h80
    · exact h81
    · exact h82
    · omega
  · rw [b14 i e, v6o i e hi]
    exact ⟨rfl, fun z => by cases z⟩
theorem ref_empty21 {H : AH} {m : Nat} {ra : Nat → Nat} (BH : RB H m ra) (z1 : ∀ k, k < 120 → gA H (ra 6) k = nI 0) : ∃ Y, fX9_emptyTree_21 (some m) H = some ((), Y) ∧ RtV Y m ra ∧ Fr (fun f a => f = 475 ∧ a = m) (fun a => ∃ k, (6 ≤ k ∧ k ≤ 23) ∧ a = ra k) H Y := by
  have B1 : RB (pI H 475 m (nI 0)) m ra := BH
  have gf := ref_freshRoot BH (z1 0 (by omega))
  have F2 : Fr (fun f a => f = 475 ∧ a = m) (fun a => ∃ k, (6 ≤ k ∧ k ≤ 23) ∧ a = ra k) H (pI H 475 m (nI 0)) := Fr.pI Fr.rf ⟨rfl, rfl⟩
  have FH : Fr (fun f a => f = 475 ∧ a = m) (fun a => ∃ k, (6 ≤ k ∧ k ≤ 23) ∧ a = ra k) (pI H 475 m (nI 0)) (frH (pI H 475 m (nI 0)) ra m 0 (-1) 0 1) := Fr.pA (Fr.pA (Fr.pA (Fr.pA (Fr.pA (Fr.pA (Fr.pA (Fr.pA (Fr.pA (Fr.pA (Fr.pI (Fr.pA Fr.rf ⟨6, by omega, rfl⟩) ⟨rfl, rfl⟩) ⟨15, by omega, rfl⟩) ⟨10, by omega, rfl⟩) ⟨11, by omega, rfl⟩) ⟨12, by omega, rfl⟩) ⟨13, by omega, rfl⟩) ⟨14, by omega, rfl⟩) ⟨16, by omega, rfl⟩) ⟨22, by omega, rfl⟩) ⟨23, by omega, rfl⟩) ⟨9, by omega, rfl⟩
  obtain ⟨v6, v6o, v10, v11, v12, v13, v14, v15, v16, v22, v23, v475⟩ := fr0_vals (H := H) (m := m) (ra := ra) BH.i
  generalize frH (pI H 475 m (nI 0)) ra m 0 (-1) 0 1 = X at *
  have BX : RB X m ra := FH.RB B1
  have X1 : RB (pA X (ra 7) 0 (nI 0)) m ra := BX
  have X2 : RB (pA (pA X (ra 7) 0 (nI 0)) (ra 8) 0 (nI 100)) m ra := BX
  have X3 : RB (pA (pA (pA X (ra 7) 0 (nI 0)) (ra 8) 0 (nI 100)) (ra 8) 1 (nI 105)) m ra := BX
  have X4 : RB (pA (pA (pA (pA X (ra 7) 0 (nI 0)) (ra 8) 0 (nI 100)) (ra 8) 1 (nI 105)) (ra 8) 2 (nI 118)) m ra := BX
  have hq : ∀ c j, c ≠ 7 → c ≠ 8 → c ≠ 9 → gA (pA (pA (pA (pA (pA X (ra 7) 0 (nI 0)) (ra 8) 0 (nI 100)) (ra 8) 1 (nI 105)) (ra 8) 2 (nI 118)) (ra 9) 0 (nI 3)) (ra c) j = gA X (ra c) j := fun c j h7 h8 h9 => by simp only [gA_pA, BH.i, h7, h8, h9, false_and, ↓reduceIte]
  refine ⟨pA (pA (pA (pA (pA X (ra 7) 0 (nI 0)) (ra 8) 0 (nI 100)) (ra 8) 1 (nI 105)) (ra 8) 2 (nI 118)) (ra 9) 0 (nI 3), ?_, ?_, F2.tr (FH.tr (Fr.pA (Fr.pA (Fr.pA (Fr.pA (Fr.pA Fr.rf ⟨7, by omega, rfl⟩) ⟨8, by omega, rfl⟩) ⟨8, by omega, rfl⟩) ⟨8, by omega, rfl⟩) ⟨9, by omega, rfl⟩))⟩
  · simp only [fX9_emptyTree_21]
    simp (disch := omega) only [↓pi_of BH.o, ↓cv_of B1.o gf, ↓gr_of BX.o BX.r7, ↓as_of BX.k7 (show 0 < 120 by omega) (by omega), vn0, vn1, nI_b (show 100 < 128 by omega), nI_b (show 105 < 128 by omega), nI_b (show 118 < 128 by omega), ↓gr_of X1.o X1.r8, ↓as_of X1.k8 (show 0 < 960 by omega) (by omega), ↓gr_of X2.o X2.r8, ↓as_of X2.k8 (show 1 < 960 by omega) (by omega), ↓gr_of X3.o X3.r8, ↓as_of X3.k8 (show 2 < 960 by omega) (by omega), ↓gr_of X4.o X4.r9, ↓as_of X4.k9 (show 0 < 120 by omega) (by omega)]
  · refine ⟨v475, ?_, fun j hj hj2 => ?_, ?_, ?_, ?_, ?_, ?_, ?_, ?_, ?_, ?_, ?_, ?_, ?_, ?_, ?_⟩
    · rw [hq 6 0 (by omega) (by omega) (by omega)]; exact v6
    · rw [hq 6 j (by omega) (by omega) (by omega), v6o j hj]; exact z1 j hj2
    · simp only [gA_pA, BH.i, Nat.reduceEqDiff, false_and, and_self, ↓reduceIte]
    · simp only [gA_pA, and_self, ↓reduceIte]
    · simp only [gA_pA, BH.i, Nat.reduceEqDiff, false_and, and_false, and_self, ↓reduceIte]
    · simp only [gA_pA, BH.i, Nat.reduceEqDiff, false_and, and_false, and_self, ↓reduceIte]
    · simp only [gA_pA, BH.i, Nat.reduceEqDiff, false_and, and_false, and_self, ↓reduceIte]
    · rw [hq 10 0 (by omega) (by omega) (by omega)]; exact v10
    · rw [hq 11 0 (by omega) (by omega) (by omega)]; exact v11
    · rw [hq 12 0 (by omega) (by omega) (by omega)]; exact v12
    · rw [hq 13 0 (by omega) (by omega) (by omega)]; exact v13
    · rw [hq 14 0 (by omega) (by omega) (by omega)]; exact v14
    · rw [hq 15 0 (by omega) (by omega) (by omega)]; exact v15
    · rw [hq 16 0 (by omega) (by omega) (by omega)]; exact v16
    · rw [hq 22 0 (by omega) (by omega) (by omega)]; exact v22
    · rw [hq 23 0 (by omega) (by omega) (by omega)]; exact v23
theorem ref_emptyTree {h : AH} {m : Nat} {ra : Nat → Nat} (hB : RB h m ra) (T : TS) : ∃ h', fX9_emptyTree (some m) h = some ((), h') ∧ RefT h' m ra (T0 T) ∧ Fr (fun f a => f = 475 ∧ a = m) (fun a => ∃ k, (6 ≤ k ∧ k ≤ 23) ∧ a = ra k) h h' := by
  obtain ⟨H, g1, F1, z1, -⟩ := ref_empty_L (m := m) (ra := ra) 120 FU 0 h (by omega) (by have := FU_ge; omega) hB
  obtain ⟨Y, g2, V, F2⟩ := ref_empty21 (F1.RB hB) (fun k hk => z1 k (by omega) hk)
  refine ⟨Y, ?_, V.ref T, (F1.mo (fun _ _ z => z.elim) (fun a z => ⟨6, by omega, z⟩)).tr F2⟩
  simp only [fX9_emptyTree, fX9_emptyTree_0]
  rw [g1]
  exact g2

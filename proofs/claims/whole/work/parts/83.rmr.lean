/-! remove(n): the reference -/
theorem RefT.off1 {h : AH} {m i : Nat} {ra : Nat → Nat} {T : TS} (q : RefT h m ra T) (hSz : Sz0T T) (hra : ∀ i j, ra i = ra j ↔ i = j) (hc : 1 ≤ tCnt T) : RefT (pI (pA h (ra 6) i (nI 0)) 475 m (gI (pA h (ra 6) i (nI 0)) 475 m - nI 1)) m ra (uCnt (uIs T i false) (tCnt T - 1)) := by
  refine q.up1 (i := i) hSz (fun j hj => REq.pI (REq.rf.pA hra (fun _ _ z => hj z.symm))) (fun j hj => by show tIs (uIs T i false) j = _; rw [tIs_uIs, if_neg hj]) (fun j hj _ => ⟨rfl, rfl, rfl, rfl, rfl, rfl, rfl, rfl, rfl, rfl, rfl⟩) ?_ (fun hi => ⟨?_, fun z => ?_⟩)
  · rw [gI_pI, if_pos ⟨rfl, rfl⟩]
    show gI h 475 m - nI 1 = nI (tCnt T - 1)
    rw [q.1, nI_sub hc]
  · rw [gA_pI, gA_pA, if_pos ⟨rfl, rfl⟩]
    show _ = bI (tIs (uIs T i false) i)
    rw [tIs_uIs, if_pos rfl]
    rfl
  · have : tIs (uIs T i false) i = true := z
    rw [tIs_uIs, if_pos rfl] at this
    cases this
def mrR (ra : Nat → Nat) (m : Nat) (h : AH) : List Nat → AH
  | [] => h
  | x :: l => mrR ra m (pI (pA h (ra 6) x (nI 0)) 475 m (gI (pA h (ra 6) x (nI 0)) 475 m - nI 1)) l
theorem mrR_fr (ra : Nat → Nat) (m : Nat) : ∀ (l : List Nat) (h : AH), Fr (fun f a => f = 475 ∧ a = m) (fun a => a = ra 6) h (mrR ra m h l) := by
  intro l
  induction l with
  | nil => intro h; exact Fr.rf
  | cons x l ih =>
    intro h
    have f1 : Fr (fun f a => f = 475 ∧ a = m) (fun a => a = ra 6) h (pI (pA h (ra 6) x (nI 0)) 475 m (gI (pA h (ra 6) x (nI 0)) 475 m - nI 1)) := Fr.pI (Fr.pA Fr.rf rfl) ⟨rfl, rfl⟩
    exact f1.tr (ih _)
theorem mrR_T {m : Nat} {ra : Nat → Nat} (hra : ∀ i j, ra i = ra j ↔ i = j) : ∀ (l : List Nat) (h : AH) (T : TS), RefT h m ra T → Sz0T T → l.length ≤ tCnt T → RefT (mrR ra m h l) m ra (offT T l) := by
  intro l
  induction l with
  | nil => intro h T hR _ _; exact hR
  | cons x l ih =>
    intro h T hR hz hc
    simp only [List.length_cons] at hc
    refine ih _ _ (hR.off1 hz hra (by omega)) (fun i hi => ?_) (by show l.length ≤ tCnt T - 1; omega)
    have hi' : tIs (uIs T x false) i = true := hi
    rw [tIs_uIs] at hi'
    split at hi'
    · cases hi'
    · exact hz i hi'
theorem LnR.fr {h h' : AH} {ra : Nat → Nat} {T : TS} {S : Nat → Prop} {top : Nat} (q : LnR h ra T S top) (e : ∀ k j, k = 10 ∨ k = 11 ∨ k = 13 → gA h' (ra k) j = gA h (ra k) j) : LnR h' ra T S top := by
  intro i hi
  obtain ⟨a, b, c⟩ := q i hi
  rw [e 10 i (by omega), e 11 i (by omega), e 13 i (by omega)]
  exact ⟨a, b, c⟩
theorem ref_rmLoop {m n : Nat} {ra : Nat → Nat} {T : TS} {kd : Nat → List Nat} (w : Wf T kd) (hS : SizT T) (hu : tIs T n = true) : ∀ (l : List Nat) (o : Option Nat) (f : Nat) (h : AH), Seg (aftT T n) o l none → (∀ x ∈ l, x ∈ pre kd 20 n) → l.length < f → RB h m ra → LnR h ra T (fun x => x ∈ pre kd 20 n) n → fX9_remove0_96 f (some m) (nI n) (oI o) h = some ((), mrR ra m h l) := by
  have hn := hS.lt hu
  intro l
  induction l with
  | nil =>
    intro o f h hs hm hf hB hL
    obtain ⟨f, rfl⟩ : ∃ g, f = g + 1 := ⟨f - 1, by simp at hf; omega⟩
    have e : o = none := hs
    subst e
    rw [fX9_remove0_96]
    simp only [oI, ↓reduceIte, fX9_remove0_130]
    rfl
  | cons x l ih =>
    intro o f h hs hm hf hB hL
    simp only [List.length_cons] at hf
    obtain ⟨f, rfl⟩ : ∃ g, f = g + 1 := ⟨f - 1, by omega⟩
    obtain ⟨rfl, hs2⟩ := hs
    have hxm := hm x List.mem_cons_self
    obtain ⟨ux, dx, -⟩ := pre_mem w 20 n hu x hxm
    have hx := hS.lt ux
    have s9 := (hS.2 x ux).2.2.2.2.2.2.2.2.1
    have haf := ref_after hB hL w hS hn hxm (anc_pre w hu 20 x hxm (by omega)) (by omega)
    have ihh := ih _ f (pI (pA h (ra 6) x (nI 0)) 475 m (gI (pA h (ra 6) x (nI 0)) 475 m - nI 1)) hs2 (fun y hy => hm y (List.mem_cons_of_mem _ hy)) (by omega) hB (hL.fr (fun k j hk => by
      rw [gA_pI, gA_pA, if_neg (fun z => by have := z.1; rw [hB.i] at this; omega)]))
    rw [fX9_remove0_96]
    simp (disch := omega) only [oI_s, eqM1, ↓reduceIte, ↓uCV, hB.o, haf, ↓oCL, ↓uGR, ↓uAS, ↓uGI, ↓uPI, hB.r6, hB.k6, hx, gK_pA, and_self, vn2a, Nat.reduceAdd]
    exact ihh
theorem Sz0T.eq {T T' : TS} (q : Sz0T T) (e1 : ∀ i, tIs T' i = true → tIs T i = true) (e2 : ∀ i, tNam T' i = tNam T i ∧ tAtt T' i = tAtt T i ∧ tTxt T' i = tTxt T i) : Sz0T T' := fun i hi => by
  obtain ⟨a, b, c⟩ := e2 i
  unfold Sz0
  rw [a, b, c]
  exact q i (e1 i hi)
abbrev FrRm (m : Nat) (ra : Nat → Nat) : AH → AH → Prop := Fr (fun f a => f = 475 ∧ a = m) (fun a => ∃ k, (6 ≤ k ∧ k ≤ 23) ∧ a = ra k)
theorem ref_remove0 {h : AH} {m p n : Nat} {ra : Nat → Nat} {T : TS} {kd : Nat → List Nat} (hB : RB h m ra) (hR : RefT h m ra T) (w : Wf T kd) (hS : SizT T) (hu : tIs T n = true) (hp : tPar T n = some p) : ∃ h1, fX9_remove0 (some m) (nI n) h = some ((), h1) ∧ RefT h1 m ra (rmT T p n (pre kd 20 n)) ∧ FrRm m ra h h1 := by
  obtain ⟨hup, hdp, hnp⟩ := w.par hu hp
  obtain ⟨nb, nn, npn, mb, mx⟩ := un_ne w hu hp
  have hn := hS.lt hu
  have hpl := hS.lt hup
  have hra := hB.2.1
  obtain ⟨w1, w2, w3, w4, w5, w6, w7, w8, -⟩ := (hR.2 n hn).2 hu
  rw [hp] at w4
  have first : ∃ h1, fX9_remove0 (some m) (nI n) h = fX9_remove0_47 (some m) (nI n) h1 ∧ RB h1 m ra ∧ RefT h1 m ra (un1 T p n) ∧ FrRm m ra h h1 := by
    unfold un1
    simp only [fX9_remove0, fX9_remove0_0]
    cases hb : tBf T n with
    | none =>
      rw [hb] at w8
      refine ⟨pA h (ra 11) p (oI (tNx T n)), ?_, hB, hR.p11 hS.z hra hup _, Fr.pA Fr.rf ⟨11, by omega, rfl⟩⟩
      simp (disch := omega) only [↓uGR, ↓uAL, ↓uAS, hB.o, hB.r14, hB.k14, hB.r11, hB.k11, hB.r10, hB.k10, hB.r13, hB.k13, hn, hpl, w8, w4, w7, oI_n, oI_s, ↓reduceIte, and_self, vn0, Nat.reduceAdd]
    | some b =>
      rw [hb] at w8
      obtain ⟨ub, -⟩ := w.kid hup (mb b hb)
      have hbl := hS.lt ub
      refine ⟨pA h (ra 13) b (oI (tNx T n)), ?_, hB, hR.p13 hS.z hra ub _, Fr.pA Fr.rf ⟨13, by omega, rfl⟩⟩
      simp (disch := omega) only [↓uGR, ↓uAL, ↓uAS, hB.o, hB.r14, hB.k14, hB.r13, hB.k13, hn, hbl, w8, w7, oI_s, eqM1, ↓reduceIte, and_self, vn0, Nat.reduceAdd]
  obtain ⟨h1, g1, B1, R1, F1⟩ := first
  have vals : (∀ i, tIs (un1 T p n) i = tIs T i) ∧ tBf (un1 T p n) n = tBf T n ∧ tNx (un1 T p n) n = tNx T n ∧ tPar (un1 T p n) n = some p ∧ (∀ i, tNam (un1 T p n) i = tNam T i ∧ tAtt (un1 T p n) i = tAtt T i ∧ tTxt (un1 T p n) i = tTxt T i) := by
    unfold un1
    cases hb : tBf T n with
    | none => exact ⟨fun _ => rfl, hb, rfl, hp, fun _ => ⟨rfl, rfl, rfl⟩⟩
    | some b => exact ⟨fun _ => rfl, hb, by rw [tNx_uNx, if_neg (fun z => nb (by rw [hb, ← z]))], hp, fun _ => ⟨rfl, rfl, rfl⟩⟩
  obtain ⟨e1, e2, e3, e4, e5⟩ := vals
  obtain ⟨-, -, -, u4, -, -, u7, u8, -⟩ := (R1.2 n hn).2 (by rw [e1]; exact hu)
  rw [e4] at u4
  rw [e2] at u8
  rw [e3] at u7
  have z1 : Sz0T (un1 T p n) := hS.z.eq (fun i hi => by rw [e1] at hi; exact hi) e5
  have second : ∃ h2, fX9_remove0_47 (some m) (nI n) h1 = fX9_remove0_94 (some m) (nI n) h2 ∧ RB h2 m ra ∧ RefT h2 m ra (unT T p n) ∧ FrRm m ra h h2 := by
    unfold unT un2
    simp only [fX9_remove0_47]
    cases hx : tNx T n with
    | none =>
      rw [hx] at u7
      refine ⟨pA h1 (ra 12) p (oI (tBf T n)), ?_, B1, R1.p12 z1 hra (by rw [e1]; exact hup) _, F1.pA ⟨12, by omega, rfl⟩⟩
      simp (disch := omega) only [↓uGR, ↓uAL, ↓uAS, B1.o, B1.r14, B1.k14, B1.r12, B1.k12, B1.r10, B1.k10, B1.r13, B1.k13, hn, hpl, u8, u4, u7, oI_n, oI_s, ↓reduceIte, and_self, vn0, Nat.reduceAdd]
    | some x =>
      rw [hx] at u7
      obtain ⟨ux, -⟩ := w.kid hup (mx x hx)
      have hxl := hS.lt ux
      refine ⟨pA h1 (ra 14) x (oI (tBf T n)), ?_, B1, R1.p14 z1 hra (by rw [e1]; exact ux) _, F1.pA ⟨14, by omega, rfl⟩⟩
      simp (disch := omega) only [↓uGR, ↓uAL, ↓uAS, B1.o, B1.r14, B1.k14, B1.r13, B1.k13, hn, hxl, u8, u7, oI_s, eqM1, ↓reduceIte, and_self, vn0, Nat.reduceAdd]
  obtain ⟨h2, g2, B2, R2, F2⟩ := second
  have U := un_vals T p n
  have pm := pre_mem w 20 n hu
  have hpnl : p ∉ pre kd 20 n := fun z => by have := (pm p z).2.1; omega
  have L2 : LnR h2 ra T (fun x => x ∈ pre kd 20 n) n := fun x hx => by
    obtain ⟨ux, dx, px⟩ := pm x hx
    obtain ⟨-, -, -, t4, t5, -, t7, -⟩ := (R2.2 x (hS.lt ux)).2 (by rw [(U x).2.2.2.2.1]; exact ux)
    rw [(U x).2.2.2.2.2.2.2.1] at t4
    rw [(U x).2.2.1, if_neg (fun z => hpnl (by rw [← z.1]; exact hx))] at t5
    refine ⟨ux, t5, fun hxn => ?_⟩
    obtain ⟨q, q1, q2⟩ := px hxn
    have hq := (w.kid (pm q q1).1 q2).2.1
    rw [(U x).1, if_neg (fun z => by
      have := (w.kid hup (mb x z)).2.1
      rw [hq] at this
      cases this
      exact hpnl q1)] at t7
    refine ⟨t4, t7, fun p' hp' => ?_⟩
    rw [hq] at hp'
    cases hp'
    exact q1
  have g3 := ref_rmLoop (m := m) w hS hu (pre kd 20 n) (some n) FU h2 (seg_top w hS hu) (fun x hx => hx) (by have := FU_ge; have := pre_len w hS hu; omega) B2 L2
  have z2 : Sz0T (unT T p n) := hS.z.eq (fun i hi => by rw [(U i).2.2.2.2.1] at hi; exact hi) (fun i => ⟨(U i).2.2.2.2.2.2.1, (U i).2.2.2.2.2.2.2.2.2.1, (U i).2.2.2.2.2.2.2.2.2.2.1⟩)
  refine ⟨mrR ra m h2 (pre kd 20 n), ?_, mrR_T hra _ _ _ R2 z2 ?_, F2.tr ((mrR_fr ra m _ h2).mo (fun _ _ z => z) (fun a z => ⟨6, by omega, z⟩))⟩
  · rw [g1, g2]
    exact g3
  · rw [(U 0).2.2.2.2.2.2.2.2.2.2.2.2]
    exact w.cntle hS (pre_nodup w hS hu) (fun x hx => (pm x hx).1)
theorem ref_remove {h : AH} {m : Nat} {ra : Nat → Nat} {T : TS} {kd : Nat → List Nat} (hB : RB h m ra) (hR : RefT h m ra T) (w : Wf T kd) (hS : SizT T) (v : Int32) : ∃ h1, fX9_remove (some m) v h = some (rvV T kd v, h1) ∧ RefT h1 m ra (rvT T kd v) ∧ FrRm m ra h h1 := by
  simp only [fX9_remove, fX9_remove_0, fX9_remove_12]
  simp only [↓uCV, hB.o, ref_there hB hR, ↓oCL, bI0, ↓reduceIte, Nat.reduceAdd]
  unfold rvV rvT rmV
  cases hn : nAt T v with
  | none => exact ⟨h, by simp only [Option.isSome_none, ↓reduceIte], hR, Fr.rf⟩
  | some n =>
    obtain ⟨hnl, hu, rfl⟩ := nAt_some hn
    simp (disch := omega) only [Option.isSome_some, Bool.true_eq_false, ↓reduceIte, eq0n]
    by_cases h0 : n = 0
    · subst h0
      rw [w.2.1]
      exact ⟨h, by simp only [↓reduceIte, Option.map_none], hR, Fr.rf⟩
    · obtain ⟨p, p1, p2, p3⟩ := w.2.2.2.2.2.2.1 n hu h0
      obtain ⟨h1, g1, R1, F1⟩ := ref_remove0 hB hR w hS hu p2
      have B1 := F1.RB hB
      have c5 : gI h1 475 m = nI (tCnt T - (pre kd 20 n).length) := by
        have e : tCnt (rmT T p n (pre kd 20 n)) = tCnt T - (pre kd 20 n).length := by
          show tCnt (offT _ _) = _
          rw [(off_vals _ _).2.2, (un_vals T p n 0).2.2.2.2.2.2.2.2.2.2.2.2]
        rw [← e]
        exact R1.1
      rw [p2]
      refine ⟨h1, ?_, R1, F1⟩
      simp only [h0, ↓reduceIte, g1, ↓oCL, ↓uGI, B1.o, c5, Nat.reduceAdd, Option.map_some]

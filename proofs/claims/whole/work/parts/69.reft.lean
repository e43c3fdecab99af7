/-! the reference's arrays: which NODE a place belongs to -/
def own (k j : Nat) : Nat := if k = 8 then j / 8 else if k = 17 then j / 32 else if k = 18 then j / 4 else if k = 20 then j / 4 else if k = 19 then j / 240 else if k = 21 then j / 400 else j
def REq (h h' : AH) (ra : Nat → Nat) (i : Nat) : Prop := ∀ k j, 6 ≤ k → k ≤ 23 → own k j = i → gA h' (ra k) j = gA h (ra k) j
theorem REq.rf {h : AH} {ra : Nat → Nat} {i : Nat} : REq h h ra i := fun _ _ _ _ _ => rfl
theorem REq.tr {h h1 h2 : AH} {ra : Nat → Nat} {i : Nat} (q : REq h h1 ra i) (r : REq h1 h2 ra i) : REq h h2 ra i := fun k j a b c => (r k j a b c).trans (q k j a b c)
theorem REq.pA {h h1 : AH} {ra : Nat → Nat} {i k j : Nat} {v : Int32} (q : REq h h1 ra i) (hra : ∀ i j, ra i = ra j ↔ i = j) (hk : 6 ≤ k → k ≤ 23 → own k j ≠ i) : REq h (pA h1 (ra k) j v) ra i := by
  refine q.tr (fun k' j' a b c => ?_)
  rw [gA_pA, if_neg]
  rintro ⟨z1, z2⟩
  have e := (hra k' k).mp z1
  subst e z2
  exact hk a b c
theorem REq.pI {h h1 : AH} {ra : Nat → Nat} {i f a : Nat} {v : Int32} (q : REq h h1 ra i) : REq h (pI h1 f a v) ra i := q
theorem REq.fr {h h1 : AH} {ra : Nat → Nat} {i : Nat} {I : Nat → Nat → Prop} {A : Nat → Prop} (w : Fr I A h h1) (hA : ∀ k, 6 ≤ k → k ≤ 23 → ¬ A (ra k)) : REq h h1 ra i := fun k j a b _ => w.2.2.2.1 _ _ (hA k a b)
/-- the sizes alone -/
def Sz0 (T : TS) (i : Nat) : Prop := (tNam T i).length ≤ 8 ∧ AtS (tAtt T i) ∧ (tTxt T i).length ≤ 400
def Sz0T (T : TS) : Prop := ∀ i, tIs T i = true → Sz0 T i
theorem SizT.z {T : TS} (q : SizT T) : Sz0T T := fun i hu => by
  obtain ⟨s1, s2, s3, s4, s5, s6, s7, s8, s9, s10⟩ := q.2 i hu
  exact ⟨s2, ⟨s4, s5⟩, s6⟩
theorem RefN.tr {h h' : AH} {ra : Nat → Nat} {T T' : TS} {i : Nat} (q : RefN h ra T i) (e : REq h h' ra i) (hS : tIs T i = true → Sz0 T i) (hs : tIs T' i = tIs T i) (hT : tIs T i = true → TSame T T' i) : RefN h' ra T' i := by
  obtain ⟨q0, q1⟩ := q
  unfold RefN
  rw [hs]
  refine ⟨by rw [e 6 i (by omega) (by omega) rfl]; exact q0, fun hu => ?_⟩
  obtain ⟨w1, w2, w3, w4, w5, w6, w7, w8, w9, w10, w11, w12, w13, w14⟩ := q1 hu
  obtain ⟨t1, t2, t3, t4, t5, t6, t7, t8, t9, t10, t11⟩ := hT hu
  obtain ⟨s2, s45, s6⟩ := hS hu
  rw [t1, t2, t3, t4, t5, t6, t7, t8, t9, t10, t11, e 7 i (by omega) (by omega) rfl, e 9 i (by omega) (by omega) rfl, e 10 i (by omega) (by omega) rfl, e 11 i (by omega) (by omega) rfl, e 12 i (by omega) (by omega) rfl, e 13 i (by omega) (by omega) rfl, e 14 i (by omega) (by omega) rfl, e 15 i (by omega) (by omega) rfl, e 16 i (by omega) (by omega) rfl, e 22 i (by omega) (by omega) rfl, e 23 i (by omega) (by omega) rfl]
  refine ⟨w1, w2, fun k hk => ?_, w4, w5, w6, w7, w8, w9, w10, fun a ha => ?_, w12, fun k hk => ?_, w14⟩
  · rw [e 8 (8 * i + k) (by omega) (by omega) (show (8 * i + k) / 8 = i by omega)]; exact w3 k hk
  · obtain ⟨a1, a2, a3, a4⟩ := w11 a ha
    obtain ⟨z1, z2, z3, z4⟩ := s45.get ha
    have s4 := s45.1
    refine ⟨?_, fun k hk => ?_, ?_, fun k hk => ?_⟩
    · rw [e 18 (4 * i + a) (by omega) (by omega) (show (4 * i + a) / 4 = i by omega)]; exact a1
    · rw [e 17 (8 * (4 * i + a) + k) (by omega) (by omega) (show (8 * (4 * i + a) + k) / 32 = i by omega)]; exact a2 k hk
    · rw [e 20 (4 * i + a) (by omega) (by omega) (show (4 * i + a) / 4 = i by omega)]; exact a3
    · rw [e 19 (60 * (4 * i + a) + k) (by omega) (by omega) (show (60 * (4 * i + a) + k) / 240 = i by omega)]; exact a4 k hk
  · rw [e 21 (400 * i + k) (by omega) (by omega) (show (400 * i + k) / 400 = i by omega)]; exact w13 k hk
theorem RefT.up1 {h h' : AH} {m i : Nat} {ra : Nat → Nat} {T T' : TS} (q : RefT h m ra T) (hSz : Sz0T T) (e : ∀ j, j ≠ i → REq h h' ra j) (hs : ∀ j, j ≠ i → tIs T' j = tIs T j) (hT : ∀ j, j ≠ i → tIs T j = true → TSame T T' j) (hc : gI h' 475 m = nI (tCnt T')) (hn : i < 120 → RefN h' ra T' i) : RefT h' m ra T' := by
  refine ⟨hc, fun j hj => ?_⟩
  by_cases z : j = i
  · subst z; exact hn hj
  · exact (q.2 j hj).tr (e j z) (fun hu => hSz j hu) (hs j z) (hT j z)
/-- two trees that are one where they are used -/
def TEq (T T' : TS) : Prop := (∀ i, tIs T' i = tIs T i) ∧ tCnt T' = tCnt T ∧ ∀ i, tIs T i = true → TSame T T' i
theorem RefT.teq {h : AH} {m : Nat} {ra : Nat → Nat} {T T' : TS} (q : RefT h m ra T) (hSz : Sz0T T) (e : TEq T T') : RefT h m ra T' :=
  ⟨by rw [e.2.1]; exact q.1, fun j hj => (q.2 j hj).tr REq.rf (fun hu => hSz j hu) (e.1 j) (e.2.2 j)⟩
theorem ClsT.teq {h : AH} {ad : Nat → Nat → Nat → Nat} {tr nd : Nat} {T T' : TS} (q : ClsT h ad tr nd T) (e : TEq T T') : ClsT h ad tr nd T' := by
  obtain ⟨q1, q2, q3, q4, q5, q6⟩ := q
  exact ⟨q1, q2, q3, q4, by rw [e.2.1]; exact q5, fun j hj => (q6 j hj).tr (e.1 j) (e.2.2 j) (fun _ _ => rfl) (fun _ _ _ => rfl) (FrX.rf (S := fun _ => False)) (fun _ _ _ _ z => z) rfl (fun _ _ z => z)⟩
/-- the class as a whole -/
def PR (h : AH) (sg : Nat → Nat) (ad : Nat → Nat → Nat → Nat) : Prop := gK h (sg 10) = (6, 0) ∧ gR h 250 (sg 10) = some (sg 1) ∧ gR h 251 (sg 10) = some (sg 8) ∧ gR h 252 (sg 10) = some (sg 5) ∧ gR h 253 (sg 10) = some (ad 2 120 0) ∧ gR h 254 (sg 10) = some (sg 11) ∧ gR h 255 (sg 10) = some (sg 12) ∧ gK h (sg 11) = (103, 21) ∧ gK h (sg 12) = (100, 21)
def Cls (h : AH) (sg : Nat → Nat) (ad : Nat → Nat → Nat → Nat) (T : TS) (n : Nat) (tp : Nat → Int32) (ol : List Int32) (fl : FL) : Prop := CB h (sg 0) (sg 1) (sg 3) (sg 5) (sg 8) (sg 10) ∧ TapeC h (sg 1) (sg 2) n tp ∧ OutC h (sg 3) (sg 4) ol ∧ FauC h (sg 5) (sg 6) (sg 7) fl ∧ ClsT h ad (sg 8) (sg 9) T ∧ PR h sg ad ∧ AtB h ad 120
/-- what a change of the TREE may touch: its NODES, its own object and row, the tape's object -/
def TA (sg : Nat → Nat) (h : AH) (ad : Nat → Nat → Nat → Nat) (a : Nat) : Prop := (∃ i, i < 120 ∧ Own h ad i a) ∨ a = sg 8 ∨ a = sg 9 ∨ a = sg 1
theorem TA.ext {sg : Nat → Nat} {h h' : AH} {ad ad' : Nat → Nat → Nat → Nat} {a : Nat} (q : TA sg h ad a) (e : Ext h ad h' ad') : TA sg h' ad' a := by
  rcases q with ⟨i, hi, z⟩ | z
  · exact Or.inl ⟨i, hi, z.ext e⟩
  · exact Or.inr z
/-- names: made ones stay, and those of the TAG that is read -/
def ExtT (h : AH) (ad : Nat → Nat → Nat → Nat) (h' : AH) (ad' : Nat → Nat → Nat → Nat) : Prop := Ext h ad h' ad' ∧ ∀ c j, ad' c 120 j = ad c 120 j
theorem ExtT.rf {h : AH} {ad : Nat → Nat → Nat → Nat} : ExtT h ad h ad := ⟨Ext.rf, fun _ _ => rfl⟩
theorem ExtT.tr {h h1 h2 : AH} {ad ad1 ad2 : Nat → Nat → Nat → Nat} (q : ExtT h ad h1 ad1) (r : ExtT h1 ad1 h2 ad2) : ExtT h ad h2 ad2 := ⟨q.1.tr r.1, fun c j => (r.2 c j).trans (q.2 c j)⟩
theorem ExtT.same {h h' : AH} {ad : Nat → Nat → Nat → Nat} (e : gN h' = gN h) : ExtT h ad h' ad := ⟨Ext.same e, fun _ _ => rfl⟩
/-- a frame of the TREE, over two steps -/
def FrTA (sg : Nat → Nat) (h : AH) (ad : Nat → Nat → Nat → Nat) (h' : AH) (ad' : Nat → Nat → Nat → Nat) : Prop := FrX (TA sg h' ad') h h' ∧ ExtT h ad h' ad'
theorem FrTA.rf {sg : Nat → Nat} {h : AH} {ad : Nat → Nat → Nat → Nat} : FrTA sg h ad h ad := ⟨FrX.rf, ExtT.rf⟩
theorem FrTA.tr {sg : Nat → Nat} {h h1 h2 : AH} {ad ad1 ad2 : Nat → Nat → Nat → Nat} (q : FrTA sg h ad h1 ad1) (r : FrTA sg h1 ad1 h2 ad2) : FrTA sg h ad h2 ad2 := ⟨(q.1.mo (fun _ z => z.ext r.2.1)).tr r.1, q.2.tr r.2⟩
theorem TA.no {sg : Nat → Nat} {h : AH} {bs s0 : Nat} {ad : Nat → Nat → Nat → Nat} (hA : AdOk h bs s0 sg ad) {k : Nat} (h1 : k ≠ 1) (h8 : k ≠ 8) (h9 : k ≠ 9) : ¬ TA sg h ad (sg k) := by
  rintro (⟨i, -, c, j, e, -⟩ | z | z | z)
  · exact hA.2.2.1 _ _ _ _ e.symm
  · exact h8 ((hA.2.1 _ _).mp z)
  · exact h9 ((hA.2.1 _ _).mp z)
  · exact h1 ((hA.2.1 _ _).mp z)
theorem Cls.tree {h h' : AH} {bs s0 : Nat} {sg : Nat → Nat} {ad ad' : Nat → Nat → Nat → Nat} {T T' : TS} {n n' : Nat} {tp tp' : Nat → Int32} {ol : List Int32} {fl : FL} (q : Cls h sg ad T n tp ol fl) (hA : AdOk h bs s0 sg ad) (hA' : AdOk h' bs s0 sg ad') (w : FrTA sg h ad h' ad') (hT : ClsT h' ad' (sg 8) (sg 9) T') (ht : TapeC h' (sg 1) (sg 2) n' tp') : Cls h' sg ad' T' n' tp' ol fl := by
  obtain ⟨q1, q2, q3, q4, q5, q6, q7⟩ := q
  obtain ⟨w1, w2, w3⟩ := w
  have no := fun k h1 h8 h9 => TA.no (k := k) hA' h1 h8 h9
  refine ⟨q1.fx w1 (no 0 (by omega) (by omega) (by omega)), ht, q3.fx w1 (no 3 (by omega) (by omega) (by omega)) (no 4 (by omega) (by omega) (by omega)), q4.fx w1 (no 5 (by omega) (by omega) (by omega)) (no 6 (by omega) (by omega) (by omega)) (no 7 (by omega) (by omega) (by omega)), hT, ?_, q7.tr w3 w1 (fun c j _ _ z => ?_) (fun c j z => hA.un hA'.lt z)⟩
  · obtain ⟨-, -, a3, -, -, a6⟩ := w1 (sg 10) (no 10 (by omega) (by omega) (by omega))
    obtain ⟨-, -, -, -, -, b6⟩ := w1 (sg 11) (no 11 (by omega) (by omega) (by omega))
    obtain ⟨-, -, -, -, -, c6⟩ := w1 (sg 12) (no 12 (by omega) (by omega) (by omega))
    unfold PR
    rw [a3, a3, a3, a3, a3, a3, a6, b6, c6, w3]
    exact q6
  · rw [← w3] at z
    rcases z with ⟨i, hi, c', j', e, -⟩ | z | z | z
    · rw [hA'.1.e] at e; omega
    · exact hA'.2.2.1 _ _ _ _ z
    · exact hA'.2.2.1 _ _ _ _ z
    · exact hA'.2.2.1 _ _ _ _ z
/-- the same, but the tape isn't touched -/
def TB (sg : Nat → Nat) (h : AH) (ad : Nat → Nat → Nat → Nat) (a : Nat) : Prop := (∃ i, i < 120 ∧ Own h ad i a) ∨ a = sg 8 ∨ a = sg 9
theorem TB.ext {sg : Nat → Nat} {h h' : AH} {ad ad' : Nat → Nat → Nat → Nat} {a : Nat} (q : TB sg h ad a) (e : Ext h ad h' ad') : TB sg h' ad' a := by
  rcases q with ⟨i, hi, z⟩ | z
  · exact Or.inl ⟨i, hi, z.ext e⟩
  · exact Or.inr z
def FrTB (sg : Nat → Nat) (h : AH) (ad : Nat → Nat → Nat → Nat) (h' : AH) (ad' : Nat → Nat → Nat → Nat) : Prop := FrX (TB sg h' ad') h h' ∧ ExtT h ad h' ad'
theorem FrTB.rf {sg : Nat → Nat} {h : AH} {ad : Nat → Nat → Nat → Nat} : FrTB sg h ad h ad := ⟨FrX.rf, ExtT.rf⟩
theorem FrTB.tr {sg : Nat → Nat} {h h1 h2 : AH} {ad ad1 ad2 : Nat → Nat → Nat → Nat} (q : FrTB sg h ad h1 ad1) (r : FrTB sg h1 ad1 h2 ad2) : FrTB sg h ad h2 ad2 := ⟨(q.1.mo (fun _ z => z.ext r.2.1)).tr r.1, q.2.tr r.2⟩
theorem TB.no {sg : Nat → Nat} {h : AH} {bs s0 : Nat} {ad : Nat → Nat → Nat → Nat} (hA : AdOk h bs s0 sg ad) {k : Nat} (h8 : k ≠ 8) (h9 : k ≠ 9) : ¬ TB sg h ad (sg k) := by
  rintro (⟨i, -, c, j, e, -⟩ | z | z)
  · exact hA.2.2.1 _ _ _ _ e.symm
  · exact h8 ((hA.2.1 _ _).mp z)
  · exact h9 ((hA.2.1 _ _).mp z)
theorem FrTB.a {sg : Nat → Nat} {h h' : AH} {ad ad' : Nat → Nat → Nat → Nat} (q : FrTB sg h ad h' ad') : FrTA sg h ad h' ad' := ⟨q.1.mo (fun a z => by
  rcases z with z | z | z
  · exact Or.inl z
  · exact Or.inr (Or.inl z)
  · exact Or.inr (Or.inr (Or.inl z))), q.2⟩
theorem FrTB.tape {sg : Nat → Nat} {h h' : AH} {bs s0 n : Nat} {ad ad' : Nat → Nat → Nat → Nat} {tp : Nat → Int32} (q : FrTB sg h ad h' ad') (hA : AdOk h' bs s0 sg ad') (t : TapeC h (sg 1) (sg 2) n tp) : TapeC h' (sg 1) (sg 2) n tp := t.fx q.1 (TB.no hA (by omega) (by omega)) (TB.no hA (by omega) (by omega))
theorem FrTB.cb {sg : Nat → Nat} {h h' : AH} {bs s0 : Nat} {ad ad' : Nat → Nat → Nat → Nat} (q : FrTB sg h ad h' ad') (hA : AdOk h' bs s0 sg ad') (t : CB h (sg 0) (sg 1) (sg 3) (sg 5) (sg 8) (sg 10)) : CB h' (sg 0) (sg 1) (sg 3) (sg 5) (sg 8) (sg 10) := t.fx q.1 (TB.no hA (by omega) (by omega))
theorem FrTA.tape0 {sg : Nat → Nat} {h h1 : AH} {ad ad1 : Nat → Nat → Nat → Nat} (d : FrTA sg h ad h1 ad1) : FrTA sg h ad (pI h1 301 (sg 1) (nI 0)) ad1 := d.tr ⟨FrX.pI FrX.rf (Or.inr (Or.inr (Or.inr rfl))), ExtT.same rfl⟩
theorem ClsT.tape0 {h1 : AH} {ad1 : Nat → Nat → Nat → Nat} {T1 : TS} {a tr nd : Nat} (b : ClsT h1 ad1 tr nd T1) : ClsT (pI h1 301 a (nI 0)) ad1 tr nd T1 := b.fr (Fr.pI (I := fun f x => f = 301 ∧ x = a) (A := fun _ => False) Fr.rf ⟨rfl, rfl⟩) (fun f a z => by unfold treeF; omega) (fun _ _ z => z) (fun _ z => z)

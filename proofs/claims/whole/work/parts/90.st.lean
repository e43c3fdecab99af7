/-! the page is read: the class's state -/
def PA (sg : Nat → Nat) (h : AH) (ad : Nat → Nat → Nat → Nat) (a : Nat) : Prop := (∃ c i j, a = ad c i j ∧ a < gN h) ∨ ∃ k, k < 13 ∧ a = sg k
theorem PA.ext {sg : Nat → Nat} {h h' : AH} {ad ad' : Nat → Nat → Nat → Nat} {a : Nat} (q : PA sg h ad a) (e : Ext h ad h' ad') : PA sg h' ad' a := by
  rcases q with ⟨c, i, j, e1, e2⟩ | z
  · exact Or.inl ⟨c, i, j, by rw [e.2 c i j (by rw [← e1]; exact e2)]; exact e1, Nat.lt_of_lt_of_le e2 e.1⟩
  · exact Or.inr z
def FrP (sg : Nat → Nat) (h : AH) (ad : Nat → Nat → Nat → Nat) (h' : AH) (ad' : Nat → Nat → Nat → Nat) : Prop := FrX (PA sg h' ad') h h' ∧ Ext h ad h' ad'
theorem FrP.rf {sg : Nat → Nat} {h : AH} {ad : Nat → Nat → Nat → Nat} : FrP sg h ad h ad := ⟨FrX.rf, Ext.rf⟩
theorem FrP.tr {sg : Nat → Nat} {h h1 h2 : AH} {ad ad1 ad2 : Nat → Nat → Nat → Nat} (q : FrP sg h ad h1 ad1) (r : FrP sg h1 ad1 h2 ad2) : FrP sg h ad h2 ad2 := ⟨(q.1.mo (fun _ z => z.ext r.2)).tr r.1, q.2.tr r.2⟩
theorem FrTB.p {sg : Nat → Nat} {h h' : AH} {ad ad' : Nat → Nat → Nat → Nat} (q : FrTB sg h ad h' ad') : FrP sg h ad h' ad' := ⟨q.1.mo (fun a z => by
  rcases z with ⟨i, -, c, j, e, l⟩ | z | z
  · exact Or.inl ⟨c, i, j, e, l⟩
  · exact Or.inr ⟨8, by omega, z⟩
  · exact Or.inr ⟨9, by omega, z⟩), q.2.1⟩
theorem Fr.p {sg : Nat → Nat} {h h' : AH} {ad : Nat → Nat → Nat → Nat} {I : Nat → Nat → Prop} {A : Nat → Prop} (w : Fr I A h h') (hI : ∀ f a, I f a → ∃ k, k < 13 ∧ a = sg k) (hA : ∀ a, A a → ∃ k, k < 13 ∧ a = sg k) : FrP sg h ad h' ad := ⟨Fr.x w (fun f a z => Or.inr (hI f a z)) (fun a z => Or.inr (hA a z)), Ext.same w.2.2.2.2.2.2.1⟩
abbrev OS : Type := List (Nat × Nat)
def oN1 (os : OS) (k : Nat) : Nat := (os.getD k (0, 0)).1
def oP1 (os : OS) (k : Nat) : Nat := (os.getD k (0, 0)).2
def OsC (h : AH) (sg : Nat → Nat) (ad : Nat → Nat → Nat → Nat) (os : OS) : Prop := gI h 256 (sg 10) = nI os.length ∧ ∀ k, k < os.length → gQ h (sg 11) k = some (ad 1 (oN1 os k) 0) ∧ gA h (sg 12) k = nI (oP1 os k)
def OsOk (T : TS) (os : OS) : Prop := 1 ≤ os.length ∧ os.length ≤ 21 ∧ oN1 os 0 = 0 ∧ ∀ k, k < os.length → tIs T (oN1 os k) = true ∧ tTag T (oN1 os k) ≠ 17 ∧ tDep T (oN1 os k) = k ∧ oP1 os k < 2000
/-- all of the class while a page is read: since h0 -/
abbrev OLA : Type := List Int32 × AttL
def St (h0 : AH) (ad0 : Nat → Nat → Nat → Nat) (bs s0 : Nat) (sg : Nat → Nat) (n : Nat) (tp : Nat → Int32) (ol : OLA) (h : AH) (ad : Nat → Nat → Nat → Nat) (T : TS) (fl : FL) (os : OS) (p : Nat) : Prop := AdOk h bs s0 sg ad ∧ Cls h sg ad T n tp ol.1 fl ∧ OsC h sg ad os ∧ gI h 257 (sg 10) = nI p ∧ FrP sg h0 ad0 h ad ∧ AtV h ad 120 ol.2
theorem St.put {h0 h h' : AH} {ad0 ad : Nat → Nat → Nat → Nat} {bs s0 n p p' : Nat} {sg : Nat → Nat} {tp : Nat → Int32} {ol : OLA} {T : TS} {fl fl' : FL} {os os' : OS} (q : St h0 ad0 bs s0 sg n tp ol h ad T fl os p) {I : Nat → Nat → Prop} {A : Nat → Prop} (w : Fr I A h h') (hI : ∀ f a, I f a → ¬ treeF f ∧ f ≠ 301 ∧ f ≠ 201 ∧ ∃ k, k < 13 ∧ a = sg k) (hA : ∀ a, A a → a = sg 6 ∨ a = sg 7 ∨ a = sg 12) (hF : FauC h' (sg 5) (sg 6) (sg 7) fl') (hO : OsC h' sg ad os') (hp : gI h' 257 (sg 10) = nI p') : St h0 ad0 bs s0 sg n tp ol h' ad T fl' os' p' := by
  obtain ⟨q1, ⟨c1, c2, c3, c4, c5, c6, c7⟩, q3, q4, q5, q6⟩ := q
  have hA2 : ∀ k, k ≠ 6 → k ≠ 7 → k ≠ 12 → ¬ A (sg k) := fun k h6 h7 h12 z => by
    rcases hA _ z with e | e | e
    · exact h6 ((q1.2.1 _ _).mp e)
    · exact h7 ((q1.2.1 _ _).mp e)
    · exact h12 ((q1.2.1 _ _).mp e)
  have hA3 : ∀ c i j, ¬ A (ad c i j) := fun c i j z => by
    rcases hA _ z with e | e | e
    · exact q1.2.2.1 _ _ _ _ e
    · exact q1.2.2.1 _ _ _ _ e
    · exact q1.2.2.1 _ _ _ _ e
  refine ⟨q1.eq w.2.2.2.2.2.2.1 w.2.2.2.2.2.2.2 w.2.2.2.2.2.1, ⟨w.CB c1, c2.fr w (fun z => (hI _ _ z).2.1 rfl) (hA2 2 (by omega) (by omega) (by omega)), c3.fr w (fun z => (hI _ _ z).2.2.1 rfl) (hA2 4 (by omega) (by omega) (by omega)), hF, c5.fr w (fun f a z => (hI f a z).1) (fun i j => hA3 6 i j) (fun i => hA3 4 i 0), ?_, c7.eq w.2.2.1 w.2.2.2.2.2.1 w.2.2.2.2.1 w.2.2.2.2.2.2.1⟩, hO, hp, q5.tr (w.p (fun f a z => (hI f a z).2.2.2) (fun a z => ?_)), q6.fr (fun f a hf => w.1 f a (fun z => (hI f a z).1 hf)) w.2.1 w.2.2.2.2.1 (fun j k => w.2.2.2.1 _ _ (hA3 6 120 j))⟩
  · unfold PR
    rw [w.2.2.1, w.2.2.2.2.2.1]
    exact c6
  · rcases hA _ z with e | e | e
    · exact ⟨6, by omega, e⟩
    · exact ⟨7, by omega, e⟩
    · exact ⟨12, by omega, e⟩
theorem St.at {h0 h : AH} {ad0 ad : Nat → Nat → Nat → Nat} {bs s0 n p : Nat} {sg : Nat → Nat} {tp : Nat → Int32} {ol : OLA} {T : TS} {fl : FL} {os : OS} (q : St h0 ad0 bs s0 sg n tp ol h ad T fl os p) (v : Nat) : St h0 ad0 bs s0 sg n tp ol (pI h 257 (sg 10) (nI v)) ad T fl os v := by
  have w : Fr (fun f a => f = 257 ∧ a = sg 10) (fun _ => False) h (pI h 257 (sg 10) (nI v)) := Fr.pI Fr.rf ⟨rfl, rfl⟩
  obtain ⟨q1, q2, q3, q4, q5⟩ := id q
  exact q.put w (fun f a z => ⟨by unfold treeF; omega, by omega, by omega, 10, by omega, z.2⟩) (fun a z => z.elim) (q2.2.2.2.1.fr w (by omega) (fun z => z) (fun z => z)) ⟨by rw [w.1 _ _ (by omega)]; exact q3.1, q3.2⟩ (by rw [gI_pI, if_pos ⟨rfl, rfl⟩])
theorem St.tell {h0 h : AH} {ad0 ad : Nat → Nat → Nat → Nat} {bs s0 n p : Nat} {sg : Nat → Nat} {tp : Nat → Int32} {ol : OLA} {T : TS} {fl : FL} {os : OS} (q : St h0 ad0 bs s0 sg n tp ol h ad T fl os p) (hl : fl.length + 1 < 1000000) (a b : Int32) : ∃ h', fX2_tell (some (sg 5)) a b h = some ((), h') ∧ St h0 ad0 bs s0 sg n tp ol h' ad T (fl ++ [(a, b)]) os p := by
  obtain ⟨q1, q2, q3, q4, q5⟩ := id q
  obtain ⟨h1, g1, X1, F1⟩ := cls_tell q2.2.2.2.1 hl a b
  refine ⟨h1, g1, q.put F1 (fun f a z => ⟨by unfold treeF; omega, by omega, by omega, 5, by omega, z.2⟩) (fun a z => z.elim Or.inl (fun y => Or.inr (Or.inl y))) X1 ⟨by rw [F1.1 _ _ (by omega)]; exact q3.1, fun k hk => ?_⟩ (by rw [F1.1 _ _ (by omega)]; exact q4)⟩
  rw [F1.2.2.2.2.1, F1.2.2.2.1 _ _ (fun z => by rcases z with z | z <;> (have := (q1.2.1 _ _).mp z; omega))]
  exact q3.2 k hk
theorem St.tree {h0 h h' : AH} {ad0 ad ad' : Nat → Nat → Nat → Nat} {bs s0 n p : Nat} {sg : Nat → Nat} {tp : Nat → Int32} {ol : OLA} {T T' : TS} {fl : FL} {os : OS} (q : St h0 ad0 bs s0 sg n tp ol h ad T fl os p) (hOs : ∀ k, k < os.length → oN1 os k < 120 ∧ tIs T (oN1 os k) = true) (A' : AdOk h' bs s0 sg ad') (F : FrTB sg h ad h' ad') (C' : ClsT h' ad' (sg 8) (sg 9) T') : St h0 ad0 bs s0 sg n tp ol h' ad' T' fl os p := by
  obtain ⟨q1, q2, q3, q4, q5, q6⟩ := id q
  have x10 := F.1 (sg 10) (TB.no A' (by omega) (by omega))
  have x11 := F.1 (sg 11) (TB.no A' (by omega) (by omega))
  have x12 := F.1 (sg 12) (TB.no A' (by omega) (by omega))
  refine ⟨A', q2.tree q1 A' F.a C' (F.tape A' q2.2.1), ⟨by rw [x10.1]; exact q3.1, fun k hk => ?_⟩, by rw [x10.1]; exact q4, q5.tr F.p, q6.tr (F.2.2) F.1 (fun c j _ _ z => ?_)⟩
  rotate_left
  · rw [← F.2.2] at z
    rcases z with ⟨i, hi, c', j', e, -⟩ | z | z
    · rw [A'.1.e] at e; omega
    · exact A'.2.2.1 _ _ _ _ z
    · exact A'.2.2.1 _ _ _ _ z
  obtain ⟨ul, u⟩ := hOs k hk
  have hk1 := (q2.2.2.2.2.1.nd ul u).2.1.1
  rw [x11.2.2.2.2.1, x12.2.2.2.1, F.2.1.2 1 _ 0 (q1.md hk1)]
  exact q3.2 k hk
theorem OsOk.u {T : TS} {os : OS} (q : OsOk T os) (hS : SizT T) : ∀ k, k < os.length → oN1 os k < 120 ∧ tIs T (oN1 os k) = true := fun k hk => ⟨hS.lt (q.2.2.2 k hk).1, (q.2.2.2 k hk).1⟩
theorem St.rd {h0 h : AH} {ad0 ad : Nat → Nat → Nat → Nat} {bs s0 n p : Nat} {sg : Nat → Nat} {tp : Nat → Int32} {ol : OLA} {T : TS} {fl : FL} {os : OS} (q : St h0 ad0 bs s0 sg n tp ol h ad T fl os p) : PR h sg ad := q.2.1.2.2.2.2.2.1
theorem St.tp {h0 h : AH} {ad0 ad : Nat → Nat → Nat → Nat} {bs s0 n p : Nat} {sg : Nat → Nat} {tp : Nat → Int32} {ol : OLA} {T : TS} {fl : FL} {os : OS} (q : St h0 ad0 bs s0 sg n tp ol h ad T fl os p) : TapeC h (sg 1) (sg 2) n tp := q.2.1.2.1
theorem St.fa {h0 h : AH} {ad0 ad : Nat → Nat → Nat → Nat} {bs s0 n p : Nat} {sg : Nat → Nat} {tp : Nat → Int32} {ol : OLA} {T : TS} {fl : FL} {os : OS} (q : St h0 ad0 bs s0 sg n tp ol h ad T fl os p) : FauC h (sg 5) (sg 6) (sg 7) fl := q.2.1.2.2.2.1
theorem St.ct {h0 h : AH} {ad0 ad : Nat → Nat → Nat → Nat} {bs s0 n p : Nat} {sg : Nat → Nat} {tp : Nat → Int32} {ol : OLA} {T : TS} {fl : FL} {os : OS} (q : St h0 ad0 bs s0 sg n tp ol h ad T fl os p) : ClsT h ad (sg 8) (sg 9) T := q.2.1.2.2.2.2.1
theorem cls_openAt {h0 h : AH} {ad0 ad : Nat → Nat → Nat → Nat} {bs s0 n p k : Nat} {sg : Nat → Nat} {tp : Nat → Int32} {ol : OLA} {T : TS} {fl : FL} {os : OS} (q : St h0 ad0 bs s0 sg n tp ol h ad T fl os p) (hOs : OsOk T os) (hk : k < os.length) : fX5_openAt (some (sg 10)) (nI k) h = some (some (ad 1 (oN1 os k) 0), h) := by
  obtain ⟨r0, r1, r2, r3, r4, r5, r6, r7, r8⟩ := q.rd
  have hl := hOs.2.1
  simp only [fX5_openAt, fX5_openAt_0, fX5_openAt_30, fX5_openAt_31]
  simp (disch := omega) only [lt0, ↓reduceIte, ↓gi_of r0 q.2.2.1.1, leN, show ¬ os.length ≤ k by omega, ↓gr_of r0 r5, ↓an_of r7, show ¬ 21 ≤ k by omega, ↓ql_of r7 (show k < 21 by omega) (by omega) (q.2.2.1.2 k hk).1]
theorem cls_placeAt {h0 h : AH} {ad0 ad : Nat → Nat → Nat → Nat} {bs s0 n p k : Nat} {sg : Nat → Nat} {tp : Nat → Int32} {ol : OLA} {T : TS} {fl : FL} {os : OS} (q : St h0 ad0 bs s0 sg n tp ol h ad T fl os p) (hOs : OsOk T os) (hk : k < os.length) : fX5_placeOpenAt (some (sg 10)) (nI k) h = some (nI (oP1 os k), h) := by
  obtain ⟨r0, r1, r2, r3, r4, r5, r6, r7, r8⟩ := q.rd
  have hl := hOs.2.1
  simp only [fX5_placeOpenAt, fX5_placeOpenAt_0, fX5_placeOpenAt_30, fX5_placeOpenAt_31]
  simp (disch := omega) only [lt0, ↓reduceIte, ↓gi_of r0 q.2.2.1.1, leN, show ¬ os.length ≤ k by omega, ↓gr_of r0 r6, ↓an_of r8, show ¬ 21 ≤ k by omega, ↓al_of r8 (show k < 21 by omega) (by omega) (q.2.2.1.2 k hk).2]
theorem cls_tagAt {h0 h : AH} {ad0 ad : Nat → Nat → Nat → Nat} {bs s0 n p k : Nat} {sg : Nat → Nat} {tp : Nat → Int32} {ol : OLA} {T : TS} {fl : FL} {os : OS} (q : St h0 ad0 bs s0 sg n tp ol h ad T fl os p) (hS : SizT T) (hOs : OsOk T os) (hk : k < os.length) : fX5_tagOpenAt (some (sg 10)) (nI k) h = some (nI (tTag T (oN1 os k)), h) := by
  obtain ⟨r0, -⟩ := q.rd
  obtain ⟨u, -⟩ := hOs.2.2.2 k hk
  obtain ⟨-, ⟨b1, -⟩, v1, -⟩ := q.ct.nd (hS.lt u) u
  simp only [fX5_tagOpenAt, fX5_tagOpenAt_0, fX5_tagOpenAt_18]
  simp only [↓cv_of r0 (cls_openAt q hOs hk), some_ne, ↓reduceIte, ↓gi_of b1 v1]
theorem cls_inner {h0 h : AH} {ad0 ad : Nat → Nat → Nat → Nat} {bs s0 n p : Nat} {sg : Nat → Nat} {tp : Nat → Int32} {ol : OLA} {T : TS} {fl : FL} {os : OS} (q : St h0 ad0 bs s0 sg n tp ol h ad T fl os p) (hOs : OsOk T os) : fX5_innermost (some (sg 10)) h = some (some (ad 1 (oN1 os (os.length - 1)) 0), h) := by
  obtain ⟨r0, -⟩ := q.rd
  have h1 := hOs.1
  simp only [fX5_innermost, fX5_innermost_0]
  simp only [↓gi_of r0 q.2.2.1.1, nI_sub h1, ↓cv_of r0 (cls_openAt q hOs (show os.length - 1 < os.length by omega))]

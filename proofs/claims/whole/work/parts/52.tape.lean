/-! THE TAPE, on both sides: n bytes tp 0 .. tp (n - 1), each an int that is a byte -/
def isB (x : Int32) : Prop := x.toInt8.toInt32 = x
theorem isB_b8 (x : Int32) : x.toInt8.toInt32.toInt8.toInt32 = x.toInt8.toInt32 := pk_vb x
def TapeR (h : AH) (m : Nat) (ra : Nat → Nat) (n : Nat) (tp : Nat → Int32) : Prop := gI h 451 m = nI n ∧ n ≤ 2000 ∧ ∀ i, i < n → gA h (ra 0) i = tp i
def up {α : Type} (f : Nat → α) (k : Nat) (v : α) : Nat → α := fun j => if j = k then v else f j
theorem up_s {α : Type} (f : Nat → α) (k : Nat) (v : α) : up f k v k = v := if_pos rfl
theorem up_n {α : Type} (f : Nat → α) {k j : Nat} (v : α) (h : j ≠ k) : up f k v j = f j := if_neg h
/-- class: one byte more -/
def tc1 (h : AH) (t b n : Nat) (v : Int32) : AH := pI (pA h b n v.toInt8.toInt32) 301 t (nI (n + 1))
theorem tape_push {h : AH} {t b n : Nat} {tp : Nat → Int32} (hT : TapeC h t b n tp) (hn : n < 2000) (v : Int32) : fX6_pushByte (some t) v h = some ((), tc1 h t b n v) := by
  obtain ⟨h1, h2, h3, h4, h5, h6⟩ := hT
  unfold fX6_pushByte fX6_pushByte_0 fX6_pushByte_40 tc1
  simp (disch := omega) only [↓uGI, ↓uGL, ↓uGR, ↓uPI, ↓uPL, ↓uPR, ↓uAL, ↓uQL, ↓uAS, ↓uQS, ↓uAN, ↓uCV, ↓oCL, ↓oNO, ↓uNA, ↓oNN, ↓oZ0, ↓oZ1, gI_pI, gI_pL, gI_pR, gI_pA, gI_pQ, gL_pI, gL_pL, gL_pR, gL_pA, gL_pQ, gR_pI, gR_pL, gR_pR, gR_pA, gR_pQ, gA_pI, gA_pL, gA_pR, gA_pA, gA_pQ, gQ_pI, gQ_pL, gQ_pR, gQ_pA, gQ_pQ, gK_pI, gK_pL, gK_pR, gK_pA, gK_pQ, gN_pI, gN_pL, gN_pR, gN_pA, gN_pQ, gS_pI, gS_pL, gS_pR, gS_pA, gS_pQ, gI_mk, gL_mk, gR_mk, gA_mk, gQ_mk, gK_mk, gN_mk, gS_mk, vn0, vn1, lt0, leN, ltN, eqN, eqM1, M1eq, le0n, eq0n, nI_add, nI_mul, ↓reduceIte, Nat.reduceAdd, Nat.reduceMul, Nat.reduceEqDiff, Nat.reduceLT, Nat.reduceLeDiff, and_true, true_and, and_false, false_and, and_self, reduceCtorEq, not_true_eq_false, not_false_eq_true, h1, h2, h3, h4, hn, show ¬ 2000 ≤ n by omega, isB_b8]
theorem tape_push_C {h : AH} {t b n : Nat} {tp : Nat → Int32} (hT : TapeC h t b n tp) (hn : n < 2000) (v : Int32) : TapeC (tc1 h t b n v) t b (n + 1) (up tp n v.toInt8.toInt32) := by
  obtain ⟨h1, h2, h3, h4, h5, h6⟩ := hT
  refine ⟨h1, h2, h3, if_pos ⟨rfl, rfl⟩, by omega, fun i hi => ?_⟩
  show (if b = b ∧ i = n then _ else _) = (if i = n then _ else _)
  by_cases e : i = n
  · rw [if_pos ⟨rfl, e⟩, if_pos e]
  · rw [if_neg (fun q => e q.2), if_neg e]
    exact h6 i (by omega)

/-- a frame: ints and int places alone have changed, and those alone that I and A name -/
def Fr (I : Nat → Nat → Prop) (A : Nat → Prop) (h h' : AH) : Prop := (∀ f a, ¬ I f a → gI h' f a = gI h f a) ∧ gL h' = gL h ∧ gR h' = gR h ∧ (∀ a i, ¬ A a → gA h' a i = gA h a i) ∧ gQ h' = gQ h ∧ gK h' = gK h ∧ gN h' = gN h ∧ gS h' = gS h
theorem Fr.rf {I : Nat → Nat → Prop} {A : Nat → Prop} {h : AH} : Fr I A h h := ⟨fun _ _ _ => rfl, rfl, rfl, fun _ _ _ => rfl, rfl, rfl, rfl, rfl⟩
theorem Fr.tr {I : Nat → Nat → Prop} {A : Nat → Prop} {h h1 h2 : AH} (q : Fr I A h h1) (r : Fr I A h1 h2) : Fr I A h h2 := by
  obtain ⟨q1, q2, q3, q4, q5, q6, q7, q8⟩ := q
  obtain ⟨r1, r2, r3, r4, r5, r6, r7, r8⟩ := r
  exact ⟨fun f a n => (r1 f a n).trans (q1 f a n), r2.trans q2, r3.trans q3, fun a i n => (r4 a i n).trans (q4 a i n), r5.trans q5, r6.trans q6, r7.trans q7, r8.trans q8⟩
theorem Fr.mo {I J : Nat → Nat → Prop} {A B : Nat → Prop} {h h1 : AH} (q : Fr I A h h1) (hI : ∀ f a, I f a → J f a) (hA : ∀ a, A a → B a) : Fr J B h h1 := by
  obtain ⟨q1, q2, q3, q4, q5, q6, q7, q8⟩ := q
  exact ⟨fun f a n => q1 f a (fun z => n (hI f a z)), q2, q3, fun a i n => q4 a i (fun z => n (hA a z)), q5, q6, q7, q8⟩
theorem Fr.pI {I : Nat → Nat → Prop} {A : Nat → Prop} {h h1 : AH} {f a : Nat} {v : Int32} (q : Fr I A h h1) (hI : I f a) : Fr I A h (pI h1 f a v) := by
  refine q.tr ⟨fun f' a' n => ?_, rfl, rfl, fun _ _ _ => rfl, rfl, rfl, rfl, rfl⟩
  rw [gI_pI, if_neg (fun z => n (by rw [z.1, z.2]; exact hI))]
theorem Fr.pA {I : Nat → Nat → Prop} {A : Nat → Prop} {h h1 : AH} {a i : Nat} {v : Int32} (q : Fr I A h h1) (hA : A a) : Fr I A h (pA h1 a i v) := by
  refine q.tr ⟨fun _ _ _ => rfl, rfl, rfl, fun a' i' n => ?_, rfl, rfl, rfl, rfl⟩
  rw [gA_pA, if_neg (fun z => n (by rw [z.1]; exact hA))]
theorem Fr.RB {I : Nat → Nat → Prop} {A : Nat → Prop} {h h1 : AH} {m : Nat} {ra : Nat → Nat} (q : Fr I A h h1) (b : RB h m ra) : RB h1 m ra := b.eq q.2.2.1 q.2.2.2.2.2.1
/-- what the reference may change -/
abbrev FrR (m : Nat) (ra : Nat → Nat) : AH → AH → Prop := Fr (fun _ a => a = m) (fun a => ∃ k, a = ra k)
/-- what the class's tape may change -/
abbrev FrT (t b : Nat) : AH → AH → Prop := Fr (fun f a => f = 301 ∧ a = t) (fun a => a = b)
/-- the four bytes of an int, the highest first -/
def b4 (v : Int32) (k : Nat) : Int32 := (v >>> (nI (24 - 8 * k) &&& 31)).toInt8.toInt32
theorem b8_eq {x y : Int32} (h : x.toInt % 256 = y.toInt % 256) : x.toInt8.toInt32 = y.toInt8.toInt32 := by
  have e : x.toInt8 = y.toInt8 := by
    apply Int8.toInt.inj
    rw [Int32.toInt_toInt8, Int32.toInt_toInt8]
    simp only [Int.bmod, show ((2 ^ 8 : Nat) : Int) = 256 from rfl, h]
  rw [e]
theorem i32_nat (x : Int32) : x.toInt = if 2 * x.toBitVec.toNat < 4294967296 then (x.toBitVec.toNat : Int) else (x.toBitVec.toNat : Int) - 4294967296 := by
  show x.toBitVec.toInt = _
  rw [BitVec.toInt_eq_toNat_cond]
  rfl
theorem b4_u (v : Int32) (k : Nat) (hk : k = 24 ∨ k = 16 ∨ k = 8) : ((Int32.toUInt32 v >>> (Int32.toUInt32 (nI k) &&& Int32.toUInt32 31)).toInt32).toInt8.toInt32 = (v >>> (nI k &&& 31)).toInt8.toInt32 := by
  apply b8_eq
  have h1 := pk_ushr v (nI k) k (by rcases hk with rfl | rfl | rfl <;> decide)
  have h2 := pk_shr v (nI k &&& 31) k (by rcases hk with rfl | rfl | rfl <;> decide)
  rw [h2, i32_nat (UInt32.toInt32 _), h1, i32_nat v, Int.shiftRight_eq_div_pow]
  have hb : v.toBitVec.toNat < 4294967296 := v.toBitVec.isLt
  generalize v.toBitVec.toNat = u at hb
  rcases hk with rfl | rfl | rfl
  · simp only [show (2 : Nat) ^ 24 = 16777216 from rfl, show ((16777216 : Nat) : Int) = 16777216 from rfl]
    split <;> split <;> omega
  · simp only [show (2 : Nat) ^ 16 = 65536 from rfl, show ((65536 : Nat) : Int) = 65536 from rfl]
    split <;> split <;> omega
  · simp only [show (2 : Nat) ^ 8 = 256 from rfl, show ((256 : Nat) : Int) = 256 from rfl]
    split <;> split <;> omega
theorem b4_3 (v : Int32) : v.toInt8.toInt32 = b4 v 3 := by
  show _ = (v >>> (nI 0 &&& 31)).toInt8.toInt32
  rw [show (nI 0 &&& 31 : Int32) = (0 : Int32) &&& 31 from rfl, sb_shr0]
def p4 (tp : Nat → Int32) (n : Nat) (v : Int32) : Nat → Int32 := up (up (up (up tp n (b4 v 0)) (n + 1) (b4 v 1)) (n + 2) (b4 v 2)) (n + 3) (b4 v 3)
theorem tape_pushInt {h : AH} {t b n : Nat} {tp : Nat → Int32} (hT : TapeC h t b n tp) (hn : n + 4 ≤ 2000) (v : Int32) : ∃ h', fX6_pushInt (some t) v h = some ((), h') ∧ TapeC h' t b (n + 4) (p4 tp n v) ∧ FrT t b h h' := by
  have T1 := tape_push_C hT (by omega) (Int32.toUInt32 v >>> (Int32.toUInt32 (nI 24) &&& Int32.toUInt32 31)).toInt32
  have T2 := tape_push_C T1 (by omega) (Int32.toUInt32 v >>> (Int32.toUInt32 (nI 16) &&& Int32.toUInt32 31)).toInt32
  have T3 := tape_push_C T2 (by omega) (Int32.toUInt32 v >>> (Int32.toUInt32 (nI 8) &&& Int32.toUInt32 31)).toInt32
  have T4 := tape_push_C T3 (by omega) v
  have q1 := T1.1; have q2 := T2.1; have q3 := T3.1
  have g1 := tape_push T1 (by omega) (Int32.toUInt32 v >>> (Int32.toUInt32 (nI 16) &&& Int32.toUInt32 31)).toInt32
  have g2 := tape_push T2 (by omega) (Int32.toUInt32 v >>> (Int32.toUInt32 (nI 8) &&& Int32.toUInt32 31)).toInt32
  have g3 := tape_push T3 (by omega) v
  rw [b4_u v 24 (by simp), b4_u v 16 (by simp), b4_u v 8 (by simp), b4_3 v] at T4
  refine ⟨_, ?_, T4, ?_⟩
  · unfold fX6_pushInt fX6_pushInt_0
    rw [oCV hT.1, tape_push hT (by omega), oCL, oCV q1, g1, oCL, oCV q2, g2, oCL, oCV q3, g3, oCL]
  · repeat (first | exact Fr.rf | refine Fr.pI ?_ ⟨rfl, rfl⟩ | refine Fr.pA ?_ rfl)
theorem TapeC.fr {h h' : AH} {t b n : Nat} {tp : Nat → Int32} (hT : TapeC h t b n tp) {I : Nat → Nat → Prop} {A : Nat → Prop} (q : Fr I A h h') (hI : ¬ I 301 t) (hA : ¬ A b) : TapeC h' t b n tp := by
  obtain ⟨h1, h2, h3, h4, h5, h6⟩ := hT
  exact ⟨by rw [q.2.2.2.2.2.1]; exact h1, by rw [q.2.2.1]; exact h2, by rw [q.2.2.2.2.2.1]; exact h3, by rw [q.1 _ _ hI]; exact h4, h5, fun i hi => by rw [q.2.2.2.1 _ _ hA]; exact h6 i hi⟩
theorem TapeR.fr {h h' : AH} {m n : Nat} {ra : Nat → Nat} {tp : Nat → Int32} (hT : TapeR h m ra n tp) {I : Nat → Nat → Prop} {A : Nat → Prop} (q : Fr I A h h') (hI : ¬ I 451 m) (hA : ¬ A (ra 0)) : TapeR h' m ra n tp := by
  obtain ⟨h4, h5, h6⟩ := hT
  exact ⟨by rw [q.1 _ _ hI]; exact h4, h5, fun i hi => by rw [q.2.2.2.1 _ _ hA]; exact h6 i hi⟩
/-- reference: one byte more -/
theorem TapeR.push {h : AH} {m n : Nat} {ra : Nat → Nat} {tp : Nat → Int32} (hT : TapeR h m ra n tp) (hn : n < 2000) (v : Int32) : TapeR (pI (pA h (ra 0) n v) 451 m (nI (n + 1))) m ra (n + 1) (up tp n v) := by
  obtain ⟨h4, h5, h6⟩ := hT
  refine ⟨if_pos ⟨rfl, rfl⟩, by omega, fun i hi => ?_⟩
  show (if ra 0 = ra 0 ∧ i = n then _ else _) = (if i = n then _ else _)
  by_cases e : i = n
  · rw [if_pos ⟨rfl, e⟩, if_pos e]
  · rw [if_neg (fun q => e q.2), if_neg e]
    exact h6 i (by omega)
theorem refb_put1 {h : AH} {m n : Nat} {ra : Nat → Nat} {tp : Nat → Int32} (hT : TapeR h m ra n tp) (hB : RB h m ra) (hn : n < 2000) (v : Int32) (f k : Nat) (hk : k < 100) : fX9_putFour_3 (f + 1) (some m) v (nI k) h = fX9_putFour_3 f (some m) v (nI k + (-8)) (pI (pA h (ra 0) n (v >>> (nI k &&& 31)).toInt8.toInt32) 451 m (nI (n + 1))) := by
  have e1 := hT.1
  rw [fX9_putFour_3]
  simp (disch := omega) only [↓uGI, ↓uGL, ↓uGR, ↓uPI, ↓uPL, ↓uPR, ↓uAL, ↓uQL, ↓uAS, ↓uQS, ↓uAN, ↓uCV, ↓oCL, ↓oNO, ↓uNA, ↓oNN, ↓oZ0, ↓oZ1, gI_pI, gI_pL, gI_pR, gI_pA, gI_pQ, gL_pI, gL_pL, gL_pR, gL_pA, gL_pQ, gR_pI, gR_pL, gR_pR, gR_pA, gR_pQ, gA_pI, gA_pL, gA_pR, gA_pA, gA_pQ, gQ_pI, gQ_pL, gQ_pR, gQ_pA, gQ_pQ, gK_pI, gK_pL, gK_pR, gK_pA, gK_pQ, gN_pI, gN_pL, gN_pR, gN_pA, gN_pQ, gS_pI, gS_pL, gS_pR, gS_pA, gS_pQ, gI_mk, gL_mk, gR_mk, gA_mk, gQ_mk, gK_mk, gN_mk, gS_mk, vn0, vn1, lt0, leN, ltN, eqN, eqM1, M1eq, le0n, eq0n, nI_add, nI_mul, ↓reduceIte, Nat.reduceAdd, Nat.reduceMul, Nat.reduceEqDiff, Nat.reduceLT, Nat.reduceLeDiff, and_true, true_and, and_false, false_and, and_self, reduceCtorEq, not_true_eq_false, not_false_eq_true, hB.o, hB.r0, hB.k0, e1, hn, isB_b8]
theorem refb_put4 {h : AH} {m n : Nat} {ra : Nat → Nat} {tp : Nat → Int32} (hB : RB h m ra) (hT : TapeR h m ra n tp) (hn : n + 4 ≤ 2000) (v : Int32) : ∃ h', fX9_putFour (some m) v h = some ((), h') ∧ TapeR h' m ra (n + 4) (p4 tp n v) ∧ FrR m ra h h' := by
  obtain ⟨f, hf⟩ : ∃ f, FU = f + 1 + 1 + 1 + 1 + 1 := ⟨FU - 5, by have := FU_ge; omega⟩
  have T1 := hT.push (by omega) (b4 v 0)
  have T2 := T1.push (by omega) (b4 v 1)
  have T3 := T2.push (by omega) (b4 v 2)
  have T4 := T3.push (by omega) (b4 v 3)
  refine ⟨_, ?_, T4, ?_⟩
  · unfold fX9_putFour fX9_putFour_0
    have z1 : nI 24 + (-8) = nI 16 := by decide
    have z2 : nI 16 + (-8) = nI 8 := by decide
    have z3 : nI 8 + (-8) = nI 0 := by decide
    have z4 : nI 0 + (-8) < 0 := by decide
    rw [hf, refb_put1 hT hB (by omega) v _ _ (by omega), z1]
    erw [refb_put1 T1 hB (by omega) v _ _ (by omega)]
    rw [z2]
    erw [refb_put1 T2 hB (by omega) v _ _ (by omega)]
    rw [z3]
    erw [refb_put1 T3 hB (by omega) v _ _ (by omega)]
    rw [fX9_putFour_3, if_pos z4]
    rfl
  · repeat (first | exact Fr.rf | refine Fr.pI ?_ rfl | refine Fr.pA ?_ ⟨0, rfl⟩)

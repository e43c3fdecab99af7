/-! frames by address, and the ghost addresses -/
def FrX (S : Nat → Prop) (h h' : AH) : Prop := ∀ a, ¬ S a → (∀ f, gI h' f a = gI h f a) ∧ (∀ f, gL h' f a = gL h f a) ∧ (∀ f, gR h' f a = gR h f a) ∧ (∀ i, gA h' a i = gA h a i) ∧ (∀ i, gQ h' a i = gQ h a i) ∧ gK h' a = gK h a
theorem FrX.rf {S : Nat → Prop} {h : AH} : FrX S h h := fun _ _ => ⟨fun _ => rfl, fun _ => rfl, fun _ => rfl, fun _ => rfl, fun _ => rfl, rfl⟩
theorem FrX.tr {S : Nat → Prop} {h h1 h2 : AH} (q : FrX S h h1) (r : FrX S h1 h2) : FrX S h h2 := by
  intro a ha
  obtain ⟨q1, q2, q3, q4, q5, q6⟩ := q a ha
  obtain ⟨r1, r2, r3, r4, r5, r6⟩ := r a ha
  exact ⟨fun f => (r1 f).trans (q1 f), fun f => (r2 f).trans (q2 f), fun f => (r3 f).trans (q3 f), fun f => (r4 f).trans (q4 f), fun f => (r5 f).trans (q5 f), r6.trans q6⟩
theorem FrX.mo {S S' : Nat → Prop} {h h1 : AH} (q : FrX S h h1) (hs : ∀ a, S a → S' a) : FrX S' h h1 := fun a ha => q a (fun z => ha (hs a z))
theorem Fr.x {I : Nat → Nat → Prop} {A S : Nat → Prop} {h h' : AH} (q : Fr I A h h') (hI : ∀ f a, I f a → S a) (hA : ∀ a, A a → S a) : FrX S h h' := by
  obtain ⟨q1, q2, q3, q4, q5, q6, q7, q8⟩ := q
  exact fun a ha => ⟨fun f => q1 f a (fun z => ha (hI f a z)), fun f => by rw [q2], fun f => by rw [q3], fun i => q4 a i (fun z => ha (hA a z)), fun i => by rw [q5], by rw [q6]⟩
theorem FrX.pI {S : Nat → Prop} {h h1 : AH} {f a : Nat} {v : Int32} (q : FrX S h h1) (hS : S a) : FrX S h (pI h1 f a v) :=
  q.tr (fun b hb => ⟨fun g => if_neg (fun z => hb (by rw [z.2]; exact hS)), fun _ => rfl, fun _ => rfl, fun _ => rfl, fun _ => rfl, rfl⟩)
theorem FrX.pL {S : Nat → Prop} {h h1 : AH} {f a : Nat} {v : Int64} (q : FrX S h h1) (hS : S a) : FrX S h (pL h1 f a v) :=
  q.tr (fun b hb => ⟨fun _ => rfl, fun g => if_neg (fun z => hb (by rw [z.2]; exact hS)), fun _ => rfl, fun _ => rfl, fun _ => rfl, rfl⟩)
theorem FrX.pR {S : Nat → Prop} {h h1 : AH} {f a : Nat} {v : Option Nat} (q : FrX S h h1) (hS : S a) : FrX S h (pR h1 f a v) :=
  q.tr (fun b hb => ⟨fun _ => rfl, fun _ => rfl, fun g => if_neg (fun z => hb (by rw [z.2]; exact hS)), fun _ => rfl, fun _ => rfl, rfl⟩)
theorem FrX.pA {S : Nat → Prop} {h h1 : AH} {a i : Nat} {v : Int32} (q : FrX S h h1) (hS : S a) : FrX S h (pA h1 a i v) :=
  q.tr (fun b hb => ⟨fun _ => rfl, fun _ => rfl, fun _ => rfl, fun g => if_neg (fun z => hb (by rw [z.1]; exact hS)), fun _ => rfl, rfl⟩)
theorem FrX.pQ {S : Nat → Prop} {h h1 : AH} {a i : Nat} {v : Option Nat} (q : FrX S h h1) (hS : S a) : FrX S h (pQ h1 a i v) :=
  q.tr (fun b hb => ⟨fun _ => rfl, fun _ => rfl, fun _ => rfl, fun _ => rfl, fun g => if_neg (fun z => hb (by rw [z.1]; exact hS)), rfl⟩)
theorem FrX.mk {S : Nat → Prop} {h h1 : AH} {k : Nat × Nat} {n : Nat} (q : FrX S h h1) (hS : S (gN h1)) : FrX S h (mkC h1 k n) := by
  refine q.tr (fun b hb => ?_)
  have hne : b ≠ gN h1 := fun z => hb (by rw [z]; exact hS)
  exact ⟨fun _ => if_neg hne, fun _ => if_neg hne, fun _ => if_neg hne, fun _ => if_neg hne, fun _ => if_neg hne, if_neg hne⟩
theorem CB.fx {h h' : AH} {x t o f tr rd : Nat} (q : CB h x t o f tr rd) {S : Nat → Prop} (w : FrX S h h') (hx : ¬ S x) : CB h' x t o f tr rd := by
  obtain ⟨-, -, w3, -, -, w6⟩ := w x hx
  unfold CB
  rw [w3, w3, w3, w3, w3, w6]
  exact q
theorem TapeC.fx {h h' : AH} {t b n : Nat} {tp : Nat → Int32} (q : TapeC h t b n tp) {S : Nat → Prop} (w : FrX S h h') (ht : ¬ S t) (hb : ¬ S b) : TapeC h' t b n tp := by
  obtain ⟨w1, -, w3, -, -, w6⟩ := w t ht
  obtain ⟨-, -, -, v4, -, v6⟩ := w b hb
  unfold TapeC
  rw [w1, w3, w6, v6]
  simp only [v4]
  exact q
theorem OutC.fx {h h' : AH} {o b : Nat} {ol : List Int32} (q : OutC h o b ol) {S : Nat → Prop} (w : FrX S h h') (ht : ¬ S o) (hb : ¬ S b) : OutC h' o b ol := by
  obtain ⟨w1, -, w3, -, -, w6⟩ := w o ht
  obtain ⟨-, -, -, v4, -, v6⟩ := w b hb
  unfold OutC
  rw [w1, w3, w6, v6]
  simp only [v4]
  exact q
theorem FauC.fx {h h' : AH} {f k p : Nat} {fl : FL} (q : FauC h f k p fl) {S : Nat → Prop} (w : FrX S h h') (hf : ¬ S f) (hk : ¬ S k) (hp : ¬ S p) : FauC h' f k p fl := by
  obtain ⟨w1, -, w3, -, -, w6⟩ := w f hf
  obtain ⟨-, -, -, v4, -, v6⟩ := w k hk
  obtain ⟨-, -, -, u4, -, u6⟩ := w p hp
  unfold FauC
  rw [w1, w3, w3, w6, v6, u6]
  simp only [v4, u4]
  exact q
theorem RB.fx {h h' : AH} {m : Nat} {ra : Nat → Nat} (q : RB h m ra) {S : Nat → Prop} (w : FrX S h h') (hm : ¬ S m) (ha : ∀ k, ¬ S (ra k)) : RB h' m ra := by
  obtain ⟨-, -, w3, -, -, w6⟩ := w m hm
  have e : ∀ k, gK h' (ra k) = gK h (ra k) := fun k => (w _ (ha k)).2.2.2.2.2
  unfold RB
  simp only [w3, w6, e]
  exact q
theorem TapeR.fx {h h' : AH} {m n : Nat} {ra : Nat → Nat} {tp : Nat → Int32} (q : TapeR h m ra n tp) {S : Nat → Prop} (w : FrX S h h') (hm : ¬ S m) (ha : ∀ k, ¬ S (ra k)) : TapeR h' m ra n tp := by
  unfold TapeR
  simp only [(w m hm).1, (w _ (ha 0)).2.2.2.1]
  exact q
theorem OutR.fx {h h' : AH} {m : Nat} {ra : Nat → Nat} {ol : List Int32} (q : OutR h m ra ol) {S : Nat → Prop} (w : FrX S h h') (hm : ¬ S m) (ha : ∀ k, ¬ S (ra k)) : OutR h' m ra ol := by
  unfold OutR
  simp only [(w m hm).1, (w _ (ha 4)).2.2.2.1]
  exact q
theorem FauR.fx {h h' : AH} {m : Nat} {ra : Nat → Nat} {fl : FL} (q : FauR h m ra fl) {S : Nat → Prop} (w : FrX S h h') (hm : ¬ S m) (ha : ∀ k, ¬ S (ra k)) : FauR h' m ra fl := by
  unfold FauR
  simp only [(w m hm).1, (w _ (ha 27)).2.2.2.1, (w _ (ha 28)).2.2.2.1]
  exact q
theorem RefT.fx {h h' : AH} {m : Nat} {ra : Nat → Nat} {T : TS} (q : RefT h m ra T) {S : Nat → Prop} (w : FrX S h h') (hm : ¬ S m) (ha : ∀ k, ¬ S (ra k)) : RefT h' m ra T :=
  ⟨by rw [(w m hm).1]; exact q.1, fun i hi => (q.2 i hi).fr (fun k j _ _ => (w _ (ha k)).2.2.2.1 j)⟩
/-- a NODE's row of the class, carried over -/
theorem AtB.tr {h h' : AH} {ad ad' : Nat → Nat → Nat → Nat} {i : Nat} (q : AtB h ad i) (ea : ∀ c j, ad' c i j = ad c i j) {S : Nat → Prop} (w : FrX S h h') (hS : ∀ c j, 1 ≤ c → c ≤ 6 → ¬ S (ad c i j)) (hN : ∀ c j, gN h ≤ ad c i j → gN h' ≤ ad c i j) : AtB h' ad' i := by
  obtain ⟨q1, q2, q3, q4⟩ := q
  unfold AtB
  simp only [ea]
  refine ⟨by rw [(w _ (hS 2 0 (by omega) (by omega))).2.2.2.2.2]; exact q1, by rw [(w _ (hS 2 0 (by omega) (by omega))).2.2.1]; exact q2, by rw [(w _ (hS 3 0 (by omega) (by omega))).2.2.2.2.2]; exact q3, fun j hj => ?_⟩
  rw [(w _ (hS 3 0 (by omega) (by omega))).2.2.2.2.1, (w _ (hS 5 j (by omega) (by omega))).2.2.2.2.2, (w _ (hS 5 j (by omega) (by omega))).2.2.1, (w _ (hS 6 j (by omega) (by omega))).2.2.2.2.2]
  rcases q4 j hj with ⟨a, b, c⟩ | z
  · exact Or.inl ⟨a, hN _ _ b, hN _ _ c⟩
  · exact Or.inr z
theorem AtV.tr {h h' : AH} {ad ad' : Nat → Nat → Nat → Nat} {i : Nat} {L : AttL} (q : AtV h ad i L) (ea : ∀ c j, ad' c i j = ad c i j) {S : Nat → Prop} (w : FrX S h h') (hS : ∀ c j, 1 ≤ c → c ≤ 6 → ¬ S (ad c i j)) : AtV h' ad' i L := by
  obtain ⟨q1, q2⟩ := q
  unfold AtV
  simp only [ea]
  refine ⟨by rw [(w _ (hS 2 0 (by omega) (by omega))).1]; exact q1, fun j hj => ?_⟩
  rw [(w _ (hS 3 0 (by omega) (by omega))).2.2.2.2.1, (w _ (hS 5 j (by omega) (by omega))).2.1, (w _ (hS 5 j (by omega) (by omega))).1]
  simp only [(w _ (hS 6 j (by omega) (by omega))).2.2.2.1]
  exact q2 j hj
theorem NdB.tr {h h' : AH} {ad ad' : Nat → Nat → Nat → Nat} {i : Nat} (q : NdB h ad i) (ea : ∀ c j, ad' c i j = ad c i j) {S : Nat → Prop} (w : FrX S h h') (hS : ∀ c j, 1 ≤ c → c ≤ 6 → ¬ S (ad c i j)) (hN : ∀ c j, gN h ≤ ad c i j → gN h' ≤ ad c i j) : NdB h' ad' i := by
  obtain ⟨q1, q2, q3, q4, q5⟩ := q
  have w1 := w _ (hS 1 0 (by omega) (by omega))
  refine ⟨by rw [ea, w1.2.2.2.2.2]; exact q1, by rw [ea, w1.1]; exact q2, by rw [ea, ea, w1.2.2.1]; exact q3, q4.tr ea w hS hN, ?_⟩
  rw [ea, ea, w1.2.2.1, (w _ (hS 4 0 (by omega) (by omega))).2.2.2.2.2]
  rcases q5 with ⟨a, b⟩ | z
  · exact Or.inl ⟨a, hN _ _ b⟩
  · exact Or.inr z
/-- what two trees have in common at i -/
def TSame (T T' : TS) (i : Nat) : Prop := tTag T' i = tTag T i ∧ tNam T' i = tNam T i ∧ tPar T' i = tPar T i ∧ tFk T' i = tFk T i ∧ tLk T' i = tLk T i ∧ tNx T' i = tNx T i ∧ tBf T' i = tBf T i ∧ tDep T' i = tDep T i ∧ tAtt T' i = tAtt T i ∧ tTxt T' i = tTxt T i ∧ tLng T' i = tLng T i
theorem TSame.rf {T : TS} {i : Nat} : TSame T T i := ⟨rfl, rfl, rfl, rfl, rfl, rfl, rfl, rfl, rfl, rfl, rfl⟩
theorem oN_ad {ad ad' : Nat → Nat → Nat → Nat} {r : Option Nat} (e : ∀ k, r = some k → ad' 1 k 0 = ad 1 k 0) : oN ad' r = oN ad r := by
  cases r with
  | none => rfl
  | some k => exact congrArg some (e k rfl)
theorem NdV.tr {h h' : AH} {ad ad' : Nat → Nat → Nat → Nat} {T T' : TS} {i : Nat} (q : NdV h ad T i) (hT : TSame T T' i) (ea : ∀ c j, ad' c i j = ad c i j) (el : ∀ k, tPar T i = some k ∨ tFk T i = some k ∨ tLk T i = some k ∨ tNx T i = some k ∨ tBf T i = some k → ad' 1 k 0 = ad 1 k 0) {S : Nat → Prop} (w : FrX S h h') (hS : ∀ c j, 1 ≤ c → c ≤ 6 → ¬ S (ad c i j)) : NdV h' ad' T' i := by
  obtain ⟨t1, t2, t3, t4, t5, t6, t7, t8, t9, t10, t11⟩ := hT
  obtain ⟨v1, v2, v3, v4, v5, v6, v7, v8, v9, v10, v11, v12⟩ := q
  have w1 := w _ (hS 1 0 (by omega) (by omega))
  unfold NdV
  rw [t1, t2, t3, t4, t5, t6, t7, t8, t9, t10, t11, ea, ea, w1.1, w1.1, w1.1, w1.1, w1.2.1, w1.2.2.1, w1.2.2.1, w1.2.2.1, w1.2.2.1, w1.2.2.1, w1.2.2.1]
  simp only [(w _ (hS 4 0 (by omega) (by omega))).2.2.2.1]
  refine ⟨v1, v2, v3, ?_, ?_, ?_, ?_, ?_, v9.tr ea w hS, v10, v11, v12⟩
  · rw [oN_ad (fun k hk => el k (Or.inl hk))]; exact v4
  · rw [oN_ad (fun k hk => el k (Or.inr (Or.inr (Or.inr (Or.inr hk)))))]; exact v5
  · rw [oN_ad (fun k hk => el k (Or.inr (Or.inr (Or.inr (Or.inl hk)))))]; exact v6
  · rw [oN_ad (fun k hk => el k (Or.inr (Or.inl hk)))]; exact v7
  · rw [oN_ad (fun k hk => el k (Or.inr (Or.inr (Or.inl hk))))]; exact v8
theorem ClsN.tr {h h' : AH} {ad ad' : Nat → Nat → Nat → Nat} {T T' : TS} {nd i : Nat} (q : ClsN h ad nd T i) (hs : tIs T' i = tIs T i) (hT : tIs T i = true → TSame T T' i) (ea : ∀ c j, ad' c i j = ad c i j) (el : tIs T i = true → ∀ k, tPar T i = some k ∨ tFk T i = some k ∨ tLk T i = some k ∨ tNx T i = some k ∨ tBf T i = some k → ad' 1 k 0 = ad 1 k 0) {S : Nat → Prop} (w : FrX S h h') (hS : ∀ c j, 1 ≤ c → c ≤ 6 → ¬ S (ad c i j)) (hn : gQ h' nd i = gQ h nd i) (hN : ∀ c j, gN h ≤ ad c i j → gN h' ≤ ad c i j) : ClsN h' ad' nd T' i := by
  unfold ClsN
  rw [hs, hn]
  simp only [ea]
  rcases q with ⟨q1, q2, q3⟩ | ⟨q1, q2, q3, q4⟩
  · exact Or.inl ⟨q1, q2, fun c j h1 h2 => hN c j (q3 c j h1 h2)⟩
  · refine Or.inr ⟨q1, q2.tr ea w hS hN, by rw [(w _ (hS 1 0 (by omega) (by omega))).1]; exact q3, fun hu => (q4 hu).tr (hT hu) ea (el hu) w hS⟩
/-- one NODE's row is changed -/
theorem ClsT.up1 {h h' : AH} {ad : Nat → Nat → Nat → Nat} {T T' : TS} {tr nd i : Nat} (q : ClsT h ad tr nd T) (hi : Inj3 ad) (hs : ∀ j, j ≠ i → tIs T' j = tIs T j) (hT : ∀ j, j ≠ i → tIs T j = true → TSame T T' j) {S : Nat → Prop} (w : FrX S h h') (hS : ∀ a, S a → ∃ c j, a = ad c i j) (hnd : ∀ c j, ad c i j ≠ nd) (htr : ∀ c j, ad c i j ≠ tr) (hN : gN h' = gN h) (hc : tCnt T' = tCnt T) (hn : ClsN h' ad nd T' i) : ClsT h' ad tr nd T' := by
  obtain ⟨q1, q2, q3, q4, q5, q6⟩ := q
  have wn := w nd (fun z => by obtain ⟨c, j, e⟩ := hS _ z; exact hnd c j e.symm)
  have wt := w tr (fun z => by obtain ⟨c, j, e⟩ := hS _ z; exact htr c j e.symm)
  refine ⟨by rw [wt.2.2.2.2.2]; exact q1, by rw [wt.2.2.1]; exact q2, by rw [wn.2.2.2.2.2]; exact q3, by rw [wt.2.2.1]; exact q4, by rw [wt.1, hc]; exact q5, fun k hk => ?_⟩
  by_cases e : k = i
  · rw [e]; exact hn
  · exact (q6 k hk).tr (hs k e) (hT k e) (fun _ _ => rfl) (fun _ _ _ => rfl) w (fun c j _ _ z => by
      obtain ⟨c', j', e'⟩ := hS _ z
      rw [hi.e] at e'
      exact e e'.2.1) (wn.2.2.2.2.1 k) (fun _ _ z => by rw [hN]; exact z)
theorem pig : ∀ (N n : Nat) (R : Nat → Nat → Prop), (∀ k, k < n → ∃ c, c < N ∧ R k c) → (∀ k k' c, R k c → R k' c → k = k') → n ≤ N := by
  intro N
  induction N with
  | zero =>
    intro n R h1 _
    rcases Nat.eq_zero_or_pos n with h | h
    · omega
    · obtain ⟨c, hc, -⟩ := h1 0 h
      omega
  | succ N ih =>
    intro n R h1 h2
    by_cases hx : ∃ k, k < n ∧ R k N
    · obtain ⟨k0, hk0, hr⟩ := hx
      have := ih (n - 1) (fun k c => R (if k < k0 then k else k + 1) c) (fun k hk => by
        have hne : (if k < k0 then k else k + 1) ≠ k0 := by split <;> omega
        obtain ⟨c, hc, hr'⟩ := h1 (if k < k0 then k else k + 1) (by split <;> omega)
        refine ⟨c, ?_, hr'⟩
        rcases Nat.lt_or_ge c N with z | z
        · exact z
        · have : c = N := by omega
          subst this
          exact absurd (h2 _ _ _ hr' hr) hne) (fun k k' c r1 r2 => by
        have := h2 _ _ _ r1 r2
        split at this <;> split at this <;> omega)
      omega
    · have := ih n R (fun k hk => by
        obtain ⟨c, hc, hr'⟩ := h1 k hk
        refine ⟨c, ?_, hr'⟩
        rcases Nat.lt_or_ge c N with z | z
        · exact z
        · have : c = N := by omega
          subst this
          exact absurd ⟨k, hk, hr'⟩ hx) h2
      omega
/-- the addresses: of single things sg, of the TREE's ad; what is not made yet lies far above -/
def AdOk (h : AH) (bs s0 : Nat) (sg : Nat → Nat) (ad : Nat → Nat → Nat → Nat) : Prop :=
  Inj3 ad ∧ (∀ j k, sg j = sg k ↔ j = k) ∧ (∀ c i j k, ad c i j ≠ sg k) ∧ (∀ c i j, ad c i j < gN h ∨ bs + 3000 ≤ ad c i j) ∧ (∀ k, sg k < gN h ∨ bs + 3000 ≤ sg k) ∧
  (∀ a, bs ≤ a → a < gN h → (∃ c i j, 1 ≤ c ∧ c ≤ 6 ∧ i ≤ 120 ∧ j < 4 ∧ a = ad c i j) ∨ ∃ k, k < 90 ∧ a = sg k) ∧ bs ≤ gN h ∧ gS h ≤ s0 + 400 * (gN h - bs) ∧ ∀ a, gN h ≤ a → (gK h a).1 = 0
theorem AdOk.lt {h : AH} {bs s0 : Nat} {sg : Nat → Nat} {ad : Nat → Nat → Nat → Nat} (q : AdOk h bs s0 sg ad) : gN h ≤ bs + 2994 := by
  obtain ⟨q1, q2, q3, q4, q5, q6, q7, q8, q9⟩ := q
  have := pig 2994 (gN h - bs) (fun k c => (∃ c' i j, 1 ≤ c' ∧ c' ≤ 6 ∧ i ≤ 120 ∧ j < 4 ∧ bs + k = ad c' i j ∧ c = (c' - 1) * 484 + i * 4 + j) ∨ ∃ k', k' < 90 ∧ bs + k = sg k' ∧ c = 2904 + k') (fun k hk => by
    rcases q6 (bs + k) (by omega) (by omega) with ⟨c, i, j, h1, h2, h3, h4, h5⟩ | ⟨k', h1, h2⟩
    · exact ⟨(c - 1) * 484 + i * 4 + j, by omega, Or.inl ⟨c, i, j, h1, h2, h3, h4, h5, rfl⟩⟩
    · exact ⟨2904 + k', by omega, Or.inr ⟨k', h1, h2, rfl⟩⟩) (fun k k' c r1 r2 => by
    rcases r1 with ⟨c1, i1, j1, a1, a2, a3, a4, a5, a6⟩ | ⟨k1, a1, a2, a3⟩ <;> rcases r2 with ⟨c2, i2, j2, b1, b2, b3, b4, b5, b6⟩ | ⟨k2, b1, b2, b3⟩
    · have e1 : c1 = c2 := by omega
      have e2 : i1 = i2 := by omega
      have e3 : j1 = j2 := by omega
      subst e1 e2 e3
      omega
    · omega
    · omega
    · have e1 : k1 = k2 := by omega
      subst e1
      omega)
  omega
theorem AdOk.ne {h : AH} {bs s0 : Nat} {sg : Nat → Nat} {ad : Nat → Nat → Nat → Nat} (q : AdOk h bs s0 sg ad) (c i j : Nat) : ad c i j ≠ gN h := by
  have := q.lt
  rcases q.2.2.2.1 c i j with z | z <;> omega
theorem AdOk.sne {h : AH} {bs s0 : Nat} {sg : Nat → Nat} {ad : Nat → Nat → Nat → Nat} (q : AdOk h bs s0 sg ad) (k : Nat) : sg k ≠ gN h := by
  have := q.lt
  rcases q.2.2.2.2.1 k with z | z <;> omega
def ad3 (ad : Nat → Nat → Nat → Nat) (c i j v : Nat) : Nat → Nat → Nat → Nat := fun c' i' j' => if c' = c ∧ i' = i ∧ j' = j then v else ad c' i' j'
theorem ad3_s (ad : Nat → Nat → Nat → Nat) (c i j v : Nat) : ad3 ad c i j v c i j = v := if_pos ⟨rfl, rfl, rfl⟩
theorem ad3_n (ad : Nat → Nat → Nat → Nat) {c i j v c' i' j' : Nat} (hn : ¬ (c' = c ∧ i' = i ∧ j' = j)) : ad3 ad c i j v c' i' j' = ad c' i' j' := if_neg hn
/-- a new cell gets its name -/
theorem AdOk.mk {h : AH} {bs s0 : Nat} {sg : Nat → Nat} {ad : Nat → Nat → Nat → Nat} (q : AdOk h bs s0 sg ad) {c i j : Nat} (hc : 1 ≤ c ∧ c ≤ 6) (hi : i ≤ 120) (hj : j < 4) (hu : gN h ≤ ad c i j) (k : Nat × Nat) {n : Nat} (hn : n ≤ 400) : AdOk (mkC h k n) bs s0 sg (ad3 ad c i j (gN h)) := by
  have hl := q.lt
  have hne := q.ne
  have hsn := q.sne
  obtain ⟨q1, q2, q3, q4, q5, q6, q7, q8, q9⟩ := id q
  refine ⟨fun c1 i1 j1 c2 i2 j2 => ?_, q2, fun c1 i1 j1 k => ?_, fun c1 i1 j1 => ?_, fun k => ?_, fun a h1 h2 => ?_, ?_, ?_, fun a h1 => ?_⟩
  · unfold ad3
    by_cases e1 : c1 = c ∧ i1 = i ∧ j1 = j <;> by_cases e2 : c2 = c ∧ i2 = i ∧ j2 = j
    · rw [if_pos e1, if_pos e2]
      exact ⟨fun _ => ⟨by omega, by omega, by omega⟩, fun _ => rfl⟩
    · rw [if_pos e1, if_neg e2]
      refine ⟨fun z => absurd z.symm (hne _ _ _), fun z => absurd ?_ e2⟩
      obtain ⟨z1, z2, z3⟩ := z
      omega
    · rw [if_neg e1, if_pos e2]
      refine ⟨fun z => absurd z (hne _ _ _), fun z => absurd ?_ e1⟩
      obtain ⟨z1, z2, z3⟩ := z
      omega
    · rw [if_neg e1, if_neg e2]
      exact q1 _ _ _ _ _ _
  · unfold ad3
    split
    · exact fun z => hsn k z.symm
    · exact q3 _ _ _ _
  · unfold ad3
    rw [gN_mk]
    split
    · exact Or.inl (by omega)
    · rcases q4 c1 i1 j1 with z | z
      · exact Or.inl (by omega)
      · exact Or.inr z
  · rw [gN_mk]
    rcases q5 k with z | z
    · exact Or.inl (by omega)
    · exact Or.inr z
  · rw [gN_mk] at h2
    by_cases e : a = gN h
    · exact Or.inl ⟨c, i, j, hc.1, hc.2, hi, hj, by rw [ad3_s]; exact e⟩
    · rcases q6 a h1 (by omega) with ⟨c1, i1, j1, a1, a2, a3, a4, a5⟩ | z
      · refine Or.inl ⟨c1, i1, j1, a1, a2, a3, a4, ?_⟩
        rw [ad3_n]
        · exact a5
        · intro z
          obtain ⟨rfl, rfl, rfl⟩ := z
          omega
      · exact Or.inr z
  · rw [gN_mk]; omega
  · rw [gN_mk, gS_mk]; omega
  · rw [gN_mk] at h1
    rw [gK_mk, if_neg (by omega)]
    exact q9 a (by omega)
/-- unmade ones stay unmade -/
theorem AdOk.un {h h' : AH} {bs s0 : Nat} {sg : Nat → Nat} {ad : Nat → Nat → Nat → Nat} (q : AdOk h bs s0 sg ad) (h2 : gN h' ≤ bs + 2994) {c i j : Nat} (hu : gN h ≤ ad c i j) : gN h' ≤ ad c i j := by
  rcases q.2.2.2.1 c i j with z | z <;> omega
theorem AdOk.eq {h h' : AH} {bs s0 : Nat} {sg : Nat → Nat} {ad : Nat → Nat → Nat → Nat} (q : AdOk h bs s0 sg ad) (e1 : gN h' = gN h) (e2 : gS h' = gS h) (e3 : gK h' = gK h) : AdOk h' bs s0 sg ad := by
  unfold AdOk
  rw [e1, e2, e3]
  exact q
theorem AdOk.md {h : AH} {bs s0 : Nat} {sg : Nat → Nat} {ad : Nat → Nat → Nat → Nat} (q : AdOk h bs s0 sg ad) {a k n : Nat} (hk : gK h a = (k + 1, n)) : a < gN h := by
  rcases Nat.lt_or_ge a (gN h) with z | z
  · exact z
  · have := q.2.2.2.2.2.2.2.2 a z
    rw [hk] at this
    cases this

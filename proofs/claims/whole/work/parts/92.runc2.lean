/-! a run comes to a TEXT: the class -/
def blk (tx : Nat → Nat) : Nat → Nat → Bool
  | 0, _ => true
  | j + 1, p => isBl (tx p) && blk tx j (p + 1)
theorem cls_blank_L {h : AH} {t b n rd to : Nat} {tp : Nat → Int32} (hT : TapeC h t b n tp) (k1 : gK h rd = (6, 0)) (r1 : gR h 250 rd = some t) (hto : to ≤ n) (hn : n ≤ 2000) : ∀ (j f i : Nat), i + j = to → j < f → fX5_isAllBlank_2 f (some rd) (nI to) (nI i) h = some (bI (blk (fun k => tbv (tp k)) j i), h) := by
  intro j
  induction j with
  | zero =>
    intro f i hij hjf
    obtain ⟨f, rfl⟩ : ∃ g, f = g + 1 := ⟨f - 1, by omega⟩
    rw [fX5_isAllBlank_2]
    simp (disch := omega) only [leN, show to ≤ i by omega, ↓reduceIte, fX5_isAllBlank_29, oZn1]
    rfl
  | succ j ih =>
    intro f i hij hjf
    obtain ⟨f, rfl⟩ : ∃ g, f = g + 1 := ⟨f - 1, by omega⟩
    have hb := tape_byteAt hT (show i < 2 ^ 31 by omega)
    rw [bt_in (show i < n by omega)] at hb
    have hlt := tbv_lt (tp i)
    have hbl := cls_bl (h := h) (c := tbv (tp i)) (by omega)
    rw [fX5_isAllBlank_2]
    simp (disch := omega) only [leN, show ¬ to ≤ i by omega, ↓reduceIte, ↓gr_of k1 r1, ↓cv_of hT.1 hb, ↓cl_of hbl, bI0, fX5_isAllBlank_21, oZn0, nI_add]
    rw [ih f (i + 1) (by omega) (by omega)]
    show _ = some (bI (isBl (tbv (tp i)) && blk (fun k => tbv (tp k)) j (i + 1)), h)
    cases isBl (tbv (tp i)) with
    | true => simp only [Bool.true_eq_false, ↓reduceIte, Bool.true_and]
    | false => simp only [↓reduceIte, Bool.false_and]; rfl
def rnN (T : TS) (i : Nat) : Option Nat := match tLk T i with
  | none => none
  | some l => if tTag T l = 17 then some l else none
def rnF (T : TS) (k : Nat) (L : List (Nat × Nat)) (fl : FL) : TS × FL := (rnU T k (L.foldl txS (tTxt T k, tLng T k, fl)), (L.foldl txS (tTxt T k, tLng T k, fl)).2.2)
def rnS (T : TS) (fl : FL) (i : Nat) (L : List (Nat × Nat)) (bl : Bool) (p : Nat) : TS × FL := match rnN T i with
  | some l => rnF T l L fl
  | none => if bl = true then (T, fl) else match grw T i with
    | none => (T, fl ++ [(nI 6, nI p)])
    | some k => rnF (gwT T i 17 [] k) k L fl
theorem uLng_id (T : TS) (i : Nat) : uLng T i (tLng T i) = T := by
  unfold uLng tLng
  rw [up_id]
theorem rnU_id (T : TS) (k : Nat) (fl : FL) : rnU T k (tTxt T k, tLng T k, fl) = T := by
  unfold rnU
  simp only [uTxt_id]
  exact uLng_id T k
theorem gw_used {T : TS} {kd : Nat → List Nat} (w : Wf T kd) {q tag n : Nat} {nm : List Nat} (hq : tIs T q = true) (hn : tIs T n = false) : ∀ j, tIs (gwT T q tag nm n) j = (if j = n then true else tIs T j) ∧ tTag (gwT T q tag nm n) j = (if j = n then tag else tTag T j) ∧ tDep (gwT T q tag nm n) j = (if j = n then tDep T q + 1 else tDep T j) ∧ tAtt (gwT T q tag nm n) j = (if j = n then [] else tAtt T j) ∧ tTxt (gwT T q tag nm n) j = (if j = n then [] else tTxt T j) ∧ tLng (gwT T q tag nm n) j = (if j = n then false else tLng T j) ∧ tNam (gwT T q tag nm n) j = (if j = n then nm else tNam T j) := by
  have hqn : q ≠ n := fun z => by rw [z, hn] at hq; cases hq
  have hln : tLk T q ≠ some n := fun z => by
    have := w.links hq (Or.inr (Or.inr (Or.inl z)))
    rw [hn] at this; cases this
  intro j
  obtain ⟨a1, a2, a3, a4, a5, a6, a7, a8, a9, a10, a11, a12⟩ := gw_vals (T := T) (tag := tag) (nm := nm) hqn hln j
  exact ⟨a1, a2, a9, a10, a11, a12, a3⟩
theorem OsOk.grow {T : TS} {kd : Nat → List Nat} {os : OS} (o : OsOk T os) (w : Wf T kd) {q tag n : Nat} {nm : List Nat} (hq : tIs T q = true) (hn : tIs T n = false) : OsOk (gwT T q tag nm n) os := by
  refine ⟨o.1, o.2.1, o.2.2.1, fun k hk => ?_⟩
  obtain ⟨a, b, c, d⟩ := o.2.2.2 k hk
  have hne : oN1 os k ≠ n := fun z => by rw [z, hn] at a; cases a
  obtain ⟨g1, g2, g3, -⟩ := gw_used (tag := tag) (nm := nm) w hq hn (oN1 os k)
  rw [g1, g2, g3, if_neg hne, if_neg hne, if_neg hne]
  exact ⟨a, b, c, d⟩
theorem cls_takeRun {h0 h : AH} {ad0 ad : Nat → Nat → Nat → Nat} {bs s0 n p to : Nat} {sg : Nat → Nat} {tp : Nat → Int32} {ol : OLA} {T : TS} {kd : Nat → List Nat} {fl : FL} {os : OS} {raw : Bool} {p0 : Nat} (hn : n ≤ 2000) (hpt : p ≤ to) (hto : to ≤ n) (hterm : to < n → tbv (tp to) ∉ entB) (hok : ∀ q, q < n → okb (tbv (tp q)) = true) (w : Wf T kd) (hS : SizT T) (hOs : OsOk T os) (hl : fl.length + 1 < 1000000) (q : St h0 ad0 bs s0 sg n tp ol h ad T fl os p0) :
    ∃ h' ad', fX5_takeRun (some (sg 10)) (nI p) (nI to) (bI (!raw)) h = some ((), h') ∧ St h0 ad0 bs s0 sg n tp ol h' ad' (rnS T fl (oN1 os (os.length - 1)) (decL (fun k => tbv (tp k)) to raw (to - p) p) (blk (fun k => tbv (tp k)) (to - p) p) p).1 (rnS T fl (oN1 os (os.length - 1)) (decL (fun k => tbv (tp k)) to raw (to - p) p) (blk (fun k => tbv (tp k)) (to - p) p) p).2 os p0 := by
  obtain ⟨r0, r1, r2, r3, -⟩ := id q.rd
  have h1 := hOs.1
  obtain ⟨ui, t17i, -⟩ := hOs.2.2.2 (os.length - 1) (by omega)
  have hin := cls_inner q hOs
  generalize oN1 os (os.length - 1) = i at *
  have il := hS.lt ui
  obtain ⟨-, ⟨b1, -⟩, v1, v2, v3, v4, v5, v6, v7, v8, -⟩ := q.ct.nd il ui
  have hbl := cls_blank_L (rd := sg 10) q.tp r0 r1 hto hn (to - p) FU p (by omega) (by have := FU_ge; omega)
  have go : ∀ (T' : TS) (k : Nat) (h1 : AH) (ad1 : Nat → Nat → Nat → Nat), k < 120 → tIs T' k = true → tTag T' k = 17 → (tTxt T' k).length ≤ 400 → (∀ k, k < os.length → oN1 os k < 120 ∧ tIs T' (oN1 os k) = true) → St h0 ad0 bs s0 sg n tp ol h1 ad1 T' fl os p0 → ∃ h', fX5_takeRun_17 FU (some (sg 10)) (nI to) (bI (!raw)) (some (ad1 1 k 0)) (nI p) h1 = some ((), h') ∧ St h0 ad0 bs s0 sg n tp ol h' ad1 (rnF T' k (decL (fun k => tbv (tp k)) to raw (to - p) p) fl).1 (rnF T' k (decL (fun k => tbv (tp k)) to raw (to - p) p) fl).2 os p0 := by
    intro T' k h1 ad1 hk hu h17 hlen hO S
    exact cls_run_L hn hto hterm hk hu h17 hO hok (to - p) FU p h1 (tTxt T' k, tLng T' k, fl) (by omega) (by omega) (by have := FU_ge; omega) hlen hl (by rw [rnU_id]; exact S)
  have t33 : rnN T i = none → ∃ h' ad', (cCL (fX5_textFor_33 (some (sg 10)) (nI p) (nI to) (some (ad 1 i 0)) h) fun x2 h1 => if x2 = none then (some ((), h1)) else (fX5_takeRun_17 FU (some (sg 10)) (nI to) (bI (!raw)) x2 (nI p) h1)) = some ((), h') ∧ St h0 ad0 bs s0 sg n tp ol h' ad' (rnS T fl i (decL (fun k => tbv (tp k)) to raw (to - p) p) (blk (fun k => tbv (tp k)) (to - p) p) p).1 (rnS T fl i (decL (fun k => tbv (tp k)) to raw (to - p) p) (blk (fun k => tbv (tp k)) (to - p) p) p).2 os p0 := by
    intro hN
    unfold rnS
    rw [hN]
    simp only [fX5_textFor_33, fX5_isAllBlank, fX5_isAllBlank_0, fX5_textFor_72]
    simp only [↓cv_of r0 hbl, bI0]
    cases blk (fun k => tbv (tp k)) (to - p) p with
    | true => exact ⟨h, ad, by simp only [Bool.true_eq_false, ↓reduceIte, ↓oCL], by simp only [↓reduceIte]; exact q⟩
    | false =>
      simp only [↓reduceIte, Bool.false_eq_true, ↓gr_of r0 r2]
      cases hg : grw T i with
      | none =>
        obtain ⟨h2, g2, S2⟩ := q.tell hl (nI 6) (nI p)
        refine ⟨h2, ad, ?_, S2⟩
        simp only [↓cv_of q.ct.1 (cls_growN q.ct hS ui hg), ↓reduceIte, ↓gr_of r0 r3, ↓cv_of q.fa.1 g2, ↓oCL]
      | some k =>
        obtain ⟨hd1, hk, hku⟩ := grw_some hg
        obtain ⟨h2, ad2, g2, A2, C2, F2⟩ := cls_grow (tag := 17) (nm := []) q.1 q.ct hS w.1 ui (by omega) (by simp) (fun c hc => by cases hc) hg
        rw [show lN (pack ([] : List Nat)) = 0 from rfl] at g2
        have S2 := q.tree (hOs.u hS) A2 F2 C2
        obtain ⟨a1, a2, a3, a4, a5, a6, a7⟩ := gw_used (tag := 17) (nm := []) w ui hku k
        rw [if_pos rfl] at a1 a2 a5
        obtain ⟨h3, g3, S3⟩ := go (gwT T i 17 [] k) k h2 ad2 hk a1 a2 (by rw [a5]; simp) (fun c hc => ⟨(hOs.u hS c hc).1, ((hOs.grow w ui hku).2.2.2 c hc).1⟩) S2
        refine ⟨h3, ad2, ?_, S3⟩
        simp only [↓cv_of q.ct.1 g2, some_ne, ↓reduceIte, ↓oCL]
        exact g3
  simp only [fX5_takeRun, fX5_takeRun_0, fX5_textFor, fX5_textFor_0]
  rw [oCV r0]
  simp only [↓cv_of r0 hin, some_ne, ↓reduceIte]
  cases hlk : tLk T i with
  | none =>
    rw [hlk] at v8
    have hN : rnN T i = none := by unfold rnN; rw [hlk]
    obtain ⟨h2, ad2, g2, S2⟩ := t33 hN
    refine ⟨h2, ad2, ?_, S2⟩
    simp only [↓gr_of b1 v8, oN_n, ↓reduceIte]
    exact g2
  | some l =>
    rw [hlk] at v8
    have ul := w.links ui (Or.inr (Or.inr (Or.inl hlk)))
    have ll := hS.lt ul
    obtain ⟨-, ⟨c1, -⟩, x1, -⟩ := q.ct.nd ll ul
    have s1 := (hS.2 l ul).1
    by_cases h17 : tTag T l = 17
    · have hN : rnN T i = some l := by unfold rnN; rw [hlk]; simp only [h17, ↓reduceIte]
      obtain ⟨h3, g3, S3⟩ := go T l h ad ll ul h17 (hS.2 l ul).2.2.2.2.2.1 (hOs.u hS) q
      refine ⟨h3, ad, ?_, ?_⟩
      · simp (disch := omega) only [↓gr_of b1 v8, oN_s, some_ne, ↓reduceIte, ↓gi_of c1 x1, eqN, h17, ↓oCL]
        exact g3
      · unfold rnS; rw [hN]; exact S3
    · have hN : rnN T i = none := by unfold rnN; rw [hlk]; simp only [h17, ↓reduceIte]
      obtain ⟨h2, ad2, g2, S2⟩ := t33 hN
      refine ⟨h2, ad2, ?_, S2⟩
      simp (disch := omega) only [↓gr_of b1 v8, oN_s, some_ne, ↓reduceIte, ↓gi_of c1 x1, eqN, h17]
      exact g2
/-- what a run leaves -/
theorem fold_ok : ∀ (L : List (Nat × Nat)) (R : List Nat × Bool × FL), (∀ q ∈ L, okb q.2 = true) → R.1.length ≤ 400 → bch R.1 → (L.foldl txS R).1.length ≤ 400 ∧ bch (L.foldl txS R).1 ∧ (L.foldl txS R).2.2.length ≤ R.2.2.length + (if R.2.1 = true then 0 else 1) := by
  intro L
  induction L with
  | nil => intro R _ h1 h2; exact ⟨h1, h2, by simp⟩
  | cons q L ih =>
    intro R hL h1 h2
    rw [List.foldl_cons]
    have hL' : ∀ q ∈ L, okb q.2 = true := fun x hx => hL x (List.mem_cons_of_mem _ hx)
    have hq := hL q List.mem_cons_self
    rw [show txS R q = if R.1.length < 400 then (R.1 ++ [q.2], R.2.1, R.2.2) else if R.2.1 = true then R else (R.1, true, R.2.2 ++ [(nI 7, nI q.1)]) from rfl]
    by_cases hlt : R.1.length < 400
    · rw [if_pos hlt]
      exact ih _ hL' (by simp; omega) (fun c hc => by
        rcases List.mem_append.mp hc with z | z
        · exact h2 c z
        · rw [List.mem_singleton] at z; rw [z]; exact hq)
    · rw [if_neg hlt]
      cases hlg : R.2.1 with
      | true =>
        simp only [↓reduceIte]
        have := ih R hL' h1 h2
        rw [hlg] at this
        exact this
      | false =>
        simp only [Bool.false_eq_true, ↓reduceIte]
        obtain ⟨a, b, c⟩ := ih (R.1, true, R.2.2 ++ [(nI 7, nI q.1)]) hL' h1 h2
        refine ⟨a, b, ?_⟩
        simp only [↓reduceIte, List.length_append, List.length_singleton] at c
        omega
theorem dec_ok {tx : Nat → Nat} {to : Nat} {raw : Bool} (hok : ∀ k, k < to → okb (tx k) = true) : ∀ (j p : Nat), ∀ q ∈ decL tx to raw j p, okb q.2 = true := by
  intro j
  induction j with
  | zero => intro p q hq; cases hq
  | succ j ih =>
    intro p q hq
    unfold decL at hq
    split at hq
    · rename_i hp
      rcases List.mem_cons.mp hq with z | z
      · rw [z]; exact eX_b (hok p hp)
      · exact ih _ q z
    · cases hq
theorem SizT.lng {T : TS} {k : Nat} {b : Bool} (s : SizT T) : SizT (uLng T k b) := ⟨s.1, fun i hi => s.2 i hi⟩
theorem Wf.lng {T : TS} {kd : Nat → List Nat} {k : Nat} {b : Bool} (w : Wf T kd) : Wf (uLng T k b) kd := by
  obtain ⟨w1, w2, w3, w4, w5, w6, w7, w8, w9⟩ := w
  exact ⟨w1, w2, w3, w4, w5, fun i hi => ⟨(w6 i hi).1.fr _ _ _ _ (fun x _ => ⟨rfl, rfl⟩), (w6 i hi).2⟩, w7, w8, w9⟩
theorem rnF_ok {T : TS} {kd : Nat → List Nat} {os : OS} {fl : FL} {k : Nat} {L : List (Nat × Nat)} (w : Wf T kd) (hS : SizT T) (hOs : OsOk T os) (hu : tIs T k = true) (h17 : tTag T k = 17) (hL : ∀ q ∈ L, okb q.2 = true) : Wf (rnF T k L fl).1 kd ∧ SizT (rnF T k L fl).1 ∧ OsOk (rnF T k L fl).1 os ∧ (rnF T k L fl).2.length ≤ fl.length + 1 := by
  obtain ⟨s1, s2, s3, s4, s5, s6, s7, -⟩ := hS.2 k hu
  obtain ⟨a, b, c⟩ := fold_ok L (tTxt T k, tLng T k, fl) hL s6 s7
  unfold rnF rnU
  simp only
  generalize L.foldl txS (tTxt T k, tLng T k, fl) = R at *
  exact ⟨(w.txt).lng, (hS.txt h17 a b).lng, hOs, by simp only at c; split at c <;> omega⟩
theorem rnS_ok {T : TS} {kd : Nat → List Nat} {os : OS} {fl : FL} {L : List (Nat × Nat)} {bl : Bool} {p : Nat} (w : Wf T kd) (hS : SizT T) (hOs : OsOk T os) (hL : ∀ q ∈ L, okb q.2 = true) : (∃ kd', Wf (rnS T fl (oN1 os (os.length - 1)) L bl p).1 kd') ∧ SizT (rnS T fl (oN1 os (os.length - 1)) L bl p).1 ∧ OsOk (rnS T fl (oN1 os (os.length - 1)) L bl p).1 os ∧ (rnS T fl (oN1 os (os.length - 1)) L bl p).2.length ≤ fl.length + 1 := by
  have h1 := hOs.1
  obtain ⟨ui, t17i, -⟩ := hOs.2.2.2 (os.length - 1) (by omega)
  generalize oN1 os (os.length - 1) = i at *
  unfold rnS
  cases hN : rnN T i with
  | some l =>
    have : tLk T i = some l ∧ tTag T l = 17 := by
      unfold rnN at hN
      cases hlk : tLk T i with
      | none => rw [hlk] at hN; cases hN
      | some x =>
        rw [hlk] at hN
        simp only at hN
        split at hN
        · cases hN; exact ⟨rfl, by assumption⟩
        · cases hN
    have ul := w.links ui (Or.inr (Or.inr (Or.inl this.1)))
    obtain ⟨a, b, c, d⟩ := rnF_ok (fl := fl) w hS hOs ul this.2 hL
    exact ⟨⟨kd, a⟩, b, c, d⟩
  | none =>
    simp only
    split
    · exact ⟨⟨kd, w⟩, hS, hOs, by simp⟩
    · cases hg : grw T i with
      | none => exact ⟨⟨kd, w⟩, hS, hOs, by simp⟩
      | some k =>
        obtain ⟨hd1, hk, hku⟩ := grw_some hg
        obtain ⟨a1, a2, a3, a4, a5, a6, a7⟩ := gw_used (tag := 17) (nm := []) w ui hku k
        rw [if_pos rfl] at a1 a2
        obtain ⟨a, b, c, d⟩ := rnF_ok (fl := fl) (w.grow (tag := 17) (nm := []) ui t17i hku hk (Or.inl ⟨rfl, rfl⟩)) (hS.grow (tag := 17) (nm := []) ui hku hk hd1 (by omega) (by simp) (fun c hc => by cases hc)) (hOs.grow w ui hku) a1 a2 hL
        exact ⟨⟨_, a⟩, b, c, d⟩

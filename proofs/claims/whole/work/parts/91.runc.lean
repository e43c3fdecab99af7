/-! a run of bytes: what it comes to, and the class -/
def rnd (tx : Nat → Nat) (N : Nat) (raw : Bool) : Nat → Nat → Nat
  | 0, p => p
  | j + 1, p => if rEnd tx N raw p = true then p else rnd tx N raw j (p + 1)
theorem rnd_spec {tx : Nat → Nat} {N : Nat} {raw : Bool} : ∀ (j p : Nat), p ≤ rnd tx N raw j p ∧ rnd tx N raw j p ≤ p + j ∧ (∀ k, p ≤ k → k < rnd tx N raw j p → rEnd tx N raw k = false) ∧ (rnd tx N raw j p < p + j → rEnd tx N raw (rnd tx N raw j p) = true) := by
  intro j
  induction j with
  | zero => intro p; exact ⟨Nat.le_refl _, Nat.le_refl _, fun k h1 h2 => by unfold rnd at h2; omega, fun h => by unfold rnd at h; omega⟩
  | succ j ih =>
    intro p
    unfold rnd
    by_cases h : rEnd tx N raw p = true
    · rw [if_pos h]
      exact ⟨Nat.le_refl _, by omega, fun k h1 h2 => by omega, fun _ => h⟩
    · rw [if_neg h]
      obtain ⟨a, b, c, d⟩ := ih (p + 1)
      refine ⟨by omega, by omega, fun k h1 h2 => ?_, fun h => d (by omega)⟩
      by_cases e : k = p
      · rw [e]; simpa using h
      · exact c k (by omega) h2
def eC (tx : Nat → Nat) (to p : Nat) : Option Nat := if tx p = 38 then (if isW tx to [38, 108, 116, 59] p = true then some 60 else if isW tx to [38, 103, 116, 59] p = true then some 62 else if isW tx to [38, 97, 109, 112, 59] p = true then some 38 else if isW tx to [38, 113, 117, 111, 116, 59] p = true then some 34 else none) else none
def wd (e : Option Nat) : Nat := match e with
  | none => 1
  | some c => if c = 34 then 6 else if c = 38 then 5 else if c = 60 then 4 else if c = 62 then 4 else 1
theorem wd_pos (e : Option Nat) : 1 ≤ wd e ∧ wd e ≤ 6 := by
  unfold wd
  cases e with
  | none => exact ⟨Nat.le_refl _, by simp⟩
  | some c =>
    simp only
    split
    · omega
    · split
      · omega
      · split
        · omega
        · split <;> omega
theorem eC_ok {tx : Nat → Nat} {to p c : Nat} (h : eC tx to p = some c) : c = 60 ∨ c = 62 ∨ c = 38 ∨ c = 34 := by
  unfold eC at h
  repeat' split at h
  all_goals first
    | (cases h; omega)
    | cases h
def eX (raw : Bool) (tx : Nat → Nat) (to p : Nat) : Option Nat := if raw = true then none else eC tx to p
theorem eX_ok {raw : Bool} {tx : Nat → Nat} {to p c : Nat} (h : eX raw tx to p = some c) : c = 60 ∨ c = 62 ∨ c = 38 ∨ c = 34 := by
  unfold eX at h
  split at h
  · cases h
  · exact eC_ok h
theorem eX_b {raw : Bool} {tx : Nat → Nat} {to p : Nat} (h : okb (tx p) = true) : okb ((eX raw tx to p).getD (tx p)) = true := by
  cases e : eX raw tx to p with
  | none => exact h
  | some c =>
    rcases eX_ok e with z | z | z | z <;> (subst z; rfl)
theorem isW_to {tx : Nat → Nat} {N to : Nat} (hto : to ≤ N) : ∀ (W : List Nat) (p : Nat), (∀ c ∈ W, to < N → tx to ≠ c) → p ≤ to → isW tx N W p = isW tx to W p := by
  intro W
  induction W with
  | nil => intro p _ _; rfl
  | cons c W ih =>
    intro p hc hp
    rw [isW_cons, isW_cons]
    by_cases h : p < to
    · rw [hbA_in (show p < N by omega), hbA_in h, ih (p + 1) (fun d hd => hc d (List.mem_cons_of_mem _ hd)) (by omega)]
    · have e : p = to := by omega
      subst e
      rw [hbA_out (Nat.le_refl p), Bool.false_and]
      by_cases h2 : p < N
      · rw [hbA_in h2, decide_eq_false (hc c List.mem_cons_self h2), Bool.false_and]
      · rw [hbA_out (by omega), Bool.false_and]
def entB : List Nat := [38, 108, 116, 59, 103, 97, 109, 112, 113, 117, 111]
theorem eC_to {tx : Nat → Nat} {N to p : Nat} (hto : to ≤ N) (ht : to < N → tx to ∉ entB) (hp : p ≤ to) : eC tx N p = eC tx to p := by
  have hh : ∀ W : List Nat, (∀ c ∈ W, c ∈ entB) → isW tx N W p = isW tx to W p := fun W hW => isW_to hto W p (fun c hc h e => ht h (by rw [e]; exact hW c hc)) hp
  unfold eC
  rw [hh [38, 108, 116, 59] (by decide), hh [38, 103, 116, 59] (by decide), hh [38, 97, 109, 112, 59] (by decide), hh [38, 113, 117, 111, 116, 59] (by decide)]
def decL (tx : Nat → Nat) (to : Nat) (raw : Bool) : Nat → Nat → List (Nat × Nat)
  | 0, _ => []
  | j + 1, p => if p < to then (p, (eX raw tx to p).getD (tx p)) :: decL tx to raw j (p + wd (eX raw tx to p)) else []
def txS (S : List Nat × Bool × FL) (q : Nat × Nat) : List Nat × Bool × FL := if S.1.length < 400 then (S.1 ++ [q.2], S.2.1, S.2.2) else if S.2.1 = true then S else (S.1, true, S.2.2 ++ [(nI 7, nI q.1)])
theorem txS_full : ∀ (l : List (Nat × Nat)) (S : List Nat × Bool × FL), ¬ S.1.length < 400 → S.2.1 = true → l.foldl txS S = S := by
  intro l
  induction l with
  | nil => intro S _ _; rfl
  | cons q l ih =>
    intro S h1 h2
    rw [List.foldl_cons]
    have : txS S q = S := by unfold txS; rw [if_neg h1, if_pos h2]
    rw [this]
    exact ih S h1 h2
theorem cls_skip_L {h0 : AH} {ad0 ad : Nat → Nat → Nat → Nat} {bs s0 n : Nat} {sg : Nat → Nat} {tp : Nat → Int32} {ol : OLA} {T : TS} {fl : FL} {os : OS} (raw : Bool) (hn : n ≤ 2000) : ∀ (j f p : Nat) (h : AH), p + j = n → j < f → St h0 ad0 bs s0 sg n tp ol h ad T fl os p → ∃ h', fX5_skipRun_0 f (some (sg 10)) (bI raw) h = some ((), h') ∧ St h0 ad0 bs s0 sg n tp ol h' ad T fl os (rnd (fun k => tbv (tp k)) n raw j p) := by
  intro j
  induction j with
  | zero =>
    intro f p h hpj hjf q
    obtain ⟨f, rfl⟩ : ∃ g, f = g + 1 := ⟨f - 1, by omega⟩
    obtain ⟨r0, r1, -⟩ := q.rd
    refine ⟨h, ?_, q⟩
    rw [fX5_skipRun_0]
    simp (disch := omega) only [↓gi_of r0 q.2.2.2.1, ↓gr_of r0 r1, ↓gi_of q.tp.1 q.tp.2.2.2.1, leN, show n ≤ p by omega, ↓reduceIte, fX5_skipRun_39]
  | succ j ih =>
    intro f p h hpj hjf q
    obtain ⟨f, rfl⟩ : ∃ g, f = g + 1 := ⟨f - 1, by omega⟩
    obtain ⟨r0, r1, -⟩ := id q.rd
    have he := cls_endsRun q.tp r0 r1 (show p < 100000 by omega) raw
    unfold rnd
    rw [fX5_skipRun_0]
    simp (disch := omega) only [↓gi_of r0 q.2.2.2.1, ↓gr_of r0 r1, ↓gi_of q.tp.1 q.tp.2.2.2.1, leN, show ¬ n ≤ p by omega, ↓reduceIte, ↓cv_of r0 he, bI0]
    cases hc : rEnd (fun k => tbv (tp k)) n raw p with
    | true => exact ⟨h, by simp only [Bool.true_eq_false, ↓reduceIte, fX5_skipRun_39], by simp only [↓reduceIte]; exact q⟩
    | false =>
      obtain ⟨h1, g1, S1⟩ := ih f (p + 1) _ (by omega) (by omega) (q.at (p + 1))
      refine ⟨h1, ?_, by simp only [Bool.false_eq_true, ↓reduceIte]; exact S1⟩
      simp only [↓reduceIte, ↓gi_of r0 q.2.2.2.1, ↓pi_of r0, nI_add]
      exact g1
theorem cls_entityAt {h : AH} {t b n rd i : Nat} {tp : Nat → Int32} (hT : TapeC h t b n tp) (k1 : gK h rd = (6, 0)) (r1 : gR h 250 rd = some t) (hi : i < n) (hn : n ≤ 2000) : fX5_entityAt (some rd) (nI i) h = some (oI (eC (fun k => tbv (tp k)) n i), h) := by
  have h1 := cls_holds hT (by omega) w1 (by decide) (show i < 100000 by omega)
  have h2 := cls_holds hT (by omega) w2 (by decide) (show i < 100000 by omega)
  have h3 := cls_holds hT (by omega) w3 (by decide) (show i < 100000 by omega)
  have h4 := cls_holds hT (by omega) w4 (by decide) (show i < 100000 by omega)
  have hb := tape_byteAt hT (show i < 2 ^ 31 by omega)
  have hlt := tbv_lt (tp i)
  rw [bt_in hi] at hb
  simp only [fX5_entityAt, fX5_entityAt_0, fX5_entityAt_82]
  simp (disch := omega) only [↓gr_of k1 r1, ↓cv_of hT.1 hb, eqN]
  unfold eC
  by_cases h38 : tbv (tp i) = 38
  · simp only [h38, ↓reduceIte, ↓gr_of k1 r1, ↓cv_of hT.1 h1, bI0]
    cases isW (fun k => tbv (tp k)) n [38, 108, 116, 59] i with
    | true => simp only [Bool.true_eq_false, ↓reduceIte]; rfl
    | false =>
      simp only [↓reduceIte, ↓gr_of k1 r1, ↓cv_of hT.1 h2, bI0, Bool.false_eq_true]
      cases isW (fun k => tbv (tp k)) n [38, 103, 116, 59] i with
      | true => simp only [Bool.true_eq_false, ↓reduceIte]; rfl
      | false =>
        simp only [↓reduceIte, ↓gr_of k1 r1, ↓cv_of hT.1 h3, bI0, Bool.false_eq_true]
        cases isW (fun k => tbv (tp k)) n [38, 97, 109, 112, 59] i with
        | true => simp only [Bool.true_eq_false, ↓reduceIte]; rfl
        | false =>
          simp only [↓reduceIte, ↓gr_of k1 r1, ↓cv_of hT.1 h4, bI0, Bool.false_eq_true]
          cases isW (fun k => tbv (tp k)) n [38, 113, 117, 111, 116, 59] i with
          | true => simp only [Bool.true_eq_false, ↓reduceIte]; rfl
          | false => simp only [↓reduceIte, Bool.false_eq_true]; rfl
  · simp only [h38, ↓reduceIte]; rfl
theorem cls_width {h : AH} {raw : Bool} {tx : Nat → Nat} {to p : Nat} : fX5_widthOf (oI (eX raw tx to p)) h = some (nI (wd (eX raw tx to p)), h) := by
  have l1 : sr_len.getD 1 0 = 4 := by decide
  have l2 : sr_len.getD 2 0 = 4 := by decide
  have l3 : sr_len.getD 3 0 = 5 := by decide
  have l4 : sr_len.getD 4 0 = 6 := by decide
  simp only [fX5_widthOf, fX5_widthOf_0]
  cases e : eX raw tx to p with
  | none => rfl
  | some c =>
    rcases eX_ok e with z | z | z | z <;> subst z
    · rw [if_neg (by decide), if_neg (by decide), if_pos (by decide), oSN (by omega), l1]; rfl
    · rw [if_neg (by decide), if_neg (by decide), if_neg (by decide), if_pos (by decide), oSN (by omega), l2]; rfl
    · rw [if_neg (by decide), if_pos (by decide), oSN (by omega), l3]; rfl
    · rw [if_pos (by decide), oSN (by omega), l4]; rfl
theorem ClsT.p163 {h : AH} {bs s0 : Nat} {sg : Nat → Nat} {ad : Nat → Nat → Nat → Nat} {T : TS} {i : Nat} (q : ClsT h ad (sg 8) (sg 9) T) (hA : AdOk h bs s0 sg ad) (hi : i < 120) (hu : tIs T i = true) (v : Bool) : ClsT (pI h 163 (ad 1 i 0) (bI v)) ad (sg 8) (sg 9) (uLng T i v) := by
  obtain ⟨n1, ⟨b1, b2, b3, b4, b5⟩, v1, v2, v3, v4, v5, v6, v7, v8, v9, v10, v11, v12⟩ := q.nd hi hu
  have hIs := q.is hi hu
  exact q.up1 (i := i) hA.1 (fun _ _ => rfl) (fun j hj _ => ⟨rfl, rfl, rfl, rfl, rfl, rfl, rfl, rfl, rfl, rfl, by rw [tLng_uLng, if_neg hj]⟩) (S := fun a => a = ad 1 i 0) (FrX.pI FrX.rf rfl) (fun a z => ⟨1, 0, z⟩) (fun c j => hA.2.2.1 c i j 9) (fun c j => hA.2.2.1 c i j 8) rfl rfl (Or.inr ⟨n1, ⟨b1, by rw [gI_pI, if_neg (by omega)]; exact b2, b3, b4, b5⟩, by rw [gI_pI, if_neg (by omega)]; exact hIs, fun _ => ⟨by rw [gI_pI, if_neg (by omega)]; exact v1, v2, by rw [gI_pI, if_neg (by omega)]; exact v3, v4, v5, v6, v7, v8, v9.pI (by omega), by rw [gI_pI, if_neg (by omega)]; exact v10, by rw [gI_pI, if_pos ⟨rfl, rfl⟩, tLng_uLng, if_pos rfl], v12⟩⟩)
def rnU (T : TS) (k : Nat) (R : List Nat × Bool × FL) : TS := uLng (uTxt T k R.1) k R.2.1
theorem uLng_up (T : TS) (i : Nat) (a b : Bool) : uLng (uLng T i a) i b = uLng T i b := by
  unfold uLng
  rw [up_up]
theorem rnU_put (T : TS) (k : Nat) (R : List Nat × Bool × FL) (b : List Nat) : uTxt (rnU T k R) k b = rnU T k (b, R.2) := by
  unfold rnU
  show uLng (uTxt (uTxt T k R.1) k b) k R.2.1 = _
  rw [uTxt_up]
theorem rnU_lng (T : TS) (k : Nat) (R : List Nat × Bool × FL) (b : Bool) (fl : FL) : uLng (rnU T k R) k b = rnU T k (R.1, b, fl) := by
  unfold rnU
  rw [uLng_up]
theorem rnU_t (T : TS) (k : Nat) (R : List Nat × Bool × FL) : tTxt (rnU T k R) k = R.1 ∧ tLng (rnU T k R) k = R.2.1 := by
  unfold rnU
  rw [tTxt_uLng, tTxt_uTxt, tLng_uLng, if_pos rfl, if_pos rfl]
  exact ⟨rfl, rfl⟩
theorem cls_tooLong {h0 h : AH} {ad0 ad : Nat → Nat → Nat → Nat} {bs s0 n p k i : Nat} {sg : Nat → Nat} {tp : Nat → Int32} {ol : OLA} {T : TS} {os : OS} {R : List Nat × Bool × FL} (hk : k < 120) (hu : tIs T k = true) (hOs : ∀ k, k < os.length → oN1 os k < 120 ∧ tIs T (oN1 os k) = true) (hl : R.2.2.length + 1 < 1000000) (q : St h0 ad0 bs s0 sg n tp ol h ad (rnU T k R) R.2.2 os p) :
    ∃ h', fX5_tellTooLong (some (sg 10)) (some (ad 1 k 0)) (nI i) h = some ((), h') ∧ St h0 ad0 bs s0 sg n tp ol h' ad (if R.2.1 = true then rnU T k R else rnU T k (R.1, true, R.2.2 ++ [(nI 7, nI i)])) (if R.2.1 = true then R.2.2 else R.2.2 ++ [(nI 7, nI i)]) os p := by
  obtain ⟨r0, r1, r2, r3, -⟩ := id q.rd
  obtain ⟨-, ⟨b1, -⟩, v1, v2, v3, v4, v5, v6, v7, v8, v9, v10, v11, v12⟩ := q.ct.nd (j := k) hk hu
  rw [(rnU_t T k R).2] at v11
  simp only [fX5_tellTooLong, fX5_tellTooLong_0, fX5_tellTooLong_22]
  simp only [↓gi_of b1 v11, bI0]
  cases hR : R.2.1 with
  | true => exact ⟨h, by simp only [Bool.true_eq_false, ↓reduceIte], by simp only [↓reduceIte]; exact q⟩
  | false =>
    have C1 := q.ct.p163 (i := k) q.1 hk hu true
    have A1 : AdOk (pI h 163 (ad 1 k 0) (bI true)) bs s0 sg ad := q.1.eq rfl rfl rfl
    rw [rnU_lng T k R true (R.2.2 ++ [(nI 7, nI i)])] at C1
    have S1 := q.tree hOs A1 (FrTB.node q.1 hk b1 (FrX.pI FrX.rf rfl) rfl) C1
    obtain ⟨h2, g2, S2⟩ := S1.tell hl (nI 7) (nI i)
    obtain ⟨s0', s1', s2', s3', -⟩ := id S1.rd
    refine ⟨h2, ?_, by simp only [Bool.false_eq_true, ↓reduceIte]; exact S2⟩
    simp only [↓reduceIte, ↓pi_of b1]
    rw [show nI 1 = bI true from rfl]
    simp only [↓gr_of s0' s3', ↓cv_of S1.fa.1 g2]
theorem cls_run_L {h0 : AH} {ad0 ad : Nat → Nat → Nat → Nat} {bs s0 n p k to : Nat} {sg : Nat → Nat} {tp : Nat → Int32} {ol : OLA} {T : TS} {os : OS} {raw : Bool} (hn : n ≤ 2000) (hto : to ≤ n) (hterm : to < n → tbv (tp to) ∉ entB) (hk : k < 120) (hu : tIs T k = true) (h17 : tTag T k = 17) (hOs : ∀ k, k < os.length → oN1 os k < 120 ∧ tIs T (oN1 os k) = true) (hok : ∀ q, q < n → okb (tbv (tp q)) = true) : ∀ (j f i : Nat) (h : AH) (R : List Nat × Bool × FL), to ≤ i + j → i ≤ to + 6 → j < f → R.1.length ≤ 400 → R.2.2.length + 1 < 1000000 → St h0 ad0 bs s0 sg n tp ol h ad (rnU T k R) R.2.2 os p →
    ∃ h', fX5_takeRun_17 f (some (sg 10)) (nI to) (bI (!raw)) (some (ad 1 k 0)) (nI i) h = some ((), h') ∧ St h0 ad0 bs s0 sg n tp ol h' ad (rnU T k ((decL (fun k => tbv (tp k)) to raw j i).foldl txS R)) ((decL (fun k => tbv (tp k)) to raw j i).foldl txS R).2.2 os p := by
  intro j
  induction j with
  | zero =>
    intro f i h R hij hi6 hjf hR hl q
    obtain ⟨f, rfl⟩ : ∃ g, f = g + 1 := ⟨f - 1, by omega⟩
    refine ⟨h, ?_, q⟩
    rw [fX5_takeRun_17]
    simp (disch := omega) only [leN, show to ≤ i by omega, ↓reduceIte, fX5_takeRun_89]
  | succ j ih =>
    intro f i h R hij hi6 hjf hR hl q
    obtain ⟨f, rfl⟩ : ∃ g, f = g + 1 := ⟨f - 1, by omega⟩
    unfold decL
    by_cases hit : i < to
    · rw [if_pos hit, List.foldl_cons]
      obtain ⟨r0, r1, -⟩ := id q.rd
      have hin : i < n := by omega
      have hoki := hok i hin
      have hb := tape_byteAt q.tp (show i < 2 ^ 31 by omega)
      rw [bt_in hin] at hb
      have hent := cls_entityAt q.tp r0 r1 hin hn
      rw [eC_to hto hterm (by omega)] at hent
      have hcb := eX_b (raw := raw) (tx := fun k => tbv (tp k)) (to := to) hoki
      have e1 : fX5_takeRun_17 (f + 1) (some (sg 10)) (nI to) (bI (!raw)) (some (ad 1 k 0)) (nI i) h = fX5_takeRun_37 (fX5_takeRun_17 f) (some (sg 10)) (nI to) (bI (!raw)) (some (ad 1 k 0)) (nI i) (oI (eX raw (fun k => tbv (tp k)) to i)) h := by
        rw [fX5_takeRun_17]
        unfold eX
        cases raw with
        | true => simp (disch := omega) only [leN, show ¬ to ≤ i by omega, ↓reduceIte, Bool.not_true, bI0, oI_n]
        | false => simp (disch := omega) only [leN, show ¬ to ≤ i by omega, ↓reduceIte, Bool.not_false, bI0, Bool.true_eq_false, ↓cv_of r0 hent, Bool.false_eq_true]
      have e2 : fX5_takeRun_37 (fX5_takeRun_17 f) (some (sg 10)) (nI to) (bI (!raw)) (some (ad 1 k 0)) (nI i) (oI (eX raw (fun k => tbv (tp k)) to i)) h = fX5_takeRun_61 (fX5_takeRun_17 f) (some (sg 10)) (nI to) (bI (!raw)) (some (ad 1 k 0)) (nI i) (oI (eX raw (fun k => tbv (tp k)) to i)) (nI ((eX raw (fun k => tbv (tp k)) to i).getD (tbv (tp i)))) (some (ad 1 k 0)) h := by
        simp only [fX5_takeRun_37]
        cases he : eX raw (fun k => tbv (tp k)) to i with
        | none => simp only [oI_n, ↓reduceIte, ↓gr_of r0 r1, ↓cv_of q.tp.1 hb, Option.getD_none]
        | some c =>
          have : c < 128 := by rcases eX_ok he with z | z | z | z <;> omega
          simp (disch := omega) only [oI_s, eqM1, ↓reduceIte, Option.getD_some]
      rw [e1, e2]
      generalize hcg : (eX raw (fun k => tbv (tp k)) to i).getD (tbv (tp i)) = c at *
      obtain ⟨h1, g1, A1, C1, F1⟩ := cls_putByte (c := c) q.1 q.ct hk hu h17 (by rw [(rnU_t T k R).1]; exact hR) (okb_lt hcb)
      rw [(rnU_t T k R).1] at g1 C1
      rw [rnU_put] at C1
      have S1 := q.tree hOs A1 F1 C1
      have kk := (q.ct.nd (j := k) hk hu).2.1.1
      have ht0 : txS R (i, c) = if R.1.length < 400 then (R.1 ++ [c], R.2.1, R.2.2) else if R.2.1 = true then R else (R.1, true, R.2.2 ++ [(nI 7, nI i)]) := rfl
      by_cases hlt : R.1.length < 400
      · rw [if_pos hlt] at ht0
        have hwd := wd_pos (eX raw (fun k => tbv (tp k)) to i)
        rw [tadd, if_pos hlt] at S1
        obtain ⟨h2, g2, S2⟩ := ih f (i + wd (eX raw (fun k => tbv (tp k)) to i)) h1 (R.1 ++ [c], R.2.1, R.2.2) (by omega) (by omega) (by omega) (by simp; omega) hl S1
        refine ⟨h2, ?_, by rw [ht0]; exact S2⟩
        simp only [fX5_takeRun_61]
        simp only [↓cv_of kk g1, bI0, hlt, decide_true, Bool.true_eq_false, ↓reduceIte, ↓cl_of cls_width, nI_add]
        exact g2
      · rw [if_neg hlt] at ht0
        rw [tadd, if_neg hlt] at S1
        obtain ⟨h2, g2, S2⟩ := cls_tooLong (i := i) hk hu hOs hl S1
        have r10 := (id S1.rd).1
        refine ⟨h2, ?_, ?_⟩
        · simp only [fX5_takeRun_61, fX5_takeRun_67]
          simp only [↓cv_of kk g1, bI0, hlt, decide_false, ↓reduceIte, ↓cv_of r10 g2]
        · have hfull : ((decL (fun k => tbv (tp k)) to raw j (i + wd (eX raw (fun k => tbv (tp k)) to i))).foldl txS (txS R (i, c))) = txS R (i, c) := by
            rw [ht0]
            cases hlg : R.2.1 with
            | true =>
              simp only [↓reduceIte]
              exact txS_full _ _ hlt hlg
            | false =>
              simp only [Bool.false_eq_true, ↓reduceIte]
              exact txS_full _ _ hlt rfl
          rw [hfull, ht0]
          cases hlg : R.2.1 with
          | true =>
            rw [hlg] at S2
            simp only [↓reduceIte] at S2 ⊢
            exact S2
          | false =>
            rw [hlg] at S2
            simp only [Bool.false_eq_true, ↓reduceIte] at S2 ⊢
            exact S2
    · rw [if_neg hit]
      refine ⟨h, ?_, q⟩
      rw [fX5_takeRun_17]
      simp (disch := omega) only [leN, show to ≤ i by omega, ↓reduceIte, fX5_takeRun_89]

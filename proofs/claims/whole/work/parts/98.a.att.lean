/-! the ATTRIBUTES of a TAG: the class -/
def a1W (tx : Nat → Nat) (N p : Nat) : List Nat := if hbA tx N (an0 tx N p).2 61 = true then vby tx N ((an0 tx N p).2 + 1) else []
def a1E (tx : Nat → Nat) (N p : Nat) : Nat := if hbA tx N (an0 tx N p).2 61 = true then ved tx N ((an0 tx N p).2 + 1) else (an0 tx N p).2
def adL (e : Bool) (L : AttL) (tw : List Nat) (nm w : List Nat) (p : Nat) : AttL × List Nat := if e = true then (L, tw) else if (fnd nm L 0).isSome = true ∨ L.length = 4 then (L, tw ++ [p]) else (L ++ [(nm, vcat [] w)], tw)
def g2L (tw : List Nat) : FL := tw.map (fun p => (nI 2, nI p))
theorem hbA_lt {tx : Nat → Nat} {N q c : Nat} (h : hbA tx N q c = true) : q < N := by
  unfold hbA at h
  simp at h
  exact h.1
theorem an0_le {tx : Nat → Nat} {N p : Nat} (hp : p < N) : p < (an0 tx N p).2 ∧ (an0 tx N p).2 ≤ N := by
  have := anm_le (tx := tx) (N - (p + 1)) (p + 1) [toSm (tx p)]
  unfold an0
  omega
theorem a1E_le {tx : Nat → Nat} {N p : Nat} (hp : p < N) : p < a1E tx N p ∧ a1E tx N p ≤ N := by
  have h1 := an0_le (tx := tx) hp
  unfold a1E
  split
  · have h2 := hbA_lt (by assumption : hbA tx N (an0 tx N p).2 61 = true)
    have := ved_le (tx := tx) (N := N) (q := (an0 tx N p).2 + 1) (by omega)
    omega
  · omega
theorem dec_b {tx : Nat → Nat} {N q : Nat} (hok : ∀ k, k < N → okb (tx k) = true) (hq : q ≤ N) : bch (vby tx N q) := by
  have h1 := vq2_le (tx := tx) hq
  have h2 := ven_spec (tx := tx) (qt := vq tx N q) (N - vq2 tx N q) (vq2 tx N q)
  have hto : vto tx N q ≤ N := by unfold vto; omega
  intro c hc
  unfold vby at hc
  obtain ⟨d, hd, rfl⟩ := List.mem_map.mp hc
  exact dec_ok (fun k hk => hok k (by omega)) _ _ d hd
theorem a1W_b {tx : Nat → Nat} {N p : Nat} (hok : ∀ k, k < N → okb (tx k) = true) : bch (a1W tx N p) := by
  unfold a1W
  split
  · have := hbA_lt (by assumption : hbA tx N (an0 tx N p).2 61 = true)
    exact dec_b hok (by omega)
  · intro c hc; cases hc
theorem adL_ok {e : Bool} {L : AttL} {tw nm w : List Nat} {p : Nat} (hS : AtS L) (h1 : nm.length ≤ 8) (h2 : vch nm) (h3 : bch w) : AtS (adL e L tw nm w p).1 := by
  unfold adL
  split
  · exact hS
  · split
    · exact hS
    · have := hS.1
      exact hS.snoc (by rename_i z; simp only [not_or] at z; have := z.2; omega) h1 h2 (vcat_len _ _) (vcat_b (fun c hc => by cases hc) h3)
theorem cls_att24 {h0 h : AH} {ad0 ad : Nat → Nat → Nat → Nat} {bs s0 n q : Nat} {sg : Nat → Nat} {tp : Nat → Int32} {ol : List Int32} {T : TS} {fl : FL} {os : OS} {L : AttL} (into : Option Nat) (hn : n ≤ 2000) (hok : ∀ q, q < n → okb (tbv (tp q)) = true) (hS : SizT T) (hq : q ≤ n) (hin : ∀ a, into = some a → a < L.length) (s : StL h0 ad0 bs s0 sg n tp ol h ad T fl os q L) :
    ∃ h', fX5_readAttribute_24 (some (sg 10)) (into.map (ad 5 120)) h = some ((), h') ∧ StL h0 ad0 bs s0 sg n tp ol h' ad T fl os (if hbA (fun k => tbv (tp k)) n q 61 = true then ved (fun k => tbv (tp k)) n (q + 1) else q) (vU L into (if hbA (fun k => tbv (tp k)) n q 61 = true then vby (fun k => tbv (tp k)) n (q + 1) else [])) := by
  obtain ⟨r0, r1, -⟩ := id s.1.rd
  have hb := tape_byteAt s.1.tp (show q < 2 ^ 31 by omega)
  simp only [fX5_readAttribute_24, fX5_readAttribute_58]
  simp (disch := omega) only [↓gr_of r0 r1, ↓gi_of r0 s.1.2.2.2.1, ↓cv_of s.1.tp.1 hb, bt_hb]
  by_cases h61 : hbA (fun k => tbv (tp k)) n q 61 = true
  · have := hbA_lt h61
    obtain ⟨h1, g1, S1⟩ := cls_readValue (into := into) hn hok hS (show q + 1 ≤ n by omega) hin (s.at (q + 1))
    refine ⟨h1, ?_, by rw [if_pos h61, if_pos h61]; exact S1⟩
    rw [if_pos h61]
    simp only [↓gi_of r0 s.1.2.2.2.1, ↓pi_of r0, nI_add]
    rw [cv_of (show gK (pI h 257 (sg 10) (nI (q + 1))) (sg 10) = (6, 0) from r0) g1]
  · refine ⟨h, by rw [if_neg h61], ?_⟩
    rw [if_neg h61, if_neg h61, vU_nil s.2.2 hin]
    exact s
theorem StL.grow {h0 h : AH} {ad0 ad : Nat → Nat → Nat → Nat} {bs s0 n p : Nat} {sg : Nat → Nat} {tp : Nat → Int32} {ol : List Int32} {T : TS} {fl : FL} {os : OS} {L : AttL} {nm : List Nat} (q : StL h0 ad0 bs s0 sg n tp ol h ad T fl os p L) (hS : SizT T) (hl : L.length < 4) (h1 : nm.length ≤ 8) (h2 : vch nm) : ∃ h' ad', fX1_grow (some (ad 2 120 0)) (lN (pack nm)) h = some (some (ad' 5 120 L.length), h') ∧ StL h0 ad0 bs s0 sg n tp ol h' ad' T fl os p (L ++ [(nm, [])]) := by
  have hB := q.1.2.1.2.2.2.2.2.2
  obtain ⟨h1', ad1, g1, A1, B1, V1, E1, hE, F1⟩ := cls_attGrow (i := 120) (nm := nm) q.1.1 (by omega) hB q.2.1 hl
  exact ⟨h1', ad1, g1, q.1.seen hS A1 hE E1 F1 B1 V1, V1, q.2.2.snoc hl h1 h2 (by simp) (fun c hc => by cases hc)⟩
theorem cls_readAttribute {h0 h : AH} {ad0 ad : Nat → Nat → Nat → Nat} {bs s0 n p : Nat} {sg : Nat → Nat} {tp : Nat → Int32} {ol : List Int32} {T : TS} {fl : FL} {os : OS} {L : AttL} {tw : List Nat} {e : Bool} (hn : n ≤ 2000) (hok : ∀ q, q < n → okb (tbv (tp q)) = true) (hS : SizT T) (hp : p < n) (hl : fl.length + tw.length + 1 < 1000000) (s : StL h0 ad0 bs s0 sg n tp ol h ad T (fl ++ g2L tw) os p L) :
    ∃ h' ad', fX5_readAttribute (some (sg 10)) (bI e) h = some ((), h') ∧ StL h0 ad0 bs s0 sg n tp ol h' ad' T (fl ++ g2L (adL e L tw (an0 (fun k => tbv (tp k)) n p).1 (a1W (fun k => tbv (tp k)) n p) p).2) os (a1E (fun k => tbv (tp k)) n p) (adL e L tw (an0 (fun k => tbv (tp k)) n p).1 (a1W (fun k => tbv (tp k)) n p) p).1 := by
  obtain ⟨r0, -⟩ := id s.1.rd
  obtain ⟨h1, g1, S1⟩ := cls_attName hn hok hp s
  have han := an0_le (tx := fun k => tbv (tp k)) hp
  have hnm := anm_ok (tx := fun k => tbv (tp k)) (n - (p + 1)) (p + 1) [toSm (tbv (tp p))] (fun k a b => hok k (by omega)) (fun c hc => by rw [List.mem_singleton] at hc; rw [hc]; exact toSm_v (hok p hp)) (by simp)
  have hnm' : vch (an0 (fun k => tbv (tp k)) n p).1 ∧ (an0 (fun k => tbv (tp k)) n p).1.length ≤ 8 := hnm
  obtain ⟨x0, x1, x2, x3, x4, -⟩ := id S1.1.rd
  simp only [fX5_readAttribute, fX5_readAttribute_0, bI0]
  simp only [↓gi_of r0 s.1.2.2.2.1, ↓cv_of r0 g1]
  unfold adL a1E a1W
  cases e with
  | true =>
    obtain ⟨h2, g2, S2⟩ := cls_att24 none hn hok hS han.2 (fun a z => by cases z) S1
    refine ⟨h2, ad, ?_, S2⟩
    simp only [Bool.true_eq_false, ↓reduceIte]
    exact g2
  | false =>
    have hB := S1.1.2.1.2.2.2.2.2.2
    have hnd := cls_named hB S1.2.1 S1.2.2 hnm'.1 hnm'.2
    simp only [↓reduceIte, Bool.false_eq_true, fX5_takeAttribute, fX5_takeAttribute_0, fX5_takeAttribute_23, fX5_takeAttribute_39]
    rw [oCV x0]
    simp only [↓gr_of x0 x4, ↓cv_of hB.1 hnd]
    have tellCase : ∃ h', (cCL (cGR h1 5 252 (some (sg 10)) fun x1 => cCV h1 2 x1 (fX2_tell x1 (nI 2) (nI p) h1) fun _ h2 => some ((none : Option Nat), h2)) fun x5 h4 => fX5_readAttribute_24 (some (sg 10)) x5 h4) = some ((), h') ∧ StL h0 ad0 bs s0 sg n tp ol h' ad T (fl ++ g2L (tw ++ [p])) os (if hbA (fun k => tbv (tp k)) n (an0 (fun k => tbv (tp k)) n p).2 61 = true then ved (fun k => tbv (tp k)) n ((an0 (fun k => tbv (tp k)) n p).2 + 1) else (an0 (fun k => tbv (tp k)) n p).2) L := by
      obtain ⟨h2, g2, S2⟩ := S1.tell (by rw [List.length_append]; unfold g2L; rw [List.length_map]; omega) (nI 2) (nI p)
      obtain ⟨h3, g3, S3⟩ := cls_att24 none hn hok hS han.2 (fun a z => by cases z) S2
      refine ⟨h3, ?_, ?_⟩
      · simp only [↓gr_of x0 x3, ↓cv_of S1.1.fa.1 g2, ↓oCL]
        exact g3
      · unfold g2L
        rw [List.map_append, ← List.append_assoc]
        exact S3
    cases hf : fnd (an0 (fun k => tbv (tp k)) n p).1 L 0 with
    | some j =>
      obtain ⟨h2, g2, S2⟩ := tellCase
      refine ⟨h2, ad, ?_, by simp only [Option.isSome_some, true_or, ↓reduceIte]; exact S2⟩
      simp only [Option.map_some, some_ne, ↓reduceIte]
      exact g2
    | none =>
      simp only [Option.map_none, ↓reduceIte, ↓gr_of x0 x4, Option.isSome_none, Bool.false_eq_true, false_or]
      by_cases h4 : L.length = 4
      · obtain ⟨h2, g2, S2⟩ := tellCase
        refine ⟨h2, ad, ?_, by simp only [h4, ↓reduceIte]; exact S2⟩
        simp only [↓cv_of hB.1 (cls_attFull hB S1.2.1 h4), ↓reduceIte]
        exact g2
      · have hl4 : L.length < 4 := by have := S1.2.2.1; omega
        obtain ⟨h2, ad2, g2, S2⟩ := S1.grow hS hl4 hnm'.2 hnm'.1
        obtain ⟨h3, g3, S3⟩ := cls_att24 (some L.length) hn hok hS han.2 (fun a z => by cases z; simp) S2
        refine ⟨h3, ad2, ?_, ?_⟩
        · simp only [↓cv_of hB.1 g2, some_ne, ↓reduceIte, ↓oCL]
          exact g3
        · rw [if_neg h4]
          have ev : ∀ w : List Nat, vU (L ++ [((an0 (fun k => tbv (tp k)) n p).1, [])]) (some L.length) w = L ++ [((an0 (fun k => tbv (tp k)) n p).1, vcat [] w)] := by
            intro w
            unfold vU
            simp only
            rw [getD_snoc, if_pos rfl, setV_snoc]
          rw [ev] at S3
          exact S3
def atL (e : Bool) (tx : Nat → Nat) (N : Nat) : Nat → Nat → AttL → List Nat → Nat × AttL × List Nat
  | 0, q, L, tw => (q, L, tw)
  | j + 1, q, L, tw => if q < N then (if tx q = 62 then (q, L, tw) else if prt (tx q) = true then atL e tx N j (q + 1) L tw else atL e tx N j (a1E tx N q) (adL e L tw (an0 tx N q).1 (a1W tx N q) q).1 (adL e L tw (an0 tx N q).1 (a1W tx N q) q).2) else (q, L, tw)
theorem adL_len {e : Bool} {L : AttL} {tw nm w : List Nat} {p : Nat} : (adL e L tw nm w p).2.length ≤ tw.length + 1 := by
  unfold adL
  split
  · simp
  · split <;> simp
theorem cls_atts {h0 : AH} {ad0 : Nat → Nat → Nat → Nat} {bs s0 n : Nat} {sg : Nat → Nat} {tp : Nat → Int32} {ol : List Int32} {T : TS} {fl : FL} {os : OS} {e : Bool} {v1 v2 : Int32} {v4 : Int64} (hn : n ≤ 2000) (hok : ∀ q, q < n → okb (tbv (tp q)) = true) (hS : SizT T) : ∀ (j f q st : Nat) (h : AH) (ad : Nat → Nat → Nat → Nat) (L : AttL) (tw : List Nat), n ≤ q + j → q ≤ n → st ≤ q → j < f → fl.length + tw.length + (n - q) + 1 < 1000000 → StL h0 ad0 bs s0 sg n tp ol h ad T (fl ++ g2L tw) os q L →
    ∃ h' ad', fX5_readTag_68 f (some (sg 10)) v1 v2 (bI e) v4 (nI st) h = fX5_readTag_151 (some (sg 10)) v1 v2 (bI e) v4 h' ∧ StL h0 ad0 bs s0 sg n tp ol h' ad' T (fl ++ g2L (atL e (fun k => tbv (tp k)) n j q L tw).2.2) os (atL e (fun k => tbv (tp k)) n j q L tw).1 (atL e (fun k => tbv (tp k)) n j q L tw).2.1 := by
  have full : ∀ (f st : Nat) (h : AH) (ad : Nat → Nat → Nat → Nat) (L : AttL) (tw : List Nat), st ≤ n → StL h0 ad0 bs s0 sg n tp ol h ad T (fl ++ g2L tw) os n L → fX5_readTag_68 (f + 1) (some (sg 10)) v1 v2 (bI e) v4 (nI st) h = fX5_readTag_151 (some (sg 10)) v1 v2 (bI e) v4 h := by
    intro f st h ad L tw hst s
    obtain ⟨r0, r1, -⟩ := id s.1.rd
    rw [fX5_readTag_68]
    simp (disch := omega) only [↓gr_of r0 r1, ↓gi_of s.1.tp.1 s.1.tp.2.2.2.1, leN, ↓gi_of r0 s.1.2.2.2.1, Nat.le_refl, ↓reduceIte, ite_self]
  intro j
  induction j with
  | zero =>
    intro f q st h ad L tw hqj hqn hst hjf hl s
    obtain ⟨f, rfl⟩ : ∃ g, f = g + 1 := ⟨f - 1, by omega⟩
    have eq : q = n := by omega
    subst eq
    exact ⟨h, ad, full f st h ad L tw (by omega) s, s⟩
  | succ j ih =>
    intro f q st h ad L tw hqj hqn hst hjf hl s
    obtain ⟨f, rfl⟩ : ∃ g, f = g + 1 := ⟨f - 1, by omega⟩
    rw [show atL e (fun k => tbv (tp k)) n (j + 1) q L tw = if q < n then (if tbv (tp q) = 62 then (q, L, tw) else if prt (tbv (tp q)) = true then atL e (fun k => tbv (tp k)) n j (q + 1) L tw else atL e (fun k => tbv (tp k)) n j (a1E (fun k => tbv (tp k)) n q) (adL e L tw (an0 (fun k => tbv (tp k)) n q).1 (a1W (fun k => tbv (tp k)) n q) q).1 (adL e L tw (an0 (fun k => tbv (tp k)) n q).1 (a1W (fun k => tbv (tp k)) n q) q).2) else (q, L, tw) from rfl]
    by_cases hin : q < n
    · rw [if_pos hin]
      obtain ⟨r0, r1, -⟩ := id s.1.rd
      have hlt := tbv_lt (tp q)
      have hb := tape_byteAt s.1.tp (show q < 2 ^ 31 by omega)
      rw [bt_in hin] at hb
      have hpt := cls_parts (h := h) (c := tbv (tp q)) (by omega)
      rw [fX5_readTag_68]
      simp (disch := omega) only [↓gr_of r0 r1, ↓gi_of s.1.tp.1 s.1.tp.2.2.2.1, leN, show ¬ n ≤ st by omega, ↓reduceIte, ↓gi_of r0 s.1.2.2.2.1, show ¬ n ≤ q by omega, ↓cv_of s.1.tp.1 hb, eqN]
      by_cases h62 : tbv (tp q) = 62
      · exact ⟨h, ad, by rw [if_pos h62], by rw [if_pos h62]; exact s⟩
      · rw [if_neg h62, if_neg h62]
        simp only [↓gr_of r0 r1, ↓gi_of r0 s.1.2.2.2.1, ↓cv_of s.1.tp.1 hb, ↓cl_of hpt, bI0, fX5_readTag_145, nI_add]
        cases hpr : prt (tbv (tp q)) with
        | true =>
          obtain ⟨h1, ad1, g1, S1⟩ := ih f (q + 1) (st + 1) (pI h 257 (sg 10) (nI (q + 1))) ad L tw (by omega) (by omega) (by omega) (by omega) (by omega) (s.at (q + 1))
          refine ⟨h1, ad1, ?_, by simp only [↓reduceIte]; exact S1⟩
          simp only [Bool.true_eq_false, ↓reduceIte, ↓gi_of r0 s.1.2.2.2.1, ↓pi_of r0, nI_add]
          exact g1
        | false =>
          obtain ⟨h1, ad1, g1, S1⟩ := cls_readAttribute (e := e) hn hok hS hin (by omega) s
          have hle := a1E_le (tx := fun k => tbv (tp k)) hin
          have hal := adL_len (e := e) (L := L) (tw := tw) (nm := (an0 (fun k => tbv (tp k)) n q).1) (w := a1W (fun k => tbv (tp k)) n q) (p := q)
          obtain ⟨h2, ad2, g2, S2⟩ := ih f (a1E (fun k => tbv (tp k)) n q) (st + 1) h1 ad1 _ _ (by omega) (by omega) (by omega) (by omega) (by omega) S1
          refine ⟨h2, ad2, ?_, by simp only [Bool.false_eq_true, ↓reduceIte]; exact S2⟩
          simp only [↓reduceIte, ↓cv_of r0 g1]
          exact g2
    · rw [if_neg hin]
      have eq : q = n := by omega
      subst eq
      exact ⟨h, ad, full f st h ad L tw (by omega) s, s⟩

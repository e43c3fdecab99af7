/-! a VALUE, an ATTRIBUTE: the class -/
def vq (tx : Nat → Nat) (N q : Nat) : Option Nat := if hbA tx N q 34 = true then some 34 else if hbA tx N q 39 = true then some 39 else none
theorem vq_ok {tx : Nat → Nat} {N q u : Nat} (h : vq tx N q = some u) : (u = 34 ∨ u = 39) ∧ q < N := by
  unfold vq at h
  have hlt : ∀ c, hbA tx N q c = true → q < N := fun c hc => by
    unfold hbA at hc
    simp at hc
    exact hc.1
  split at h
  · cases h; exact ⟨Or.inl rfl, hlt 34 (by assumption)⟩
  · split at h
    · cases h; exact ⟨Or.inr rfl, hlt 39 (by assumption)⟩
    · cases h
def eVl (qt : Option Nat) (c : Nat) : Bool := match qt with
  | some u => c == u
  | none => isBl c || c == 62
def ven (tx : Nat → Nat) (qt : Option Nat) : Nat → Nat → Nat
  | 0, q => q
  | j + 1, q => if eVl qt (tx q) = true then q else ven tx qt j (q + 1)
theorem ven_spec {tx : Nat → Nat} {qt : Option Nat} : ∀ (j q : Nat), q ≤ ven tx qt j q ∧ ven tx qt j q ≤ q + j ∧ (∀ k, q ≤ k → k < ven tx qt j q → eVl qt (tx k) = false) ∧ (ven tx qt j q < q + j → eVl qt (tx (ven tx qt j q)) = true) := by
  intro j
  induction j with
  | zero => intro p; exact ⟨Nat.le_refl _, Nat.le_refl _, fun k h1 h2 => by unfold ven at h2; omega, fun h => by unfold ven at h; omega⟩
  | succ j ih =>
    intro p
    unfold ven
    by_cases h : eVl qt (tx p) = true
    · rw [if_pos h]
      exact ⟨Nat.le_refl _, by omega, fun k h1 h2 => by omega, fun _ => h⟩
    · rw [if_neg h]
      obtain ⟨a, b, c, d⟩ := ih (p + 1)
      refine ⟨by omega, by omega, fun k h1 h2 => ?_, fun h => d (by omega)⟩
      by_cases e : k = p
      · rw [e]; simpa using h
      · exact c k (by omega) h2
theorem eVl_ent {qt : Option Nat} {c : Nat} (hq : ∀ u, qt = some u → u = 34 ∨ u = 39) (h : eVl qt c = true) : c ∉ entB := by
  unfold eVl at h
  cases qt with
  | some u =>
    simp only [beq_iff_eq] at h
    subst h
    rcases hq c rfl with z | z <;> (subst z; decide)
  | none =>
    simp only [isBl, Bool.or_eq_true, beq_iff_eq] at h
    rcases h with (z | z) | z <;> (subst z; decide)
theorem eC_wd {tx : Nat → Nat} {to p : Nat} (hp : p < to) : p + wd (eC tx to p) ≤ to := by
  unfold eC
  split
  · split
    · rcases isW_len _ _ (by assumption) with z | z
      · cases z
      · exact z
    · split
      · rcases isW_len _ _ (by assumption) with z | z
        · cases z
        · exact z
      · split
        · rcases isW_len _ _ (by assumption) with z | z
          · cases z
          · exact z
        · split
          · rcases isW_len _ _ (by assumption) with z | z
            · cases z
            · exact z
          · exact hp
  · exact hp
theorem cls_endsValue {h : AH} {c : Nat} {qt : Option Nat} {v2 : Int32} (hc : c < 256) (hq : ∀ u, qt = some u → v2 = nI u ∧ u < 256) : fX5_endsValue (nI c) (bI qt.isSome) v2 h = some (bI (eVl qt c), h) := by
  have hb := cls_bl (h := h) (c := c) (by omega)
  simp only [fX5_endsValue, fX5_endsValue_0, fX5_endsValue_30, fX5_endsValue_35, bI0]
  cases qt with
  | some u =>
    obtain ⟨rfl, hu⟩ := hq u rfl
    simp (disch := omega) only [Option.isSome_some, Bool.true_eq_false, ↓reduceIte, eqN, oZn0, oZn1]
    unfold eVl
    by_cases e : c = u
    · subst e; simp; rfl
    · rw [if_neg e]
      show _ = some (bI (c == u), h)
      rw [show (c == u) = false by simp [e]]; rfl
  | none =>
    simp (disch := omega) only [Option.isSome_none, ↓reduceIte, ↓cl_of hb, bI0, eqN, oZn0, oZn1]
    unfold eVl
    cases isBl c with
    | true => simp only [Bool.true_eq_false, ↓reduceIte, Bool.true_or]; rfl
    | false =>
      simp only [↓reduceIte, Bool.false_or]
      by_cases e : c = 62
      · subst e; rfl
      · rw [if_neg e, show (c == 62) = false by simp [e]]; rfl
def vU (L : AttL) (into : Option Nat) (w : List Nat) : AttL := match into with
  | none => L
  | some j => setV L j (vcat (L.getD j ([], [])).2 w)
theorem vU_nil {L : AttL} {into : Option Nat} (hS : AtS L) (hi : ∀ a, into = some a → a < L.length) : vU L into [] = L := by
  unfold vU
  cases into with
  | none => rfl
  | some j =>
    have hj := hi j rfl
    simp only
    rw [vcat_nil (hS.get hj).2.2.1]
    unfold setV
    apply List.ext_getElem
    · simp
    · intro k h1 h2
      rw [List.getElem_set]
      split
      · rename_i e; subst e
        rw [gD_in h2]
      · rfl
theorem vU_cons {L : AttL} {j : Nat} {w : List Nat} {c : Nat} (hS : AtS L) (hj : j < L.length) : vU (setV L j (vadd (L.getD j ([], [])).2 c)) (some j) w = vU L (some j) (c :: w) := by
  unfold vU
  simp only
  rw [setV_get L hj _ j, if_pos rfl, setV_setV L hj, vadd_eq (hS.get hj).2.2.1, vcat_cons]
theorem StL.put {h0 h : AH} {ad0 ad : Nat → Nat → Nat → Nat} {bs s0 n p j c : Nat} {sg : Nat → Nat} {tp : Nat → Int32} {ol : List Int32} {T : TS} {fl : FL} {os : OS} {L : AttL} (q : StL h0 ad0 bs s0 sg n tp ol h ad T fl os p L) (hS : SizT T) (hj : j < L.length) (hc : okb c = true) : ∃ h', fX0_put (some (ad 5 120 j)) (nI c) h = some ((), h') ∧ StL h0 ad0 bs s0 sg n tp ol h' ad T fl os p (setV L j (vadd (L.getD j ([], [])).2 c)) := by
  have hB := q.1.2.1.2.2.2.2.2.2
  obtain ⟨h1, g1, V1, F1⟩ := cls_attPut q.1.1.1 hB q.2.1 q.2.2 hj (okb_lt hc)
  obtain ⟨k5, -, k6⟩ := hB.k5 q.2.1 q.2.2 hj
  obtain ⟨z1, z2, z3, z4⟩ := q.2.2.get hj
  refine ⟨h1, g1, q.1.seen hS (q.1.1.eq F1.2.2.2.2.2.2.1 F1.2.2.2.2.2.2.2 F1.2.2.2.2.2.1) (fun _ _ _ _ => rfl) (Ext.same F1.2.2.2.2.2.2.1) (Fr.x F1 (fun f a z => ⟨5, j, by omega, z.2, ?_⟩) (fun a z => ⟨6, j, by omega, z, ?_⟩)) (hB.eq F1.2.2.1 F1.2.2.2.2.2.1 F1.2.2.2.2.1 F1.2.2.2.2.2.2.1) V1, V1, q.2.2.setV hj ?_ ?_⟩
  · rw [F1.2.2.2.2.2.2.1, z.2]; exact q.1.1.md k5
  · rw [F1.2.2.2.2.2.2.1, z]; exact q.1.1.md k6
  · rw [vadd_eq z3]; exact vcat_len _ _
  · rw [vadd_eq z3]; exact vcat_b z4 (fun d hd => by rw [List.mem_singleton] at hd; rw [hd]; exact hc)
theorem cls_val_L {h0 : AH} {ad0 ad : Nat → Nat → Nat → Nat} {bs s0 n to i0 : Nat} {sg : Nat → Nat} {tp : Nat → Int32} {ol : List Int32} {T : TS} {fl : FL} {os : OS} {qt into : Option Nat} {v2 : Int32} (hn : n ≤ 2000) (hok : ∀ q, q < n → okb (tbv (tp q)) = true) (hS : SizT T) (hto : to ≤ n) (hq : ∀ u, qt = some u → u = 34 ∨ u = 39) (hv2 : ∀ u, qt = some u → v2 = nI u) (hno : ∀ k, i0 ≤ k → k < to → eVl qt (tbv (tp k)) = false) (hterm : to < n → eVl qt (tbv (tp to)) = true) : ∀ (j f i : Nat) (h : AH) (L : AttL), i0 ≤ i → i ≤ to → to ≤ i + j → j < f → (∀ a, into = some a → a < L.length) → StL h0 ad0 bs s0 sg n tp ol h ad T fl os i L →
    ∃ h', fX5_readValue_44 f (some (sg 10)) (into.map (ad 5 120)) v2 (bI qt.isSome) h = fX5_readValue_134 (some (sg 10)) (bI qt.isSome) h' ∧ StL h0 ad0 bs s0 sg n tp ol h' ad T fl os to (vU L into ((decL (fun k => tbv (tp k)) to false j i).map (fun q => q.2))) := by
  have hq2 : ∀ u, qt = some u → v2 = nI u ∧ u < 256 := fun u hu => ⟨hv2 u hu, by rcases hq u hu with z | z <;> omega⟩
  have stop : ∀ (f : Nat) (h : AH) (L : AttL), (∀ a, into = some a → a < L.length) → StL h0 ad0 bs s0 sg n tp ol h ad T fl os to L → fX5_readValue_44 (f + 1) (some (sg 10)) (into.map (ad 5 120)) v2 (bI qt.isSome) h = fX5_readValue_134 (some (sg 10)) (bI qt.isSome) h := by
    intro f h L hi s
    obtain ⟨r0, r1, -⟩ := id s.1.rd
    rw [fX5_readValue_44]
    by_cases h1 : to < n
    · have hlt := tbv_lt (tp to)
      have hb := tape_byteAt s.1.tp (show to < 2 ^ 31 by omega)
      rw [bt_in h1] at hb
      have hev := cls_endsValue (h := h) (c := tbv (tp to)) (qt := qt) (v2 := v2) (by omega) hq2
      rw [hterm h1] at hev
      simp (disch := omega) only [↓gi_of r0 s.1.2.2.2.1, ↓gr_of r0 r1, ↓gi_of s.1.tp.1 s.1.tp.2.2.2.1, leN, show ¬ n ≤ to by omega, ↓reduceIte, ↓cv_of s.1.tp.1 hb, ↓cl_of hev, bI0, Bool.true_eq_false]
    · simp (disch := omega) only [↓gi_of r0 s.1.2.2.2.1, ↓gr_of r0 r1, ↓gi_of s.1.tp.1 s.1.tp.2.2.2.1, leN, show n ≤ to by omega, ↓reduceIte]
  intro j
  induction j with
  | zero =>
    intro f i h L hi0 hit hij hjf hin s
    obtain ⟨f, rfl⟩ : ∃ g, f = g + 1 := ⟨f - 1, by omega⟩
    have e : i = to := by omega
    subst e
    exact ⟨h, stop f h L hin s, by rw [show decL (fun k => tbv (tp k)) i false 0 i = [] from rfl, List.map_nil, vU_nil s.2.2 hin]; exact s⟩
  | succ j ih =>
    intro f i h L hi0 hit hij hjf hin s
    obtain ⟨f, rfl⟩ : ∃ g, f = g + 1 := ⟨f - 1, by omega⟩
    rw [show decL (fun k => tbv (tp k)) to false (j + 1) i = if i < to then (i, (eX false (fun k => tbv (tp k)) to i).getD (tbv (tp i))) :: decL (fun k => tbv (tp k)) to false j (i + wd (eX false (fun k => tbv (tp k)) to i)) else [] from rfl]
    by_cases hlt2 : i < to
    · rw [if_pos hlt2, List.map_cons]
      obtain ⟨r0, r1, -⟩ := id s.1.rd
      have hinn : i < n := by omega
      have hoki := hok i hinn
      have hlt := tbv_lt (tp i)
      have hb := tape_byteAt s.1.tp (show i < 2 ^ 31 by omega)
      rw [bt_in hinn] at hb
      have hev := cls_endsValue (h := h) (c := tbv (tp i)) (qt := qt) (v2 := v2) (by omega) hq2
      rw [hno i hi0 hlt2] at hev
      have hent := cls_entityAt s.1.tp r0 r1 hinn hn
      rw [eC_to hto (fun z => eVl_ent hq (hterm z)) (by omega)] at hent
      have hw := eC_wd (tx := fun k => tbv (tp k)) hlt2
      have hwp := wd_pos (eC (fun k => tbv (tp k)) to i)
      have hcb := eX_b (raw := false) (tx := fun k => tbv (tp k)) (to := to) hoki
      have hwid := cls_width (h := h) (raw := false) (tx := fun k => tbv (tp k)) (to := to) (p := i)
      have eXe : eX false (fun k => tbv (tp k)) to i = eC (fun k => tbv (tp k)) to i := rfl
      rw [eXe] at hcb hwid ⊢
      cases into with
      | none =>
        obtain ⟨h1, g1, S1⟩ := ih f (i + wd (eC (fun k => tbv (tp k)) to i)) (pI h 257 (sg 10) (nI (i + wd (eC (fun k => tbv (tp k)) to i)))) L (by omega) (by omega) (by omega) (by omega) hin (s.at _)
        refine ⟨h1, ?_, S1⟩
        rw [fX5_readValue_44]
        simp (disch := omega) only [↓gi_of r0 s.1.2.2.2.1, ↓gr_of r0 r1, ↓gi_of s.1.tp.1 s.1.tp.2.2.2.1, leN, show ¬ n ≤ i by omega, ↓reduceIte, ↓cv_of s.1.tp.1 hb, ↓cl_of hev, bI0, ↓cv_of r0 hent, Option.map_none, fX5_readValue_117, ↓cl_of hwid, ↓pi_of r0, nI_add]
        exact g1
      | some a =>
        have ha := hin a rfl
        generalize hcg : (eC (fun k => tbv (tp k)) to i).getD (tbv (tp i)) = c at *
        obtain ⟨h1, g1, S1⟩ := s.put hS ha hcb
        have hwid1 := cls_width (h := h1) (raw := false) (tx := fun k => tbv (tp k)) (to := to) (p := i)
        rw [eXe] at hwid1
        obtain ⟨x0, x1, -⟩ := id S1.1.rd
        obtain ⟨h2, g2, S2⟩ := ih f (i + wd (eC (fun k => tbv (tp k)) to i)) (pI h1 257 (sg 10) (nI (i + wd (eC (fun k => tbv (tp k)) to i)))) _ (by omega) (by omega) (by omega) (by omega) (fun b hb => by cases hb; rw [setV_len]; exact ha) (S1.at _)
        have k5 := (s.1.2.1.2.2.2.2.2.2.k5 s.2.1 s.2.2 ha).1
        refine ⟨h2, ?_, by rw [← vU_cons s.2.2 ha]; exact S2⟩
        have e114 : fX5_readValue_114 (fX5_readValue_44 f) (some (sg 10)) (some (ad 5 120 a)) v2 (bI qt.isSome) (oI (eC (fun k => tbv (tp k)) to i)) (nI c) (some (ad 5 120 a)) h = fX5_readValue_134 (some (sg 10)) (bI qt.isSome) h2 := by
          simp only [fX5_readValue_114, fX5_readValue_117]
          simp only [↓cv_of k5 g1, ↓gi_of x0 S1.1.2.2.2.1, ↓cl_of hwid1, ↓pi_of x0, nI_add]
          exact g2
        rw [fX5_readValue_44]
        simp (disch := omega) only [↓gi_of r0 s.1.2.2.2.1, ↓gr_of r0 r1, ↓gi_of s.1.tp.1 s.1.tp.2.2.2.1, leN, show ¬ n ≤ i by omega, ↓reduceIte, ↓cv_of s.1.tp.1 hb, ↓cl_of hev, bI0, ↓cv_of r0 hent, Option.map_some, some_ne]
        cases he : eC (fun k => tbv (tp k)) to i with
        | none =>
          rw [he] at e114 hcg
          rw [show c = tbv (tp i) from hcg.symm] at e114
          simp only [oI_n, ↓reduceIte, ↓gr_of r0 r1, ↓gi_of r0 s.1.2.2.2.1, ↓cv_of s.1.tp.1 hb]
          exact e114
        | some d =>
          rw [he] at e114 hcg
          rw [show c = d from hcg.symm] at e114
          have : d < 128 := by rcases eC_ok he with z | z | z | z <;> omega
          simp (disch := omega) only [oI_s, eqM1, ↓reduceIte]
          exact e114
    · rw [if_neg hlt2]
      have e : i = to := by omega
      subst e
      exact ⟨h, stop f h L hin s, by rw [List.map_nil, vU_nil s.2.2 hin]; exact s⟩
def vq2 (tx : Nat → Nat) (N q : Nat) : Nat := if (vq tx N q).isSome = true then q + 1 else q
def vto (tx : Nat → Nat) (N q : Nat) : Nat := ven tx (vq tx N q) (N - vq2 tx N q) (vq2 tx N q)
def vby (tx : Nat → Nat) (N q : Nat) : List Nat := (decL tx (vto tx N q) false (vto tx N q - vq2 tx N q) (vq2 tx N q)).map (fun q => q.2)
def ved (tx : Nat → Nat) (N q : Nat) : Nat := if (vq tx N q).isSome = true ∧ vto tx N q < N then vto tx N q + 1 else vto tx N q
theorem vq2_le {tx : Nat → Nat} {N q : Nat} (h : q ≤ N) : q ≤ vq2 tx N q ∧ vq2 tx N q ≤ N := by
  unfold vq2
  cases e : vq tx N q with
  | none => simp; exact h
  | some u =>
    have := (vq_ok e).2
    simp; omega
theorem ved_le {tx : Nat → Nat} {N q : Nat} (h : q ≤ N) : q ≤ ved tx N q ∧ ved tx N q ≤ N := by
  have h1 := vq2_le (tx := tx) h
  have h2 := ven_spec (tx := tx) (qt := vq tx N q) (N - vq2 tx N q) (vq2 tx N q)
  unfold ved vto
  split <;> omega
theorem cls_readValue {h0 h : AH} {ad0 ad : Nat → Nat → Nat → Nat} {bs s0 n q : Nat} {sg : Nat → Nat} {tp : Nat → Int32} {ol : List Int32} {T : TS} {fl : FL} {os : OS} {L : AttL} {into : Option Nat} (hn : n ≤ 2000) (hok : ∀ q, q < n → okb (tbv (tp q)) = true) (hS : SizT T) (hq : q ≤ n) (hin : ∀ a, into = some a → a < L.length) (s : StL h0 ad0 bs s0 sg n tp ol h ad T fl os q L) :
    ∃ h', fX5_readValue (some (sg 10)) (into.map (ad 5 120)) h = some ((), h') ∧ StL h0 ad0 bs s0 sg n tp ol h' ad T fl os (ved (fun k => tbv (tp k)) n q) (vU L into (vby (fun k => tbv (tp k)) n q)) := by
  obtain ⟨r0, r1, -⟩ := id s.1.rd
  have hb := tape_byteAt s.1.tp (show q < 2 ^ 31 by omega)
  have h1 := vq2_le (tx := fun k => tbv (tp k)) hq
  obtain ⟨v1, v2, v3, v4⟩ := ven_spec (tx := fun k => tbv (tp k)) (qt := vq (fun k => tbv (tp k)) n q) (n - vq2 (fun k => tbv (tp k)) n q) (vq2 (fun k => tbv (tp k)) n q)
  have hto : vto (fun k => tbv (tp k)) n q ≤ n := by unfold vto; omega
  have fin : ∀ (h2 : AH) (L2 : AttL), StL h0 ad0 bs s0 sg n tp ol h2 ad T fl os (vto (fun k => tbv (tp k)) n q) L2 → ∃ h', fX5_readValue_134 (some (sg 10)) (bI (vq (fun k => tbv (tp k)) n q).isSome) h2 = some ((), h') ∧ StL h0 ad0 bs s0 sg n tp ol h' ad T fl os (ved (fun k => tbv (tp k)) n q) L2 := by
    intro h2 L2 s2
    obtain ⟨x0, x1, -⟩ := id s2.1.rd
    simp only [fX5_readValue_134, fX5_readValue_162, bI0]
    unfold ved
    cases hsome : (vq (fun k => tbv (tp k)) n q).isSome with
    | false => exact ⟨h2, by simp only [↓reduceIte], by simp only [Bool.false_eq_true, false_and, ↓reduceIte]; exact s2⟩
    | true =>
      by_cases hlt : vto (fun k => tbv (tp k)) n q < n
      · refine ⟨pI h2 257 (sg 10) (nI (vto (fun k => tbv (tp k)) n q + 1)), ?_, by simp only [hlt, and_self, ↓reduceIte]; exact s2.at _⟩
        simp (disch := omega) only [Bool.true_eq_false, ↓reduceIte, ↓gi_of x0 s2.1.2.2.2.1, ↓gr_of x0 x1, ↓gi_of s2.1.tp.1 s2.1.tp.2.2.2.1, leN, show ¬ n ≤ vto (fun k => tbv (tp k)) n q by omega, ↓pi_of x0, nI_add]
      · refine ⟨h2, ?_, by simp only [hlt, and_false, ↓reduceIte]; exact s2⟩
        simp (disch := omega) only [Bool.true_eq_false, ↓reduceIte, ↓gi_of x0 s2.1.2.2.2.1, ↓gr_of x0 x1, ↓gi_of s2.1.tp.1 s2.1.tp.2.2.2.1, leN, show n ≤ vto (fun k => tbv (tp k)) n q by omega]
  have go : ∀ (v : Int32), (∀ u, vq (fun k => tbv (tp k)) n q = some u → v = nI u) → ∃ h', fX5_readValue_29 (some (sg 10)) (into.map (ad 5 120)) v (bI (vq (fun k => tbv (tp k)) n q).isSome) h = some ((), h') ∧ StL h0 ad0 bs s0 sg n tp ol h' ad T fl os (ved (fun k => tbv (tp k)) n q) (vU L into (vby (fun k => tbv (tp k)) n q)) := by
    intro v hv
    have s1 : ∃ h1, fX5_readValue_29 (some (sg 10)) (into.map (ad 5 120)) v (bI (vq (fun k => tbv (tp k)) n q).isSome) h = fX5_readValue_44 FU (some (sg 10)) (into.map (ad 5 120)) v (bI (vq (fun k => tbv (tp k)) n q).isSome) h1 ∧ StL h0 ad0 bs s0 sg n tp ol h1 ad T fl os (vq2 (fun k => tbv (tp k)) n q) L := by
      simp only [fX5_readValue_29, bI0]
      unfold vq2
      cases hsome : (vq (fun k => tbv (tp k)) n q).isSome with
      | false => exact ⟨h, by simp only [↓reduceIte], by simp only [Bool.false_eq_true, ↓reduceIte]; exact s⟩
      | true => exact ⟨pI h 257 (sg 10) (nI (q + 1)), by simp only [Bool.true_eq_false, ↓reduceIte, ↓gi_of r0 s.1.2.2.2.1, ↓pi_of r0, nI_add], by simp only [↓reduceIte]; exact s.at _⟩
    obtain ⟨h1, g1, S1⟩ := s1
    obtain ⟨h2, g2, S2⟩ := cls_val_L (i0 := vq2 (fun k => tbv (tp k)) n q) (to := vto (fun k => tbv (tp k)) n q) (qt := vq (fun k => tbv (tp k)) n q) (into := into) (v2 := v) hn hok hS hto (fun u hu => (vq_ok hu).1) hv (fun k a b => v3 k a b) (fun z => v4 (by unfold vto at z; omega)) (vto (fun k => tbv (tp k)) n q - vq2 (fun k => tbv (tp k)) n q) FU (vq2 (fun k => tbv (tp k)) n q) h1 L (Nat.le_refl _) v1 (by omega) (by have := FU_ge; omega) hin S1
    obtain ⟨h3, g3, S3⟩ := fin h2 _ S2
    exact ⟨h3, g1.trans (g2.trans g3), S3⟩
  simp only [fX5_readValue, fX5_readValue_0, fX5_readValue_24]
  simp (disch := omega) only [↓gr_of r0 r1, ↓gi_of r0 s.1.2.2.2.1, ↓cv_of s.1.tp.1 hb, bt_hb]
  by_cases h34 : hbA (fun k => tbv (tp k)) n q 34 = true
  · have e : vq (fun k => tbv (tp k)) n q = some 34 := by unfold vq; rw [if_pos h34]
    have e2 := (bt_hb (tp := tp) (N := n) (k := q) (c := 34) (by omega)).mpr h34
    have := go (bt tp n q) (fun u hu => by rw [e] at hu; cases hu; exact e2)
    rw [e] at this
    rw [if_pos h34]
    exact this
  · by_cases h39 : hbA (fun k => tbv (tp k)) n q 39 = true
    · have e : vq (fun k => tbv (tp k)) n q = some 39 := by unfold vq; rw [if_neg h34, if_pos h39]
      have e2 := (bt_hb (tp := tp) (N := n) (k := q) (c := 39) (by omega)).mpr h39
      have := go (bt tp n q) (fun u hu => by rw [e] at hu; cases hu; exact e2)
      rw [e] at this
      rw [if_neg h34, if_pos h39]
      exact this
    · have e : vq (fun k => tbv (tp k)) n q = none := by unfold vq; rw [if_neg h34, if_neg h39]
      have := go (bt tp n q) (fun u hu => by rw [e] at hu; cases hu)
      rw [e] at this
      rw [if_neg h34, if_neg h39]
      exact this

/-! ELEMENTS are closed: the class -/
theorem nI_m1 {i : Nat} (h : 1 ≤ i) : nI i + (-1) = nI (i - 1) := by
  obtain ⟨k, rfl⟩ : ∃ k, i = k + 1 := ⟨i - 1, by omega⟩
  rw [← nI_add, Int32.add_assoc, show nI 1 + (-1 : Int32) = 0 from rfl, Int32.add_zero]
  rfl
def clL (T : TS) (os : OS) : Nat → Nat → FL
  | 0, _ => []
  | k + 1, i => (if tTag T (oN1 os i) = 1 ∨ tTag T (oN1 os i) = 4 then [] else [(nI 4, nI (oP1 os i))]) ++ clL T os k (i - 1)
theorem oN1_take {os : OS} {k j : Nat} (h : j < k) (hk : k ≤ os.length) : oN1 (os.take k) j = oN1 os j ∧ oP1 (os.take k) j = oP1 os j := by
  unfold oN1 oP1
  have : (os.take k).getD j (0, 0) = os.getD j (0, 0) := by
    rw [List.getD_eq_getElem?_getD, List.getD_eq_getElem?_getD, List.getElem?_take, if_pos h]
  rw [this]
  exact ⟨rfl, rfl⟩
theorem clL_take {T : TS} {os : OS} {m : Nat} (hm : m ≤ os.length) : ∀ (k i : Nat), i < m → clL T (os.take m) k i = clL T os k i := by
  intro k
  induction k with
  | zero => intro i _; rfl
  | succ k ih =>
    intro i hi
    unfold clL
    rw [(oN1_take hi hm).1, (oN1_take hi hm).2, ih (i - 1) (by omega)]
theorem clL_len (T : TS) (os : OS) : ∀ (k i : Nat), (clL T os k i).length ≤ k := by
  intro k
  induction k with
  | zero => intro i; simp [clL]
  | succ k ih =>
    intro i
    unfold clL
    rw [List.length_append]
    have := ih (i - 1)
    split <;> simp <;> omega
theorem OsOk.take {T : TS} {os : OS} (o : OsOk T os) {k : Nat} (h1 : 1 ≤ k) (hk : k ≤ os.length) : OsOk T (os.take k) := by
  have hl : (os.take k).length = k := by rw [List.length_take]; omega
  refine ⟨by omega, by have := o.2.1; omega, by rw [(oN1_take (show 0 < k by omega) hk).1]; exact o.2.2.1, fun j hj => ?_⟩
  rw [hl] at hj
  rw [(oN1_take hj hk).1, (oN1_take hj hk).2]
  exact o.2.2.2 j (by omega)
theorem St.cnt {h0 h : AH} {ad0 ad : Nat → Nat → Nat → Nat} {bs s0 n p k : Nat} {sg : Nat → Nat} {tp : Nat → Int32} {ol : OLA} {T : TS} {fl : FL} {os : OS} (q : St h0 ad0 bs s0 sg n tp ol h ad T fl os p) (hk : k ≤ os.length) : St h0 ad0 bs s0 sg n tp ol (pI h 256 (sg 10) (nI k)) ad T fl (os.take k) p := by
  have w : Fr (fun f a => f = 256 ∧ a = sg 10) (fun _ => False) h (pI h 256 (sg 10) (nI k)) := Fr.pI Fr.rf ⟨rfl, rfl⟩
  obtain ⟨q1, q2, q3, q4, q5⟩ := id q
  have hl : (os.take k).length = k := by rw [List.length_take]; omega
  refine q.put w (fun f a z => ⟨by unfold treeF; omega, by omega, by omega, 10, by omega, z.2⟩) (fun a z => z.elim) (q2.2.2.2.1.fr w (by omega) (fun z => z) (fun z => z)) ⟨by rw [gI_pI, if_pos ⟨rfl, rfl⟩, hl], fun j hj => ?_⟩ (by rw [w.1 _ _ (by omega)]; exact q4)
  rw [hl] at hj
  rw [(oN1_take hj hk).1, (oN1_take hj hk).2]
  exact q3.2 j (by omega)
theorem cls_close_L {h0 : AH} {ad0 ad : Nat → Nat → Nat → Nat} {bs s0 n p stay : Nat} {sg : Nat → Nat} {tp : Nat → Int32} {ol : OLA} {T : TS} (hS : SizT T) (hst : 1 ≤ stay) : ∀ (k f : Nat) (h : AH) (fl : FL) (os : OS), os.length = stay + k → k < f → OsOk T os → fl.length + k + 1 < 1000000 → St h0 ad0 bs s0 sg n tp ol h ad T fl os p → ∃ h', fX5_closeDownTo_7 f (some (sg 10)) (nI stay) (nI (os.length - 1)) h = some ((), h') ∧ St h0 ad0 bs s0 sg n tp ol h' ad T (fl ++ clL T os k (os.length - 1)) (os.take stay) p := by
  intro k
  induction k with
  | zero =>
    intro f h fl os hlen hkf hOs hl q
    obtain ⟨f, rfl⟩ : ∃ g, f = g + 1 := ⟨f - 1, by omega⟩
    have h21 := hOs.2.1
    refine ⟨h, ?_, ?_⟩
    · rw [fX5_closeDownTo_7]
      simp (disch := omega) only [ltN, show os.length - 1 < stay by omega, ↓reduceIte, fX5_closeDownTo_52]
    · rw [show clL T os 0 (os.length - 1) = [] from rfl, List.append_nil, List.take_of_length_le (by omega)]
      exact q
  | succ k ih =>
    intro f h fl os hlen hkf hOs hl q
    obtain ⟨f, rfl⟩ : ∃ g, f = g + 1 := ⟨f - 1, by omega⟩
    have h21 := hOs.2.1
    obtain ⟨r0, r1, r2, r3, -⟩ := id q.rd
    have htg := cls_tagAt q hS hOs (show os.length - 1 < os.length by omega)
    have hpl := cls_placeAt q hOs (show os.length - 1 < os.length by omega)
    obtain ⟨ui, -⟩ := hOs.2.2.2 (os.length - 1) (by omega)
    have s1 := (hS.2 _ ui).1
    have hl2 : (os.take (os.length - 1)).length = os.length - 1 := by rw [List.length_take]; omega
    have next : ∀ (h2 : AH) (fl2 : FL), fl2.length + k + 1 < 1000000 → St h0 ad0 bs s0 sg n tp ol h2 ad T fl2 os p → ∃ h', fX5_closeDownTo_41 (fX5_closeDownTo_7 f) (some (sg 10)) (nI stay) (nI (os.length - 1)) h2 = some ((), h') ∧ St h0 ad0 bs s0 sg n tp ol h' ad T (fl2 ++ clL T os k (os.length - 1 - 1)) (os.take stay) p := by
      intro h2 fl2 hl2' q2
      have q3 := q2.cnt (k := os.length - 1) (by omega)
      obtain ⟨h3, g3, S3⟩ := ih f _ fl2 (os.take (os.length - 1)) (by omega) (by omega) (hOs.take (by omega) (by omega)) hl2' q3
      rw [hl2] at g3 S3
      rw [clL_take (by omega) k _ (by omega), List.take_take, Nat.min_eq_left (by omega)] at S3
      refine ⟨h3, ?_, S3⟩
      have r0' := q2.rd.1
      simp only [fX5_closeDownTo_41, ↓pi_of r0', nI_m1 (show 1 ≤ os.length - 1 by omega)]
      exact g3
    rw [show clL T os (k + 1) (os.length - 1) = (if tTag T (oN1 os (os.length - 1)) = 1 ∨ tTag T (oN1 os (os.length - 1)) = 4 then [] else [(nI 4, nI (oP1 os (os.length - 1)))]) ++ clL T os k (os.length - 1 - 1) from rfl]
    rw [fX5_closeDownTo_7]
    simp (disch := omega) only [ltN, show ¬ os.length - 1 < stay by omega, ↓reduceIte, ↓cv_of r0 htg, eqN]
    by_cases h1 : tTag T (oN1 os (os.length - 1)) = 1
    · rw [if_pos h1, if_pos (Or.inl h1), List.nil_append]
      exact next h fl (by omega) q
    · rw [if_neg h1]
      by_cases h4 : tTag T (oN1 os (os.length - 1)) = 4
      · rw [if_pos h4, if_pos (Or.inr h4), List.nil_append]
        exact next h fl (by omega) q
      · rw [if_neg h4, if_neg (by omega)]
        obtain ⟨h2, g2, S2⟩ := q.tell (by omega) (nI 4) (nI (oP1 os (os.length - 1)))
        obtain ⟨h3, g3, S3⟩ := next h2 _ (by rw [List.length_append]; simp; omega) S2
        refine ⟨h3, ?_, by rw [← List.append_assoc]; exact S3⟩
        simp only [↓gr_of r0 r3, ↓cv_of r0 hpl, ↓cv_of q.fa.1 g2]
        exact g3
theorem cls_close {h0 h : AH} {ad0 ad : Nat → Nat → Nat → Nat} {bs s0 n p stay : Nat} {sg : Nat → Nat} {tp : Nat → Int32} {ol : OLA} {T : TS} {fl : FL} {os : OS} (hS : SizT T) (hst : 1 ≤ stay) (hle : stay ≤ os.length) (hOs : OsOk T os) (hl : fl.length + 30 < 1000000) (q : St h0 ad0 bs s0 sg n tp ol h ad T fl os p) : ∃ h', fX5_closeDownTo (some (sg 10)) (nI stay) h = some ((), h') ∧ St h0 ad0 bs s0 sg n tp ol h' ad T (fl ++ clL T os (os.length - stay) (os.length - 1)) (os.take stay) p := by
  have h21 := hOs.2.1
  have r0 := q.rd.1
  obtain ⟨h1, g1, S1⟩ := cls_close_L hS hst (os.length - stay) FU h fl os (by omega) (by have := FU_ge; omega) hOs (by omega) q
  refine ⟨h1, ?_, S1⟩
  simp only [fX5_closeDownTo, fX5_closeDownTo_0]
  simp only [↓gi_of r0 q.2.2.1.1, nI_sub hOs.1]
  exact g1
def inO (T : TS) (os : OS) (t : Nat) : Nat → Nat
  | 0 => 0
  | i + 1 => if tTag T (oN1 os (i + 1)) = t then i + 1 else inO T os t i
def inM (T : TS) (os : OS) (nm : List Nat) : Nat → Nat
  | 0 => 0
  | i + 1 => if tNam T (oN1 os (i + 1)) = nm then i + 1 else inM T os nm i
theorem inO_le (T : TS) (os : OS) (t : Nat) : ∀ i, inO T os t i ≤ i := by
  intro i
  induction i with
  | zero => exact Nat.le_refl _
  | succ i ih => unfold inO; split <;> omega
theorem inM_le (T : TS) (os : OS) (nm : List Nat) : ∀ i, inM T os nm i ≤ i := by
  intro i
  induction i with
  | zero => exact Nat.le_refl _
  | succ i ih => unfold inM; split <;> omega
theorem cls_inO_L {h0 h : AH} {ad0 ad : Nat → Nat → Nat → Nat} {bs s0 n p t : Nat} {sg : Nat → Nat} {tp : Nat → Int32} {ol : OLA} {T : TS} {fl : FL} {os : OS} (hS : SizT T) (hOs : OsOk T os) (ht : t < 100) (q : St h0 ad0 bs s0 sg n tp ol h ad T fl os p) : ∀ (i f : Nat), i < os.length → i < f → fX5_innermostOf_7 f (some (sg 10)) (nI t) (nI i) h = some (nI (inO T os t i), h) := by
  have r0 := q.rd.1
  have h21 := hOs.2.1
  intro i
  induction i with
  | zero =>
    intro f hi hf
    obtain ⟨f, rfl⟩ : ∃ g, f = g + 1 := ⟨f - 1, by omega⟩
    rw [fX5_innermostOf_7]
    simp (disch := omega) only [le0n, ↓reduceIte, fX5_innermostOf_26]
    rfl
  | succ i ih =>
    intro f hi hf
    obtain ⟨f, rfl⟩ : ∃ g, f = g + 1 := ⟨f - 1, by omega⟩
    have htg := cls_tagAt q hS hOs hi
    have s1 := (hS.2 _ (hOs.2.2.2 (i + 1) hi).1).1
    rw [fX5_innermostOf_7]
    simp (disch := omega) only [le0n, show ¬ i + 1 = 0 by omega, ↓reduceIte, ↓cv_of r0 htg, eqN, fX5_innermostOf_26, nI_m1 (show 1 ≤ i + 1 by omega), Nat.add_sub_cancel, ih f (by omega) (by omega)]
    rw [show inO T os t (i + 1) = if tTag T (oN1 os (i + 1)) = t then i + 1 else inO T os t i from rfl]
    by_cases h1 : tTag T (oN1 os (i + 1)) = t
    · rw [if_pos h1, if_pos h1]
    · rw [if_neg h1, if_neg h1]
theorem cls_inO {h0 h : AH} {ad0 ad : Nat → Nat → Nat → Nat} {bs s0 n p t : Nat} {sg : Nat → Nat} {tp : Nat → Int32} {ol : OLA} {T : TS} {fl : FL} {os : OS} (hS : SizT T) (hOs : OsOk T os) (ht : t < 100) (q : St h0 ad0 bs s0 sg n tp ol h ad T fl os p) : fX5_innermostOf (some (sg 10)) (nI t) h = some (nI (inO T os t (os.length - 1)), h) := by
  have r0 := q.rd.1
  have h1 := hOs.1
  have h21 := hOs.2.1
  simp only [fX5_innermostOf, fX5_innermostOf_0]
  simp only [↓gi_of r0 q.2.2.1.1, nI_sub h1]
  exact cls_inO_L hS hOs ht q (os.length - 1) FU (by omega) (by have := FU_ge; omega)
theorem cls_inM_L {h0 h : AH} {ad0 ad : Nat → Nat → Nat → Nat} {bs s0 n p : Nat} {sg : Nat → Nat} {tp : Nat → Int32} {ol : OLA} {T : TS} {fl : FL} {os : OS} {nm : List Nat} (hS : SizT T) (hOs : OsOk T os) (hv : vch nm) (hl8 : nm.length ≤ 8) (q : St h0 ad0 bs s0 sg n tp ol h ad T fl os p) : ∀ (i f : Nat), i < os.length → i < f → fX5_innermostNamed_7 f (some (sg 10)) (lN (pack nm)) (nI i) h = some (nI (inM T os nm i), h) := by
  have r0 := q.rd.1
  have h21 := hOs.2.1
  intro i
  induction i with
  | zero =>
    intro f hi hf
    obtain ⟨f, rfl⟩ : ∃ g, f = g + 1 := ⟨f - 1, by omega⟩
    rw [fX5_innermostNamed_7]
    simp (disch := omega) only [le0n, ↓reduceIte, fX5_innermostNamed_41]
    rfl
  | succ i ih =>
    intro f hi hf
    obtain ⟨f, rfl⟩ : ∃ g, f = g + 1 := ⟨f - 1, by omega⟩
    have hop := cls_openAt q hOs hi
    obtain ⟨ui, -⟩ := hOs.2.2.2 (i + 1) hi
    obtain ⟨-, s2, s3, -⟩ := hS.2 _ ui
    obtain ⟨-, ⟨b1, -⟩, -, v2, -⟩ := q.ct.nd (hS.lt ui) ui
    have hp1 := pack_lt s3 s2
    have hp2 := pack_lt hv hl8
    rw [fX5_innermostNamed_7]
    simp (disch := omega) only [le0n, show ¬ i + 1 = 0 by omega, ↓reduceIte, ↓cv_of r0 hop, some_ne, ↓gl_of b1 v2, lgc, lNeP hp1 hp2, fX5_innermostNamed_33, fX5_innermostNamed_35, nI_m1 (show 1 ≤ i + 1 by omega), Nat.add_sub_cancel, ih f (by omega) (by omega)]
    rw [show inM T os nm (i + 1) = if tNam T (oN1 os (i + 1)) = nm then i + 1 else inM T os nm i from rfl]
    by_cases h1 : tNam T (oN1 os (i + 1)) = nm
    · rw [if_pos (by rw [h1]), if_pos h1]
    · rw [if_neg (fun z => h1 (pack_inj s3 hv z)), if_neg h1]
def enW2 (T : TS) (os : OS) (nm : List Nat) : Nat := if isEm (tagN nm) = true then 0 else inM T os nm (os.length - 1)
def enF (T : TS) (fl : FL) (os : OS) (nm : List Nat) (p : Nat) : FL := if enW2 T os nm = 0 then fl ++ [(nI 3, nI p)] else fl ++ clL T os (os.length - (enW2 T os nm + 1)) (os.length - 1)
def enO (T : TS) (os : OS) (nm : List Nat) : OS := if enW2 T os nm = 0 then os else os.take (enW2 T os nm)
theorem cls_takeEnd {h0 h : AH} {ad0 ad : Nat → Nat → Nat → Nat} {bs s0 n p p0 : Nat} {sg : Nat → Nat} {tp : Nat → Int32} {ol : OLA} {T : TS} {fl : FL} {os : OS} {nm : List Nat} (hS : SizT T) (hOs : OsOk T os) (hv : vch nm) (hl8 : nm.length ≤ 8) (hl : fl.length + 30 < 1000000) (q : St h0 ad0 bs s0 sg n tp ol h ad T fl os p) : ∃ h', fX5_takeEndTag (some (sg 10)) (lN (pack nm)) (nI p0) h = some ((), h') ∧ St h0 ad0 bs s0 sg n tp ol h' ad T (enF T fl os nm p0) (enO T os nm) p := by
  have h1 := hOs.1
  have h21 := hOs.2.1
  obtain ⟨r0, r1, r2, r3, -⟩ := id q.rd
  have htg := cls_tagOf (h := h) hv hl8
  have hle := tagN_le nm
  have hem := cls_isEm (h := h) (t := tagN nm) (by omega)
  have hnamed : fX5_innermostNamed (some (sg 10)) (lN (pack nm)) h = some (nI (inM T os nm (os.length - 1)), h) := by
    simp only [fX5_innermostNamed, fX5_innermostNamed_0]
    simp only [↓gi_of r0 q.2.2.1.1, nI_sub h1]
    exact cls_inM_L hS hOs hv hl8 q (os.length - 1) FU (by omega) (by have := FU_ge; omega)
  have hml := inM_le T os nm (os.length - 1)
  have hwle : enW2 T os nm ≤ os.length - 1 := by unfold enW2; split <;> omega
  have key : fX5_takeEndTag (some (sg 10)) (lN (pack nm)) (nI p0) h = fX5_takeEndTag_19 (some (sg 10)) (nI p0) (nI (enW2 T os nm)) h := by
    simp only [fX5_takeEndTag, fX5_takeEndTag_0]
    simp only [↓cl_of htg, ↓cl_of hem, bI0]
    unfold enW2
    cases isEm (tagN nm) with
    | true => simp only [Bool.true_eq_false, ↓reduceIte]
    | false => simp only [↓reduceIte, ↓cv_of r0 hnamed, Bool.false_eq_true]
  rw [key]
  unfold enF enO
  generalize enW2 T os nm = w at *
  simp only [fX5_takeEndTag_19]
  simp (disch := omega) only [eq0n]
  by_cases hw : w = 0
  · obtain ⟨h2, g2, S2⟩ := q.tell (by omega) (nI 3) (nI p0)
    refine ⟨h2, ?_, by rw [if_pos hw, if_pos hw]; exact S2⟩
    rw [if_pos hw]
    simp only [↓gr_of r0 r3, ↓cv_of q.fa.1 g2]
  · obtain ⟨h2, g2, S2⟩ := cls_close hS (show 1 ≤ w + 1 by omega) (by omega) hOs hl q
    have S3 := S2.cnt (k := w) (by rw [List.length_take]; omega)
    rw [List.take_take, Nat.min_eq_left (by omega)] at S3
    have r0' := S2.rd.1
    refine ⟨pI h2 256 (sg 10) (nI w), ?_, by rw [if_neg hw, if_neg hw]; exact S3⟩
    rw [if_neg hw]
    simp only [nI_add, ↓cv_of r0 g2, ↓pi_of r0']
def clP (T : TS) (S : FL × OS) (k : Nat) : FL × OS := (S.1 ++ clL T S.2 (S.2.length - k) (S.2.length - 1), S.2.take k)
def cb1 (T : TS) (t : Nat) (S : FL × OS) : FL × OS := if isBk t = true ∧ inO T S.2 1 (S.2.length - 1) ≠ 0 then clP T S (inO T S.2 1 (S.2.length - 1)) else S
def cb2 (T : TS) (t : Nat) (S : FL × OS) : FL × OS := if t = 4 ∧ inO T S.2 3 (S.2.length - 1) < inO T S.2 4 (S.2.length - 1) then clP T S (inO T S.2 4 (S.2.length - 1)) else S
def cb3 (T : TS) (t : Nat) (S : FL × OS) (p : Nat) : FL × OS := if t = 7 ∧ inO T S.2 7 (S.2.length - 1) ≠ 0 then ((clP T S (inO T S.2 7 (S.2.length - 1) + 1)).1 ++ [(nI 5, nI p)], S.2.take (inO T S.2 7 (S.2.length - 1))) else S
def cbS (T : TS) (t : Nat) (fl : FL) (os : OS) (p : Nat) : FL × OS := cb3 T t (cb2 T t (cb1 T t (fl, os))) p
theorem clP_ok {T : TS} {S : FL × OS} {k : Nat} (hOs : OsOk T S.2) (h1 : 1 ≤ k) (hk : k ≤ S.2.length) : OsOk T (clP T S k).2 ∧ (clP T S k).1.length ≤ S.1.length + 21 := by
  refine ⟨hOs.take h1 hk, ?_⟩
  show (S.1 ++ clL T S.2 _ _).length ≤ _
  rw [List.length_append]
  have := clL_len T S.2 (S.2.length - k) (S.2.length - 1)
  have := hOs.2.1
  omega
theorem cb1_ok {T : TS} {t : Nat} {S : FL × OS} (hOs : OsOk T S.2) : OsOk T (cb1 T t S).2 ∧ (cb1 T t S).1.length ≤ S.1.length + 21 := by
  unfold cb1
  split
  · have := inO_le T S.2 1 (S.2.length - 1)
    exact clP_ok hOs (by omega) (by omega)
  · exact ⟨hOs, by omega⟩
theorem cb2_ok {T : TS} {t : Nat} {S : FL × OS} (hOs : OsOk T S.2) : OsOk T (cb2 T t S).2 ∧ (cb2 T t S).1.length ≤ S.1.length + 21 := by
  unfold cb2
  split
  · have := inO_le T S.2 4 (S.2.length - 1)
    exact clP_ok hOs (by omega) (by omega)
  · exact ⟨hOs, by omega⟩
theorem cb3_ok {T : TS} {t p : Nat} {S : FL × OS} (hOs : OsOk T S.2) : OsOk T (cb3 T t S p).2 ∧ (cb3 T t S p).1.length ≤ S.1.length + 22 := by
  unfold cb3
  split
  · have h1 := inO_le T S.2 7 (S.2.length - 1)
    have h2 := hOs.1
    have := clP_ok (k := inO T S.2 7 (S.2.length - 1) + 1) hOs (by omega) (by omega)
    refine ⟨hOs.take (by omega) (by omega), ?_⟩
    simp only [List.length_append, List.length_singleton]
    omega
  · exact ⟨hOs, by omega⟩
theorem cbS_ok {T : TS} {t p : Nat} {fl : FL} {os : OS} (hOs : OsOk T os) : OsOk T (cbS T t fl os p).2 ∧ (cbS T t fl os p).1.length ≤ fl.length + 64 := by
  have a := cb1_ok (t := t) (S := (fl, os)) hOs
  have b := cb2_ok (t := t) a.1
  have c := cb3_ok (t := t) (p := p) b.1
  refine ⟨c.1, ?_⟩
  have h1 : (cb1 T t (fl, os)).1.length ≤ fl.length + 21 := a.2
  unfold cbS
  omega
theorem cls_closeBefore {h0 h : AH} {ad0 ad : Nat → Nat → Nat → Nat} {bs s0 n p p0 t : Nat} {sg : Nat → Nat} {tp : Nat → Int32} {ol : OLA} {T : TS} {fl : FL} {os : OS} (hS : SizT T) (hOs : OsOk T os) (ht : t ≤ 16) (hl : fl.length + 100 < 1000000) (q : St h0 ad0 bs s0 sg n tp ol h ad T fl os p) : ∃ h', fX5_closeBefore (some (sg 10)) (nI t) (nI p0) h = some ((), h') ∧ St h0 ad0 bs s0 sg n tp ol h' ad T (cbS T t fl os p0).1 (cbS T t fl os p0).2 p := by
  have third : ∀ (h : AH) (S : FL × OS), OsOk T S.2 → S.1.length + 50 < 1000000 → St h0 ad0 bs s0 sg n tp ol h ad T S.1 S.2 p → ∃ h', fX5_closeBefore_51 (some (sg 10)) (nI t) (nI p0) h = some ((), h') ∧ St h0 ad0 bs s0 sg n tp ol h' ad T (cb3 T t S p0).1 (cb3 T t S p0).2 p := by
    intro h S hO hl q
    obtain ⟨r0, r1, r2, r3, -⟩ := id q.rd
    have hle := inO_le T S.2 7 (S.2.length - 1)
    have h21 := hO.2.1
    have h1 := hO.1
    simp only [fX5_closeBefore_51, fX5_closeBefore_67, fX5_closeBefore_93]
    unfold cb3
    simp (disch := omega) only [eqN, ↓cv_of r0 (cls_inO hS hO (show 7 < 100 by omega) q), le0n]
    by_cases h7 : t = 7
    · rw [if_pos h7]
      by_cases hw : inO T S.2 7 (S.2.length - 1) = 0
      · exact ⟨h, by rw [if_pos hw], by rw [if_neg (fun z => z.2 hw)]; exact q⟩
      · obtain ⟨h2, g2, S2⟩ := cls_close hS (show 1 ≤ inO T S.2 7 (S.2.length - 1) + 1 by omega) (by omega) hO (by omega) q
        have S3 := S2.cnt (k := inO T S.2 7 (S.2.length - 1)) (by rw [List.length_take]; omega)
        rw [List.take_take, Nat.min_eq_left (by omega)] at S3
        have hcl := clL_len T S.2 (S.2.length - (inO T S.2 7 (S.2.length - 1) + 1)) (S.2.length - 1)
        obtain ⟨h4, g4, S4⟩ := S3.tell (by rw [List.length_append]; omega) (nI 5) (nI p0)
        have r0' := S2.rd.1
        obtain ⟨y0, y1, y2, y3, -⟩ := id S3.rd
        refine ⟨h4, ?_, by rw [if_pos ⟨h7, hw⟩]; exact S4⟩
        rw [if_neg hw]
        simp only [nI_add, ↓cv_of r0 g2, ↓pi_of r0', ↓gr_of y0 y3, ↓cv_of S3.fa.1 g4]
    · rw [if_neg h7]
      refine ⟨h, ?_, by rw [if_neg (fun z => h7 z.1)]; exact q⟩
      simp (disch := omega) only [↓reduceIte]
  have second : ∀ (h : AH) (S : FL × OS), OsOk T S.2 → S.1.length + 75 < 1000000 → St h0 ad0 bs s0 sg n tp ol h ad T S.1 S.2 p → ∃ h', fX5_closeBefore_24 (some (sg 10)) (nI t) (nI p0) h = some ((), h') ∧ St h0 ad0 bs s0 sg n tp ol h' ad T (cb3 T t (cb2 T t S) p0).1 (cb3 T t (cb2 T t S) p0).2 p := by
    intro h S hO hl q
    have r0 := q.rd.1
    have hle := inO_le T S.2 4 (S.2.length - 1)
    have hle3 := inO_le T S.2 3 (S.2.length - 1)
    have h21 := hO.2.1
    have h1 := hO.1
    have c2 := cb2_ok (t := t) hO
    simp only [fX5_closeBefore_24]
    simp (disch := omega) only [eqN, ↓cv_of r0 (cls_inO hS hO (show 4 < 100 by omega) q), ↓cv_of r0 (cls_inO hS hO (show 3 < 100 by omega) q), leN]
    by_cases h4 : t = 4
    · rw [if_pos h4]
      by_cases hw : inO T S.2 3 (S.2.length - 1) < inO T S.2 4 (S.2.length - 1)
      · obtain ⟨h2, g2, S2⟩ := cls_close hS (show 1 ≤ inO T S.2 4 (S.2.length - 1) by omega) (by omega) hO (by omega) q
        have e2 : cb2 T t S = clP T S (inO T S.2 4 (S.2.length - 1)) := by unfold cb2; rw [if_pos ⟨h4, hw⟩]
        rw [e2] at c2 ⊢
        obtain ⟨h3, g3, S3⟩ := third h2 (clP T S (inO T S.2 4 (S.2.length - 1))) c2.1 (by omega) S2
        refine ⟨h3, ?_, S3⟩
        rw [if_neg (by omega)]
        simp only [↓cv_of r0 g2]
        exact g3
      · have e2 : cb2 T t S = S := by unfold cb2; rw [if_neg (fun z => hw z.2)]
        rw [e2, if_pos (by omega)]
        exact third h S hO (by omega) q
    · have e2 : cb2 T t S = S := by unfold cb2; rw [if_neg (fun z => h4 z.1)]
      rw [e2, if_neg h4]
      exact third h S hO (by omega) q
  have r0 := q.rd.1
  have hle := inO_le T os 1 (os.length - 1)
  have h21 := hOs.2.1
  have c1 := cb1_ok (t := t) (S := (fl, os)) hOs
  have hbk := cls_isBk (h := h) (t := t) (by omega)
  simp only [fX5_closeBefore, fX5_closeBefore_0]
  simp (disch := omega) only [↓cl_of hbk, bI0, ↓cv_of r0 (cls_inO hS hOs (show 1 < 100 by omega) q), le0n]
  unfold cbS
  cases hb : isBk t with
  | false =>
    have e1 : cb1 T t (fl, os) = (fl, os) := by unfold cb1; rw [if_neg (fun z => by rw [hb] at z; cases z.1)]
    rw [e1]
    simp only [↓reduceIte]
    exact second h (fl, os) hOs (by show fl.length + 75 < 1000000; omega) q
  | true =>
    simp only [Bool.true_eq_false, ↓reduceIte]
    by_cases hw : inO T os 1 (os.length - 1) = 0
    · have e1 : cb1 T t (fl, os) = (fl, os) := by unfold cb1; rw [if_neg (fun z => z.2 hw)]
      rw [e1, if_pos hw]
      exact second h (fl, os) hOs (by show fl.length + 75 < 1000000; omega) q
    · have e1 : cb1 T t (fl, os) = clP T (fl, os) (inO T os 1 (os.length - 1)) := by unfold cb1; rw [if_pos ⟨hb, hw⟩]
      obtain ⟨h2, g2, S2⟩ := cls_close hS (show 1 ≤ inO T os 1 (os.length - 1) by omega) (by omega) hOs (by omega) q
      rw [e1] at c1 ⊢
      have hl3 : (clP T (fl, os) (inO T os 1 (os.length - 1))).1.length ≤ fl.length + 21 := c1.2
      obtain ⟨h3, g3, S3⟩ := second h2 (clP T (fl, os) (inO T os 1 (os.length - 1))) c1.1 (by omega) S2
      refine ⟨h3, ?_, S3⟩
      rw [if_neg hw]
      simp only [↓cv_of r0 g2]
      exact g3

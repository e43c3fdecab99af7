/-! THE TREE is well made -/
/-- a row of NODES, linked both ways: what stands before it, its first, its last -/
def Lk (T : TS) : List Nat → Option Nat → Option Nat → Option Nat → Prop
  | [], b, o, la => o = none ∧ la = b
  | i :: l, b, o, la => o = some i ∧ tBf T i = b ∧ Lk T l (some i) (tNx T i) la
theorem Lk.fr {T T' : TS} : ∀ (l : List Nat) (b o la : Option Nat), Lk T l b o la → (∀ x ∈ l, tBf T' x = tBf T x ∧ tNx T' x = tNx T x) → Lk T' l b o la := by
  intro l
  induction l with
  | nil => intro b o la h _; exact h
  | cons i l ih =>
    intro b o la h he
    obtain ⟨h1, h2, h3⟩ := h
    obtain ⟨e1, e2⟩ := he i List.mem_cons_self
    exact ⟨h1, by rw [e1]; exact h2, by rw [e2]; exact ih _ _ _ h3 (fun x hx => he x (List.mem_cons_of_mem _ hx))⟩
theorem Lk.last {T : TS} : ∀ (l : List Nat) (b o la : Option Nat), Lk T l b o la → (l = [] ∧ la = b) ∨ ∃ x, x ∈ l ∧ la = some x ∧ tNx T x = none := by
  intro l
  induction l with
  | nil => intro b o la h; exact Or.inl ⟨rfl, h.2⟩
  | cons i l ih =>
    intro b o la h
    obtain ⟨h1, h2, h3⟩ := h
    right
    rcases ih _ _ _ h3 with ⟨rfl, z2⟩ | ⟨x, hx, z1, z2⟩
    · exact ⟨i, List.mem_cons_self, z2, h3.1⟩
    · exact ⟨x, List.mem_cons_of_mem _ hx, z1, z2⟩
theorem Lk.snoc {T T' : TS} {n : Nat} : ∀ (l : List Nat) (b o la : Option Nat), Lk T l b o la → l.Nodup → (∀ x ∈ l, tBf T' x = tBf T x ∧ tNx T' x = if la = some x then some n else tNx T x) → tBf T' n = la → tNx T' n = none → Lk T' (l ++ [n]) b (if l = [] then some n else o) (some n) := by
  intro l
  induction l with
  | nil =>
    intro b o la h _ _ h3 h4
    exact ⟨rfl, by rw [h3]; exact h.2, h4, rfl⟩
  | cons i l ih =>
    intro b o la h hd he h3 h4
    obtain ⟨h1, h2, hl⟩ := h
    obtain ⟨e1, e2⟩ := he i List.mem_cons_self
    rw [List.nodup_cons] at hd
    have := ih _ _ _ hl hd.2 (fun x hx => he x (List.mem_cons_of_mem _ hx)) h3 h4
    refine ⟨by rw [if_neg (by simp)]; exact h1, by rw [e1]; exact h2, ?_⟩
    have e3 : tNx T' i = if l = [] then some n else tNx T i := by
      rw [e2]
      rcases Lk.last _ _ _ _ hl with ⟨z1, z2⟩ | ⟨x, hx, z1, z2⟩
      · rw [if_pos z2, if_pos z1]
      · have n1 : l ≠ [] := fun z => by rw [z] at hx; cases hx
        have n2 : ¬ la = some i := fun z => by
          rw [z1] at z
          cases z
          exact hd.1 hx
        rw [if_neg n2, if_neg n1]
    rw [e3]
    exact this
theorem Lk.ch {T : TS} : ∀ (l : List Nat) (b o la : Option Nat), Lk T l b o la → Ch (tNx T) o l := by
  intro l
  induction l with
  | nil => intro b o la h; exact h.1
  | cons i l ih => intro b o la h; exact ⟨h.1, ih _ _ _ h.2.2⟩
theorem Lk.chb {T : TS} : ∀ (l : List Nat) (b o la : Option Nat) (rb : List Nat), Lk T l b o la → Ch (tBf T) b rb → ∀ x ∈ l, ∃ l', Ch (tBf T) (tBf T x) l' ∧ l'.length ≤ rb.length + l.length ∧ ∀ y ∈ l', y ∈ rb ∨ y ∈ l := by
  intro l
  induction l with
  | nil => intro b o la rb _ _ x hx; cases hx
  | cons i l ih =>
    intro b o la rb h hb x hx
    obtain ⟨h1, h2, h3⟩ := h
    rcases List.mem_cons.mp hx with e | e
    · subst e
      exact ⟨rb, by rw [h2]; exact hb, by omega, fun y hy => Or.inl hy⟩
    · obtain ⟨l', c1, c2, c3⟩ := ih _ _ _ (i :: rb) h3 ⟨rfl, by rw [h2]; exact hb⟩ x e
      refine ⟨l', c1, by simp at c2 ⊢; omega, fun y hy => ?_⟩
      rcases c3 y hy with z | z
      · rcases List.mem_cons.mp z with w | w
        · exact Or.inr (by rw [w]; exact List.mem_cons_self)
        · exact Or.inl w
      · exact Or.inr (List.mem_cons_of_mem _ z)
/-- how many of the first N -/
def cnU (f : Nat → Bool) : Nat → Nat
  | 0 => 0
  | k + 1 => cnU f k + (if f k then 1 else 0)
theorem cnU_le (f : Nat → Bool) : ∀ N, cnU f N ≤ N := by
  intro N
  induction N with
  | zero => exact Nat.le_refl _
  | succ N ih => unfold cnU; split <;> omega
theorem cnU_full (f : Nat → Bool) : ∀ N, cnU f N = N → ∀ i, i < N → f i = true := by
  intro N
  induction N with
  | zero => intro _ i hi; omega
  | succ N ih =>
    intro h i hi
    have := cnU_le f N
    unfold cnU at h
    cases hf : f N with
    | false => simp [hf] at h; omega
    | true =>
      simp [hf] at h
      by_cases e : i = N
      · rw [e]; exact hf
      · exact ih h i (by omega)
theorem cnU_all (f : Nat → Bool) : ∀ N, (∀ i, i < N → f i = true) → cnU f N = N := by
  intro N
  induction N with
  | zero => intro _; rfl
  | succ N ih =>
    intro h
    unfold cnU
    rw [ih (fun i hi => h i (by omega)), h N (by omega)]
    simp
theorem cnU_eq {f g : Nat → Bool} : ∀ N, (∀ i, i < N → f i = g i) → cnU f N = cnU g N := by
  intro N
  induction N with
  | zero => intro _; rfl
  | succ N ih =>
    intro h
    unfold cnU
    rw [ih (fun i hi => h i (by omega)), h N (by omega)]
theorem cnU_up {f : Nat → Bool} {n : Nat} (hf : f n = false) : ∀ N, n < N → cnU (up f n true) N = cnU f N + 1 := by
  intro N
  induction N with
  | zero => intro h; omega
  | succ N ih =>
    intro h
    unfold cnU
    by_cases e : n = N
    · subst e
      rw [cnU_eq (f := up f n true) (g := f) n (fun i hi => up_n _ _ (by omega)), up_s, hf]
      simp
    · rw [ih (by omega), up_n _ _ (Ne.symm e)]
      omega
theorem cnU_dn {f : Nat → Bool} {n : Nat} (hf : f n = true) (N : Nat) (h : n < N) : cnU (up f n false) N + 1 = cnU f N := by
  have := cnU_up (f := up f n false) (n := n) (up_s _ _ _) N h
  rw [← this]
  refine cnU_eq N (fun i hi => ?_)
  unfold up
  by_cases e : i = n
  · rw [if_pos e, e, hf]
  · rw [if_neg e, if_neg e]
def Wf (T : TS) (kd : Nat → List Nat) : Prop :=
  tIs T 0 = true ∧ tPar T 0 = none ∧ tDep T 0 = 0 ∧ tNx T 0 = none ∧ tBf T 0 = none ∧
  (∀ i, tIs T i = true → Lk T (kd i) none (tFk T i) (tLk T i) ∧ (kd i).Nodup ∧ ∀ x ∈ kd i, tIs T x = true ∧ tPar T x = some i ∧ tDep T x = tDep T i + 1) ∧
  (∀ x, tIs T x = true → x ≠ 0 → ∃ p, tIs T p = true ∧ tPar T x = some p ∧ x ∈ kd p) ∧
  (∀ i, tIs T i = true → (tTag T i = 17 → kd i = [] ∧ tNam T i = []) ∧ (tTag T i ≠ 17 → tTag T i = tagN (tNam T i))) ∧
  tCnt T = cnU (tIs T) 120
theorem SizT.lt {T : TS} (q : SizT T) {i : Nat} (hu : tIs T i = true) : i < 120 := by
  rcases Nat.lt_or_ge i 120 with z | z
  · exact z
  · rw [q.1 i z] at hu; cases hu
theorem nodup_le : ∀ (N : Nat) (l : List Nat), l.Nodup → (∀ x ∈ l, x < N) → l.length ≤ N := by
  intro N l hd hx
  refine pig N l.length (fun k c => k < l.length ∧ l.getD k 0 = c) (fun k hk => ⟨l.getD k 0, ?_, hk, rfl⟩) (fun k k' c r1 r2 => ?_)
  · rw [gD_in hk]; exact hx _ (List.getElem_mem _)
  · obtain ⟨a1, a2⟩ := r1
    obtain ⟨b1, b2⟩ := r2
    rw [gD_in a1] at a2
    rw [gD_in b1] at b2
    have hp := List.pairwise_iff_getElem.mp hd
    rcases Nat.lt_trichotomy k k' with z | z | z
    · exact absurd (a2.trans b2.symm) (hp k k' a1 b1 z)
    · exact z
    · exact absurd (b2.trans a2.symm) (hp k' k b1 a1 z)
theorem Wf.len {T : TS} {kd : Nat → List Nat} (w : Wf T kd) (hS : SizT T) {i : Nat} (hu : tIs T i = true) : (kd i).length ≤ 120 := by
  obtain ⟨w1, w2, w3, w4, w5, w6, -⟩ := w
  exact nodup_le 120 _ (w6 i hu).2.1 (fun x hx => hS.lt ((w6 i hu).2.2 x hx).1)
theorem Wf.ch {T : TS} {kd : Nat → List Nat} (w : Wf T kd) (hS : SizT T) : ChT T := by
  intro i hu
  obtain ⟨w1, w2, w3, w4, w5, w6, w7, -⟩ := id w
  refine ⟨⟨kd i, Lk.ch _ _ _ _ (w6 i hu).1, w.len hS hu, fun x hx => ⟨hS.lt ((w6 i hu).2.2 x hx).1, ((w6 i hu).2.2 x hx).1⟩⟩, ?_⟩
  by_cases e : i = 0
  · subst e
    exact ⟨[], w5, by simp, fun x hx => by cases hx⟩
  · obtain ⟨p, hp, hpar, hmem⟩ := w7 i hu e
    obtain ⟨l', c1, c2, c3⟩ := Lk.chb _ _ _ _ [] (w6 p hp).1 rfl i hmem
    refine ⟨l', c1, by have := w.len hS hp; simp at c2; omega, fun x hx => ?_⟩
    rcases c3 x hx with z | z
    · cases z
    · exact ⟨hS.lt ((w6 p hp).2.2 x z).1, ((w6 p hp).2.2 x z).1⟩
/-- a new NODE, alone -/
def nwT (T : TS) (n tag : Nat) (nm : List Nat) : TS := uIs (uTag (uNam (uPar (uFk (uLk (uNx (uBf (uDep (uAtt (uTxt (uLng T n false) n []) n []) n 0) n none) n none) n none) n none) n none) n nm) n tag) n true
theorem nw_at (T : TS) (n tag : Nat) (nm : List Nat) : tIs (nwT T n tag nm) n = true ∧ tTag (nwT T n tag nm) n = tag ∧ tNam (nwT T n tag nm) n = nm ∧ tPar (nwT T n tag nm) n = none ∧ tFk (nwT T n tag nm) n = none ∧ tLk (nwT T n tag nm) n = none ∧ tNx (nwT T n tag nm) n = none ∧ tBf (nwT T n tag nm) n = none ∧ tDep (nwT T n tag nm) n = 0 ∧ tAtt (nwT T n tag nm) n = [] ∧ tTxt (nwT T n tag nm) n = [] ∧ tLng (nwT T n tag nm) n = false := ⟨up_s _ _ _, up_s _ _ _, up_s _ _ _, up_s _ _ _, up_s _ _ _, up_s _ _ _, up_s _ _ _, up_s _ _ _, up_s _ _ _, up_s _ _ _, up_s _ _ _, up_s _ _ _⟩
theorem nw_off (T : TS) (n tag : Nat) (nm : List Nat) {j : Nat} (hj : j ≠ n) : tIs (nwT T n tag nm) j = tIs T j ∧ TSame T (nwT T n tag nm) j := ⟨up_n _ _ hj, up_n _ _ hj, up_n _ _ hj, up_n _ _ hj, up_n _ _ hj, up_n _ _ hj, up_n _ _ hj, up_n _ _ hj, up_n _ _ hj, up_n _ _ hj, up_n _ _ hj, up_n _ _ hj⟩
/-- it becomes the last in q -/
def lk1 (T : TS) (q n : Nat) : TS := uBf (uDep (uPar T n (some q)) n (tDep T q + 1)) n (tLk T q)
def lk2 (T : TS) (q n : Nat) : TS := match tLk T q with
  | none => uFk T q (some n)
  | some l => uNx T l (some n)
def lkT (T : TS) (q n : Nat) : TS := uCnt (uLk (lk2 (lk1 T q n) q n) q (some n)) (tCnt T + 1)
def gwT (T : TS) (q tag : Nat) (nm : List Nat) (n : Nat) : TS := lkT (nwT T n tag nm) q n
def kdG (kd : Nat → List Nat) (q n : Nat) : Nat → List Nat := up (up kd n []) q (kd q ++ [n])
theorem gw_vals {T : TS} {q tag n : Nat} {nm : List Nat} (hqn : q ≠ n) (hln : tLk T q ≠ some n) : ∀ j,
    tIs (gwT T q tag nm n) j = (if j = n then true else tIs T j) ∧ tTag (gwT T q tag nm n) j = (if j = n then tag else tTag T j) ∧ tNam (gwT T q tag nm n) j = (if j = n then nm else tNam T j) ∧ tPar (gwT T q tag nm n) j = (if j = n then some q else tPar T j) ∧ tFk (gwT T q tag nm n) j = (if j = n then none else if j = q ∧ tLk T q = none then some n else tFk T j) ∧ tLk (gwT T q tag nm n) j = (if j = n then none else if j = q then some n else tLk T j) ∧ tNx (gwT T q tag nm n) j = (if j = n then none else if tLk T q = some j then some n else tNx T j) ∧ tBf (gwT T q tag nm n) j = (if j = n then tLk T q else tBf T j) ∧ tDep (gwT T q tag nm n) j = (if j = n then tDep T q + 1 else tDep T j) ∧ tAtt (gwT T q tag nm n) j = (if j = n then [] else tAtt T j) ∧ tTxt (gwT T q tag nm n) j = (if j = n then [] else tTxt T j) ∧ tLng (gwT T q tag nm n) j = (if j = n then false else tLng T j) := by
  intro j
  have e1 : tLk (nwT T n tag nm) q = tLk T q := up_n _ _ hqn
  have e1' : tLk (lk1 (nwT T n tag nm) q n) q = tLk T q := e1
  have e2 : tDep (nwT T n tag nm) q = tDep T q := up_n _ _ hqn
  obtain ⟨a1, a2, a3, a4, a5, a6, a7, a8, a9, a10, a11, a12⟩ := nw_at T n tag nm
  unfold gwT lkT lk2
  rw [e1']
  cases hl : tLk T q with
  | none =>
    by_cases hj : j = n
    · subst hj
      simp only [lk1, tIs_uIs, tIs_uTag, tIs_uNam, tIs_uPar, tIs_uFk, tIs_uLk, tIs_uNx, tIs_uBf, tIs_uDep, tIs_uAtt, tIs_uTxt, tIs_uLng, tIs_uCnt, tTag_uIs, tTag_uTag, tTag_uNam, tTag_uPar, tTag_uFk, tTag_uLk, tTag_uNx, tTag_uBf, tTag_uDep, tTag_uAtt, tTag_uTxt, tTag_uLng, tTag_uCnt, tNam_uIs, tNam_uTag, tNam_uNam, tNam_uPar, tNam_uFk, tNam_uLk, tNam_uNx, tNam_uBf, tNam_uDep, tNam_uAtt, tNam_uTxt, tNam_uLng, tNam_uCnt, tPar_uIs, tPar_uTag, tPar_uNam, tPar_uPar, tPar_uFk, tPar_uLk, tPar_uNx, tPar_uBf, tPar_uDep, tPar_uAtt, tPar_uTxt, tPar_uLng, tPar_uCnt, tFk_uIs, tFk_uTag, tFk_uNam, tFk_uPar, tFk_uFk, tFk_uLk, tFk_uNx, tFk_uBf, tFk_uDep, tFk_uAtt, tFk_uTxt, tFk_uLng, tFk_uCnt, tLk_uIs, tLk_uTag, tLk_uNam, tLk_uPar, tLk_uFk, tLk_uLk, tLk_uNx, tLk_uBf, tLk_uDep, tLk_uAtt, tLk_uTxt, tLk_uLng, tLk_uCnt, tNx_uIs, tNx_uTag, tNx_uNam, tNx_uPar, tNx_uFk, tNx_uLk, tNx_uNx, tNx_uBf, tNx_uDep, tNx_uAtt, tNx_uTxt, tNx_uLng, tNx_uCnt, tBf_uIs, tBf_uTag, tBf_uNam, tBf_uPar, tBf_uFk, tBf_uLk, tBf_uNx, tBf_uBf, tBf_uDep, tBf_uAtt, tBf_uTxt, tBf_uLng, tBf_uCnt, tDep_uIs, tDep_uTag, tDep_uNam, tDep_uPar, tDep_uFk, tDep_uLk, tDep_uNx, tDep_uBf, tDep_uDep, tDep_uAtt, tDep_uTxt, tDep_uLng, tDep_uCnt, tAtt_uIs, tAtt_uTag, tAtt_uNam, tAtt_uPar, tAtt_uFk, tAtt_uLk, tAtt_uNx, tAtt_uBf, tAtt_uDep, tAtt_uAtt, tAtt_uTxt, tAtt_uLng, tAtt_uCnt, tTxt_uIs, tTxt_uTag, tTxt_uNam, tTxt_uPar, tTxt_uFk, tTxt_uLk, tTxt_uNx, tTxt_uBf, tTxt_uDep, tTxt_uAtt, tTxt_uTxt, tTxt_uLng, tTxt_uCnt, tLng_uIs, tLng_uTag, tLng_uNam, tLng_uPar, tLng_uFk, tLng_uLk, tLng_uNx, tLng_uBf, tLng_uDep, tLng_uAtt, tLng_uTxt, tLng_uLng, tLng_uCnt, tCnt_uIs, tCnt_uTag, tCnt_uNam, tCnt_uPar, tCnt_uFk, tCnt_uLk, tCnt_uNx, tCnt_uBf, tCnt_uDep, tCnt_uAtt, tCnt_uTxt, tCnt_uLng, tCnt_uCnt, ↓reduceIte, a1, a2, a3, a4, a5, a6, a7, a8, a9, a10, a11, a12, e1, e2, hl, Ne.symm hqn, and_self]
    · obtain ⟨b1, b2, b3, b4, b5, b6, b7, b8, b9, b10, b11, b12⟩ := nw_off T n tag nm hj
      simp only [lk1, tIs_uIs, tIs_uTag, tIs_uNam, tIs_uPar, tIs_uFk, tIs_uLk, tIs_uNx, tIs_uBf, tIs_uDep, tIs_uAtt, tIs_uTxt, tIs_uLng, tIs_uCnt, tTag_uIs, tTag_uTag, tTag_uNam, tTag_uPar, tTag_uFk, tTag_uLk, tTag_uNx, tTag_uBf, tTag_uDep, tTag_uAtt, tTag_uTxt, tTag_uLng, tTag_uCnt, tNam_uIs, tNam_uTag, tNam_uNam, tNam_uPar, tNam_uFk, tNam_uLk, tNam_uNx, tNam_uBf, tNam_uDep, tNam_uAtt, tNam_uTxt, tNam_uLng, tNam_uCnt, tPar_uIs, tPar_uTag, tPar_uNam, tPar_uPar, tPar_uFk, tPar_uLk, tPar_uNx, tPar_uBf, tPar_uDep, tPar_uAtt, tPar_uTxt, tPar_uLng, tPar_uCnt, tFk_uIs, tFk_uTag, tFk_uNam, tFk_uPar, tFk_uFk, tFk_uLk, tFk_uNx, tFk_uBf, tFk_uDep, tFk_uAtt, tFk_uTxt, tFk_uLng, tFk_uCnt, tLk_uIs, tLk_uTag, tLk_uNam, tLk_uPar, tLk_uFk, tLk_uLk, tLk_uNx, tLk_uBf, tLk_uDep, tLk_uAtt, tLk_uTxt, tLk_uLng, tLk_uCnt, tNx_uIs, tNx_uTag, tNx_uNam, tNx_uPar, tNx_uFk, tNx_uLk, tNx_uNx, tNx_uBf, tNx_uDep, tNx_uAtt, tNx_uTxt, tNx_uLng, tNx_uCnt, tBf_uIs, tBf_uTag, tBf_uNam, tBf_uPar, tBf_uFk, tBf_uLk, tBf_uNx, tBf_uBf, tBf_uDep, tBf_uAtt, tBf_uTxt, tBf_uLng, tBf_uCnt, tDep_uIs, tDep_uTag, tDep_uNam, tDep_uPar, tDep_uFk, tDep_uLk, tDep_uNx, tDep_uBf, tDep_uDep, tDep_uAtt, tDep_uTxt, tDep_uLng, tDep_uCnt, tAtt_uIs, tAtt_uTag, tAtt_uNam, tAtt_uPar, tAtt_uFk, tAtt_uLk, tAtt_uNx, tAtt_uBf, tAtt_uDep, tAtt_uAtt, tAtt_uTxt, tAtt_uLng, tAtt_uCnt, tTxt_uIs, tTxt_uTag, tTxt_uNam, tTxt_uPar, tTxt_uFk, tTxt_uLk, tTxt_uNx, tTxt_uBf, tTxt_uDep, tTxt_uAtt, tTxt_uTxt, tTxt_uLng, tTxt_uCnt, tLng_uIs, tLng_uTag, tLng_uNam, tLng_uPar, tLng_uFk, tLng_uLk, tLng_uNx, tLng_uBf, tLng_uDep, tLng_uAtt, tLng_uTxt, tLng_uLng, tLng_uCnt, tCnt_uIs, tCnt_uTag, tCnt_uNam, tCnt_uPar, tCnt_uFk, tCnt_uLk, tCnt_uNx, tCnt_uBf, tCnt_uDep, tCnt_uAtt, tCnt_uTxt, tCnt_uLng, tCnt_uCnt, ↓reduceIte, hj, b1, b2, b3, b4, b5, b6, b7, b8, b9, b10, b11, b12, and_true, reduceCtorEq, and_self]
  | some l =>
    have hnl : n ≠ l := fun z => hln (by rw [hl, z])
    by_cases hj : j = n
    · subst hj
      simp only [lk1, tIs_uIs, tIs_uTag, tIs_uNam, tIs_uPar, tIs_uFk, tIs_uLk, tIs_uNx, tIs_uBf, tIs_uDep, tIs_uAtt, tIs_uTxt, tIs_uLng, tIs_uCnt, tTag_uIs, tTag_uTag, tTag_uNam, tTag_uPar, tTag_uFk, tTag_uLk, tTag_uNx, tTag_uBf, tTag_uDep, tTag_uAtt, tTag_uTxt, tTag_uLng, tTag_uCnt, tNam_uIs, tNam_uTag, tNam_uNam, tNam_uPar, tNam_uFk, tNam_uLk, tNam_uNx, tNam_uBf, tNam_uDep, tNam_uAtt, tNam_uTxt, tNam_uLng, tNam_uCnt, tPar_uIs, tPar_uTag, tPar_uNam, tPar_uPar, tPar_uFk, tPar_uLk, tPar_uNx, tPar_uBf, tPar_uDep, tPar_uAtt, tPar_uTxt, tPar_uLng, tPar_uCnt, tFk_uIs, tFk_uTag, tFk_uNam, tFk_uPar, tFk_uFk, tFk_uLk, tFk_uNx, tFk_uBf, tFk_uDep, tFk_uAtt, tFk_uTxt, tFk_uLng, tFk_uCnt, tLk_uIs, tLk_uTag, tLk_uNam, tLk_uPar, tLk_uFk, tLk_uLk, tLk_uNx, tLk_uBf, tLk_uDep, tLk_uAtt, tLk_uTxt, tLk_uLng, tLk_uCnt, tNx_uIs, tNx_uTag, tNx_uNam, tNx_uPar, tNx_uFk, tNx_uLk, tNx_uNx, tNx_uBf, tNx_uDep, tNx_uAtt, tNx_uTxt, tNx_uLng, tNx_uCnt, tBf_uIs, tBf_uTag, tBf_uNam, tBf_uPar, tBf_uFk, tBf_uLk, tBf_uNx, tBf_uBf, tBf_uDep, tBf_uAtt, tBf_uTxt, tBf_uLng, tBf_uCnt, tDep_uIs, tDep_uTag, tDep_uNam, tDep_uPar, tDep_uFk, tDep_uLk, tDep_uNx, tDep_uBf, tDep_uDep, tDep_uAtt, tDep_uTxt, tDep_uLng, tDep_uCnt, tAtt_uIs, tAtt_uTag, tAtt_uNam, tAtt_uPar, tAtt_uFk, tAtt_uLk, tAtt_uNx, tAtt_uBf, tAtt_uDep, tAtt_uAtt, tAtt_uTxt, tAtt_uLng, tAtt_uCnt, tTxt_uIs, tTxt_uTag, tTxt_uNam, tTxt_uPar, tTxt_uFk, tTxt_uLk, tTxt_uNx, tTxt_uBf, tTxt_uDep, tTxt_uAtt, tTxt_uTxt, tTxt_uLng, tTxt_uCnt, tLng_uIs, tLng_uTag, tLng_uNam, tLng_uPar, tLng_uFk, tLng_uLk, tLng_uNx, tLng_uBf, tLng_uDep, tLng_uAtt, tLng_uTxt, tLng_uLng, tLng_uCnt, tCnt_uIs, tCnt_uTag, tCnt_uNam, tCnt_uPar, tCnt_uFk, tCnt_uLk, tCnt_uNx, tCnt_uBf, tCnt_uDep, tCnt_uAtt, tCnt_uTxt, tCnt_uLng, tCnt_uCnt, ↓reduceIte, a1, a2, a3, a4, a5, a6, a7, a8, a9, a10, a11, a12, e1, e2, hl, Ne.symm hqn, hnl, and_self]
    · obtain ⟨b1, b2, b3, b4, b5, b6, b7, b8, b9, b10, b11, b12⟩ := nw_off T n tag nm hj
      simp only [lk1, tIs_uIs, tIs_uTag, tIs_uNam, tIs_uPar, tIs_uFk, tIs_uLk, tIs_uNx, tIs_uBf, tIs_uDep, tIs_uAtt, tIs_uTxt, tIs_uLng, tIs_uCnt, tTag_uIs, tTag_uTag, tTag_uNam, tTag_uPar, tTag_uFk, tTag_uLk, tTag_uNx, tTag_uBf, tTag_uDep, tTag_uAtt, tTag_uTxt, tTag_uLng, tTag_uCnt, tNam_uIs, tNam_uTag, tNam_uNam, tNam_uPar, tNam_uFk, tNam_uLk, tNam_uNx, tNam_uBf, tNam_uDep, tNam_uAtt, tNam_uTxt, tNam_uLng, tNam_uCnt, tPar_uIs, tPar_uTag, tPar_uNam, tPar_uPar, tPar_uFk, tPar_uLk, tPar_uNx, tPar_uBf, tPar_uDep, tPar_uAtt, tPar_uTxt, tPar_uLng, tPar_uCnt, tFk_uIs, tFk_uTag, tFk_uNam, tFk_uPar, tFk_uFk, tFk_uLk, tFk_uNx, tFk_uBf, tFk_uDep, tFk_uAtt, tFk_uTxt, tFk_uLng, tFk_uCnt, tLk_uIs, tLk_uTag, tLk_uNam, tLk_uPar, tLk_uFk, tLk_uLk, tLk_uNx, tLk_uBf, tLk_uDep, tLk_uAtt, tLk_uTxt, tLk_uLng, tLk_uCnt, tNx_uIs, tNx_uTag, tNx_uNam, tNx_uPar, tNx_uFk, tNx_uLk, tNx_uNx, tNx_uBf, tNx_uDep, tNx_uAtt, tNx_uTxt, tNx_uLng, tNx_uCnt, tBf_uIs, tBf_uTag, tBf_uNam, tBf_uPar, tBf_uFk, tBf_uLk, tBf_uNx, tBf_uBf, tBf_uDep, tBf_uAtt, tBf_uTxt, tBf_uLng, tBf_uCnt, tDep_uIs, tDep_uTag, tDep_uNam, tDep_uPar, tDep_uFk, tDep_uLk, tDep_uNx, tDep_uBf, tDep_uDep, tDep_uAtt, tDep_uTxt, tDep_uLng, tDep_uCnt, tAtt_uIs, tAtt_uTag, tAtt_uNam, tAtt_uPar, tAtt_uFk, tAtt_uLk, tAtt_uNx, tAtt_uBf, tAtt_uDep, tAtt_uAtt, tAtt_uTxt, tAtt_uLng, tAtt_uCnt, tTxt_uIs, tTxt_uTag, tTxt_uNam, tTxt_uPar, tTxt_uFk, tTxt_uLk, tTxt_uNx, tTxt_uBf, tTxt_uDep, tTxt_uAtt, tTxt_uTxt, tTxt_uLng, tTxt_uCnt, tLng_uIs, tLng_uTag, tLng_uNam, tLng_uPar, tLng_uFk, tLng_uLk, tLng_uNx, tLng_uBf, tLng_uDep, tLng_uAtt, tLng_uTxt, tLng_uLng, tLng_uCnt, tCnt_uIs, tCnt_uTag, tCnt_uNam, tCnt_uPar, tCnt_uFk, tCnt_uLk, tCnt_uNx, tCnt_uBf, tCnt_uDep, tCnt_uAtt, tCnt_uTxt, tCnt_uLng, tCnt_uCnt, ↓reduceIte, hj, b1, b2, b3, b4, b5, b6, b7, b8, b9, b10, b11, b12, and_true, reduceCtorEq, and_false, and_self, Option.some.injEq, true_and, eq_comm (a := l) (b := j)]
theorem gw_cnt (T : TS) (q tag n : Nat) (nm : List Nat) : tCnt (gwT T q tag nm n) = tCnt T + 1 := rfl
theorem Wf.grow {T : TS} {kd : Nat → List Nat} (w : Wf T kd) {q tag n : Nat} {nm : List Nat} (hq : tIs T q = true) (hq17 : tTag T q ≠ 17) (hn : tIs T n = false) (hn120 : n < 120) (htg : (tag = 17 ∧ nm = []) ∨ (tag ≠ 17 ∧ tag = tagN nm)) : Wf (gwT T q tag nm n) (kdG kd q n) := by
  obtain ⟨w1, w2, w3, w4, w5, w6, w7, w8, w9⟩ := id w
  have hqn : q ≠ n := fun z => by rw [z, hn] at hq; cases hq
  have h0n : 0 ≠ n := fun z => by rw [← z, w1] at hn; cases hn
  have une : ∀ {x : Nat}, tIs T x = true → x ≠ n := fun hx z => by rw [z, hn] at hx; cases hx
  obtain ⟨k1, k2, k3⟩ := w6 q hq
  have hlast : tLk T q = none ∨ ∃ x, x ∈ kd q ∧ tLk T q = some x := by
    rcases Lk.last _ _ _ _ k1 with z | ⟨x, z1, z2, -⟩
    · exact Or.inl z.2
    · exact Or.inr ⟨x, z1, z2⟩
  have hln : tLk T q ≠ some n := by
    rcases hlast with z | ⟨x, z1, z2⟩
    · rw [z]; simp
    · rw [z2]
      intro y
      cases y
      exact une (k3 n z1).1 rfl
  have hnk : n ∉ kd q := fun z => une (k3 n z).1 rfl
  have G := gw_vals (T := T) (tag := tag) (nm := nm) hqn hln
  have lastpar : ∀ x, tLk T q = some x → tPar T x = some q := fun x hx => by
    rcases hlast with z | ⟨y, z1, z2⟩
    · rw [z] at hx; cases hx
    · rw [z2] at hx; cases hx; exact (k3 x z1).2.1
  refine ⟨?_, ?_, ?_, ?_, ?_, ?_, ?_, ?_, ?_⟩
  · rw [(G 0).1, if_neg h0n]; exact w1
  · rw [(G 0).2.2.2.1, if_neg h0n]; exact w2
  · rw [(G 0).2.2.2.2.2.2.2.2.1, if_neg h0n]; exact w3
  · rw [(G 0).2.2.2.2.2.2.1, if_neg h0n, if_neg (fun z => by have := lastpar 0 z; rw [w2] at this; cases this)]; exact w4
  · rw [(G 0).2.2.2.2.2.2.2.1, if_neg h0n]; exact w5
  · intro i hi
    rw [(G i).1] at hi
    by_cases ein : i = n
    · subst ein
      have e : kdG kd q i i = [] := by unfold kdG; rw [up_n _ _ (Ne.symm hqn), up_s]
      rw [e, (G i).2.2.2.2.1, if_pos rfl, (G i).2.2.2.2.2.1, if_pos rfl]
      exact ⟨⟨rfl, rfl⟩, List.nodup_nil, fun x hx => by cases hx⟩
    · rw [if_neg ein] at hi
      obtain ⟨m1, m2, m3⟩ := w6 i hi
      by_cases eiq : i = q
      · subst eiq
        have e : kdG kd i n i = kd i ++ [n] := by unfold kdG; rw [up_s]
        rw [e, (G i).2.2.2.2.2.1, if_neg hqn, if_pos rfl]
        refine ⟨?_, ?_, fun x hx => ?_⟩
        · have := Lk.snoc (T' := gwT T i tag nm n) (n := n) _ _ _ _ m1 m2 (fun x hx => by
            have xn := une (m3 x hx).1
            refine ⟨?_, ?_⟩
            · rw [(G x).2.2.2.2.2.2.2.1, if_neg xn]
            · rw [(G x).2.2.2.2.2.2.1, if_neg xn]) (by rw [(G n).2.2.2.2.2.2.2.1, if_pos rfl]) (by rw [(G n).2.2.2.2.2.2.1, if_pos rfl])
          have ef : tFk (gwT T i tag nm n) i = if kd i = [] then some n else tFk T i := by
            rw [(G i).2.2.2.2.1, if_neg hqn]
            rcases Lk.last _ _ _ _ m1 with ⟨z1, z2⟩ | ⟨x, z1, z2, -⟩
            · rw [if_pos ⟨rfl, z2⟩, if_pos z1]
            · have n1 : kd i ≠ [] := fun z => by rw [z] at z1; cases z1
              rw [if_neg (fun z => by rw [z2] at z; cases z.2), if_neg n1]
          rw [ef]
          exact this
        · rw [List.nodup_append]
          refine ⟨m2, by simp, fun a ha b hb => ?_⟩
          rw [List.mem_singleton.mp hb]
          exact fun z => hnk (by rw [← z]; exact ha)
        · rw [(G x).1, (G x).2.2.2.1, (G x).2.2.2.2.2.2.2.2.1, (G i).2.2.2.2.2.2.2.2.1, if_neg hqn]
          rcases List.mem_append.mp hx with z | z
          · have xn := une (m3 x z).1
            rw [if_neg xn, if_neg xn, if_neg xn]
            exact m3 x z
          · rw [List.mem_singleton.mp z]
            simp
      · have e : kdG kd q n i = kd i := by unfold kdG; rw [up_n _ _ eiq, up_n _ _ ein]
        rw [e, (G i).2.2.2.2.2.1, if_neg ein, if_neg eiq, (G i).2.2.2.2.1, if_neg ein, if_neg (fun z => eiq z.1)]
        refine ⟨Lk.fr _ _ _ _ m1 (fun x hx => ?_), m2, fun x hx => ?_⟩
        · have xn := une (m3 x hx).1
          refine ⟨by rw [(G x).2.2.2.2.2.2.2.1, if_neg xn], ?_⟩
          rw [(G x).2.2.2.2.2.2.1, if_neg xn, if_neg]
          intro z
          have := lastpar x z
          rw [(m3 x hx).2.1] at this
          cases this
          exact eiq rfl
        · have xn := une (m3 x hx).1
          rw [(G x).1, (G x).2.2.2.1, (G x).2.2.2.2.2.2.2.2.1, (G i).2.2.2.2.2.2.2.2.1, if_neg xn, if_neg xn, if_neg xn, if_neg ein]
          exact m3 x hx
  · intro x hx h0
    rw [(G x).1] at hx
    rw [(G x).2.2.2.1]
    by_cases e : x = n
    · subst e
      exact ⟨q, by rw [(G q).1, if_neg hqn]; exact hq, by rw [if_pos rfl], by unfold kdG; rw [up_s]; simp⟩
    · rw [if_neg e] at hx ⊢
      obtain ⟨p, p1, p2, p3⟩ := w7 x hx h0
      refine ⟨p, by rw [(G p).1, if_neg (une p1)]; exact p1, p2, ?_⟩
      unfold kdG
      by_cases ep : p = q
      · subst ep; rw [up_s]; exact List.mem_append_left _ p3
      · rw [up_n _ _ ep, up_n _ _ (une p1)]; exact p3
  · intro i hi
    rw [(G i).1] at hi
    rw [(G i).2.1, (G i).2.2.1]
    by_cases e : i = n
    · subst e
      rw [if_pos rfl, if_pos rfl]
      have e2 : kdG kd q i i = [] := by unfold kdG; rw [up_n _ _ (Ne.symm hqn), up_s]
      rw [e2]
      refine ⟨fun z => ⟨rfl, ?_⟩, fun z => ?_⟩
      · rcases htg with t | t
        · exact t.2
        · exact absurd z t.1
      · rcases htg with t | t
        · exact absurd t.1 z
        · exact t.2
    · rw [if_neg e] at hi
      rw [if_neg e, if_neg e]
      refine ⟨fun z => ?_, (w8 i hi).2⟩
      have eiq : i ≠ q := fun y => hq17 (by rw [← y]; exact z)
      unfold kdG
      rw [up_n _ _ eiq, up_n _ _ e]
      exact (w8 i hi).1 z
  · rw [gw_cnt, w9, ← cnU_up hn 120 hn120]
    refine cnU_eq 120 (fun i _ => ?_)
    rw [(G i).1]
    rfl
theorem SizT.grow {T : TS} (s : SizT T) {q tag n : Nat} {nm : List Nat} (hq : tIs T q = true) (hn : tIs T n = false) (hn120 : n < 120) (hd : tDep T q < 20) (htg : tag ≤ 17) (hnl : nm.length ≤ 8) (hnv : vch nm) : SizT (gwT T q tag nm n) := by
  have hqn : q ≠ n := fun z => by rw [z, hn] at hq; cases hq
  obtain ⟨-, -, -, -, -, -, -, -, -, sq⟩ := s.2 q hq
  have hln : tLk T q ≠ some n := fun z => by
    have := (sq n (Or.inr (Or.inr (Or.inl z)))).2
    rw [hn] at this; cases this
  have G := gw_vals (T := T) (tag := tag) (nm := nm) hqn hln
  have hq120 := s.lt hq
  refine ⟨fun i hi => ?_, fun i hi => ?_⟩
  · rw [(G i).1, if_neg (by omega)]; exact s.1 i hi
  · rw [(G i).1] at hi
    obtain ⟨g1, g2, g3, g4, g5, g6, g7, g8, g9, g10, g11, g12⟩ := G i
    unfold SizN
    rw [g2, g3, g4, g5, g6, g7, g8, g9, g10, g11]
    have isn : ∀ j, tIs T j = true → tIs (gwT T q tag nm n) j = true := fun j hj => by rw [(G j).1, hj]; simp
    by_cases e : i = n
    · subst e
      simp only [↓reduceIte]
      refine ⟨htg, hnl, hnv, by simp, fun p hp => (by cases hp), by simp, fun c hc => (by cases hc), fun _ => trivial, by omega, fun j hj => ?_⟩
      rcases hj with z | z | z | z | z
      · cases z; exact ⟨hq120, isn _ hq⟩
      · cases z
      · cases z
      · cases z
      · have := sq j (Or.inr (Or.inr (Or.inl z)))
        exact ⟨this.1, isn _ this.2⟩
    · simp only [e, ↓reduceIte] at hi ⊢
      obtain ⟨s1, s2, s3, s4, s5, s6, s7, s8, s9, s10⟩ := s.2 i hi
      refine ⟨s1, s2, s3, s4, s5, s6, s7, s8, s9, fun j hj => ?_⟩
      have hnn : n < 120 ∧ tIs (gwT T q tag nm n) n = true := ⟨hn120, by rw [(G n).1, if_pos rfl]⟩
      have old : (tPar T i = some j ∨ tFk T i = some j ∨ tLk T i = some j ∨ tNx T i = some j ∨ tBf T i = some j) → j < 120 ∧ tIs (gwT T q tag nm n) j = true := fun z => ⟨(s10 j z).1, isn _ (s10 j z).2⟩
      rcases hj with z | z | z | z | z
      · exact old (Or.inl z)
      · split at z
        · cases z; exact hnn
        · exact old (Or.inr (Or.inl z))
      · split at z
        · cases z; exact hnn
        · exact old (Or.inr (Or.inr (Or.inl z)))
      · split at z
        · cases z; exact hnn
        · exact old (Or.inr (Or.inr (Or.inr (Or.inl z))))
      · exact old (Or.inr (Or.inr (Or.inr (Or.inr z))))

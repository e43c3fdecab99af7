/-! a NODE goes: the pure side -/
theorem Lk.nx {T : TS} : ∀ (l : List Nat) (b o la : Option Nat), Lk T l b o la → ∀ x ∈ l, ∀ j, tNx T x = some j → j ∈ l := by
  intro l
  induction l with
  | nil => intro b o la _ x hx; cases hx
  | cons i l ih =>
    intro b o la h x hx j hj
    obtain ⟨h1, h2, h3⟩ := h
    rcases List.mem_cons.mp hx with e | e
    · subst e
      cases l with
      | nil => have : tNx T x = none := h3.1; rw [this] at hj; cases hj
      | cons y l =>
        have : tNx T x = some y := h3.1
        rw [this] at hj
        cases hj
        exact List.mem_cons_of_mem _ List.mem_cons_self
    · exact List.mem_cons_of_mem _ (ih _ _ _ h3 x e j hj)
theorem Lk.bf {T : TS} : ∀ (l : List Nat) (b o la : Option Nat), Lk T l b o la → ∀ x ∈ l, ∀ j, tBf T x = some j → j ∈ l ∨ b = some j := by
  intro l
  induction l with
  | nil => intro b o la _ x hx; cases hx
  | cons i l ih =>
    intro b o la h x hx j hj
    obtain ⟨h1, h2, h3⟩ := h
    rcases List.mem_cons.mp hx with e | e
    · subst e
      rw [h2] at hj
      exact Or.inr hj
    · rcases ih _ _ _ h3 x e j hj with z | z
      · exact Or.inl (List.mem_cons_of_mem _ z)
      · cases z
        exact Or.inl List.mem_cons_self
theorem Lk.fst {T : TS} {l : List Nat} {b o la : Option Nat} (h : Lk T l b o la) {j : Nat} (hj : o = some j) : j ∈ l := by
  cases l with
  | nil => rw [h.1] at hj; cases hj
  | cons y l => rw [h.1] at hj; cases hj; exact List.mem_cons_self
theorem Wf.links {T : TS} {kd : Nat → List Nat} (w : Wf T kd) {x : Nat} (hu : tIs T x = true) {j : Nat} (hj : tPar T x = some j ∨ tFk T x = some j ∨ tLk T x = some j ∨ tNx T x = some j ∨ tBf T x = some j) : tIs T j = true := by
  have hl := w.lk hu
  have par : x ≠ 0 → ∃ p, tIs T p = true ∧ x ∈ kd p := fun h0 => by
    obtain ⟨p, p1, p2, p3⟩ := w.2.2.2.2.2.2.1 x hu h0
    exact ⟨p, p1, p3⟩
  rcases hj with z | z | z | z | z
  · exact (w.par hu z).1
  · exact (w.kid hu (hl.fst z)).1
  · rcases Lk.last _ _ _ _ hl with y | ⟨y, y1, y2, -⟩
    · rw [y.2] at z; cases z
    · rw [y2] at z; cases z; exact (w.kid hu y1).1
  · have h0 : x ≠ 0 := fun y => by rw [y, w.2.2.2.1] at z; cases z
    obtain ⟨p, p1, p2⟩ := par h0
    exact (w.kid p1 (Lk.nx _ _ _ _ (w.lk p1) x p2 j z)).1
  · have h0 : x ≠ 0 := fun y => by rw [y, w.2.2.2.2.1] at z; cases z
    obtain ⟨p, p1, p2⟩ := par h0
    rcases Lk.bf _ _ _ _ (w.lk p1) x p2 j z with y | y
    · exact (w.kid p1 y).1
    · cases y
/-- a row without n -/
theorem Lk.del {T T' : TS} {n : Nat} {b : List Nat} : ∀ (a : List Nat) (bb o la : Option Nat), Lk T (a ++ n :: b) bb o la → (a ++ n :: b).Nodup → (∀ x, x ∈ a ∨ x ∈ b → tNx T' x = (if tBf T n = some x then tNx T n else tNx T x) ∧ tBf T' x = (if tNx T n = some x then tBf T n else tBf T x)) → (∀ x, bb = some x → x ∉ a ++ n :: b) → Lk T' (a ++ b) bb (if a = [] then tNx T n else o) (if b = [] then tBf T n else la) := by
  intro a
  induction a with
  | nil =>
    intro bb o la h hd hv hbb
    obtain ⟨h1, h2, h3⟩ := h
    simp only [List.nil_append] at hd hbb ⊢
    rw [List.nodup_cons] at hd
    cases b with
    | nil =>
      obtain ⟨h4, h5⟩ := h3
      simp only [↓reduceIte]
      exact ⟨h4, h2⟩
    | cons y b =>
      obtain ⟨h4, h5, h6⟩ := h3
      obtain ⟨v1, v2⟩ := hv y (Or.inr List.mem_cons_self)
      rw [List.nodup_cons] at hd
      have hyb : ∀ x, tBf T n = some x → x ∉ n :: y :: b := fun x hx => hbb x (by rw [← h2]; exact hx)
      simp only [↓reduceIte, reduceCtorEq]
      refine ⟨h4, by rw [v2, if_pos h4, h2], ?_⟩
      rw [v1, if_neg (fun z => hyb y z (List.mem_cons_of_mem _ List.mem_cons_self))]
      refine Lk.fr _ _ _ _ h6 (fun x hx => ?_)
      obtain ⟨u1, u2⟩ := hv x (Or.inr (List.mem_cons_of_mem _ hx))
      refine ⟨?_, ?_⟩
      · rw [u2, if_neg (fun z => by rw [h4] at z; cases z; exact hd.2.1 hx)]
      · rw [u1, if_neg (fun z => hyb x z (List.mem_cons_of_mem _ (List.mem_cons_of_mem _ hx)))]
  | cons i a ih =>
    intro bb o la h hd hv hbb
    obtain ⟨h1, h2, h3⟩ := h
    simp only [List.cons_append] at hd hbb ⊢
    rw [List.nodup_cons] at hd
    obtain ⟨v1, v2⟩ := hv i (Or.inl List.mem_cons_self)
    have := ih _ _ _ h3 hd.2 (fun x hx => hv x (by rcases hx with z | z; · exact Or.inl (List.mem_cons_of_mem _ z)
                                                   · exact Or.inr z)) (fun x hx => by cases hx; exact hd.1)
    simp only [reduceCtorEq, ↓reduceIte]
    have hni : ¬ tNx T n = some i := fun z => by
      have hn : n ∈ a ++ n :: b := List.mem_append_right _ List.mem_cons_self
      exact hd.1 (Lk.nx _ _ _ _ h3 n hn i z)
    refine ⟨h1, by rw [v2, if_neg hni]; exact h2, ?_⟩
    have e : tNx T' i = if a = [] then tNx T n else tNx T i := by
      rw [v1]
      cases a with
      | nil =>
        have : tBf T n = some i := h3.2.1
        rw [if_pos this, if_pos rfl]
      | cons y a =>
        have : ¬ tBf T n = some i := fun z => by
          obtain ⟨k1, k2, k3⟩ := h3
          have hn : n ∈ a ++ n :: b := List.mem_append_right _ List.mem_cons_self
          have hd2 := hd.1
          rcases Lk.bf _ _ _ _ k3 n hn i z with q | q
          · exact hd2 (List.mem_cons_of_mem _ q)
          · cases q
            exact hd2 List.mem_cons_self
        rw [if_neg this, if_neg (by simp)]
    rw [e]
    exact this
/-- n is taken out of its row in p -/
def un1 (T : TS) (p n : Nat) : TS := match tBf T n with
  | none => uFk T p (tNx T n)
  | some b => uNx T b (tNx T n)
def un2 (T T1 : TS) (p n : Nat) : TS := match tNx T n with
  | none => uLk T1 p (tBf T n)
  | some x => uBf T1 x (tBf T n)
def unT (T : TS) (p n : Nat) : TS := un2 T (un1 T p n) p n
theorem un_vals (T : TS) (p n j : Nat) : tNx (unT T p n) j = (if tBf T n = some j then tNx T n else tNx T j) ∧ tBf (unT T p n) j = (if tNx T n = some j then tBf T n else tBf T j) ∧ tFk (unT T p n) j = (if j = p ∧ tBf T n = none then tNx T n else tFk T j) ∧ tLk (unT T p n) j = (if j = p ∧ tNx T n = none then tBf T n else tLk T j) ∧ tIs (unT T p n) j = tIs T j ∧ tTag (unT T p n) j = tTag T j ∧ tNam (unT T p n) j = tNam T j ∧ tPar (unT T p n) j = tPar T j ∧ tDep (unT T p n) j = tDep T j ∧ tAtt (unT T p n) j = tAtt T j ∧ tTxt (unT T p n) j = tTxt T j ∧ tLng (unT T p n) j = tLng T j ∧ tCnt (unT T p n) = tCnt T := by
  unfold unT un2 un1
  cases hb : tBf T n with
  | none =>
    cases hn : tNx T n with
    | none => simp only [tIs_uIs, tIs_uTag, tIs_uNam, tIs_uPar, tIs_uFk, tIs_uLk, tIs_uNx, tIs_uBf, tIs_uDep, tIs_uAtt, tIs_uTxt, tIs_uLng, tIs_uCnt, tTag_uIs, tTag_uTag, tTag_uNam, tTag_uPar, tTag_uFk, tTag_uLk, tTag_uNx, tTag_uBf, tTag_uDep, tTag_uAtt, tTag_uTxt, tTag_uLng, tTag_uCnt, tNam_uIs, tNam_uTag, tNam_uNam, tNam_uPar, tNam_uFk, tNam_uLk, tNam_uNx, tNam_uBf, tNam_uDep, tNam_uAtt, tNam_uTxt, tNam_uLng, tNam_uCnt, tPar_uIs, tPar_uTag, tPar_uNam, tPar_uPar, tPar_uFk, tPar_uLk, tPar_uNx, tPar_uBf, tPar_uDep, tPar_uAtt, tPar_uTxt, tPar_uLng, tPar_uCnt, tFk_uIs, tFk_uTag, tFk_uNam, tFk_uPar, tFk_uFk, tFk_uLk, tFk_uNx, tFk_uBf, tFk_uDep, tFk_uAtt, tFk_uTxt, tFk_uLng, tFk_uCnt, tLk_uIs, tLk_uTag, tLk_uNam, tLk_uPar, tLk_uFk, tLk_uLk, tLk_uNx, tLk_uBf, tLk_uDep, tLk_uAtt, tLk_uTxt, tLk_uLng, tLk_uCnt, tNx_uIs, tNx_uTag, tNx_uNam, tNx_uPar, tNx_uFk, tNx_uLk, tNx_uNx, tNx_uBf, tNx_uDep, tNx_uAtt, tNx_uTxt, tNx_uLng, tNx_uCnt, tBf_uIs, tBf_uTag, tBf_uNam, tBf_uPar, tBf_uFk, tBf_uLk, tBf_uNx, tBf_uBf, tBf_uDep, tBf_uAtt, tBf_uTxt, tBf_uLng, tBf_uCnt, tDep_uIs, tDep_uTag, tDep_uNam, tDep_uPar, tDep_uFk, tDep_uLk, tDep_uNx, tDep_uBf, tDep_uDep, tDep_uAtt, tDep_uTxt, tDep_uLng, tDep_uCnt, tAtt_uIs, tAtt_uTag, tAtt_uNam, tAtt_uPar, tAtt_uFk, tAtt_uLk, tAtt_uNx, tAtt_uBf, tAtt_uDep, tAtt_uAtt, tAtt_uTxt, tAtt_uLng, tAtt_uCnt, tTxt_uIs, tTxt_uTag, tTxt_uNam, tTxt_uPar, tTxt_uFk, tTxt_uLk, tTxt_uNx, tTxt_uBf, tTxt_uDep, tTxt_uAtt, tTxt_uTxt, tTxt_uLng, tTxt_uCnt, tLng_uIs, tLng_uTag, tLng_uNam, tLng_uPar, tLng_uFk, tLng_uLk, tLng_uNx, tLng_uBf, tLng_uDep, tLng_uAtt, tLng_uTxt, tLng_uLng, tLng_uCnt, tCnt_uIs, tCnt_uTag, tCnt_uNam, tCnt_uPar, tCnt_uFk, tCnt_uLk, tCnt_uNx, tCnt_uBf, tCnt_uDep, tCnt_uAtt, tCnt_uTxt, tCnt_uLng, tCnt_uCnt, reduceCtorEq, and_true, ↓reduceIte, and_self]
    | some x => simp only [tIs_uIs, tIs_uTag, tIs_uNam, tIs_uPar, tIs_uFk, tIs_uLk, tIs_uNx, tIs_uBf, tIs_uDep, tIs_uAtt, tIs_uTxt, tIs_uLng, tIs_uCnt, tTag_uIs, tTag_uTag, tTag_uNam, tTag_uPar, tTag_uFk, tTag_uLk, tTag_uNx, tTag_uBf, tTag_uDep, tTag_uAtt, tTag_uTxt, tTag_uLng, tTag_uCnt, tNam_uIs, tNam_uTag, tNam_uNam, tNam_uPar, tNam_uFk, tNam_uLk, tNam_uNx, tNam_uBf, tNam_uDep, tNam_uAtt, tNam_uTxt, tNam_uLng, tNam_uCnt, tPar_uIs, tPar_uTag, tPar_uNam, tPar_uPar, tPar_uFk, tPar_uLk, tPar_uNx, tPar_uBf, tPar_uDep, tPar_uAtt, tPar_uTxt, tPar_uLng, tPar_uCnt, tFk_uIs, tFk_uTag, tFk_uNam, tFk_uPar, tFk_uFk, tFk_uLk, tFk_uNx, tFk_uBf, tFk_uDep, tFk_uAtt, tFk_uTxt, tFk_uLng, tFk_uCnt, tLk_uIs, tLk_uTag, tLk_uNam, tLk_uPar, tLk_uFk, tLk_uLk, tLk_uNx, tLk_uBf, tLk_uDep, tLk_uAtt, tLk_uTxt, tLk_uLng, tLk_uCnt, tNx_uIs, tNx_uTag, tNx_uNam, tNx_uPar, tNx_uFk, tNx_uLk, tNx_uNx, tNx_uBf, tNx_uDep, tNx_uAtt, tNx_uTxt, tNx_uLng, tNx_uCnt, tBf_uIs, tBf_uTag, tBf_uNam, tBf_uPar, tBf_uFk, tBf_uLk, tBf_uNx, tBf_uBf, tBf_uDep, tBf_uAtt, tBf_uTxt, tBf_uLng, tBf_uCnt, tDep_uIs, tDep_uTag, tDep_uNam, tDep_uPar, tDep_uFk, tDep_uLk, tDep_uNx, tDep_uBf, tDep_uDep, tDep_uAtt, tDep_uTxt, tDep_uLng, tDep_uCnt, tAtt_uIs, tAtt_uTag, tAtt_uNam, tAtt_uPar, tAtt_uFk, tAtt_uLk, tAtt_uNx, tAtt_uBf, tAtt_uDep, tAtt_uAtt, tAtt_uTxt, tAtt_uLng, tAtt_uCnt, tTxt_uIs, tTxt_uTag, tTxt_uNam, tTxt_uPar, tTxt_uFk, tTxt_uLk, tTxt_uNx, tTxt_uBf, tTxt_uDep, tTxt_uAtt, tTxt_uTxt, tTxt_uLng, tTxt_uCnt, tLng_uIs, tLng_uTag, tLng_uNam, tLng_uPar, tLng_uFk, tLng_uLk, tLng_uNx, tLng_uBf, tLng_uDep, tLng_uAtt, tLng_uTxt, tLng_uLng, tLng_uCnt, tCnt_uIs, tCnt_uTag, tCnt_uNam, tCnt_uPar, tCnt_uFk, tCnt_uLk, tCnt_uNx, tCnt_uBf, tCnt_uDep, tCnt_uAtt, tCnt_uTxt, tCnt_uLng, tCnt_uCnt, reduceCtorEq, and_true, and_false, ↓reduceIte, Option.some.injEq, eq_comm (a := x) (b := j), and_self]
  | some b =>
    cases hn : tNx T n with
    | none => simp only [tIs_uIs, tIs_uTag, tIs_uNam, tIs_uPar, tIs_uFk, tIs_uLk, tIs_uNx, tIs_uBf, tIs_uDep, tIs_uAtt, tIs_uTxt, tIs_uLng, tIs_uCnt, tTag_uIs, tTag_uTag, tTag_uNam, tTag_uPar, tTag_uFk, tTag_uLk, tTag_uNx, tTag_uBf, tTag_uDep, tTag_uAtt, tTag_uTxt, tTag_uLng, tTag_uCnt, tNam_uIs, tNam_uTag, tNam_uNam, tNam_uPar, tNam_uFk, tNam_uLk, tNam_uNx, tNam_uBf, tNam_uDep, tNam_uAtt, tNam_uTxt, tNam_uLng, tNam_uCnt, tPar_uIs, tPar_uTag, tPar_uNam, tPar_uPar, tPar_uFk, tPar_uLk, tPar_uNx, tPar_uBf, tPar_uDep, tPar_uAtt, tPar_uTxt, tPar_uLng, tPar_uCnt, tFk_uIs, tFk_uTag, tFk_uNam, tFk_uPar, tFk_uFk, tFk_uLk, tFk_uNx, tFk_uBf, tFk_uDep, tFk_uAtt, tFk_uTxt, tFk_uLng, tFk_uCnt, tLk_uIs, tLk_uTag, tLk_uNam, tLk_uPar, tLk_uFk, tLk_uLk, tLk_uNx, tLk_uBf, tLk_uDep, tLk_uAtt, tLk_uTxt, tLk_uLng, tLk_uCnt, tNx_uIs, tNx_uTag, tNx_uNam, tNx_uPar, tNx_uFk, tNx_uLk, tNx_uNx, tNx_uBf, tNx_uDep, tNx_uAtt, tNx_uTxt, tNx_uLng, tNx_uCnt, tBf_uIs, tBf_uTag, tBf_uNam, tBf_uPar, tBf_uFk, tBf_uLk, tBf_uNx, tBf_uBf, tBf_uDep, tBf_uAtt, tBf_uTxt, tBf_uLng, tBf_uCnt, tDep_uIs, tDep_uTag, tDep_uNam, tDep_uPar, tDep_uFk, tDep_uLk, tDep_uNx, tDep_uBf, tDep_uDep, tDep_uAtt, tDep_uTxt, tDep_uLng, tDep_uCnt, tAtt_uIs, tAtt_uTag, tAtt_uNam, tAtt_uPar, tAtt_uFk, tAtt_uLk, tAtt_uNx, tAtt_uBf, tAtt_uDep, tAtt_uAtt, tAtt_uTxt, tAtt_uLng, tAtt_uCnt, tTxt_uIs, tTxt_uTag, tTxt_uNam, tTxt_uPar, tTxt_uFk, tTxt_uLk, tTxt_uNx, tTxt_uBf, tTxt_uDep, tTxt_uAtt, tTxt_uTxt, tTxt_uLng, tTxt_uCnt, tLng_uIs, tLng_uTag, tLng_uNam, tLng_uPar, tLng_uFk, tLng_uLk, tLng_uNx, tLng_uBf, tLng_uDep, tLng_uAtt, tLng_uTxt, tLng_uLng, tLng_uCnt, tCnt_uIs, tCnt_uTag, tCnt_uNam, tCnt_uPar, tCnt_uFk, tCnt_uLk, tCnt_uNx, tCnt_uBf, tCnt_uDep, tCnt_uAtt, tCnt_uTxt, tCnt_uLng, tCnt_uCnt, reduceCtorEq, and_true, and_false, ↓reduceIte, Option.some.injEq, eq_comm (a := b) (b := j), and_self]
    | some x => simp only [tIs_uIs, tIs_uTag, tIs_uNam, tIs_uPar, tIs_uFk, tIs_uLk, tIs_uNx, tIs_uBf, tIs_uDep, tIs_uAtt, tIs_uTxt, tIs_uLng, tIs_uCnt, tTag_uIs, tTag_uTag, tTag_uNam, tTag_uPar, tTag_uFk, tTag_uLk, tTag_uNx, tTag_uBf, tTag_uDep, tTag_uAtt, tTag_uTxt, tTag_uLng, tTag_uCnt, tNam_uIs, tNam_uTag, tNam_uNam, tNam_uPar, tNam_uFk, tNam_uLk, tNam_uNx, tNam_uBf, tNam_uDep, tNam_uAtt, tNam_uTxt, tNam_uLng, tNam_uCnt, tPar_uIs, tPar_uTag, tPar_uNam, tPar_uPar, tPar_uFk, tPar_uLk, tPar_uNx, tPar_uBf, tPar_uDep, tPar_uAtt, tPar_uTxt, tPar_uLng, tPar_uCnt, tFk_uIs, tFk_uTag, tFk_uNam, tFk_uPar, tFk_uFk, tFk_uLk, tFk_uNx, tFk_uBf, tFk_uDep, tFk_uAtt, tFk_uTxt, tFk_uLng, tFk_uCnt, tLk_uIs, tLk_uTag, tLk_uNam, tLk_uPar, tLk_uFk, tLk_uLk, tLk_uNx, tLk_uBf, tLk_uDep, tLk_uAtt, tLk_uTxt, tLk_uLng, tLk_uCnt, tNx_uIs, tNx_uTag, tNx_uNam, tNx_uPar, tNx_uFk, tNx_uLk, tNx_uNx, tNx_uBf, tNx_uDep, tNx_uAtt, tNx_uTxt, tNx_uLng, tNx_uCnt, tBf_uIs, tBf_uTag, tBf_uNam, tBf_uPar, tBf_uFk, tBf_uLk, tBf_uNx, tBf_uBf, tBf_uDep, tBf_uAtt, tBf_uTxt, tBf_uLng, tBf_uCnt, tDep_uIs, tDep_uTag, tDep_uNam, tDep_uPar, tDep_uFk, tDep_uLk, tDep_uNx, tDep_uBf, tDep_uDep, tDep_uAtt, tDep_uTxt, tDep_uLng, tDep_uCnt, tAtt_uIs, tAtt_uTag, tAtt_uNam, tAtt_uPar, tAtt_uFk, tAtt_uLk, tAtt_uNx, tAtt_uBf, tAtt_uDep, tAtt_uAtt, tAtt_uTxt, tAtt_uLng, tAtt_uCnt, tTxt_uIs, tTxt_uTag, tTxt_uNam, tTxt_uPar, tTxt_uFk, tTxt_uLk, tTxt_uNx, tTxt_uBf, tTxt_uDep, tTxt_uAtt, tTxt_uTxt, tTxt_uLng, tTxt_uCnt, tLng_uIs, tLng_uTag, tLng_uNam, tLng_uPar, tLng_uFk, tLng_uLk, tLng_uNx, tLng_uBf, tLng_uDep, tLng_uAtt, tLng_uTxt, tLng_uLng, tLng_uCnt, tCnt_uIs, tCnt_uTag, tCnt_uNam, tCnt_uPar, tCnt_uFk, tCnt_uLk, tCnt_uNx, tCnt_uBf, tCnt_uDep, tCnt_uAtt, tCnt_uTxt, tCnt_uLng, tCnt_uCnt, reduceCtorEq, and_false, ↓reduceIte, Option.some.injEq, eq_comm (a := b) (b := j), eq_comm (a := x) (b := j), and_self]
/-- NODES are gone -/
def offT (T : TS) : List Nat → TS
  | [] => T
  | x :: l => offT (uCnt (uIs T x false) (tCnt T - 1)) l
theorem off_vals : ∀ (l : List Nat) (T : TS), (∀ j, tIs (offT T l) j = if j ∈ l then false else tIs T j) ∧ (∀ j, TSame T (offT T l) j) ∧ tCnt (offT T l) = tCnt T - l.length := by
  intro l
  induction l with
  | nil => intro T; exact ⟨fun j => by simp [offT], fun j => TSame.rf, rfl⟩
  | cons x l ih =>
    intro T
    obtain ⟨a1, a2, a3⟩ := ih (uCnt (uIs T x false) (tCnt T - 1))
    refine ⟨fun j => ?_, fun j => a2 j, ?_⟩
    · show tIs (offT (uCnt (uIs T x false) (tCnt T - 1)) l) j = _
      rw [a1 j]
      by_cases h1 : j ∈ l
      · rw [if_pos h1, if_pos (List.mem_cons_of_mem _ h1)]
      · rw [if_neg h1]
        by_cases h2 : j = x
        · rw [if_pos (by rw [h2]; exact List.mem_cons_self), h2]
          exact up_s _ _ _
        · rw [if_neg (fun z => by rcases List.mem_cons.mp z with y | y; · exact h2 y
                                  · exact h1 y)]
          exact up_n _ _ h2
    · show tCnt (offT (uCnt (uIs T x false) (tCnt T - 1)) l) = _
      rw [a3]
      simp only [tIs_uIs, tIs_uTag, tIs_uNam, tIs_uPar, tIs_uFk, tIs_uLk, tIs_uNx, tIs_uBf, tIs_uDep, tIs_uAtt, tIs_uTxt, tIs_uLng, tIs_uCnt, tTag_uIs, tTag_uTag, tTag_uNam, tTag_uPar, tTag_uFk, tTag_uLk, tTag_uNx, tTag_uBf, tTag_uDep, tTag_uAtt, tTag_uTxt, tTag_uLng, tTag_uCnt, tNam_uIs, tNam_uTag, tNam_uNam, tNam_uPar, tNam_uFk, tNam_uLk, tNam_uNx, tNam_uBf, tNam_uDep, tNam_uAtt, tNam_uTxt, tNam_uLng, tNam_uCnt, tPar_uIs, tPar_uTag, tPar_uNam, tPar_uPar, tPar_uFk, tPar_uLk, tPar_uNx, tPar_uBf, tPar_uDep, tPar_uAtt, tPar_uTxt, tPar_uLng, tPar_uCnt, tFk_uIs, tFk_uTag, tFk_uNam, tFk_uPar, tFk_uFk, tFk_uLk, tFk_uNx, tFk_uBf, tFk_uDep, tFk_uAtt, tFk_uTxt, tFk_uLng, tFk_uCnt, tLk_uIs, tLk_uTag, tLk_uNam, tLk_uPar, tLk_uFk, tLk_uLk, tLk_uNx, tLk_uBf, tLk_uDep, tLk_uAtt, tLk_uTxt, tLk_uLng, tLk_uCnt, tNx_uIs, tNx_uTag, tNx_uNam, tNx_uPar, tNx_uFk, tNx_uLk, tNx_uNx, tNx_uBf, tNx_uDep, tNx_uAtt, tNx_uTxt, tNx_uLng, tNx_uCnt, tBf_uIs, tBf_uTag, tBf_uNam, tBf_uPar, tBf_uFk, tBf_uLk, tBf_uNx, tBf_uBf, tBf_uDep, tBf_uAtt, tBf_uTxt, tBf_uLng, tBf_uCnt, tDep_uIs, tDep_uTag, tDep_uNam, tDep_uPar, tDep_uFk, tDep_uLk, tDep_uNx, tDep_uBf, tDep_uDep, tDep_uAtt, tDep_uTxt, tDep_uLng, tDep_uCnt, tAtt_uIs, tAtt_uTag, tAtt_uNam, tAtt_uPar, tAtt_uFk, tAtt_uLk, tAtt_uNx, tAtt_uBf, tAtt_uDep, tAtt_uAtt, tAtt_uTxt, tAtt_uLng, tAtt_uCnt, tTxt_uIs, tTxt_uTag, tTxt_uNam, tTxt_uPar, tTxt_uFk, tTxt_uLk, tTxt_uNx, tTxt_uBf, tTxt_uDep, tTxt_uAtt, tTxt_uTxt, tTxt_uLng, tTxt_uCnt, tLng_uIs, tLng_uTag, tLng_uNam, tLng_uPar, tLng_uFk, tLng_uLk, tLng_uNx, tLng_uBf, tLng_uDep, tLng_uAtt, tLng_uTxt, tLng_uLng, tLng_uCnt, tCnt_uIs, tCnt_uTag, tCnt_uNam, tCnt_uPar, tCnt_uFk, tCnt_uLk, tCnt_uNx, tCnt_uBf, tCnt_uDep, tCnt_uAtt, tCnt_uTxt, tCnt_uLng, tCnt_uCnt, List.length_cons]
      omega
theorem cnU_off {f : Nat → Bool} : ∀ (l : List Nat), l.Nodup → (∀ x ∈ l, x < 120 ∧ f x = true) → cnU (fun j => if j ∈ l then false else f j) 120 = cnU f 120 - l.length := by
  intro l
  induction l with
  | nil => intro _ _; simp
  | cons x l ih =>
    intro hd hm
    rw [List.nodup_cons] at hd
    have h1 := ih hd.2 (fun y hy => hm y (List.mem_cons_of_mem _ hy))
    have h2 := cnU_dn (f := fun j => if j ∈ l then false else f j) (n := x) (by rw [if_neg hd.1]; exact (hm x List.mem_cons_self).2) 120 (hm x List.mem_cons_self).1
    have e : cnU (up (fun j => if j ∈ l then false else f j) x false) 120 = cnU (fun j => if j ∈ x :: l then false else f j) 120 := by
      refine cnU_eq 120 (fun i _ => ?_)
      unfold up
      by_cases e1 : i = x
      · rw [if_pos e1, if_pos (by rw [e1]; exact List.mem_cons_self)]
      · rw [if_neg e1]
        show (if i ∈ l then false else f i) = _
        by_cases e2 : i ∈ l
        · rw [if_pos e2, if_pos (List.mem_cons_of_mem _ e2)]
        · rw [if_neg e2, if_neg (fun z => by rcases List.mem_cons.mp z with y | y; · exact e1 y
                                             · exact e2 y)]
    rw [← e, List.length_cons]
    omega
def rmT (T : TS) (p n : Nat) (l : List Nat) : TS := offT (unT T p n) l
theorem Wf.removeAt {T : TS} {kd : Nat → List Nat} (w : Wf T kd) (hS : SizT T) {p n : Nat} {a b : List Nat} (hu : tIs T n = true) (hp : tPar T n = some p) (hab : kd p = a ++ n :: b) : Wf (rmT T p n (pre kd 20 n)) (up kd p (a ++ b)) := by
  obtain ⟨hup, hdp, hnp⟩ := w.par hu hp
  obtain ⟨w1, w2, w3, w4, w5, w6, w7, w8, w9⟩ := id w
  have hnd := (w6 p hup).2.1
  have hlk := w.lk hup
  rw [hab] at hnd hlk
  obtain ⟨o1, o2, o3⟩ := off_vals (pre kd 20 n) (unT T p n)
  have U := un_vals T p n
  have hn0 : n ≠ 0 := fun z => by rw [z, w2] at hp; cases hp
  have pm := pre_mem w 20 n hu
  have pc := pre_closed w hS 20 n hu (by omega)
  have h0 : 0 ∉ pre kd 20 n := fun z => by
    have := (pm 0 z).2.1
    omega
  have hpl : p ∉ pre kd 20 n := fun z => by have := (pm p z).2.1; omega
  have out : ∀ x, tIs T x = true → ∀ q, tIs T q = true → x ∈ kd q → x ≠ n → (x ∈ pre kd 20 n ↔ q ∈ pre kd 20 n) := fun x hx q hq hxq hxn => by
    refine ⟨fun z => ?_, fun z => pc q z x hxq⟩
    obtain ⟨q', q1, q2⟩ := (pm x z).2.2 hxn
    have e1 := (w.kid (pm q' q1).1 q2).2.1
    have e2 := (w.kid hq hxq).2.1
    rw [e1] at e2
    cases e2
    exact q1
  have hnd2 : (a ++ b).Nodup ∧ n ∉ a ++ b := by
    have := List.nodup_append.mp hnd
    obtain ⟨d1, d2, d3⟩ := this
    rw [List.nodup_cons] at d2
    refine ⟨List.nodup_append.mpr ⟨d1, d2.2, fun x hx y hy => d3 x hx y (List.mem_cons_of_mem _ hy)⟩, fun z => ?_⟩
    rcases List.mem_append.mp z with y | y
    · exact d3 n y n List.mem_cons_self rfl
    · exact d2.1 y
  have bfn : ∀ x, tBf T n = some x → x ∈ kd p := fun x hx => by
    rcases Lk.bf _ _ _ _ (w.lk hup) n hnp x hx with z | z
    · exact z
    · cases z
  have nxn : ∀ x, tNx T n = some x → x ∈ kd p := fun x hx => Lk.nx _ _ _ _ (w.lk hup) n hnp x hx
  refine ⟨?_, ?_, ?_, ?_, ?_, ?_, ?_, ?_, ?_⟩
  · show tIs (offT _ _) 0 = true
    rw [o1, if_neg h0, (U 0).2.2.2.2.1]; exact w1
  · show tPar (offT _ _) 0 = none
    rw [(o2 0).2.2.1, (U 0).2.2.2.2.2.2.2.1]; exact w2
  · show tDep (offT _ _) 0 = 0
    rw [(o2 0).2.2.2.2.2.2.2.1, (U 0).2.2.2.2.2.2.2.2.1]; exact w3
  · show tNx (offT _ _) 0 = none
    rw [(o2 0).2.2.2.2.2.1, (U 0).1, if_neg (fun z => by have := (w.kid hup (bfn 0 z)).2.2; omega)]; exact w4
  · show tBf (offT _ _) 0 = none
    rw [(o2 0).2.2.2.2.2.2.1, (U 0).2.1, if_neg (fun z => by have := (w.kid hup (nxn 0 z)).2.2; omega)]; exact w5
  · intro i hi
    have hi' : i ∉ pre kd 20 n ∧ tIs T i = true := by
      have : tIs (offT (unT T p n) (pre kd 20 n)) i = true := hi
      rw [o1, (U i).2.2.2.2.1] at this
      by_cases z : i ∈ pre kd 20 n
      · rw [if_pos z] at this; cases this
      · rw [if_neg z] at this; exact ⟨z, this⟩
    have eF : tFk (rmT T p n (pre kd 20 n)) i = if i = p ∧ tBf T n = none then tNx T n else tFk T i := (o2 i).2.2.2.1.trans (U i).2.2.1
    have eL : tLk (rmT T p n (pre kd 20 n)) i = if i = p ∧ tNx T n = none then tBf T n else tLk T i := (o2 i).2.2.2.2.1.trans (U i).2.2.2.1
    have eN : ∀ x, tNx (rmT T p n (pre kd 20 n)) x = if tBf T n = some x then tNx T n else tNx T x := fun x => (o2 x).2.2.2.2.2.1.trans (U x).1
    have eB : ∀ x, tBf (rmT T p n (pre kd 20 n)) x = if tNx T n = some x then tBf T n else tBf T x := fun x => (o2 x).2.2.2.2.2.2.1.trans (U x).2.1
    have eI : ∀ x, tIs (rmT T p n (pre kd 20 n)) x = if x ∈ pre kd 20 n then false else tIs T x := fun x => by
      show tIs (offT _ _) x = _
      rw [o1, (U x).2.2.2.2.1]
    have eP : ∀ x, tPar (rmT T p n (pre kd 20 n)) x = tPar T x := fun x => (o2 x).2.2.1.trans (U x).2.2.2.2.2.2.2.1
    have eD : ∀ x, tDep (rmT T p n (pre kd 20 n)) x = tDep T x := fun x => (o2 x).2.2.2.2.2.2.2.1.trans (U x).2.2.2.2.2.2.2.2.1
    by_cases ei : i = p
    · subst ei
      rw [up_s, eF, eL]
      refine ⟨?_, hnd2.1, fun x hx => ?_⟩
      · have := Lk.del (T' := rmT T i n (pre kd 20 n)) a none _ _ hlk hnd (fun x _ => ⟨eN x, eB x⟩) (fun x hx => by cases hx)
        have e1 : (if i = i ∧ tBf T n = none then tNx T n else tFk T i) = (if a = [] then tNx T n else tFk T i) := by
          cases a with
          | nil =>
            have : tBf T n = none := hlk.2.1
            rw [if_pos ⟨rfl, this⟩, if_pos rfl]
          | cons y a =>
            have hx := hlk.2.2
            have : ¬ tBf T n = none := by
              intro z
              have : ∀ (a : List Nat) (y : Nat) (o la : Option Nat), Lk T (a ++ n :: b) (some y) o la → tBf T n ≠ none := by
                intro a
                induction a with
                | nil => intro y o la h; rw [h.2.1]; simp
                | cons q a ih => intro y o la h; exact ih q _ _ h.2.2
              exact this a y _ _ hx z
            rw [if_neg (fun q => this q.2), if_neg (by simp)]
        have e2 : (if i = i ∧ tNx T n = none then tBf T n else tLk T i) = (if b = [] then tBf T n else tLk T i) := by
          have : ∀ (a : List Nat) (bb o la : Option Nat), Lk T (a ++ n :: b) bb o la → (tNx T n = none ↔ b = []) := by
            intro a
            induction a with
            | nil =>
              intro bb o la h
              cases b with
              | nil => exact ⟨fun _ => rfl, fun _ => h.2.2.1⟩
              | cons y b =>
                have : tNx T n = some y := h.2.2.1
                rw [this]
                simp
            | cons q a ih => intro bb o la h; exact ih _ _ _ h.2.2
          have := this a _ _ _ hlk
          by_cases hb : b = []
          · rw [if_pos ⟨rfl, this.mpr hb⟩, if_pos hb]
          · rw [if_neg (fun q => hb (this.mp q.2)), if_neg hb]
        rw [e1, e2]
        exact this
      · have hxk : x ∈ kd i := by
          rw [hab]
          rcases List.mem_append.mp hx with z | z
          · exact List.mem_append_left _ z
          · exact List.mem_append_right _ (List.mem_cons_of_mem _ z)
        obtain ⟨k1, k2, k3⟩ := w.kid hup hxk
        have hxn : x ≠ n := fun z => hnd2.2 (by rw [← z]; exact hx)
        refine ⟨?_, by rw [eP]; exact k2, by rw [eD, eD]; exact k3⟩
        rw [eI, if_neg (fun z => hpl ((out x k1 i hup hxk hxn).mp z))]
        exact k1
    · rw [up_n _ _ ei, eF, if_neg (fun z => ei z.1), eL, if_neg (fun z => ei z.1)]
      obtain ⟨m1, m2, m3⟩ := w6 i hi'.2
      have noti : ∀ x ∈ kd i, x ∉ kd p := fun x hx z => by
        have e1 := (m3 x hx).2.1
        have e2 := (w.kid hup z).2.1
        rw [e1] at e2
        cases e2
        exact ei rfl
      refine ⟨Lk.fr _ _ _ _ m1 (fun x hx => ?_), m2, fun x hx => ?_⟩
      · rw [eB, eN, if_neg (fun z => noti x hx (nxn x z)), if_neg (fun z => noti x hx (bfn x z))]
        exact ⟨rfl, rfl⟩
      · obtain ⟨k1, k2, k3⟩ := m3 x hx
        have hxn : x ≠ n := fun z => by
          rw [z, hp] at k2
          cases k2
          exact ei rfl
        refine ⟨?_, by rw [eP]; exact k2, by rw [eD, eD]; exact k3⟩
        rw [eI, if_neg (fun z => hi'.1 ((out x k1 i hi'.2 hx hxn).mp z))]
        exact k1
  · intro x hx hx0
    have hx' : x ∉ pre kd 20 n ∧ tIs T x = true := by
      have : tIs (offT (unT T p n) (pre kd 20 n)) x = true := hx
      rw [o1, (U x).2.2.2.2.1] at this
      by_cases z : x ∈ pre kd 20 n
      · rw [if_pos z] at this; cases this
      · rw [if_neg z] at this; exact ⟨z, this⟩
    obtain ⟨q, q1, q2, q3⟩ := w7 x hx'.2 hx0
    have hxn : x ≠ n := fun z => hx'.1 (by rw [z]; exact pre_self _ _ _)
    refine ⟨q, ?_, ?_, ?_⟩
    · show tIs (offT _ _) q = true
      rw [o1, (U q).2.2.2.2.1, if_neg (fun z => hx'.1 ((out x hx'.2 q q1 q3 hxn).mpr z))]
      exact q1
    · show tPar (offT _ _) x = some q
      rw [(o2 x).2.2.1, (U x).2.2.2.2.2.2.2.1]
      exact q2
    · by_cases e : q = p
      · subst e
        rw [up_s]
        rw [hab] at q3
        rcases List.mem_append.mp q3 with z | z
        · exact List.mem_append_left _ z
        · rcases List.mem_cons.mp z with y | y
          · exact absurd y hxn
          · exact List.mem_append_right _ y
      · rw [up_n _ _ e]; exact q3
  · intro i hi
    have hi' : tIs T i = true := by
      have : tIs (offT (unT T p n) (pre kd 20 n)) i = true := hi
      rw [o1, (U i).2.2.2.2.1] at this
      by_cases z : i ∈ pre kd 20 n
      · rw [if_pos z] at this; cases this
      · rw [if_neg z] at this; exact this
    have eT : tTag (rmT T p n (pre kd 20 n)) i = tTag T i := (o2 i).1.trans (U i).2.2.2.2.2.1
    have eNm : tNam (rmT T p n (pre kd 20 n)) i = tNam T i := (o2 i).2.1.trans (U i).2.2.2.2.2.2.1
    rw [eT, eNm]
    refine ⟨fun z => ?_, (w8 i hi').2⟩
    have ei : i ≠ p := fun y => by
      have := ((w8 i hi').1 z).1
      rw [y] at this
      rw [this] at hnp
      cases hnp
    rw [up_n _ _ ei]
    exact (w8 i hi').1 z
  · show tCnt (offT _ _) = cnU (tIs (offT _ _)) 120
    have hc : tCnt (unT T p n) = tCnt T := (U 0).2.2.2.2.2.2.2.2.2.2.2.2
    rw [o3, hc, w9, ← cnU_off (f := tIs T) _ (pre_nodup w hS hu) (fun x hx => ⟨hS.lt (pm x hx).1, (pm x hx).1⟩)]
    refine cnU_eq 120 (fun i _ => ?_)
    rw [o1, (U i).2.2.2.2.1]
theorem Wf.remove {T : TS} {kd : Nat → List Nat} (w : Wf T kd) (hS : SizT T) {p n : Nat} (hu : tIs T n = true) (hp : tPar T n = some p) : ∃ kd', Wf (rmT T p n (pre kd 20 n)) kd' := by
  obtain ⟨a, b, hab⟩ := List.append_of_mem (w.par hu hp).2.2
  exact ⟨_, w.removeAt hS hu hp hab⟩
theorem SizT.remove {T : TS} {kd kd' : Nat → List Nat} (s : SizT T) {p n : Nat} {l : List Nat} (w' : Wf (rmT T p n l) kd') : SizT (rmT T p n l) := by
  obtain ⟨o1, o2, o3⟩ := off_vals l (unT T p n)
  have U := un_vals T p n
  have is' : ∀ i, tIs (rmT T p n l) i = true → tIs T i = true := fun i hi => by
    have : tIs (offT (unT T p n) l) i = true := hi
    rw [o1, (U i).2.2.2.2.1] at this
    by_cases z : i ∈ l
    · rw [if_pos z] at this; cases this
    · rw [if_neg z] at this; exact this
  refine ⟨fun i hi => ?_, fun i hi => ?_⟩
  · show tIs (offT _ _) i = false
    rw [o1, (U i).2.2.2.2.1, s.1 i hi]
    simp
  · obtain ⟨s1, s2, s3, s4, s5, s6, s7, s8, s9, s10⟩ := s.2 i (is' i hi)
    have eT : tTag (rmT T p n l) i = tTag T i := (o2 i).1.trans (U i).2.2.2.2.2.1
    have eNm : tNam (rmT T p n l) i = tNam T i := (o2 i).2.1.trans (U i).2.2.2.2.2.2.1
    have eA : tAtt (rmT T p n l) i = tAtt T i := (o2 i).2.2.2.2.2.2.2.2.1.trans (U i).2.2.2.2.2.2.2.2.2.1
    have eX : tTxt (rmT T p n l) i = tTxt T i := (o2 i).2.2.2.2.2.2.2.2.2.1.trans (U i).2.2.2.2.2.2.2.2.2.2.1
    have eD : tDep (rmT T p n l) i = tDep T i := (o2 i).2.2.2.2.2.2.2.1.trans (U i).2.2.2.2.2.2.2.2.1
    unfold SizN
    rw [eT, eNm, eA, eX, eD]
    exact ⟨s1, s2, s3, s4, s5, s6, s7, s8, s9, fun j hj => by
      have := w'.links hi hj
      exact ⟨s.lt (is' j this), this⟩⟩

/-! text(n): all in a NODE goes -/
theorem pre_congr {kd kd' : Nat → List Nat} : ∀ (g x : Nat), (∀ y ∈ pre kd g x, kd' y = kd y) → pre kd' g x = pre kd g x := by
  intro g
  induction g with
  | zero => intro x _; rfl
  | succ g ih =>
    intro x h
    unfold pre
    rw [h x List.mem_cons_self]
    congr 1
    have : ∀ l : List Nat, (∀ y ∈ l, y ∈ kd x) → l.flatMap (pre kd' g) = l.flatMap (pre kd g) := by
      intro l
      induction l with
      | nil => intro _; rfl
      | cons y l ihl =>
        intro hl
        rw [List.flatMap_cons, List.flatMap_cons, ihl (fun z hz => hl z (List.mem_cons_of_mem _ hz)), ih y (fun z hz => h z (List.mem_cons_of_mem _ (List.mem_flatMap.mpr ⟨y, hl y List.mem_cons_self, hz⟩)))]
    exact this (kd x) (fun y hy => hy)
def rmL (kd : Nat → List Nat) (i : Nat) : List Nat → TS → TS
  | [], T => T
  | x :: l, T => rmL kd i l (rmT T i x (pre kd 20 x))
/-- what is left of the TREE -/
theorem rmL_ok {kd0 : Nat → List Nat} {i : Nat} : ∀ (l : List Nat) (T : TS) (kd : Nat → List Nat), Wf T kd → SizT T → tIs T i = true → kd i = l → (∀ y, y ≠ i → kd y = kd0 y) →
    (∃ kd', Wf (rmL kd0 i l T) kd' ∧ kd' i = []) ∧ SizT (rmL kd0 i l T) ∧ tIs (rmL kd0 i l T) i = true ∧ (∀ j, tIs (rmL kd0 i l T) j = if j ∈ l.flatMap (pre kd0 20) then false else tIs T j) ∧ tCnt (rmL kd0 i l T) = tCnt T - (l.flatMap (pre kd0 20)).length ∧ (∀ j, j ≠ i → j ∉ l.flatMap (pre kd0 20) → TSame T (rmL kd0 i l T) j) ∧ (tTag (rmL kd0 i l T) i = tTag T i ∧ tNam (rmL kd0 i l T) i = tNam T i ∧ tPar (rmL kd0 i l T) i = tPar T i ∧ tNx (rmL kd0 i l T) i = tNx T i ∧ tBf (rmL kd0 i l T) i = tBf T i ∧ tDep (rmL kd0 i l T) i = tDep T i ∧ tAtt (rmL kd0 i l T) i = tAtt T i ∧ tTxt (rmL kd0 i l T) i = tTxt T i ∧ tLng (rmL kd0 i l T) i = tLng T i) := by
  intro l
  induction l with
  | nil =>
    intro T kd w hS hu hk _
    exact ⟨⟨kd, w, hk⟩, hS, hu, fun j => by simp [rmL], rfl, fun j _ _ => TSame.rf, rfl, rfl, rfl, rfl, rfl, rfl, rfl, rfl, rfl⟩
  | cons x l ih =>
    intro T kd w hS hu hk hk0
    have hx : x ∈ kd i := by rw [hk]; exact List.mem_cons_self
    obtain ⟨ux, px, dx⟩ := w.kid hu hx
    have pm := pre_mem w 20 x ux
    have ip : i ∉ pre kd 20 x := fun z => by have := (pm i z).2.1; omega
    have pe : pre kd0 20 x = pre kd 20 x := pre_congr 20 x (fun y hy => (hk0 y (fun z => ip (by rw [← z]; exact hy))).symm)
    have w1 := w.removeAt hS ux px (a := []) (b := l) hk
    have S1 := hS.remove (kd := kd) w1
    obtain ⟨o1, o2, o3⟩ := off_vals (pre kd 20 x) (unT T i x)
    have U := un_vals T i x
    have hlk := w.lk hu
    rw [hk] at hlk
    have bfx : tBf T x = none := hlk.2.1
    have nxl : ∀ j, tNx T x = some j → j ∈ l := fun j hj => hlk.2.2.fst hj
    have hnd := (w.2.2.2.2.2.1 i hu).2.1
    rw [hk, List.nodup_cons] at hnd
    have il : i ∉ l := fun z => by
      have := (w.kid hu (show i ∈ kd i by rw [hk]; exact List.mem_cons_of_mem _ z)).2.2
      omega
    have isR : ∀ j, tIs (rmT T i x (pre kd 20 x)) j = if j ∈ pre kd 20 x then false else tIs T j := fun j => by
      show tIs (offT _ _) j = _
      rw [o1, (U j).2.2.2.2.1]
    have hu1 : tIs (rmT T i x (pre kd 20 x)) i = true := by rw [isR, if_neg ip]; exact hu
    have hcn : tCnt (rmT T i x (pre kd 20 x)) = tCnt T - (pre kd 20 x).length := by
      show tCnt (offT _ _) = _
      rw [o3, (U 0).2.2.2.2.2.2.2.2.2.2.2.2]
    obtain ⟨r1, r2, r3, r4, r5, r6, r7⟩ := ih (rmT T i x (pre kd 20 x)) (up kd i ([] ++ l)) w1 S1 hu1 (up_s _ _ _) (fun y hy => by rw [up_n _ _ hy]; exact hk0 y hy)
    have hdef : rmL kd0 i (x :: l) T = rmL kd0 i l (rmT T i x (pre kd 20 x)) := by
      show rmL kd0 i l (rmT T i x (pre kd0 20 x)) = _
      rw [pe]
    rw [hdef, List.flatMap_cons, pe]
    refine ⟨r1, r2, r3, fun j => ?_, ?_, fun j hj hm => ?_, ?_⟩
    · rw [r4, isR]
      by_cases c1 : j ∈ l.flatMap (pre kd0 20)
      · rw [if_pos c1, if_pos (List.mem_append_right _ c1)]
      · rw [if_neg c1]
        by_cases c2 : j ∈ pre kd 20 x
        · rw [if_pos c2, if_pos (List.mem_append_left _ c2)]
        · rw [if_neg c2, if_neg (fun z => by rcases List.mem_append.mp z with y | y; · exact c2 y
                                             · exact c1 y)]
    · rw [r5, hcn, List.length_append]; omega
    · have m1 : j ∉ l.flatMap (pre kd0 20) := fun z => hm (List.mem_append_right _ z)
      have jl : j ∉ l := fun z => m1 (List.mem_flatMap.mpr ⟨j, z, pre_self _ _ _⟩)
      obtain ⟨a1, a2, a3, a4, a5, a6, a7, a8, a9, a10, a11⟩ := r6 j hj m1
      obtain ⟨b1, b2, b3, b4, b5, b6, b7, b8, b9, b10, b11⟩ := o2 j
      obtain ⟨c1, c2, c3, c4, c5, c6, c7, c8, c9, c10, c11, c12, c13⟩ := U j
      rw [if_neg (by rw [bfx]; simp)] at c1
      rw [if_neg (fun z => jl (nxl j z))] at c2
      rw [if_neg (fun z => hj z.1)] at c3
      rw [if_neg (fun z => hj z.1)] at c4
      exact ⟨a1.trans (b1.trans c6), a2.trans (b2.trans c7), a3.trans (b3.trans c8), a4.trans (b4.trans c3), a5.trans (b5.trans c4), a6.trans (b6.trans c1), a7.trans (b7.trans c2), a8.trans (b8.trans c9), a9.trans (b9.trans c10), a10.trans (b10.trans c11), a11.trans (b11.trans c12)⟩
    · obtain ⟨a1, a2, a3, a4, a5, a6, a7, a8, a9⟩ := r7
      obtain ⟨b1, b2, b3, b4, b5, b6, b7, b8, b9, b10, b11⟩ := o2 i
      obtain ⟨c1, c2, c3, c4, c5, c6, c7, c8, c9, c10, c11, c12, c13⟩ := U i
      rw [if_neg (by rw [bfx]; simp)] at c1
      rw [if_neg (fun z => il (nxl i z))] at c2
      exact ⟨a1.trans (b1.trans c6), a2.trans (b2.trans c7), a3.trans (b3.trans c8), a4.trans (b6.trans c1), a5.trans (b7.trans c2), a6.trans (b8.trans c9), a7.trans (b9.trans c10), a8.trans (b10.trans c11), a9.trans (b11.trans c12)⟩
/-- class: all kids are let go -/
theorem cls_dropLoop {T : TS} {kd : Nat → List Nat} {ad : Nat → Nat → Nat → Nat} {tr i : Nat} (w : Wf T kd) (hS : SizT T) (hu : tIs T i = true) : ∀ (l : List Nat) (b o la : Option Nat) (f : Nat) (h : AH), Lk T l b o la → (∀ x ∈ l, x ∈ kd i) → l.length < f → LnC h ad T kd (fun x => tIs T x = true) → gK h tr = (8, 0) → fX7_dropAllIn_5 f (some tr) (some (ad 1 i 0)) (oN ad o) h = fX7_dropAllIn_23 (some (ad 1 i 0)) (mrC ad tr h (l.flatMap (pst kd 20))) := by
  intro l
  induction l with
  | nil =>
    intro b o la f h hL hm hf hC hk
    obtain ⟨f, rfl⟩ : ∃ g, f = g + 1 := ⟨f - 1, by simp at hf; omega⟩
    have e : o = none := hL.1
    subst e
    rw [fX7_dropAllIn_5]
    simp only [oN_n, ↓reduceIte]
    rfl
  | cons x l ih =>
    intro b o la f h hL hm hf hC hk
    simp only [List.length_cons] at hf
    obtain ⟨f, rfl⟩ : ∃ g, f = g + 1 := ⟨f - 1, by omega⟩
    obtain ⟨rfl, h2, h3⟩ := hL
    have hx := hm x List.mem_cons_self
    obtain ⟨-, -, -, ky⟩ := hC i hu
    obtain ⟨sx, n158⟩ := ky x hx
    obtain ⟨kx, -⟩ := hC x sx
    have g1 := cls_release w hS 20 25 x 0 h sx (by omega) (by omega) (by omega) hC hk
    obtain ⟨e1, e2, -⟩ := mrC_eq ad tr (pst kd 20 x) h
    have ihh := ih _ _ _ f (mrC ad tr h (pst kd 20 x)) h3 (fun y hy => hm y (List.mem_cons_of_mem _ hy)) (by omega) (hC.eq e1 e2) (by rw [e2]; exact hk)
    rw [fX7_dropAllIn_5, List.flatMap_cons, mrC_app]
    simp only [oN_s, some_ne, ↓reduceIte, ↓uCV, hk, g1, ↓oCL, ↓uGR, e1, e2, kx, n158, Nat.reduceAdd]
    exact ihh
theorem ClsT.lnc {h : AH} {ad : Nat → Nat → Nat → Nat} {tr nd : Nat} {T : TS} {kd : Nat → List Nat} (q : ClsT h ad tr nd T) (w : Wf T kd) (hS : SizT T) : LnC h ad T kd (fun x => tIs T x = true) := fun x hx => by
  obtain ⟨-, ⟨d1, -⟩, -, -, -, -, -, -, v7, -⟩ := q.nd (hS.lt hx) hx
  refine ⟨d1, v7, hx, fun y hy => ?_⟩
  obtain ⟨uy, -⟩ := w.kid hx hy
  obtain ⟨-, -, -, -, -, -, -, v6, -⟩ := q.nd (hS.lt uy) uy
  exact ⟨uy, v6⟩
theorem fm_pre {T : TS} {kd : Nat → List Nat} (w : Wf T kd) (hS : SizT T) {i : Nat} (hu : tIs T i = true) : pre kd 20 i = i :: (kd i).flatMap (pre kd 20) := by
  have hgen : ∀ (g x : Nat), tIs T x = true → 20 ≤ tDep T x + g → pre kd (g + 1) x = pre kd g x := by
    intro g
    induction g with
    | zero =>
      intro x hx hg
      show x :: (kd x).flatMap (pre kd 0) = [x]
      rw [w.leaf hS hx (by omega)]
      rfl
    | succ g ih =>
      intro x hx hg
      show x :: (kd x).flatMap (pre kd (g + 1)) = x :: (kd x).flatMap (pre kd g)
      congr 1
      have : ∀ l : List Nat, (∀ y ∈ l, y ∈ kd x) → l.flatMap (pre kd (g + 1)) = l.flatMap (pre kd g) := by
        intro l
        induction l with
        | nil => intro _; rfl
        | cons y l ihl =>
          intro hl
          have hk := w.kid hx (hl y List.mem_cons_self)
          rw [List.flatMap_cons, List.flatMap_cons, ihl (fun z hz => hl z (List.mem_cons_of_mem _ hz)), ih y hk.1 (by omega)]
      exact this (kd x) (fun y hy => hy)
  rw [← hgen 20 i hu (by omega)]
  rfl
theorem cls_dropAll {h : AH} {bs s0 i : Nat} {sg : Nat → Nat} {ad : Nat → Nat → Nat → Nat} {T : TS} {kd : Nat → List Nat} (hA : AdOk h bs s0 sg ad) (hC : ClsT h ad (sg 8) (sg 9) T) (w : Wf T kd) (hS : SizT T) (hu : tIs T i = true) : ∃ h1, fX7_dropAllIn (some (sg 8)) (some (ad 1 i 0)) h = some ((), h1) ∧ AdOk h1 bs s0 sg ad ∧ ClsT h1 ad (sg 8) (sg 9) (rmL kd i (kd i) T) ∧ FrTB sg h ad h1 ad := by
  have hi := hS.lt hu
  obtain ⟨-, ⟨b1, -⟩, -, -, -, -, -, -, v7, -⟩ := hC.nd hi hu
  have g1 := cls_dropLoop (tr := sg 8) (ad := ad) w hS hu (kd i) _ _ _ FU h (w.lk hu) (fun x hx => hx) (by have := FU_ge; have := w.len hS hu; omega) (hC.lnc w hS) hC.1
  have hp := fm_pre w hS hu
  have hnd := pre_nodup w hS hu
  rw [hp, List.nodup_cons] at hnd
  have pm := pre_mem w 20 i hu
  have perm : ((kd i).flatMap (pst kd 20)).Perm ((kd i).flatMap (pre kd 20)) := fm_perm (pst_perm kd 20) (kd i)
  have inu : ∀ x ∈ (kd i).flatMap (pre kd 20), tIs T x = true := fun x hx => (pm x (by rw [hp]; exact List.mem_cons_of_mem _ hx)).1
  have pnd : ((kd i).flatMap (pst kd 20)).Nodup := perm.nodup_iff.mpr hnd.2
  have pin : ∀ x ∈ (kd i).flatMap (pst kd 20), x < 120 ∧ tIs T x = true := fun x hx => by
    have := inu x (perm.mem_iff.mp hx)
    exact ⟨hS.lt this, this⟩
  obtain ⟨C1, F1⟩ := mrC_T _ h T hC hA pnd pin (w.cntle hS pnd (fun x hx => (pin x hx).2))
  obtain ⟨e1, e2, e3, e4⟩ := mrC_eq ad (sg 8) ((kd i).flatMap (pst kd 20)) h
  have A1 : AdOk (mrC ad (sg 8) h ((kd i).flatMap (pst kd 20))) bs s0 sg ad := hA.eq e3 e4 e2
  obtain ⟨o1, o2, o3⟩ := off_vals ((kd i).flatMap (pst kd 20)) T
  have iu : tIs (offT T ((kd i).flatMap (pst kd 20))) i = true := by
    rw [o1, if_neg (fun z => hnd.1 (perm.mem_iff.mp z))]
    exact hu
  have C2 := C1.p159 A1 hi iu none
  have A2 : AdOk (pR (mrC ad (sg 8) h ((kd i).flatMap (pst kd 20))) 159 (ad 1 i 0) (oN ad none)) bs s0 sg ad := A1.eq rfl rfl rfl
  have C3 := C2.p160 A2 hi iu none
  have k1 : gK (mrC ad (sg 8) h ((kd i).flatMap (pst kd 20))) (ad 1 i 0) = (4, 0) := by rw [e2]; exact b1
  refine ⟨pR (pR (mrC ad (sg 8) h ((kd i).flatMap (pst kd 20))) 159 (ad 1 i 0) (oN ad none)) 160 (ad 1 i 0) (oN ad none), ?_, A2.eq rfl rfl rfl, C3.teq ?_, F1.tr ((FrTB.node A1 hi k1 (FrX.pR FrX.rf rfl) rfl).tr (FrTB.node A2 hi k1 (FrX.pR FrX.rf rfl) rfl))⟩
  · simp only [fX7_dropAllIn, fX7_dropAllIn_0, ↓uGR, b1, v7, ↓reduceIte, Nat.reduceAdd, g1]
    simp only [fX7_dropAllIn_23, ↓uPR, gK_pR, k1, ↓reduceIte, Nat.reduceAdd, oN_n]
  · obtain ⟨⟨kd', w', hk'⟩, r2, r3, r4, r5, r6, r7⟩ := rmL_ok (kd0 := kd) (kd i) T kd w hS hu rfl (fun _ _ => rfl)
    have hlk := w'.lk r3
    rw [hk'] at hlk
    refine ⟨fun j => ?_, ?_, fun j hj => ?_⟩
    · rw [r4]
      show _ = tIs (offT T _) j
      rw [o1]
      by_cases z : j ∈ (kd i).flatMap (pre kd 20)
      · rw [if_pos z, if_pos (perm.mem_iff.mpr z)]
      · rw [if_neg z, if_neg (fun y => z (perm.mem_iff.mp y))]
    · rw [r5]
      show _ = tCnt (offT T _)
      rw [o3, perm.length_eq]
    · have hj' : tIs (offT T ((kd i).flatMap (pst kd 20))) j = true := hj
      rw [o1] at hj'
      have jm : j ∉ (kd i).flatMap (pre kd 20) := fun z => by rw [if_pos (perm.mem_iff.mpr z)] at hj'; cases hj'
      obtain ⟨b1, b2, b3, b4, b5, b6, b7, b8, b9, b10, b11⟩ := o2 j
      by_cases e : j = i
      · subst e
        obtain ⟨a1, a2, a3, a4, a5, a6, a7, a8, a9⟩ := r7
        refine ⟨a1.trans b1.symm, a2.trans b2.symm, a3.trans b3.symm, ?_, ?_, a4.trans b6.symm, a5.trans b7.symm, a6.trans b8.symm, a7.trans b9.symm, a8.trans b10.symm, a9.trans b11.symm⟩
        · rw [hlk.1]
          show none = tFk (uFk _ j none) j
          rw [tFk_uFk, if_pos rfl]
        · rw [hlk.2, tLk_uLk, if_pos rfl]
      · obtain ⟨a1, a2, a3, a4, a5, a6, a7, a8, a9, a10, a11⟩ := r6 j e jm
        refine ⟨a1.trans b1.symm, a2.trans b2.symm, a3.trans b3.symm, ?_, ?_, a6.trans b6.symm, a7.trans b7.symm, a8.trans b8.symm, a9.trans b9.symm, a10.trans b10.symm, a11.trans b11.symm⟩
        · show _ = tFk (uFk _ i none) j
          rw [tFk_uFk, if_neg e, a4, b4]
        · rw [tLk_uLk, if_neg e]
          show _ = tLk (offT T _) j
          rw [a5, b5]

/-! remove(n): the class -/
theorem ClsT.off1 {h : AH} {bs s0 : Nat} {sg : Nat → Nat} {ad : Nat → Nat → Nat → Nat} {T : TS} {i : Nat} (q : ClsT h ad (sg 8) (sg 9) T) (hA : AdOk h bs s0 sg ad) (hi : i < 120) (hu : tIs T i = true) (hc : 1 ≤ tCnt T) : ClsT (pI (pI h 152 (ad 1 i 0) (nI 0)) 352 (sg 8) (gI (pI h 152 (ad 1 i 0) (nI 0)) 352 (sg 8) - nI 1)) ad (sg 8) (sg 9) (uCnt (uIs T i false) (tCnt T - 1)) := by
  obtain ⟨n1, ⟨b1, b2, b3, b4, b5⟩, -⟩ := q.nd hi hu
  have c1 : ClsT (pI h 152 (ad 1 i 0) (nI 0)) ad (sg 8) (sg 9) (uIs T i false) := by
    refine q.up1 (i := i) hA.1 (fun j hj => by rw [tIs_uIs, if_neg hj]) (fun j hj _ => ⟨rfl, rfl, rfl, rfl, rfl, rfl, rfl, rfl, rfl, rfl, rfl⟩) (S := fun a => a = ad 1 i 0) (FrX.pI FrX.rf rfl) (fun a z => ⟨1, 0, z⟩) (fun c j => hA.2.2.1 c i j 9) (fun c j => hA.2.2.1 c i j 8) rfl rfl (Or.inr ⟨n1, ⟨b1, by rw [gI_pI, if_neg (by omega)]; exact b2, b3, b4, b5⟩, by rw [gI_pI, if_pos ⟨rfl, rfl⟩, tIs_uIs, if_pos rfl]; rfl, fun z => by rw [tIs_uIs, if_pos rfl] at z; cases z⟩)
  have e : gI (pI h 152 (ad 1 i 0) (nI 0)) 352 (sg 8) - nI 1 = nI (tCnt T - 1) := by
    rw [gI_pI, if_neg (by omega), q.2.2.2.2.1, nI_sub hc]
  rw [e]
  exact c1.p352 _
/-- NODES are let go, one after the other -/
def mrC (ad : Nat → Nat → Nat → Nat) (tr : Nat) (h : AH) : List Nat → AH
  | [] => h
  | x :: l => mrC ad tr (pI (pI h 152 (ad 1 x 0) (nI 0)) 352 tr (gI (pI h 152 (ad 1 x 0) (nI 0)) 352 tr - nI 1)) l
theorem mrC_app (ad : Nat → Nat → Nat → Nat) (tr : Nat) : ∀ (a b : List Nat) (h : AH), mrC ad tr h (a ++ b) = mrC ad tr (mrC ad tr h a) b := by
  intro a
  induction a with
  | nil => intro b h; rfl
  | cons x a ih => intro b h; exact ih b _
theorem mrC_eq (ad : Nat → Nat → Nat → Nat) (tr : Nat) : ∀ (l : List Nat) (h : AH), gR (mrC ad tr h l) = gR h ∧ gK (mrC ad tr h l) = gK h ∧ gN (mrC ad tr h l) = gN h ∧ gS (mrC ad tr h l) = gS h := by
  intro l
  induction l with
  | nil => intro h; exact ⟨rfl, rfl, rfl, rfl⟩
  | cons x l ih => intro h; exact ih _
theorem mrC_T {bs s0 : Nat} {sg : Nat → Nat} {ad : Nat → Nat → Nat → Nat} : ∀ (l : List Nat) (h : AH) (T : TS), ClsT h ad (sg 8) (sg 9) T → AdOk h bs s0 sg ad → l.Nodup → (∀ x ∈ l, x < 120 ∧ tIs T x = true) → l.length ≤ tCnt T → ClsT (mrC ad (sg 8) h l) ad (sg 8) (sg 9) (offT T l) ∧ FrTB sg h ad (mrC ad (sg 8) h l) ad := by
  intro l
  induction l with
  | nil => intro h T hC _ _ _ _; exact ⟨hC, FrTB.rf⟩
  | cons x l ih =>
    intro h T hC hA hd hm hc
    rw [List.nodup_cons] at hd
    simp only [List.length_cons] at hc
    obtain ⟨hx, hu⟩ := hm x List.mem_cons_self
    have kx := (hC.nd hx hu).2.1.1
    have C1 := hC.off1 hA hx hu (by omega)
    have A1 : AdOk (pI (pI h 152 (ad 1 x 0) (nI 0)) 352 (sg 8) (gI (pI h 152 (ad 1 x 0) (nI 0)) 352 (sg 8) - nI 1)) bs s0 sg ad := hA.eq rfl rfl rfl
    obtain ⟨r1, r2⟩ := ih _ _ C1 A1 hd.2 (fun y hy => ⟨(hm y (List.mem_cons_of_mem _ hy)).1, by
      show tIs (uIs T x false) y = true
      rw [tIs_uIs, if_neg (fun z => hd.1 (by rw [← z]; exact hy))]
      exact (hm y (List.mem_cons_of_mem _ hy)).2⟩) (by show l.length ≤ tCnt T - 1; omega)
    have f1 : FrTB sg h ad (pI (pI h 152 (ad 1 x 0) (nI 0)) 352 (sg 8) (gI (pI h 152 (ad 1 x 0) (nI 0)) 352 (sg 8) - nI 1)) ad := ⟨FrX.pI (FrX.pI FrX.rf (Or.inl ⟨x, hx, 1, 0, rfl, hA.md kx⟩)) (Or.inr (Or.inl rfl)), ExtT.same rfl⟩
    exact ⟨r1, f1.tr r2⟩
def pst (kd : Nat → List Nat) : Nat → Nat → List Nat
  | 0, i => [i]
  | g + 1, i => (kd i).flatMap (pst kd g) ++ [i]
theorem fm_perm {f g : Nat → List Nat} (h : ∀ x, (f x).Perm (g x)) : ∀ l : List Nat, (l.flatMap f).Perm (l.flatMap g) := by
  intro l
  induction l with
  | nil => exact List.Perm.refl _
  | cons x l ih =>
    rw [List.flatMap_cons, List.flatMap_cons]
    exact (h x).append ih
theorem pst_perm (kd : Nat → List Nat) : ∀ (g i : Nat), (pst kd g i).Perm (pre kd g i) := by
  intro g
  induction g with
  | zero => intro i; exact List.Perm.refl _
  | succ g ih =>
    intro i
    unfold pst pre
    exact (List.perm_append_singleton i _).trans ((fm_perm ih (kd i)).cons i)
theorem pst_mem (kd : Nat → List Nat) (g i x : Nat) : x ∈ pst kd g i ↔ x ∈ pre kd g i := (pst_perm kd g i).mem_iff
theorem pst_len (kd : Nat → List Nat) (g i : Nat) : (pst kd g i).length = (pre kd g i).length := (pst_perm kd g i).length_eq
theorem pst_nodup {T : TS} {kd : Nat → List Nat} (w : Wf T kd) (hS : SizT T) {n : Nat} (hu : tIs T n = true) : (pst kd 20 n).Nodup := (pst_perm kd 20 n).nodup_iff.mpr (pre_nodup w hS hu)
/-- class: the links of T, for NODES of S -/
def LnC (h : AH) (ad : Nat → Nat → Nat → Nat) (T : TS) (kd : Nat → List Nat) (S : Nat → Prop) : Prop := ∀ x, S x → gK h (ad 1 x 0) = (4, 0) ∧ gR h 159 (ad 1 x 0) = oN ad (tFk T x) ∧ tIs T x = true ∧ ∀ y ∈ kd x, S y ∧ gR h 158 (ad 1 y 0) = oN ad (tNx T y)
theorem LnC.eq {h h' : AH} {ad : Nat → Nat → Nat → Nat} {T : TS} {kd : Nat → List Nat} {S : Nat → Prop} (q : LnC h ad T kd S) (e1 : gR h' = gR h) (e2 : gK h' = gK h) : LnC h' ad T kd S := by
  unfold LnC
  rw [e1, e2]
  exact q
theorem cls_relLoop {T : TS} {kd : Nat → List Nat} {ad : Nat → Nat → Nat → Nat} {S : Nat → Prop} {tr i lv g : Nat} {rM : Option Nat → Option Nat → Int32 → AH → Option (Unit × AH)} (hi : S i) (hr : ∀ x h, x ∈ kd i → LnC h ad T kd S → gK h tr = (8, 0) → rM (some tr) (some (ad 1 x 0)) (nI (lv + 1)) h = some ((), mrC ad tr h (pst kd g x))) : ∀ (l : List Nat) (b o la : Option Nat) (f : Nat) (h : AH), Lk T l b o la → (∀ x ∈ l, x ∈ kd i) → l.length < f → LnC h ad T kd S → gK h tr = (8, 0) → fX7_release_12 rM f (some tr) (some (ad 1 i 0)) (nI lv) (oN ad o) h = some ((), mrC ad tr h (l.flatMap (pst kd g) ++ [i])) := by
  intro l
  induction l with
  | nil =>
    intro b o la f h hL hm hf hC hk
    obtain ⟨f, rfl⟩ : ∃ g, f = g + 1 := ⟨f - 1, by simp at hf; omega⟩
    have e : o = none := hL.1
    subst e
    obtain ⟨k1, -⟩ := hC i hi
    rw [fX7_release_12]
    simp only [oN_n, ↓reduceIte, fX7_release_32, ↓uPI, ↓uGI, gK_pI, k1, hk, Nat.reduceAdd]
    rfl
  | cons x l ih =>
    intro b o la f h hL hm hf hC hk
    simp only [List.length_cons] at hf
    obtain ⟨f, rfl⟩ : ∃ g, f = g + 1 := ⟨f - 1, by omega⟩
    obtain ⟨rfl, h2, h3⟩ := hL
    have hx := hm x List.mem_cons_self
    obtain ⟨k1, -, -, ky⟩ := hC i hi
    obtain ⟨sx, n158⟩ := ky x hx
    obtain ⟨kx, -⟩ := hC x sx
    have g1 := hr x h hx hC hk
    obtain ⟨e1, e2, -⟩ := mrC_eq ad tr (pst kd g x) h
    have ihh := ih _ _ _ f (mrC ad tr h (pst kd g x)) h3 (fun y hy => hm y (List.mem_cons_of_mem _ hy)) (by omega) (hC.eq e1 e2) (by rw [e2]; exact hk)
    rw [fX7_release_12, List.flatMap_cons, List.append_assoc, mrC_app]
    simp only [oN_s, some_ne, ↓reduceIte, ↓uCV, hk, nI_add, g1, ↓oCL, ↓uGR, e1, e2, kx, n158, Nat.reduceAdd]
    exact ihh
theorem cls_release {T : TS} {kd : Nat → List Nat} {ad : Nat → Nat → Nat → Nat} {S : Nat → Prop} {tr : Nat} (w : Wf T kd) (hS : SizT T) : ∀ (g k i lv : Nat) (h : AH), S i → 20 ≤ tDep T i + g → lv ≤ tDep T i → g < k → LnC h ad T kd S → gK h tr = (8, 0) → fX7_release k (some tr) (some (ad 1 i 0)) (nI lv) h = some ((), mrC ad tr h (pst kd g i)) := by
  intro g
  induction g with
  | zero =>
    intro k i lv h hi hg hl hk hC hK
    obtain ⟨k, rfl⟩ : ∃ g, k = g + 1 := ⟨k - 1, by omega⟩
    obtain ⟨k1, k2, hu, -⟩ := hC i hi
    have hd := (hS.2 i hu).2.2.2.2.2.2.2.2.1
    have hlf := w.leaf hS hu (by omega)
    have hlk := w.lk hu
    rw [hlf] at hlk
    have := cls_relLoop (rM := fX7_release k) (lv := lv) (g := 0) (T := T) (kd := kd) hi (fun x h hx => by rw [hlf] at hx; cases hx) [] none (tFk T i) _ FU h hlk (fun x hx => by cases hx) (by have := FU_ge; simp; omega) hC hK
    rw [fX7_release]
    simp (disch := omega) only [fX7_release_0, leN, show lv ≤ 20 by omega, ↓reduceIte, ↓uGR, k1, k2, Nat.reduceAdd]
    exact this
  | succ g ih =>
    intro k i lv h hi hg hl hk hC hK
    obtain ⟨k, rfl⟩ : ∃ g, k = g + 1 := ⟨k - 1, by omega⟩
    obtain ⟨k1, k2, hu, ky⟩ := hC i hi
    have hd := (hS.2 i hu).2.2.2.2.2.2.2.2.1
    have hlk := w.lk hu
    have := cls_relLoop (rM := fX7_release k) (lv := lv) (g := g) (T := T) (kd := kd) hi (fun x h' hx hC' hK' => by
      have := w.kid hu hx
      exact ih k x (lv + 1) h' (ky x hx).1 (by omega) (by omega) (by omega) hC' hK') (kd i) _ _ _ FU h hlk (fun x hx => hx) (by have := FU_ge; have := w.len hS hu; omega) hC hK
    rw [fX7_release]
    simp (disch := omega) only [fX7_release_0, leN, show lv ≤ 20 by omega, ↓reduceIte, ↓uGR, k1, k2, Nat.reduceAdd]
    exact this
theorem un_ne {T : TS} {kd : Nat → List Nat} (w : Wf T kd) {p n : Nat} (hu : tIs T n = true) (hp : tPar T n = some p) : tBf T n ≠ some n ∧ tNx T n ≠ some n ∧ p ≠ n ∧ (∀ b, tBf T n = some b → b ∈ kd p) ∧ (∀ x, tNx T n = some x → x ∈ kd p) := by
  obtain ⟨hup, hdp, hnp⟩ := w.par hu hp
  have hl := w.lk hup
  obtain ⟨a, b, hab⟩ := List.append_of_mem hnp
  have hnd := (w.2.2.2.2.2.1 p hup).2.1
  have hl2 := hl
  rw [hab] at hl2 hnd
  have h1 : ∀ b, tBf T n = some b → b ∈ kd p := fun x hx => by
    rcases Lk.bf _ _ _ _ hl n hnp x hx with z | z
    · exact z
    · cases z
  have h2 : ∀ x, tNx T n = some x → x ∈ kd p := fun x hx => Lk.nx _ _ _ _ hl n hnp x hx
  have key : ∀ (a : List Nat) (bb o la : Option Nat), Lk T (a ++ n :: b) bb o la → (a ++ n :: b).Nodup → bb ≠ some n → tBf T n ≠ some n ∧ tNx T n ≠ some n := by
    intro a
    induction a with
    | nil =>
      intro bb o la h hd hb
      obtain ⟨h1, h2, h3⟩ := h
      refine ⟨by rw [h2]; exact hb, fun z => ?_⟩
      have := h3.fst z
      simp only [List.nil_append, List.nodup_cons] at hd
      exact hd.1 this
    | cons y a ih =>
      intro bb o la h hd hb
      simp only [List.cons_append, List.nodup_cons] at hd
      exact ih _ _ _ h.2.2 hd.2 (fun z => by cases z; exact hd.1 (List.mem_append_right _ List.mem_cons_self))
  obtain ⟨k1, k2⟩ := key a _ _ _ hl2 hnd (by simp)
  exact ⟨k1, k2, fun z => by rw [z] at hdp; omega, h1, h2⟩
theorem cls_unlink {h : AH} {bs s0 p n : Nat} {sg : Nat → Nat} {ad : Nat → Nat → Nat → Nat} {T : TS} {kd : Nat → List Nat} (hA : AdOk h bs s0 sg ad) (hC : ClsT h ad (sg 8) (sg 9) T) (w : Wf T kd) (hS : SizT T) (hu : tIs T n = true) (hp : tPar T n = some p) : ∃ h1, fX3_unlink (some (ad 1 n 0)) h = some ((), h1) ∧ AdOk h1 bs s0 sg ad ∧ ClsT h1 ad (sg 8) (sg 9) (unT T p n) ∧ FrTB sg h ad h1 ad := by
  obtain ⟨hup, hdp, hnp⟩ := w.par hu hp
  obtain ⟨nb, nn, npn, mb, mx⟩ := un_ne w hu hp
  have hn := hS.lt hu
  have hpl := hS.lt hup
  have kp := (hC.nd hpl hup).2.1.1
  obtain ⟨-, ⟨b1, -⟩, v1, v2, v3, v4, v5, v6, -⟩ := hC.nd hn hu
  rw [hp] at v4
  -- the first half
  have first : ∃ h1, fX3_unlink (some (ad 1 n 0)) h = fX3_unlink_39 (some (ad 1 n 0)) h1 ∧ AdOk h1 bs s0 sg ad ∧ ClsT h1 ad (sg 8) (sg 9) (un1 T p n) ∧ FrTB sg h ad h1 ad := by
    unfold un1
    simp only [fX3_unlink, fX3_unlink_0]
    cases hb : tBf T n with
    | none =>
      rw [hb] at v5
      refine ⟨pR h 159 (ad 1 p 0) (oN ad (tNx T n)), ?_, hA.eq rfl rfl rfl, hC.p159 hA hpl hup _, FrTB.node hA hpl kp (FrX.pR FrX.rf rfl) rfl⟩
      simp only [↓uGR, ↓uPR, b1, v5, v4, v6, oN_n, oN_s, some_ne, ↓reduceIte, kp, Nat.reduceAdd]
    | some b =>
      rw [hb] at v5
      obtain ⟨ub, -⟩ := w.kid hup (mb b hb)
      have hbl := hS.lt ub
      have kb := (hC.nd hbl ub).2.1.1
      refine ⟨pR h 158 (ad 1 b 0) (oN ad (tNx T n)), ?_, hA.eq rfl rfl rfl, hC.p158 hA hbl ub _, FrTB.node hA hbl kb (FrX.pR FrX.rf rfl) rfl⟩
      simp only [↓uGR, ↓uPR, b1, v5, v6, oN_s, some_ne, ↓reduceIte, kb, Nat.reduceAdd]
  obtain ⟨h1, g1, A1, C1, F1⟩ := first
  have vals : tIs (un1 T p n) = tIs T ∧ tBf (un1 T p n) n = tBf T n ∧ tNx (un1 T p n) n = tNx T n ∧ tPar (un1 T p n) n = some p := by
    unfold un1
    cases hb : tBf T n with
    | none => exact ⟨rfl, hb, rfl, hp⟩
    | some b => exact ⟨rfl, hb, by rw [tNx_uNx, if_neg (fun z => nb (by rw [hb, ← z]))], hp⟩
  obtain ⟨e1, e2, e3, e4⟩ := vals
  obtain ⟨-, ⟨b1', -⟩, -, -, -, u4, u5, u6, -⟩ := C1.nd hn (by rw [e1]; exact hu)
  rw [e4] at u4
  rw [e2] at u5
  rw [e3] at u6
  have kp' := (C1.nd hpl (by rw [e1]; exact hup)).2.1.1
  rw [g1]
  simp only [fX3_unlink_39, fX3_unlink_78]
  unfold unT un2
  cases hx : tNx T n with
  | none =>
    rw [hx] at u6
    refine ⟨pR h1 160 (ad 1 p 0) (oN ad (tBf T n)), ?_, A1.eq rfl rfl rfl, C1.p160 A1 hpl (by rw [e1]; exact hup) _, F1.tr (FrTB.node A1 hpl kp' (FrX.pR FrX.rf rfl) rfl)⟩
    simp only [↓uGR, ↓uPR, b1', u4, u5, u6, oN_n, oN_s, some_ne, ↓reduceIte, kp', Nat.reduceAdd]
  | some x =>
    rw [hx] at u6
    obtain ⟨ux, -⟩ := w.kid hup (mx x hx)
    have hxl := hS.lt ux
    have kx := (C1.nd hxl (by rw [e1]; exact ux)).2.1.1
    refine ⟨pR h1 157 (ad 1 x 0) (oN ad (tBf T n)), ?_, A1.eq rfl rfl rfl, C1.p157 A1 hxl (by rw [e1]; exact ux) _, F1.tr (FrTB.node A1 hxl kx (FrX.pR FrX.rf rfl) rfl)⟩
    simp only [↓uGR, ↓uPR, b1', u5, u6, oN_s, some_ne, ↓reduceIte, kx, Nat.reduceAdd]
theorem off_teq {T : TS} {a b : List Nat} (hm : ∀ x, x ∈ a ↔ x ∈ b) (hl : a.length = b.length) : TEq (offT T a) (offT T b) := by
  obtain ⟨a1, a2, a3⟩ := off_vals a T
  obtain ⟨b1, b2, b3⟩ := off_vals b T
  refine ⟨fun i => ?_, by rw [a3, b3, hl], fun i _ => ?_⟩
  · rw [a1, b1]
    by_cases z : i ∈ a
    · rw [if_pos z, if_pos ((hm i).mp z)]
    · rw [if_neg z, if_neg (fun y => z ((hm i).mpr y))]
  · obtain ⟨p1, p2, p3, p4, p5, p6, p7, p8, p9, p10, p11⟩ := a2 i
    obtain ⟨q1, q2, q3, q4, q5, q6, q7, q8, q9, q10, q11⟩ := b2 i
    exact ⟨by rw [p1, q1], by rw [p2, q2], by rw [p3, q3], by rw [p4, q4], by rw [p5, q5], by rw [p6, q6], by rw [p7, q7], by rw [p8, q8], by rw [p9, q9], by rw [p10, q10], by rw [p11, q11]⟩
theorem Wf.cntle {T : TS} {kd : Nat → List Nat} (w : Wf T kd) (hS : SizT T) {l : List Nat} (hd : l.Nodup) (hm : ∀ x ∈ l, tIs T x = true) : l.length ≤ tCnt T := by
  have hle : ∀ (l : List Nat), l.Nodup → (∀ x ∈ l, x < 120 ∧ tIs T x = true) → cnU (fun j => if j ∈ l then false else tIs T j) 120 + l.length = cnU (tIs T) 120 := by
    intro l
    induction l with
    | nil => intro _ _; simp
    | cons x l ih =>
      intro hd hm
      rw [List.nodup_cons] at hd
      have h1 := ih hd.2 (fun y hy => hm y (List.mem_cons_of_mem _ hy))
      have h2 := cnU_dn (f := fun j => if j ∈ l then false else tIs T j) (n := x) (by rw [if_neg hd.1]; exact (hm x List.mem_cons_self).2) 120 (hm x List.mem_cons_self).1
      have e : cnU (up (fun j => if j ∈ l then false else tIs T j) x false) 120 = cnU (fun j => if j ∈ x :: l then false else tIs T j) 120 := by
        refine cnU_eq 120 (fun i _ => ?_)
        unfold up
        by_cases e1 : i = x
        · rw [if_pos e1, if_pos (by rw [e1]; exact List.mem_cons_self)]
        · rw [if_neg e1]
          show (if i ∈ l then false else tIs T i) = _
          by_cases e2 : i ∈ l
          · rw [if_pos e2, if_pos (List.mem_cons_of_mem _ e2)]
          · rw [if_neg e2, if_neg (fun z => by rcases List.mem_cons.mp z with y | y; · exact e1 y
                                               · exact e2 y)]
      rw [← e, List.length_cons]
      omega
  have := hle l hd (fun x hx => ⟨hS.lt (hm x hx), hm x hx⟩)
  rw [w.2.2.2.2.2.2.2.2]
  omega
theorem cls_drop {h : AH} {bs s0 p n : Nat} {sg : Nat → Nat} {ad : Nat → Nat → Nat → Nat} {T : TS} {kd : Nat → List Nat} (hA : AdOk h bs s0 sg ad) (hC : ClsT h ad (sg 8) (sg 9) T) (w : Wf T kd) (hS : SizT T) (hu : tIs T n = true) (hp : tPar T n = some p) : ∃ h1, fX7_drop (some (sg 8)) (some (ad 1 n 0)) h = some ((), h1) ∧ AdOk h1 bs s0 sg ad ∧ ClsT h1 ad (sg 8) (sg 9) (rmT T p n (pre kd 20 n)) ∧ FrTB sg h ad h1 ad := by
  obtain ⟨h1, g1, A1, C1, F1⟩ := cls_unlink hA hC w hS hu hp
  obtain ⟨hup, hdp, hnp⟩ := w.par hu hp
  obtain ⟨nb, nn, npn, mb, mx⟩ := un_ne w hu hp
  have hn := hS.lt hu
  have U := un_vals T p n
  have pm := pre_mem w 20 n hu
  have pc := pre_closed w hS 20 n hu (by omega)
  have hpl : p ∉ pre kd 20 n := fun z => by have := (pm p z).2.1; omega
  have is1 : ∀ x, tIs T x = true → tIs (unT T p n) x = true := fun x hx => by rw [(U x).2.2.2.2.1]; exact hx
  have L1 : LnC h1 ad T kd (fun x => x ∈ pre kd 20 n) := fun x hx => by
    have ux := (pm x hx).1
    obtain ⟨-, ⟨d1, -⟩, -, -, -, -, -, -, v7, -⟩ := C1.nd (hS.lt ux) (is1 x ux)
    rw [(U x).2.2.1, if_neg (fun z => hpl (by rw [← z.1]; exact hx))] at v7
    refine ⟨d1, v7, ux, fun y hy => ⟨pc x hx y hy, ?_⟩⟩
    obtain ⟨uy, py, -⟩ := w.kid ux hy
    obtain ⟨-, -, -, -, -, -, -, v6, -⟩ := C1.nd (hS.lt uy) (is1 y uy)
    rw [(U y).1, if_neg (fun z => by
      have := (w.kid hup (mb y z)).2.1
      rw [py] at this
      cases this
      exact hpl hx)] at v6
    exact v6
  have g2 := cls_release w hS 20 25 n 0 h1 (pre_self kd 20 n) (by omega) (by omega) (by omega) L1 C1.1
  have pnd := pst_nodup w hS hu
  have pin : ∀ x ∈ pst kd 20 n, x < 120 ∧ tIs (unT T p n) x = true := fun x hx => by
    have ux := (pm x ((pst_mem kd 20 n x).mp hx)).1
    exact ⟨hS.lt ux, is1 x ux⟩
  have ple : (pst kd 20 n).length ≤ tCnt (unT T p n) := by
    rw [(U 0).2.2.2.2.2.2.2.2.2.2.2.2]
    exact w.cntle hS pnd (fun x hx => (pm x ((pst_mem kd 20 n x).mp hx)).1)
  obtain ⟨C2, F2⟩ := mrC_T (pst kd 20 n) h1 _ C1 A1 pnd pin ple
  obtain ⟨e1, e2, e3, e4⟩ := mrC_eq ad (sg 8) (pst kd 20 n) h1
  have kn := (hC.nd hn hu).2.1.1
  refine ⟨mrC ad (sg 8) h1 (pst kd 20 n), ?_, A1.eq e3 e4 e2, C2.teq (off_teq (pst_mem kd 20 n) (pst_len kd 20 n)), F1.tr F2⟩
  simp only [fX7_drop, fX7_drop_0, ↓uCV, kn, g1, ↓oCL, C1.1, g2, ↓reduceIte, Nat.reduceAdd]
def rmV (T : TS) (v : Int32) : Option (Nat × Nat) := match nAt T v with
  | none => none
  | some n => (tPar T n).map (fun p => (p, n))
/-- remove(n): its answer, and the TREE -/
def rvV (T : TS) (kd : Nat → List Nat) (v : Int32) : Int32 := match rmV T v with
  | none => -1
  | some q => nI (tCnt T - (pre kd 20 q.2).length)
def rvT (T : TS) (kd : Nat → List Nat) (v : Int32) : TS := match rmV T v with
  | none => T
  | some q => rmT T q.1 q.2 (pre kd 20 q.2)
theorem cls_remove {h : AH} {bs s0 : Nat} {sg : Nat → Nat} {ad : Nat → Nat → Nat → Nat} {T : TS} {kd : Nat → List Nat} (hA : AdOk h bs s0 sg ad) (hcb : CB h (sg 0) (sg 1) (sg 3) (sg 5) (sg 8) (sg 10)) (hC : ClsT h ad (sg 8) (sg 9) T) (w : Wf T kd) (hS : SizT T) (v : Int32) : ∃ h1, fX8_remove (some (sg 0)) v h = some (rvV T kd v, h1) ∧ AdOk h1 bs s0 sg ad ∧ ClsT h1 ad (sg 8) (sg 9) (rvT T kd v) ∧ FrTB sg h ad h1 ad := by
  obtain ⟨c1, -, -, -, c2, -⟩ := id hcb
  simp only [fX8_remove, fX8_remove_0, fX8_remove_20]
  simp only [↓uGR, ↓uCV, c1, c2, hC.1, cls_nodeAt hC, ↓oCL, ↓reduceIte, Nat.reduceAdd]
  unfold rvV rvT rmV
  cases hn : nAt T v with
  | none => exact ⟨h, by simp only [oN_n, ↓reduceIte], hA, hC, FrTB.rf⟩
  | some n =>
    obtain ⟨hnl, hu, rfl⟩ := nAt_some hn
    obtain ⟨-, ⟨b1, -⟩, v1, v2, v3, v4, -⟩ := hC.nd hnl hu
    simp only [oN_s, some_ne, ↓reduceIte, ↓uGR, b1, v4, Nat.reduceAdd]
    cases hp : tPar T n with
    | none => exact ⟨h, by simp only [oN_n, ↓reduceIte, Option.map_none], hA, hC, FrTB.rf⟩
    | some p =>
      obtain ⟨h1, g1, A1, C1, F1⟩ := cls_drop hA hC w hS hu hp
      have D1 := F1.cb A1 hcb
      have c5 : gI h1 352 (sg 8) = nI (tCnt T - (pre kd 20 n).length) := by
        have e : tCnt (rmT T p n (pre kd 20 n)) = tCnt T - (pre kd 20 n).length := by
          show tCnt (offT _ _) = _
          rw [(off_vals _ _).2.2, (un_vals T p n 0).2.2.2.2.2.2.2.2.2.2.2.2]
        rw [← e]
        exact C1.2.2.2.2.1
      refine ⟨h1, ?_, A1, C1, F1⟩
      simp only [oN_s, some_ne, ↓reduceIte, ↓uGR, ↓uCV, ↓uGI, c1, c2, hC.1, g1, ↓oCL, D1.1, D1.2.2.2.2.1, C1.1, c5, Nat.reduceAdd, Option.map_some]

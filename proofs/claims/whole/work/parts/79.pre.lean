/-! walks through THE TREE -/
def pre (kd : Nat → List Nat) : Nat → Nat → List Nat
  | 0, i => [i]
  | g + 1, i => i :: (kd i).flatMap (pre kd g)
/-- a walk along f, from o through l to c -/
def Seg (f : Nat → Option Nat) : Option Nat → List Nat → Option Nat → Prop
  | o, [], c => o = c
  | o, x :: l, c => o = some x ∧ Seg f (f x) l c
theorem Seg.app {f : Nat → Option Nat} : ∀ (a b : List Nat) (o c d : Option Nat), Seg f o a c → Seg f c b d → Seg f o (a ++ b) d := by
  intro a
  induction a with
  | nil => intro b o c d h1 h2; have e : o = c := h1; rw [e]; exact h2
  | cons x a ih => intro b o c d h1 h2; exact ⟨h1.1, ih b _ _ _ h1.2 h2⟩
theorem Seg.det {f : Nat → Option Nat} : ∀ (a b : List Nat) (o : Option Nat), Seg f o a none → Seg f o b none → a = b := by
  intro a
  induction a with
  | nil =>
    intro b o h1 h2
    have e : o = none := h1
    cases b with
    | nil => rfl
    | cons y b => rw [e] at h2; cases h2.1
  | cons x a ih =>
    intro b o h1 h2
    cases b with
    | nil => have e : o = none := h2; rw [e] at h1; cases h1.1
    | cons y b =>
      have e : x = y := by have := h1.1.symm.trans h2.1; cases this; rfl
      subst e
      rw [ih b _ h1.2 h2.2]
theorem Seg.suf {f : Nat → Option Nat} : ∀ (a b : List Nat) (x : Nat) (o c : Option Nat), Seg f o (a ++ x :: b) c → Seg f (some x) (x :: b) c := by
  intro a
  induction a with
  | nil => intro b x o c h; exact ⟨rfl, h.2⟩
  | cons y a ih => intro b x o c h; exact ih b x _ _ h.2
theorem Seg.nodup {f : Nat → Option Nat} : ∀ (l : List Nat) (o : Option Nat), Seg f o l none → l.Nodup := by
  intro l
  induction l with
  | nil => intro o _; exact List.nodup_nil
  | cons x l ih =>
    intro o h
    rw [List.nodup_cons]
    refine ⟨fun hx => ?_, ih _ h.2⟩
    obtain ⟨a, b, e⟩ := List.append_of_mem hx
    have h1 : Seg f (some x) (x :: b) none := by
      have := h.2
      rw [e] at this
      exact Seg.suf a b x _ _ this
    have h2 : Seg f (some x) (x :: l) none := ⟨rfl, h.2⟩
    have := congrArg List.length (Seg.det _ _ _ h1 h2)
    rw [e] at this
    simp at this
    omega
/-- what comes behind a NODE and all in it, up to top -/
def bhF (T : TS) (top : Nat) : Nat → Nat → Option Nat
  | 0, _ => none
  | e + 1, k => if k = top then none else match tNx T k with
    | some x => some x
    | none => match tPar T k with
      | none => none
      | some p => bhF T top e p
def bhT (T : TS) (top k : Nat) : Option Nat := bhF T top (tDep T k + 1) k
def aftT (T : TS) (top k : Nat) : Option Nat := match tFk T k with
  | some x => some x
  | none => bhT T top k
theorem bhT_top (T : TS) (top : Nat) : bhT T top top = none := by unfold bhT bhF; rw [if_pos rfl]
theorem bhT_kid {T : TS} {top x i : Nat} (hx : x ≠ top) (hp : tPar T x = some i) (hd : tDep T x = tDep T i + 1) : bhT T top x = match tNx T x with
    | some y => some y
    | none => bhT T top i := by
  unfold bhT
  rw [hd, bhF, if_neg hx, hp]
theorem seg_kids {T : TS} {kd : Nat → List Nat} {top i g : Nat} (hA : ∀ x ∈ kd i, Seg (aftT T top) (some x) (pre kd g x) (bhT T top x)) (hne : ∀ x ∈ kd i, x ≠ top ∧ tPar T x = some i ∧ tDep T x = tDep T i + 1) : ∀ (l : List Nat) (b o la : Option Nat), Lk T l b o la → (∀ x ∈ l, x ∈ kd i) → l ≠ [] → Seg (aftT T top) o (l.flatMap (pre kd g)) (bhT T top i) := by
  intro l
  induction l with
  | nil => intro b o la _ _ h; exact absurd rfl h
  | cons x l ih =>
    intro b o la hL hm _
    obtain ⟨h1, h2, h3⟩ := hL
    have hx := hm x List.mem_cons_self
    obtain ⟨n1, n2, n3⟩ := hne x hx
    have hb := bhT_kid n1 n2 n3
    have s1 := hA x hx
    rw [List.flatMap_cons, h1]
    cases l with
    | nil =>
      have e : tNx T x = none := h3.1
      rw [e] at hb
      rw [List.flatMap_nil, List.append_nil]
      rw [hb] at s1
      exact s1
    | cons y l =>
      have e : tNx T x = some y := h3.1
      rw [e] at hb
      rw [hb] at s1
      refine Seg.app _ _ _ _ _ s1 ?_
      have := ih _ _ _ h3 (fun z hz => hm z (List.mem_cons_of_mem _ hz)) (by simp)
      rw [e] at this
      exact this
theorem Wf.kid {T : TS} {kd : Nat → List Nat} (w : Wf T kd) {i : Nat} (hu : tIs T i = true) {x : Nat} (hx : x ∈ kd i) : tIs T x = true ∧ tPar T x = some i ∧ tDep T x = tDep T i + 1 := (w.2.2.2.2.2.1 i hu).2.2 x hx
theorem Wf.lk {T : TS} {kd : Nat → List Nat} (w : Wf T kd) {i : Nat} (hu : tIs T i = true) : Lk T (kd i) none (tFk T i) (tLk T i) := (w.2.2.2.2.2.1 i hu).1
theorem Wf.leaf {T : TS} {kd : Nat → List Nat} (w : Wf T kd) (hS : SizT T) {i : Nat} (hu : tIs T i = true) (hd : 20 ≤ tDep T i) : kd i = [] := by
  cases h : kd i with
  | nil => rfl
  | cons x l =>
    have hx : x ∈ kd i := by rw [h]; exact List.mem_cons_self
    obtain ⟨k1, k2, k3⟩ := w.kid hu hx
    have := (hS.2 x k1).2.2.2.2.2.2.2.2.1
    omega
theorem seg_pre {T : TS} {kd : Nat → List Nat} (w : Wf T kd) (hS : SizT T) {top : Nat} : ∀ (g i : Nat), tIs T i = true → tDep T top ≤ tDep T i → 20 ≤ tDep T i + g → Seg (aftT T top) (some i) (pre kd g i) (bhT T top i) := by
  intro g
  induction g with
  | zero =>
    intro i hu ht hg
    have e := w.leaf hS hu (by omega)
    have hl := w.lk hu
    rw [e] at hl
    refine ⟨rfl, ?_⟩
    show aftT T top i = bhT T top i
    unfold aftT
    rw [hl.1]
  | succ g ih =>
    intro i hu ht hg
    refine ⟨rfl, ?_⟩
    have hl := w.lk hu
    by_cases e : kd i = []
    · rw [e] at hl ⊢
      show aftT T top i = bhT T top i
      unfold aftT
      rw [hl.1]
    · have hk : ∀ x ∈ kd i, x ≠ top ∧ tPar T x = some i ∧ tDep T x = tDep T i + 1 := fun x hx => by
        obtain ⟨k1, k2, k3⟩ := w.kid hu hx
        exact ⟨fun z => by rw [z] at k3; omega, k2, k3⟩
      have := seg_kids (top := top) (g := g) (fun x hx => by
        obtain ⟨k1, k2, k3⟩ := w.kid hu hx
        exact ih x k1 (by omega) (by omega)) hk (kd i) _ _ _ hl (fun x hx => hx) e
      have ea : aftT T top i = tFk T i := by
        unfold aftT
        cases hf : kd i with
        | nil => exact absurd hf e
        | cons x l =>
          rw [hf] at hl
          rw [hl.1]
      rw [ea]
      exact this
theorem pre_mem {T : TS} {kd : Nat → List Nat} (w : Wf T kd) : ∀ (g i : Nat), tIs T i = true → ∀ x ∈ pre kd g i, tIs T x = true ∧ tDep T i ≤ tDep T x ∧ (x ≠ i → ∃ p, p ∈ pre kd g i ∧ x ∈ kd p) := by
  intro g
  induction g with
  | zero =>
    intro i hu x hx
    have e : x = i := List.mem_singleton.mp hx
    rw [e]
    exact ⟨hu, Nat.le_refl _, fun z => absurd rfl z⟩
  | succ g ih =>
    intro i hu x hx
    rcases List.mem_cons.mp hx with e | e
    · rw [e]
      exact ⟨hu, Nat.le_refl _, fun z => absurd rfl z⟩
    · obtain ⟨y, hy, hxy⟩ := List.mem_flatMap.mp e
      obtain ⟨k1, k2, k3⟩ := w.kid hu hy
      obtain ⟨a1, a2, a3⟩ := ih y k1 x hxy
      refine ⟨a1, by omega, fun _ => ?_⟩
      by_cases ex : x = y
      · exact ⟨i, List.mem_cons_self, by rw [ex]; exact hy⟩
      · obtain ⟨p, p1, p2⟩ := a3 ex
        exact ⟨p, List.mem_cons_of_mem _ (List.mem_flatMap.mpr ⟨y, hy, p1⟩), p2⟩
theorem pre_closed {T : TS} {kd : Nat → List Nat} (w : Wf T kd) (hS : SizT T) : ∀ (g i : Nat), tIs T i = true → 20 ≤ tDep T i + g → ∀ x ∈ pre kd g i, ∀ y ∈ kd x, y ∈ pre kd g i := by
  intro g
  induction g with
  | zero =>
    intro i hu hg x hx y hy
    have e : x = i := List.mem_singleton.mp hx
    rw [e, w.leaf hS hu (by omega)] at hy
    cases hy
  | succ g ih =>
    intro i hu hg x hx y hy
    rcases List.mem_cons.mp hx with e | e
    · rw [e] at hy
      refine List.mem_cons_of_mem _ (List.mem_flatMap.mpr ⟨y, hy, ?_⟩)
      cases g with
      | zero => exact List.mem_singleton.mpr rfl
      | succ g => exact List.mem_cons_self
    · obtain ⟨z, hz, hxz⟩ := List.mem_flatMap.mp e
      obtain ⟨k1, k2, k3⟩ := w.kid hu hz
      exact List.mem_cons_of_mem _ (List.mem_flatMap.mpr ⟨z, hz, ih z k1 (by omega) x hxz y hy⟩)
theorem pre_self (kd : Nat → List Nat) (g i : Nat) : i ∈ pre kd g i := by
  cases g with
  | zero => exact List.mem_singleton.mpr rfl
  | succ g => exact List.mem_cons_self
theorem seg_top {T : TS} {kd : Nat → List Nat} (w : Wf T kd) (hS : SizT T) {top : Nat} (hu : tIs T top = true) : Seg (aftT T top) (some top) (pre kd 20 top) none := by
  have := seg_pre w hS (top := top) 20 top hu (Nat.le_refl _) (by omega)
  rw [bhT_top] at this
  exact this
theorem pre_nodup {T : TS} {kd : Nat → List Nat} (w : Wf T kd) (hS : SizT T) {top : Nat} (hu : tIs T top = true) : (pre kd 20 top).Nodup := Seg.nodup _ _ (seg_top w hS hu)
theorem pre_len {T : TS} {kd : Nat → List Nat} (w : Wf T kd) (hS : SizT T) {top : Nat} (hu : tIs T top = true) : (pre kd 20 top).length ≤ 120 := nodup_le 120 _ (pre_nodup w hS hu) (fun x hx => hS.lt (pre_mem w 20 top hu x hx).1)
/-- top is above k, or k itself -/
def Anc (T : TS) (top : Nat) : Nat → Nat → Prop
  | 0, k => k = top
  | e + 1, k => k = top ∨ ∃ p, tPar T k = some p ∧ tIs T p = true ∧ Anc T top e p
theorem Anc.more {T : TS} {top : Nat} : ∀ (e k : Nat), Anc T top e k → Anc T top (e + 1) k := by
  intro e
  induction e with
  | zero => intro k h; exact Or.inl h
  | succ e ih =>
    intro k h
    rcases h with h | ⟨p, h1, h2, h3⟩
    · exact Or.inl h
    · exact Or.inr ⟨p, h1, h2, ih p h3⟩
theorem anc_root {T : TS} {kd : Nat → List Nat} (w : Wf T kd) : ∀ (e k : Nat), tIs T k = true → tDep T k ≤ e → Anc T 0 e k := by
  intro e
  induction e with
  | zero =>
    intro k hu hd
    by_cases h0 : k = 0
    · exact h0
    · obtain ⟨p, p1, p2, p3⟩ := w.2.2.2.2.2.2.1 k hu h0
      have := (w.kid p1 p3).2.2
      omega
  | succ e ih =>
    intro k hu hd
    by_cases h0 : k = 0
    · exact Or.inl h0
    · obtain ⟨p, p1, p2, p3⟩ := w.2.2.2.2.2.2.1 k hu h0
      have := (w.kid p1 p3).2.2
      exact Or.inr ⟨p, p2, p1, ih p p1 (by omega)⟩
theorem anc_pre {T : TS} {kd : Nat → List Nat} (w : Wf T kd) {top : Nat} (hut : tIs T top = true) : ∀ (e k : Nat), k ∈ pre kd 20 top → tDep T k ≤ tDep T top + e → Anc T top e k := by
  intro e
  induction e with
  | zero =>
    intro k hk hd
    by_cases h0 : k = top
    · exact h0
    · obtain ⟨a1, a2, a3⟩ := pre_mem w 20 top hut k hk
      obtain ⟨p, p1, p2⟩ := a3 h0
      obtain ⟨b1, b2, -⟩ := pre_mem w 20 top hut p p1
      have := (w.kid b1 p2).2.2
      omega
  | succ e ih =>
    intro k hk hd
    by_cases h0 : k = top
    · exact Or.inl h0
    · obtain ⟨a1, a2, a3⟩ := pre_mem w 20 top hut k hk
      obtain ⟨p, p1, p2⟩ := a3 h0
      obtain ⟨b1, b2, -⟩ := pre_mem w 20 top hut p p1
      have k3 := w.kid b1 p2
      exact Or.inr ⟨p, k3.2.1, b1, ih p p1 (by omega)⟩

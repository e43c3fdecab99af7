/-! where all lies at the start; what holds there -/
def plT : List (Option Nat) := [some 0, some 1, some 2, some 3, some 4, some 5, some 6, some 7, some 8, some 9, some 13, some 16, some 17, some 18, some 19, none, some 20, none, some 21, none, some 22, some 23, some 24, some 25, some 26, some 27, some 28, some 29, some 30, some 31, some 32, some 33, some 34, some 35, some 36, some 37, some 38, some 39, some 40, none, none, some 41, some 42, some 43, none, some 44, none, none, some 45, none, none, some 46, some 47, some 48, some 49, none, some 50, some 51, some 52]
def plF (b k : Nat) : Nat := match plT.getD k none with
  | some o => b + o
  | none => b + 3000 + (2 * k + 1)
def prN (x y : Nat) : Nat := (x + y) * (x + y) + x
theorem prN_inj {x y x' y' : Nat} (h : prN x y = prN x' y') : x = x' ∧ y = y' := by
  unfold prN at h
  have key : ∀ s t x x' : Nat, x ≤ s → s < t → s * s + x < t * t + x' := by
    intro s t x x' h1 h2
    have h3 : (s + 1) * (s + 1) ≤ t * t := Nat.mul_le_mul h2 h2
    have h4 : (s + 1) * (s + 1) = s * s + 2 * s + 1 := by rw [Nat.add_mul, Nat.mul_add, Nat.mul_one, Nat.one_mul]; omega
    omega
  rcases Nat.lt_trichotomy (x + y) (x' + y') with z | z | z
  · have := key _ _ x x' (by omega) z; omega
  · rw [z] at h; omega
  · have := key _ _ x' x (by omega) z; omega
def adO (c i j : Nat) : Option Nat := if c = 1 ∧ i = 0 ∧ j = 0 then some 10 else if c = 2 ∧ i = 0 ∧ j = 0 then some 11 else if c = 3 ∧ i = 0 ∧ j = 0 then some 12 else if c = 2 ∧ i = 120 ∧ j = 0 then some 14 else if c = 3 ∧ i = 120 ∧ j = 0 then some 15 else none
def adF (b c i j : Nat) : Nat := match adO c i j with
  | some o => b + o
  | none => b + 3000 + 2 * prN c (prN i j)
theorem adO_some {c i j o : Nat} (h : adO c i j = some o) : (o = 10 ∧ c = 1 ∧ i = 0 ∧ j = 0) ∨ (o = 11 ∧ c = 2 ∧ i = 0 ∧ j = 0) ∨ (o = 12 ∧ c = 3 ∧ i = 0 ∧ j = 0) ∨ (o = 14 ∧ c = 2 ∧ i = 120 ∧ j = 0) ∨ (o = 15 ∧ c = 3 ∧ i = 120 ∧ j = 0) := by
  unfold adO at h
  repeat' split at h
  all_goals first
    | (cases h; omega)
    | cases h
theorem plT_1 : ∀ k, k < 59 → ∀ j, j < 59 → plT.getD k none = plT.getD j none → plT.getD k none ≠ none → k = j := by decide +kernel
theorem plT_2 : ∀ k, k < 59 → ∀ o, plT.getD k none = some o → o < 53 ∧ o ≠ 10 ∧ o ≠ 11 ∧ o ≠ 12 ∧ o ≠ 14 ∧ o ≠ 15 := by
  intro k hk o ho
  have h : ∀ k, k < 59 → (match plT.getD k none with | some o => decide (o < 53 ∧ o ≠ 10 ∧ o ≠ 11 ∧ o ≠ 12 ∧ o ≠ 14 ∧ o ≠ 15) | none => true) = true := by decide +kernel
  have := h k hk
  rw [ho] at this
  simpa using this
theorem plT_3 : ∀ o, o < 53 → (o = 10 ∨ o = 11 ∨ o = 12 ∨ o = 14 ∨ o = 15) ∨ ∃ k, k < 59 ∧ plT.getD k none = some o := by
  have h : ∀ o, o < 53 → (decide (o = 10 ∨ o = 11 ∨ o = 12 ∨ o = 14 ∨ o = 15) || (List.range 59).any (fun k => plT.getD k none == some o)) = true := by decide +kernel
  intro o ho
  have := h o ho
  rw [Bool.or_eq_true] at this
  rcases this with z | z
  · exact Or.inl (by simpa using z)
  · obtain ⟨k, hk, e⟩ := List.any_eq_true.mp z
    exact Or.inr ⟨k, List.mem_range.mp hk, by simpa using e⟩
theorem plT_out {k : Nat} (h : 59 ≤ k) : plT.getD k none = none := by
  rw [List.getD_eq_getElem?_getD, List.getElem?_eq_none (by show plT.length ≤ k; exact h)]
  rfl
theorem plT_lt {k o : Nat} (h : plT.getD k none = some o) : k < 59 := by
  rcases Nat.lt_or_ge k 59 with z | z
  · exact z
  · rw [plT_out z] at h; cases h
theorem plF_s {b k o : Nat} (h : plT.getD k none = some o) : plF b k = b + o := by unfold plF; rw [h]
theorem plF_n {b k : Nat} (h : plT.getD k none = none) : plF b k = b + 3000 + (2 * k + 1) := by unfold plF; rw [h]
theorem adF_s {b c i j o : Nat} (h : adO c i j = some o) : adF b c i j = b + o := by unfold adF; rw [h]
theorem adF_n {b c i j : Nat} (h : adO c i j = none) : adF b c i j = b + 3000 + 2 * prN c (prN i j) := by unfold adF; rw [h]
theorem plF_inj (b j k : Nat) : plF b j = plF b k ↔ j = k := by
  refine ⟨fun h => ?_, fun h => by rw [h]⟩
  cases hj : plT.getD j none with
  | none =>
    rw [plF_n hj] at h
    cases hk : plT.getD k none with
    | none => rw [plF_n hk] at h; omega
    | some o => rw [plF_s hk] at h; have := plT_2 k (plT_lt hk) o hk; omega
  | some o =>
    rw [plF_s hj] at h
    have h1 := plT_2 j (plT_lt hj) o hj
    cases hk : plT.getD k none with
    | none => rw [plF_n hk] at h; omega
    | some o' =>
      rw [plF_s hk] at h
      have e : o = o' := by omega
      subst e
      exact plT_1 j (plT_lt hj) k (plT_lt hk) (by rw [hj, hk]) (by rw [hj]; simp)
theorem adF_inj (b : Nat) : Inj3 (adF b) := by
  intro c i j c' i' j'
  refine ⟨fun h => ?_, fun h => by rw [h.1, h.2.1, h.2.2]⟩
  cases h1 : adO c i j with
  | none =>
    rw [adF_n h1] at h
    cases h2 : adO c' i' j' with
    | none =>
      rw [adF_n h2] at h
      have a := prN_inj (show prN c (prN i j) = prN c' (prN i' j') by omega)
      have d := prN_inj a.2
      exact ⟨a.1, d.1, d.2⟩
    | some o => rw [adF_s h2] at h; have := adO_some h2; omega
  | some o =>
    rw [adF_s h1] at h
    have a := adO_some h1
    cases h2 : adO c' i' j' with
    | none => rw [adF_n h2] at h; omega
    | some o' =>
      rw [adF_s h2] at h
      have d := adO_some h2
      have e : o = o' := by omega
      subst e
      omega
theorem adF_plF (b c i j k : Nat) : adF b c i j ≠ plF b k := by
  intro h
  cases h1 : adO c i j with
  | none =>
    rw [adF_n h1] at h
    cases hk : plT.getD k none with
    | none => rw [plF_n hk] at h; omega
    | some o => rw [plF_s hk] at h; have := plT_2 k (plT_lt hk) o hk; omega
  | some o =>
    rw [adF_s h1] at h
    have a := adO_some h1
    cases hk : plT.getD k none with
    | none => rw [plF_n hk] at h; omega
    | some o' => rw [plF_s hk] at h; have := plT_2 k (plT_lt hk) o' hk; omega
theorem AdOk.new {h : AH} {b : Nat} (hN : gN h = b + 53) (hK : ∀ a, b + 53 ≤ a → gK h a = (0, 0)) : AdOk h b (gS h) (plF b) (adF b) := by
  refine ⟨adF_inj b, plF_inj b, adF_plF b, fun c i j => ?_, fun k => ?_, fun a h1 h2 => ?_, by omega, by omega, fun a ha => by rw [hK a (by omega)]⟩
  · cases h1 : adO c i j with
    | none => rw [adF_n h1]; exact Or.inr (by omega)
    | some o => rw [adF_s h1, hN]; have := adO_some h1; exact Or.inl (by omega)
  · cases hk : plT.getD k none with
    | none => rw [plF_n hk]; exact Or.inr (by omega)
    | some o => rw [plF_s hk, hN]; have := plT_2 k (plT_lt hk) o hk; exact Or.inl (by omega)
  · rcases plT_3 (a - b) (by omega) with z | ⟨k, hk, e⟩
    · rcases z with z | z | z | z | z
      · exact Or.inl ⟨1, 0, 0, by omega, by omega, by omega, by omega, by rw [adF_s (o := 10) rfl]; omega⟩
      · exact Or.inl ⟨2, 0, 0, by omega, by omega, by omega, by omega, by rw [adF_s (o := 11) rfl]; omega⟩
      · exact Or.inl ⟨3, 0, 0, by omega, by omega, by omega, by omega, by rw [adF_s (o := 12) rfl]; omega⟩
      · exact Or.inl ⟨2, 120, 0, by omega, by omega, by omega, by omega, by rw [adF_s (o := 14) rfl]; omega⟩
      · exact Or.inl ⟨3, 120, 0, by omega, by omega, by omega, by omega, by rw [adF_s (o := 15) rfl]; omega⟩
    · exact Or.inr ⟨k, by omega, by rw [plF_s e]; omega⟩
theorem adF_far {b c i j N : Nat} (h : adO c i j = none) (hN : N ≤ b + 3000) : N ≤ adF b c i j := by rw [adF_n h]; omega
def Te : TS := (fun _ => false, fun _ => 0, fun _ => [], fun _ => none, fun _ => none, fun _ => none, fun _ => none, fun _ => none, fun _ => 0, fun _ => [], fun _ => [], fun _ => false, 0)

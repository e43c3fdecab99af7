/-! a new object of the reference -/
def mkL (m : Nat) : List (Nat × Nat × Nat) → AH → AH
  | [], h => h
  | q :: l, h => mkL m l (pR (mkC h (100 + q.2.1, q.2.2) q.2.2) q.1 m (some (gN h)))
def initL (m : Nat) (K : AH → Option (Unit × AH)) : List (Nat × Nat × Nat) → AH → Option (Unit × AH)
  | [], h => K h
  | q :: l, h => cNA h q.2.1 (nI q.2.2) fun x1 h2 => cPR h2 9 q.1 (some m) x1 fun h3 => initL m K l h3
def rArr : List (Nat × Nat × Nat) := [(450, 1, 2000), (452, 1, 2000), (454, 1, 8000), (456, 2, 120), (457, 0, 120), (458, 1, 960), (459, 0, 120), (460, 0, 120), (461, 0, 120), (462, 0, 120), (463, 0, 120), (464, 0, 120), (465, 0, 120), (466, 0, 120), (467, 1, 3840), (468, 0, 480), (469, 1, 28800), (470, 0, 480), (471, 1, 48000), (472, 0, 120), (473, 2, 120), (474, 0, 120), (477, 0, 40), (478, 0, 40), (479, 0, 22), (481, 1, 2000), (484, 1, 8), (487, 1, 32), (488, 0, 4), (489, 1, 240), (490, 0, 4), (492, 0, 2000), (493, 1, 8), (494, 1, 60)]
theorem initL_run {m : Nat} {K : AH → Option (Unit × AH)} : ∀ (l : List (Nat × Nat × Nat)) (h : AH), (∀ q ∈ l, q.2.2 < 100000) → gK h m = (10, 0) → m < gN h → initL m K l h = K (mkL m l h) := by
  intro l
  induction l with
  | nil => intro h _ _ _; rfl
  | cons q l ih =>
    intro h hn hk hm
    have k2 : gK (mkC h (100 + q.2.1, q.2.2) q.2.2) m = (9 + 1, 0) := by rw [gK_mk, if_neg (by omega)]; exact hk
    rw [show initL m K (q :: l) h = cNA h q.2.1 (nI q.2.2) fun x1 h2 => cPR h2 9 q.1 (some m) x1 fun h3 => initL m K l h3 from rfl, oNA (hn q List.mem_cons_self), oPR k2]
    exact ih _ (fun x hx => hn x (List.mem_cons_of_mem _ hx)) k2 (by rw [gN_pR, gN_mk]; omega)
theorem mkL_N {m : Nat} : ∀ (l : List (Nat × Nat × Nat)) (h : AH), gN (mkL m l h) = gN h + l.length := by
  intro l
  induction l with
  | nil => intro h; rfl
  | cons q l ih =>
    intro h
    rw [show mkL m (q :: l) h = mkL m l (pR (mkC h (100 + q.2.1, q.2.2) q.2.2) q.1 m (some (gN h))) from rfl, ih, gN_pR, gN_mk, List.length_cons]
    omega
theorem mkL_fr {m : Nat} : ∀ (l : List (Nat × Nat × Nat)) (h : AH), m < gN h → FrX (fun a => a = m ∨ gN h ≤ a) h (mkL m l h) ∧ gK (mkL m l h) m = gK h m ∧ (∀ f, gI (mkL m l h) f m = gI h f m) ∧ ∀ a, gN h + l.length ≤ a → gK (mkL m l h) a = gK h a := by
  intro l
  induction l with
  | nil => intro h _; exact ⟨FrX.rf, rfl, fun _ => rfl, fun _ _ => rfl⟩
  | cons q l ih =>
    intro h hm
    obtain ⟨a, b, c, d⟩ := ih (pR (mkC h (100 + q.2.1, q.2.2) q.2.2) q.1 m (some (gN h))) (by rw [gN_pR, gN_mk]; omega)
    rw [gN_pR, gN_mk] at a d
    have F0 : FrX (fun a => a = m ∨ gN h ≤ a) h (pR (mkC h (100 + q.2.1, q.2.2) q.2.2) q.1 m (some (gN h))) := FrX.pR (FrX.mk FrX.rf (Or.inr (Nat.le_refl _))) (Or.inl rfl)
    refine ⟨F0.tr (a.mo (fun x z => z.elim Or.inl (fun y => Or.inr (by omega)))), ?_, fun f => ?_, fun x hx => ?_⟩
    · rw [show mkL m (q :: l) h = mkL m l (pR (mkC h (100 + q.2.1, q.2.2) q.2.2) q.1 m (some (gN h))) from rfl, b, gK_pR, gK_mk, if_neg (by omega)]
    · rw [show mkL m (q :: l) h = mkL m l (pR (mkC h (100 + q.2.1, q.2.2) q.2.2) q.1 m (some (gN h))) from rfl, c, gI_pR, gI_mk, if_neg (by omega)]
    · rw [List.length_cons] at hx
      rw [show mkL m (q :: l) h = mkL m l (pR (mkC h (100 + q.2.1, q.2.2) q.2.2) q.1 m (some (gN h))) from rfl, d x (by omega), gK_pR, gK_mk, if_neg (by omega)]
theorem mkL_at {m : Nat} : ∀ (l : List (Nat × Nat × Nat)) (h : AH), m < gN h → (l.map (fun q => q.1)).Nodup → (∀ i, i < l.length → gR (mkL m l h) (l.getD i (0, 0, 0)).1 m = some (gN h + i) ∧ gK (mkL m l h) (gN h + i) = (100 + (l.getD i (0, 0, 0)).2.1, (l.getD i (0, 0, 0)).2.2)) ∧ ∀ f, f ∉ l.map (fun q => q.1) → gR (mkL m l h) f m = gR h f m := by
  intro l
  induction l with
  | nil => intro h _ _; exact ⟨fun i hi => by simp at hi, fun _ _ => rfl⟩
  | cons q l ih =>
    intro h hm hd
    rw [List.map_cons, List.nodup_cons] at hd
    have hm2 : m < gN (pR (mkC h (100 + q.2.1, q.2.2) q.2.2) q.1 m (some (gN h))) := by rw [gN_pR, gN_mk]; omega
    obtain ⟨a, c⟩ := ih _ hm2 hd.2
    obtain ⟨f1, -⟩ := mkL_fr l _ hm2
    have eM : mkL m (q :: l) h = mkL m l (pR (mkC h (100 + q.2.1, q.2.2) q.2.2) q.1 m (some (gN h))) := rfl
    rw [eM]
    refine ⟨fun i hi => ?_, fun f hf => ?_⟩
    · cases i with
      | zero =>
        rw [show (q :: l).getD 0 (0, 0, 0) = q from rfl, Nat.add_zero]
        refine ⟨?_, ?_⟩
        · rw [c _ hd.1, gR_pR, if_pos ⟨rfl, rfl⟩]
        · rw [(f1 (gN h) (fun z => by rw [gN_pR, gN_mk] at z; omega)).2.2.2.2.2, gK_pR, gK_mk, if_pos rfl]
      | succ i =>
        rw [List.length_cons] at hi
        have := a i (by omega)
        rw [gN_pR, gN_mk] at this
        rw [show (q :: l).getD (i + 1) (0, 0, 0) = l.getD i (0, 0, 0) from rfl, show gN h + (i + 1) = gN h + 1 + i by omega]
        exact this
    · rw [List.map_cons, List.mem_cons, not_or] at hf
      rw [c f hf.2, gR_pR, if_neg (fun z => hf.1 z.1), gR_mk, if_neg (by omega)]
theorem run_9 {m : Nat} {h : AH} (hk : gK h m = (10, 0)) (hm : m < gN h) : fX9_init (some m) h = cCV (mkL m rArr h) 9 (some m) (fX9_emptyTree (some m) (mkL m rArr h)) fun _ h103 => some ((), h103) := by
  have e := initL_run (m := m) (K := fun h102 => cCV h102 9 (some m) (fX9_emptyTree (some m) h102) fun _ h103 => some ((), h103)) rArr h (by decide) hk hm
  rw [← e]
  simp only [fX9_init, fX9_init_0, oNN, rArr, initL]
  rfl
/-- where the reference's arrays lie -/
def rIx (k : Nat) : Option Nat := [some 0, none, some 1, none, some 2, none, some 3, some 4, some 5, some 6, some 7, some 8, some 9, some 10, some 11, some 12, some 13, some 14, some 15, some 16, some 17, some 18, some 19, some 20, some 21, none, none, some 22, some 23, some 24, none, some 25, none, none, some 26, none, none, some 27, some 28, some 29, some 30, none, some 31, some 32, some 33].getD k none
theorem RB.new {h : AH} {m : Nat} {ra : Nat → Nat} (hk : gK h m = (10, 0)) (hm : m < gN h) (hi : ∀ i j, ra i = ra j ↔ i = j) (hr : ∀ k i, rIx k = some i → ra k = gN h + i) : RB (mkL m rArr h) m ra := by
  obtain ⟨a, -⟩ := mkL_at (m := m) rArr h hm (by decide)
  have key : ∀ (k i : Nat) (q : Nat × Nat × Nat), rIx k = some i → i < 34 → rArr.getD i (0, 0, 0) = q → q.1 = 450 + k → gR (mkL m rArr h) (450 + k) m = some (ra k) ∧ gK (mkL m rArr h) (ra k) = (100 + q.2.1, q.2.2) := by
    intro k i q h1 h2 h3 h4
    have := a i h2
    rw [h3, h4] at this
    rw [hr k i h1]
    exact this
  unfold RB
  refine ⟨by rw [(mkL_fr rArr h hm).2.1]; exact hk, hi, key 0 0 (450, 1, 2000) rfl (by omega) rfl rfl, key 2 1 (452, 1, 2000) rfl (by omega) rfl rfl, key 4 2 (454, 1, 8000) rfl (by omega) rfl rfl, key 6 3 (456, 2, 120) rfl (by omega) rfl rfl, key 7 4 (457, 0, 120) rfl (by omega) rfl rfl, key 8 5 (458, 1, 960) rfl (by omega) rfl rfl, key 9 6 (459, 0, 120) rfl (by omega) rfl rfl, key 10 7 (460, 0, 120) rfl (by omega) rfl rfl, key 11 8 (461, 0, 120) rfl (by omega) rfl rfl, key 12 9 (462, 0, 120) rfl (by omega) rfl rfl, key 13 10 (463, 0, 120) rfl (by omega) rfl rfl, key 14 11 (464, 0, 120) rfl (by omega) rfl rfl, key 15 12 (465, 0, 120) rfl (by omega) rfl rfl, key 16 13 (466, 0, 120) rfl (by omega) rfl rfl, key 17 14 (467, 1, 3840) rfl (by omega) rfl rfl, key 18 15 (468, 0, 480) rfl (by omega) rfl rfl, key 19 16 (469, 1, 28800) rfl (by omega) rfl rfl, key 20 17 (470, 0, 480) rfl (by omega) rfl rfl, key 21 18 (471, 1, 48000) rfl (by omega) rfl rfl, key 22 19 (472, 0, 120) rfl (by omega) rfl rfl, key 23 20 (473, 2, 120) rfl (by omega) rfl rfl, key 24 21 (474, 0, 120) rfl (by omega) rfl rfl, key 27 22 (477, 0, 40) rfl (by omega) rfl rfl, key 28 23 (478, 0, 40) rfl (by omega) rfl rfl, key 29 24 (479, 0, 22) rfl (by omega) rfl rfl, key 31 25 (481, 1, 2000) rfl (by omega) rfl rfl, key 34 26 (484, 1, 8) rfl (by omega) rfl rfl, key 37 27 (487, 1, 32) rfl (by omega) rfl rfl, key 38 28 (488, 0, 4) rfl (by omega) rfl rfl, key 39 29 (489, 1, 240) rfl (by omega) rfl rfl, key 40 30 (490, 0, 4) rfl (by omega) rfl rfl, key 42 31 (492, 0, 2000) rfl (by omega) rfl rfl, key 43 32 (493, 1, 8) rfl (by omega) rfl rfl, key 44 33 (494, 1, 60) rfl (by omega) rfl rfl⟩

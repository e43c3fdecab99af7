/-! the law from its start to its end -/
theorem law_new (b : Nat) : ∃ HF, (∀ K : Option Nat → Option Nat → AH → Option (Unit × AH), (cNO (sr_h0 b) 8 5 fun x1 h2 => cCV h2 8 x1 (fX8_init x1 h2) fun _ h3 => cNO h3 9 45 fun x4 h5 => cCV h5 9 x4 (fX9_init x4 h5) fun _ h6 => K x1 x4 h6) = K (some (plF b 0)) (some (plF b 13)) HF) ∧ gS HF = gS (mkL (b + 18) rArr (mkC (hc27 b) (10, 0) 45)) ∧ IV b (gS HF) (plF b) HF := by
  have hN27 := hN27 b
  have kM : gK (mkC (hc27 b) (10, 0) 45) (b + 18) = (10, 0) := by rw [gK_mk, hN27, if_pos rfl]
  have nM : gN (mkC (hc27 b) (10, 0) 45) = b + 19 := by rw [gN_mk, hN27]
  have mM : b + 18 < gN (mkC (hc27 b) (10, 0) 45) := by rw [nM]; omega
  have F0 : FrX (fun a => b + 18 ≤ a) (hc27 b) (mkC (hc27 b) (10, 0) 45) := FrX.mk FrX.rf (by rw [hN27]; exact Nat.le_refl _)
  have kz : ∀ a, b + 19 ≤ a → gK (mkC (hc27 b) (10, 0) 45) a = (0, 0) := fun a ha => by rw [gK_mk, hN27, if_neg (by omega)]; exact (kf27 b).2.2 a (by omega)
  have iz : ∀ f, gI (mkC (hc27 b) (10, 0) 45) f (b + 18) = 0 := fun f => by rw [gI_mk, hN27, if_pos rfl]
  have r9 := run_9 kM mM
  have hB := RB.new (ra := rg (plF b)) kM mM (fun i j => by
    unfold rg
    rw [plF_inj]
    omega) (fun k i hk => by
    rw [nM]
    have key : ∀ k, k < 45 → ∀ i, rIx k = some i → plT.getD (14 + k) none = some (19 + i) := by
      intro k hk i hi
      have h : ∀ k, k < 45 → (match rIx k with | some i => plT.getD (14 + k) none == some (19 + i) | none => true) = true := by decide +kernel
      have := h k hk
      rw [hi] at this
      simpa using this
    have hk45 : k < 45 := by
      rcases Nat.lt_or_ge k 45 with z | z
      · exact z
      · unfold rIx at hk
        rw [List.getD_eq_getElem?_getD, List.getElem?_eq_none (by simpa using z)] at hk
        cases hk
    show plF b (14 + k) = b + 19 + i
    rw [plF_s (key k hk45 i hk)]
    omega)
  obtain ⟨f1, f2, f3, f4⟩ := mkL_fr (m := b + 18) rArr (mkC (hc27 b) (10, 0) 45) mM
  have nL := mkL_N (m := b + 18) rArr (mkC (hc27 b) (10, 0) 45)
  have l34 : rArr.length = 34 := rfl
  rw [nM, l34] at nL
  rw [nM] at f1
  rw [nM, l34] at f4
  have F1 : FrX (fun a => b + 18 ≤ a) (hc27 b) (mkL (b + 18) rArr (mkC (hc27 b) (10, 0) 45)) := F0.tr (f1.mo (fun a z => z.elim (fun e => by omega) (fun e => by omega)))
  have s13 : plF b 13 = b + 18 := plF_s rfl
  have hrun : ∀ K : Option Nat → Option Nat → AH → Option (Unit × AH), (cNO (sr_h0 b) 8 5 fun x1 h2 => cCV h2 8 x1 (fX8_init x1 h2) fun _ h3 => cNO h3 9 45 fun x4 h5 => cCV h5 9 x4 (fX9_init x4 h5) fun _ h6 => K x1 x4 h6) = (cCV (mkC (hc27 b) (10, 0) 45) 9 (some (b + 18)) (fX9_init (some (b + 18)) (mkC (hc27 b) (10, 0) 45)) fun _ h6 => K (some b) (some (b + 18)) h6) := by
    intro K
    have kx : gK (hc0 b) b = (8 + 1, 0) := (kf0 b).k 0 (by omega) rfl
    rw [oNO, z_N, show mkC (sr_h0 b) (8 + 1, 0) 5 = hc0 b from rfl, cv_of kx (run_8 b), oNO, hN27]
  generalize hM : mkC (hc27 b) (10, 0) 45 = M at *
  generalize hZ : mkL (b + 18) rArr M = Z at *
  obtain ⟨HF, g1, R1, F2⟩ := ref_emptyTree hB Te
  have BZ := hB
  have hS : gS HF = gS Z := F2.2.2.2.2.2.2.2
  have hNF : gN HF = b + 53 := by rw [F2.2.2.2.2.2.2.1, nL]
  have FX : FrX (fun a => b + 18 ≤ a) (hc27 b) HF := F1.tr (Fr.x F2 (fun f a z => by rw [z.2]; exact Nat.le_refl _) (fun a z => by
    obtain ⟨k, hk, e⟩ := z
    rw [e]
    unfold rg
    cases hp : plT.getD (14 + k) none with
    | none => rw [plF_n hp]; omega
    | some o =>
      rw [plF_s hp]
      have h : ∀ j, j < 45 → (match plT.getD (14 + j) none with | some o => decide (18 ≤ o) | none => true) = true := by decide +kernel
      have := h k (by omega)
      rw [hp] at this
      have h18 : 18 ≤ o := by simpa using this
      omega))
  have KZ : ∀ a, b + 53 ≤ a → gK HF a = (0, 0) := fun a ha => by
    rw [F2.2.2.2.2.2.1, f4 a (by omega)]
    exact kz a (by omega)
  have hc := CP.new Te hNF KZ FX
  have hBF := F2.RB BZ
  have i0 : ∀ f, f ≠ 475 → gI HF f (b + 18) = 0 := fun f hf => by rw [F2.1 _ _ (fun z => hf z.1), f3]; exact iz f
  have hRP : RP HF (plF b) (T0 Te) 0 (fun _ => 0) [] [] := by
    unfold RP
    rw [s13]
    exact ⟨hBF, R1, ⟨by rw [i0 _ (by omega)]; rfl, by omega, fun i hi => by omega⟩, ⟨by rw [i0 _ (by omega)]; rfl, by simp, fun i hi => by simp at hi⟩, ⟨by rw [i0 _ (by omega)]; rfl, by simp, fun i _ hi => by simp at hi⟩⟩
  refine ⟨HF, fun K => ?_, hS, adF b, T0 Te, 0, fun _ => 0, [], [], [], hc, hRP, ⟨_, (T0_ok Te).1⟩, (T0_ok Te).2.1, fun i hi => by omega, by simp⟩
  rw [hrun K, s13, show plF b 0 = b from plF_s (o := 0) rfl, r9, oCV (c := 9) (k := 0) kM, cv_of hB.o g1]
  rfl
/-- how many slots the two objects take -/
theorem mkL_S {m : Nat} : ∀ (l : List (Nat × Nat × Nat)) (h : AH), gS (mkL m l h) = gS h + (l.map (fun q => q.2.2)).sum := by
  intro l
  induction l with
  | nil => intro h; rfl
  | cons q l ih =>
    intro h
    rw [show mkL m (q :: l) h = mkL m l (pR (mkC h (100 + q.2.1, q.2.2) q.2.2) q.1 m (some (gN h))) from rfl, ih, gS_pR, gS_mk, List.map_cons, List.sum_cons]
    omega
theorem pS_bg (H : AH) (A B t : Nat) (nm : List Nat) : gS (bgH H A B t nm) = gS H := by
  unfold bgH
  rw [gS_pI, gS_pI, gS_pI, gS_pR, gS_pR, gS_pR, gS_pR, gS_pR, gS_pI, gS_pL, gS_pI, gS_pI]
theorem hS27 (b : Nat) : gS (hc27 b) = 10291 := by
  have s0 : gS (hc0 b) = 5 := by unfold hc0; rw [gS_mk]; rfl
  have s1 : gS (hc1 b) = 7 := by unfold hc1; rw [gS_mk, s0]
  have s2 : gS (hc2 b) = 2007 := by unfold hc2; rw [gS_pR, gS_mk, s1]
  have s3 : gS (hc3 b) = 2007 := by unfold hc3; rw [gS_pR, s2]
  have s4 : gS (hc4 b) = 2009 := by unfold hc4; rw [gS_mk, s3]
  have s5 : gS (hc5 b) = 10009 := by unfold hc5; rw [gS_pR, gS_mk, s4]
  have s6 : gS (hc6 b) = 10009 := by unfold hc6; rw [gS_pR, s5]
  have s7 : gS (hc7 b) = 10012 := by unfold hc7; rw [gS_mk, s6]
  have s8 : gS (hc8 b) = 10052 := by unfold hc8; rw [gS_pR, gS_mk, s7]
  have s9 : gS (hc9 b) = 10092 := by unfold hc9; rw [gS_pR, gS_mk, s8]
  have s10 : gS (hc10 b) = 10092 := by unfold hc10; rw [gS_pR, s9]
  have s11 : gS (hc11 b) = 10095 := by unfold hc11; rw [gS_mk, s10]
  have s12 : gS (hc12 b) = 10215 := by unfold hc12; rw [gS_pR, gS_mk, s11]
  have s13 : gS (hc13 b) = 10229 := by unfold hc13; rw [gS_mk, s12]
  have s14 : gS (hc14 b) = 10231 := by unfold hc14; rw [gS_mk, s13]
  have s15 : gS (hc15 b) = 10235 := by unfold hc15; rw [gS_pR, gS_mk, s14]
  have s16 : gS (hc16 b) = 10235 := by unfold hc16; rw [gS_pI, gS_pR, s15]
  have s17 : gS (hc17 b) = 10235 := by unfold hc17; rw [gS_pQ, gS_pR, s16]
  have s18 : gS (hc18 b) = 10235 := by unfold hc18; rw [gS_pI, pS_bg, s17]
  have s19 : gS (hc19 b) = 10235 := by unfold hc19; rw [gS_pR, s18]
  have s20 : gS (hc20 b) = 10243 := by unfold hc20; rw [gS_mk, s19]
  have s21 : gS (hc21 b) = 10245 := by unfold hc21; rw [gS_mk, s20]
  have s22 : gS (hc22 b) = 10249 := by unfold hc22; rw [gS_pR, gS_mk, s21]
  have s23 : gS (hc23 b) = 10249 := by unfold hc23; rw [gS_pR, s22]
  have s24 : gS (hc24 b) = 10270 := by unfold hc24; rw [gS_pR, gS_mk, s23]
  have s25 : gS (hc25 b) = 10291 := by unfold hc25; rw [gS_pR, gS_mk, s24]
  have s26 : gS (hc26 b) = 10291 := by unfold hc26; rw [gS_pR, gS_pR, gS_pR, s25]
  unfold hc27
  rw [gS_pR, s26]

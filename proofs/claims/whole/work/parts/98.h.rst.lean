/-! a start TAG comes: the reference -/
def wrG (a i : Nat) (g : Nat → Int32) : Nat → Nat → AH → AH
  | 0, _, h => h
  | j + 1, r, h => wrG a i g j (r + 1) (pA h a (i + r) (g r))
theorem wg_fr (a i : Nat) (g : Nat → Int32) (I : Nat → Nat → Prop) : ∀ (j r : Nat) (h : AH), Fr I (fun x => x = a) h (wrG a i g j r h) := by
  intro j
  induction j with
  | zero => intro r h; exact Fr.rf
  | succ j ih => intro r h; exact (Fr.pA (I := I) (A := fun x => x = a) (h := h) Fr.rf rfl).tr (ih (r + 1) _)
theorem wg_rd (a i : Nat) (g : Nat → Int32) : ∀ (j r : Nat) (h : AH) (a' x : Nat), gA (wrG a i g j r h) a' x = if a' = a ∧ i + r ≤ x ∧ x < i + r + j then g (x - i) else gA h a' x := by
  intro j
  induction j with
  | zero => intro r h a' x; rw [if_neg (by omega)]; rfl
  | succ j ih =>
    intro r h a' x
    rw [show wrG a i g (j + 1) r h = wrG a i g j (r + 1) (pA h a (i + r) (g r)) from rfl, ih, gA_pA]
    by_cases e : a' = a
    · by_cases e2 : x = i + r
      · rw [if_neg (by omega), if_pos ⟨e, e2⟩, if_pos (by omega), show x - i = r by omega]
      · by_cases e3 : i + (r + 1) ≤ x ∧ x < i + (r + 1) + j
        · rw [if_pos ⟨e, e3⟩, if_pos (by omega)]
        · rw [if_neg (fun z => e3 z.2), if_neg (fun z => e2 z.2), if_neg (by omega)]
    · rw [if_neg (fun z => e z.1), if_neg (fun z => e z.1), if_neg (fun z => e z.1)]
theorem ref_cp292 {m k a : Nat} {ra : Nat → Nat} {r244 : Option Nat → Int32 → Int32 → Int32 → AH → Option (Unit × AH)} {v2 : Int32} {g : Nat → Int32} (hk : k < 120) (ha : a < 4) : ∀ (j f r : Nat) (h : AH), r + j = 8 → j < f → RB h m ra → (∀ x, gA h (ra 37) x = g x) → fX9_startTag_292 r244 f (some m) v2 (nI k) (nI a) (nI r) h = fX9_startTag_335 r244 (some m) v2 (nI k) (nI a) (wrG (ra 17) (8 * (4 * k + a)) (fun q => (g (8 * a + q)).toInt8.toInt32) j r h) := by
  intro j
  induction j with
  | zero =>
    intro f r h hr hf hB hg
    obtain ⟨f, rfl⟩ : ∃ g, f = g + 1 := ⟨f - 1, by omega⟩
    rw [fX9_startTag_292]
    simp (disch := omega) only [leN, show 8 ≤ r by omega, ↓reduceIte]
    rfl
  | succ j ih =>
    intro f r h hr hf hB hg
    obtain ⟨f, rfl⟩ : ∃ g, f = g + 1 := ⟨f - 1, by omega⟩
    have hne : ra 37 ≠ ra 17 := fun q => by rw [hB.i] at q; omega
    rw [fX9_startTag_292]
    simp (disch := omega) only [leN, show ¬ 8 ≤ r by omega, ↓reduceIte, ↓gr_of hB.o hB.r17, ↓gr_of hB.o hB.r37, nI_mul, nI_add, ↓al_of hB.k37 (show 8 * a + r < 32 by omega) (by omega) (hg (8 * a + r)), ↓as_of hB.k17 (show 8 * (4 * k + a) + r < 3840 by omega) (by omega), vn1]
    rw [ih f (r + 1) (pA h (ra 17) (8 * (4 * k + a) + r) (g (8 * a + r)).toInt8.toInt32) (by omega) (by omega) hB (fun x => by rw [gA_pA, if_neg (fun z => hne z.1)]; exact hg x)]
    rfl
theorem ref_cp338 {m k a : Nat} {ra : Nat → Nat} {r244 : Option Nat → Int32 → Int32 → Int32 → AH → Option (Unit × AH)} {v2 : Int32} {g : Nat → Int32} (hk : k < 120) (ha : a < 4) : ∀ (j f r : Nat) (h : AH), r + j = 60 → j < f → RB h m ra → (∀ x, gA h (ra 39) x = g x) → fX9_startTag_338 r244 f (some m) v2 (nI k) (nI a) (nI r) h = r244 (some m) v2 (nI k) (nI (a + 1)) (wrG (ra 19) (60 * (4 * k + a)) (fun q => (g (60 * a + q)).toInt8.toInt32) j r h) := by
  intro j
  induction j with
  | zero =>
    intro f r h hr hf hB hg
    obtain ⟨f, rfl⟩ : ∃ g, f = g + 1 := ⟨f - 1, by omega⟩
    rw [fX9_startTag_338]
    simp (disch := omega) only [leN, show 60 ≤ r by omega, ↓reduceIte, fX9_startTag_381, nI_add]
    rfl
  | succ j ih =>
    intro f r h hr hf hB hg
    obtain ⟨f, rfl⟩ : ∃ g, f = g + 1 := ⟨f - 1, by omega⟩
    have hne : ra 39 ≠ ra 19 := fun q => by rw [hB.i] at q; omega
    rw [fX9_startTag_338]
    simp (disch := omega) only [leN, show ¬ 60 ≤ r by omega, ↓reduceIte, ↓gr_of hB.o hB.r19, ↓gr_of hB.o hB.r39, nI_mul, nI_add, ↓al_of hB.k39 (show 60 * a + r < 240 by omega) (by omega) (hg (60 * a + r)), ↓as_of hB.k19 (show 60 * (4 * k + a) + r < 28800 by omega) (by omega), vn1]
    rw [ih f (r + 1) (pA h (ra 19) (60 * (4 * k + a) + r) (g (60 * a + r)).toInt8.toInt32) (by omega) (by omega) hB (fun x => by rw [gA_pA, if_neg (fun z => hne z.1)]; exact hg x)]
    rfl
/-- one ATTRIBUTE of NODE k, as the arrays hold it -/
def EnR (h : AH) (ra : Nat → Nat) (k : Nat) (L : AttL) (b : Nat) : Prop := gA h (ra 18) (4 * k + b) = nI (L.getD b ([], [])).1.length ∧ (∀ q, q < (L.getD b ([], [])).1.length → gA h (ra 17) (8 * (4 * k + b) + q) = nI ((L.getD b ([], [])).1.getD q 0)) ∧ gA h (ra 20) (4 * k + b) = nI (L.getD b ([], [])).2.length ∧ ∀ q, q < (L.getD b ([], [])).2.length → gA h (ra 19) (60 * (4 * k + b) + q) = nI ((L.getD b ([], [])).2.getD q 0)
theorem ref_cpA {m k : Nat} {ra : Nat → Nat} {v2 : Int32} {L : AttL} {tw : List Nat} (hk : k < 120) (hL : AtS L) : ∀ (c f a : Nat) (h : AH), a + c = L.length → c < f → RB h m ra → AlR h m ra L tw → (∀ b, b < a → EnR h ra k L b) → ∃ h', fX9_startTag_244 f (some m) v2 (nI k) (nI a) h = fX9_startTag_387 (some m) v2 (nI k) h' ∧ Fr (fun _ _ => False) (fun x => ∃ c, (17 ≤ c ∧ c ≤ 20) ∧ x = ra c) h h' ∧ (∀ c j, 17 ≤ c → c ≤ 20 → own c j ≠ k → gA h' (ra c) j = gA h (ra c) j) ∧ ∀ b, b < L.length → EnR h' ra k L b := by
  have hL4 := hL.1
  intro c
  induction c with
  | zero =>
    intro f a h hac hcf hB hA hE
    obtain ⟨f, rfl⟩ : ∃ g, f = g + 1 := ⟨f - 1, by omega⟩
    refine ⟨h, ?_, Fr.rf, fun _ _ _ _ _ => rfl, fun b hb => hE b (by omega)⟩
    rw [fX9_startTag_244]
    simp (disch := omega) only [↓gi_of hB.o hA.1, leN, show L.length ≤ a by omega, ↓reduceIte]
  | succ c ih =>
    intro f a h hac hcf hB hA hE
    obtain ⟨f, rfl⟩ : ∃ g, f = g + 1 := ⟨f - 1, by omega⟩
    have ha : a < L.length := by omega
    obtain ⟨z1, z2, z3, z4⟩ := hL.get ha
    obtain ⟨a1, a2, a3, a4⟩ := hA.2.1 a ha
    have hne : ∀ i j, i ≠ j → ra i ≠ ra j := fun i j hij z => hij (by rw [hB.i] at z; exact z)
    generalize hH : pA (pA h (ra 18) (4 * k + a) (nI (L.getD a ([], [])).1.length)) (ra 20) (4 * k + a) (nI (L.getD a ([], [])).2.length) = H at *
    have BH : RB H m ra := by rw [← hH]; exact hB
    have g1 := ref_cp292 (r244 := fX9_startTag_244 f) (v2 := v2) (g := fun x => gA h (ra 37) x) hk (show a < 4 by omega) 8 FU 0 H (by omega) (by have := FU_ge; omega) BH (fun x => by
      rw [← hH, gA_pA, if_neg (fun z => hne 37 20 (by omega) z.1), gA_pA, if_neg (fun z => hne 37 18 (by omega) z.1)])
    generalize hH2 : wrG (ra 17) (8 * (4 * k + a)) (fun q => (gA h (ra 37) (8 * a + q)).toInt8.toInt32) 8 0 H = H2 at *
    have FH2 : Fr (fun _ _ => False) (fun x => x = ra 17) H H2 := by rw [← hH2]; exact wg_fr _ _ _ _ _ _ _
    have BH2 : RB H2 m ra := FH2.RB BH
    have g2 := ref_cp338 (r244 := fX9_startTag_244 f) (v2 := v2) (g := fun x => gA h (ra 39) x) hk (show a < 4 by omega) 60 FU 0 H2 (by omega) (by have := FU_ge; omega) BH2 (fun x => by
      rw [FH2.2.2.2.1 _ _ (hne 39 17 (by omega)), ← hH, gA_pA, if_neg (fun z => hne 39 20 (by omega) z.1), gA_pA, if_neg (fun z => hne 39 18 (by omega) z.1)])
    generalize hH3 : wrG (ra 19) (60 * (4 * k + a)) (fun q => (gA h (ra 39) (60 * a + q)).toInt8.toInt32) 60 0 H2 = H3 at *
    have FH3 : Fr (fun _ _ => False) (fun x => x = ra 19) H2 H3 := by rw [← hH3]; exact wg_fr _ _ _ _ _ _ _
    have BH3 : RB H3 m ra := FH3.RB BH2
    have FH : Fr (fun _ _ => False) (fun x => ∃ c, (17 ≤ c ∧ c ≤ 20) ∧ x = ra c) h H3 := by
      have F1 : Fr (fun _ _ => False) (fun x => ∃ c, (17 ≤ c ∧ c ≤ 20) ∧ x = ra c) h H := by rw [← hH]; exact Fr.pA (Fr.pA Fr.rf ⟨18, by omega, rfl⟩) ⟨20, by omega, rfl⟩
      exact F1.tr ((FH2.mo (fun _ _ z => z) (fun a z => ⟨17, by omega, z⟩)).tr (FH3.mo (fun _ _ z => z) (fun a z => ⟨19, by omega, z⟩)))
    have rd : ∀ cc j, gA H3 (ra cc) j = if cc = 19 ∧ 60 * (4 * k + a) ≤ j ∧ j < 60 * (4 * k + a) + 60 then (gA h (ra 39) (60 * a + (j - 60 * (4 * k + a)))).toInt8.toInt32 else if cc = 17 ∧ 8 * (4 * k + a) ≤ j ∧ j < 8 * (4 * k + a) + 8 then (gA h (ra 37) (8 * a + (j - 8 * (4 * k + a)))).toInt8.toInt32 else if cc = 20 ∧ j = 4 * k + a then nI (L.getD a ([], [])).2.length else if cc = 18 ∧ j = 4 * k + a then nI (L.getD a ([], [])).1.length else gA h (ra cc) j := by
      intro cc j
      rw [← hH3, wg_rd, ← hH2, wg_rd, ← hH, gA_pA, gA_pA]
      simp only [hB.i, Nat.add_zero]
    have EN : ∀ b, b < a + 1 → EnR H3 ra k L b := by
      intro b hb
      by_cases e : b = a
      · subst e
        refine ⟨?_, fun q hq => ?_, ?_, fun q hq => ?_⟩
        · rw [rd, if_neg (by omega), if_neg (by omega), if_neg (by omega), if_pos ⟨rfl, rfl⟩]
        · rw [rd, if_neg (by omega), if_pos (by omega), Nat.add_sub_cancel_left, a2 q hq, nI_b (vch_get z2 q)]
        · rw [rd, if_neg (by omega), if_neg (by omega), if_pos ⟨rfl, rfl⟩]
        · rw [rd, if_pos (by omega), Nat.add_sub_cancel_left, a4 q hq, nI_b (bch_get z4 q)]
      · obtain ⟨e1, e2, e3, e4⟩ := hE b (by omega)
        obtain ⟨y1, y2, y3, y4⟩ := hL.get (show b < L.length by omega)
        refine ⟨?_, fun q hq => ?_, ?_, fun q hq => ?_⟩
        · rw [rd, if_neg (by omega), if_neg (by omega), if_neg (by omega), if_neg (by omega)]; exact e1
        · rw [rd, if_neg (by omega), if_neg (by omega), if_neg (by omega), if_neg (by omega)]; exact e2 q hq
        · rw [rd, if_neg (by omega), if_neg (by omega), if_neg (by omega), if_neg (by omega)]; exact e3
        · rw [rd, if_neg (by omega), if_neg (by omega), if_neg (by omega), if_neg (by omega)]; exact e4 q hq
    obtain ⟨h', g3, F3, O3, E3⟩ := ih f (a + 1) H3 (by omega) (by omega) BH3 (hA.fr FH (fun z => z) (fun z => z) (fun q h1 h2 z => by obtain ⟨j, hj, e⟩ := z; rw [hB.i] at e; omega)) EN
    refine ⟨h', ?_, FH.tr F3, fun cc j h1 h2 ho => ?_, E3⟩
    · rw [fX9_startTag_244]
      have hB1 : RB (pA h (ra 18) (4 * k + a) (nI (L.getD a ([], [])).1.length)) m ra := hB
      have a3' : gA (pA h (ra 18) (4 * k + a) (nI (L.getD a ([], [])).1.length)) (ra 40) a = nI (L.getD a ([], [])).2.length := by rw [gA_pA, if_neg (fun z => hne 40 18 (by omega) z.1)]; exact a3
      simp (disch := omega) only [↓gi_of hB.o hA.1, leN, show ¬ L.length ≤ a by omega, ↓reduceIte, ↓gr_of hB.o hB.r18, ↓gr_of hB.o hB.r38, ↓al_of hB.k38 (show a < 4 by omega) (by omega) a1, nI_mul, nI_add, ↓as_of hB.k18 (show 4 * k + a < 480 by omega) (by omega), vn0, ↓gr_of hB1.o hB1.r20, ↓gr_of hB1.o hB1.r40, ↓al_of hB1.k40 (show a < 4 by omega) (by omega) a3', ↓as_of hB1.k20 (show 4 * k + a < 480 by omega) (by omega), hH]
      rw [g1]
      simp only [fX9_startTag_335]
      rw [show fX9_startTag_338 (fX9_startTag_244 f) FU (some m) v2 (nI k) (nI a) (nI 0) H2 = _ from g2]
      exact g3
    · rw [O3 cc j h1 h2 ho, rd]
      rw [if_neg, if_neg, if_neg, if_neg]
      · rintro ⟨rfl, rfl⟩; exact ho (show (4 * k + a) / 4 = k by omega)
      · rintro ⟨rfl, rfl⟩; exact ho (show (4 * k + a) / 4 = k by omega)
      · rintro ⟨rfl, y1, y2⟩; exact ho (show j / 32 = k by omega)
      · rintro ⟨rfl, y1, y2⟩; exact ho (show j / 240 = k by omega)

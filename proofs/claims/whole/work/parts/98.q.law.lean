/-! the law's loop -/
theorem xl_of {Y : Type} {G : sr_G} {k L : Nat} (hL : G.2.2.2.2.2.2.2.1 = L) (hk : k < L) (h2 : L ≤ 384) (K : Int32 → Option Y) : cXL G (nI k) K = K (G.2.2.2.2.2.2.2.2 k) := by
  unfold cXL
  rw [hL, nI_toInt (by omega), nI_clamp (by omega), if_pos (by omega)]
theorem law_c {L i : Nat} (hL : L ≤ 384) (hi : i ≤ 100) : ((nI L - nI 6) < nI (6 * i)) = (L < 6 * i + 6) := by
  by_cases h6 : 6 ≤ L
  · rw [nI_sub h6, ltN (by omega) (by omega)]
    exact propext ⟨fun z => by omega, fun z => by omega⟩
  · have key : (nI L - nI 6).toInt < 0 := by
      rcases L with _ | _ | _ | _ | _ | _ | L
      · decide
      · decide
      · decide
      · decide
      · decide
      · decide
      · omega
    refine propext ⟨fun _ => by omega, fun _ => ?_⟩
    rw [Int32.lt_iff_toInt_lt, nI_toInt (by omega)]
    omega
theorem IV.k0 {bs s0 : Nat} {sg : Nat → Nat} {h : AH} (q : IV bs s0 sg h) : gK h (sg 0) = (9, 0) := by
  obtain ⟨ad, T, n, tp, ol, fl, L, c, -⟩ := q
  exact c.2.1.1.1
theorem IV.room {bs s0 : Nat} {sg : Nat → Nat} {h : AH} (q : IV bs s0 sg h) : gN h ≤ bs + 2994 ∧ gS h ≤ s0 + 400 * 2994 := by
  obtain ⟨ad, T, n, tp, ol, fl, L, c, -⟩ := q
  have h1 := c.1.lt
  have h2 := c.1.2.2.2.2.2.2.2.1
  exact ⟨h1, by omega⟩
theorem law_loop {bs s0 : Nat} {sg : Nat → Nat} {G : sr_G} {L : Nat} (hL : G.2.2.2.2.2.2.2.1 = L) (h384 : L ≤ 384) : ∀ (c f i : Nat) (h : AH), L ≤ 6 * i + 6 * c → i + c ≤ 100 → c < f → IV bs s0 sg h → ∃ h', fL_law_18 G f (some (sg 0)) (some (sg 13)) (nI (6 * i)) h = some ((), h') ∧ IV bs s0 sg h' := by
  have stop : ∀ (f i : Nat) (h : AH), L < 6 * i + 6 → i ≤ 100 → fL_law_18 G (f + 1) (some (sg 0)) (some (sg 13)) (nI (6 * i)) h = some ((), h) := by
    intro f i h hlt hi
    have hc : (nI L - nI 6) < nI (6 * i) := by rw [law_c h384 hi]; exact hlt
    rw [fL_law_18, hL, if_pos hc]
    rfl
  intro c
  induction c with
  | zero =>
    intro f i h hc hi hf q
    obtain ⟨f, rfl⟩ : ∃ g, f = g + 1 := ⟨f - 1, by omega⟩
    exact ⟨h, stop f i h (by omega) (by omega), q⟩
  | succ c ih =>
    intro f i h hc hi hf q
    obtain ⟨f, rfl⟩ : ∃ g, f = g + 1 := ⟨f - 1, by omega⟩
    by_cases hlt : L < 6 * i + 6
    · exact ⟨h, stop f i h hlt (by omega), q⟩
    · have k0 := q.k0
      have x0 : ∀ (K : Int32 → Option (Unit × AH)), cXL G (nI (6 * i)) K = K (G.2.2.2.2.2.2.2.2 (6 * i)) := xl_of hL (by omega) h384
      have x1 : ∀ (K : Int32 → Option (Unit × AH)), cXL G (nI (6 * i + 1)) K = K (G.2.2.2.2.2.2.2.2 (6 * i + 1)) := xl_of hL (by omega) h384
      have x2 : ∀ (K : Int32 → Option (Unit × AH)), cXL G (nI (6 * i + 2)) K = K (G.2.2.2.2.2.2.2.2 (6 * i + 2)) := xl_of hL (by omega) h384
      have x3 : ∀ (K : Int32 → Option (Unit × AH)), cXL G (nI (6 * i + 3)) K = K (G.2.2.2.2.2.2.2.2 (6 * i + 3)) := xl_of hL (by omega) h384
      have x4 : ∀ (K : Int32 → Option (Unit × AH)), cXL G (nI (6 * i + 4)) K = K (G.2.2.2.2.2.2.2.2 (6 * i + 4)) := xl_of hL (by omega) h384
      have x5 : ∀ (K : Int32 → Option (Unit × AH)), cXL G (nI (6 * i + 5)) K = K (G.2.2.2.2.2.2.2.2 (6 * i + 5)) := xl_of hL (by omega) h384
      have next : ∀ h2, IV bs s0 sg h2 → ∃ h', fL_law_530 G (fL_law_18 G f) (some (sg 0)) (some (sg 13)) (nI (6 * i)) h2 = some ((), h') ∧ IV bs s0 sg h' := by
        intro h2 q2
        obtain ⟨h', g', q'⟩ := ih f (i + 1) h2 (by omega) (by omega) (by omega) q2
        refine ⟨h', ?_, q'⟩
        simp only [fL_law_530, nI_add]
        rw [show 6 * i + 6 = 6 * (i + 1) by omega]
        exact g'
      generalize G.2.2.2.2.2.2.2.2 (6 * i + 1) = a1 at *
      generalize G.2.2.2.2.2.2.2.2 (6 * i + 2) = a2 at *
      generalize G.2.2.2.2.2.2.2.2 (6 * i + 3) = a3 at *
      generalize G.2.2.2.2.2.2.2.2 (6 * i + 4) = a4 at *
      generalize G.2.2.2.2.2.2.2.2 (6 * i + 5) = a5 at *
      generalize G.2.2.2.2.2.2.2.2 (6 * i) = a0 at *
      have hc : ¬ (nI L - nI 6) < nI (6 * i) := by rw [law_c h384 (by omega)]; exact hlt
      rw [fL_law_18, hL, if_neg hc, x0]
      generalize fL_law_530 G (fL_law_18 G f) (some (sg 0)) (some (sg 13)) (nI (6 * i)) = N at *
      generalize a0 &&& nI 15 = t at *
      by_cases t0 : t = 0
      · obtain ⟨r, h1, h2, g1, k1, g2, q2⟩ := s_feed q a1 a2 a3 a4 a5
        obtain ⟨h', g', q'⟩ := next h2 q2
        refine ⟨h', ?_, q'⟩
        rw [if_pos t0]
        simp only [nI_add, ↓x1, ↓x2, ↓x3, ↓x4, ↓x5, ↓cv_of k0 g1, ↓cv_of k1 g2, ↓reduceIte]
        exact g'
      rw [if_neg t0]
      by_cases t1 : t = 1
      · obtain ⟨r, h1, h2, g1, k1, g2, q2⟩ := s_end q a1
        obtain ⟨h', g', q'⟩ := next h2 q2
        refine ⟨h', ?_, q'⟩
        rw [if_pos t1]
        simp only [nI_add, ↓x1, ↓cv_of k0 g1, ↓cv_of k1 g2, ↓reduceIte]
        exact g'
      rw [if_neg t1]
      by_cases t2 : t = 2
      · obtain ⟨r, h1, h2, g1, k1, g2, q2⟩ := s_out q a1
        obtain ⟨h', g', q'⟩ := next h2 q2
        refine ⟨h', ?_, q'⟩
        rw [if_pos t2]
        simp only [nI_add, ↓x1, ↓cv_of k0 g1, ↓cv_of k1 g2, ↓reduceIte]
        exact g'
      rw [if_neg t2]
      by_cases t3 : t = 3
      · obtain ⟨r, h1, h2, g1, k1, g2, q2⟩ := s_page q
        obtain ⟨h', g', q'⟩ := next h2 q2
        refine ⟨h', ?_, q'⟩
        rw [if_pos t3]
        simp only [nI_add, ↓cv_of k0 g1, ↓cv_of k1 g2, ↓reduceIte]
        exact g'
      rw [if_neg t3]
      by_cases t4 : t = 4
      · obtain ⟨r, h1, h2, g1, k1, g2, q2⟩ := s_node q a1 a2
        obtain ⟨h', g', q'⟩ := next h2 q2
        refine ⟨h', ?_, q'⟩
        rw [if_pos t4]
        simp only [nI_add, ↓x1, ↓x2, ↓cv_of k0 g1, ↓cv_of k1 g2, ↓reduceIte]
        exact g'
      rw [if_neg t4]
      by_cases t5 : t = 5
      · obtain ⟨r, h1, h2, g1, k1, g2, q2⟩ := s_kid q a1 a2
        obtain ⟨h', g', q'⟩ := next h2 q2
        refine ⟨h', ?_, q'⟩
        rw [if_pos t5]
        simp only [nI_add, ↓x1, ↓x2, ↓cv_of k0 g1, ↓cv_of k1 g2, ↓reduceIte]
        exact g'
      rw [if_neg t5]
      by_cases t6 : t = 6
      · obtain ⟨r, h1, h2, g1, k1, g2, q2⟩ := s_name q a1
        obtain ⟨h', g', q'⟩ := next h2 q2
        refine ⟨h', ?_, q'⟩
        rw [if_pos t6]
        simp only [nI_add, ↓x1, ↓cv_of k0 g1, ↓cv_of k1 g2, ↓reduceIte]
        exact g'
      rw [if_neg t6]
      by_cases t7 : t = 7
      · obtain ⟨r, h1, h2, g1, k1, g2, q2⟩ := s_attribute q a1
        obtain ⟨h', g', q'⟩ := next h2 q2
        refine ⟨h', ?_, q'⟩
        rw [if_pos t7]
        simp only [nI_add, ↓x1, ↓cv_of k0 g1, ↓cv_of k1 g2, ↓reduceIte]
        exact g'
      rw [if_neg t7]
      by_cases t8 : t = 8
      · obtain ⟨r, h1, h2, g1, k1, g2, q2⟩ := s_serialise q a1
        obtain ⟨h', g', q'⟩ := next h2 q2
        refine ⟨h', ?_, q'⟩
        rw [if_pos t8]
        simp only [nI_add, ↓x1, ↓cv_of k0 g1, ↓cv_of k1 g2, ↓reduceIte]
        exact g'
      rw [if_neg t8]
      by_cases t9 : t = 9
      · obtain ⟨r, h1, h2, g1, k1, g2, q2⟩ := s_fault q a1 a2
        obtain ⟨h', g', q'⟩ := next h2 q2
        refine ⟨h', ?_, q'⟩
        rw [if_pos t9]
        simp only [nI_add, ↓x1, ↓x2, ↓cv_of k0 g1, ↓cv_of k1 g2, ↓reduceIte]
        exact g'
      rw [if_neg t9]
      by_cases t10 : t = 10
      · obtain ⟨r, h1, h2, g1, k1, g2, q2⟩ := s_faults q
        obtain ⟨h', g', q'⟩ := next h2 q2
        refine ⟨h', ?_, q'⟩
        rw [if_pos t10]
        simp only [nI_add, ↓cv_of k0 g1, ↓cv_of k1 g2, ↓reduceIte]
        exact g'
      rw [if_neg t10]
      by_cases t11 : t = 11
      · obtain ⟨r, h1, h2, g1, k1, g2, q2⟩ := s_add q a1
        obtain ⟨h', g', q'⟩ := next h2 q2
        refine ⟨h', ?_, q'⟩
        rw [if_pos t11]
        simp only [nI_add, ↓x1, ↓cv_of k0 g1, ↓cv_of k1 g2, ↓reduceIte]
        exact g'
      rw [if_neg t11]
      by_cases t12 : t = 12
      · obtain ⟨r, h1, h2, g1, k1, g2, q2⟩ := s_text q a1
        obtain ⟨h', g', q'⟩ := next h2 q2
        refine ⟨h', ?_, q'⟩
        rw [if_pos t12]
        simp only [nI_add, ↓x1, ↓cv_of k0 g1, ↓cv_of k1 g2, ↓reduceIte]
        exact g'
      rw [if_neg t12]
      by_cases t13 : t = 13
      · obtain ⟨r, h1, h2, g1, k1, g2, q2⟩ := s_set q a1
        obtain ⟨h', g', q'⟩ := next h2 q2
        refine ⟨h', ?_, q'⟩
        rw [if_pos t13]
        simp only [nI_add, ↓x1, ↓cv_of k0 g1, ↓cv_of k1 g2, ↓reduceIte]
        exact g'
      rw [if_neg t13]
      by_cases t14 : t = 14
      · obtain ⟨r, h1, h2, g1, k1, g2, q2⟩ := s_remove q a1
        obtain ⟨h', g', q'⟩ := next h2 q2
        refine ⟨h', ?_, q'⟩
        rw [if_pos t14]
        simp only [nI_add, ↓x1, ↓cv_of k0 g1, ↓cv_of k1 g2, ↓reduceIte]
        exact g'
      rw [if_neg t14]
      by_cases t15 : t = 15
      · obtain ⟨r, h1, h2, g1, k1, g2, q2⟩ := s_find q a1
        obtain ⟨h', g', q'⟩ := next h2 q2
        refine ⟨h', ?_, q'⟩
        rw [if_pos t15]
        simp only [nI_add, ↓x1, ↓cv_of k0 g1, ↓cv_of k1 g2, ↓reduceIte]
        exact g'
      rw [if_neg t15]
      exact next h q

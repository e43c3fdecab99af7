/-! serialise(n): the reference -/
theorem ref_sayN {h : AH} {m c : Nat} {ra : Nat → Nat} {ol : List Int32} (hB : RB h m ra) (hO : OutR h m ra ol) (hc : c < 128) : ∃ h', fX9_say (some m) (nI c) h = some ((), h') ∧ OutR h' m ra (ow ol ([c].map nI)) ∧ FrS m ra h h' := by
  obtain ⟨h1, g1, O1, F1⟩ := ref_say hB hO (nI c)
  rw [nI_b hc] at O1
  exact ⟨h1, g1, O1, F1⟩
theorem ref_esc34 {h : AH} {m : Nat} {ra : Nat → Nat} {ol : List Int32} {r3 : Option Nat → Option Nat → Int32 → Int32 → Int32 → Int32 → AH → Option (Unit × AH)} {v1 : Option Nat} {v2 v3 v4 v5 : Int32} (hB : RB h m ra) (hO : OutR h m ra ol) : ∃ h', fX9_sayEscaped_59 r3 (some m) v1 v2 v3 v4 v5 (nI 34) h = r3 (some m) v1 v2 v3 v4 (v5 + nI 1) h' ∧ OutR h' m ra (ow ol ([38, 113, 117, 111, 116, 59].map nI)) ∧ FrS m ra h h' := by
  obtain ⟨h1, g1, O1, F1⟩ := ref_sayN hB hO (show 38 < 128 by omega)
  have B1 := F1.RB hB
  obtain ⟨h2, g2, O2, F2⟩ := ref_sayN B1 O1 (show 113 < 128 by omega)
  have B2 := F2.RB B1
  obtain ⟨h3, g3, O3, F3⟩ := ref_sayN B2 O2 (show 117 < 128 by omega)
  have B3 := F3.RB B2
  obtain ⟨h4, g4, O4, F4⟩ := ref_sayN B3 O3 (show 111 < 128 by omega)
  have B4 := F4.RB B3
  obtain ⟨h5, g5, O5, F5⟩ := ref_sayN B4 O4 (show 116 < 128 by omega)
  have B5 := F5.RB B4
  obtain ⟨h6, g6, O6, F6⟩ := ref_sayN B5 O5 (show 59 < 128 by omega)
  refine ⟨h6, ?_, ?_, F1.tr (F2.tr (F3.tr (F4.tr (F5.tr F6))))⟩
  · simp (disch := omega) only [fX9_sayEscaped_59, fX9_sayEscaped_79, fX9_sayEscaped_94, fX9_sayEscaped_112, fX9_sayEscaped_130, fX9_sayEscaped_173, fX9_sayEscaped_179, eqN, Nat.reduceEqDiff, ↓reduceIte, ↓uCV, ↓oCL, Nat.reduceAdd, hB.o, B1.o, B2.o, B3.o, B4.o, B5.o, g1, g2, g3, g4, g5, g6]
  · simp only [ow_app, ← List.map_append] at O6
    exact O6
theorem ref_esc38 {h : AH} {m : Nat} {ra : Nat → Nat} {ol : List Int32} {r3 : Option Nat → Option Nat → Int32 → Int32 → Int32 → Int32 → AH → Option (Unit × AH)} {v1 : Option Nat} {v2 v3 v4 v5 : Int32} (hB : RB h m ra) (hO : OutR h m ra ol) : ∃ h', fX9_sayEscaped_59 r3 (some m) v1 v2 v3 v4 v5 (nI 38) h = r3 (some m) v1 v2 v3 v4 (v5 + nI 1) h' ∧ OutR h' m ra (ow ol ([38, 97, 109, 112, 59].map nI)) ∧ FrS m ra h h' := by
  obtain ⟨h1, g1, O1, F1⟩ := ref_sayN hB hO (show 38 < 128 by omega)
  have B1 := F1.RB hB
  obtain ⟨h2, g2, O2, F2⟩ := ref_sayN B1 O1 (show 97 < 128 by omega)
  have B2 := F2.RB B1
  obtain ⟨h3, g3, O3, F3⟩ := ref_sayN B2 O2 (show 109 < 128 by omega)
  have B3 := F3.RB B2
  obtain ⟨h4, g4, O4, F4⟩ := ref_sayN B3 O3 (show 112 < 128 by omega)
  have B4 := F4.RB B3
  obtain ⟨h5, g5, O5, F5⟩ := ref_sayN B4 O4 (show 59 < 128 by omega)
  refine ⟨h5, ?_, ?_, F1.tr (F2.tr (F3.tr (F4.tr F5)))⟩
  · simp (disch := omega) only [fX9_sayEscaped_59, fX9_sayEscaped_79, fX9_sayEscaped_94, fX9_sayEscaped_112, fX9_sayEscaped_130, fX9_sayEscaped_173, fX9_sayEscaped_179, eqN, Nat.reduceEqDiff, ↓reduceIte, ↓uCV, ↓oCL, Nat.reduceAdd, hB.o, B1.o, B2.o, B3.o, B4.o, g1, g2, g3, g4, g5]
  · simp only [ow_app, ← List.map_append] at O5
    exact O5
theorem ref_escXt {h : AH} {m c : Nat} {ra : Nat → Nat} {ol : List Int32} {r3 : Option Nat → Option Nat → Int32 → Int32 → Int32 → Int32 → AH → Option (Unit × AH)} {v1 : Option Nat} {v2 v3 v4 v5 : Int32} (hB : RB h m ra) (hO : OutR h m ra ol) (hc : c = 60 ∨ c = 62) : ∃ h', fX9_sayEscaped_59 r3 (some m) v1 v2 v3 v4 v5 (nI c) h = r3 (some m) v1 v2 v3 v4 (v5 + nI 1) h' ∧ OutR h' m ra (ow ol ([38, (if c = 60 then 108 else 103), 116, 59].map nI)) ∧ FrS m ra h h' := by
  obtain ⟨h1, g1, O1, F1⟩ := ref_sayN hB hO (show 38 < 128 by omega)
  have B1 := F1.RB hB
  obtain ⟨h2, g2, O2, F2⟩ := ref_sayN (c := if c = 60 then 108 else 103) B1 O1 (by split <;> omega)
  have B2 := F2.RB B1
  obtain ⟨h3, g3, O3, F3⟩ := ref_sayN B2 O2 (show 116 < 128 by omega)
  have B3 := F3.RB B2
  obtain ⟨h4, g4, O4, F4⟩ := ref_sayN B3 O3 (show 59 < 128 by omega)
  refine ⟨h4, ?_, ?_, F1.tr (F2.tr (F3.tr F4))⟩
  · rcases hc with rfl | rfl
    · simp only [↓reduceIte] at g2
      simp (disch := omega) only [fX9_sayEscaped_59, fX9_sayEscaped_164, fX9_sayEscaped_173, fX9_sayEscaped_179, eqN, Nat.reduceEqDiff, ↓reduceIte, ↓uCV, ↓oCL, Nat.reduceAdd, hB.o, B1.o, B2.o, B3.o, g1, g2, g3, g4]
    · simp only [Nat.reduceEqDiff, ↓reduceIte] at g2
      simp (disch := omega) only [fX9_sayEscaped_59, fX9_sayEscaped_164, fX9_sayEscaped_173, fX9_sayEscaped_179, eqN, Nat.reduceEqDiff, ↓reduceIte, ↓uCV, ↓oCL, Nat.reduceAdd, hB.o, B1.o, B2.o, B3.o, g1, g2, g3, g4]
  · simp only [ow_app, ← List.map_append] at O4
    exact O4
def rwE (raw : Bool) (l : List Nat) : List Nat := if raw = true then l else esc l
theorem ref_sayEsc_L {m a cnt n fr : Nat} {ra : Nat → Nat} {raw : Bool} {w : List Nat} (hab : a ≠ ra 4) (hw : w.length = cnt) (hcn : fr + cnt ≤ n) (hn : n < 100000) (hlo : ∀ k, w.getD k 0 < 128) : ∀ (j f i : Nat) (h : AH) (ol : List Int32), i + j = cnt → j < f → RB h m ra → OutR h m ra ol → gK h a = (101, n) → (∀ k, k < cnt → gA h a (fr + k) = nI (w.getD k 0)) →
    ∃ h', fX9_sayEscaped_3 f (some m) (some a) (nI fr) (nI cnt) (bI raw) (nI i) h = some ((), h') ∧ OutR h' m ra (ow ol ((rwE raw (w.drop i)).map nI)) ∧ FrS m ra h h' := by
  intro j
  induction j with
  | zero =>
    intro f i h ol hij hjf hB hO hka hg
    obtain ⟨f, rfl⟩ : ∃ g, f = g + 1 := ⟨f - 1, by omega⟩
    refine ⟨h, ?_, ?_, Fr.rf⟩
    · rw [fX9_sayEscaped_3]
      simp (disch := omega) only [leN, show cnt ≤ i by omega, ↓reduceIte, fX9_sayEscaped_185]
    · rw [List.drop_eq_nil_of_le (by omega)]
      have : rwE raw [] = [] := by unfold rwE; split <;> rfl
      rw [this]
      show OutR h m ra (ow ol [])
      rw [ow_nil _ hO.2.1]; exact hO
  | succ j ih =>
    intro f i h ol hij hjf hB hO hka hg
    obtain ⟨f, rfl⟩ : ∃ g, f = g + 1 := ⟨f - 1, by omega⟩
    have hc := hlo i
    have hgi := hg i (by omega)
    have key : ∃ h1, fX9_sayEscaped_3 (f + 1) (some m) (some a) (nI fr) (nI cnt) (bI raw) (nI i) h = fX9_sayEscaped_3 f (some m) (some a) (nI fr) (nI cnt) (bI raw) (nI (i + 1)) h1 ∧ OutR h1 m ra (ow ol ((if raw = true then [w.getD i 0] else escC (w.getD i 0)).map nI)) ∧ FrS m ra h h1 := by
      rw [fX9_sayEscaped_3]
      generalize w.getD i 0 = c at hc hgi
      simp (disch := omega) only [leN, show ¬ cnt ≤ i by omega, ↓reduceIte, nI_add, ↓uAL, hka, show fr + i < n by omega, and_self, hgi, eqN, bI0, Nat.reduceAdd]
      have plain : ∃ h1, fX9_sayEscaped_50 (fX9_sayEscaped_3 f) (some m) (some a) (nI fr) (nI cnt) (bI raw) (nI i) (nI c) h = fX9_sayEscaped_3 f (some m) (some a) (nI fr) (nI cnt) (bI raw) (nI (i + 1)) h1 ∧ OutR h1 m ra (ow ol ([c].map nI)) ∧ FrS m ra h h1 := by
        obtain ⟨h1, g1, O1, F1⟩ := ref_sayN hB hO hc
        exact ⟨h1, by simp only [fX9_sayEscaped_50, fX9_sayEscaped_179, ↓uCV, ↓oCL, ↓reduceIte, hB.o, g1, nI_add, Nat.reduceAdd], O1, F1⟩
      cases raw with
      | true => simp only [Bool.true_eq_false, ↓reduceIte]; exact plain
      | false =>
        simp only [↓reduceIte, Bool.false_eq_true]
        by_cases h60 : c = 60
        · subst h60
          obtain ⟨h1, g1, O1, F1⟩ := ref_escXt (r3 := fX9_sayEscaped_3 f) (v1 := some a) (v2 := nI fr) (v3 := nI cnt) (v4 := bI false) (v5 := nI i) hB hO (Or.inl rfl)
          rw [nI_add] at g1
          exact ⟨h1, by simp only [↓reduceIte]; exact g1, O1, F1⟩
        by_cases h62 : c = 62
        · subst h62
          obtain ⟨h1, g1, O1, F1⟩ := ref_escXt (r3 := fX9_sayEscaped_3 f) (v1 := some a) (v2 := nI fr) (v3 := nI cnt) (v4 := bI false) (v5 := nI i) hB hO (Or.inr rfl)
          rw [nI_add] at g1
          exact ⟨h1, by simp only [Nat.reduceEqDiff, ↓reduceIte]; exact g1, O1, F1⟩
        by_cases h38 : c = 38
        · subst h38
          obtain ⟨h1, g1, O1, F1⟩ := ref_esc38 (r3 := fX9_sayEscaped_3 f) (v1 := some a) (v2 := nI fr) (v3 := nI cnt) (v4 := bI false) (v5 := nI i) hB hO
          rw [nI_add] at g1
          exact ⟨h1, by simp only [Nat.reduceEqDiff, ↓reduceIte]; exact g1, O1, F1⟩
        by_cases h34 : c = 34
        · subst h34
          obtain ⟨h1, g1, O1, F1⟩ := ref_esc34 (r3 := fX9_sayEscaped_3 f) (v1 := some a) (v2 := nI fr) (v3 := nI cnt) (v4 := bI false) (v5 := nI i) hB hO
          rw [nI_add] at g1
          exact ⟨h1, by simp only [Nat.reduceEqDiff, ↓reduceIte]; exact g1, O1, F1⟩
        simp only [h60, h62, h38, h34, ↓reduceIte]
        unfold escC
        rw [if_neg h34, if_neg h38, if_neg h60, if_neg h62]
        exact plain
    obtain ⟨h1, g1, O1, F1⟩ := key
    obtain ⟨h2, g2, O2, F2⟩ := ih f (i + 1) h1 _ (by omega) (by omega) (F1.RB hB) O1 (by rw [F1.2.2.2.2.2.1]; exact hka) (fun k hk => by rw [F1.2.2.2.1 _ _ hab]; exact hg k hk)
    refine ⟨h2, g1.trans g2, ?_, F1.tr F2⟩
    rw [ow_app, ← List.map_append] at O2
    rw [drop_cons 0 (show i < w.length by omega)]
    have e : rwE raw (w.getD i 0 :: w.drop (i + 1)) = (if raw = true then [w.getD i 0] else escC (w.getD i 0)) ++ rwE raw (w.drop (i + 1)) := by
      unfold rwE
      cases raw <;> rfl
    rw [e]
    exact O2
theorem ref_sayEsc {h : AH} {m a n fr : Nat} {ra : Nat → Nat} {ol : List Int32} {raw : Bool} {w : List Nat} (hB : RB h m ra) (hO : OutR h m ra ol) (hab : a ≠ ra 4) (hcn : fr + w.length ≤ n) (hn : n < 100000) (hlo : ∀ k, w.getD k 0 < 128) (hka : gK h a = (101, n)) (hg : ∀ k, k < w.length → gA h a (fr + k) = nI (w.getD k 0)) : ∃ h', fX9_sayEscaped (some m) (some a) (nI fr) (nI w.length) (bI raw) h = some ((), h') ∧ OutR h' m ra (ow ol ((rwE raw w).map nI)) ∧ FrS m ra h h' := by
  obtain ⟨h1, g1, O1, F1⟩ := ref_sayEsc_L (raw := raw) hab rfl hcn hn hlo w.length FU 0 h ol (by omega) (by have := FU_ge; omega) hB hO hka hg
  exact ⟨h1, g1, O1, F1⟩
theorem ref_sayNm {h : AH} {m a n fr : Nat} {ra : Nat → Nat} {ol : List Int32} {w : List Nat} (hB : RB h m ra) (hO : OutR h m ra ol) (hab : a ≠ ra 4) (hcn : fr + w.length ≤ n) (hn : n < 100000) (hlo : vch w) (hka : gK h a = (101, n)) (hg : ∀ k, k < w.length → gA h a (fr + k) = nI (w.getD k 0)) : ∃ h', fX9_sayAll (some m) (some a) (nI fr) (nI w.length) h = some ((), h') ∧ OutR h' m ra (ow ol (w.map nI)) ∧ FrS m ra h h' := by
  obtain ⟨h1, g1, O1, F1⟩ := ref_sayAll (w := w.map nI) (fr := fr) hB hO hab (by rw [List.length_map]; exact hcn) hn (fun c hc => by
    obtain ⟨d, hd, rfl⟩ := List.mem_map.mp hc
    exact nI_b (hlo d hd).2) hka (fun k hk => by
    rw [List.length_map] at hk
    rw [hg k hk, gD_in hk, gD_in (by rw [List.length_map]; exact hk), List.getElem_map])
  rw [List.length_map] at g1
  exact ⟨h1, g1, O1, F1⟩
theorem RefT.fs {h h' : AH} {m : Nat} {ra : Nat → Nat} {T : TS} (q : RefT h m ra T) (hB : RB h m ra) (F : FrS m ra h h') : RefT h' m ra T := q.fr F (by omega) (fun k h6 h23 z => by rw [hB.i] at z; omega)
theorem ref_atW_L {m i : Nat} {ra : Nat → Nat} {T : TS} (hS : SizT T) (hu : tIs T i = true) : ∀ (k f j : Nat) (h : AH) (ol : List Int32), j + k = (tAtt T i).length → k < f → RB h m ra → RefT h m ra T → OutR h m ra ol →
    ∃ h', fX9_sayBegin_28 f (some m) (nI i) (nI (4 * i + j)) h = some ((), h') ∧ OutR h' m ra (ow ol ((atW ((tAtt T i).drop j) ++ [62]).map nI)) ∧ FrS m ra h h' := by
  have hi := hS.lt hu
  have hAS := (hS.2 i hu).at
  have hL4 := hAS.1
  intro k
  induction k with
  | zero =>
    intro f j h ol hjk hkf hB hR hO
    obtain ⟨f, rfl⟩ : ∃ g, f = g + 1 := ⟨f - 1, by omega⟩
    obtain ⟨a0, a1⟩ := (hR.2 i hi).at hu
    obtain ⟨h1, g1, O1, F1⟩ := ref_sayN hB hO (show 62 < 128 by omega)
    refine ⟨h1, ?_, ?_, F1⟩
    · rw [fX9_sayBegin_28]
      simp (disch := omega) only [↓gr_of hB.o hB.r16, ↓al_of hB.k16 hi (by omega) a0, nI_mul, nI_add, leN, show 4 * i + (tAtt T i).length ≤ 4 * i + j by omega, ↓reduceIte, fX9_sayBegin_109, ↓cv_of hB.o g1]
    · rw [List.drop_eq_nil_of_le (by omega)]; exact O1
  | succ k ih =>
    intro f j h ol hjk hkf hB hR hO
    obtain ⟨f, rfl⟩ : ∃ g, f = g + 1 := ⟨f - 1, by omega⟩
    have hj : j < (tAtt T i).length := by omega
    obtain ⟨a0, a1⟩ := (hR.2 i hi).at hu
    obtain ⟨z1, z2, z3, z4⟩ := hAS.get hj
    obtain ⟨h1, g1, O1, F1⟩ := ref_sayN hB hO (show 32 < 128 by omega)
    have B1 := F1.RB hB
    obtain ⟨c1, c2, c3, c4⟩ := ((((hR.fs hB F1).2 i hi).at hu).2) j hj
    obtain ⟨h2, g2, O2, F2⟩ := ref_sayNm (a := ra 17) (n := 3840) (fr := 8 * (4 * i + j)) B1 O1 (fun q => by rw [hB.i] at q; omega) (by omega) (by omega) z2 B1.k17 c2
    have B2 := F2.RB B1
    obtain ⟨h3, g3, O3, F3⟩ := ref_sayN B2 O2 (show 61 < 128 by omega)
    have B3 := F3.RB B2
    obtain ⟨h4, g4, O4, F4⟩ := ref_sayN B3 O3 (show 34 < 128 by omega)
    have B4 := F4.RB B3
    have F14 := F1.tr (F2.tr (F3.tr F4))
    obtain ⟨d1, d2, d3, d4⟩ := ((((hR.fs hB F14).2 i hi).at hu).2) j hj
    obtain ⟨h5, g5, O5, F5⟩ := ref_sayEsc (raw := false) (a := ra 19) (n := 28800) (fr := 60 * (4 * i + j)) B4 O4 (fun q => by rw [hB.i] at q; omega) (by omega) (by omega) (bch_get z4) B4.k19 d4
    have B5 := F5.RB B4
    obtain ⟨h6, g6, O6, F6⟩ := ref_sayN B5 O5 (show 34 < 128 by omega)
    have F16 := F14.tr (F5.tr F6)
    obtain ⟨h7, g7, O7, F7⟩ := ih f (j + 1) h6 _ (by omega) (by omega) (F6.RB B5) (hR.fs hB F16) O6
    refine ⟨h7, ?_, ?_, F16.tr F7⟩
    · rw [fX9_sayBegin_28]
      have e0 : nI 0 = bI false := rfl
      simp (disch := omega) only [↓gr_of hB.o hB.r16, ↓al_of hB.k16 hi (by omega) a0, nI_mul, nI_add, leN, show ¬ 4 * i + (tAtt T i).length ≤ 4 * i + j by omega, ↓reduceIte, ↓cv_of hB.o g1, ↓gr_of B1.o B1.r17, ↓gr_of B1.o B1.r18, ↓al_of B1.k18 (show 4 * i + j < 480 by omega) (by omega) c1, ↓cv_of B1.o g2, ↓cv_of B2.o g3, ↓cv_of B3.o g4, ↓gr_of B4.o B4.r19, ↓gr_of B4.o B4.r20, ↓al_of B4.k20 (show 4 * i + j < 480 by omega) (by omega) d3, e0]
      simp (disch := omega) only [↓cv_of B4.o g5, ↓cv_of B5.o g6, nI_add]
      exact g7
    · simp only [ow_app, ← List.map_append] at O7
      rw [drop_cons ([], []) hj]
      show OutR h7 m ra (ow ol ((([32] ++ ((tAtt T i).getD j ([], [])).1 ++ [61] ++ [34] ++ esc ((tAtt T i).getD j ([], [])).2 ++ [34]) ++ atW ((tAtt T i).drop (j + 1)) ++ [62]).map nI))
      have er : rwE false ((tAtt T i).getD j ([], [])).2 = esc ((tAtt T i).getD j ([], [])).2 := rfl
      rw [er] at O7
      simpa only [List.append_assoc] using O7
theorem ref_bgW {h : AH} {m i : Nat} {ra : Nat → Nat} {T : TS} {ol : List Int32} (hS : SizT T) (hu : tIs T i = true) (hB : RB h m ra) (hR : RefT h m ra T) (hO : OutR h m ra ol) :
    ∃ h', fX9_sayBegin (some m) (nI i) h = some ((), h') ∧ OutR h' m ra (ow ol ((bgW T i).map nI)) ∧ FrS m ra h h' := by
  have hi := hS.lt hu
  obtain ⟨s1, s2, s3, -⟩ := hS.2 i hu
  obtain ⟨h1, g1, O1, F1⟩ := ref_sayN hB hO (show 60 < 128 by omega)
  have B1 := F1.RB hB
  obtain ⟨w1, w2, w3, -⟩ := ((hR.fs hB F1).2 i hi).2 hu
  obtain ⟨h2, g2, O2, F2⟩ := ref_sayNm (a := ra 8) (n := 960) (fr := 8 * i) B1 O1 (fun q => by rw [hB.i] at q; omega) (by omega) (by omega) s3 B1.k8 w3
  have F12 := F1.tr F2
  obtain ⟨h3, g3, O3, F3⟩ := ref_atW_L hS hu (tAtt T i).length FU 0 h2 _ (by omega) (by have := FU_ge; have := (hS.2 i hu).2.2.2.1; omega) (F2.RB B1) (hR.fs hB F12) O2
  refine ⟨h3, ?_, ?_, F12.tr F3⟩
  · simp only [fX9_sayBegin, fX9_sayBegin_0]
    simp (disch := omega) only [↓uGR, ↓uAL, ↓uCV, ↓oCL, ↓reduceIte, hB.o, g1, B1.o, B1.r8, B1.r9, B1.k9, hi, w2, and_self, nI_mul, g2, Nat.reduceAdd]
    exact g3
  · simp only [ow_app, ← List.map_append] at O3
    unfold bgW
    simpa only [List.append_assoc, List.drop_zero] using O3
theorem ref_enW {h : AH} {m i : Nat} {ra : Nat → Nat} {T : TS} {ol : List Int32} (hS : SizT T) (hu : tIs T i = true) (hB : RB h m ra) (hR : RefT h m ra T) (hO : OutR h m ra ol) :
    ∃ h', fX9_sayEnd (some m) (nI i) h = some ((), h') ∧ OutR h' m ra (ow ol ((enW T i).map nI)) ∧ FrS m ra h h' := by
  have hi := hS.lt hu
  obtain ⟨s1, s2, s3, -⟩ := hS.2 i hu
  obtain ⟨w1, -⟩ := (hR.2 i hi).2 hu
  simp only [fX9_sayEnd, fX9_sayEnd_0]
  simp (disch := omega) only [↓uGR, ↓uAL, hB.o, hB.r7, hB.k7, hi, w1, and_self, ↓reduceIte, ref_isEm, ↓oCL, bI0, Nat.reduceAdd]
  unfold enW
  cases hem : isEm (tTag T i) with
  | true =>
    refine ⟨h, by simp only [Bool.true_eq_false, ↓reduceIte], ?_, Fr.rf⟩
    show OutR h m ra (ow ol [])
    rw [ow_nil _ hO.2.1]; exact hO
  | false =>
    obtain ⟨h1, g1, O1, F1⟩ := ref_sayN hB hO (show 60 < 128 by omega)
    have B1 := F1.RB hB
    obtain ⟨h2, g2, O2, F2⟩ := ref_sayN B1 O1 (show 47 < 128 by omega)
    have B2 := F2.RB B1
    have F12 := F1.tr F2
    obtain ⟨-, w2, w3, -⟩ := ((hR.fs hB F12).2 i hi).2 hu
    obtain ⟨h3, g3, O3, F3⟩ := ref_sayNm (a := ra 8) (n := 960) (fr := 8 * i) B2 O2 (fun q => by rw [hB.i] at q; omega) (by omega) (by omega) s3 B2.k8 w3
    have B3 := F3.RB B2
    obtain ⟨h4, g4, O4, F4⟩ := ref_sayN B3 O3 (show 62 < 128 by omega)
    refine ⟨h4, ?_, ?_, F12.tr (F3.tr F4)⟩
    · simp (disch := omega) only [↓uGR, ↓uAL, ↓uCV, ↓oCL, ↓reduceIte, hB.o, g1, B1.o, g2, B2.o, B2.r8, B2.r9, B2.k9, hi, w2, and_self, nI_mul, g3, B3.o, g4, Nat.reduceAdd]
    · simp only [ow_app, ← List.map_append] at O4
      simp only [Bool.false_eq_true, ↓reduceIte]
      simpa only [List.append_assoc] using O4
/-- the walk: below a NODE, and back to it -/
theorem ref_walk {m top : Nat} {ra : Nat → Nat} {T : TS} {kd : Nat → List Nat} (w : Wf T kd) (hS : SizT T) (htop : top < 120) : ∀ (g i f : Nat) (h : AH) (ol : List Int32), tIs T i = true → tDep T top ≤ tDep T i → 20 ≤ tDep T i + g → g ≤ 20 → (pre kd g i).length < f → RB h m ra → RefT h m ra T → OutR h m ra ol →
    ∃ h' n, fX9_serialise_19 f (some m) (nI top) (nI i) (nI 1) h = fX9_serialise_128 (fX9_serialise_19 (f - (pre kd g i).length)) n (some m) (nI top) (nI i) h' ∧ FU ≤ n + g ∧ OutR h' m ra (ow ol ((wN T kd g i).map nI)) ∧ FrS m ra h h' := by
  have text : ∀ (g i f : Nat) (h : AH) (ol : List Int32), tIs T i = true → tTag T i = 17 → RB h m ra → RefT h m ra T → OutR h m ra ol → ∃ h', fX9_serialise_19 (f + 1) (some m) (nI top) (nI i) (nI 1) h = fX9_serialise_128 (fX9_serialise_19 f) FU (some m) (nI top) (nI i) h' ∧ OutR h' m ra (ow ol ((txW T i).map nI)) ∧ FrS m ra h h' := by
    intro g i f h ol hu h17 hB hR hO
    have hi := hS.lt hu
    obtain ⟨s1, s2, s3, s4, s5, s6, s7, -⟩ := hS.2 i hu
    obtain ⟨w1, -, -, w4, w5, -, -, -, -, -, -, w12, w13, -⟩ := (hR.2 i hi).2 hu
    rw [h17] at w1
    obtain ⟨h1, g1, O1, F1⟩ := ref_sayEsc (raw := rwT T i) (a := ra 21) (n := 48000) (fr := 400 * i) hB hO (fun q => by rw [hB.i] at q; omega) (by omega) (by omega) (bch_get s7) hB.k21 w13
    have B1 := F1.RB hB
    have R1 := hR.fs hB F1
    obtain ⟨x1, -, -, -, x5, -⟩ := (R1.2 i hi).2 hu
    have hfk : tFk T i = none := by
      have := w.lk hu
      rw [((w.2.2.2.2.2.2.2.1 i hu).1 h17).1] at this
      exact this.1
    rw [h17] at x1
    rw [hfk] at x5
    have tail : fX9_serialise_92 (fX9_serialise_19 f) (some m) (nI top) (nI i) (nI 1) h1 = fX9_serialise_128 (fX9_serialise_19 f) FU (some m) (nI top) (nI i) h1 := by
      simp only [fX9_serialise_92]
      simp (disch := omega) only [↓uGR, ↓uAL, B1.o, B1.r11, B1.k11, B1.r7, B1.k7, hi, x1, x5, oI_n, and_self, ↓reduceIte, Nat.reduceAdd]
    refine ⟨h1, ?_, ?_, F1⟩
    · rw [← tail, fX9_serialise_19]
      have e0 : nI 0 = bI false := rfl
      have e1 : nI 1 = bI true := rfl
      unfold rwT at g1
      cases hp : tPar T i with
      | none =>
        rw [hp] at w4 g1
        simp (disch := omega) only [eq0n, Nat.reduceEqDiff, ↓reduceIte, ↓uGR, ↓uAL, hB.o, hB.r7, hB.k7, hB.r21, hB.r22, hB.k22, hB.r10, hB.k10, hi, w1, w4, w12, oI_n, and_self, Nat.reduceAdd, fX9_serialise_80, fX9_serialise_81, nI_mul, ↓uCV, ↓oCL]
        rw [e0, g1]
        simp only [↓oCL]
      | some p =>
        rw [hp] at w4 g1
        have up := w.links hu (Or.inl hp)
        have pl := hS.lt up
        obtain ⟨p1, -⟩ := (hR.2 p pl).2 up
        have sp := (hS.2 p up).1
        by_cases h15 : tTag T p = 15
        · simp only [h15, decide_true] at g1
          rw [← e1] at g1
          simp (disch := omega) only [eq0n, eqM1, eqN, Nat.reduceEqDiff, ↓reduceIte, ↓uGR, ↓uAL, hB.o, hB.r7, hB.k7, hB.r21, hB.r22, hB.k22, hB.r10, hB.k10, hi, pl, w1, w4, w12, p1, h15, oI_s, and_self, Nat.reduceAdd, fX9_serialise_80, fX9_serialise_81, nI_mul, ↓uCV, g1, ↓oCL]
        · simp only [h15, decide_false] at g1
          rw [← e0] at g1
          simp (disch := omega) only [eq0n, eqM1, eqN, Nat.reduceEqDiff, ↓reduceIte, ↓uGR, ↓uAL, hB.o, hB.r7, hB.k7, hB.r21, hB.r22, hB.k22, hB.r10, hB.k10, hi, pl, w1, w4, w12, p1, h15, oI_s, and_self, Nat.reduceAdd, fX9_serialise_80, fX9_serialise_81, nI_mul, ↓uCV, g1, ↓oCL]
    · exact O1
  have elem : ∀ (i f : Nat) (h : AH) (ol : List Int32), tIs T i = true → tTag T i ≠ 17 → RB h m ra → RefT h m ra T → OutR h m ra ol → ∃ h', fX9_serialise_19 (f + 1) (some m) (nI top) (nI i) (nI 1) h = fX9_serialise_92 (fX9_serialise_19 f) (some m) (nI top) (nI i) (nI 1) h' ∧ OutR h' m ra (ow ol ((bgW T i).map nI)) ∧ FrS m ra h h' := by
    intro i f h ol hu h17 hB hR hO
    have hi := hS.lt hu
    have s1 := (hS.2 i hu).1
    obtain ⟨w1, -⟩ := (hR.2 i hi).2 hu
    obtain ⟨h1, g1, O1, F1⟩ := ref_bgW hS hu hB hR hO
    refine ⟨h1, ?_, O1, F1⟩
    rw [fX9_serialise_19]
    simp (disch := omega) only [eq0n, eqN, h17, Nat.reduceEqDiff, ↓reduceIte, ↓uGR, ↓uAL, hB.o, hB.r7, hB.k7, hi, w1, and_self, ↓uCV, g1, ↓oCL, Nat.reduceAdd]
  have bare : ∀ (i f : Nat) (h : AH) (ol : List Int32), tIs T i = true → tTag T i ≠ 17 → tFk T i = none → RB h m ra → RefT h m ra T → OutR h m ra ol → ∃ h', fX9_serialise_92 (fX9_serialise_19 f) (some m) (nI top) (nI i) (nI 1) h = fX9_serialise_128 (fX9_serialise_19 f) FU (some m) (nI top) (nI i) h' ∧ OutR h' m ra (ow ol ((enW T i).map nI)) ∧ FrS m ra h h' := by
    intro i f h ol hu h17 hfk hB hR hO
    have hi := hS.lt hu
    have s1 := (hS.2 i hu).1
    obtain ⟨w1, -, -, -, w5, -⟩ := (hR.2 i hi).2 hu
    rw [hfk] at w5
    obtain ⟨h1, g1, O1, F1⟩ := ref_enW hS hu hB hR hO
    refine ⟨h1, ?_, O1, F1⟩
    simp only [fX9_serialise_92]
    simp (disch := omega) only [eqN, h17, ↓reduceIte, ↓uGR, ↓uAL, hB.o, hB.r7, hB.k7, hB.r11, hB.k11, hi, w1, w5, oI_n, and_self, ↓uCV, g1, ↓oCL, Nat.reduceAdd]
  intro g
  induction g with
  | zero =>
    intro i f h ol hu hdt hd hg20 hf hB hR hO
    have e1 : (pre kd 0 i).length = 1 := rfl
    rw [e1] at hf ⊢
    obtain ⟨f, rfl⟩ : ∃ q, f = q + 1 := ⟨f - 1, by omega⟩
    rw [Nat.add_sub_cancel]
    unfold wN
    by_cases h17 : tTag T i = 17
    · obtain ⟨h1, g1, O1, F1⟩ := text 0 i f h ol hu h17 hB hR hO
      exact ⟨h1, FU, g1, by omega, by rw [if_pos h17]; exact O1, F1⟩
    · obtain ⟨h1, g1, O1, F1⟩ := elem i f h ol hu h17 hB hR hO
      have hlk := w.lk hu
      rw [w.leaf hS hu (by omega)] at hlk
      obtain ⟨h2, g2, O2, F2⟩ := bare i f h1 _ hu h17 hlk.1 (F1.RB hB) (hR.fs hB F1) O1
      refine ⟨h2, FU, g1.trans g2, by omega, ?_, F1.tr F2⟩
      rw [ow_app, ← List.map_append] at O2
      rw [if_neg h17]
      exact O2
  | succ g ih =>
    intro i f h ol hu hdt hd hg20 hf hB hR hO
    have hi := hS.lt hu
    have hlen : (pre kd (g + 1) i).length = 1 + ((kd i).flatMap (pre kd g)).length := by
      show (i :: (kd i).flatMap (pre kd g)).length = _
      rw [List.length_cons]; omega
    rw [hlen] at hf ⊢
    obtain ⟨f, rfl⟩ : ∃ q, f = q + 1 := ⟨f - 1, by omega⟩
    rw [show f + 1 - (1 + ((kd i).flatMap (pre kd g)).length) = f - ((kd i).flatMap (pre kd g)).length by omega]
    unfold wN
    by_cases h17 : tTag T i = 17
    · obtain ⟨h1, g1, O1, F1⟩ := text 0 i f h ol hu h17 hB hR hO
      have hk0 := ((w.2.2.2.2.2.2.2.1 i hu).1 h17).1
      refine ⟨h1, FU, ?_, by omega, by rw [if_pos h17]; exact O1, F1⟩
      rw [hk0]
      exact g1
    · obtain ⟨h1, g1, O1, F1⟩ := elem i f h ol hu h17 hB hR hO
      have B1 := F1.RB hB
      have R1 := hR.fs hB F1
      have hlk := w.lk hu
      rw [if_neg h17]
      cases hk : kd i with
      | nil =>
        rw [hk] at hlk
        obtain ⟨h2, g2, O2, F2⟩ := bare i f h1 _ hu h17 hlk.1 B1 R1 O1
        refine ⟨h2, FU, g1.trans g2, by omega, ?_, F1.tr F2⟩
        rw [ow_app, ← List.map_append] at O2
        exact O2
      | cons x l =>
        rw [hk] at hlk hf
        -- the kids
        have kids : ∀ (l : List Nat) (b : Option Nat) (x f : Nat) (h : AH) (ol : List Int32), Lk T (x :: l) b (some x) (tLk T i) → (∀ y ∈ x :: l, y ∈ kd i) → ((x :: l).flatMap (pre kd g)).length < f → RB h m ra → RefT h m ra T → OutR h m ra ol → ∃ h' n, fX9_serialise_19 f (some m) (nI top) (nI x) (nI 1) h = fX9_serialise_128 (fX9_serialise_19 (f - ((x :: l).flatMap (pre kd g)).length)) n (some m) (nI top) (nI i) h' ∧ FU ≤ n + (g + 1) ∧ OutR h' m ra (ow ol (((x :: l).flatMap (wN T kd g) ++ enW T i).map nI)) ∧ FrS m ra h h' := by
          intro l
          induction l with
          | nil =>
            intro b x f h ol hL hm hf hB hR hO
            have hx := hm x List.mem_cons_self
            obtain ⟨ux, px, dx⟩ := w.kid hu hx
            have xl := hS.lt ux
            have hnx : tNx T x = none := hL.2.2.1
            rw [List.flatMap_cons, List.flatMap_nil, List.append_nil] at hf ⊢
            obtain ⟨h1, n, g1, n1, O1, F1⟩ := ih x f h ol ux (by omega) (by omega) (by omega) hf hB hR hO
            have B1 := F1.RB hB
            have R1 := hR.fs hB F1
            obtain ⟨-, -, -, w4, -, -, w7, -⟩ := (R1.2 x xl).2 ux
            rw [px] at w4
            rw [hnx] at w7
            obtain ⟨h2, g2, O2, F2⟩ := ref_enW hS hu B1 R1 O1
            have := FU_ge
            obtain ⟨n, rfl⟩ : ∃ q, n = q + 1 := ⟨n - 1, by omega⟩
            refine ⟨h2, n, ?_, by omega, ?_, F1.tr F2⟩
            · rw [g1, fX9_serialise_128]
              simp (disch := omega) only [eqN, show ¬ x = top from fun z => by subst z; omega, ↓reduceIte, ↓uGR, ↓uAL, B1.o, B1.r13, B1.k13, B1.r10, B1.k10, xl, w4, w7, oI_n, oI_s, and_self, ↓uCV, g2, ↓oCL, Nat.reduceAdd]
            · rw [ow_app, ← List.map_append] at O2
              rw [List.flatMap_cons, List.flatMap_nil, List.append_nil]
              exact O2
          | cons y l ihl =>
            intro b x f h ol hL hm hf hB hR hO
            have hx := hm x List.mem_cons_self
            obtain ⟨ux, px, dx⟩ := w.kid hu hx
            have xl := hS.lt ux
            have hL2 := hL.2.2
            have hnx : tNx T x = some y := hL2.1
            rw [hnx] at hL2
            have hy := hm y (List.mem_cons_of_mem _ List.mem_cons_self)
            obtain ⟨uy, -⟩ := w.kid hu hy
            have yl := hS.lt uy
            rw [List.flatMap_cons, List.length_append] at hf ⊢
            obtain ⟨h1, n, g1, n1, O1, F1⟩ := ih x f h ol ux (by omega) (by omega) (by omega) (by omega) hB hR hO
            have B1 := F1.RB hB
            have R1 := hR.fs hB F1
            obtain ⟨-, -, -, -, -, -, w7, -⟩ := (R1.2 x xl).2 ux
            rw [hnx] at w7
            obtain ⟨h2, n2, g2, n3, O2, F2⟩ := ihl (some x) y (f - (pre kd g x).length) h1 _ hL2 (fun z hz => hm z (List.mem_cons_of_mem _ hz)) (by omega) B1 R1 O1
            obtain ⟨n, rfl⟩ : ∃ q, n = q + 1 := ⟨n - 1, by have := FU_ge; omega⟩
            refine ⟨h2, n2, ?_, n3, ?_, F1.tr F2⟩
            · rw [g1, fX9_serialise_128]
              simp (disch := omega) only [eqN, show ¬ x = top from fun z => by subst z; omega, ↓reduceIte, ↓uGR, ↓uAL, B1.o, B1.r13, B1.k13, xl, w7, oI_s, eqM1, and_self, Nat.reduceAdd, fX9_serialise_158, fX9_serialise_168, fX9_serialise_183, eq0n, Nat.reduceEqDiff]
              rw [g2]
              congr 2
              omega
            · rw [ow_app, ← List.map_append, ← List.append_assoc] at O2
              rw [List.flatMap_cons]
              exact O2
        have hfk : tFk T i = some x := hlk.1
        rw [hfk] at hlk
        have xl := hS.lt (w.links hu (Or.inr (Or.inl hfk)))
        obtain ⟨-, -, -, -, w5, -⟩ := (R1.2 i hi).2 hu
        rw [hfk] at w5
        obtain ⟨h2, n, g2, n1, O2, F2⟩ := kids l none x f h1 _ hlk (fun y hy => by rw [hk]; exact hy) (by omega) B1 R1 O1
        refine ⟨h2, n, ?_, n1, ?_, F1.tr F2⟩
        · rw [g1]
          simp only [fX9_serialise_92]
          simp (disch := omega) only [↓uGR, ↓uAL, B1.o, B1.r11, B1.k11, hi, w5, oI_s, eqM1, and_self, ↓reduceIte, Nat.reduceAdd]
          exact g2
        · rw [ow_app, ← List.map_append] at O2
          exact O2
theorem ref_serialise {h : AH} {m : Nat} {ra : Nat → Nat} {T : TS} {kd : Nat → List Nat} {ol : List Int32} (w : Wf T kd) (hS : SizT T) (hB : RB h m ra) (hR : RefT h m ra T) (hO : OutR h m ra ol) (v : Int32) :
    ∃ h', fX9_serialise (some m) v h = some (seV T kd v, h') ∧ OutR h' m ra (seO T kd ol v) ∧ FrS m ra h h' := by
  simp only [fX9_serialise, fX9_serialise_0]
  simp only [↓uCV, hB.o, ref_there hB hR, ↓oCL, bI0, ↓reduceIte, Nat.reduceAdd]
  unfold seV seO
  cases hn : nAt T v with
  | none => exact ⟨h, by simp only [Option.isSome_none, ↓reduceIte], hO, Fr.rf⟩
  | some i =>
    obtain ⟨hi, hu, rfl⟩ := nAt_some hn
    have F0 : FrS m ra h (pI h 455 m (nI 0)) := Fr.pI Fr.rf ⟨rfl, rfl⟩
    have hl := pre_len w hS hu
    have hfu := FU_ge
    obtain ⟨h1, n, g1, n1, O1, F1⟩ := ref_walk w hS hi 20 i FU (pI h 455 m (nI 0)) [] hu (by omega) (by omega) (by omega) (by omega) (F0.RB hB) (hR.fs hB F0) OutR.clear
    have B1 := F1.RB (F0.RB hB)
    obtain ⟨n, rfl⟩ : ∃ q, n = q + 1 := ⟨n - 1, by omega⟩
    obtain ⟨f, hf⟩ : ∃ q, FU - (pre kd 20 i).length = q + 1 := ⟨FU - (pre kd 20 i).length - 1, by omega⟩
    refine ⟨h1, ?_, O1, F0.tr F1⟩
    simp only [Option.isSome_some, Bool.true_eq_false, ↓reduceIte, ↓uPI, hB.o, Nat.reduceAdd]
    rw [g1, hf, fX9_serialise_128]
    simp only [↓reduceIte, fX9_serialise_158, fX9_serialise_168, fX9_serialise_183]
    rw [if_pos (show nI 0 = (0 : Int32) from rfl), fX9_serialise_19, if_pos (show nI 0 = (0 : Int32) from rfl)]
    simp only [fX9_serialise_187, ↓gi_of B1.o O1.1]

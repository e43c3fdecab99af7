/-! serialise(n): what is written, and the class -/
def escC (c : Nat) : List Nat := if c = 34 then [38, 113, 117, 111, 116, 59] else if c = 38 then [38, 97, 109, 112, 59] else if c = 60 then [38, 108, 116, 59] else if c = 62 then [38, 103, 116, 59] else [c]
def esc (l : List Nat) : List Nat := l.flatMap escC
def atW (L : AttL) : List Nat := L.flatMap (fun q => [32] ++ q.1 ++ [61] ++ [34] ++ esc q.2 ++ [34])
def bgW (T : TS) (i : Nat) : List Nat := [60] ++ tNam T i ++ (atW (tAtt T i) ++ [62])
def enW (T : TS) (i : Nat) : List Nat := if isEm (tTag T i) = true then [] else [60] ++ [47] ++ tNam T i ++ [62]
def rwT (T : TS) (i : Nat) : Bool := match tPar T i with
  | none => false
  | some p => decide (tTag T p = 15)
def txW (T : TS) (i : Nat) : List Nat := if rwT T i = true then tTxt T i else esc (tTxt T i)
def wN (T : TS) (kd : Nat → List Nat) : Nat → Nat → List Nat
  | 0, i => if tTag T i = 17 then txW T i else bgW T i ++ enW T i
  | g + 1, i => if tTag T i = 17 then txW T i else bgW T i ++ ((kd i).flatMap (wN T kd g) ++ enW T i)
theorem cls_putN {h : AH} {o b c : Nat} {ol : List Int32} (hO : OutC h o b ol) (hc : c < 128) : ∃ h', fX4_put (some o) (nI c) h = some ((), h') ∧ OutC h' o b (ow ol ([c].map nI)) ∧ FrO o b h h' := by
  obtain ⟨h1, g1, O1, F1⟩ := cls_put hO (nI c)
  rw [nI_b hc] at O1
  exact ⟨h1, g1, O1, F1⟩
theorem sr_len_t : ∀ w, w < 8 → sr_len.getD w 0 = (sr_txt.getD w []).length := by decide +kernel
theorem cls_putWord_L {o b w : Nat} (hw : w < 8) : ∀ (k f p : Nat) (h : AH) (ol : List Int32), p + k = (sr_txt.getD w []).length → k < f → OutC h o b ol → ∃ h', fX4_putWord_2 f (some o) w (nI p) h = some ((), h') ∧ OutC h' o b (ow ol (((sr_txt.getD w []).drop p).map (fun v => v.toInt8.toInt32))) ∧ FrO o b h h' := by
  have hl := sr_len_t w hw
  have hl2 := sr_len_ok w hw
  rw [hl] at hl2
  intro k
  induction k with
  | zero =>
    intro f p h ol hpk hkf hO
    obtain ⟨f, rfl⟩ : ∃ g, f = g + 1 := ⟨f - 1, by omega⟩
    refine ⟨h, ?_, ?_, Fr.rf⟩
    · rw [fX4_putWord_2, oSN hw, hl]
      simp (disch := omega) only [leN, show (sr_txt.getD w []).length ≤ p by omega, ↓reduceIte, fX4_putWord_25]
    · rw [List.drop_eq_nil_of_le (by omega)]
      show OutC h o b (ow ol [])
      rw [ow_nil _ hO.2.2.2.2.1]; exact hO
  | succ k ih =>
    intro f p h ol hpk hkf hO
    obtain ⟨f, rfl⟩ : ∃ g, f = g + 1 := ⟨f - 1, by omega⟩
    obtain ⟨h1, g1, O1, F1⟩ := cls_put hO (sr_ch w p)
    obtain ⟨h2, g2, O2, F2⟩ := ih f (p + 1) h1 _ (by omega) (by omega) O1
    refine ⟨h2, ?_, ?_, F1.tr F2⟩
    · rw [fX4_putWord_2, oSN hw, hl]
      simp (disch := omega) only [leN, show ¬ (sr_txt.getD w []).length ≤ p by omega, ↓reduceIte]
      rw [oSC hw (by rw [hl]; omega)]
      simp only [↓uCV, hO.1, ↓reduceIte, g1, ↓oCL, nI_add, Nat.reduceAdd]
      exact g2
    · rw [ow_app] at O2
      rw [drop_cons 0 (show p < (sr_txt.getD w []).length by omega)]
      exact O2
theorem cls_putWord {h : AH} {o b w : Nat} {ol : List Int32} {l : List Nat} (hO : OutC h o b ol) (hw : w < 8) (hl : (sr_txt.getD w []).map (fun v => v.toInt8.toInt32) = l.map nI) : ∃ h', fX4_putWord (some o) w h = some ((), h') ∧ OutC h' o b (ow ol (l.map nI)) ∧ FrO o b h h' := by
  have hl2 := sr_len_ok w hw
  rw [sr_len_t w hw] at hl2
  obtain ⟨h1, g1, O1, F1⟩ := cls_putWord_L hw (sr_txt.getD w []).length FU 0 h ol (by omega) (by have := FU_ge; omega) hO
  rw [List.drop_zero, hl] at O1
  exact ⟨h1, g1, O1, F1⟩
theorem w_lt : (sr_txt.getD 1 []).map (fun v => v.toInt8.toInt32) = [38, 108, 116, 59].map nI := by decide +kernel
theorem w_gt : (sr_txt.getD 2 []).map (fun v => v.toInt8.toInt32) = [38, 103, 116, 59].map nI := by decide +kernel
theorem w_amp : (sr_txt.getD 3 []).map (fun v => v.toInt8.toInt32) = [38, 97, 109, 112, 59].map nI := by decide +kernel
theorem w_quot : (sr_txt.getD 4 []).map (fun v => v.toInt8.toInt32) = [38, 113, 117, 111, 116, 59].map nI := by decide +kernel
theorem cls_putEsc_L {o b a cnt n : Nat} {w : List Nat} (hab : a ≠ b) (hw : w.length = cnt) (hcn : cnt ≤ n) (hn : n < 100000) (hlo : ∀ k, w.getD k 0 < 128) : ∀ (j f i : Nat) (h : AH) (ol : List Int32), i + j = cnt → j < f → OutC h o b ol → gK h a = (101, n) → (∀ k, k < cnt → gA h a k = nI (w.getD k 0)) →
    ∃ h', fX4_putEscaped_7 f (some o) (some a) (nI cnt) (nI i) h = some ((), h') ∧ OutC h' o b (ow ol ((esc (w.drop i)).map nI)) ∧ FrO o b h h' := by
  intro j
  induction j with
  | zero =>
    intro f i h ol hij hjf hO hka hg
    obtain ⟨f, rfl⟩ : ∃ g, f = g + 1 := ⟨f - 1, by omega⟩
    refine ⟨h, ?_, ?_, Fr.rf⟩
    · rw [fX4_putEscaped_7]
      simp (disch := omega) only [leN, show cnt ≤ i by omega, ↓reduceIte, fX4_putEscaped_113]
    · rw [List.drop_eq_nil_of_le (by omega)]
      show OutC h o b (ow ol [])
      rw [ow_nil _ hO.2.2.2.2.1]; exact hO
  | succ j ih =>
    intro f i h ol hij hjf hO hka hg
    obtain ⟨f, rfl⟩ : ∃ g, f = g + 1 := ⟨f - 1, by omega⟩
    have hc := hlo i
    have hgi := hg i (by omega)
    have key : ∃ h1, fX4_putEscaped_7 (f + 1) (some o) (some a) (nI cnt) (nI i) h = fX4_putEscaped_7 f (some o) (some a) (nI cnt) (nI (i + 1)) h1 ∧ OutC h1 o b (ow ol ((escC (w.getD i 0)).map nI)) ∧ FrO o b h h1 := by
      rw [fX4_putEscaped_7]
      generalize w.getD i 0 = c at hc hgi
      simp (disch := omega) only [leN, show ¬ cnt ≤ i by omega, ↓reduceIte, ↓uAN, hka, show ¬ n ≤ i by omega, ↓uAL, show i < n by omega, and_self, hgi, show (34 : Int32) = nI 34 from rfl, show (38 : Int32) = nI 38 from rfl, show (60 : Int32) = nI 60 from rfl, show (62 : Int32) = nI 62 from rfl, eqN, fX4_putEscaped_107, nI_add, Nat.reduceAdd, ↓uCV, hO.1]
      by_cases h34 : c = 34
      · subst h34
        obtain ⟨h1, g1, O1, F1⟩ := cls_putWord hO (by omega) w_quot
        exact ⟨h1, by simp only [g1, ↓oCL, ↓reduceIte], O1, F1⟩
      by_cases h38 : c = 38
      · subst h38
        obtain ⟨h1, g1, O1, F1⟩ := cls_putWord hO (by omega) w_amp
        exact ⟨h1, by simp only [g1, ↓oCL, ↓reduceIte, Nat.reduceEqDiff], O1, F1⟩
      by_cases h60 : c = 60
      · subst h60
        obtain ⟨h1, g1, O1, F1⟩ := cls_putWord hO (by omega) w_lt
        exact ⟨h1, by simp only [g1, ↓oCL, ↓reduceIte, Nat.reduceEqDiff], O1, F1⟩
      by_cases h62 : c = 62
      · subst h62
        obtain ⟨h1, g1, O1, F1⟩ := cls_putWord hO (by omega) w_gt
        exact ⟨h1, by simp only [g1, ↓oCL, ↓reduceIte, Nat.reduceEqDiff], O1, F1⟩
      obtain ⟨h1, g1, O1, F1⟩ := cls_putN hO hc
      refine ⟨h1, by simp only [h34, h38, h60, h62, g1, ↓oCL, ↓reduceIte], ?_, F1⟩
      unfold escC
      rw [if_neg h34, if_neg h38, if_neg h60, if_neg h62]
      exact O1
    obtain ⟨h1, g1, O1, F1⟩ := key
    obtain ⟨h2, g2, O2, F2⟩ := ih f (i + 1) h1 _ (by omega) (by omega) O1 (by rw [F1.2.2.2.2.2.1]; exact hka) (fun k hk => by rw [F1.2.2.2.1 _ _ hab]; exact hg k hk)
    refine ⟨h2, g1.trans g2, ?_, F1.tr F2⟩
    rw [ow_app, ← List.map_append] at O2
    rw [drop_cons 0 (show i < w.length by omega)]
    exact O2
theorem cls_putEsc {h : AH} {o b a n : Nat} {ol : List Int32} {w : List Nat} (hO : OutC h o b ol) (hab : a ≠ b) (hcn : w.length ≤ n) (hn : n < 100000) (hlo : ∀ k, w.getD k 0 < 128) (hka : gK h a = (101, n)) (hg : ∀ k, k < w.length → gA h a k = nI (w.getD k 0)) : ∃ h', fX4_putEscaped (some o) (some a) (nI w.length) h = some ((), h') ∧ OutC h' o b (ow ol ((esc w).map nI)) ∧ FrO o b h h' := by
  obtain ⟨h1, g1, O1, F1⟩ := cls_putEsc_L hab rfl hcn hn hlo w.length FU 0 h ol (by omega) (by have := FU_ge; omega) hO hka hg
  refine ⟨h1, ?_, O1, F1⟩
  unfold fX4_putEscaped fX4_putEscaped_0
  rw [if_neg (by simp)]
  exact g1
theorem bch_get {l : List Nat} (h : bch l) (k : Nat) : l.getD k 0 < 128 := by
  by_cases hk : k < l.length
  · rw [gD_in hk]; exact okb_lt (h _ (List.getElem_mem _))
  · rw [gD_out (by omega)]; omega
theorem cls_atW_L {x t o fa tr rd nd b i : Nat} {ad : Nat → Nat → Nat → Nat} {T : TS} (hb : ∀ c i j, ad c i j ≠ b) (hS : SizT T) (hu : tIs T i = true) : ∀ (k f j : Nat) (h : AH) (ol : List Int32), j + k = (tAtt T i).length → k < f → CB h x t o fa tr rd → ClsT h ad tr nd T → OutC h o b ol →
    ∃ h', fX8_writeStartTag_22 f (some x) (some (ad 1 i 0)) (nI j) h = some ((), h') ∧ OutC h' o b (ow ol ((atW ((tAtt T i).drop j) ++ [62]).map nI)) ∧ FrO o b h h' := by
  have hi := hS.lt hu
  have hAS := (hS.2 i hu).at
  have hL4 := hAS.1
  have tfr : ∀ (h h' : AH), FrO o b h h' → ClsT h ad tr nd T → ClsT h' ad tr nd T := fun h h' F q => q.fr F (fun f a z => by unfold treeF; omega) (fun i j => hb 6 i j) (fun i => hb 4 i 0)
  intro k
  induction k with
  | zero =>
    intro f j h ol hjk hkf hcb hT hO
    obtain ⟨f, rfl⟩ : ∃ g, f = g + 1 := ⟨f - 1, by omega⟩
    obtain ⟨-, ⟨b1, b2, b3, b4, b5⟩, v1, v2, v3, v4, v5, v6, v7, v8, v9, -⟩ := hT.nd hi hu
    obtain ⟨h1, g1, O1, F1⟩ := cls_putN hO (show 62 < 128 by omega)
    refine ⟨h1, ?_, ?_, F1⟩
    · rw [fX8_writeStartTag_22]
      simp (disch := omega) only [↓gr_of b1 b3, ↓gi_of b4.1 v9.1, leN, show (tAtt T i).length ≤ j by omega, ↓reduceIte, fX8_writeStartTag_114, ↓gr_of hcb.1 hcb.2.2.1, ↓cv_of hO.1 g1]
    · rw [List.drop_eq_nil_of_le (by omega)]; exact O1
  | succ k ih =>
    intro f j h ol hjk hkf hcb hT hO
    obtain ⟨f, rfl⟩ : ∃ g, f = g + 1 := ⟨f - 1, by omega⟩
    have hj : j < (tAtt T i).length := by omega
    obtain ⟨-, ⟨b1, b2, b3, b4, b5⟩, v1, v2, v3, v4, v5, v6, v7, v8, v9, -⟩ := hT.nd hi hu
    obtain ⟨z1, z2, z3, z4⟩ := hAS.get hj
    have hit := cls_itemAt b4 v9 hAS hj
    obtain ⟨q5, q6, q7⟩ := b4.k5 v9 hAS hj
    obtain ⟨-, qn, ql, qv⟩ := v9.2 j hj
    obtain ⟨h1, g1, O1, F1⟩ := cls_putN hO (show 32 < 128 by omega)
    obtain ⟨h2, g2, O2, F2⟩ := cls_putName O1 z2 z1
    obtain ⟨h3, g3, O3, F3⟩ := cls_putN O2 (show 61 < 128 by omega)
    obtain ⟨h4, g4, O4, F4⟩ := cls_putN O3 (show 34 < 128 by omega)
    have F14 := F1.tr (F2.tr (F3.tr F4))
    obtain ⟨h5, g5, O5, F5⟩ := cls_putEsc (a := ad 6 i j) (n := 60) O4 (hb 6 i j) z3 (by omega) (bch_get z4) (by rw [F14.2.2.2.2.2.1]; exact q7) (fun k hk => by rw [F14.2.2.2.1 _ _ (hb 6 i j)]; exact qv k hk)
    obtain ⟨h6, g6, O6, F6⟩ := cls_putN O5 (show 34 < 128 by omega)
    have F16 := F14.tr (F5.tr F6)
    obtain ⟨h7, g7, O7, F7⟩ := ih f (j + 1) h6 _ (by omega) (by omega) (F16.CB hcb) (tfr _ _ F16 hT) O6
    have D1 := F1.CB hcb
    have D2 := F2.CB D1
    have D3 := F3.CB D2
    have D4 := F4.CB D3
    have D5 := F5.CB D4
    have qn1 : gL h1 0 (ad 5 i j) = lN (pack ((tAtt T i).getD j ([], [])).1) := by rw [F1.2.1]; exact qn
    have ql4 : gI h4 2 (ad 5 i j) = nI ((tAtt T i).getD j ([], [])).2.length := by rw [F14.1 _ _ (by omega)]; exact ql
    have q64 : gR h4 1 (ad 5 i j) = some (ad 6 i j) := by rw [F14.2.2.1]; exact q6
    have q51 : gK h1 (ad 5 i j) = (1, 0) := by rw [F1.2.2.2.2.2.1]; exact q5
    have q54 : gK h4 (ad 5 i j) = (1, 0) := by rw [F14.2.2.2.2.2.1]; exact q5
    refine ⟨h7, ?_, ?_, F16.tr F7⟩
    · rw [fX8_writeStartTag_22]
      simp (disch := omega) only [↓gr_of b1 b3, ↓gi_of b4.1 v9.1, leN, show ¬ (tAtt T i).length ≤ j by omega, ↓reduceIte, ↓cv_of b4.1 hit, some_ne, ↓gr_of hcb.1 hcb.2.2.1, ↓cv_of hO.1 g1, ↓gr_of D1.1 D1.2.2.1, ↓gl_of q51 qn1, ↓cv_of O1.1 g2, ↓gr_of D2.1 D2.2.2.1, ↓cv_of O2.1 g3, ↓gr_of D3.1 D3.2.2.1, ↓cv_of O3.1 g4, ↓gr_of D4.1 D4.2.2.1, ↓gr_of q54 q64, ↓gi_of q54 ql4, ↓cv_of O4.1 g5, ↓gr_of D5.1 D5.2.2.1, ↓cv_of O5.1 g6, fX8_writeStartTag_108, nI_add]
      exact g7
    · simp only [ow_app, ← List.map_append] at O7
      rw [drop_cons ([], []) hj]
      show OutC h7 o b (ow ol ((([32] ++ ((tAtt T i).getD j ([], [])).1 ++ [61] ++ [34] ++ esc ((tAtt T i).getD j ([], [])).2 ++ [34]) ++ atW ((tAtt T i).drop (j + 1)) ++ [62]).map nI))
      simpa only [List.append_assoc] using O7
theorem cls_bgW {h : AH} {x t o fa tr rd nd b i : Nat} {ad : Nat → Nat → Nat → Nat} {T : TS} {ol : List Int32} (hb : ∀ c i j, ad c i j ≠ b) (hS : SizT T) (hu : tIs T i = true) (hcb : CB h x t o fa tr rd) (hT : ClsT h ad tr nd T) (hO : OutC h o b ol) :
    ∃ h', fX8_writeStartTag (some x) (some (ad 1 i 0)) h = some ((), h') ∧ OutC h' o b (ow ol ((bgW T i).map nI)) ∧ FrO o b h h' := by
  have hi := hS.lt hu
  obtain ⟨s1, s2, s3, -⟩ := hS.2 i hu
  have tfr : ∀ (h h' : AH), FrO o b h h' → ClsT h ad tr nd T → ClsT h' ad tr nd T := fun h h' F q => q.fr F (fun f a z => by unfold treeF; omega) (fun i j => hb 6 i j) (fun i => hb 4 i 0)
  obtain ⟨-, ⟨b1, -⟩, -, v2, -⟩ := hT.nd hi hu
  obtain ⟨h1, g1, O1, F1⟩ := cls_putN hO (show 60 < 128 by omega)
  obtain ⟨h2, g2, O2, F2⟩ := cls_putName O1 s3 s2
  have F12 := F1.tr F2
  obtain ⟨h3, g3, O3, F3⟩ := cls_atW_L hb hS hu (tAtt T i).length FU 0 h2 _ (by omega) (by have := FU_ge; have := (hS.2 i hu).2.2.2.1; omega) (F12.CB hcb) (tfr _ _ F12 hT) O2
  have D1 := F1.CB hcb
  have v21 : gL h1 154 (ad 1 i 0) = lN (pack (tNam T i)) := by rw [F1.2.1]; exact v2
  have b11 : gK h1 (ad 1 i 0) = (4, 0) := by rw [F1.2.2.2.2.2.1]; exact b1
  refine ⟨h3, ?_, ?_, F12.tr F3⟩
  · simp only [fX8_writeStartTag, fX8_writeStartTag_0]
    simp only [↓uGR, ↓uGL, ↓uCV, ↓oCL, ↓reduceIte, hcb.1, hcb.2.2.1, hO.1, g1, D1.1, D1.2.2.1, O1.1, b11, v21, g2, Nat.reduceAdd]
    exact g3
  · simp only [ow_app, ← List.map_append] at O3
    unfold bgW
    simpa only [List.append_assoc, List.drop_zero] using O3
theorem cls_txW {h : AH} {x t o fa tr rd nd b i : Nat} {ad : Nat → Nat → Nat → Nat} {T : TS} {kd : Nat → List Nat} {ol : List Int32} (hb : ∀ c i j, ad c i j ≠ b) (w : Wf T kd) (hS : SizT T) (hu : tIs T i = true) (h17 : tTag T i = 17) (hcb : CB h x t o fa tr rd) (hT : ClsT h ad tr nd T) (hO : OutC h o b ol) :
    ∃ h', fX8_writeText (some x) (some (ad 1 i 0)) h = some ((), h') ∧ OutC h' o b (ow ol ((txW T i).map nI)) ∧ FrO o b h h' := by
  have hi := hS.lt hu
  obtain ⟨s1, s2, s3, s4, s5, s6, s7, -⟩ := hS.2 i hu
  obtain ⟨-, ⟨b1, b2, b3, b4, b5⟩, v1, v2, v3, v4, v5, v6, v7, v8, v9, v10, v11, v12⟩ := hT.nd hi hu
  obtain ⟨t1, t2⟩ := v12 h17
  have k4 : gK h (ad 4 i 0) = (101, 400) := by
    rcases b5 with ⟨z, -⟩ | ⟨-, z⟩
    · rw [t1] at z; cases z
    · exact z
  obtain ⟨h1, g1, O1, F1⟩ := cls_putEsc (a := ad 4 i 0) (n := 400) hO (hb 4 i 0) s6 (by omega) (bch_get s7) k4 t2
  obtain ⟨h2, g2, O2, F2⟩ := cls_putBytes (a := ad 4 i 0) (n := 400) (w := (tTxt T i).map nI) hO (hb 4 i 0) (by rw [List.length_map]; exact s6) (by omega) (fun c hc => by
    obtain ⟨d, hd, rfl⟩ := List.mem_map.mp hc
    exact nI_b (okb_lt (s7 d hd))) k4 (fun k hk => by
    rw [List.length_map] at hk
    rw [t2 k hk, gD_in hk, gD_in (by rw [List.length_map]; exact hk), List.getElem_map])
  rw [List.length_map] at g2
  simp only [fX8_writeText, fX8_writeText_0, fX8_writeText_37, fX8_writeText_52]
  unfold txW rwT
  cases hp : tPar T i with
  | none =>
    rw [hp] at v4
    refine ⟨h1, ?_, O1, F1⟩
    simp only [↓uGR, ↓uGI, ↓uCV, ↓oCL, ↓reduceIte, b1, v4, oN_n, hcb.1, hcb.2.2.1, t1, v10, hO.1, g1, Nat.reduceAdd]
  | some p =>
    rw [hp] at v4
    have up := w.links hu (Or.inl hp)
    have pl := hS.lt up
    obtain ⟨-, ⟨p1, -⟩, pv, -⟩ := hT.nd pl up
    have sp := (hS.2 p up).1
    by_cases h15 : tTag T p = 15
    · refine ⟨h2, ?_, ?_, F2⟩
      · simp (disch := omega) only [↓uGR, ↓uGI, ↓uCV, ↓oCL, ↓reduceIte, b1, v4, oN_s, some_ne, p1, pv, eqN, h15, hcb.1, hcb.2.2.1, t1, v10, hO.1, g2, Nat.reduceAdd]
      · simp only [h15, decide_true, ↓reduceIte]; exact O2
    · refine ⟨h1, ?_, ?_, F1⟩
      · simp (disch := omega) only [↓uGR, ↓uGI, ↓uCV, ↓oCL, ↓reduceIte, b1, v4, oN_s, some_ne, p1, pv, eqN, h15, hcb.1, hcb.2.2.1, t1, v10, hO.1, g1, Nat.reduceAdd]
      · simp only [h15, decide_false, Bool.false_eq_true, ↓reduceIte]; exact O1
theorem cls_enW {h : AH} {x t o fa tr rd nd b i : Nat} {ad : Nat → Nat → Nat → Nat} {T : TS} {ol : List Int32} {rM : Option Nat → Option Nat → Int32 → AH → Option (Unit × AH)} (hS : SizT T) (hu : tIs T i = true) (hcb : CB h x t o fa tr rd) (hT : ClsT h ad tr nd T) (hO : OutC h o b ol) :
    ∃ h', fX8_writeNode_52 rM (some x) (some (ad 1 i 0)) h = some ((), h') ∧ OutC h' o b (ow ol ((enW T i).map nI)) ∧ FrO o b h h' := by
  have hi := hS.lt hu
  obtain ⟨s1, s2, s3, -⟩ := hS.2 i hu
  obtain ⟨-, ⟨b1, -⟩, v1, v2, -⟩ := hT.nd hi hu
  simp only [fX8_writeNode_52, fX8_writeNode_100]
  simp (disch := omega) only [↓uGI, b1, v1, ↓reduceIte, cls_isEm, ↓oCL, bI0, Nat.reduceAdd]
  unfold enW
  cases hem : isEm (tTag T i) with
  | true =>
    refine ⟨h, by simp only [Bool.true_eq_false, ↓reduceIte], ?_, Fr.rf⟩
    show OutC h o b (ow ol [])
    rw [ow_nil _ hO.2.2.2.2.1]; exact hO
  | false =>
    obtain ⟨h1, g1, O1, F1⟩ := cls_putN hO (show 60 < 128 by omega)
    obtain ⟨h2, g2, O2, F2⟩ := cls_putN O1 (show 47 < 128 by omega)
    obtain ⟨h3, g3, O3, F3⟩ := cls_putName O2 s3 s2
    obtain ⟨h4, g4, O4, F4⟩ := cls_putN O3 (show 62 < 128 by omega)
    have D1 := F1.CB hcb
    have D2 := F2.CB D1
    have D3 := F3.CB D2
    have F12 := F1.tr F2
    have v22 : gL h2 154 (ad 1 i 0) = lN (pack (tNam T i)) := by rw [F12.2.1]; exact v2
    have b12 : gK h2 (ad 1 i 0) = (4, 0) := by rw [F12.2.2.2.2.2.1]; exact b1
    refine ⟨h4, ?_, ?_, F12.tr (F3.tr F4)⟩
    · simp only [↓uGR, ↓uGL, ↓uCV, ↓oCL, ↓reduceIte, hcb.1, hcb.2.2.1, hO.1, g1, D1.1, D1.2.2.1, O1.1, g2, D2.1, D2.2.2.1, O2.1, b12, v22, g3, D3.1, D3.2.2.1, O3.1, g4, Nat.reduceAdd]
    · simp only [ow_app, ← List.map_append] at O4
      simp only [Bool.false_eq_true, ↓reduceIte]
      simpa only [List.append_assoc] using O4
theorem cls_wrLoop {x t o fa tr rd nd b i lv g : Nat} {ad : Nat → Nat → Nat → Nat} {T : TS} {kd : Nat → List Nat} {rM : Option Nat → Option Nat → Int32 → AH → Option (Unit × AH)} (hb : ∀ c i j, ad c i j ≠ b) (w : Wf T kd) (hS : SizT T) (hu : tIs T i = true)
    (hr : ∀ y h ol, y ∈ kd i → CB h x t o fa tr rd → ClsT h ad tr nd T → OutC h o b ol → ∃ h', rM (some x) (some (ad 1 y 0)) (nI (lv + 1)) h = some ((), h') ∧ OutC h' o b (ow ol ((wN T kd g y).map nI)) ∧ FrO o b h h') : ∀ (l : List Nat) (bb oo la : Option Nat) (f : Nat) (h : AH) (ol : List Int32), Lk T l bb oo la → (∀ y ∈ l, y ∈ kd i) → l.length < f → CB h x t o fa tr rd → ClsT h ad tr nd T → OutC h o b ol →
    ∃ h', fX8_writeNode_32 rM f (some x) (some (ad 1 i 0)) (nI lv) (oN ad oo) h = some ((), h') ∧ OutC h' o b (ow ol ((l.flatMap (wN T kd g) ++ enW T i).map nI)) ∧ FrO o b h h' := by
  have tfr : ∀ (h h' : AH), FrO o b h h' → ClsT h ad tr nd T → ClsT h' ad tr nd T := fun h h' F q => q.fr F (fun f a z => by unfold treeF; omega) (fun i j => hb 6 i j) (fun i => hb 4 i 0)
  intro l
  induction l with
  | nil =>
    intro bb oo la f h ol hL hm hf hcb hT hO
    obtain ⟨f, rfl⟩ : ∃ g, f = g + 1 := ⟨f - 1, by simp at hf; omega⟩
    have e : oo = none := hL.1
    subst e
    obtain ⟨h1, g1, O1, F1⟩ := cls_enW (rM := rM) hS hu hcb hT hO
    refine ⟨h1, ?_, O1, F1⟩
    rw [fX8_writeNode_32]
    simp only [oN_n, ↓reduceIte]
    exact g1
  | cons y l ih =>
    intro bb oo la f h ol hL hm hf hcb hT hO
    simp only [List.length_cons] at hf
    obtain ⟨f, rfl⟩ : ∃ g, f = g + 1 := ⟨f - 1, by omega⟩
    obtain ⟨rfl, h2, h3⟩ := hL
    have hy := hm y List.mem_cons_self
    obtain ⟨uy, -⟩ := w.kid hu hy
    obtain ⟨h1, g1, O1, F1⟩ := hr y h ol hy hcb hT hO
    have T1 := tfr _ _ F1 hT
    obtain ⟨-, ⟨d1, -⟩, -, -, -, -, -, d6, -⟩ := T1.nd (hS.lt uy) uy
    obtain ⟨h2, g2, O2, F2⟩ := ih _ _ _ f h1 _ h3 (fun z hz => hm z (List.mem_cons_of_mem _ hz)) (by omega) (F1.CB hcb) T1 O1
    refine ⟨h2, ?_, ?_, F1.tr F2⟩
    · rw [fX8_writeNode_32]
      simp only [oN_s, some_ne, ↓reduceIte, ↓uCV, ↓oCL, hcb.1, nI_add, g1, ↓uGR, d1, d6, Nat.reduceAdd]
      exact g2
    · rw [ow_app, ← List.map_append, ← List.append_assoc] at O2
      rw [List.flatMap_cons]
      exact O2
theorem cls_write {x t o fa tr rd nd b : Nat} {ad : Nat → Nat → Nat → Nat} {T : TS} {kd : Nat → List Nat} (hb : ∀ c i j, ad c i j ≠ b) (w : Wf T kd) (hS : SizT T) : ∀ (g k i lv : Nat) (h : AH) (ol : List Int32), tIs T i = true → 20 ≤ tDep T i + g → lv ≤ tDep T i → g < k → CB h x t o fa tr rd → ClsT h ad tr nd T → OutC h o b ol →
    ∃ h', fX8_writeNode k (some x) (some (ad 1 i 0)) (nI lv) h = some ((), h') ∧ OutC h' o b (ow ol ((wN T kd g i).map nI)) ∧ FrO o b h h' := by
  have tfr : ∀ (h h' : AH), FrO o b h h' → ClsT h ad tr nd T → ClsT h' ad tr nd T := fun h h' F q => q.fr F (fun f a z => by unfold treeF; omega) (fun i j => hb 6 i j) (fun i => hb 4 i 0)
  intro g
  induction g with
  | zero =>
    intro k i lv h ol hu hd hlv hk hcb hT hO
    obtain ⟨k, rfl⟩ : ∃ g, k = g + 1 := ⟨k - 1, by omega⟩
    have hi := hS.lt hu
    have s9 := (hS.2 i hu).2.2.2.2.2.2.2.2.1
    have s1 := (hS.2 i hu).1
    obtain ⟨-, ⟨b1, -⟩, v1, -⟩ := hT.nd hi hu
    rw [fX8_writeNode]
    simp only [fX8_writeNode_0]
    simp (disch := omega) only [leN, show lv ≤ 20 by omega, ↓reduceIte, ↓uGI, b1, v1, eqN, Nat.reduceAdd]
    unfold wN
    by_cases h17 : tTag T i = 17
    · obtain ⟨h1, g1, O1, F1⟩ := cls_txW hb w hS hu h17 hcb hT hO
      exact ⟨h1, by simp only [h17, ↓reduceIte, ↓uCV, hcb.1, Nat.reduceAdd, g1, ↓oCL], by rw [if_pos h17]; exact O1, F1⟩
    · obtain ⟨h1, g1, O1, F1⟩ := cls_bgW hb hS hu hcb hT hO
      have T1 := tfr _ _ F1 hT
      have D1 := F1.CB hcb
      obtain ⟨-, ⟨c1, -⟩, -, -, -, -, -, -, c7, -⟩ := T1.nd hi hu
      have hlk := w.lk hu
      rw [w.leaf hS hu (by omega)] at hlk
      have e : tFk T i = none := hlk.1
      rw [e] at c7
      obtain ⟨h2, g2, O2, F2⟩ := cls_enW (rM := fX8_writeNode k) hS hu D1 T1 O1
      refine ⟨h2, ?_, ?_, F1.tr F2⟩
      · obtain ⟨fu, hfu⟩ : ∃ q, FU = q + 1 := ⟨FU - 1, by have := FU_ge; omega⟩
        simp only [h17, ↓reduceIte, ↓uCV, hcb.1, Nat.reduceAdd, g1, ↓oCL, ↓uGR, c1, c7, oN_n]
        rw [hfu, fX8_writeNode_32]
        simp only [↓reduceIte]
        exact g2
      · rw [ow_app, ← List.map_append] at O2
        rw [if_neg h17]
        exact O2
  | succ g ih =>
    intro k i lv h ol hu hd hlv hk hcb hT hO
    obtain ⟨k, rfl⟩ : ∃ g, k = g + 1 := ⟨k - 1, by omega⟩
    have hi := hS.lt hu
    have s9 := (hS.2 i hu).2.2.2.2.2.2.2.2.1
    have s1 := (hS.2 i hu).1
    obtain ⟨-, ⟨b1, -⟩, v1, -⟩ := hT.nd hi hu
    rw [fX8_writeNode]
    simp only [fX8_writeNode_0]
    simp (disch := omega) only [leN, show lv ≤ 20 by omega, ↓reduceIte, ↓uGI, b1, v1, eqN, Nat.reduceAdd]
    unfold wN
    by_cases h17 : tTag T i = 17
    · obtain ⟨h1, g1, O1, F1⟩ := cls_txW hb w hS hu h17 hcb hT hO
      exact ⟨h1, by simp only [h17, ↓reduceIte, ↓uCV, hcb.1, Nat.reduceAdd, g1, ↓oCL], by rw [if_pos h17]; exact O1, F1⟩
    · obtain ⟨h1, g1, O1, F1⟩ := cls_bgW hb hS hu hcb hT hO
      have T1 := tfr _ _ F1 hT
      have D1 := F1.CB hcb
      obtain ⟨-, ⟨c1, -⟩, -, -, -, -, -, -, c7, -⟩ := T1.nd hi hu
      obtain ⟨h2, g2, O2, F2⟩ := cls_wrLoop (rM := fX8_writeNode k) (lv := lv) (g := g) hb w hS hu (fun y h ol hy q1 q2 q3 => by
        obtain ⟨uy, -, dy⟩ := w.kid hu hy
        exact ih k y (lv + 1) h ol uy (by omega) (by omega) (by omega) q1 q2 q3) (kd i) _ _ _ FU h1 _ (w.lk hu) (fun y hy => hy) (by have := FU_ge; have := w.len hS hu; omega) D1 T1 O1
      refine ⟨h2, ?_, ?_, F1.tr F2⟩
      · simp only [h17, ↓reduceIte, ↓uCV, hcb.1, Nat.reduceAdd, g1, ↓oCL, ↓uGR, c1, c7]
        exact g2
      · rw [ow_app, ← List.map_append] at O2
        rw [if_neg h17]
        exact O2
def seV (T : TS) (kd : Nat → List Nat) (v : Int32) : Int32 := match nAt T v with
  | none => -1
  | some i => nI (ow [] ((wN T kd 20 i).map nI)).length
def seO (T : TS) (kd : Nat → List Nat) (ol : List Int32) (v : Int32) : List Int32 := match nAt T v with
  | none => ol
  | some i => ow [] ((wN T kd 20 i).map nI)
theorem cls_serialise {h : AH} {x t o fa tr rd nd b : Nat} {ad : Nat → Nat → Nat → Nat} {T : TS} {kd : Nat → List Nat} {ol : List Int32} (hb : ∀ c i j, ad c i j ≠ b) (w : Wf T kd) (hS : SizT T) (hcb : CB h x t o fa tr rd) (hT : ClsT h ad tr nd T) (hO : OutC h o b ol) (v : Int32) :
    ∃ h', fX8_serialise (some x) v h = some (seV T kd v, h') ∧ OutC h' o b (seO T kd ol v) ∧ FrO o b h h' := by
  have tfr : ∀ (h h' : AH), FrO o b h h' → ClsT h ad tr nd T → ClsT h' ad tr nd T := fun h h' F q => q.fr F (fun f a z => by unfold treeF; omega) (fun i j => hb 6 i j) (fun i => hb 4 i 0)
  simp only [fX8_serialise, fX8_serialise_0]
  simp only [↓uGR, ↓uCV, ↓oCL, ↓reduceIte, hcb.1, hcb.2.2.2.2.1, hT.1, cls_nodeAt hT, Nat.reduceAdd]
  unfold seV seO
  cases hn : nAt T v with
  | none => exact ⟨h, by simp only [oN_n, ↓reduceIte], hO, Fr.rf⟩
  | some i =>
    obtain ⟨hi, hu, rfl⟩ := nAt_some hn
    have F0 : FrO o b h (pI h 201 o (nI 0)) := Fr.pI Fr.rf ⟨rfl, rfl⟩
    obtain ⟨h1, g1, O1, F1⟩ := cls_write hb w hS 20 25 i 0 (pI h 201 o (nI 0)) [] hu (by omega) (by omega) (by omega) (F0.CB hcb) (tfr _ _ F0 hT) hO.clear
    have D1 := F1.CB (F0.CB hcb)
    refine ⟨h1, ?_, O1, F0.tr F1⟩
    simp only [oN_s, some_ne, ↓reduceIte, ↓uGR, ↓uPI, hcb.1, hcb.2.2.1, hO.1, ↓uCV, gK_pI, g1, ↓oCL, ↓uGI, D1.1, D1.2.2.1, O1.1, O1.2.2.2.1, Nat.reduceAdd]

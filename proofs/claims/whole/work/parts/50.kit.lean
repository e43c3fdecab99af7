/-! THE PURE SIDE. Rows on the abstract heap and on small ints. -/
theorem gI_pI (h : AH) (f a : Nat) (v : Int32) (f' a' : Nat) : gI (pI h f a v) f' a' = if f' = f ∧ a' = a then v else gI h f' a' := rfl
theorem gI_pL (h : AH) (f a : Nat) (v : Int64) : gI (pL h f a v) = gI h := rfl
theorem gI_pR (h : AH) (f a : Nat) (v : Option Nat) : gI (pR h f a v) = gI h := rfl
theorem gI_pA (h : AH) (a i : Nat) (v : Int32) : gI (pA h a i v) = gI h := rfl
theorem gI_pQ (h : AH) (a i : Nat) (v : Option Nat) : gI (pQ h a i v) = gI h := rfl
theorem gL_pI (h : AH) (f a : Nat) (v : Int32) : gL (pI h f a v) = gL h := rfl
theorem gL_pL (h : AH) (f a : Nat) (v : Int64) (f' a' : Nat) : gL (pL h f a v) f' a' = if f' = f ∧ a' = a then v else gL h f' a' := rfl
theorem gL_pR (h : AH) (f a : Nat) (v : Option Nat) : gL (pR h f a v) = gL h := rfl
theorem gL_pA (h : AH) (a i : Nat) (v : Int32) : gL (pA h a i v) = gL h := rfl
theorem gL_pQ (h : AH) (a i : Nat) (v : Option Nat) : gL (pQ h a i v) = gL h := rfl
theorem gR_pI (h : AH) (f a : Nat) (v : Int32) : gR (pI h f a v) = gR h := rfl
theorem gR_pL (h : AH) (f a : Nat) (v : Int64) : gR (pL h f a v) = gR h := rfl
theorem gR_pR (h : AH) (f a : Nat) (v : Option Nat) (f' a' : Nat) : gR (pR h f a v) f' a' = if f' = f ∧ a' = a then v else gR h f' a' := rfl
theorem gR_pA (h : AH) (a i : Nat) (v : Int32) : gR (pA h a i v) = gR h := rfl
theorem gR_pQ (h : AH) (a i : Nat) (v : Option Nat) : gR (pQ h a i v) = gR h := rfl
theorem gA_pI (h : AH) (f a : Nat) (v : Int32) : gA (pI h f a v) = gA h := rfl
theorem gA_pL (h : AH) (f a : Nat) (v : Int64) : gA (pL h f a v) = gA h := rfl
theorem gA_pR (h : AH) (f a : Nat) (v : Option Nat) : gA (pR h f a v) = gA h := rfl
theorem gA_pA (h : AH) (a i : Nat) (v : Int32) (a' i' : Nat) : gA (pA h a i v) a' i' = if a' = a ∧ i' = i then v else gA h a' i' := rfl
theorem gA_pQ (h : AH) (a i : Nat) (v : Option Nat) : gA (pQ h a i v) = gA h := rfl
theorem gQ_pI (h : AH) (f a : Nat) (v : Int32) : gQ (pI h f a v) = gQ h := rfl
theorem gQ_pL (h : AH) (f a : Nat) (v : Int64) : gQ (pL h f a v) = gQ h := rfl
theorem gQ_pR (h : AH) (f a : Nat) (v : Option Nat) : gQ (pR h f a v) = gQ h := rfl
theorem gQ_pA (h : AH) (a i : Nat) (v : Int32) : gQ (pA h a i v) = gQ h := rfl
theorem gQ_pQ (h : AH) (a i : Nat) (v : Option Nat) (a' i' : Nat) : gQ (pQ h a i v) a' i' = if a' = a ∧ i' = i then v else gQ h a' i' := rfl
theorem gK_pI (h : AH) (f a : Nat) (v : Int32) : gK (pI h f a v) = gK h := rfl
theorem gK_pL (h : AH) (f a : Nat) (v : Int64) : gK (pL h f a v) = gK h := rfl
theorem gK_pR (h : AH) (f a : Nat) (v : Option Nat) : gK (pR h f a v) = gK h := rfl
theorem gK_pA (h : AH) (a i : Nat) (v : Int32) : gK (pA h a i v) = gK h := rfl
theorem gK_pQ (h : AH) (a i : Nat) (v : Option Nat) : gK (pQ h a i v) = gK h := rfl
theorem gN_pI (h : AH) (f a : Nat) (v : Int32) : gN (pI h f a v) = gN h := rfl
theorem gN_pL (h : AH) (f a : Nat) (v : Int64) : gN (pL h f a v) = gN h := rfl
theorem gN_pR (h : AH) (f a : Nat) (v : Option Nat) : gN (pR h f a v) = gN h := rfl
theorem gN_pA (h : AH) (a i : Nat) (v : Int32) : gN (pA h a i v) = gN h := rfl
theorem gN_pQ (h : AH) (a i : Nat) (v : Option Nat) : gN (pQ h a i v) = gN h := rfl
theorem gS_pI (h : AH) (f a : Nat) (v : Int32) : gS (pI h f a v) = gS h := rfl
theorem gS_pL (h : AH) (f a : Nat) (v : Int64) : gS (pL h f a v) = gS h := rfl
theorem gS_pR (h : AH) (f a : Nat) (v : Option Nat) : gS (pR h f a v) = gS h := rfl
theorem gS_pA (h : AH) (a i : Nat) (v : Int32) : gS (pA h a i v) = gS h := rfl
theorem gS_pQ (h : AH) (a i : Nat) (v : Option Nat) : gS (pQ h a i v) = gS h := rfl
theorem gI_mk (h : AH) (k : Nat × Nat) (n f a : Nat) : gI (mkC h k n) f a = if a = gN h then 0 else gI h f a := rfl
theorem gL_mk (h : AH) (k : Nat × Nat) (n f a : Nat) : gL (mkC h k n) f a = if a = gN h then 0 else gL h f a := rfl
theorem gR_mk (h : AH) (k : Nat × Nat) (n f a : Nat) : gR (mkC h k n) f a = if a = gN h then none else gR h f a := rfl
theorem gA_mk (h : AH) (k : Nat × Nat) (n a i : Nat) : gA (mkC h k n) a i = if a = gN h then 0 else gA h a i := rfl
theorem gQ_mk (h : AH) (k : Nat × Nat) (n a i : Nat) : gQ (mkC h k n) a i = if a = gN h then none else gQ h a i := rfl
theorem gK_mk (h : AH) (k : Nat × Nat) (n a : Nat) : gK (mkC h k n) a = if a = gN h then k else gK h a := rfl
theorem gN_mk (h : AH) (k : Nat × Nat) (n : Nat) : gN (mkC h k n) = gN h + 1 := rfl
theorem gS_mk (h : AH) (k : Nat × Nat) (n : Nat) : gS (mkC h k n) = gS h + n := rfl
theorem vn0 (v : Int32) : vp_nar (sr_aty 0) v = v := rfl
theorem vn1 (v : Int32) : vp_nar (sr_aty 1) v = v.toInt8.toInt32 := rfl
theorem vn2_0 : vp_nar (sr_aty 2) 0 = 0 := rfl
theorem vn2_1 : vp_nar (sr_aty 2) 1 = 1 := rfl
/-- the pieces of F at an object of the right kind -/
theorem oGI {Y : Type} {h : AH} {c f a : Nat} {K : Int32 → Option Y} {k : Nat} (hk : gK h a = (c + 1, k)) : cGI h c f (some a) K = K (gI h f a) := by show (if (gK h a).1 = c + 1 then _ else _) = _; rw [hk]; exact if_pos rfl
theorem oGL {Y : Type} {h : AH} {c f a : Nat} {K : Int64 → Option Y} {k : Nat} (hk : gK h a = (c + 1, k)) : cGL h c f (some a) K = K (gL h f a) := by show (if (gK h a).1 = c + 1 then _ else _) = _; rw [hk]; exact if_pos rfl
theorem oGR {Y : Type} {h : AH} {c f a : Nat} {K : Option Nat → Option Y} {k : Nat} (hk : gK h a = (c + 1, k)) : cGR h c f (some a) K = K (gR h f a) := by show (if (gK h a).1 = c + 1 then _ else _) = _; rw [hk]; exact if_pos rfl
theorem oPI {Y : Type} {h : AH} {c f a : Nat} {v : Int32} {K : AH → Option Y} {k : Nat} (hk : gK h a = (c + 1, k)) : cPI h c f (some a) v K = K (pI h f a v) := by show (if (gK h a).1 = c + 1 then _ else _) = _; rw [hk]; exact if_pos rfl
theorem oPL {Y : Type} {h : AH} {c f a : Nat} {v : Int64} {K : AH → Option Y} {k : Nat} (hk : gK h a = (c + 1, k)) : cPL h c f (some a) v K = K (pL h f a v) := by show (if (gK h a).1 = c + 1 then _ else _) = _; rw [hk]; exact if_pos rfl
theorem oPR {Y : Type} {h : AH} {c f a : Nat} {v : Option Nat} {K : AH → Option Y} {k : Nat} (hk : gK h a = (c + 1, k)) : cPR h c f (some a) v K = K (pR h f a v) := by show (if (gK h a).1 = c + 1 then _ else _) = _; rw [hk]; exact if_pos rfl
theorem oCV {Y Z : Type} {h : AH} {c a : Nat} {x : Option (Z × AH)} {K : Z → AH → Option Y} {k : Nat} (hk : gK h a = (c + 1, k)) : cCV h c (some a) x K = cCL x K := by show (if (gK h a).1 = c + 1 then _ else _) = _; rw [hk]; exact if_pos rfl
theorem oCL {X Y : Type} (v : X) (h : AH) (K : X → AH → Option Y) : cCL (some (v, h)) K = K v h := rfl
theorem oAL {Y : Type} {h : AH} {t a n i : Nat} {K : Int32 → Option Y} (hk : gK h a = (t + 100, n)) (hi : i < n) (hn : n < 2 ^ 31) : cAL h t (some a) (nI i) K = K (gA h a i) := by
  have h1 : (gK h a).1 = 100 + t ∧ 0 ≤ (nI i).toInt ∧ (nI i).toInt < (gK h a).2 := by rw [hk, nI_toInt (by omega)]; exact ⟨by omega, by omega, by omega⟩
  show (if _ then _ else _) = _
  rw [if_pos h1, nI_clamp (by omega)]
theorem oQL {Y : Type} {h : AH} {t a n i : Nat} {K : Option Nat → Option Y} (hk : gK h a = (t + 100, n)) (hi : i < n) (hn : n < 2 ^ 31) : cQL h t (some a) (nI i) K = K (gQ h a i) := by
  have h1 : (gK h a).1 = 100 + t ∧ 0 ≤ (nI i).toInt ∧ (nI i).toInt < (gK h a).2 := by rw [hk, nI_toInt (by omega)]; exact ⟨by omega, by omega, by omega⟩
  show (if _ then _ else _) = _
  rw [if_pos h1, nI_clamp (by omega)]
theorem oAS {Y : Type} {h : AH} {t a n i : Nat} {v : Int32} {K : AH → Option Y} (hk : gK h a = (t + 100, n)) (hi : i < n) (hn : n < 2 ^ 31) : cAS h t (some a) (nI i) v K = K (pA h a i (vp_nar (sr_aty t) v)) := by
  have h1 : (gK h a).1 = 100 + t ∧ 0 ≤ (nI i).toInt ∧ (nI i).toInt < (gK h a).2 := by rw [hk, nI_toInt (by omega)]; exact ⟨by omega, by omega, by omega⟩
  show (if _ then _ else _) = _
  rw [if_pos h1, nI_clamp (by omega)]
theorem oQS {Y : Type} {h : AH} {t c a b n i k : Nat} {K : AH → Option Y} (hk : gK h a = (t + 100, n)) (hb : gK h b = (c + 1, k)) (hi : i < n) (hn : n < 2 ^ 31) : cQS h t c (some a) (nI i) (some b) K = K (pQ h a i (some b)) := by
  have h1 : ((gK h a).1 = 100 + t ∧ 0 ≤ (nI i).toInt ∧ (nI i).toInt < (gK h a).2) ∧ (gK h b).1 = c + 1 := by rw [hk, hb, nI_toInt (by omega)]; exact ⟨⟨by omega, by omega, by omega⟩, rfl⟩
  show (if _ then _ else _) = _
  rw [if_pos h1, nI_clamp (by omega)]
theorem oAN {Y : Type} {h : AH} {t a n : Nat} {K : Int32 → Option Y} (hk : gK h a = (t + 100, n)) : cAN h t (some a) K = K (nI n) := by show (if (gK h a).1 = 100 + t then _ else _) = _; rw [hk]; exact if_pos (by omega)
theorem oNO {Y : Type} (h : AH) (c N : Nat) (K : Option Nat → AH → Option Y) : cNO h c N K = K (some (gN h)) (mkC h (c + 1, 0) N) := rfl
theorem oNA {Y : Type} {h : AH} {t n : Nat} {K : Option Nat → AH → Option Y} (hn : n < 100000) : cNA h t (nI n) K = K (some (gN h)) (mkC h (100 + t, n) n) := by
  show (if _ then _ else _) = _
  rw [if_pos (by rw [nI_toInt (by omega)]; omega), nI_clamp (by omega)]
theorem oNN {Y : Type} (a : Nat) (K : Option Y) : cNN (some a) K = K := rfl
theorem oZ0 {Y : Type} (K : Option Y) : cZ 0 K = K := rfl
theorem oZ1 {Y : Type} (K : Option Y) : cZ 1 K = K := rfl
theorem oSN {Y : Type} {h : AH} {w : Nat} {K : Int32 → AH → Option Y} (hw : w < 8) : cSN h w K = K (nI (sr_len.getD w 0)) h := if_pos hw
theorem oSC {Y : Type} {h : AH} {w i : Nat} {K : Int32 → AH → Option Y} (hw : w < 8) (hi : i < sr_len.getD w 0) : cSC h w (nI i) K = K (sr_ch w i) h := by
  have h2 := sr_len_ok w hw
  unfold cSC
  rw [if_pos (by rw [nI_toInt (by omega)]; omega), nI_clamp (by omega)]
/-- the same, with the test still to be made -/
theorem uGI {Y : Type} (h : AH) (c f a : Nat) (K : Int32 → Option Y) : cGI h c f (some a) K = if (gK h a).1 = c + 1 then K (gI h f a) else none := rfl
theorem uGL {Y : Type} (h : AH) (c f a : Nat) (K : Int64 → Option Y) : cGL h c f (some a) K = if (gK h a).1 = c + 1 then K (gL h f a) else none := rfl
theorem uGR {Y : Type} (h : AH) (c f a : Nat) (K : Option Nat → Option Y) : cGR h c f (some a) K = if (gK h a).1 = c + 1 then K (gR h f a) else none := rfl
theorem uPI {Y : Type} (h : AH) (c f a : Nat) (v : Int32) (K : AH → Option Y) : cPI h c f (some a) v K = if (gK h a).1 = c + 1 then K (pI h f a v) else none := rfl
theorem uPL {Y : Type} (h : AH) (c f a : Nat) (v : Int64) (K : AH → Option Y) : cPL h c f (some a) v K = if (gK h a).1 = c + 1 then K (pL h f a v) else none := rfl
theorem uPR {Y : Type} (h : AH) (c f a : Nat) (v : Option Nat) (K : AH → Option Y) : cPR h c f (some a) v K = if (gK h a).1 = c + 1 then K (pR h f a v) else none := rfl
theorem uCV {Y Z : Type} (h : AH) (c a : Nat) (x : Option (Z × AH)) (K : Z → AH → Option Y) : cCV h c (some a) x K = if (gK h a).1 = c + 1 then cCL x K else none := rfl
theorem uAN {Y : Type} (h : AH) (t a : Nat) (K : Int32 → Option Y) : cAN h t (some a) K = if (gK h a).1 = 100 + t then K (nI (gK h a).2) else none := rfl
theorem uAL {Y : Type} {h : AH} {t a i : Nat} {K : Int32 → Option Y} (hi : i < 2 ^ 31) : cAL h t (some a) (nI i) K = if (gK h a).1 = 100 + t ∧ i < (gK h a).2 then K (gA h a i) else none := by
  unfold cAL
  simp only [nI_toInt hi, nI_clamp hi, Int.natCast_nonneg, true_and, Int.ofNat_lt]
theorem uQL {Y : Type} {h : AH} {t a i : Nat} {K : Option Nat → Option Y} (hi : i < 2 ^ 31) : cQL h t (some a) (nI i) K = if (gK h a).1 = 100 + t ∧ i < (gK h a).2 then K (gQ h a i) else none := by
  unfold cQL
  simp only [nI_toInt hi, nI_clamp hi, Int.natCast_nonneg, true_and, Int.ofNat_lt]
theorem uAS {Y : Type} {h : AH} {t a i : Nat} {v : Int32} {K : AH → Option Y} (hi : i < 2 ^ 31) : cAS h t (some a) (nI i) v K = if (gK h a).1 = 100 + t ∧ i < (gK h a).2 then K (pA h a i (vp_nar (sr_aty t) v)) else none := by
  unfold cAS
  simp only [nI_toInt hi, nI_clamp hi, Int.natCast_nonneg, true_and, Int.ofNat_lt]
theorem uQS {Y : Type} {h : AH} {t c a b i : Nat} {K : AH → Option Y} (hi : i < 2 ^ 31) : cQS h t c (some a) (nI i) (some b) K = if ((gK h a).1 = 100 + t ∧ i < (gK h a).2) ∧ (gK h b).1 = c + 1 then K (pQ h a i (some b)) else none := by
  unfold cQS
  simp only [nI_toInt hi, nI_clamp hi, Int.natCast_nonneg, true_and, Int.ofNat_lt]
theorem uNA {Y : Type} {h : AH} {t n : Nat} {K : Option Nat → AH → Option Y} (hn : n < 100000) : cNA h t (nI n) K = K (some (gN h)) (mkC h (100 + t, n) n) := oNA hn
/-- ints -/
theorem lt0 {a : Nat} (h : a < 2 ^ 31) : (nI a < 0) = False := eq_false (nI_pos h)
theorem le0' {a : Nat} (h : a < 2 ^ 31) : ((0 : Int32) ≤ nI a) = True := eq_true (nI_pos' h)
theorem leN {a b : Nat} (ha : a < 2 ^ 31) (hb : b < 2 ^ 31) : (nI a ≤ nI b) = (a ≤ b) := propext (nI_leI ha hb)
theorem ltN {a b : Nat} (ha : a < 2 ^ 31) (hb : b < 2 ^ 31) : (nI a < nI b) = (a < b) := propext (nI_ltI ha hb)
theorem eqN {a b : Nat} (ha : a < 2 ^ 31) (hb : b < 2 ^ 31) : (nI a = nI b) = (a = b) := propext (nI_eq ha hb)
theorem eqM1 {a : Nat} (h : a < 2 ^ 31) : (nI a = -1) = False := by
  refine eq_false (fun q => ?_)
  have h1 := congrArg Int32.toInt q
  rw [nI_toInt h] at h1
  simp at h1
theorem M1eq {a : Nat} (h : a < 2 ^ 31) : ((-1 : Int32) = nI a) = False := propext ⟨fun q => by rw [← eqM1 h]; exact q.symm, fun q => q.elim⟩
theorem le0n {a : Nat} (h : a < 2 ^ 31) : (nI a ≤ 0) = (a = 0) := by
  rw [show (0 : Int32) = nI 0 from rfl, leN h (by omega)]
  exact propext ⟨fun q => by omega, fun q => by omega⟩
theorem eq0n {a : Nat} (h : a < 2 ^ 31) : (nI a = 0) = (a = 0) := by rw [show (0 : Int32) = nI 0 from rfl, eqN h (by omega)]
theorem li (n : Nat) : (OfNat.ofNat n : Int32) = nI n := rfl
theorem nI_sub {a b : Nat} (h : b ≤ a) : nI a - nI b = nI (a - b) := pk_sub h
theorem nI_mul (a b : Nat) : nI a * nI b = nI (a * b) := pk_mul a b
def TapeC (h : AH) (t b n : Nat) (tp : Nat → Int32) : Prop := gK h t = (7, 0) ∧ gR h 300 t = some b ∧ gK h b = (101, 2000) ∧ gI h 301 t = nI n ∧ n ≤ 2000 ∧ ∀ i, i < n → gA h b i = tp i
def bt (tp : Nat → Int32) (n k : Nat) : Int32 := if k < n then tp k &&& nI 255 else -1
theorem tape_byteAt {h : AH} {t b n : Nat} {tp : Nat → Int32} (hT : TapeC h t b n tp) {k : Nat} (hk : k < 2 ^ 31) : fX6_byteAt (some t) (nI k) h = some (bt tp n k, h) := by
  obtain ⟨h1, h2, h3, h4, h5, h6⟩ := hT
  unfold fX6_byteAt fX6_byteAt_0 fX6_byteAt_34 fX6_byteAt_35 bt
  by_cases hkn : k < n
  · simp (disch := omega) only [lt0, oGI h1, oGR h1, oAN h3, oAL h3, h2, h4, leN, show ¬ n ≤ k by omega, show ¬ 2000 ≤ k by omega, hkn, ↓reduceIte, h6]
  · simp (disch := omega) only [lt0, oGI h1, h4, leN, show n ≤ k by omega, hkn, ↓reduceIte]

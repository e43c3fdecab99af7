/-! a new object of the class -/
theorem z_I (b f a : Nat) : gI (sr_h0 b) f a = 0 := rfl
theorem z_L (b f a : Nat) : gL (sr_h0 b) f a = 0 := rfl
theorem z_R (b f a : Nat) : gR (sr_h0 b) f a = none := rfl
theorem z_A (b a i : Nat) : gA (sr_h0 b) a i = 0 := rfl
theorem z_Q (b a i : Nat) : gQ (sr_h0 b) a i = none := rfl
theorem z_K (b a : Nat) : gK (sr_h0 b) a = (0, 0) := rfl
theorem z_N (b : Nat) : gN (sr_h0 b) = b := rfl
/-- the kinds of what is made, in order -/
def kT (j : Nat) : Nat × Nat := [(9, 0), (7, 0), (101, 2000), (5, 0), (101, 8000), (3, 0), (100, 40), (100, 40), (8, 0), (103, 120), (4, 0), (2, 0), (104, 4), (6, 0), (2, 0), (104, 4), (103, 21), (100, 21)].getD j (0, 0)
def KF (b p : Nat) (H : AH) : Prop := gN H = b + p ∧ (∀ j, j < p → gK H (b + j) = kT j) ∧ ∀ a, b + p ≤ a → gK H a = (0, 0)
theorem KF.mk {b p n : Nat} {H : AH} {k : Nat × Nat} (q : KF b p H) (hk : k = kT p) : KF b (p + 1) (mkC H k n) := by
  obtain ⟨q1, q2, q3⟩ := q
  refine ⟨by rw [gN_mk, q1]; omega, fun j hj => ?_, fun a ha => ?_⟩
  · rw [gK_mk, q1]
    by_cases e : j = p
    · rw [if_pos (by omega), hk, e]
    · rw [if_neg (by omega)]; exact q2 j (by omega)
  · rw [gK_mk, q1, if_neg (by omega)]; exact q3 a (by omega)
theorem KF.pR {b p f a : Nat} {H : AH} {v : Option Nat} (q : KF b p H) : KF b p (pR H f a v) := q
theorem KF.pI {b p f a : Nat} {H : AH} {v : Int32} (q : KF b p H) : KF b p (pI H f a v) := q
theorem KF.pL {b p f a : Nat} {H : AH} {v : Int64} (q : KF b p H) : KF b p (pL H f a v) := q
theorem KF.pQ {b p i a : Nat} {H : AH} {v : Option Nat} (q : KF b p H) : KF b p (pQ H a i v) := q
theorem KF.bg {b p A B t : Nat} {nm : List Nat} {H : AH} (q : KF b p H) : KF b p (bgH H A B t nm) := by
  unfold bgH
  exact q.pI.pI.pL.pI.pR.pR.pR.pR.pR.pI.pI.pI
theorem KF.k {b p : Nat} {H : AH} (q : KF b p H) (j : Nat) {x : Nat × Nat} (hj : j < p) (e : kT j = x) : gK H (b + j) = x := by rw [← e]; exact q.2.1 j hj
theorem pr_k {Y : Type} {h : AH} {c a k : Nat} (hk : gK h a = (c + 1, k)) (f : Nat) (v : Option Nat) (K : AH → Option Y) : cPR h c f (some a) v K = K (pR h f a v) := oPR hk
def hc0 (b : Nat) : AH := mkC (sr_h0 b) (9, 0) 5
def hc1 (b : Nat) : AH := mkC (hc0 b) (7, 0) 2
def hc2 (b : Nat) : AH := pR (mkC (hc1 b) (101, 2000) 2000) 300 (b + 1) (some (b + 2))
def hc3 (b : Nat) : AH := pR (hc2 b) 400 b (some (b + 1))
def hc4 (b : Nat) : AH := mkC (hc3 b) (5, 0) 2
def hc5 (b : Nat) : AH := pR (mkC (hc4 b) (101, 8000) 8000) 200 (b + 3) (some (b + 4))
def hc6 (b : Nat) : AH := pR (hc5 b) 401 b (some (b + 3))
def hc7 (b : Nat) : AH := mkC (hc6 b) (3, 0) 3
def hc8 (b : Nat) : AH := pR (mkC (hc7 b) (100, 40) 40) 100 (b + 5) (some (b + 6))
def hc9 (b : Nat) : AH := pR (mkC (hc8 b) (100, 40) 40) 101 (b + 5) (some (b + 7))
def hc10 (b : Nat) : AH := pR (hc9 b) 402 b (some (b + 5))
def hc11 (b : Nat) : AH := mkC (hc10 b) (8, 0) 3
def hc12 (b : Nat) : AH := pR (mkC (hc11 b) (103, 120) 120) 350 (b + 8) (some (b + 9))
def hc13 (b : Nat) : AH := mkC (hc12 b) (4, 0) 14
def hc14 (b : Nat) : AH := mkC (hc13 b) (2, 0) 2
def hc15 (b : Nat) : AH := pR (mkC (hc14 b) (104, 4) 4) 50 (b + 11) (some (b + 12))
def hc16 (b : Nat) : AH := pI (pR (hc15 b) 151 (b + 10) (some (b + 11))) 150 (b + 10) (nI 0)
def hc17 (b : Nat) : AH := pQ (pR (hc16 b) 351 (b + 8) (some (b + 10))) (b + 9) 0 (some (b + 10))
def hc18 (b : Nat) : AH := pI (bgH (hc17 b) (b + 10) (b + 11) 0 [100, 105, 118]) 352 (b + 8) (nI 1)
def hc19 (b : Nat) : AH := pR (hc18 b) 403 b (some (b + 8))
def hc20 (b : Nat) : AH := mkC (hc19 b) (6, 0) 8
def hc21 (b : Nat) : AH := mkC (hc20 b) (2, 0) 2
def hc22 (b : Nat) : AH := pR (mkC (hc21 b) (104, 4) 4) 50 (b + 14) (some (b + 15))
def hc23 (b : Nat) : AH := pR (hc22 b) 253 (b + 13) (some (b + 14))
def hc24 (b : Nat) : AH := pR (mkC (hc23 b) (103, 21) 21) 254 (b + 13) (some (b + 16))
def hc25 (b : Nat) : AH := pR (mkC (hc24 b) (100, 21) 21) 255 (b + 13) (some (b + 17))
def hc26 (b : Nat) : AH := pR (pR (pR (hc25 b) 250 (b + 13) (some (b + 1))) 251 (b + 13) (some (b + 8))) 252 (b + 13) (some (b + 5))
def hc27 (b : Nat) : AH := pR (hc26 b) 404 b (some (b + 13))
theorem kf0 (b : Nat) : KF b 1 (hc0 b) := KF.mk (p := 0) ⟨rfl, fun j hj => by omega, fun _ _ => rfl⟩ rfl
theorem kf1 (b : Nat) : KF b 2 (hc1 b) := (kf0 b).mk rfl
theorem kf2m (b : Nat) : KF b 3 (mkC (hc1 b) (101, 2000) 2000) := (kf1 b).mk rfl
theorem kf2 (b : Nat) : KF b 3 (hc2 b) := (kf2m b).pR
theorem kf3 (b : Nat) : KF b 3 (hc3 b) := (kf2 b).pR
theorem kf4 (b : Nat) : KF b 4 (hc4 b) := (kf3 b).mk rfl
theorem kf5m (b : Nat) : KF b 5 (mkC (hc4 b) (101, 8000) 8000) := (kf4 b).mk rfl
theorem kf5 (b : Nat) : KF b 5 (hc5 b) := (kf5m b).pR
theorem kf6 (b : Nat) : KF b 5 (hc6 b) := (kf5 b).pR
theorem kf7 (b : Nat) : KF b 6 (hc7 b) := (kf6 b).mk rfl
theorem kf8m (b : Nat) : KF b 7 (mkC (hc7 b) (100, 40) 40) := (kf7 b).mk rfl
theorem kf8 (b : Nat) : KF b 7 (hc8 b) := (kf8m b).pR
theorem kf9m (b : Nat) : KF b 8 (mkC (hc8 b) (100, 40) 40) := (kf8 b).mk rfl
theorem kf9 (b : Nat) : KF b 8 (hc9 b) := (kf9m b).pR
theorem kf10 (b : Nat) : KF b 8 (hc10 b) := (kf9 b).pR
theorem kf11 (b : Nat) : KF b 9 (hc11 b) := (kf10 b).mk rfl
theorem kf12m (b : Nat) : KF b 10 (mkC (hc11 b) (103, 120) 120) := (kf11 b).mk rfl
theorem kf12 (b : Nat) : KF b 10 (hc12 b) := (kf12m b).pR
theorem kf13 (b : Nat) : KF b 11 (hc13 b) := (kf12 b).mk rfl
theorem kf14 (b : Nat) : KF b 12 (hc14 b) := (kf13 b).mk rfl
theorem kf15m (b : Nat) : KF b 13 (mkC (hc14 b) (104, 4) 4) := (kf14 b).mk rfl
theorem kf15 (b : Nat) : KF b 13 (hc15 b) := (kf15m b).pR
theorem kf16 (b : Nat) : KF b 13 (hc16 b) := (kf15 b).pR.pI
theorem kf17 (b : Nat) : KF b 13 (hc17 b) := (kf16 b).pR.pQ
theorem kf18 (b : Nat) : KF b 13 (hc18 b) := (kf17 b).bg.pI
theorem kf19 (b : Nat) : KF b 13 (hc19 b) := (kf18 b).pR
theorem kf20 (b : Nat) : KF b 14 (hc20 b) := (kf19 b).mk rfl
theorem kf21 (b : Nat) : KF b 15 (hc21 b) := (kf20 b).mk rfl
theorem kf22m (b : Nat) : KF b 16 (mkC (hc21 b) (104, 4) 4) := (kf21 b).mk rfl
theorem kf22 (b : Nat) : KF b 16 (hc22 b) := (kf22m b).pR
theorem kf23 (b : Nat) : KF b 16 (hc23 b) := (kf22 b).pR
theorem kf24m (b : Nat) : KF b 17 (mkC (hc23 b) (103, 21) 21) := (kf23 b).mk rfl
theorem kf24 (b : Nat) : KF b 17 (hc24 b) := (kf24m b).pR
theorem kf25m (b : Nat) : KF b 18 (mkC (hc24 b) (100, 21) 21) := (kf24 b).mk rfl
theorem kf25 (b : Nat) : KF b 18 (hc25 b) := (kf25m b).pR
theorem kf26 (b : Nat) : KF b 18 (hc26 b) := (kf25 b).pR.pR.pR
theorem kf27 (b : Nat) : KF b 18 (hc27 b) := (kf26 b).pR
theorem i_arr {Y : Type} {h : AH} {t n : Nat} (hn : n < 100000) (K : Option Nat → AH → Option Y) : cNA h t (nI n) K = K (some (gN h)) (mkC h (100 + t, n) n) := oNA hn
theorem run_begin {H : AH} {A B : Nat} (kA : gK H A = (4, 0)) (kB : gK H B = (2, 0)) (r : gR H 151 A = some B) : fX3_begin (some A) (nI 0) 6580598 H = some ((), bgH H A B 0 [100, 105, 118]) := by
  rw [show (6580598 : Int64) = lN (pack [100, 105, 118]) by decide]
  simp only [fX3_begin, fX3_begin_0, fX3_begin_88]
  simp (disch := omega) only [↓uGI, ↓uGL, ↓uGR, ↓uPI, ↓uPL, ↓uPR, ↓uAL, ↓uQL, ↓uAS, ↓uQS, ↓uAN, ↓uCV, ↓oCL, ↓oNO, ↓uNA, ↓oNN, ↓oZ0, ↓oZ1, gI_pI, gI_pL, gI_pR, gI_pA, gI_pQ, gL_pI, gL_pL, gL_pR, gL_pA, gL_pQ, gR_pI, gR_pL, gR_pR, gR_pA, gR_pQ, gA_pI, gA_pL, gA_pR, gA_pA, gA_pQ, gQ_pI, gQ_pL, gQ_pR, gQ_pA, gQ_pQ, gK_pI, gK_pL, gK_pR, gK_pA, gK_pQ, gN_pI, gN_pL, gN_pR, gN_pA, gN_pQ, gS_pI, gS_pL, gS_pR, gS_pA, gS_pQ, gI_mk, gL_mk, gR_mk, gA_mk, gQ_mk, gK_mk, gN_mk, gS_mk, vn0, vn1, lt0, leN, ltN, eqN, eqM1, M1eq, le0n, eq0n, nI_add, nI_mul, ↓reduceIte, Nat.reduceAdd, Nat.reduceMul, Nat.reduceEqDiff, Nat.reduceLT, Nat.reduceLeDiff, and_true, true_and, and_false, false_and, and_self, reduceCtorEq, not_true_eq_false, not_false_eq_true, ↓pr_k, kA, kB, r]
  rfl
theorem run_6 (b : Nat) : fX6_init (some (b + 1)) (hc1 b) = some ((), hc2 b) := by
  simp only [fX6_init, fX6_init_0, oNN]
  rw [i_arr (by omega), (kf1 b).1]
  exact pr_k (c := 6) ((kf2m b).k 1 (by omega) rfl) _ _ _
theorem run_4 (b : Nat) : fX4_init (some (b + 3)) (hc4 b) = some ((), hc5 b) := by
  simp only [fX4_init, fX4_init_0, oNN]
  rw [i_arr (by omega), (kf4 b).1]
  exact pr_k (c := 4) ((kf5m b).k 3 (by omega) rfl) _ _ _
theorem run_2 (b : Nat) : fX2_init (some (b + 5)) (hc7 b) = some ((), hc9 b) := by
  simp only [fX2_init, fX2_init_0, oNN]
  rw [i_arr (by omega), (kf7 b).1, pr_k (c := 2) (k := 0) ((kf8m b).k 5 (by omega) rfl)]
  rw [show pR (mkC (hc7 b) (100 + 0, 40) 40) 100 (b + 5) (some (b + 6)) = hc8 b from rfl, i_arr (by omega), (kf8 b).1]
  exact pr_k (c := 2) ((kf9m b).k 5 (by omega) rfl) _ _ _
theorem run_1a (b : Nat) : fX1_init (some (b + 11)) (hc14 b) = some ((), hc15 b) := by
  simp only [fX1_init, fX1_init_0, oNN]
  rw [i_arr (by omega), (kf14 b).1]
  exact pr_k (c := 1) ((kf15m b).k 11 (by omega) rfl) _ _ _
theorem run_1b (b : Nat) : fX1_init (some (b + 14)) (hc21 b) = some ((), hc22 b) := by
  simp only [fX1_init, fX1_init_0, oNN]
  rw [i_arr (by omega), (kf21 b).1]
  exact pr_k (c := 1) ((kf22m b).k 14 (by omega) rfl) _ _ _
theorem run_3 (b : Nat) : fX3_init (some (b + 10)) (nI 0) (hc13 b) = some ((), hc16 b) := by
  simp only [fX3_init, fX3_init_0, oNN]
  rw [oNO, (kf13 b).1, show mkC (hc13 b) (1 + 1, 0) 2 = hc14 b from rfl, cv_of (c := 1) (k := 0) ((kf14 b).k 11 (by omega) rfl) (run_1a b), pr_k (c := 3) (k := 0) ((kf15 b).k 10 (by omega) rfl)]
  exact pi_of (c := 3) (k := 0) ((kf15 b).pR.k 10 (by omega) rfl) _ _ _
theorem rr1 (b : Nat) : gR (pR (hc16 b) 351 (b + 8) (some (b + 10))) 350 (b + 8) = some (b + 9) := by
  rw [gR_pR, if_neg (by omega)]
  unfold hc16
  rw [gR_pI, gR_pR, if_neg (by omega)]
  unfold hc15
  rw [gR_pR, if_neg (by omega), gR_mk, (kf14 b).1, if_neg (by omega)]
  unfold hc14
  rw [gR_mk, (kf13 b).1, if_neg (by omega)]
  unfold hc13
  rw [gR_mk, (kf12 b).1, if_neg (by omega)]
  unfold hc12
  rw [gR_pR, if_pos ⟨rfl, rfl⟩]
theorem rr2 (b : Nat) : gR (pR (hc16 b) 351 (b + 8) (some (b + 10))) 351 (b + 8) = some (b + 10) := by rw [gR_pR, if_pos ⟨rfl, rfl⟩]
theorem rr3 (b : Nat) : gR (hc17 b) 351 (b + 8) = some (b + 10) := by
  unfold hc17
  rw [gR_pQ]; exact rr2 b
theorem rr4 (b : Nat) : gR (hc17 b) 151 (b + 10) = some (b + 11) := by
  unfold hc17
  rw [gR_pQ, gR_pR, if_neg (by omega)]
  unfold hc16
  rw [gR_pI, gR_pR, if_pos ⟨rfl, rfl⟩]
theorem rs1 {Y : Type} (b : Nat) (K : AH → Option Y) : (cNA (hc11 b) 3 (nI 120) fun x1 h2 => cPR h2 7 350 (some (b + 8)) x1 fun h3 => K h3) = K (hc12 b) := by
  rw [i_arr (by omega), (kf11 b).1]
  exact pr_k (c := 7) ((kf12m b).k 8 (by omega) rfl) _ _ _
theorem rs2 {Y : Type} (b : Nat) (K : Option Nat → AH → Option Y) : (cNO (hc12 b) 3 14 fun x4 h5 => cCV h5 3 x4 (fX3_init x4 (nI 0) h5) fun _ h6 => K x4 h6) = K (some (b + 10)) (hc16 b) := by
  rw [oNO, (kf12 b).1]
  exact cv_of (c := 3) (k := 0) ((kf13 b).k 10 (by omega) rfl) (run_3 b) _
theorem rs3 {Y : Type} (b : Nat) (K : AH → Option Y) : (cPR (hc16 b) 7 351 (some (b + 8)) (some (b + 10)) fun h7 => cGR h7 7 350 (some (b + 8)) fun x8 => cGR h7 7 351 (some (b + 8)) fun x9 => cQS h7 3 3 x8 (nI 0) x9 fun h10 => K h10) = K (hc17 b) := by
  rw [pr_k (c := 7) (k := 0) ((kf16 b).k 8 (by omega) rfl), gr_of (c := 7) (k := 0) ((kf16 b).pR.k 8 (by omega) rfl) (rr1 b), gr_of (c := 7) (k := 0) ((kf16 b).pR.k 8 (by omega) rfl) (rr2 b)]
  exact oQS (t := 3) (c := 3) (n := 120) (k := 0) ((kf16 b).pR.k 9 (by omega) rfl) ((kf16 b).pR.k 10 (by omega) rfl) (by omega) (by omega)
theorem rs4 (b : Nat) : (cGR (hc17 b) 7 351 (some (b + 8)) fun x11 => cCV (hc17 b) 3 x11 (fX3_begin x11 (nI 0) 6580598 (hc17 b)) fun _ h12 => cPI h12 7 352 (some (b + 8)) (nI 1) fun h13 => some ((), h13)) = some ((), hc18 b) := by
  rw [gr_of (c := 7) (k := 0) ((kf17 b).k 8 (by omega) rfl) (rr3 b), cv_of (c := 3) (k := 0) ((kf17 b).k 10 (by omega) rfl) (run_begin ((kf17 b).k 10 (by omega) rfl) ((kf17 b).k 11 (by omega) rfl) (rr4 b))]
  exact pi_of (c := 7) (k := 0) ((kf17 b).bg.k 8 (by omega) rfl) _ _ _
theorem run_7 (b : Nat) : fX7_init (some (b + 8)) (hc11 b) = some ((), hc18 b) := by
  simp only [fX7_init, fX7_init_0, oNN]
  rw [rs1, rs2, rs3]
  exact rs4 b
theorem run_5 (b : Nat) : fX5_init (some (b + 13)) (some (b + 1)) (some (b + 8)) (some (b + 5)) (hc20 b) = some ((), hc26 b) := by
  simp only [fX5_init, fX5_init_0, oNN]
  rw [oNO, (kf20 b).1, show mkC (hc20 b) (1 + 1, 0) 2 = hc21 b from rfl, cv_of (c := 1) (k := 0) ((kf21 b).k 14 (by omega) rfl) (run_1b b), pr_k (c := 5) (k := 0) ((kf22 b).k 13 (by omega) rfl), show pR (hc22 b) 253 (b + 13) (some (b + 14)) = hc23 b from rfl, i_arr (by omega), (kf23 b).1, pr_k (c := 5) (k := 0) ((kf24m b).k 13 (by omega) rfl), show pR (mkC (hc23 b) (100 + 3, 21) 21) 254 (b + 13) (some (b + 16)) = hc24 b from rfl, i_arr (by omega), (kf24 b).1, pr_k (c := 5) (k := 0) ((kf25m b).k 13 (by omega) rfl), show pR (mkC (hc24 b) (100 + 0, 21) 21) 255 (b + 13) (some (b + 17)) = hc25 b from rfl, pr_k (c := 5) (k := 0) ((kf25 b).k 13 (by omega) rfl), pr_k (c := 5) (k := 0) ((kf25 b).pR.k 13 (by omega) rfl)]
  exact pr_k (c := 5) (k := 0) ((kf25 b).pR.pR.k 13 (by omega) rfl) _ _ _

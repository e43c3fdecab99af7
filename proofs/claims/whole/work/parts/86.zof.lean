/-! one step, with its value: to be used as ↓ rows, so that simp goes through a method from its outside -/
theorem gi_of {Y : Type} {h : AH} {c f a k : Nat} {v : Int32} (hk : gK h a = (c + 1, k)) (hv : gI h f a = v) (K : Int32 → Option Y) : cGI h c f (some a) K = K v := by rw [oGI hk, hv]
theorem gl_of {Y : Type} {h : AH} {c f a k : Nat} {v : Int64} (hk : gK h a = (c + 1, k)) (hv : gL h f a = v) (K : Int64 → Option Y) : cGL h c f (some a) K = K v := by rw [oGL hk, hv]
theorem gr_of {Y : Type} {h : AH} {c f a k : Nat} {v : Option Nat} (hk : gK h a = (c + 1, k)) (hv : gR h f a = v) (K : Option Nat → Option Y) : cGR h c f (some a) K = K v := by rw [oGR hk, hv]
theorem pi_of {Y : Type} {h : AH} {c a k : Nat} (hk : gK h a = (c + 1, k)) (f : Nat) (v : Int32) (K : AH → Option Y) : cPI h c f (some a) v K = K (pI h f a v) := oPI hk
theorem pr_of {Y : Type} {h : AH} {c a k : Nat} (hk : gK h a = (c + 1, k)) (f : Nat) (v : Option Nat) (K : AH → Option Y) : cPR h c f (some a) v K = K (pR h f a v) := oPR hk
theorem cv_of {Y Z : Type} {h h' : AH} {c a k : Nat} {x : Option (Z × AH)} {v : Z} (hk : gK h a = (c + 1, k)) (hx : x = some (v, h')) (K : Z → AH → Option Y) : cCV h c (some a) x K = K v h' := by rw [oCV hk, hx]; rfl
theorem cl_of {Y Z : Type} {h' : AH} {x : Option (Z × AH)} {v : Z} (hx : x = some (v, h')) (K : Z → AH → Option Y) : cCL x K = K v h' := by rw [hx]; rfl
theorem al_of {Y : Type} {h : AH} {t a n i : Nat} {v : Int32} (hk : gK h a = (t + 100, n)) (hi : i < n) (hn : n < 2 ^ 31) (hv : gA h a i = v) (K : Int32 → Option Y) : cAL h t (some a) (nI i) K = K v := by rw [oAL hk hi hn, hv]
theorem ql_of {Y : Type} {h : AH} {t a n i : Nat} {v : Option Nat} (hk : gK h a = (t + 100, n)) (hi : i < n) (hn : n < 2 ^ 31) (hv : gQ h a i = v) (K : Option Nat → Option Y) : cQL h t (some a) (nI i) K = K v := by rw [oQL hk hi hn, hv]
theorem as_of {Y : Type} {h : AH} {t a n i : Nat} (hk : gK h a = (t + 100, n)) (hi : i < n) (hn : n < 2 ^ 31) (v : Int32) (K : AH → Option Y) : cAS h t (some a) (nI i) v K = K (pA h a i (vp_nar (sr_aty t) v)) := oAS hk hi hn
theorem an_of {Y : Type} {h : AH} {t a n : Nat} (hk : gK h a = (t + 100, n)) (K : Int32 → Option Y) : cAN h t (some a) K = K (nI n) := oAN hk

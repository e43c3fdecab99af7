noncomputable def fX6_nameLength_26  (v1 : Int32) (h : AH) : Option (Int32 × AH) := some (v1, h)
theorem tX6_nameLength_26 (G : sr_G) (v1 : Int32) (h : AH) : sr_T (X := Int32) G 2 RX6 cX6_nameLength 2 (some .int) false (sr_M G jI) 26 [(1, vI v1)] [] h (fX6_nameLength_26  v1 h) := by
  unfold fX6_nameLength_26
  refine tq_iload_n 1 0 dX6_nameLength_26 rfl rfl ?_
  exact tq_iret rfl dX6_nameLength_27
noncomputable def fX6_nameLength_2  : Nat → Option Nat → Int32 → AH → Option (Int32 × AH)
  | 0, _, _, _ => none
  | n + 1, v0, v1, h => if (nI 8) ≤ v1 then (fX6_nameLength_26 v1 h) else (cCV h 6 v0 (fX6_byteAt v0 v1 h) fun x2 h1 => cCL (fX6_canBeInName x2 v1 h1) fun x4 h3 => if x4 = 0 then (fX6_nameLength_26 v1 h3) else (fX6_nameLength_2 n v0 (v1 + (nI 1)) h3))
theorem tX6_nameLength_2 (G : sr_G) : ∀ (n : Nat) (v0 : Option Nat) (v1 : Int32) (h : AH), sr_T (X := Int32) G 2 RX6 cX6_nameLength 2 (some .int) false (sr_M G jI) 2 [(0, vR v0), (1, vI v1)] [] h (fX6_nameLength_2  n v0 v1 h) := by
  intro n
  induction n with
  | zero => intro v0 v1 h; exact tq_none
  | succ n ih =>
    intro v0 v1 h
    unfold fX6_nameLength_2
    refine tq_iload_n 1 1 dX6_nameLength_2 rfl rfl ?_
    refine tq_bipush (nI 8) dX6_nameLength_3 (by decide) ?_
    refine tq_icmp_ge 26 dX6_nameLength_5 (by decide) (fun _ => ?_) (fun _ => ?_)
    · exact tq_sub [1] rfl (tX6_nameLength_26 G v1 h)
    · refine tq_aload_n 0 0 dX6_nameLength_8 rfl rfl ?_
      refine tq_iload_n 1 1 dX6_nameLength_9 rfl rfl ?_
      refine tq_cVI [vI v1] [] dX6_nameLength_10 (eX6_byteAt G v0 v1 h) (by decide) mbX6_byteAt cfX6 rfl wd_336 wd_337 wd_338 rfl rfl (Nat.le_of_ble_eq_true rfl) (fun x2 h1 => ?_)
      refine tq_iload_n 1 1 dX6_nameLength_13 rfl rfl ?_
      refine tq_cSI [vI x2, vI v1] [] dX6_nameLength_14 (eX6_canBeInName G x2 v1 h1) (by decide) mbX6_canBeInName wd_678 wd_679 rfl rfl (Nat.le_of_ble_eq_true rfl) (fun x4 h3 => ?_)
      refine tq_if_eq 26 dX6_nameLength_17 (by decide) (fun _ => ?_) (fun _ => ?_)
      · exact tq_sub [1] rfl (tX6_nameLength_26 G v1 h3)
      · refine tq_iinc 1 (nI 1) (L' := [(1, vI (v1 + (nI 1))), (0, vR v0)]) dX6_nameLength_20 rfl (by decide) (by decide) rfl ?_
        refine tq_goto 2 dX6_nameLength_23 (by decide) ?_
        exact tq_sub [1, 0] rfl (ih v0 (v1 + (nI 1)) h3)
noncomputable def fX6_nameLength_0  (v0 : Option Nat) (h : AH) : Option (Int32 × AH) := fX6_nameLength_2 FU v0 (nI 0) h
theorem tX6_nameLength_0 (G : sr_G) (v0 : Option Nat) (h : AH) : sr_T (X := Int32) G 2 RX6 cX6_nameLength 2 (some .int) false (sr_M G jI) 0 [(0, vR v0)] [] h (fX6_nameLength_0  v0 h) := by
  unfold fX6_nameLength_0
  refine tq_iconst (nI 0) dX6_nameLength_0 (by decide) ?_
  refine tq_istore_n 1 (L' := [(1, vI (nI 0)), (0, vR v0)]) dX6_nameLength_1 rfl (by decide) rfl ?_
  exact tq_sub [1, 0] rfl (tX6_nameLength_2 G FU v0 (nI 0) h)
noncomputable def fX6_nameLength (v0 : Option Nat) (h : AH) : Option (Int32 × AH) := fX6_nameLength_0 v0 h
theorem eX6_nameLength (G : sr_G) (v0 : Option Nat) (h : AH) : sr_E G 2 yX6_nameLength cX6_nameLength 2 (some .int) jI [vR v0] h (fX6_nameLength v0 h) := sr_E.of (own := RX6) (ini := false) (by decide) rfl (fun q => by first | rfl | cases q) rfl (Nat.le_of_ble_eq_true rfl) (tX6_nameLength_0 G v0 h)
noncomputable def fX6_wrongAsName_42  (s0 : Int32) (h : AH) : Option (Int32 × AH) := some (s0, h)
theorem tX6_wrongAsName_42 (G : sr_G) (s0 : Int32) (h : AH) : sr_T (X := Int32) G 3 RX6 cX6_wrongAsName 3 (some .int) false (sr_M G jI) 42 [] [vI s0] h (fX6_wrongAsName_42  s0 h) := by
  unfold fX6_wrongAsName_42
  exact tq_iret rfl dX6_wrongAsName_42
noncomputable def fX6_wrongAsName_37  (v2 : Int32) (h : AH) : Option (Int32 × AH) := fX6_wrongAsName_42 ((-1000) - v2) h
theorem tX6_wrongAsName_37 (G : sr_G) (v2 : Int32) (h : AH) : sr_T (X := Int32) G 3 RX6 cX6_wrongAsName 3 (some .int) false (sr_M G jI) 37 [(2, vI v2)] [] h (fX6_wrongAsName_37  v2 h) := by
  unfold fX6_wrongAsName_37
  refine tq_sipush (-1000) dX6_wrongAsName_37 (by decide) ?_
  refine tq_iload_n 2 0 dX6_wrongAsName_40 rfl rfl ?_
  refine tq_isub dX6_wrongAsName_41 ?_
  exact tq_sub [] rfl (tX6_wrongAsName_42 G ((-1000) - v2) h)
noncomputable def fX6_wrongAsName_0  (v0 : Option Nat) (h : AH) : Option (Int32 × AH) := cCV h 6 v0 (fX6_badPlace v0 h) fun x2 h1 => if x2 = (-1) then (cCV h1 6 v0 (fX6_nameLength v0 h1) fun x4 h3 => if x4 ≤ 0 then (fX6_wrongAsName_37 x4 h3) else (cGI h3 6 301 v0 fun x5 => if x4 = x5 then (fX6_wrongAsName_42 (nI 0) h3) else (fX6_wrongAsName_37 x4 h3))) else (some (((-1000) - x2), h1))
theorem tX6_wrongAsName_0 (G : sr_G) (v0 : Option Nat) (h : AH) : sr_T (X := Int32) G 3 RX6 cX6_wrongAsName 3 (some .int) false (sr_M G jI) 0 [(0, vR v0)] [] h (fX6_wrongAsName_0  v0 h) := by
  unfold fX6_wrongAsName_0
  refine tq_aload_n 0 0 dX6_wrongAsName_0 rfl rfl ?_
  refine tq_cVI [] [] dX6_wrongAsName_1 (eX6_badPlace G v0 h) (by decide) mbX6_badPlace cfX6 rfl wd_673 wd_333 wd_334 rfl rfl (Nat.le_of_ble_eq_true rfl) (fun x2 h1 => ?_)
  refine tq_istore_n 1 (L' := [(1, vI x2), (0, vR v0)]) dX6_wrongAsName_4 rfl (by decide) rfl ?_
  refine tq_iload_n 1 0 dX6_wrongAsName_5 rfl rfl ?_
  refine tq_iconst (-1) dX6_wrongAsName_6 (by decide) ?_
  refine tq_icmp_eq 16 dX6_wrongAsName_7 (by decide) (fun _ => ?_) (fun _ => ?_)
  · refine tq_aload_n 0 1 dX6_wrongAsName_16 rfl rfl ?_
    refine tq_cVI [] [] dX6_wrongAsName_17 (eX6_nameLength G v0 h1) (by decide) mbX6_nameLength cfX6 rfl wd_674 wd_675 wd_676 rfl rfl (Nat.le_of_ble_eq_true rfl) (fun x4 h3 => ?_)
    refine tq_istore_n 2 (L' := [(2, vI x4), (1, vI x2), (0, vR v0)]) dX6_wrongAsName_20 rfl (by decide) rfl ?_
    refine tq_iload_n 2 0 dX6_wrongAsName_21 rfl rfl ?_
    refine tq_if_le 37 dX6_wrongAsName_22 (by decide) (fun _ => ?_) (fun _ => ?_)
    · exact tq_sub [0] rfl (tX6_wrongAsName_37 G x4 h3)
    · refine tq_iload_n 2 0 dX6_wrongAsName_25 rfl rfl ?_
      refine tq_aload_n 0 2 dX6_wrongAsName_26 rfl rfl ?_
      refine tq_getI 1 dX6_wrongAsName_27 cfX6 (by decide) wd_102 rfl rfl (fun x5 => ?_)
      refine tq_icmp_ne 37 dX6_wrongAsName_30 (by decide) (fun _ => ?_) (fun _ => ?_)
      · exact tq_sub [0] rfl (tX6_wrongAsName_37 G x4 h3)
      · refine tq_iconst (nI 0) dX6_wrongAsName_33 (by decide) ?_
        refine tq_goto 42 dX6_wrongAsName_34 (by decide) ?_
        exact tq_sub [] rfl (tX6_wrongAsName_42 G (nI 0) h3)
  · refine tq_sipush (-1000) dX6_wrongAsName_10 (by decide) ?_
    refine tq_iload_n 1 0 dX6_wrongAsName_13 rfl rfl ?_
    refine tq_isub dX6_wrongAsName_14 ?_
    exact tq_iret rfl dX6_wrongAsName_15
noncomputable def fX6_wrongAsName (v0 : Option Nat) (h : AH) : Option (Int32 × AH) := fX6_wrongAsName_0 v0 h
theorem eX6_wrongAsName (G : sr_G) (v0 : Option Nat) (h : AH) : sr_E G 3 yX6_wrongAsName cX6_wrongAsName 3 (some .int) jI [vR v0] h (fX6_wrongAsName v0 h) := sr_E.of (own := RX6) (ini := false) (by decide) rfl (fun q => by first | rfl | cases q) rfl (Nat.le_of_ble_eq_true rfl) (tX6_wrongAsName_0 G v0 h)
noncomputable def fX6_wrongAsSetting_44  (s0 : Int32) (h : AH) : Option (Int32 × AH) := some (s0, h)
theorem tX6_wrongAsSetting_44 (G : sr_G) (s0 : Int32) (h : AH) : sr_T (X := Int32) G 3 RX6 cX6_wrongAsSetting 3 (some .int) false (sr_M G jI) 44 [] [vI s0] h (fX6_wrongAsSetting_44  s0 h) := by
  unfold fX6_wrongAsSetting_44
  exact tq_iret rfl dX6_wrongAsSetting_44
noncomputable def fX6_wrongAsSetting_39  (v2 : Int32) (h : AH) : Option (Int32 × AH) := fX6_wrongAsSetting_44 ((-1000) - v2) h
theorem tX6_wrongAsSetting_39 (G : sr_G) (v2 : Int32) (h : AH) : sr_T (X := Int32) G 3 RX6 cX6_wrongAsSetting 3 (some .int) false (sr_M G jI) 39 [(2, vI v2)] [] h (fX6_wrongAsSetting_39  v2 h) := by
  unfold fX6_wrongAsSetting_39
  refine tq_sipush (-1000) dX6_wrongAsSetting_39 (by decide) ?_
  refine tq_iload_n 2 0 dX6_wrongAsSetting_42 rfl rfl ?_
  refine tq_isub dX6_wrongAsSetting_43 ?_
  exact tq_sub [] rfl (tX6_wrongAsSetting_44 G ((-1000) - v2) h)
noncomputable def fX6_wrongAsSetting_0  (v0 : Option Nat) (h : AH) : Option (Int32 × AH) := cCV h 6 v0 (fX6_badPlace v0 h) fun x2 h1 => if x2 = (-1) then (cCV h1 6 v0 (fX6_nameLength v0 h1) fun x4 h3 => if x4 ≤ 0 then (fX6_wrongAsSetting_39 x4 h3) else (cCV h3 6 v0 (fX6_byteAt v0 x4 h3) fun x6 h5 => if x6 = (nI 61) then (fX6_wrongAsSetting_44 (nI 0) h5) else (fX6_wrongAsSetting_39 x4 h5))) else (some (((-1000) - x2), h1))
theorem tX6_wrongAsSetting_0 (G : sr_G) (v0 : Option Nat) (h : AH) : sr_T (X := Int32) G 3 RX6 cX6_wrongAsSetting 3 (some .int) false (sr_M G jI) 0 [(0, vR v0)] [] h (fX6_wrongAsSetting_0  v0 h) := by
  unfold fX6_wrongAsSetting_0
  refine tq_aload_n 0 0 dX6_wrongAsSetting_0 rfl rfl ?_
  refine tq_cVI [] [] dX6_wrongAsSetting_1 (eX6_badPlace G v0 h) (by decide) mbX6_badPlace cfX6 rfl wd_673 wd_333 wd_334 rfl rfl (Nat.le_of_ble_eq_true rfl) (fun x2 h1 => ?_)
  refine tq_istore_n 1 (L' := [(1, vI x2), (0, vR v0)]) dX6_wrongAsSetting_4 rfl (by decide) rfl ?_
  refine tq_iload_n 1 0 dX6_wrongAsSetting_5 rfl rfl ?_
  refine tq_iconst (-1) dX6_wrongAsSetting_6 (by decide) ?_
  refine tq_icmp_eq 16 dX6_wrongAsSetting_7 (by decide) (fun _ => ?_) (fun _ => ?_)
  · refine tq_aload_n 0 1 dX6_wrongAsSetting_16 rfl rfl ?_
    refine tq_cVI [] [] dX6_wrongAsSetting_17 (eX6_nameLength G v0 h1) (by decide) mbX6_nameLength cfX6 rfl wd_674 wd_675 wd_676 rfl rfl (Nat.le_of_ble_eq_true rfl) (fun x4 h3 => ?_)
    refine tq_istore_n 2 (L' := [(2, vI x4), (1, vI x2), (0, vR v0)]) dX6_wrongAsSetting_20 rfl (by decide) rfl ?_
    refine tq_iload_n 2 0 dX6_wrongAsSetting_21 rfl rfl ?_
    refine tq_if_le 39 dX6_wrongAsSetting_22 (by decide) (fun _ => ?_) (fun _ => ?_)
    · exact tq_sub [0] rfl (tX6_wrongAsSetting_39 G x4 h3)
    · refine tq_aload_n 0 2 dX6_wrongAsSetting_25 rfl rfl ?_
      refine tq_iload_n 2 0 dX6_wrongAsSetting_26 rfl rfl ?_
      refine tq_cVI [vI x4] [] dX6_wrongAsSetting_27 (eX6_byteAt G v0 x4 h3) (by decide) mbX6_byteAt cfX6 rfl wd_336 wd_337 wd_338 rfl rfl (Nat.le_of_ble_eq_true rfl) (fun x6 h5 => ?_)
      refine tq_bipush (nI 61) dX6_wrongAsSetting_30 (by decide) ?_
      refine tq_icmp_ne 39 dX6_wrongAsSetting_32 (by decide) (fun _ => ?_) (fun _ => ?_)
      · exact tq_sub [0] rfl (tX6_wrongAsSetting_39 G x4 h5)
      · refine tq_iconst (nI 0) dX6_wrongAsSetting_35 (by decide) ?_
        refine tq_goto 44 dX6_wrongAsSetting_36 (by decide) ?_
        exact tq_sub [] rfl (tX6_wrongAsSetting_44 G (nI 0) h5)
  · refine tq_sipush (-1000) dX6_wrongAsSetting_10 (by decide) ?_
    refine tq_iload_n 1 0 dX6_wrongAsSetting_13 rfl rfl ?_
    refine tq_isub dX6_wrongAsSetting_14 ?_
    exact tq_iret rfl dX6_wrongAsSetting_15
noncomputable def fX6_wrongAsSetting (v0 : Option Nat) (h : AH) : Option (Int32 × AH) := fX6_wrongAsSetting_0 v0 h
theorem eX6_wrongAsSetting (G : sr_G) (v0 : Option Nat) (h : AH) : sr_E G 3 yX6_wrongAsSetting cX6_wrongAsSetting 3 (some .int) jI [vR v0] h (fX6_wrongAsSetting v0 h) := sr_E.of (own := RX6) (ini := false) (by decide) rfl (fun q => by first | rfl | cases q) rfl (Nat.le_of_ble_eq_true rfl) (tX6_wrongAsSetting_0 G v0 h)
noncomputable def fX6_packed_37  (v2 : Int64) (h : AH) : Option (Int64 × AH) := some (v2, h)
theorem tX6_packed_37 (G : sr_G) (v2 : Int64) (h : AH) : sr_T (X := Int64) G 1 RX6 cX6_packed 5 (some .long) false (sr_M G jL) 37 [(2, vL v2)] [] h (fX6_packed_37  v2 h) := by
  unfold fX6_packed_37
  refine tq_lload_n 2 0 dX6_packed_37 rfl rfl ?_
  exact tq_lret rfl dX6_packed_38
noncomputable def fX6_packed_5  : Nat → Option Nat → Int32 → Int64 → Int32 → AH → Option (Int64 × AH)
  | 0, _, _, _, _, _ => none
  | n + 1, v0, v1, v2, v4, h => if v1 ≤ v4 then (fX6_packed_37 v2 h) else (cGI h 6 301 v0 fun x1 => if x1 ≤ v4 then (fX6_packed_37 v2 h) else (cCV h 6 v0 (fX6_byteAt v0 v4 h) fun x3 h2 => cCL (fX8_longer v2 x3 h2) fun x5 h4 => fX6_packed_5 n v0 v1 x5 (v4 + (nI 1)) h4))
theorem tX6_packed_5 (G : sr_G) : ∀ (n : Nat) (v0 : Option Nat) (v1 : Int32) (v2 : Int64) (v4 : Int32) (h : AH), sr_T (X := Int64) G 1 RX6 cX6_packed 5 (some .long) false (sr_M G jL) 5 [(0, vR v0), (1, vI v1), (2, vL v2), (4, vI v4)] [] h (fX6_packed_5  n v0 v1 v2 v4 h) := by
  intro n
  induction n with
  | zero => intro v0 v1 v2 v4 h; exact tq_none
  | succ n ih =>
    intro v0 v1 v2 v4 h
    unfold fX6_packed_5
    refine tq_iload 3 dX6_packed_5 rfl ?_
    refine tq_iload_n 1 1 dX6_packed_7 rfl rfl ?_
    refine tq_icmp_ge 37 dX6_packed_8 (by decide) (fun _ => ?_) (fun _ => ?_)
    · exact tq_sub [2] rfl (tX6_packed_37 G v2 h)
    · refine tq_iload 3 dX6_packed_11 rfl ?_
      refine tq_aload_n 0 0 dX6_packed_13 rfl rfl ?_
      refine tq_getI 1 dX6_packed_14 cfX6 (by decide) wd_102 rfl rfl (fun x1 => ?_)
      refine tq_icmp_ge 37 dX6_packed_17 (by decide) (fun _ => ?_) (fun _ => ?_)
      · exact tq_sub [2] rfl (tX6_packed_37 G v2 h)
      · refine tq_lload_n 2 2 dX6_packed_20 rfl rfl ?_
        refine tq_aload_n 0 0 dX6_packed_21 rfl rfl ?_
        refine tq_iload 3 dX6_packed_22 rfl ?_
        refine tq_cVI [vI v4] [vL v2] dX6_packed_24 (eX6_byteAt G v0 v4 h) (by decide) mbX6_byteAt cfX6 rfl wd_336 wd_337 wd_338 rfl rfl (Nat.le_of_ble_eq_true rfl) (fun x3 h2 => ?_)
        refine tq_cNL [vL v2, vI x3] [] dX6_packed_27 (eX8_longer G v2 x3 h2) (by decide) mbX8_longer (host := "SoupReader") (by decide) wd_504 rfl rfl (Nat.le_of_ble_eq_true rfl) (fun x5 h4 => ?_)
        refine tq_lstore_n 2 (L' := [(2, vL x5), (0, vR v0), (1, vI v1), (4, vI v4)]) dX6_packed_30 rfl (by decide) rfl ?_
        refine tq_iinc 3 (nI 1) (L' := [(4, vI (v4 + (nI 1))), (2, vL x5), (0, vR v0), (1, vI v1)]) dX6_packed_31 rfl (by decide) (by decide) rfl ?_
        refine tq_goto 5 dX6_packed_34 (by decide) ?_
        exact tq_sub [2, 3, 1, 0] rfl (ih v0 v1 x5 (v4 + (nI 1)) h4)
noncomputable def fX6_packed_0  (v0 : Option Nat) (v1 : Int32) (h : AH) : Option (Int64 × AH) := fX6_packed_5 FU v0 v1 0 (nI 0) h
theorem tX6_packed_0 (G : sr_G) (v0 : Option Nat) (v1 : Int32) (h : AH) : sr_T (X := Int64) G 1 RX6 cX6_packed 5 (some .long) false (sr_M G jL) 0 [(0, vR v0), (1, vI v1)] [] h (fX6_packed_0  v0 v1 h) := by
  unfold fX6_packed_0
  refine tq_lconst 0 dX6_packed_0 (by decide) ?_
  refine tq_lstore_n 2 (L' := [(2, vL 0), (0, vR v0), (1, vI v1)]) dX6_packed_1 rfl (by decide) rfl ?_
  refine tq_iconst (nI 0) dX6_packed_2 (by decide) ?_
  refine tq_istore (L' := [(4, vI (nI 0)), (2, vL 0), (0, vR v0), (1, vI v1)]) dX6_packed_3 (by decide) rfl ?_
  exact tq_sub [2, 3, 1, 0] rfl (tX6_packed_5 G FU v0 v1 0 (nI 0) h)
noncomputable def fX6_packed (v0 : Option Nat) (v1 : Int32) (h : AH) : Option (Int64 × AH) := fX6_packed_0 v0 v1 h
theorem eX6_packed (G : sr_G) (v0 : Option Nat) (v1 : Int32) (h : AH) : sr_E G 1 yX6_packed cX6_packed 5 (some .long) jL [vR v0, vI v1] h (fX6_packed v0 v1 h) := sr_E.of (own := RX6) (ini := false) (by decide) rfl (fun q => by first | rfl | cases q) rfl (Nat.le_of_ble_eq_true rfl) (tX6_packed_0 G v0 v1 h)
noncomputable def fX7_init_0  (v0 : Option Nat) (h : AH) : Option (Unit × AH) := cNN v0 <| cNA h 3 (nI 120) fun x1 h2 => cPR h2 7 350 v0 x1 fun h3 => cNO h3 3 14 fun x4 h5 => cCV h5 3 x4 (fX3_init x4 (nI 0) h5) fun _ h6 => cPR h6 7 351 v0 x4 fun h7 => cGR h7 7 350 v0 fun x8 => cGR h7 7 351 v0 fun x9 => cQS h7 3 3 x8 (nI 0) x9 fun h10 => cGR h10 7 351 v0 fun x11 => cCV h10 3 x11 (fX3_begin x11 (nI 0) 6580598 h10) fun _ h12 => cPI h12 7 352 v0 (nI 1) fun h13 => some ((), h13)
theorem tX7_init_0 (G : sr_G) (v0 : Option Nat) (h : AH) : sr_T (X := Unit) G 3 RX7 cX7_init 1 none true (sr_M G jV) 0 [(0, vR v0)] [] h (fX7_init_0  v0 h) := by
  unfold fX7_init_0
  refine tq_aload_n 0 0 dX7_init_0 rfl rfl ?_
  refine tq_objI dX7_init_1 (by decide) wd_147 wd_90 wd_91 (Nat.le_of_ble_eq_true rfl) ?_
  refine tq_aload_n 0 0 dX7_init_4 rfl rfl ?_
  refine tq_bipush (nI 120) dX7_init_5 (by decide) ?_
  refine tq_anew dX7_init_7 (by decide) rfl wd_148 (fun x1 h2 => ?_)
  refine tq_putR 0 dX7_init_10 cfX7 (by decide) wd_242 rfl rfl (Or.inr ⟨rfl, rfl, rfl⟩) (fun h3 => ?_)
  refine tq_aload_n 0 0 dX7_init_13 rfl rfl ?_
  refine tq_new dX7_init_14 cfX3 dvX3 wd_148 wd_150 wd_75 (fun x4 h5 => ?_)
  refine tq_dupR dX7_init_17 ?_
  refine tq_iconst (nI 0) dX7_init_18 (by decide) ?_
  refine tq_callI [vI (nI 0)] [vR x4, vR v0] dX7_init_19 (eX3_init G x4 (nI 0) h5) (by decide) mbX3_init wd_151 wd_152 rfl rfl rfl (Nat.le_of_ble_eq_true rfl) (fun _ h6 => ?_)
  refine tq_putR 1 dX7_init_22 cfX7 (by decide) wd_243 rfl rfl (Or.inr ⟨rfl, rfl, rfl⟩) (fun h7 => ?_)
  refine tq_aload_n 0 0 dX7_init_25 rfl rfl ?_
  refine tq_getR 0 dX7_init_26 cfX7 (by decide) wd_242 rfl rfl (fun x8 => ?_)
  refine tq_iconst (nI 0) dX7_init_29 (by decide) ?_
  refine tq_aload_n 0 0 dX7_init_30 rfl rfl ?_
  refine tq_getR 1 dX7_init_31 cfX7 (by decide) wd_243 rfl rfl (fun x9 => ?_)
  refine tq_aast (by decide) cfX3 rfl dX7_init_34 (fun h10 => ?_)
  refine tq_aload_n 0 0 dX7_init_35 rfl rfl ?_
  refine tq_getR 1 dX7_init_36 cfX7 (by decide) wd_243 rfl rfl (fun x11 => ?_)
  refine tq_iconst (nI 0) dX7_init_39 (by decide) ?_
  refine tq_ldc2 6580598 dX7_init_40 wd_237 ?_
  refine tq_cVV [vI (nI 0), vL 6580598] [] dX7_init_43 (eX3_begin G x11 (nI 0) 6580598 h10) (by decide) mbX3_begin cfX3 rfl wd_238 wd_239 wd_240 rfl rfl (Nat.le_of_ble_eq_true rfl) (fun _ h12 => ?_)
  refine tq_aload_n 0 0 dX7_init_46 rfl rfl ?_
  refine tq_iconst (nI 1) dX7_init_47 (by decide) ?_
  refine tq_putI 2 dX7_init_48 cfX7 (by decide) wd_245 rfl rfl (Or.inl rfl) (fun h13 => ?_)
  exact tq_vret rfl dX7_init_51
noncomputable def fX7_init (v0 : Option Nat) (h : AH) : Option (Unit × AH) := fX7_init_0 v0 h
theorem eX7_init (G : sr_G) (v0 : Option Nat) (h : AH) : sr_E G 3 yX7_init cX7_init 1 none jV [vR v0] h (fX7_init v0 h) := sr_E.of (own := RX7) (ini := true) (by decide) rfl (fun q => by first | rfl | cases q) rfl (Nat.le_of_ble_eq_true rfl) (tX7_init_0 G v0 h)
noncomputable def fX7_nodeAt_13   (h : AH) : Option (Option Nat × AH) := some (none, h)
theorem tX7_nodeAt_13 (G : sr_G)  (h : AH) : sr_T (X := Option Nat) G 0 RX7 cX7_nodeAt 3 (some (.object "SoupReader$Node")) false (sr_M G jR) 13 [] [] h (fX7_nodeAt_13  h) := by
  unfold fX7_nodeAt_13
  refine tq_null dX7_nodeAt_13 ?_
  exact tq_aret rfl dX7_nodeAt_14
noncomputable def fX7_nodeAt_38  (s0 : Option Nat) (h : AH) : Option (Option Nat × AH) := some (s0, h)
theorem tX7_nodeAt_38 (G : sr_G) (s0 : Option Nat) (h : AH) : sr_T (X := Option Nat) G 0 RX7 cX7_nodeAt 3 (some (.object "SoupReader$Node")) false (sr_M G jR) 38 [] [vR s0] h (fX7_nodeAt_38  s0 h) := by
  unfold fX7_nodeAt_38
  exact tq_aret rfl dX7_nodeAt_38
noncomputable def fX7_nodeAt_37   (h : AH) : Option (Option Nat × AH) := fX7_nodeAt_38 none h
theorem tX7_nodeAt_37 (G : sr_G)  (h : AH) : sr_T (X := Option Nat) G 0 RX7 cX7_nodeAt 3 (some (.object "SoupReader$Node")) false (sr_M G jR) 37 [] [] h (fX7_nodeAt_37  h) := by
  unfold fX7_nodeAt_37
  refine tq_null dX7_nodeAt_37 ?_
  exact tX7_nodeAt_38 G none h
noncomputable def fX7_nodeAt_0  (v0 : Option Nat) (v1 : Int32) (h : AH) : Option (Option Nat × AH) := if v1 < 0 then (fX7_nodeAt_13 h) else (cGR h 7 350 v0 fun x1 => cAN h 3 x1 fun x2 => if v1 < x2 then (cGR h 7 350 v0 fun x3 => cQL h 3 x3 v1 fun x4 => if x4 = none then (fX7_nodeAt_37 h) else (cGI h 3 152 x4 fun x5 => if x5 = 0 then (fX7_nodeAt_37 h) else (fX7_nodeAt_38 x4 h))) else (fX7_nodeAt_13 h))
theorem tX7_nodeAt_0 (G : sr_G) (v0 : Option Nat) (v1 : Int32) (h : AH) : sr_T (X := Option Nat) G 0 RX7 cX7_nodeAt 3 (some (.object "SoupReader$Node")) false (sr_M G jR) 0 [(0, vR v0), (1, vI v1)] [] h (fX7_nodeAt_0  v0 v1 h) := by
  unfold fX7_nodeAt_0
  refine tq_iload_n 1 1 dX7_nodeAt_0 rfl rfl ?_
  refine tq_if_lt 13 dX7_nodeAt_1 (by decide) (fun _ => ?_) (fun _ => ?_)
  · exact tq_sub [] rfl (tX7_nodeAt_13 G h)
  · refine tq_iload_n 1 1 dX7_nodeAt_4 rfl rfl ?_
    refine tq_aload_n 0 0 dX7_nodeAt_5 rfl rfl ?_
    refine tq_getR 0 dX7_nodeAt_6 cfX7 (by decide) wd_242 rfl rfl (fun x1 => ?_)
    refine tq_alen (by decide) dX7_nodeAt_9 (fun x2 => ?_)
    refine tq_icmp_lt 15 dX7_nodeAt_10 (by decide) (fun _ => ?_) (fun _ => ?_)
    · refine tq_aload_n 0 0 dX7_nodeAt_15 rfl rfl ?_
      refine tq_getR 0 dX7_nodeAt_16 cfX7 (by decide) wd_242 rfl rfl (fun x3 => ?_)
      refine tq_iload_n 1 1 dX7_nodeAt_19 rfl rfl ?_
      refine tq_aald (by decide) dX7_nodeAt_20 (fun x4 => ?_)
      refine tq_astore_n 2 (L' := [(2, vR x4), (0, vR v0), (1, vI v1)]) dX7_nodeAt_21 rfl (by decide) rfl ?_
      refine tq_aload_n 2 0 dX7_nodeAt_22 rfl rfl ?_
      refine tq_ifnull 37 dX7_nodeAt_23 (by decide) (fun _ => ?_) (fun _ => ?_)
      · exact tq_sub [] rfl (tX7_nodeAt_37 G h)
      · refine tq_aload_n 2 0 dX7_nodeAt_26 rfl rfl ?_
        refine tq_getI 2 dX7_nodeAt_27 cfX3 (by decide) wd_179 rfl rfl (fun x5 => ?_)
        refine tq_if_eq 37 dX7_nodeAt_30 (by decide) (fun _ => ?_) (fun _ => ?_)
        · exact tq_sub [] rfl (tX7_nodeAt_37 G h)
        · refine tq_aload_n 2 0 dX7_nodeAt_33 rfl rfl ?_
          refine tq_goto 38 dX7_nodeAt_34 (by decide) ?_
          exact tq_sub [] rfl (tX7_nodeAt_38 G x4 h)
    · exact tq_sub [] rfl (tX7_nodeAt_13 G h)
noncomputable def fX7_nodeAt (v0 : Option Nat) (v1 : Int32) (h : AH) : Option (Option Nat × AH) := fX7_nodeAt_0 v0 v1 h
theorem eX7_nodeAt (G : sr_G) (v0 : Option Nat) (v1 : Int32) (h : AH) : sr_E G 0 yX7_nodeAt cX7_nodeAt 3 (some (.object "SoupReader$Node")) jR [vR v0, vI v1] h (fX7_nodeAt v0 v1 h) := sr_E.of (own := RX7) (ini := false) (by decide) rfl (fun q => by first | rfl | cases q) rfl (Nat.le_of_ble_eq_true rfl) (tX7_nodeAt_0 G v0 v1 h)
noncomputable def fX7_elementAt_24  (s0 : Option Nat) (h : AH) : Option (Option Nat × AH) := some (s0, h)
theorem tX7_elementAt_24 (G : sr_G) (s0 : Option Nat) (h : AH) : sr_T (X := Option Nat) G 1 RX7 cX7_elementAt 3 (some (.object "SoupReader$Node")) false (sr_M G jR) 24 [] [vR s0] h (fX7_elementAt_24  s0 h) := by
  unfold fX7_elementAt_24
  exact tq_aret rfl dX7_elementAt_24
noncomputable def fX7_elementAt_23   (h : AH) : Option (Option Nat × AH) := fX7_elementAt_24 none h
theorem tX7_elementAt_23 (G : sr_G)  (h : AH) : sr_T (X := Option Nat) G 1 RX7 cX7_elementAt 3 (some (.object "SoupReader$Node")) false (sr_M G jR) 23 [] [] h (fX7_elementAt_23  h) := by
  unfold fX7_elementAt_23
  refine tq_null dX7_elementAt_23 ?_
  exact tX7_elementAt_24 G none h
noncomputable def fX7_elementAt_0  (v0 : Option Nat) (v1 : Int32) (h : AH) : Option (Option Nat × AH) := cCV h 7 v0 (fX7_nodeAt v0 v1 h) fun x2 h1 => if x2 = none then (fX7_elementAt_23 h1) else (cGI h1 3 153 x2 fun x3 => if x3 = (nI 17) then (fX7_elementAt_23 h1) else (fX7_elementAt_24 x2 h1))
theorem tX7_elementAt_0 (G : sr_G) (v0 : Option Nat) (v1 : Int32) (h : AH) : sr_T (X := Option Nat) G 1 RX7 cX7_elementAt 3 (some (.object "SoupReader$Node")) false (sr_M G jR) 0 [(0, vR v0), (1, vI v1)] [] h (fX7_elementAt_0  v0 v1 h) := by
  unfold fX7_elementAt_0
  refine tq_aload_n 0 0 dX7_elementAt_0 rfl rfl ?_
  refine tq_iload_n 1 1 dX7_elementAt_1 rfl rfl ?_
  refine tq_cVR [vI v1] [] dX7_elementAt_2 (eX7_nodeAt G v0 v1 h) (by decide) mbX7_nodeAt cfX7 rfl wd_687 wd_630 wd_631 rfl rfl (Nat.le_of_ble_eq_true rfl) (fun x2 h1 => ?_)
  refine tq_astore_n 2 (L' := [(2, vR x2), (0, vR v0), (1, vI v1)]) dX7_elementAt_5 rfl (by decide) rfl ?_
  refine tq_aload_n 2 0 dX7_elementAt_6 rfl rfl ?_
  refine tq_ifnull 23 dX7_elementAt_7 (by decide) (fun _ => ?_) (fun _ => ?_)
  · exact tq_sub [] rfl (tX7_elementAt_23 G h1)
  · refine tq_aload_n 2 0 dX7_elementAt_10 rfl rfl ?_
    refine tq_getI 3 dX7_elementAt_11 cfX3 (by decide) wd_181 rfl rfl (fun x3 => ?_)
    refine tq_bipush (nI 17) dX7_elementAt_14 (by decide) ?_
    refine tq_icmp_eq 23 dX7_elementAt_16 (by decide) (fun _ => ?_) (fun _ => ?_)
    · exact tq_sub [] rfl (tX7_elementAt_23 G h1)
    · refine tq_aload_n 2 0 dX7_elementAt_19 rfl rfl ?_
      refine tq_goto 24 dX7_elementAt_20 (by decide) ?_
      exact tq_sub [] rfl (tX7_elementAt_24 G x2 h1)
noncomputable def fX7_elementAt (v0 : Option Nat) (v1 : Int32) (h : AH) : Option (Option Nat × AH) := fX7_elementAt_0 v0 v1 h
theorem eX7_elementAt (G : sr_G) (v0 : Option Nat) (v1 : Int32) (h : AH) : sr_E G 1 yX7_elementAt cX7_elementAt 3 (some (.object "SoupReader$Node")) jR [vR v0, vI v1] h (fX7_elementAt v0 v1 h) := sr_E.of (own := RX7) (ini := false) (by decide) rfl (fun q => by first | rfl | cases q) rfl (Nat.le_of_ble_eq_true rfl) (tX7_elementAt_0 G v0 v1 h)
noncomputable def fX7_release_32 (rM : Option Nat → Option Nat → Int32 → AH → Option (Unit × AH)) (v0 : Option Nat) (v1 : Option Nat) (h : AH) : Option (Unit × AH) := cPI h 3 152 v1 (nI 0) fun h1 => cGI h1 7 352 v0 fun x2 => cPI h1 7 352 v0 (x2 - (nI 1)) fun h3 => some ((), h3)
theorem tX7_release_32 (G : sr_G) (d d1 : Nat) (hd0 : 0 ≤ d) (hd1 : d1 + 1 ≤ d) (rM : Option Nat → Option Nat → Int32 → AH → Option (Unit × AH)) (hM : ∀ (b0 : Option Nat) (b1 : Option Nat) (b2 : Int32) (h : AH), sr_E G d1 yX7_release cX7_release 4 none jV [vR b0, vR b1, vI b2] h (rM b0 b1 b2 h)) (v0 : Option Nat) (v1 : Option Nat) (h : AH) : sr_T (X := Unit) G d RX7 cX7_release 4 none false (sr_M G jV) 32 [(0, vR v0), (1, vR v1)] [] h (fX7_release_32 rM v0 v1 h) := by
  unfold fX7_release_32
  refine tq_aload_n 1 1 dX7_release_32 rfl rfl ?_
  refine tq_iconst (nI 0) dX7_release_33 (by decide) ?_
  refine tq_putZ 2 dX7_release_34 cfX3 (by decide) wd_179 rfl rfl (Or.inl rfl) (by decide) (fun h1 => ?_)
  refine tq_aload_n 0 0 dX7_release_37 rfl rfl ?_
  refine tq_dupR dX7_release_38 ?_
  refine tq_getI 2 dX7_release_39 cfX7 (by decide) wd_245 rfl rfl (fun x2 => ?_)
  refine tq_iconst (nI 1) dX7_release_42 (by decide) ?_
  refine tq_isub dX7_release_43 ?_
  refine tq_putI 2 dX7_release_44 cfX7 (by decide) wd_245 rfl rfl (Or.inl rfl) (fun h3 => ?_)
  exact tq_vret rfl dX7_release_47
noncomputable def fX7_release_12 (rM : Option Nat → Option Nat → Int32 → AH → Option (Unit × AH)) : Nat → Option Nat → Option Nat → Int32 → Option Nat → AH → Option (Unit × AH)
  | 0, _, _, _, _, _ => none
  | n + 1, v0, v1, v2, v3, h => if v3 = none then (fX7_release_32 rM v0 v1 h) else (cCV h 7 v0 (rM v0 v3 (v2 + (nI 1)) h) fun _ h1 => cGR h1 3 158 v3 fun x2 => fX7_release_12 rM n v0 v1 v2 x2 h1)
theorem tX7_release_12 (G : sr_G) (d d1 : Nat) (hd0 : 0 ≤ d) (hd1 : d1 + 1 ≤ d) (rM : Option Nat → Option Nat → Int32 → AH → Option (Unit × AH)) (hM : ∀ (b0 : Option Nat) (b1 : Option Nat) (b2 : Int32) (h : AH), sr_E G d1 yX7_release cX7_release 4 none jV [vR b0, vR b1, vI b2] h (rM b0 b1 b2 h)) : ∀ (n : Nat) (v0 : Option Nat) (v1 : Option Nat) (v2 : Int32) (v3 : Option Nat) (h : AH), sr_T (X := Unit) G d RX7 cX7_release 4 none false (sr_M G jV) 12 [(0, vR v0), (1, vR v1), (2, vI v2), (3, vR v3)] [] h (fX7_release_12 rM n v0 v1 v2 v3 h) := by
  intro n
  induction n with
  | zero => intro v0 v1 v2 v3 h; exact tq_none
  | succ n ih =>
    intro v0 v1 v2 v3 h
    unfold fX7_release_12
    refine tq_aload_n 3 3 dX7_release_12 rfl rfl ?_
    refine tq_ifnull 32 dX7_release_13 (by decide) (fun _ => ?_) (fun _ => ?_)
    · exact tq_sub [0, 1] rfl (tX7_release_32 G d d1 hd0 hd1 rM hM v0 v1 h)
    · refine tq_aload_n 0 0 dX7_release_16 rfl rfl ?_
      refine tq_aload_n 3 3 dX7_release_17 rfl rfl ?_
      refine tq_iload_n 2 2 dX7_release_18 rfl rfl ?_
      refine tq_iconst (nI 1) dX7_release_19 (by decide) ?_
      refine tq_iadd dX7_release_20 ?_
      refine tq_cVV [vR v3, vI (v2 + (nI 1))] [] dX7_release_21 (hM v0 v3 (v2 + (nI 1)) h) hd1 mbX7_release cfX7 rfl wd_765 wd_767 wd_34 rfl rfl (Nat.le_of_ble_eq_true rfl) (fun _ h1 => ?_)
      refine tq_aload_n 3 3 dX7_release_24 rfl rfl ?_
      refine tq_getR 8 dX7_release_25 cfX3 (by decide) wd_195 rfl rfl (fun x2 => ?_)
      refine tq_astore_n 3 (L' := [(3, vR x2), (0, vR v0), (1, vR v1), (2, vI v2)]) dX7_release_28 rfl (by decide) rfl ?_
      refine tq_goto 12 dX7_release_29 (by decide) ?_
      exact tq_sub [1, 2, 3, 0] rfl (ih v0 v1 v2 x2 h1)
noncomputable def fX7_release_0 (rM : Option Nat → Option Nat → Int32 → AH → Option (Unit × AH)) (v0 : Option Nat) (v1 : Option Nat) (v2 : Int32) (h : AH) : Option (Unit × AH) := if v2 ≤ (nI 20) then (cGR h 3 159 v1 fun x1 => fX7_release_12 rM FU v0 v1 v2 x1 h) else (some ((), h))
theorem tX7_release_0 (G : sr_G) (d d1 : Nat) (hd0 : 0 ≤ d) (hd1 : d1 + 1 ≤ d) (rM : Option Nat → Option Nat → Int32 → AH → Option (Unit × AH)) (hM : ∀ (b0 : Option Nat) (b1 : Option Nat) (b2 : Int32) (h : AH), sr_E G d1 yX7_release cX7_release 4 none jV [vR b0, vR b1, vI b2] h (rM b0 b1 b2 h)) (v0 : Option Nat) (v1 : Option Nat) (v2 : Int32) (h : AH) : sr_T (X := Unit) G d RX7 cX7_release 4 none false (sr_M G jV) 0 [(0, vR v0), (1, vR v1), (2, vI v2)] [] h (fX7_release_0 rM v0 v1 v2 h) := by
  unfold fX7_release_0
  refine tq_iload_n 2 2 dX7_release_0 rfl rfl ?_
  refine tq_bipush (nI 20) dX7_release_1 (by decide) ?_
  refine tq_icmp_le 7 dX7_release_3 (by decide) (fun _ => ?_) (fun _ => ?_)
  · refine tq_aload_n 1 1 dX7_release_7 rfl rfl ?_
    refine tq_getR 9 dX7_release_8 cfX3 (by decide) wd_198 rfl rfl (fun x1 => ?_)
    refine tq_astore_n 3 (L' := [(3, vR x1), (0, vR v0), (1, vR v1), (2, vI v2)]) dX7_release_11 rfl (by decide) rfl ?_
    exact tq_sub [1, 2, 3, 0] rfl (tX7_release_12 G d d1 hd0 hd1 rM hM FU v0 v1 v2 x1 h)
  · exact tq_vret rfl dX7_release_6
noncomputable def fX7_release : Nat → Option Nat → Option Nat → Int32 → AH → Option (Unit × AH)
  | 0, _, _, _, _ => none
  | k + 1, v0, v1, v2, h => fX7_release_0 (fX7_release k) v0 v1 v2 h
theorem eX7_release (G : sr_G) : ∀ (k : Nat) (v0 : Option Nat) (v1 : Option Nat) (v2 : Int32) (h : AH), sr_E G (0 + k) yX7_release cX7_release 4 none jV [vR v0, vR v1, vI v2] h (fX7_release k v0 v1 v2 h) := by
  intro k
  induction k with
  | zero => intro v0 v1 v2 h x h' hF; unfold fX7_release at hF; cases hF
  | succ k ih =>
    intro v0 v1 v2 h
    unfold fX7_release
    exact sr_E.of (own := RX7) (ini := false) (by decide) rfl (fun q => by first | rfl | cases q) rfl (Nat.le_of_ble_eq_true rfl) (tX7_release_0 G (0 + (k + 1)) (0 + k) (by omega) (by omega) _ ih v0 v1 v2 h)
noncomputable def fX7_drop_0  (v0 : Option Nat) (v1 : Option Nat) (h : AH) : Option (Unit × AH) := cCV h 3 v1 (fX3_unlink v1 h) fun _ h1 => cCV h1 7 v0 (fX7_release 25 v0 v1 (nI 0) h1) fun _ h2 => some ((), h2)
theorem tX7_drop_0 (G : sr_G) (v0 : Option Nat) (v1 : Option Nat) (h : AH) : sr_T (X := Unit) G 26 RX7 cX7_drop 2 none false (sr_M G jV) 0 [(0, vR v0), (1, vR v1)] [] h (fX7_drop_0  v0 v1 h) := by
  unfold fX7_drop_0
  refine tq_aload_n 1 1 dX7_drop_0 rfl rfl ?_
  refine tq_cVV [] [] dX7_drop_1 (eX3_unlink G v1 h) (by decide) mbX3_unlink cfX3 rfl wd_798 wd_799 wd_800 rfl rfl (Nat.le_of_ble_eq_true rfl) (fun _ h1 => ?_)
  refine tq_aload_n 0 0 dX7_drop_4 rfl rfl ?_
  refine tq_aload_n 1 1 dX7_drop_5 rfl rfl ?_
  refine tq_iconst (nI 0) dX7_drop_6 (by decide) ?_
  refine tq_cVV [vR v1, vI (nI 0)] [] dX7_drop_7 (eX7_release G 25 v0 v1 (nI 0) h1) (by decide) mbX7_release cfX7 rfl wd_765 wd_767 wd_34 rfl rfl (Nat.le_of_ble_eq_true rfl) (fun _ h2 => ?_)
  exact tq_vret rfl dX7_drop_10
noncomputable def fX7_drop (v0 : Option Nat) (v1 : Option Nat) (h : AH) : Option (Unit × AH) := fX7_drop_0 v0 v1 h
theorem eX7_drop (G : sr_G) (v0 : Option Nat) (v1 : Option Nat) (h : AH) : sr_E G 26 yX7_drop cX7_drop 2 none jV [vR v0, vR v1] h (fX7_drop v0 v1 h) := sr_E.of (own := RX7) (ini := false) (by decide) rfl (fun q => by first | rfl | cases q) rfl (Nat.le_of_ble_eq_true rfl) (tX7_drop_0 G v0 v1 h)
noncomputable def fX7_dropAllIn_23  (v1 : Option Nat) (h : AH) : Option (Unit × AH) := cPR h 3 159 v1 none fun h1 => cPR h1 3 160 v1 none fun h2 => some ((), h2)
theorem tX7_dropAllIn_23 (G : sr_G) (v1 : Option Nat) (h : AH) : sr_T (X := Unit) G 26 RX7 cX7_dropAllIn 3 none false (sr_M G jV) 23 [(1, vR v1)] [] h (fX7_dropAllIn_23  v1 h) := by
  unfold fX7_dropAllIn_23
  refine tq_aload_n 1 0 dX7_dropAllIn_23 rfl rfl ?_
  refine tq_null dX7_dropAllIn_24 ?_
  refine tq_putR 9 dX7_dropAllIn_25 cfX3 (by decide) wd_198 rfl rfl (Or.inl rfl) (fun h1 => ?_)
  refine tq_aload_n 1 0 dX7_dropAllIn_28 rfl rfl ?_
  refine tq_null dX7_dropAllIn_29 ?_
  refine tq_putR 10 dX7_dropAllIn_30 cfX3 (by decide) wd_201 rfl rfl (Or.inl rfl) (fun h2 => ?_)
  exact tq_vret rfl dX7_dropAllIn_33
noncomputable def fX7_dropAllIn_5  : Nat → Option Nat → Option Nat → Option Nat → AH → Option (Unit × AH)
  | 0, _, _, _, _ => none
  | n + 1, v0, v1, v2, h => if v2 = none then (fX7_dropAllIn_23 v1 h) else (cCV h 7 v0 (fX7_release 25 v0 v2 (nI 0) h) fun _ h1 => cGR h1 3 158 v2 fun x2 => fX7_dropAllIn_5 n v0 v1 x2 h1)
theorem tX7_dropAllIn_5 (G : sr_G) : ∀ (n : Nat) (v0 : Option Nat) (v1 : Option Nat) (v2 : Option Nat) (h : AH), sr_T (X := Unit) G 26 RX7 cX7_dropAllIn 3 none false (sr_M G jV) 5 [(0, vR v0), (1, vR v1), (2, vR v2)] [] h (fX7_dropAllIn_5  n v0 v1 v2 h) := by
  intro n
  induction n with
  | zero => intro v0 v1 v2 h; exact tq_none
  | succ n ih =>
    intro v0 v1 v2 h
    unfold fX7_dropAllIn_5
    refine tq_aload_n 2 2 dX7_dropAllIn_5 rfl rfl ?_
    refine tq_ifnull 23 dX7_dropAllIn_6 (by decide) (fun _ => ?_) (fun _ => ?_)
    · exact tq_sub [1] rfl (tX7_dropAllIn_23 G v1 h)
    · refine tq_aload_n 0 0 dX7_dropAllIn_9 rfl rfl ?_
      refine tq_aload_n 2 2 dX7_dropAllIn_10 rfl rfl ?_
      refine tq_iconst (nI 0) dX7_dropAllIn_11 (by decide) ?_
      refine tq_cVV [vR v2, vI (nI 0)] [] dX7_dropAllIn_12 (eX7_release G 25 v0 v2 (nI 0) h) (by decide) mbX7_release cfX7 rfl wd_765 wd_767 wd_34 rfl rfl (Nat.le_of_ble_eq_true rfl) (fun _ h1 => ?_)
      refine tq_aload_n 2 2 dX7_dropAllIn_15 rfl rfl ?_
      refine tq_getR 8 dX7_dropAllIn_16 cfX3 (by decide) wd_195 rfl rfl (fun x2 => ?_)
      refine tq_astore_n 2 (L' := [(2, vR x2), (0, vR v0), (1, vR v1)]) dX7_dropAllIn_19 rfl (by decide) rfl ?_
      refine tq_goto 5 dX7_dropAllIn_20 (by decide) ?_
      exact tq_sub [1, 2, 0] rfl (ih v0 v1 x2 h1)
noncomputable def fX7_dropAllIn_0  (v0 : Option Nat) (v1 : Option Nat) (h : AH) : Option (Unit × AH) := cGR h 3 159 v1 fun x1 => fX7_dropAllIn_5 FU v0 v1 x1 h
theorem tX7_dropAllIn_0 (G : sr_G) (v0 : Option Nat) (v1 : Option Nat) (h : AH) : sr_T (X := Unit) G 26 RX7 cX7_dropAllIn 3 none false (sr_M G jV) 0 [(0, vR v0), (1, vR v1)] [] h (fX7_dropAllIn_0  v0 v1 h) := by
  unfold fX7_dropAllIn_0
  refine tq_aload_n 1 1 dX7_dropAllIn_0 rfl rfl ?_
  refine tq_getR 9 dX7_dropAllIn_1 cfX3 (by decide) wd_198 rfl rfl (fun x1 => ?_)
  refine tq_astore_n 2 (L' := [(2, vR x1), (0, vR v0), (1, vR v1)]) dX7_dropAllIn_4 rfl (by decide) rfl ?_
  exact tq_sub [1, 2, 0] rfl (tX7_dropAllIn_5 G FU v0 v1 x1 h)
noncomputable def fX7_dropAllIn (v0 : Option Nat) (v1 : Option Nat) (h : AH) : Option (Unit × AH) := fX7_dropAllIn_0 v0 v1 h
theorem eX7_dropAllIn (G : sr_G) (v0 : Option Nat) (v1 : Option Nat) (h : AH) : sr_E G 26 yX7_dropAllIn cX7_dropAllIn 3 none jV [vR v0, vR v1] h (fX7_dropAllIn v0 v1 h) := sr_E.of (own := RX7) (ini := false) (by decide) rfl (fun q => by first | rfl | cases q) rfl (Nat.le_of_ble_eq_true rfl) (tX7_dropAllIn_0 G v0 v1 h)
noncomputable def fX8_init_0  (v0 : Option Nat) (h : AH) : Option (Unit × AH) := cNN v0 <| cNO h 6 2 fun x1 h2 => cCV h2 6 x1 (fX6_init x1 h2) fun _ h3 => cPR h3 8 400 v0 x1 fun h4 => cNO h4 4 2 fun x5 h6 => cCV h6 4 x5 (fX4_init x5 h6) fun _ h7 => cPR h7 8 401 v0 x5 fun h8 => cNO h8 2 3 fun x9 h10 => cCV h10 2 x9 (fX2_init x9 h10) fun _ h11 => cPR h11 8 402 v0 x9 fun h12 => cNO h12 7 3 fun x13 h14 => cCV h14 7 x13 (fX7_init x13 h14) fun _ h15 => cPR h15 8 403 v0 x13 fun h16 => cNO h16 5 8 fun x17 h18 => cGR h18 8 400 v0 fun x19 => cGR h18 8 403 v0 fun x20 => cGR h18 8 402 v0 fun x21 => cCV h18 5 x17 (fX5_init x17 x19 x20 x21 h18) fun _ h22 => cPR h22 8 404 v0 x17 fun h23 => some ((), h23)
theorem tX8_init_0 (G : sr_G) (v0 : Option Nat) (h : AH) : sr_T (X := Unit) G 4 RX8 cX8_init 1 none true (sr_M G jV) 0 [(0, vR v0)] [] h (fX8_init_0  v0 h) := by
  unfold fX8_init_0
  refine tq_aload_n 0 0 dX8_init_0 rfl rfl ?_
  refine tq_objI dX8_init_1 (by decide) wd_89 wd_90 wd_91 (Nat.le_of_ble_eq_true rfl) ?_
  refine tq_aload_n 0 0 dX8_init_4 rfl rfl ?_
  refine tq_new dX8_init_5 cfX6 dvX6 wd_92 wd_93 wd_71 (fun x1 h2 => ?_)
  refine tq_dupR dX8_init_8 ?_
  refine tq_callIN [] [vR x1, vR v0] dX8_init_9 (eX6_init G x1 h2) (by decide) mbX6_init (host := "SoupReader") (by decide) wd_95 rfl rfl rfl (Nat.le_of_ble_eq_true rfl) (fun _ h3 => ?_)
  refine tq_putR 0 dX8_init_12 cfX8 (by decide) wd_288 rfl rfl (Or.inr ⟨rfl, rfl, rfl⟩) (fun h4 => ?_)
  refine tq_aload_n 0 0 dX8_init_15 rfl rfl ?_
  refine tq_new dX8_init_16 cfX4 dvX4 wd_109 wd_110 wd_72 (fun x5 h6 => ?_)
  refine tq_dupR dX8_init_19 ?_
  refine tq_callIN [] [vR x5, vR v0] dX8_init_20 (eX4_init G x5 h6) (by decide) mbX4_init (host := "SoupReader") (by decide) wd_112 rfl rfl rfl (Nat.le_of_ble_eq_true rfl) (fun _ h7 => ?_)
  refine tq_putR 1 dX8_init_23 cfX8 (by decide) wd_289 rfl rfl (Or.inr ⟨rfl, rfl, rfl⟩) (fun h8 => ?_)
  refine tq_aload_n 0 0 dX8_init_26 rfl rfl ?_
  refine tq_new dX8_init_27 cfX2 dvX2 wd_123 wd_124 wd_73 (fun x9 h10 => ?_)
  refine tq_dupR dX8_init_30 ?_
  refine tq_callIN [] [vR x9, vR v0] dX8_init_31 (eX2_init G x9 h10) (by decide) mbX2_init (host := "SoupReader") (by decide) wd_126 rfl rfl rfl (Nat.le_of_ble_eq_true rfl) (fun _ h11 => ?_)
  refine tq_putR 2 dX8_init_34 cfX8 (by decide) wd_290 rfl rfl (Or.inr ⟨rfl, rfl, rfl⟩) (fun h12 => ?_)
  refine tq_aload_n 0 0 dX8_init_37 rfl rfl ?_
  refine tq_new dX8_init_38 cfX7 dvX7 wd_142 wd_143 wd_74 (fun x13 h14 => ?_)
  refine tq_dupR dX8_init_41 ?_
  refine tq_callI [] [vR x13, vR v0] dX8_init_42 (eX7_init G x13 h14) (by decide) mbX7_init wd_144 wd_145 rfl rfl rfl (Nat.le_of_ble_eq_true rfl) (fun _ h15 => ?_)
  refine tq_putR 3 dX8_init_45 cfX8 (by decide) wd_291 rfl rfl (Or.inr ⟨rfl, rfl, rfl⟩) (fun h16 => ?_)
  refine tq_aload_n 0 0 dX8_init_48 rfl rfl ?_
  refine tq_new dX8_init_49 cfX5 dvX5 wd_254 wd_255 wd_77 (fun x17 h18 => ?_)
  refine tq_dupR dX8_init_52 ?_
  refine tq_aload_n 0 0 dX8_init_53 rfl rfl ?_
  refine tq_getR 0 dX8_init_54 cfX8 (by decide) wd_288 rfl rfl (fun x19 => ?_)
  refine tq_aload_n 0 0 dX8_init_57 rfl rfl ?_
  refine tq_getR 3 dX8_init_58 cfX8 (by decide) wd_291 rfl rfl (fun x20 => ?_)
  refine tq_aload_n 0 0 dX8_init_61 rfl rfl ?_
  refine tq_getR 2 dX8_init_62 cfX8 (by decide) wd_290 rfl rfl (fun x21 => ?_)
  refine tq_callI [vR x19, vR x20, vR x21] [vR x17, vR v0] dX8_init_65 (eX5_init G x17 x19 x20 x21 h18) (by decide) mbX5_init wd_256 wd_257 rfl rfl rfl (Nat.le_of_ble_eq_true rfl) (fun _ h22 => ?_)
  refine tq_putR 4 dX8_init_68 cfX8 (by decide) wd_292 rfl rfl (Or.inr ⟨rfl, rfl, rfl⟩) (fun h23 => ?_)
  exact tq_vret rfl dX8_init_71
noncomputable def fX8_init (v0 : Option Nat) (h : AH) : Option (Unit × AH) := fX8_init_0 v0 h
theorem eX8_init (G : sr_G) (v0 : Option Nat) (h : AH) : sr_E G 4 yX8_init cX8_init 1 none jV [vR v0] h (fX8_init v0 h) := sr_E.of (own := RX8) (ini := true) (by decide) rfl (fun q => by first | rfl | cases q) rfl (Nat.le_of_ble_eq_true rfl) (tX8_init_0 G v0 h)
noncomputable def fX8_feed_0  (v0 : Option Nat) (v1 : Int32) (v2 : Int32) (v3 : Int32) (v4 : Int32) (v5 : Int32) (h : AH) : Option (Int32 × AH) := cGR h 8 400 v0 fun x1 => cGI h 6 301 x1 fun x2 => if (x2 + (nI 20)) ≤ (nI 2000) then (cGR h 8 400 v0 fun x3 => cCV h 6 x3 (fX6_pushInt x3 v1 h) fun _ h4 => cGR h4 8 400 v0 fun x5 => cCV h4 6 x5 (fX6_pushInt x5 v2 h4) fun _ h6 => cGR h6 8 400 v0 fun x7 => cCV h6 6 x7 (fX6_pushInt x7 v3 h6) fun _ h8 => cGR h8 8 400 v0 fun x9 => cCV h8 6 x9 (fX6_pushInt x9 v4 h8) fun _ h10 => cGR h10 8 400 v0 fun x11 => cCV h10 6 x11 (fX6_pushInt x11 v5 h10) fun _ h12 => cGR h12 8 400 v0 fun x13 => cGI h12 6 301 x13 fun x14 => some (x14, h12)) else (some ((-1), h))
theorem tX8_feed_0 (G : sr_G) (v0 : Option Nat) (v1 : Int32) (v2 : Int32) (v3 : Int32) (v4 : Int32) (v5 : Int32) (h : AH) : sr_T (X := Int32) G 2 RX8 cX8_feed 6 (some .int) false (sr_M G jI) 0 [(0, vR v0), (1, vI v1), (2, vI v2), (3, vI v3), (4, vI v4), (5, vI v5)] [] h (fX8_feed_0  v0 v1 v2 v3 v4 v5 h) := by
  unfold fX8_feed_0
  refine tq_aload_n 0 0 dX8_feed_0 rfl rfl ?_
  refine tq_getR 0 dX8_feed_1 cfX8 (by decide) wd_288 rfl rfl (fun x1 => ?_)
  refine tq_getI 1 dX8_feed_4 cfX6 (by decide) wd_100 rfl rfl (fun x2 => ?_)
  refine tq_bipush (nI 20) dX8_feed_7 (by decide) ?_
  refine tq_iadd dX8_feed_9 ?_
  refine tq_sipush (nI 2000) dX8_feed_10 (by decide) ?_
  refine tq_icmp_le 18 dX8_feed_13 (by decide) (fun _ => ?_) (fun _ => ?_)
  · refine tq_aload_n 0 0 dX8_feed_18 rfl rfl ?_
    refine tq_getR 0 dX8_feed_19 cfX8 (by decide) wd_288 rfl rfl (fun x3 => ?_)
    refine tq_iload_n 1 1 dX8_feed_22 rfl rfl ?_
    refine tq_cVV [vI v1] [] dX8_feed_23 (eX6_pushInt G x3 v1 h) (by decide) mbX6_pushInt cfX6 rfl wd_308 wd_309 wd_310 rfl rfl (Nat.le_of_ble_eq_true rfl) (fun _ h4 => ?_)
    refine tq_aload_n 0 0 dX8_feed_26 rfl rfl ?_
    refine tq_getR 0 dX8_feed_27 cfX8 (by decide) wd_288 rfl rfl (fun x5 => ?_)
    refine tq_iload_n 2 2 dX8_feed_30 rfl rfl ?_
    refine tq_cVV [vI v2] [] dX8_feed_31 (eX6_pushInt G x5 v2 h4) (by decide) mbX6_pushInt cfX6 rfl wd_308 wd_309 wd_310 rfl rfl (Nat.le_of_ble_eq_true rfl) (fun _ h6 => ?_)
    refine tq_aload_n 0 0 dX8_feed_34 rfl rfl ?_
    refine tq_getR 0 dX8_feed_35 cfX8 (by decide) wd_288 rfl rfl (fun x7 => ?_)
    refine tq_iload_n 3 3 dX8_feed_38 rfl rfl ?_
    refine tq_cVV [vI v3] [] dX8_feed_39 (eX6_pushInt G x7 v3 h6) (by decide) mbX6_pushInt cfX6 rfl wd_308 wd_309 wd_310 rfl rfl (Nat.le_of_ble_eq_true rfl) (fun _ h8 => ?_)
    refine tq_aload_n 0 0 dX8_feed_42 rfl rfl ?_
    refine tq_getR 0 dX8_feed_43 cfX8 (by decide) wd_288 rfl rfl (fun x9 => ?_)
    refine tq_iload 4 dX8_feed_46 rfl ?_
    refine tq_cVV [vI v4] [] dX8_feed_48 (eX6_pushInt G x9 v4 h8) (by decide) mbX6_pushInt cfX6 rfl wd_308 wd_309 wd_310 rfl rfl (Nat.le_of_ble_eq_true rfl) (fun _ h10 => ?_)
    refine tq_aload_n 0 0 dX8_feed_51 rfl rfl ?_
    refine tq_getR 0 dX8_feed_52 cfX8 (by decide) wd_288 rfl rfl (fun x11 => ?_)
    refine tq_iload 5 dX8_feed_55 rfl ?_
    refine tq_cVV [vI v5] [] dX8_feed_57 (eX6_pushInt G x11 v5 h10) (by decide) mbX6_pushInt cfX6 rfl wd_308 wd_309 wd_310 rfl rfl (Nat.le_of_ble_eq_true rfl) (fun _ h12 => ?_)
    refine tq_aload_n 0 0 dX8_feed_60 rfl rfl ?_
    refine tq_getR 0 dX8_feed_61 cfX8 (by decide) wd_288 rfl rfl (fun x13 => ?_)
    refine tq_getI 1 dX8_feed_64 cfX6 (by decide) wd_100 rfl rfl (fun x14 => ?_)
    exact tq_iret rfl dX8_feed_67
  · refine tq_iconst (-1) dX8_feed_16 (by decide) ?_
    exact tq_iret rfl dX8_feed_17
noncomputable def fX8_feed (v0 : Option Nat) (v1 : Int32) (v2 : Int32) (v3 : Int32) (v4 : Int32) (v5 : Int32) (h : AH) : Option (Int32 × AH) := fX8_feed_0 v0 v1 v2 v3 v4 v5 h
theorem eX8_feed (G : sr_G) (v0 : Option Nat) (v1 : Int32) (v2 : Int32) (v3 : Int32) (v4 : Int32) (v5 : Int32) (h : AH) : sr_E G 2 yX8_feed cX8_feed 6 (some .int) jI [vR v0, vI v1, vI v2, vI v3, vI v4, vI v5] h (fX8_feed v0 v1 v2 v3 v4 v5 h) := sr_E.of (own := RX8) (ini := false) (by decide) rfl (fun q => by first | rfl | cases q) rfl (Nat.le_of_ble_eq_true rfl) (tX8_feed_0 G v0 v1 v2 v3 v4 v5 h)
noncomputable def fX8_end_15   (h : AH) : Option (Int32 × AH) := some ((-1), h)
theorem tX8_end_15 (G : sr_G)  (h : AH) : sr_T (X := Int32) G 0 RX8 cX8_end 2 (some .int) false (sr_M G jI) 15 [] [] h (fX8_end_15  h) := by
  unfold fX8_end_15
  refine tq_iconst (-1) dX8_end_15 (by decide) ?_
  exact tq_iret rfl dX8_end_16
noncomputable def fX8_end_0  (v0 : Option Nat) (v1 : Int32) (h : AH) : Option (Int32 × AH) := if v1 < 0 then (fX8_end_15 h) else (cGR h 8 400 v0 fun x1 => cGI h 6 301 x1 fun x2 => if v1 ≤ x2 then (cGR h 8 400 v0 fun x3 => cPI h 6 301 x3 v1 fun h4 => some (v1, h4)) else (fX8_end_15 h))
theorem tX8_end_0 (G : sr_G) (v0 : Option Nat) (v1 : Int32) (h : AH) : sr_T (X := Int32) G 0 RX8 cX8_end 2 (some .int) false (sr_M G jI) 0 [(0, vR v0), (1, vI v1)] [] h (fX8_end_0  v0 v1 h) := by
  unfold fX8_end_0
  refine tq_iload_n 1 1 dX8_end_0 rfl rfl ?_
  refine tq_if_lt 15 dX8_end_1 (by decide) (fun _ => ?_) (fun _ => ?_)
  · exact tq_sub [] rfl (tX8_end_15 G h)
  · refine tq_iload_n 1 1 dX8_end_4 rfl rfl ?_
    refine tq_aload_n 0 0 dX8_end_5 rfl rfl ?_
    refine tq_getR 0 dX8_end_6 cfX8 (by decide) wd_288 rfl rfl (fun x1 => ?_)
    refine tq_getI 1 dX8_end_9 cfX6 (by decide) wd_100 rfl rfl (fun x2 => ?_)
    refine tq_icmp_le 17 dX8_end_12 (by decide) (fun _ => ?_) (fun _ => ?_)
    · refine tq_aload_n 0 0 dX8_end_17 rfl rfl ?_
      refine tq_getR 0 dX8_end_18 cfX8 (by decide) wd_288 rfl rfl (fun x3 => ?_)
      refine tq_iload_n 1 1 dX8_end_21 rfl rfl ?_
      refine tq_putI 1 dX8_end_22 cfX6 (by decide) wd_100 rfl rfl (Or.inl rfl) (fun h4 => ?_)
      refine tq_iload_n 1 1 dX8_end_25 rfl rfl ?_
      exact tq_iret rfl dX8_end_26
    · exact tq_sub [] rfl (tX8_end_15 G h)
noncomputable def fX8_end (v0 : Option Nat) (v1 : Int32) (h : AH) : Option (Int32 × AH) := fX8_end_0 v0 v1 h
theorem eX8_end (G : sr_G) (v0 : Option Nat) (v1 : Int32) (h : AH) : sr_E G 0 yX8_end cX8_end 2 (some .int) jI [vR v0, vI v1] h (fX8_end v0 v1 h) := sr_E.of (own := RX8) (ini := false) (by decide) rfl (fun q => by first | rfl | cases q) rfl (Nat.le_of_ble_eq_true rfl) (tX8_end_0 G v0 v1 h)
noncomputable def fX8_out_0  (v0 : Option Nat) (v1 : Int32) (h : AH) : Option (Int32 × AH) := cGR h 8 401 v0 fun x1 => cCV h 4 x1 (fX4_byteAt x1 v1 h) fun x3 h2 => some (x3, h2)
theorem tX8_out_0 (G : sr_G) (v0 : Option Nat) (v1 : Int32) (h : AH) : sr_T (X := Int32) G 1 RX8 cX8_out 2 (some .int) false (sr_M G jI) 0 [(0, vR v0), (1, vI v1)] [] h (fX8_out_0  v0 v1 h) := by
  unfold fX8_out_0
  refine tq_aload_n 0 0 dX8_out_0 rfl rfl ?_
  refine tq_getR 1 dX8_out_1 cfX8 (by decide) wd_289 rfl rfl (fun x1 => ?_)
  refine tq_iload_n 1 1 dX8_out_4 rfl rfl ?_
  refine tq_cVI [vI v1] [] dX8_out_5 (eX4_byteAt G x1 v1 h) (by decide) mbX4_byteAt cfX4 rfl wd_324 wd_325 wd_326 rfl rfl (Nat.le_of_ble_eq_true rfl) (fun x3 h2 => ?_)
  exact tq_iret rfl dX8_out_8
noncomputable def fX8_out (v0 : Option Nat) (v1 : Int32) (h : AH) : Option (Int32 × AH) := fX8_out_0 v0 v1 h
theorem eX8_out (G : sr_G) (v0 : Option Nat) (v1 : Int32) (h : AH) : sr_E G 1 yX8_out cX8_out 2 (some .int) jI [vR v0, vI v1] h (fX8_out v0 v1 h) := sr_E.of (own := RX8) (ini := false) (by decide) rfl (fun q => by first | rfl | cases q) rfl (Nat.le_of_ble_eq_true rfl) (tX8_out_0 G v0 v1 h)
noncomputable def fX8_page_52  (v0 : Option Nat) (v2 : Int32) (h : AH) : Option (Int32 × AH) := cGR h 8 400 v0 fun x1 => cPI h 6 301 x1 (nI 0) fun h2 => some (v2, h2)
theorem tX8_page_52 (G : sr_G) (v0 : Option Nat) (v2 : Int32) (h : AH) : sr_T (X := Int32) G 11 RX8 cX8_page 3 (some .int) false (sr_M G jI) 52 [(0, vR v0), (2, vI v2)] [] h (fX8_page_52  v0 v2 h) := by
  unfold fX8_page_52
  refine tq_aload_n 0 0 dX8_page_52 rfl rfl ?_
  refine tq_getR 0 dX8_page_53 cfX8 (by decide) wd_288 rfl rfl (fun x1 => ?_)
  refine tq_iconst (nI 0) dX8_page_56 (by decide) ?_
  refine tq_putI 1 dX8_page_57 cfX6 (by decide) wd_100 rfl rfl (Or.inl rfl) (fun h2 => ?_)
  refine tq_iload_n 2 1 dX8_page_60 rfl rfl ?_
  exact tq_iret rfl dX8_page_61
noncomputable def fX8_page_0  (v0 : Option Nat) (h : AH) : Option (Int32 × AH) := cGR h 8 400 v0 fun x1 => cCV h 6 x1 (fX6_badPlace x1 h) fun x3 h2 => if x3 = (-1) then (cGR h2 8 400 v0 fun x4 => cGI h2 6 301 x4 fun x5 => if (nI 1500) < x5 then (fX8_page_52 v0 (-1) h2) else (cGR h2 8 404 v0 fun x6 => cCV h2 5 x6 (fX5_readAll x6 h2) fun _ h7 => cGR h7 8 403 v0 fun x8 => cGI h7 7 352 x8 fun x9 => fX8_page_52 v0 x9 h7)) else (fX8_page_52 v0 ((-1000) - x3) h2)
theorem tX8_page_0 (G : sr_G) (v0 : Option Nat) (h : AH) : sr_T (X := Int32) G 11 RX8 cX8_page 3 (some .int) false (sr_M G jI) 0 [(0, vR v0)] [] h (fX8_page_0  v0 h) := by
  unfold fX8_page_0
  refine tq_aload_n 0 0 dX8_page_0 rfl rfl ?_
  refine tq_getR 0 dX8_page_1 cfX8 (by decide) wd_288 rfl rfl (fun x1 => ?_)
  refine tq_cVI [] [] dX8_page_4 (eX6_badPlace G x1 h) (by decide) mbX6_badPlace cfX6 rfl wd_332 wd_333 wd_334 rfl rfl (Nat.le_of_ble_eq_true rfl) (fun x3 h2 => ?_)
  refine tq_istore_n 1 (L' := [(1, vI x3), (0, vR v0)]) dX8_page_7 rfl (by decide) rfl ?_
  refine tq_iconst (-1) dX8_page_8 (by decide) ?_
  refine tq_istore_n 2 (L' := [(2, vI (-1)), (1, vI x3), (0, vR v0)]) dX8_page_9 rfl (by decide) rfl ?_
  refine tq_iload_n 1 1 dX8_page_10 rfl rfl ?_
  refine tq_iconst (-1) dX8_page_11 (by decide) ?_
  refine tq_icmp_eq 24 dX8_page_12 (by decide) (fun _ => ?_) (fun _ => ?_)
  · refine tq_aload_n 0 2 dX8_page_24 rfl rfl ?_
    refine tq_getR 0 dX8_page_25 cfX8 (by decide) wd_288 rfl rfl (fun x4 => ?_)
    refine tq_getI 1 dX8_page_28 cfX6 (by decide) wd_100 rfl rfl (fun x5 => ?_)
    refine tq_sipush (nI 1500) dX8_page_31 (by decide) ?_
    refine tq_icmp_gt 52 dX8_page_34 (by decide) (fun _ => ?_) (fun _ => ?_)
    · exact tq_sub [2, 0] rfl (tX8_page_52 G v0 (-1) h2)
    · refine tq_aload_n 0 2 dX8_page_37 rfl rfl ?_
      refine tq_getR 4 dX8_page_38 cfX8 (by decide) wd_292 rfl rfl (fun x6 => ?_)
      refine tq_cVV [] [] dX8_page_41 (eX5_readAll G x6 h2) (by decide) mbX5_readAll cfX5 rfl wd_340 wd_341 wd_342 rfl rfl (Nat.le_of_ble_eq_true rfl) (fun _ h7 => ?_)
      refine tq_aload_n 0 2 dX8_page_44 rfl rfl ?_
      refine tq_getR 3 dX8_page_45 cfX8 (by decide) wd_291 rfl rfl (fun x8 => ?_)
      refine tq_getI 2 dX8_page_48 cfX7 (by decide) wd_246 rfl rfl (fun x9 => ?_)
      refine tq_istore_n 2 (L' := [(2, vI x9), (1, vI x3), (0, vR v0)]) dX8_page_51 rfl (by decide) rfl ?_
      exact tq_sub [2, 0] rfl (tX8_page_52 G v0 x9 h7)
  · refine tq_sipush (-1000) dX8_page_15 (by decide) ?_
    refine tq_iload_n 1 1 dX8_page_18 rfl rfl ?_
    refine tq_isub dX8_page_19 ?_
    refine tq_istore_n 2 (L' := [(2, vI ((-1000) - x3)), (1, vI x3), (0, vR v0)]) dX8_page_20 rfl (by decide) rfl ?_
    refine tq_goto 52 dX8_page_21 (by decide) ?_
    exact tq_sub [2, 0] rfl (tX8_page_52 G v0 ((-1000) - x3) h2)
noncomputable def fX8_page (v0 : Option Nat) (h : AH) : Option (Int32 × AH) := fX8_page_0 v0 h
theorem eX8_page (G : sr_G) (v0 : Option Nat) (h : AH) : sr_E G 11 yX8_page cX8_page 3 (some .int) jI [vR v0] h (fX8_page v0 h) := sr_E.of (own := RX8) (ini := false) (by decide) rfl (fun q => by first | rfl | cases q) rfl (Nat.le_of_ble_eq_true rfl) (tX8_page_0 G v0 h)
noncomputable def fX8_node_83  (s0 : Int32) (h : AH) : Option (Int32 × AH) := some (s0, h)
theorem tX8_node_83 (G : sr_G) (s0 : Int32) (h : AH) : sr_T (X := Int32) G 1 RX8 cX8_node 4 (some .int) false (sr_M G jI) 83 [] [vI s0] h (fX8_node_83  s0 h) := by
  unfold fX8_node_83
  exact tq_iret rfl dX8_node_83
noncomputable def fX8_node_0  (v0 : Option Nat) (v1 : Int32) (v2 : Int32) (h : AH) : Option (Int32 × AH) := cGR h 8 403 v0 fun x1 => cCV h 7 x1 (fX7_nodeAt x1 v1 h) fun x3 h2 => if x3 = none then (some ((-1), h2)) else ((if v2 = 0 then (cGI h2 3 153 x3 fun x4 => some (x4, h2)) else (if v2 = 1 then (cGR h2 3 156 x3 fun x5 => if x5 = none then (fX8_node_83 (-1) h2) else (cGR h2 3 156 x3 fun x6 => cGI h2 3 150 x6 fun x7 => fX8_node_83 x7 h2)) else (if v2 = 2 then (cCV h2 3 x3 (fX3_kidCount x3 h2) fun x9 h8 => some (x9, h8)) else (if v2 = 3 then (cCV h2 3 x3 (fX3_rank x3 h2) fun x11 h10 => some (x11, h10)) else (if v2 = 4 then (cGR h2 3 151 x3 fun x12 => cGI h2 1 51 x12 fun x13 => some (x13, h2)) else (if v2 = 5 then (cGI h2 3 162 x3 fun x14 => some (x14, h2)) else (if v2 = 6 then (cGI h2 3 155 x3 fun x15 => some (x15, h2)) else (some ((-1), h2))))))))))
theorem tX8_node_0 (G : sr_G) (v0 : Option Nat) (v1 : Int32) (v2 : Int32) (h : AH) : sr_T (X := Int32) G 1 RX8 cX8_node 4 (some .int) false (sr_M G jI) 0 [(0, vR v0), (1, vI v1), (2, vI v2)] [] h (fX8_node_0  v0 v1 v2 h) := by
  unfold fX8_node_0
  refine tq_aload_n 0 0 dX8_node_0 rfl rfl ?_
  refine tq_getR 3 dX8_node_1 cfX8 (by decide) wd_291 rfl rfl (fun x1 => ?_)
  refine tq_iload_n 1 1 dX8_node_4 rfl rfl ?_
  refine tq_cVR [vI v1] [] dX8_node_5 (eX7_nodeAt G x1 v1 h) (by decide) mbX7_nodeAt cfX7 rfl wd_629 wd_630 wd_631 rfl rfl (Nat.le_of_ble_eq_true rfl) (fun x3 h2 => ?_)
  refine tq_astore_n 3 (L' := [(3, vR x3), (0, vR v0), (1, vI v1), (2, vI v2)]) dX8_node_8 rfl (by decide) rfl ?_
  refine tq_aload_n 3 0 dX8_node_9 rfl rfl ?_
  refine tq_ifnonnull 15 dX8_node_10 (by decide) (fun _ => ?_) (fun _ => ?_)
  · refine tq_iload_n 2 3 dX8_node_15 rfl rfl ?_
    refine tq_ite _ (fun hc => ?_) (fun hn0 => ?_)
    · refine tq_tableIn 60 dX8_node_16 (by rw [hc]; decide) (by rw [hc]; decide) (off := 44) (by rw [hc]; rfl) (by decide) ?_
      refine tq_aload_n 3 0 dX8_node_60 rfl rfl ?_
      refine tq_getI 3 dX8_node_61 cfX3 (by decide) wd_182 rfl rfl (fun x4 => ?_)
      exact tq_iret rfl dX8_node_64
    · refine tq_ite _ (fun hc => ?_) (fun hn1 => ?_)
      · refine tq_tableIn 65 dX8_node_16 (by rw [hc]; decide) (by rw [hc]; decide) (off := 49) (by rw [hc]; rfl) (by decide) ?_
        refine tq_aload_n 3 0 dX8_node_65 rfl rfl ?_
        refine tq_getR 6 dX8_node_66 cfX3 (by decide) wd_191 rfl rfl (fun x5 => ?_)
        refine tq_ifnonnull 76 dX8_node_69 (by decide) (fun _ => ?_) (fun _ => ?_)
        · refine tq_aload_n 3 0 dX8_node_76 rfl rfl ?_
          refine tq_getR 6 dX8_node_77 cfX3 (by decide) wd_191 rfl rfl (fun x6 => ?_)
          refine tq_getI 0 dX8_node_80 cfX3 (by decide) wd_174 rfl rfl (fun x7 => ?_)
          exact tq_sub [] rfl (tX8_node_83 G x7 h2)
        · refine tq_iconst (-1) dX8_node_72 (by decide) ?_
          refine tq_goto 83 dX8_node_73 (by decide) ?_
          exact tq_sub [] rfl (tX8_node_83 G (-1) h2)
      · refine tq_ite _ (fun hc => ?_) (fun hn2 => ?_)
        · refine tq_tableIn 84 dX8_node_16 (by rw [hc]; decide) (by rw [hc]; decide) (off := 68) (by rw [hc]; rfl) (by decide) ?_
          refine tq_aload_n 3 0 dX8_node_84 rfl rfl ?_
          refine tq_cVI [] [] dX8_node_85 (eX3_kidCount G x3 h2) (by decide) mbX3_kidCount cfX3 rfl wd_633 wd_634 wd_635 rfl rfl (Nat.le_of_ble_eq_true rfl) (fun x9 h8 => ?_)
          exact tq_iret rfl dX8_node_88
        · refine tq_ite _ (fun hc => ?_) (fun hn3 => ?_)
          · refine tq_tableIn 89 dX8_node_16 (by rw [hc]; decide) (by rw [hc]; decide) (off := 73) (by rw [hc]; rfl) (by decide) ?_
            refine tq_aload_n 3 0 dX8_node_89 rfl rfl ?_
            refine tq_cVI [] [] dX8_node_90 (eX3_rank G x3 h2) (by decide) mbX3_rank cfX3 rfl wd_637 wd_638 wd_639 rfl rfl (Nat.le_of_ble_eq_true rfl) (fun x11 h10 => ?_)
            exact tq_iret rfl dX8_node_93
          · refine tq_ite _ (fun hc => ?_) (fun hn4 => ?_)
            · refine tq_tableIn 94 dX8_node_16 (by rw [hc]; decide) (by rw [hc]; decide) (off := 78) (by rw [hc]; rfl) (by decide) ?_
              refine tq_aload_n 3 0 dX8_node_94 rfl rfl ?_
              refine tq_getR 1 dX8_node_95 cfX3 (by decide) wd_176 rfl rfl (fun x12 => ?_)
              refine tq_getI 1 dX8_node_98 cfX1 (by decide) wd_166 rfl rfl (fun x13 => ?_)
              exact tq_iret rfl dX8_node_101
            · refine tq_ite _ (fun hc => ?_) (fun hn5 => ?_)
              · refine tq_tableIn 102 dX8_node_16 (by rw [hc]; decide) (by rw [hc]; decide) (off := 86) (by rw [hc]; rfl) (by decide) ?_
                refine tq_aload_n 3 0 dX8_node_102 rfl rfl ?_
                refine tq_getI 12 dX8_node_103 cfX3 (by decide) wd_205 rfl rfl (fun x14 => ?_)
                exact tq_iret rfl dX8_node_106
              · refine tq_ite _ (fun hc => ?_) (fun hn6 => ?_)
                · refine tq_tableIn 107 dX8_node_16 (by rw [hc]; decide) (by rw [hc]; decide) (off := 91) (by rw [hc]; rfl) (by decide) ?_
                  refine tq_aload_n 3 0 dX8_node_107 rfl rfl ?_
                  refine tq_getI 5 dX8_node_108 cfX3 (by decide) wd_189 rfl rfl (fun x15 => ?_)
                  exact tq_iret rfl dX8_node_111
                · have q0 := lv_neT hn0 (show (0 : Int32).toInt = 0 by decide)
                  have q1 := lv_neT hn1 (show (1 : Int32).toInt = 1 by decide)
                  have q2 := lv_neT hn2 (show (2 : Int32).toInt = 2 by decide)
                  have q3 := lv_neT hn3 (show (3 : Int32).toInt = 3 by decide)
                  have q4 := lv_neT hn4 (show (4 : Int32).toInt = 4 by decide)
                  have q5 := lv_neT hn5 (show (5 : Int32).toInt = 5 by decide)
                  have q6 := lv_neT hn6 (show (6 : Int32).toInt = 6 by decide)
                  refine tq_tableOut 112 dX8_node_16 (by omega) (by decide) ?_
                  refine tq_iconst (-1) dX8_node_112 (by decide) ?_
                  exact tq_iret rfl dX8_node_113
  · refine tq_iconst (-1) dX8_node_13 (by decide) ?_
    exact tq_iret rfl dX8_node_14
noncomputable def fX8_node (v0 : Option Nat) (v1 : Int32) (v2 : Int32) (h : AH) : Option (Int32 × AH) := fX8_node_0 v0 v1 v2 h
theorem eX8_node (G : sr_G) (v0 : Option Nat) (v1 : Int32) (v2 : Int32) (h : AH) : sr_E G 1 yX8_node cX8_node 4 (some .int) jI [vR v0, vI v1, vI v2] h (fX8_node v0 v1 v2 h) := sr_E.of (own := RX8) (ini := false) (by decide) rfl (fun q => by first | rfl | cases q) rfl (Nat.le_of_ble_eq_true rfl) (tX8_node_0 G v0 v1 v2 h)
noncomputable def fX8_kid_17   (h : AH) : Option (Int32 × AH) := some ((-1), h)
theorem tX8_kid_17 (G : sr_G)  (h : AH) : sr_T (X := Int32) G 1 RX8 cX8_kid 6 (some .int) false (sr_M G jI) 17 [] [] h (fX8_kid_17  h) := by
  unfold fX8_kid_17
  refine tq_iconst (-1) dX8_kid_17 (by decide) ?_
  exact tq_iret rfl dX8_kid_18
noncomputable def fX8_kid_57   (h : AH) : Option (Int32 × AH) := some ((-1), h)
theorem tX8_kid_57 (G : sr_G)  (h : AH) : sr_T (X := Int32) G 1 RX8 cX8_kid 6 (some .int) false (sr_M G jI) 57 [] [] h (fX8_kid_57  h) := by
  unfold fX8_kid_57
  refine tq_iconst (-1) dX8_kid_57 (by decide) ?_
  exact tq_iret rfl dX8_kid_58
noncomputable def fX8_kid_38  (v5 : Option Nat) (h : AH) : Option (Int32 × AH) := cGI h 3 150 v5 fun x1 => some (x1, h)
theorem tX8_kid_38 (G : sr_G) (v5 : Option Nat) (h : AH) : sr_T (X := Int32) G 1 RX8 cX8_kid 6 (some .int) false (sr_M G jI) 38 [(5, vR v5)] [] h (fX8_kid_38  v5 h) := by
  unfold fX8_kid_38
  refine tq_aload 0 dX8_kid_38 rfl ?_
  refine tq_getI 0 dX8_kid_40 cfX3 (by decide) wd_174 rfl rfl (fun x1 => ?_)
  exact tq_iret rfl dX8_kid_43
noncomputable def fX8_kid_28  : Nat → Int32 → Option Nat → AH → Option (Int32 × AH)
  | 0, _, _, _ => none
  | n + 1, v4, v5, h => if v5 = none then (fX8_kid_57 h) else (if v4 = 0 then (fX8_kid_38 v5 h) else (cGR h 3 158 v5 fun x1 => fX8_kid_28 n (v4 + (-1)) x1 h))
theorem tX8_kid_28 (G : sr_G) : ∀ (n : Nat) (v4 : Int32) (v5 : Option Nat) (h : AH), sr_T (X := Int32) G 1 RX8 cX8_kid 6 (some .int) false (sr_M G jI) 28 [(4, vI v4), (5, vR v5)] [] h (fX8_kid_28  n v4 v5 h) := by
  intro n
  induction n with
  | zero => intro v4 v5 h; exact tq_none
  | succ n ih =>
    intro v4 v5 h
    unfold fX8_kid_28
    refine tq_aload 1 dX8_kid_28 rfl ?_
    refine tq_ifnull 57 dX8_kid_30 (by decide) (fun _ => ?_) (fun _ => ?_)
    · exact tq_sub [] rfl (tX8_kid_57 G h)
    · refine tq_iload 0 dX8_kid_33 rfl ?_
      refine tq_if_ne 44 dX8_kid_35 (by decide) (fun _ => ?_) (fun _ => ?_)
      · refine tq_iinc 0 (-1) (L' := [(4, vI (v4 + (-1))), (5, vR v5)]) dX8_kid_44 rfl (by decide) (by decide) rfl ?_
        refine tq_aload 1 dX8_kid_47 rfl ?_
        refine tq_getR 8 dX8_kid_49 cfX3 (by decide) wd_194 rfl rfl (fun x1 => ?_)
        refine tq_astore (L' := [(5, vR x1), (4, vI (v4 + (-1)))]) dX8_kid_52 (by decide) rfl ?_
        refine tq_goto 28 dX8_kid_54 (by decide) ?_
        exact tq_sub [1, 0] rfl (ih (v4 + (-1)) x1 h)
      · exact tq_sub [1] rfl (tX8_kid_38 G v5 h)
noncomputable def fX8_kid_0  (v0 : Option Nat) (v1 : Int32) (v2 : Int32) (h : AH) : Option (Int32 × AH) := cGR h 8 403 v0 fun x1 => cCV h 7 x1 (fX7_nodeAt x1 v1 h) fun x3 h2 => if x3 = none then (fX8_kid_17 h2) else (if 0 ≤ v2 then (cGR h2 3 159 x3 fun x4 => fX8_kid_28 FU v2 x4 h2) else (fX8_kid_17 h2))
theorem tX8_kid_0 (G : sr_G) (v0 : Option Nat) (v1 : Int32) (v2 : Int32) (h : AH) : sr_T (X := Int32) G 1 RX8 cX8_kid 6 (some .int) false (sr_M G jI) 0 [(0, vR v0), (1, vI v1), (2, vI v2)] [] h (fX8_kid_0  v0 v1 v2 h) := by
  unfold fX8_kid_0
  refine tq_aload_n 0 0 dX8_kid_0 rfl rfl ?_
  refine tq_getR 3 dX8_kid_1 cfX8 (by decide) wd_291 rfl rfl (fun x1 => ?_)
  refine tq_iload_n 1 1 dX8_kid_4 rfl rfl ?_
  refine tq_cVR [vI v1] [] dX8_kid_5 (eX7_nodeAt G x1 v1 h) (by decide) mbX7_nodeAt cfX7 rfl wd_629 wd_630 wd_631 rfl rfl (Nat.le_of_ble_eq_true rfl) (fun x3 h2 => ?_)
  refine tq_astore_n 3 (L' := [(3, vR x3), (0, vR v0), (1, vI v1), (2, vI v2)]) dX8_kid_8 rfl (by decide) rfl ?_
  refine tq_aload_n 3 0 dX8_kid_9 rfl rfl ?_
  refine tq_ifnull 17 dX8_kid_10 (by decide) (fun _ => ?_) (fun _ => ?_)
  · exact tq_sub [] rfl (tX8_kid_17 G h2)
  · refine tq_iload_n 2 3 dX8_kid_13 rfl rfl ?_
    refine tq_if_ge 19 dX8_kid_14 (by decide) (fun _ => ?_) (fun _ => ?_)
    · refine tq_iload_n 2 3 dX8_kid_19 rfl rfl ?_
      refine tq_istore (L' := [(4, vI v2), (3, vR x3), (0, vR v0), (1, vI v1), (2, vI v2)]) dX8_kid_20 (by decide) rfl ?_
      refine tq_aload_n 3 1 dX8_kid_22 rfl rfl ?_
      refine tq_getR 9 dX8_kid_23 cfX3 (by decide) wd_197 rfl rfl (fun x4 => ?_)
      refine tq_astore (L' := [(5, vR x4), (4, vI v2), (3, vR x3), (0, vR v0), (1, vI v1), (2, vI v2)]) dX8_kid_26 (by decide) rfl ?_
      exact tq_sub [1, 0] rfl (tX8_kid_28 G FU v2 x4 h2)
    · exact tq_sub [] rfl (tX8_kid_17 G h2)
noncomputable def fX8_kid (v0 : Option Nat) (v1 : Int32) (v2 : Int32) (h : AH) : Option (Int32 × AH) := fX8_kid_0 v0 v1 v2 h
theorem eX8_kid (G : sr_G) (v0 : Option Nat) (v1 : Int32) (v2 : Int32) (h : AH) : sr_E G 1 yX8_kid cX8_kid 6 (some .int) jI [vR v0, vI v1, vI v2] h (fX8_kid v0 v1 v2 h) := sr_E.of (own := RX8) (ini := false) (by decide) rfl (fun q => by first | rfl | cases q) rfl (Nat.le_of_ble_eq_true rfl) (tX8_kid_0 G v0 v1 v2 h)
noncomputable def fX8_name_61  (v0 : Option Nat) (h : AH) : Option (Int32 × AH) := cGR h 8 401 v0 fun x1 => cGI h 4 201 x1 fun x2 => some (x2, h)
theorem tX8_name_61 (G : sr_G) (v0 : Option Nat) (h : AH) : sr_T (X := Int32) G 2 RX8 cX8_name 3 (some .int) false (sr_M G jI) 61 [(0, vR v0)] [] h (fX8_name_61  v0 h) := by
  unfold fX8_name_61
  refine tq_aload_n 0 0 dX8_name_61 rfl rfl ?_
  refine tq_getR 1 dX8_name_62 cfX8 (by decide) wd_289 rfl rfl (fun x1 => ?_)
  refine tq_getI 1 dX8_name_65 cfX4 (by decide) wd_117 rfl rfl (fun x2 => ?_)
  exact tq_iret rfl dX8_name_68
noncomputable def fX8_name_0  (v0 : Option Nat) (v1 : Int32) (h : AH) : Option (Int32 × AH) := cGR h 8 403 v0 fun x1 => cCV h 7 x1 (fX7_nodeAt x1 v1 h) fun x3 h2 => if x3 = none then (some ((-1), h2)) else (cGR h2 8 401 v0 fun x4 => cPI h2 4 201 x4 (nI 0) fun h5 => cGI h5 3 153 x3 fun x6 => if x6 = (nI 17) then (cGR h5 8 401 v0 fun x10 => cGR h5 3 161 x3 fun x11 => cGI h5 3 162 x3 fun x12 => cCV h5 4 x10 (fX4_putBytes x10 x11 x12 h5) fun _ h13 => fX8_name_61 v0 h13) else (cGR h5 8 401 v0 fun x7 => cGL h5 3 154 x3 fun x8 => cCV h5 4 x7 (fX4_putName x7 x8 h5) fun _ h9 => fX8_name_61 v0 h9))
theorem tX8_name_0 (G : sr_G) (v0 : Option Nat) (v1 : Int32) (h : AH) : sr_T (X := Int32) G 2 RX8 cX8_name 3 (some .int) false (sr_M G jI) 0 [(0, vR v0), (1, vI v1)] [] h (fX8_name_0  v0 v1 h) := by
  unfold fX8_name_0
  refine tq_aload_n 0 0 dX8_name_0 rfl rfl ?_
  refine tq_getR 3 dX8_name_1 cfX8 (by decide) wd_291 rfl rfl (fun x1 => ?_)
  refine tq_iload_n 1 1 dX8_name_4 rfl rfl ?_
  refine tq_cVR [vI v1] [] dX8_name_5 (eX7_nodeAt G x1 v1 h) (by decide) mbX7_nodeAt cfX7 rfl wd_629 wd_630 wd_631 rfl rfl (Nat.le_of_ble_eq_true rfl) (fun x3 h2 => ?_)
  refine tq_astore_n 2 (L' := [(2, vR x3), (0, vR v0), (1, vI v1)]) dX8_name_8 rfl (by decide) rfl ?_
  refine tq_aload_n 2 0 dX8_name_9 rfl rfl ?_
  refine tq_ifnonnull 15 dX8_name_10 (by decide) (fun _ => ?_) (fun _ => ?_)
  · refine tq_aload_n 0 1 dX8_name_15 rfl rfl ?_
    refine tq_getR 1 dX8_name_16 cfX8 (by decide) wd_289 rfl rfl (fun x4 => ?_)
    refine tq_iconst (nI 0) dX8_name_19 (by decide) ?_
    refine tq_putI 1 dX8_name_20 cfX4 (by decide) wd_117 rfl rfl (Or.inl rfl) (fun h5 => ?_)
    refine tq_aload_n 2 0 dX8_name_23 rfl rfl ?_
    refine tq_getI 3 dX8_name_24 cfX3 (by decide) wd_182 rfl rfl (fun x6 => ?_)
    refine tq_bipush (nI 17) dX8_name_27 (by decide) ?_
    refine tq_icmp_ne 50 dX8_name_29 (by decide) (fun _ => ?_) (fun _ => ?_)
    · refine tq_aload_n 0 1 dX8_name_50 rfl rfl ?_
      refine tq_getR 1 dX8_name_51 cfX8 (by decide) wd_289 rfl rfl (fun x7 => ?_)
      refine tq_aload_n 2 0 dX8_name_54 rfl rfl ?_
      refine tq_getL 4 dX8_name_55 cfX3 (by decide) wd_185 rfl rfl (fun x8 => ?_)
      refine tq_cVV [vL x8] [] dX8_name_58 (eX4_putName G x7 x8 h5) (by decide) mbX4_putName cfX4 rfl wd_657 wd_658 wd_659 rfl rfl (Nat.le_of_ble_eq_true rfl) (fun _ h9 => ?_)
      exact tq_sub [1] rfl (tX8_name_61 G v0 h9)
    · refine tq_aload_n 0 1 dX8_name_32 rfl rfl ?_
      refine tq_getR 1 dX8_name_33 cfX8 (by decide) wd_289 rfl rfl (fun x10 => ?_)
      refine tq_aload_n 2 0 dX8_name_36 rfl rfl ?_
      refine tq_getR 11 dX8_name_37 cfX3 (by decide) wd_203 rfl rfl (fun x11 => ?_)
      refine tq_aload_n 2 0 dX8_name_40 rfl rfl ?_
      refine tq_getI 12 dX8_name_41 cfX3 (by decide) wd_205 rfl rfl (fun x12 => ?_)
      refine tq_cVV [vR x11, vI x12] [] dX8_name_44 (eX4_putBytes G x10 x11 x12 h5) (by decide) mbX4_putBytes cfX4 rfl wd_649 wd_650 wd_651 rfl rfl (Nat.le_of_ble_eq_true rfl) (fun _ h13 => ?_)
      refine tq_goto 61 dX8_name_47 (by decide) ?_
      exact tq_sub [1] rfl (tX8_name_61 G v0 h13)
  · refine tq_iconst (-1) dX8_name_13 (by decide) ?_
    exact tq_iret rfl dX8_name_14
noncomputable def fX8_name (v0 : Option Nat) (v1 : Int32) (h : AH) : Option (Int32 × AH) := fX8_name_0 v0 v1 h
theorem eX8_name (G : sr_G) (v0 : Option Nat) (v1 : Int32) (h : AH) : sr_E G 2 yX8_name cX8_name 3 (some .int) jI [vR v0, vI v1] h (fX8_name v0 v1 h) := sr_E.of (own := RX8) (ini := false) (by decide) rfl (fun q => by first | rfl | cases q) rfl (Nat.le_of_ble_eq_true rfl) (tX8_name_0 G v0 v1 h)
noncomputable def fX8_writeValue_0  (v0 : Option Nat) (v1 : Int32) (h : AH) : Option (Int32 × AH) := cGR h 8 400 v0 fun x1 => cCV h 6 x1 (fX6_wrongAsName x1 h) fun x3 h2 => if x3 = 0 then (cGR h2 8 403 v0 fun x4 => cCV h2 7 x4 (fX7_elementAt x4 v1 h2) fun x6 h5 => if x6 = none then (some ((-1), h5)) else (cGR h5 3 151 x6 fun x7 => cGR h5 8 400 v0 fun x8 => cGR h5 8 400 v0 fun x9 => cGI h5 6 301 x9 fun x10 => cCV h5 6 x8 (fX6_packed x8 x10 h5) fun x12 h11 => cCV h11 1 x7 (fX1_named x7 x12 h11) fun x14 h13 => if x14 = none then (some ((-1), h13)) else (cGR h13 8 401 v0 fun x15 => cPI h13 4 201 x15 (nI 0) fun h16 => cGR h16 8 401 v0 fun x17 => cGR h16 0 1 x14 fun x18 => cGI h16 0 2 x14 fun x19 => cCV h16 4 x17 (fX4_putBytes x17 x18 x19 h16) fun _ h20 => cGR h20 8 401 v0 fun x21 => cGI h20 4 201 x21 fun x22 => some (x22, h20)))) else (some (x3, h2))
theorem tX8_writeValue_0 (G : sr_G) (v0 : Option Nat) (v1 : Int32) (h : AH) : sr_T (X := Int32) G 4 RX8 cX8_writeValue 5 (some .int) false (sr_M G jI) 0 [(0, vR v0), (1, vI v1)] [] h (fX8_writeValue_0  v0 v1 h) := by
  unfold fX8_writeValue_0
  refine tq_aload_n 0 0 dX8_writeValue_0 rfl rfl ?_
  refine tq_getR 0 dX8_writeValue_1 cfX8 (by decide) wd_288 rfl rfl (fun x1 => ?_)
  refine tq_cVI [] [] dX8_writeValue_4 (eX6_wrongAsName G x1 h) (by decide) mbX6_wrongAsName cfX6 rfl wd_669 wd_670 wd_671 rfl rfl (Nat.le_of_ble_eq_true rfl) (fun x3 h2 => ?_)
  refine tq_istore_n 2 (L' := [(2, vI x3), (0, vR v0), (1, vI v1)]) dX8_writeValue_7 rfl (by decide) rfl ?_
  refine tq_iload_n 2 0 dX8_writeValue_8 rfl rfl ?_
  refine tq_if_eq 14 dX8_writeValue_9 (by decide) (fun _ => ?_) (fun _ => ?_)
  · refine tq_aload_n 0 1 dX8_writeValue_14 rfl rfl ?_
    refine tq_getR 3 dX8_writeValue_15 cfX8 (by decide) wd_291 rfl rfl (fun x4 => ?_)
    refine tq_iload_n 1 2 dX8_writeValue_18 rfl rfl ?_
    refine tq_cVR [vI v1] [] dX8_writeValue_19 (eX7_elementAt G x4 v1 h2) (by decide) mbX7_elementAt cfX7 rfl wd_683 wd_684 wd_685 rfl rfl (Nat.le_of_ble_eq_true rfl) (fun x6 h5 => ?_)
    refine tq_astore_n 3 (L' := [(3, vR x6), (2, vI x3), (0, vR v0), (1, vI v1)]) dX8_writeValue_22 rfl (by decide) rfl ?_
    refine tq_aload_n 3 0 dX8_writeValue_23 rfl rfl ?_
    refine tq_ifnonnull 29 dX8_writeValue_24 (by decide) (fun _ => ?_) (fun _ => ?_)
    · refine tq_aload_n 3 0 dX8_writeValue_29 rfl rfl ?_
      refine tq_getR 1 dX8_writeValue_30 cfX3 (by decide) wd_176 rfl rfl (fun x7 => ?_)
      refine tq_aload_n 0 2 dX8_writeValue_33 rfl rfl ?_
      refine tq_getR 0 dX8_writeValue_34 cfX8 (by decide) wd_288 rfl rfl (fun x8 => ?_)
      refine tq_aload_n 0 2 dX8_writeValue_37 rfl rfl ?_
      refine tq_getR 0 dX8_writeValue_38 cfX8 (by decide) wd_288 rfl rfl (fun x9 => ?_)
      refine tq_getI 1 dX8_writeValue_41 cfX6 (by decide) wd_100 rfl rfl (fun x10 => ?_)
      refine tq_cVL [vI x10] [vR x7] dX8_writeValue_44 (eX6_packed G x8 x10 h5) (by decide) mbX6_packed cfX6 rfl wd_688 wd_689 wd_690 rfl rfl (Nat.le_of_ble_eq_true rfl) (fun x12 h11 => ?_)
      refine tq_cVR [vL x12] [] dX8_writeValue_47 (eX1_named G x7 x12 h11) (by decide) mbX1_named cfX1 rfl wd_693 wd_525 wd_526 rfl rfl (Nat.le_of_ble_eq_true rfl) (fun x14 h13 => ?_)
      refine tq_astore (L' := [(4, vR x14), (3, vR x6), (2, vI x3), (0, vR v0), (1, vI v1)]) dX8_writeValue_50 (by decide) rfl ?_
      refine tq_aload 0 dX8_writeValue_52 rfl ?_
      refine tq_ifnonnull 59 dX8_writeValue_54 (by decide) (fun _ => ?_) (fun _ => ?_)
      · refine tq_aload_n 0 3 dX8_writeValue_59 rfl rfl ?_
        refine tq_getR 1 dX8_writeValue_60 cfX8 (by decide) wd_289 rfl rfl (fun x15 => ?_)
        refine tq_iconst (nI 0) dX8_writeValue_63 (by decide) ?_
        refine tq_putI 1 dX8_writeValue_64 cfX4 (by decide) wd_117 rfl rfl (Or.inl rfl) (fun h16 => ?_)
        refine tq_aload_n 0 3 dX8_writeValue_67 rfl rfl ?_
        refine tq_getR 1 dX8_writeValue_68 cfX8 (by decide) wd_289 rfl rfl (fun x17 => ?_)
        refine tq_aload 0 dX8_writeValue_71 rfl ?_
        refine tq_getR 1 dX8_writeValue_73 cfX0 (by decide) wd_545 rfl rfl (fun x18 => ?_)
        refine tq_aload 0 dX8_writeValue_76 rfl ?_
        refine tq_getI 2 dX8_writeValue_78 cfX0 (by decide) wd_547 rfl rfl (fun x19 => ?_)
        refine tq_cVV [vR x18, vI x19] [] dX8_writeValue_81 (eX4_putBytes G x17 x18 x19 h16) (by decide) mbX4_putBytes cfX4 rfl wd_649 wd_650 wd_651 rfl rfl (Nat.le_of_ble_eq_true rfl) (fun _ h20 => ?_)
        refine tq_aload_n 0 3 dX8_writeValue_84 rfl rfl ?_
        refine tq_getR 1 dX8_writeValue_85 cfX8 (by decide) wd_289 rfl rfl (fun x21 => ?_)
        refine tq_getI 1 dX8_writeValue_88 cfX4 (by decide) wd_117 rfl rfl (fun x22 => ?_)
        exact tq_iret rfl dX8_writeValue_91
      · refine tq_iconst (-1) dX8_writeValue_57 (by decide) ?_
        exact tq_iret rfl dX8_writeValue_58
    · refine tq_iconst (-1) dX8_writeValue_27 (by decide) ?_
      exact tq_iret rfl dX8_writeValue_28
  · refine tq_iload_n 2 0 dX8_writeValue_12 rfl rfl ?_
    exact tq_iret rfl dX8_writeValue_13
noncomputable def fX8_writeValue (v0 : Option Nat) (v1 : Int32) (h : AH) : Option (Int32 × AH) := fX8_writeValue_0 v0 v1 h
theorem eX8_writeValue (G : sr_G) (v0 : Option Nat) (v1 : Int32) (h : AH) : sr_E G 4 yX8_writeValue cX8_writeValue 5 (some .int) jI [vR v0, vI v1] h (fX8_writeValue v0 v1 h) := sr_E.of (own := RX8) (ini := false) (by decide) rfl (fun q => by first | rfl | cases q) rfl (Nat.le_of_ble_eq_true rfl) (tX8_writeValue_0 G v0 v1 h)
noncomputable def fX8_attribute_0  (v0 : Option Nat) (v1 : Int32) (h : AH) : Option (Int32 × AH) := cCV h 8 v0 (fX8_writeValue v0 v1 h) fun x2 h1 => cGR h1 8 400 v0 fun x3 => cPI h1 6 301 x3 (nI 0) fun h4 => some (x2, h4)
theorem tX8_attribute_0 (G : sr_G) (v0 : Option Nat) (v1 : Int32) (h : AH) : sr_T (X := Int32) G 5 RX8 cX8_attribute 3 (some .int) false (sr_M G jI) 0 [(0, vR v0), (1, vI v1)] [] h (fX8_attribute_0  v0 v1 h) := by
  unfold fX8_attribute_0
  refine tq_aload_n 0 0 dX8_attribute_0 rfl rfl ?_
  refine tq_iload_n 1 1 dX8_attribute_1 rfl rfl ?_
  refine tq_cVI [vI v1] [] dX8_attribute_2 (eX8_writeValue G v0 v1 h) (by decide) mbX8_writeValue cfX8 rfl wd_665 wd_667 wd_28 rfl rfl (Nat.le_of_ble_eq_true rfl) (fun x2 h1 => ?_)
  refine tq_istore_n 2 (L' := [(2, vI x2), (0, vR v0), (1, vI v1)]) dX8_attribute_5 rfl (by decide) rfl ?_
  refine tq_aload_n 0 1 dX8_attribute_6 rfl rfl ?_
  refine tq_getR 0 dX8_attribute_7 cfX8 (by decide) wd_288 rfl rfl (fun x3 => ?_)
  refine tq_iconst (nI 0) dX8_attribute_10 (by decide) ?_
  refine tq_putI 1 dX8_attribute_11 cfX6 (by decide) wd_100 rfl rfl (Or.inl rfl) (fun h4 => ?_)
  refine tq_iload_n 2 0 dX8_attribute_14 rfl rfl ?_
  exact tq_iret rfl dX8_attribute_15
noncomputable def fX8_attribute (v0 : Option Nat) (v1 : Int32) (h : AH) : Option (Int32 × AH) := fX8_attribute_0 v0 v1 h
theorem eX8_attribute (G : sr_G) (v0 : Option Nat) (v1 : Int32) (h : AH) : sr_E G 5 yX8_attribute cX8_attribute 3 (some .int) jI [vR v0, vI v1] h (fX8_attribute v0 v1 h) := sr_E.of (own := RX8) (ini := false) (by decide) rfl (fun q => by first | rfl | cases q) rfl (Nat.le_of_ble_eq_true rfl) (tX8_attribute_0 G v0 v1 h)
noncomputable def fX8_writeStartTag_114  (v0 : Option Nat) (h : AH) : Option (Unit × AH) := cGR h 8 401 v0 fun x1 => cCV h 4 x1 (fX4_put x1 (nI 62) h) fun _ h2 => some ((), h2)
theorem tX8_writeStartTag_114 (G : sr_G) (v0 : Option Nat) (h : AH) : sr_T (X := Unit) G 7 RX8 cX8_writeStartTag 4 none false (sr_M G jV) 114 [(0, vR v0)] [] h (fX8_writeStartTag_114  v0 h) := by
  unfold fX8_writeStartTag_114
  refine tq_aload_n 0 0 dX8_writeStartTag_114 rfl rfl ?_
  refine tq_getR 1 dX8_writeStartTag_115 cfX8 (by decide) wd_289 rfl rfl (fun x1 => ?_)
  refine tq_bipush (nI 62) dX8_writeStartTag_118 (by decide) ?_
  refine tq_cVV [vI (nI 62)] [] dX8_writeStartTag_120 (eX4_put G x1 (nI 62) h) (by decide) mbX4_put cfX4 rfl wd_724 wd_654 wd_655 rfl rfl (Nat.le_of_ble_eq_true rfl) (fun _ h2 => ?_)
  exact tq_vret rfl dX8_writeStartTag_123
noncomputable def fX8_writeStartTag_108 (r22 : Option Nat → Option Nat → Int32 → AH → Option (Unit × AH)) (v0 : Option Nat) (v1 : Option Nat) (v2 : Int32) (h : AH) : Option (Unit × AH) := r22 v0 v1 (v2 + (nI 1)) h
theorem tX8_writeStartTag_108 (G : sr_G) {r22 : Option Nat → Option Nat → Int32 → AH → Option (Unit × AH)} (hr22 : ∀ (v0 : Option Nat) (v1 : Option Nat) (v2 : Int32) (h : AH), sr_T (X := Unit) G 7 RX8 cX8_writeStartTag 4 none false (sr_M G jV) 22 [(0, vR v0), (1, vR v1), (2, vI v2)] [] h (r22 v0 v1 v2 h)) (v0 : Option Nat) (v1 : Option Nat) (v2 : Int32) (h : AH) : sr_T (X := Unit) G 7 RX8 cX8_writeStartTag 4 none false (sr_M G jV) 108 [(0, vR v0), (1, vR v1), (2, vI v2)] [] h (fX8_writeStartTag_108 r22 v0 v1 v2 h) := by
  unfold fX8_writeStartTag_108
  refine tq_iinc 2 (nI 1) (L' := [(2, vI (v2 + (nI 1))), (0, vR v0), (1, vR v1)]) dX8_writeStartTag_108 rfl (by decide) (by decide) rfl ?_
  refine tq_goto 22 dX8_writeStartTag_111 (by decide) ?_
  exact tq_sub [1, 2, 0] rfl (hr22 v0 v1 (v2 + (nI 1)) h)
noncomputable def fX8_writeStartTag_22  : Nat → Option Nat → Option Nat → Int32 → AH → Option (Unit × AH)
  | 0, _, _, _, _ => none
  | n + 1, v0, v1, v2, h => cGR h 3 151 v1 fun x1 => cGI h 1 51 x1 fun x2 => if x2 ≤ v2 then (fX8_writeStartTag_114 v0 h) else (cGR h 3 151 v1 fun x3 => cCV h 1 x3 (fX1_itemAt x3 v2 h) fun x5 h4 => if x5 = none then (fX8_writeStartTag_108 (fX8_writeStartTag_22 n) v0 v1 v2 h4) else (cGR h4 8 401 v0 fun x6 => cCV h4 4 x6 (fX4_put x6 (nI 32) h4) fun _ h7 => cGR h7 8 401 v0 fun x8 => cGL h7 0 0 x5 fun x9 => cCV h7 4 x8 (fX4_putName x8 x9 h7) fun _ h10 => cGR h10 8 401 v0 fun x11 => cCV h10 4 x11 (fX4_put x11 (nI 61) h10) fun _ h12 => cGR h12 8 401 v0 fun x13 => cCV h12 4 x13 (fX4_put x13 (nI 34) h12) fun _ h14 => cGR h14 8 401 v0 fun x15 => cGR h14 0 1 x5 fun x16 => cGI h14 0 2 x5 fun x17 => cCV h14 4 x15 (fX4_putEscaped x15 x16 x17 h14) fun _ h18 => cGR h18 8 401 v0 fun x19 => cCV h18 4 x19 (fX4_put x19 (nI 34) h18) fun _ h20 => fX8_writeStartTag_108 (fX8_writeStartTag_22 n) v0 v1 v2 h20))
theorem tX8_writeStartTag_22 (G : sr_G) : ∀ (n : Nat) (v0 : Option Nat) (v1 : Option Nat) (v2 : Int32) (h : AH), sr_T (X := Unit) G 7 RX8 cX8_writeStartTag 4 none false (sr_M G jV) 22 [(0, vR v0), (1, vR v1), (2, vI v2)] [] h (fX8_writeStartTag_22  n v0 v1 v2 h) := by
  intro n
  induction n with
  | zero => intro v0 v1 v2 h; exact tq_none
  | succ n ih =>
    intro v0 v1 v2 h
    unfold fX8_writeStartTag_22
    refine tq_iload_n 2 2 dX8_writeStartTag_22 rfl rfl ?_
    refine tq_aload_n 1 1 dX8_writeStartTag_23 rfl rfl ?_
    refine tq_getR 1 dX8_writeStartTag_24 cfX3 (by decide) wd_176 rfl rfl (fun x1 => ?_)
    refine tq_getI 1 dX8_writeStartTag_27 cfX1 (by decide) wd_166 rfl rfl (fun x2 => ?_)
    refine tq_icmp_ge 114 dX8_writeStartTag_30 (by decide) (fun _ => ?_) (fun _ => ?_)
    · exact tq_sub [0] rfl (tX8_writeStartTag_114 G v0 h)
    · refine tq_aload_n 1 1 dX8_writeStartTag_33 rfl rfl ?_
      refine tq_getR 1 dX8_writeStartTag_34 cfX3 (by decide) wd_176 rfl rfl (fun x3 => ?_)
      refine tq_iload_n 2 2 dX8_writeStartTag_37 rfl rfl ?_
      refine tq_cVR [vI v2] [] dX8_writeStartTag_38 (eX1_itemAt G x3 v2 h) (by decide) mbX1_itemAt cfX1 rfl wd_725 wd_529 wd_530 rfl rfl (Nat.le_of_ble_eq_true rfl) (fun x5 h4 => ?_)
      refine tq_astore_n 3 (L' := [(3, vR x5), (0, vR v0), (1, vR v1), (2, vI v2)]) dX8_writeStartTag_41 rfl (by decide) rfl ?_
      refine tq_aload_n 3 0 dX8_writeStartTag_42 rfl rfl ?_
      refine tq_ifnull 108 dX8_writeStartTag_43 (by decide) (fun _ => ?_) (fun _ => ?_)
      · exact tq_sub [1, 2, 3] rfl (tX8_writeStartTag_108 G ih v0 v1 v2 h4)
      · refine tq_aload_n 0 1 dX8_writeStartTag_46 rfl rfl ?_
        refine tq_getR 1 dX8_writeStartTag_47 cfX8 (by decide) wd_289 rfl rfl (fun x6 => ?_)
        refine tq_bipush (nI 32) dX8_writeStartTag_50 (by decide) ?_
        refine tq_cVV [vI (nI 32)] [] dX8_writeStartTag_52 (eX4_put G x6 (nI 32) h4) (by decide) mbX4_put cfX4 rfl wd_724 wd_654 wd_655 rfl rfl (Nat.le_of_ble_eq_true rfl) (fun _ h7 => ?_)
        refine tq_aload_n 0 1 dX8_writeStartTag_55 rfl rfl ?_
        refine tq_getR 1 dX8_writeStartTag_56 cfX8 (by decide) wd_289 rfl rfl (fun x8 => ?_)
        refine tq_aload_n 3 0 dX8_writeStartTag_59 rfl rfl ?_
        refine tq_getL 0 dX8_writeStartTag_60 cfX0 (by decide) wd_543 rfl rfl (fun x9 => ?_)
        refine tq_cVV [vL x9] [] dX8_writeStartTag_63 (eX4_putName G x8 x9 h7) (by decide) mbX4_putName cfX4 rfl wd_657 wd_658 wd_659 rfl rfl (Nat.le_of_ble_eq_true rfl) (fun _ h10 => ?_)
        refine tq_aload_n 0 1 dX8_writeStartTag_66 rfl rfl ?_
        refine tq_getR 1 dX8_writeStartTag_67 cfX8 (by decide) wd_289 rfl rfl (fun x11 => ?_)
        refine tq_bipush (nI 61) dX8_writeStartTag_70 (by decide) ?_
        refine tq_cVV [vI (nI 61)] [] dX8_writeStartTag_72 (eX4_put G x11 (nI 61) h10) (by decide) mbX4_put cfX4 rfl wd_724 wd_654 wd_655 rfl rfl (Nat.le_of_ble_eq_true rfl) (fun _ h12 => ?_)
        refine tq_aload_n 0 1 dX8_writeStartTag_75 rfl rfl ?_
        refine tq_getR 1 dX8_writeStartTag_76 cfX8 (by decide) wd_289 rfl rfl (fun x13 => ?_)
        refine tq_bipush (nI 34) dX8_writeStartTag_79 (by decide) ?_
        refine tq_cVV [vI (nI 34)] [] dX8_writeStartTag_81 (eX4_put G x13 (nI 34) h12) (by decide) mbX4_put cfX4 rfl wd_724 wd_654 wd_655 rfl rfl (Nat.le_of_ble_eq_true rfl) (fun _ h14 => ?_)
        refine tq_aload_n 0 1 dX8_writeStartTag_84 rfl rfl ?_
        refine tq_getR 1 dX8_writeStartTag_85 cfX8 (by decide) wd_289 rfl rfl (fun x15 => ?_)
        refine tq_aload_n 3 0 dX8_writeStartTag_88 rfl rfl ?_
        refine tq_getR 1 dX8_writeStartTag_89 cfX0 (by decide) wd_545 rfl rfl (fun x16 => ?_)
        refine tq_aload_n 3 0 dX8_writeStartTag_92 rfl rfl ?_
        refine tq_getI 2 dX8_writeStartTag_93 cfX0 (by decide) wd_547 rfl rfl (fun x17 => ?_)
        refine tq_cVV [vR x16, vI x17] [] dX8_writeStartTag_96 (eX4_putEscaped G x15 x16 x17 h14) (by decide) mbX4_putEscaped cfX4 rfl wd_706 wd_707 wd_708 rfl rfl (Nat.le_of_ble_eq_true rfl) (fun _ h18 => ?_)
        refine tq_aload_n 0 1 dX8_writeStartTag_99 rfl rfl ?_
        refine tq_getR 1 dX8_writeStartTag_100 cfX8 (by decide) wd_289 rfl rfl (fun x19 => ?_)
        refine tq_bipush (nI 34) dX8_writeStartTag_103 (by decide) ?_
        refine tq_cVV [vI (nI 34)] [] dX8_writeStartTag_105 (eX4_put G x19 (nI 34) h18) (by decide) mbX4_put cfX4 rfl wd_724 wd_654 wd_655 rfl rfl (Nat.le_of_ble_eq_true rfl) (fun _ h20 => ?_)
        exact tq_sub [1, 2, 3] rfl (tX8_writeStartTag_108 G ih v0 v1 v2 h20)
noncomputable def fX8_writeStartTag_0  (v0 : Option Nat) (v1 : Option Nat) (h : AH) : Option (Unit × AH) := cGR h 8 401 v0 fun x1 => cCV h 4 x1 (fX4_put x1 (nI 60) h) fun _ h2 => cGR h2 8 401 v0 fun x3 => cGL h2 3 154 v1 fun x4 => cCV h2 4 x3 (fX4_putName x3 x4 h2) fun _ h5 => fX8_writeStartTag_22 FU v0 v1 (nI 0) h5
theorem tX8_writeStartTag_0 (G : sr_G) (v0 : Option Nat) (v1 : Option Nat) (h : AH) : sr_T (X := Unit) G 7 RX8 cX8_writeStartTag 4 none false (sr_M G jV) 0 [(0, vR v0), (1, vR v1)] [] h (fX8_writeStartTag_0  v0 v1 h) := by
  unfold fX8_writeStartTag_0
  refine tq_aload_n 0 0 dX8_writeStartTag_0 rfl rfl ?_
  refine tq_getR 1 dX8_writeStartTag_1 cfX8 (by decide) wd_289 rfl rfl (fun x1 => ?_)
  refine tq_bipush (nI 60) dX8_writeStartTag_4 (by decide) ?_
  refine tq_cVV [vI (nI 60)] [] dX8_writeStartTag_6 (eX4_put G x1 (nI 60) h) (by decide) mbX4_put cfX4 rfl wd_724 wd_654 wd_655 rfl rfl (Nat.le_of_ble_eq_true rfl) (fun _ h2 => ?_)
  refine tq_aload_n 0 0 dX8_writeStartTag_9 rfl rfl ?_
  refine tq_getR 1 dX8_writeStartTag_10 cfX8 (by decide) wd_289 rfl rfl (fun x3 => ?_)
  refine tq_aload_n 1 1 dX8_writeStartTag_13 rfl rfl ?_
  refine tq_getL 4 dX8_writeStartTag_14 cfX3 (by decide) wd_185 rfl rfl (fun x4 => ?_)
  refine tq_cVV [vL x4] [] dX8_writeStartTag_17 (eX4_putName G x3 x4 h2) (by decide) mbX4_putName cfX4 rfl wd_657 wd_658 wd_659 rfl rfl (Nat.le_of_ble_eq_true rfl) (fun _ h5 => ?_)
  refine tq_iconst (nI 0) dX8_writeStartTag_20 (by decide) ?_
  refine tq_istore_n 2 (L' := [(2, vI (nI 0)), (0, vR v0), (1, vR v1)]) dX8_writeStartTag_21 rfl (by decide) rfl ?_
  exact tq_sub [1, 2, 0] rfl (tX8_writeStartTag_22 G FU v0 v1 (nI 0) h5)
noncomputable def fX8_writeStartTag (v0 : Option Nat) (v1 : Option Nat) (h : AH) : Option (Unit × AH) := fX8_writeStartTag_0 v0 v1 h
theorem eX8_writeStartTag (G : sr_G) (v0 : Option Nat) (v1 : Option Nat) (h : AH) : sr_E G 7 yX8_writeStartTag cX8_writeStartTag 4 none jV [vR v0, vR v1] h (fX8_writeStartTag v0 v1 h) := sr_E.of (own := RX8) (ini := false) (by decide) rfl (fun q => by first | rfl | cases q) rfl (Nat.le_of_ble_eq_true rfl) (tX8_writeStartTag_0 G v0 v1 h)
noncomputable def fX8_writeText_52   (h : AH) : Option (Unit × AH) := some ((), h)
theorem tX8_writeText_52 (G : sr_G)  (h : AH) : sr_T (X := Unit) G 7 RX8 cX8_writeText 2 none false (sr_M G jV) 52 [] [] h (fX8_writeText_52  h) := by
  unfold fX8_writeText_52
  exact tq_vret rfl dX8_writeText_52
noncomputable def fX8_writeText_37  (v0 : Option Nat) (v1 : Option Nat) (h : AH) : Option (Unit × AH) := cGR h 8 401 v0 fun x1 => cGR h 3 161 v1 fun x2 => cGI h 3 162 v1 fun x3 => cCV h 4 x1 (fX4_putEscaped x1 x2 x3 h) fun _ h4 => fX8_writeText_52 h4
theorem tX8_writeText_37 (G : sr_G) (v0 : Option Nat) (v1 : Option Nat) (h : AH) : sr_T (X := Unit) G 7 RX8 cX8_writeText 2 none false (sr_M G jV) 37 [(0, vR v0), (1, vR v1)] [] h (fX8_writeText_37  v0 v1 h) := by
  unfold fX8_writeText_37
  refine tq_aload_n 0 0 dX8_writeText_37 rfl rfl ?_
  refine tq_getR 1 dX8_writeText_38 cfX8 (by decide) wd_289 rfl rfl (fun x1 => ?_)
  refine tq_aload_n 1 1 dX8_writeText_41 rfl rfl ?_
  refine tq_getR 11 dX8_writeText_42 cfX3 (by decide) wd_203 rfl rfl (fun x2 => ?_)
  refine tq_aload_n 1 1 dX8_writeText_45 rfl rfl ?_
  refine tq_getI 12 dX8_writeText_46 cfX3 (by decide) wd_205 rfl rfl (fun x3 => ?_)
  refine tq_cVV [vR x2, vI x3] [] dX8_writeText_49 (eX4_putEscaped G x1 x2 x3 h) (by decide) mbX4_putEscaped cfX4 rfl wd_706 wd_707 wd_708 rfl rfl (Nat.le_of_ble_eq_true rfl) (fun _ h4 => ?_)
  exact tq_sub [] rfl (tX8_writeText_52 G h4)
noncomputable def fX8_writeText_0  (v0 : Option Nat) (v1 : Option Nat) (h : AH) : Option (Unit × AH) := cGR h 3 156 v1 fun x1 => if x1 = none then (fX8_writeText_37 v0 v1 h) else (cGR h 3 156 v1 fun x2 => cGI h 3 153 x2 fun x3 => if x3 = (nI 15) then (cGR h 8 401 v0 fun x4 => cGR h 3 161 v1 fun x5 => cGI h 3 162 v1 fun x6 => cCV h 4 x4 (fX4_putBytes x4 x5 x6 h) fun _ h7 => fX8_writeText_52 h7) else (fX8_writeText_37 v0 v1 h))
theorem tX8_writeText_0 (G : sr_G) (v0 : Option Nat) (v1 : Option Nat) (h : AH) : sr_T (X := Unit) G 7 RX8 cX8_writeText 2 none false (sr_M G jV) 0 [(0, vR v0), (1, vR v1)] [] h (fX8_writeText_0  v0 v1 h) := by
  unfold fX8_writeText_0
  refine tq_aload_n 1 1 dX8_writeText_0 rfl rfl ?_
  refine tq_getR 6 dX8_writeText_1 cfX3 (by decide) wd_191 rfl rfl (fun x1 => ?_)
  refine tq_ifnull 37 dX8_writeText_4 (by decide) (fun _ => ?_) (fun _ => ?_)
  · exact tX8_writeText_37 G v0 v1 h
  · refine tq_aload_n 1 1 dX8_writeText_7 rfl rfl ?_
    refine tq_getR 6 dX8_writeText_8 cfX3 (by decide) wd_191 rfl rfl (fun x2 => ?_)
    refine tq_getI 3 dX8_writeText_11 cfX3 (by decide) wd_182 rfl rfl (fun x3 => ?_)
    refine tq_bipush (nI 15) dX8_writeText_14 (by decide) ?_
    refine tq_icmp_ne 37 dX8_writeText_16 (by decide) (fun _ => ?_) (fun _ => ?_)
    · exact tX8_writeText_37 G v0 v1 h
    · refine tq_aload_n 0 0 dX8_writeText_19 rfl rfl ?_
      refine tq_getR 1 dX8_writeText_20 cfX8 (by decide) wd_289 rfl rfl (fun x4 => ?_)
      refine tq_aload_n 1 1 dX8_writeText_23 rfl rfl ?_
      refine tq_getR 11 dX8_writeText_24 cfX3 (by decide) wd_203 rfl rfl (fun x5 => ?_)
      refine tq_aload_n 1 1 dX8_writeText_27 rfl rfl ?_
      refine tq_getI 12 dX8_writeText_28 cfX3 (by decide) wd_205 rfl rfl (fun x6 => ?_)
      refine tq_cVV [vR x5, vI x6] [] dX8_writeText_31 (eX4_putBytes G x4 x5 x6 h) (by decide) mbX4_putBytes cfX4 rfl wd_649 wd_650 wd_651 rfl rfl (Nat.le_of_ble_eq_true rfl) (fun _ h7 => ?_)
      refine tq_goto 52 dX8_writeText_34 (by decide) ?_
      exact tq_sub [] rfl (tX8_writeText_52 G h7)
noncomputable def fX8_writeText (v0 : Option Nat) (v1 : Option Nat) (h : AH) : Option (Unit × AH) := fX8_writeText_0 v0 v1 h
theorem eX8_writeText (G : sr_G) (v0 : Option Nat) (v1 : Option Nat) (h : AH) : sr_E G 7 yX8_writeText cX8_writeText 2 none jV [vR v0, vR v1] h (fX8_writeText v0 v1 h) := sr_E.of (own := RX8) (ini := false) (by decide) rfl (fun q => by first | rfl | cases q) rfl (Nat.le_of_ble_eq_true rfl) (tX8_writeText_0 G v0 v1 h)
noncomputable def fX8_writeNode_100 (rM : Option Nat → Option Nat → Int32 → AH → Option (Unit × AH))  (h : AH) : Option (Unit × AH) := some ((), h)
theorem tX8_writeNode_100 (G : sr_G) (d d1 : Nat) (hd0 : 8 ≤ d) (hd1 : d1 + 1 ≤ d) (rM : Option Nat → Option Nat → Int32 → AH → Option (Unit × AH)) (hM : ∀ (b0 : Option Nat) (b1 : Option Nat) (b2 : Int32) (h : AH), sr_E G d1 yX8_writeNode cX8_writeNode 4 none jV [vR b0, vR b1, vI b2] h (rM b0 b1 b2 h))  (h : AH) : sr_T (X := Unit) G d RX8 cX8_writeNode 4 none false (sr_M G jV) 100 [] [] h (fX8_writeNode_100 rM h) := by
  unfold fX8_writeNode_100
  exact tq_vret rfl dX8_writeNode_100
noncomputable def fX8_writeNode_52 (rM : Option Nat → Option Nat → Int32 → AH → Option (Unit × AH)) (v0 : Option Nat) (v1 : Option Nat) (h : AH) : Option (Unit × AH) := cGI h 3 153 v1 fun x1 => cCL (fX8_isEmptyTag x1 h) fun x3 h2 => if x3 = 0 then (cGR h2 8 401 v0 fun x4 => cCV h2 4 x4 (fX4_put x4 (nI 60) h2) fun _ h5 => cGR h5 8 401 v0 fun x6 => cCV h5 4 x6 (fX4_put x6 (nI 47) h5) fun _ h7 => cGR h7 8 401 v0 fun x8 => cGL h7 3 154 v1 fun x9 => cCV h7 4 x8 (fX4_putName x8 x9 h7) fun _ h10 => cGR h10 8 401 v0 fun x11 => cCV h10 4 x11 (fX4_put x11 (nI 62) h10) fun _ h12 => fX8_writeNode_100 rM h12) else (fX8_writeNode_100 rM h2)
theorem tX8_writeNode_52 (G : sr_G) (d d1 : Nat) (hd0 : 8 ≤ d) (hd1 : d1 + 1 ≤ d) (rM : Option Nat → Option Nat → Int32 → AH → Option (Unit × AH)) (hM : ∀ (b0 : Option Nat) (b1 : Option Nat) (b2 : Int32) (h : AH), sr_E G d1 yX8_writeNode cX8_writeNode 4 none jV [vR b0, vR b1, vI b2] h (rM b0 b1 b2 h)) (v0 : Option Nat) (v1 : Option Nat) (h : AH) : sr_T (X := Unit) G d RX8 cX8_writeNode 4 none false (sr_M G jV) 52 [(0, vR v0), (1, vR v1)] [] h (fX8_writeNode_52 rM v0 v1 h) := by
  unfold fX8_writeNode_52
  refine tq_aload_n 1 1 dX8_writeNode_52 rfl rfl ?_
  refine tq_getI 3 dX8_writeNode_53 cfX3 (by decide) wd_182 rfl rfl (fun x1 => ?_)
  refine tq_cSI [vI x1] [] dX8_writeNode_56 (eX8_isEmptyTag G x1 h) (by omega) mbX8_isEmptyTag wd_726 wd_582 rfl rfl (Nat.le_of_ble_eq_true rfl) (fun x3 h2 => ?_)
  refine tq_if_ne 100 dX8_writeNode_59 (by decide) (fun _ => ?_) (fun _ => ?_)
  · exact tq_sub [] rfl (tX8_writeNode_100 G d d1 hd0 hd1 rM hM h2)
  · refine tq_aload_n 0 0 dX8_writeNode_62 rfl rfl ?_
    refine tq_getR 1 dX8_writeNode_63 cfX8 (by decide) wd_289 rfl rfl (fun x4 => ?_)
    refine tq_bipush (nI 60) dX8_writeNode_66 (by decide) ?_
    refine tq_cVV [vI (nI 60)] [] dX8_writeNode_68 (eX4_put G x4 (nI 60) h2) (by omega) mbX4_put cfX4 rfl wd_724 wd_654 wd_655 rfl rfl (Nat.le_of_ble_eq_true rfl) (fun _ h5 => ?_)
    refine tq_aload_n 0 0 dX8_writeNode_71 rfl rfl ?_
    refine tq_getR 1 dX8_writeNode_72 cfX8 (by decide) wd_289 rfl rfl (fun x6 => ?_)
    refine tq_bipush (nI 47) dX8_writeNode_75 (by decide) ?_
    refine tq_cVV [vI (nI 47)] [] dX8_writeNode_77 (eX4_put G x6 (nI 47) h5) (by omega) mbX4_put cfX4 rfl wd_724 wd_654 wd_655 rfl rfl (Nat.le_of_ble_eq_true rfl) (fun _ h7 => ?_)
    refine tq_aload_n 0 0 dX8_writeNode_80 rfl rfl ?_
    refine tq_getR 1 dX8_writeNode_81 cfX8 (by decide) wd_289 rfl rfl (fun x8 => ?_)
    refine tq_aload_n 1 1 dX8_writeNode_84 rfl rfl ?_
    refine tq_getL 4 dX8_writeNode_85 cfX3 (by decide) wd_185 rfl rfl (fun x9 => ?_)
    refine tq_cVV [vL x9] [] dX8_writeNode_88 (eX4_putName G x8 x9 h7) (by omega) mbX4_putName cfX4 rfl wd_657 wd_658 wd_659 rfl rfl (Nat.le_of_ble_eq_true rfl) (fun _ h10 => ?_)
    refine tq_aload_n 0 0 dX8_writeNode_91 rfl rfl ?_
    refine tq_getR 1 dX8_writeNode_92 cfX8 (by decide) wd_289 rfl rfl (fun x11 => ?_)
    refine tq_bipush (nI 62) dX8_writeNode_95 (by decide) ?_
    refine tq_cVV [vI (nI 62)] [] dX8_writeNode_97 (eX4_put G x11 (nI 62) h10) (by omega) mbX4_put cfX4 rfl wd_724 wd_654 wd_655 rfl rfl (Nat.le_of_ble_eq_true rfl) (fun _ h12 => ?_)
    exact tq_sub [] rfl (tX8_writeNode_100 G d d1 hd0 hd1 rM hM h12)
noncomputable def fX8_writeNode_32 (rM : Option Nat → Option Nat → Int32 → AH → Option (Unit × AH)) : Nat → Option Nat → Option Nat → Int32 → Option Nat → AH → Option (Unit × AH)
  | 0, _, _, _, _, _ => none
  | n + 1, v0, v1, v2, v3, h => if v3 = none then (fX8_writeNode_52 rM v0 v1 h) else (cCV h 8 v0 (rM v0 v3 (v2 + (nI 1)) h) fun _ h1 => cGR h1 3 158 v3 fun x2 => fX8_writeNode_32 rM n v0 v1 v2 x2 h1)
theorem tX8_writeNode_32 (G : sr_G) (d d1 : Nat) (hd0 : 8 ≤ d) (hd1 : d1 + 1 ≤ d) (rM : Option Nat → Option Nat → Int32 → AH → Option (Unit × AH)) (hM : ∀ (b0 : Option Nat) (b1 : Option Nat) (b2 : Int32) (h : AH), sr_E G d1 yX8_writeNode cX8_writeNode 4 none jV [vR b0, vR b1, vI b2] h (rM b0 b1 b2 h)) : ∀ (n : Nat) (v0 : Option Nat) (v1 : Option Nat) (v2 : Int32) (v3 : Option Nat) (h : AH), sr_T (X := Unit) G d RX8 cX8_writeNode 4 none false (sr_M G jV) 32 [(0, vR v0), (1, vR v1), (2, vI v2), (3, vR v3)] [] h (fX8_writeNode_32 rM n v0 v1 v2 v3 h) := by
  intro n
  induction n with
  | zero => intro v0 v1 v2 v3 h; exact tq_none
  | succ n ih =>
    intro v0 v1 v2 v3 h
    unfold fX8_writeNode_32
    refine tq_aload_n 3 3 dX8_writeNode_32 rfl rfl ?_
    refine tq_ifnull 52 dX8_writeNode_33 (by decide) (fun _ => ?_) (fun _ => ?_)
    · exact tq_sub [0, 1] rfl (tX8_writeNode_52 G d d1 hd0 hd1 rM hM v0 v1 h)
    · refine tq_aload_n 0 0 dX8_writeNode_36 rfl rfl ?_
      refine tq_aload_n 3 3 dX8_writeNode_37 rfl rfl ?_
      refine tq_iload_n 2 2 dX8_writeNode_38 rfl rfl ?_
      refine tq_iconst (nI 1) dX8_writeNode_39 (by decide) ?_
      refine tq_iadd dX8_writeNode_40 ?_
      refine tq_cVV [vR v3, vI (v2 + (nI 1))] [] dX8_writeNode_41 (hM v0 v3 (v2 + (nI 1)) h) hd1 mbX8_writeNode cfX8 rfl wd_698 wd_700 wd_29 rfl rfl (Nat.le_of_ble_eq_true rfl) (fun _ h1 => ?_)
      refine tq_aload_n 3 3 dX8_writeNode_44 rfl rfl ?_
      refine tq_getR 8 dX8_writeNode_45 cfX3 (by decide) wd_194 rfl rfl (fun x2 => ?_)
      refine tq_astore_n 3 (L' := [(3, vR x2), (0, vR v0), (1, vR v1), (2, vI v2)]) dX8_writeNode_48 rfl (by decide) rfl ?_
      refine tq_goto 32 dX8_writeNode_49 (by decide) ?_
      exact tq_sub [1, 2, 3, 0] rfl (ih v0 v1 v2 x2 h1)
noncomputable def fX8_writeNode_0 (rM : Option Nat → Option Nat → Int32 → AH → Option (Unit × AH)) (v0 : Option Nat) (v1 : Option Nat) (v2 : Int32) (h : AH) : Option (Unit × AH) := if v2 ≤ (nI 20) then (cGI h 3 153 v1 fun x1 => if x1 = (nI 17) then (cCV h 8 v0 (fX8_writeText v0 v1 h) fun _ h4 => some ((), h4)) else (cCV h 8 v0 (fX8_writeStartTag v0 v1 h) fun _ h2 => cGR h2 3 159 v1 fun x3 => fX8_writeNode_32 rM FU v0 v1 v2 x3 h2)) else (some ((), h))
theorem tX8_writeNode_0 (G : sr_G) (d d1 : Nat) (hd0 : 8 ≤ d) (hd1 : d1 + 1 ≤ d) (rM : Option Nat → Option Nat → Int32 → AH → Option (Unit × AH)) (hM : ∀ (b0 : Option Nat) (b1 : Option Nat) (b2 : Int32) (h : AH), sr_E G d1 yX8_writeNode cX8_writeNode 4 none jV [vR b0, vR b1, vI b2] h (rM b0 b1 b2 h)) (v0 : Option Nat) (v1 : Option Nat) (v2 : Int32) (h : AH) : sr_T (X := Unit) G d RX8 cX8_writeNode 4 none false (sr_M G jV) 0 [(0, vR v0), (1, vR v1), (2, vI v2)] [] h (fX8_writeNode_0 rM v0 v1 v2 h) := by
  unfold fX8_writeNode_0
  refine tq_iload_n 2 2 dX8_writeNode_0 rfl rfl ?_
  refine tq_bipush (nI 20) dX8_writeNode_1 (by decide) ?_
  refine tq_icmp_le 7 dX8_writeNode_3 (by decide) (fun _ => ?_) (fun _ => ?_)
  · refine tq_aload_n 1 1 dX8_writeNode_7 rfl rfl ?_
    refine tq_getI 3 dX8_writeNode_8 cfX3 (by decide) wd_182 rfl rfl (fun x1 => ?_)
    refine tq_bipush (nI 17) dX8_writeNode_11 (by decide) ?_
    refine tq_icmp_ne 22 dX8_writeNode_13 (by decide) (fun _ => ?_) (fun _ => ?_)
    · refine tq_aload_n 0 0 dX8_writeNode_22 rfl rfl ?_
      refine tq_aload_n 1 1 dX8_writeNode_23 rfl rfl ?_
      refine tq_cVV [vR v1] [] dX8_writeNode_24 (eX8_writeStartTag G v0 v1 h) (by omega) mbX8_writeStartTag cfX8 rfl wd_720 wd_722 wd_31 rfl rfl (Nat.le_of_ble_eq_true rfl) (fun _ h2 => ?_)
      refine tq_aload_n 1 1 dX8_writeNode_27 rfl rfl ?_
      refine tq_getR 9 dX8_writeNode_28 cfX3 (by decide) wd_197 rfl rfl (fun x3 => ?_)
      refine tq_astore_n 3 (L' := [(3, vR x3), (0, vR v0), (1, vR v1), (2, vI v2)]) dX8_writeNode_31 rfl (by decide) rfl ?_
      exact tq_sub [1, 2, 3, 0] rfl (tX8_writeNode_32 G d d1 hd0 hd1 rM hM FU v0 v1 v2 x3 h2)
    · refine tq_aload_n 0 0 dX8_writeNode_16 rfl rfl ?_
      refine tq_aload_n 1 1 dX8_writeNode_17 rfl rfl ?_
      refine tq_cVV [vR v1] [] dX8_writeNode_18 (eX8_writeText G v0 v1 h) (by omega) mbX8_writeText cfX8 rfl wd_702 wd_704 wd_30 rfl rfl (Nat.le_of_ble_eq_true rfl) (fun _ h4 => ?_)
      exact tq_vret rfl dX8_writeNode_21
  · exact tq_vret rfl dX8_writeNode_6
noncomputable def fX8_writeNode : Nat → Option Nat → Option Nat → Int32 → AH → Option (Unit × AH)
  | 0, _, _, _, _ => none
  | k + 1, v0, v1, v2, h => fX8_writeNode_0 (fX8_writeNode k) v0 v1 v2 h
theorem eX8_writeNode (G : sr_G) : ∀ (k : Nat) (v0 : Option Nat) (v1 : Option Nat) (v2 : Int32) (h : AH), sr_E G (8 + k) yX8_writeNode cX8_writeNode 4 none jV [vR v0, vR v1, vI v2] h (fX8_writeNode k v0 v1 v2 h) := by
  intro k
  induction k with
  | zero => intro v0 v1 v2 h x h' hF; unfold fX8_writeNode at hF; cases hF
  | succ k ih =>
    intro v0 v1 v2 h
    unfold fX8_writeNode
    exact sr_E.of (own := RX8) (ini := false) (by decide) rfl (fun q => by first | rfl | cases q) rfl (Nat.le_of_ble_eq_true rfl) (tX8_writeNode_0 G (8 + (k + 1)) (8 + k) (by omega) (by omega) _ ih v0 v1 v2 h)
noncomputable def fX8_serialise_0  (v0 : Option Nat) (v1 : Int32) (h : AH) : Option (Int32 × AH) := cGR h 8 403 v0 fun x1 => cCV h 7 x1 (fX7_nodeAt x1 v1 h) fun x3 h2 => if x3 = none then (some ((-1), h2)) else (cGR h2 8 401 v0 fun x4 => cPI h2 4 201 x4 (nI 0) fun h5 => cCV h5 8 v0 (fX8_writeNode 25 v0 x3 (nI 0) h5) fun _ h6 => cGR h6 8 401 v0 fun x7 => cGI h6 4 201 x7 fun x8 => some (x8, h6))
theorem tX8_serialise_0 (G : sr_G) (v0 : Option Nat) (v1 : Int32) (h : AH) : sr_T (X := Int32) G 34 RX8 cX8_serialise 3 (some .int) false (sr_M G jI) 0 [(0, vR v0), (1, vI v1)] [] h (fX8_serialise_0  v0 v1 h) := by
  unfold fX8_serialise_0
  refine tq_aload_n 0 0 dX8_serialise_0 rfl rfl ?_
  refine tq_getR 3 dX8_serialise_1 cfX8 (by decide) wd_291 rfl rfl (fun x1 => ?_)
  refine tq_iload_n 1 1 dX8_serialise_4 rfl rfl ?_
  refine tq_cVR [vI v1] [] dX8_serialise_5 (eX7_nodeAt G x1 v1 h) (by decide) mbX7_nodeAt cfX7 rfl wd_629 wd_630 wd_631 rfl rfl (Nat.le_of_ble_eq_true rfl) (fun x3 h2 => ?_)
  refine tq_astore_n 2 (L' := [(2, vR x3), (0, vR v0), (1, vI v1)]) dX8_serialise_8 rfl (by decide) rfl ?_
  refine tq_aload_n 2 0 dX8_serialise_9 rfl rfl ?_
  refine tq_ifnonnull 15 dX8_serialise_10 (by decide) (fun _ => ?_) (fun _ => ?_)
  · refine tq_aload_n 0 1 dX8_serialise_15 rfl rfl ?_
    refine tq_getR 1 dX8_serialise_16 cfX8 (by decide) wd_289 rfl rfl (fun x4 => ?_)
    refine tq_iconst (nI 0) dX8_serialise_19 (by decide) ?_
    refine tq_putI 1 dX8_serialise_20 cfX4 (by decide) wd_117 rfl rfl (Or.inl rfl) (fun h5 => ?_)
    refine tq_aload_n 0 1 dX8_serialise_23 rfl rfl ?_
    refine tq_aload_n 2 0 dX8_serialise_24 rfl rfl ?_
    refine tq_iconst (nI 0) dX8_serialise_25 (by decide) ?_
    refine tq_cVV [vR x3, vI (nI 0)] [] dX8_serialise_26 (eX8_writeNode G 25 v0 x3 (nI 0) h5) (by decide) mbX8_writeNode cfX8 rfl wd_698 wd_700 wd_29 rfl rfl (Nat.le_of_ble_eq_true rfl) (fun _ h6 => ?_)
    refine tq_aload_n 0 1 dX8_serialise_29 rfl rfl ?_
    refine tq_getR 1 dX8_serialise_30 cfX8 (by decide) wd_289 rfl rfl (fun x7 => ?_)
    refine tq_getI 1 dX8_serialise_33 cfX4 (by decide) wd_117 rfl rfl (fun x8 => ?_)
    exact tq_iret rfl dX8_serialise_36
  · refine tq_iconst (-1) dX8_serialise_13 (by decide) ?_
    exact tq_iret rfl dX8_serialise_14
noncomputable def fX8_serialise (v0 : Option Nat) (v1 : Int32) (h : AH) : Option (Int32 × AH) := fX8_serialise_0 v0 v1 h
theorem eX8_serialise (G : sr_G) (v0 : Option Nat) (v1 : Int32) (h : AH) : sr_E G 34 yX8_serialise cX8_serialise 3 (some .int) jI [vR v0, vI v1] h (fX8_serialise v0 v1 h) := sr_E.of (own := RX8) (ini := false) (by decide) rfl (fun q => by first | rfl | cases q) rfl (Nat.le_of_ble_eq_true rfl) (tX8_serialise_0 G v0 v1 h)
noncomputable def fX8_fault_30  (s0 : Int32) (h : AH) : Option (Int32 × AH) := some (s0, h)
theorem tX8_fault_30 (G : sr_G) (s0 : Int32) (h : AH) : sr_T (X := Int32) G 2 RX8 cX8_fault 3 (some .int) false (sr_M G jI) 30 [] [vI s0] h (fX8_fault_30  s0 h) := by
  unfold fX8_fault_30
  exact tq_iret rfl dX8_fault_30
noncomputable def fX8_fault_0  (v0 : Option Nat) (v1 : Int32) (v2 : Int32) (h : AH) : Option (Int32 × AH) := if v2 = 0 then (cGR h 8 402 v0 fun x4 => cCV h 2 x4 (fX2_kindOf x4 v1 h) fun x6 h5 => some (x6, h5)) else (if v2 = (nI 1) then (cGR h 8 402 v0 fun x1 => cCV h 2 x1 (fX2_placeOf x1 v1 h) fun x3 h2 => fX8_fault_30 x3 h2) else (fX8_fault_30 (-1) h))
theorem tX8_fault_0 (G : sr_G) (v0 : Option Nat) (v1 : Int32) (v2 : Int32) (h : AH) : sr_T (X := Int32) G 2 RX8 cX8_fault 3 (some .int) false (sr_M G jI) 0 [(0, vR v0), (1, vI v1), (2, vI v2)] [] h (fX8_fault_0  v0 v1 v2 h) := by
  unfold fX8_fault_0
  refine tq_iload_n 2 2 dX8_fault_0 rfl rfl ?_
  refine tq_if_ne 13 dX8_fault_1 (by decide) (fun _ => ?_) (fun _ => ?_)
  · refine tq_iload_n 2 2 dX8_fault_13 rfl rfl ?_
    refine tq_iconst (nI 1) dX8_fault_14 (by decide) ?_
    refine tq_icmp_ne 29 dX8_fault_15 (by decide) (fun _ => ?_) (fun _ => ?_)
    · refine tq_iconst (-1) dX8_fault_29 (by decide) ?_
      exact tq_sub [] rfl (tX8_fault_30 G (-1) h)
    · refine tq_aload_n 0 0 dX8_fault_18 rfl rfl ?_
      refine tq_getR 2 dX8_fault_19 cfX8 (by decide) wd_290 rfl rfl (fun x1 => ?_)
      refine tq_iload_n 1 1 dX8_fault_22 rfl rfl ?_
      refine tq_cVI [vI v1] [] dX8_fault_23 (eX2_placeOf G x1 v1 h) (by decide) mbX2_placeOf cfX2 rfl wd_735 wd_736 wd_737 rfl rfl (Nat.le_of_ble_eq_true rfl) (fun x3 h2 => ?_)
      refine tq_goto 30 dX8_fault_26 (by decide) ?_
      exact tq_sub [] rfl (tX8_fault_30 G x3 h2)
  · refine tq_aload_n 0 0 dX8_fault_4 rfl rfl ?_
    refine tq_getR 2 dX8_fault_5 cfX8 (by decide) wd_290 rfl rfl (fun x4 => ?_)
    refine tq_iload_n 1 1 dX8_fault_8 rfl rfl ?_
    refine tq_cVI [vI v1] [] dX8_fault_9 (eX2_kindOf G x4 v1 h) (by decide) mbX2_kindOf cfX2 rfl wd_731 wd_732 wd_733 rfl rfl (Nat.le_of_ble_eq_true rfl) (fun x6 h5 => ?_)
    exact tq_iret rfl dX8_fault_12
noncomputable def fX8_fault (v0 : Option Nat) (v1 : Int32) (v2 : Int32) (h : AH) : Option (Int32 × AH) := fX8_fault_0 v0 v1 v2 h
theorem eX8_fault (G : sr_G) (v0 : Option Nat) (v1 : Int32) (v2 : Int32) (h : AH) : sr_E G 2 yX8_fault cX8_fault 3 (some .int) jI [vR v0, vI v1, vI v2] h (fX8_fault v0 v1 v2 h) := sr_E.of (own := RX8) (ini := false) (by decide) rfl (fun q => by first | rfl | cases q) rfl (Nat.le_of_ble_eq_true rfl) (tX8_fault_0 G v0 v1 v2 h)

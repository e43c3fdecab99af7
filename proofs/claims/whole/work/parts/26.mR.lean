noncomputable def fX9_say_31   (h : AH) : Option (Unit × AH) := some ((), h)
theorem tX9_say_31 (G : sr_G)  (h : AH) : sr_T (X := Unit) G 0 RX9 cX9_say 2 none false (sr_M G jV) 31 [] [] h (fX9_say_31  h) := by
  unfold fX9_say_31
  exact tq_vret rfl dX9_say_31
noncomputable def fX9_say_0  (v0 : Option Nat) (v1 : Int32) (h : AH) : Option (Unit × AH) := cGI h 9 455 v0 fun x1 => if (nI 8000) ≤ x1 then (fX9_say_31 h) else (cGR h 9 454 v0 fun x2 => cGI h 9 455 v0 fun x3 => cAS h 1 x2 x3 (Int8.toInt32 (Int32.toInt8 v1)) fun h4 => cGI h4 9 455 v0 fun x5 => cPI h4 9 455 v0 (x5 + (nI 1)) fun h6 => fX9_say_31 h6)
theorem tX9_say_0 (G : sr_G) (v0 : Option Nat) (v1 : Int32) (h : AH) : sr_T (X := Unit) G 0 RX9 cX9_say 2 none false (sr_M G jV) 0 [(0, vR v0), (1, vI v1)] [] h (fX9_say_0  v0 v1 h) := by
  unfold fX9_say_0
  refine tq_aload_n 0 0 dX9_say_0 rfl rfl ?_
  refine tq_getI 5 dX9_say_1 cfX9 (by decide) wd_877 rfl rfl (fun x1 => ?_)
  refine tq_sipush (nI 8000) dX9_say_4 (by decide) ?_
  refine tq_icmp_ge 31 dX9_say_7 (by decide) (fun _ => ?_) (fun _ => ?_)
  · exact tq_sub [] rfl (tX9_say_31 G h)
  · refine tq_aload_n 0 0 dX9_say_10 rfl rfl ?_
    refine tq_getR 4 dX9_say_11 cfX9 (by decide) wd_876 rfl rfl (fun x2 => ?_)
    refine tq_aload_n 0 0 dX9_say_14 rfl rfl ?_
    refine tq_getI 5 dX9_say_15 cfX9 (by decide) wd_877 rfl rfl (fun x3 => ?_)
    refine tq_iload_n 1 1 dX9_say_18 rfl rfl ?_
    refine tq_i2b dX9_say_19 ?_
    refine tq_bast dX9_say_20 (fun h4 => ?_)
    refine tq_aload_n 0 0 dX9_say_21 rfl rfl ?_
    refine tq_dupR dX9_say_22 ?_
    refine tq_getI 5 dX9_say_23 cfX9 (by decide) wd_877 rfl rfl (fun x5 => ?_)
    refine tq_iconst (nI 1) dX9_say_26 (by decide) ?_
    refine tq_iadd dX9_say_27 ?_
    refine tq_putI 5 dX9_say_28 cfX9 (by decide) wd_877 rfl rfl (Or.inl rfl) (fun h6 => ?_)
    exact tq_sub [] rfl (tX9_say_31 G h6)
noncomputable def fX9_say (v0 : Option Nat) (v1 : Int32) (h : AH) : Option (Unit × AH) := fX9_say_0 v0 v1 h
theorem eX9_say (G : sr_G) (v0 : Option Nat) (v1 : Int32) (h : AH) : sr_E G 0 yX9_say cX9_say 2 none jV [vR v0, vI v1] h (fX9_say v0 v1 h) := sr_E.of (own := RX9) (ini := false) (by decide) rfl (fun q => by first | rfl | cases q) rfl (Nat.le_of_ble_eq_true rfl) (tX9_say_0 G v0 v1 h)
noncomputable def fX9_sayAll_25   (h : AH) : Option (Unit × AH) := some ((), h)
theorem tX9_sayAll_25 (G : sr_G)  (h : AH) : sr_T (X := Unit) G 1 RX9 cX9_sayAll 5 none false (sr_M G jV) 25 [] [] h (fX9_sayAll_25  h) := by
  unfold fX9_sayAll_25
  exact tq_vret rfl dX9_sayAll_25
noncomputable def fX9_sayAll_3  : Nat → Option Nat → Option Nat → Int32 → Int32 → Int32 → AH → Option (Unit × AH)
  | 0, _, _, _, _, _, _ => none
  | n + 1, v0, v1, v2, v3, v4, h => if v3 ≤ v4 then (fX9_sayAll_25 h) else (cAL h 1 v1 (v2 + v4) fun x1 => cCV h 9 v0 (fX9_say v0 x1 h) fun _ h2 => fX9_sayAll_3 n v0 v1 v2 v3 (v4 + (nI 1)) h2)
theorem tX9_sayAll_3 (G : sr_G) : ∀ (n : Nat) (v0 : Option Nat) (v1 : Option Nat) (v2 : Int32) (v3 : Int32) (v4 : Int32) (h : AH), sr_T (X := Unit) G 1 RX9 cX9_sayAll 5 none false (sr_M G jV) 3 [(0, vR v0), (1, vR v1), (2, vI v2), (3, vI v3), (4, vI v4)] [] h (fX9_sayAll_3  n v0 v1 v2 v3 v4 h) := by
  intro n
  induction n with
  | zero => intro v0 v1 v2 v3 v4 h; exact tq_none
  | succ n ih =>
    intro v0 v1 v2 v3 v4 h
    unfold fX9_sayAll_3
    refine tq_iload 4 dX9_sayAll_3 rfl ?_
    refine tq_iload_n 3 3 dX9_sayAll_5 rfl rfl ?_
    refine tq_icmp_ge 25 dX9_sayAll_6 (by decide) (fun _ => ?_) (fun _ => ?_)
    · exact tq_sub [] rfl (tX9_sayAll_25 G h)
    · refine tq_aload_n 0 0 dX9_sayAll_9 rfl rfl ?_
      refine tq_aload_n 1 1 dX9_sayAll_10 rfl rfl ?_
      refine tq_iload_n 2 2 dX9_sayAll_11 rfl rfl ?_
      refine tq_iload 4 dX9_sayAll_12 rfl ?_
      refine tq_iadd dX9_sayAll_14 ?_
      refine tq_bald dX9_sayAll_15 (fun x1 => ?_)
      refine tq_cVV [vI x1] [] dX9_sayAll_16 (eX9_say G v0 x1 h) (by decide) mbX9_say cfX9 rfl wd_827 wd_829 wd_39 rfl rfl (Nat.le_of_ble_eq_true rfl) (fun _ h2 => ?_)
      refine tq_iinc 4 (nI 1) (L' := [(4, vI (v4 + (nI 1))), (0, vR v0), (1, vR v1), (2, vI v2), (3, vI v3)]) dX9_sayAll_19 rfl (by decide) (by decide) rfl ?_
      refine tq_goto 3 dX9_sayAll_22 (by decide) ?_
      exact tq_sub [1, 2, 3, 4, 0] rfl (ih v0 v1 v2 v3 (v4 + (nI 1)) h2)
noncomputable def fX9_sayAll_0  (v0 : Option Nat) (v1 : Option Nat) (v2 : Int32) (v3 : Int32) (h : AH) : Option (Unit × AH) := fX9_sayAll_3 FU v0 v1 v2 v3 (nI 0) h
theorem tX9_sayAll_0 (G : sr_G) (v0 : Option Nat) (v1 : Option Nat) (v2 : Int32) (v3 : Int32) (h : AH) : sr_T (X := Unit) G 1 RX9 cX9_sayAll 5 none false (sr_M G jV) 0 [(0, vR v0), (1, vR v1), (2, vI v2), (3, vI v3)] [] h (fX9_sayAll_0  v0 v1 v2 v3 h) := by
  unfold fX9_sayAll_0
  refine tq_iconst (nI 0) dX9_sayAll_0 (by decide) ?_
  refine tq_istore (L' := [(4, vI (nI 0)), (0, vR v0), (1, vR v1), (2, vI v2), (3, vI v3)]) dX9_sayAll_1 (by decide) rfl ?_
  exact tq_sub [1, 2, 3, 4, 0] rfl (tX9_sayAll_3 G FU v0 v1 v2 v3 (nI 0) h)
noncomputable def fX9_sayAll (v0 : Option Nat) (v1 : Option Nat) (v2 : Int32) (v3 : Int32) (h : AH) : Option (Unit × AH) := fX9_sayAll_0 v0 v1 v2 v3 h
theorem eX9_sayAll (G : sr_G) (v0 : Option Nat) (v1 : Option Nat) (v2 : Int32) (v3 : Int32) (h : AH) : sr_E G 1 yX9_sayAll cX9_sayAll 5 none jV [vR v0, vR v1, vI v2, vI v3] h (fX9_sayAll v0 v1 v2 v3 h) := sr_E.of (own := RX9) (ini := false) (by decide) rfl (fun q => by first | rfl | cases q) rfl (Nat.le_of_ble_eq_true rfl) (tX9_sayAll_0 G v0 v1 v2 v3 h)
noncomputable def fX9_take_84   (h : AH) : Option (Int32 × AH) := some ((-1), h)
theorem tX9_take_84 (G : sr_G)  (h : AH) : sr_T (X := Int32) G 0 RX9 cX9_take 3 (some .int) false (sr_M G jI) 84 [] [] h (fX9_take_84  h) := by
  unfold fX9_take_84
  refine tq_iconst (-1) dX9_take_84 (by decide) ?_
  exact tq_iret rfl dX9_take_85
noncomputable def fX9_take_78 (r43 : Option Nat → Int32 → AH → Option (Int32 × AH)) (v0 : Option Nat) (v1 : Int32) (h : AH) : Option (Int32 × AH) := r43 v0 (v1 + (nI 1)) h
theorem tX9_take_78 (G : sr_G) {r43 : Option Nat → Int32 → AH → Option (Int32 × AH)} (hr43 : ∀ (v0 : Option Nat) (v1 : Int32) (h : AH), sr_T (X := Int32) G 0 RX9 cX9_take 3 (some .int) false (sr_M G jI) 43 [(0, vR v0), (1, vI v1)] [] h (r43 v0 v1 h)) (v0 : Option Nat) (v1 : Int32) (h : AH) : sr_T (X := Int32) G 0 RX9 cX9_take 3 (some .int) false (sr_M G jI) 78 [(0, vR v0), (1, vI v1)] [] h (fX9_take_78 r43 v0 v1 h) := by
  unfold fX9_take_78
  refine tq_iinc 1 (nI 1) (L' := [(1, vI (v1 + (nI 1))), (0, vR v0)]) dX9_take_78 rfl (by decide) (by decide) rfl ?_
  refine tq_goto 43 dX9_take_81 (by decide) ?_
  exact tq_sub [1, 0] rfl (hr43 v0 (v1 + (nI 1)) h)
noncomputable def fX9_take_76  (v1 : Int32) (h : AH) : Option (Int32 × AH) := some (v1, h)
theorem tX9_take_76 (G : sr_G) (v1 : Int32) (h : AH) : sr_T (X := Int32) G 0 RX9 cX9_take 3 (some .int) false (sr_M G jI) 76 [(1, vI v1)] [] h (fX9_take_76  v1 h) := by
  unfold fX9_take_76
  refine tq_iload_n 1 0 dX9_take_76 rfl rfl ?_
  exact tq_iret rfl dX9_take_77
noncomputable def fX9_take_43  : Nat → Option Nat → Int32 → AH → Option (Int32 × AH)
  | 0, _, _, _ => none
  | n + 1, v0, v1, h => cGI h 9 453 v0 fun x1 => if x1 ≤ v1 then (fX9_take_84 h) else (cGR h 9 452 v0 fun x2 => cAL h 1 x2 v1 fun x3 => if x3 = (nI 10) then (fX9_take_78 (fX9_take_43 n) v0 v1 h) else (if x3 < (nI 32) then (fX9_take_76 v1 h) else (if x3 ≤ (nI 126) then (fX9_take_78 (fX9_take_43 n) v0 v1 h) else (fX9_take_76 v1 h))))
theorem tX9_take_43 (G : sr_G) : ∀ (n : Nat) (v0 : Option Nat) (v1 : Int32) (h : AH), sr_T (X := Int32) G 0 RX9 cX9_take 3 (some .int) false (sr_M G jI) 43 [(0, vR v0), (1, vI v1)] [] h (fX9_take_43  n v0 v1 h) := by
  intro n
  induction n with
  | zero => intro v0 v1 h; exact tq_none
  | succ n ih =>
    intro v0 v1 h
    unfold fX9_take_43
    refine tq_iload_n 1 1 dX9_take_43 rfl rfl ?_
    refine tq_aload_n 0 0 dX9_take_44 rfl rfl ?_
    refine tq_getI 3 dX9_take_45 cfX9 (by decide) wd_875 rfl rfl (fun x1 => ?_)
    refine tq_icmp_ge 84 dX9_take_48 (by decide) (fun _ => ?_) (fun _ => ?_)
    · exact tq_sub [] rfl (tX9_take_84 G h)
    · refine tq_aload_n 0 0 dX9_take_51 rfl rfl ?_
      refine tq_getR 2 dX9_take_52 cfX9 (by decide) wd_874 rfl rfl (fun x2 => ?_)
      refine tq_iload_n 1 1 dX9_take_55 rfl rfl ?_
      refine tq_bald dX9_take_56 (fun x3 => ?_)
      refine tq_istore_n 2 (L' := [(2, vI x3), (0, vR v0), (1, vI v1)]) dX9_take_57 rfl (by decide) rfl ?_
      refine tq_iload_n 2 0 dX9_take_58 rfl rfl ?_
      refine tq_bipush (nI 10) dX9_take_59 (by decide) ?_
      refine tq_icmp_eq 78 dX9_take_61 (by decide) (fun _ => ?_) (fun _ => ?_)
      · exact tq_sub [1, 2] rfl (tX9_take_78 G ih v0 v1 h)
      · refine tq_iload_n 2 0 dX9_take_64 rfl rfl ?_
        refine tq_bipush (nI 32) dX9_take_65 (by decide) ?_
        refine tq_icmp_lt 76 dX9_take_67 (by decide) (fun _ => ?_) (fun _ => ?_)
        · exact tq_sub [2] rfl (tX9_take_76 G v1 h)
        · refine tq_iload_n 2 0 dX9_take_70 rfl rfl ?_
          refine tq_bipush (nI 126) dX9_take_71 (by decide) ?_
          refine tq_icmp_le 78 dX9_take_73 (by decide) (fun _ => ?_) (fun _ => ?_)
          · exact tq_sub [1, 2] rfl (tX9_take_78 G ih v0 v1 h)
          · exact tq_sub [2] rfl (tX9_take_76 G v1 h)
noncomputable def fX9_take_36  (v0 : Option Nat) (h : AH) : Option (Int32 × AH) := cPI h 9 451 v0 (nI 0) fun h1 => fX9_take_43 FU v0 (nI 0) h1
theorem tX9_take_36 (G : sr_G) (v0 : Option Nat) (h : AH) : sr_T (X := Int32) G 0 RX9 cX9_take 3 (some .int) false (sr_M G jI) 36 [(0, vR v0)] [] h (fX9_take_36  v0 h) := by
  unfold fX9_take_36
  refine tq_aload_n 0 0 dX9_take_36 rfl rfl ?_
  refine tq_iconst (nI 0) dX9_take_37 (by decide) ?_
  refine tq_putI 1 dX9_take_38 cfX9 (by decide) wd_873 rfl rfl (Or.inl rfl) (fun h1 => ?_)
  refine tq_iconst (nI 0) dX9_take_41 (by decide) ?_
  refine tq_istore_n 1 (L' := [(1, vI (nI 0)), (0, vR v0)]) dX9_take_42 rfl (by decide) rfl ?_
  exact tq_sub [1, 0] rfl (tX9_take_43 G FU v0 (nI 0) h1)
noncomputable def fX9_take_10  : Nat → Option Nat → Int32 → AH → Option (Int32 × AH)
  | 0, _, _, _ => none
  | n + 1, v0, v1, h => cGI h 9 453 v0 fun x1 => if x1 ≤ v1 then (fX9_take_36 v0 h) else (cGR h 9 452 v0 fun x2 => cGR h 9 450 v0 fun x3 => cAL h 1 x3 v1 fun x4 => cAS h 1 x2 v1 x4 fun h5 => fX9_take_10 n v0 (v1 + (nI 1)) h5)
theorem tX9_take_10 (G : sr_G) : ∀ (n : Nat) (v0 : Option Nat) (v1 : Int32) (h : AH), sr_T (X := Int32) G 0 RX9 cX9_take 3 (some .int) false (sr_M G jI) 10 [(0, vR v0), (1, vI v1)] [] h (fX9_take_10  n v0 v1 h) := by
  intro n
  induction n with
  | zero => intro v0 v1 h; exact tq_none
  | succ n ih =>
    intro v0 v1 h
    unfold fX9_take_10
    refine tq_iload_n 1 1 dX9_take_10 rfl rfl ?_
    refine tq_aload_n 0 0 dX9_take_11 rfl rfl ?_
    refine tq_getI 3 dX9_take_12 cfX9 (by decide) wd_875 rfl rfl (fun x1 => ?_)
    refine tq_icmp_ge 36 dX9_take_15 (by decide) (fun _ => ?_) (fun _ => ?_)
    · exact tq_sub [0] rfl (tX9_take_36 G v0 h)
    · refine tq_aload_n 0 0 dX9_take_18 rfl rfl ?_
      refine tq_getR 2 dX9_take_19 cfX9 (by decide) wd_874 rfl rfl (fun x2 => ?_)
      refine tq_iload_n 1 1 dX9_take_22 rfl rfl ?_
      refine tq_aload_n 0 0 dX9_take_23 rfl rfl ?_
      refine tq_getR 0 dX9_take_24 cfX9 (by decide) wd_872 rfl rfl (fun x3 => ?_)
      refine tq_iload_n 1 1 dX9_take_27 rfl rfl ?_
      refine tq_bald dX9_take_28 (fun x4 => ?_)
      refine tq_bast dX9_take_29 (fun h5 => ?_)
      refine tq_iinc 1 (nI 1) (L' := [(1, vI (v1 + (nI 1))), (0, vR v0)]) dX9_take_30 rfl (by decide) (by decide) rfl ?_
      refine tq_goto 10 dX9_take_33 (by decide) ?_
      exact tq_sub [1, 0] rfl (ih v0 (v1 + (nI 1)) h5)
noncomputable def fX9_take_0  (v0 : Option Nat) (h : AH) : Option (Int32 × AH) := cGI h 9 451 v0 fun x1 => cPI h 9 453 v0 x1 fun h2 => fX9_take_10 FU v0 (nI 0) h2
theorem tX9_take_0 (G : sr_G) (v0 : Option Nat) (h : AH) : sr_T (X := Int32) G 0 RX9 cX9_take 3 (some .int) false (sr_M G jI) 0 [(0, vR v0)] [] h (fX9_take_0  v0 h) := by
  unfold fX9_take_0
  refine tq_aload_n 0 0 dX9_take_0 rfl rfl ?_
  refine tq_aload_n 0 0 dX9_take_1 rfl rfl ?_
  refine tq_getI 1 dX9_take_2 cfX9 (by decide) wd_873 rfl rfl (fun x1 => ?_)
  refine tq_putI 3 dX9_take_5 cfX9 (by decide) wd_875 rfl rfl (Or.inl rfl) (fun h2 => ?_)
  refine tq_iconst (nI 0) dX9_take_8 (by decide) ?_
  refine tq_istore_n 1 (L' := [(1, vI (nI 0)), (0, vR v0)]) dX9_take_9 rfl (by decide) rfl ?_
  exact tq_sub [1, 0] rfl (tX9_take_10 G FU v0 (nI 0) h2)
noncomputable def fX9_take (v0 : Option Nat) (h : AH) : Option (Int32 × AH) := fX9_take_0 v0 h
theorem eX9_take (G : sr_G) (v0 : Option Nat) (h : AH) : sr_E G 0 yX9_take cX9_take 3 (some .int) jI [vR v0] h (fX9_take v0 h) := sr_E.of (own := RX9) (ini := false) (by decide) rfl (fun q => by first | rfl | cases q) rfl (Nat.le_of_ble_eq_true rfl) (tX9_take_0 G v0 h)
noncomputable def fX9_wrong_0  (v0 : Int32) (h : AH) : Option (Int32 × AH) := some (((-1000) - v0), h)
theorem tX9_wrong_0 (G : sr_G) (v0 : Int32) (h : AH) : sr_T (X := Int32) G 0 RX9 cX9_wrong 1 (some .int) false (sr_M G jI) 0 [(0, vI v0)] [] h (fX9_wrong_0  v0 h) := by
  unfold fX9_wrong_0
  refine tq_sipush (-1000) dX9_wrong_0 (by decide) ?_
  refine tq_iload_n 0 0 dX9_wrong_3 rfl rfl ?_
  refine tq_isub dX9_wrong_4 ?_
  exact tq_iret rfl dX9_wrong_5
noncomputable def fX9_wrong (v0 : Int32) (h : AH) : Option (Int32 × AH) := fX9_wrong_0 v0 h
theorem eX9_wrong (G : sr_G) (v0 : Int32) (h : AH) : sr_E G 0 yX9_wrong cX9_wrong 1 (some .int) jI [vI v0] h (fX9_wrong v0 h) := sr_E.of (own := RX9) (ini := false) (by decide) rfl (fun q => by first | rfl | cases q) rfl (Nat.le_of_ble_eq_true rfl) (tX9_wrong_0 G v0 h)
noncomputable def fX9_isSmall_17  (s0 : Int32) (h : AH) : Option (Int32 × AH) := cZ s0 (some (s0, h))
theorem tX9_isSmall_17 (G : sr_G) (s0 : Int32) (h : AH) : sr_T (X := Int32) G 0 RX9 cX9_isSmall 1 (some .boolean) false (sr_M G jI) 17 [] [vI s0] h (fX9_isSmall_17  s0 h) := by
  unfold fX9_isSmall_17
  exact tq_zret rfl dX9_isSmall_17
noncomputable def fX9_isSmall_16   (h : AH) : Option (Int32 × AH) := fX9_isSmall_17 (nI 0) h
theorem tX9_isSmall_16 (G : sr_G)  (h : AH) : sr_T (X := Int32) G 0 RX9 cX9_isSmall 1 (some .boolean) false (sr_M G jI) 16 [] [] h (fX9_isSmall_16  h) := by
  unfold fX9_isSmall_16
  refine tq_iconst (nI 0) dX9_isSmall_16 (by decide) ?_
  exact tX9_isSmall_17 G (nI 0) h
noncomputable def fX9_isSmall_0  (v0 : Int32) (h : AH) : Option (Int32 × AH) := if v0 < (nI 97) then (fX9_isSmall_16 h) else (if (nI 122) < v0 then (fX9_isSmall_16 h) else (fX9_isSmall_17 (nI 1) h))
theorem tX9_isSmall_0 (G : sr_G) (v0 : Int32) (h : AH) : sr_T (X := Int32) G 0 RX9 cX9_isSmall 1 (some .boolean) false (sr_M G jI) 0 [(0, vI v0)] [] h (fX9_isSmall_0  v0 h) := by
  unfold fX9_isSmall_0
  refine tq_iload_n 0 0 dX9_isSmall_0 rfl rfl ?_
  refine tq_bipush (nI 97) dX9_isSmall_1 (by decide) ?_
  refine tq_icmp_lt 16 dX9_isSmall_3 (by decide) (fun _ => ?_) (fun _ => ?_)
  · exact tq_sub [] rfl (tX9_isSmall_16 G h)
  · refine tq_iload_n 0 0 dX9_isSmall_6 rfl rfl ?_
    refine tq_bipush (nI 122) dX9_isSmall_7 (by decide) ?_
    refine tq_icmp_gt 16 dX9_isSmall_9 (by decide) (fun _ => ?_) (fun _ => ?_)
    · exact tq_sub [] rfl (tX9_isSmall_16 G h)
    · refine tq_iconst (nI 1) dX9_isSmall_12 (by decide) ?_
      refine tq_goto 17 dX9_isSmall_13 (by decide) ?_
      exact tq_sub [] rfl (tX9_isSmall_17 G (nI 1) h)
noncomputable def fX9_isSmall (v0 : Int32) (h : AH) : Option (Int32 × AH) := fX9_isSmall_0 v0 h
theorem eX9_isSmall (G : sr_G) (v0 : Int32) (h : AH) : sr_E G 0 yX9_isSmall cX9_isSmall 1 (some .boolean) jI [vI v0] h (fX9_isSmall v0 h) := sr_E.of (own := RX9) (ini := false) (by decide) rfl (fun q => by first | rfl | cases q) rfl (Nat.le_of_ble_eq_true rfl) (tX9_isSmall_0 G v0 h)
noncomputable def fX9_isDigit_17  (s0 : Int32) (h : AH) : Option (Int32 × AH) := cZ s0 (some (s0, h))
theorem tX9_isDigit_17 (G : sr_G) (s0 : Int32) (h : AH) : sr_T (X := Int32) G 0 RX9 cX9_isDigit 1 (some .boolean) false (sr_M G jI) 17 [] [vI s0] h (fX9_isDigit_17  s0 h) := by
  unfold fX9_isDigit_17
  exact tq_zret rfl dX9_isDigit_17
noncomputable def fX9_isDigit_16   (h : AH) : Option (Int32 × AH) := fX9_isDigit_17 (nI 0) h
theorem tX9_isDigit_16 (G : sr_G)  (h : AH) : sr_T (X := Int32) G 0 RX9 cX9_isDigit 1 (some .boolean) false (sr_M G jI) 16 [] [] h (fX9_isDigit_16  h) := by
  unfold fX9_isDigit_16
  refine tq_iconst (nI 0) dX9_isDigit_16 (by decide) ?_
  exact tX9_isDigit_17 G (nI 0) h
noncomputable def fX9_isDigit_0  (v0 : Int32) (h : AH) : Option (Int32 × AH) := if v0 < (nI 48) then (fX9_isDigit_16 h) else (if (nI 57) < v0 then (fX9_isDigit_16 h) else (fX9_isDigit_17 (nI 1) h))
theorem tX9_isDigit_0 (G : sr_G) (v0 : Int32) (h : AH) : sr_T (X := Int32) G 0 RX9 cX9_isDigit 1 (some .boolean) false (sr_M G jI) 0 [(0, vI v0)] [] h (fX9_isDigit_0  v0 h) := by
  unfold fX9_isDigit_0
  refine tq_iload_n 0 0 dX9_isDigit_0 rfl rfl ?_
  refine tq_bipush (nI 48) dX9_isDigit_1 (by decide) ?_
  refine tq_icmp_lt 16 dX9_isDigit_3 (by decide) (fun _ => ?_) (fun _ => ?_)
  · exact tq_sub [] rfl (tX9_isDigit_16 G h)
  · refine tq_iload_n 0 0 dX9_isDigit_6 rfl rfl ?_
    refine tq_bipush (nI 57) dX9_isDigit_7 (by decide) ?_
    refine tq_icmp_gt 16 dX9_isDigit_9 (by decide) (fun _ => ?_) (fun _ => ?_)
    · exact tq_sub [] rfl (tX9_isDigit_16 G h)
    · refine tq_iconst (nI 1) dX9_isDigit_12 (by decide) ?_
      refine tq_goto 17 dX9_isDigit_13 (by decide) ?_
      exact tq_sub [] rfl (tX9_isDigit_17 G (nI 1) h)
noncomputable def fX9_isDigit (v0 : Int32) (h : AH) : Option (Int32 × AH) := fX9_isDigit_0 v0 h
theorem eX9_isDigit (G : sr_G) (v0 : Int32) (h : AH) : sr_E G 0 yX9_isDigit cX9_isDigit 1 (some .boolean) jI [vI v0] h (fX9_isDigit v0 h) := sr_E.of (own := RX9) (ini := false) (by decide) rfl (fun q => by first | rfl | cases q) rfl (Nat.le_of_ble_eq_true rfl) (tX9_isDigit_0 G v0 h)
noncomputable def fX9_isLetter_24  (s0 : Int32) (h : AH) : Option (Int32 × AH) := cZ s0 (some (s0, h))
theorem tX9_isLetter_24 (G : sr_G) (s0 : Int32) (h : AH) : sr_T (X := Int32) G 1 RX9 cX9_isLetter 1 (some .boolean) false (sr_M G jI) 24 [] [vI s0] h (fX9_isLetter_24  s0 h) := by
  unfold fX9_isLetter_24
  exact tq_zret rfl dX9_isLetter_24
noncomputable def fX9_isLetter_19   (h : AH) : Option (Int32 × AH) := fX9_isLetter_24 (nI 1) h
theorem tX9_isLetter_19 (G : sr_G)  (h : AH) : sr_T (X := Int32) G 1 RX9 cX9_isLetter 1 (some .boolean) false (sr_M G jI) 19 [] [] h (fX9_isLetter_19  h) := by
  unfold fX9_isLetter_19
  refine tq_iconst (nI 1) dX9_isLetter_19 (by decide) ?_
  refine tq_goto 24 dX9_isLetter_20 (by decide) ?_
  exact tX9_isLetter_24 G (nI 1) h
noncomputable def fX9_isLetter_23   (h : AH) : Option (Int32 × AH) := fX9_isLetter_24 (nI 0) h
theorem tX9_isLetter_23 (G : sr_G)  (h : AH) : sr_T (X := Int32) G 1 RX9 cX9_isLetter 1 (some .boolean) false (sr_M G jI) 23 [] [] h (fX9_isLetter_23  h) := by
  unfold fX9_isLetter_23
  refine tq_iconst (nI 0) dX9_isLetter_23 (by decide) ?_
  exact tX9_isLetter_24 G (nI 0) h
noncomputable def fX9_isLetter_0  (v0 : Int32) (h : AH) : Option (Int32 × AH) := cCL (fX9_isSmall v0 h) fun x2 h1 => if x2 = 0 then (if v0 < (nI 65) then (fX9_isLetter_23 h1) else (if (nI 90) < v0 then (fX9_isLetter_23 h1) else (fX9_isLetter_19 h1))) else (fX9_isLetter_19 h1)
theorem tX9_isLetter_0 (G : sr_G) (v0 : Int32) (h : AH) : sr_T (X := Int32) G 1 RX9 cX9_isLetter 1 (some .boolean) false (sr_M G jI) 0 [(0, vI v0)] [] h (fX9_isLetter_0  v0 h) := by
  unfold fX9_isLetter_0
  refine tq_iload_n 0 0 dX9_isLetter_0 rfl rfl ?_
  refine tq_cSI [vI v0] [] dX9_isLetter_1 (eX9_isSmall G v0 h) (by decide) mbX9_isSmall wd_1088 wd_1089 rfl rfl (Nat.le_of_ble_eq_true rfl) (fun x2 h1 => ?_)
  refine tq_if_ne 19 dX9_isLetter_4 (by decide) (fun _ => ?_) (fun _ => ?_)
  · exact tq_sub [] rfl (tX9_isLetter_19 G h1)
  · refine tq_iload_n 0 0 dX9_isLetter_7 rfl rfl ?_
    refine tq_bipush (nI 65) dX9_isLetter_8 (by decide) ?_
    refine tq_icmp_lt 23 dX9_isLetter_10 (by decide) (fun _ => ?_) (fun _ => ?_)
    · exact tq_sub [] rfl (tX9_isLetter_23 G h1)
    · refine tq_iload_n 0 0 dX9_isLetter_13 rfl rfl ?_
      refine tq_bipush (nI 90) dX9_isLetter_14 (by decide) ?_
      refine tq_icmp_gt 23 dX9_isLetter_16 (by decide) (fun _ => ?_) (fun _ => ?_)
      · exact tq_sub [] rfl (tX9_isLetter_23 G h1)
      · exact tq_sub [] rfl (tX9_isLetter_19 G h1)
noncomputable def fX9_isLetter (v0 : Int32) (h : AH) : Option (Int32 × AH) := fX9_isLetter_0 v0 h
theorem eX9_isLetter (G : sr_G) (v0 : Int32) (h : AH) : sr_E G 1 yX9_isLetter cX9_isLetter 1 (some .boolean) jI [vI v0] h (fX9_isLetter v0 h) := sr_E.of (own := RX9) (ini := false) (by decide) rfl (fun q => by first | rfl | cases q) rfl (Nat.le_of_ble_eq_true rfl) (tX9_isLetter_0 G v0 h)
noncomputable def fX9_small_20  (s0 : Int32) (h : AH) : Option (Int32 × AH) := some (s0, h)
theorem tX9_small_20 (G : sr_G) (s0 : Int32) (h : AH) : sr_T (X := Int32) G 0 RX9 cX9_small 1 (some .int) false (sr_M G jI) 20 [] [vI s0] h (fX9_small_20  s0 h) := by
  unfold fX9_small_20
  exact tq_iret rfl dX9_small_20
noncomputable def fX9_small_19  (v0 : Int32) (h : AH) : Option (Int32 × AH) := fX9_small_20 v0 h
theorem tX9_small_19 (G : sr_G) (v0 : Int32) (h : AH) : sr_T (X := Int32) G 0 RX9 cX9_small 1 (some .int) false (sr_M G jI) 19 [(0, vI v0)] [] h (fX9_small_19  v0 h) := by
  unfold fX9_small_19
  refine tq_iload_n 0 0 dX9_small_19 rfl rfl ?_
  exact tq_sub [] rfl (tX9_small_20 G v0 h)
noncomputable def fX9_small_0  (v0 : Int32) (h : AH) : Option (Int32 × AH) := if v0 < (nI 65) then (fX9_small_19 v0 h) else (if (nI 90) < v0 then (fX9_small_19 v0 h) else (fX9_small_20 (v0 + (nI 32)) h))
theorem tX9_small_0 (G : sr_G) (v0 : Int32) (h : AH) : sr_T (X := Int32) G 0 RX9 cX9_small 1 (some .int) false (sr_M G jI) 0 [(0, vI v0)] [] h (fX9_small_0  v0 h) := by
  unfold fX9_small_0
  refine tq_iload_n 0 0 dX9_small_0 rfl rfl ?_
  refine tq_bipush (nI 65) dX9_small_1 (by decide) ?_
  refine tq_icmp_lt 19 dX9_small_3 (by decide) (fun _ => ?_) (fun _ => ?_)
  · exact tX9_small_19 G v0 h
  · refine tq_iload_n 0 0 dX9_small_6 rfl rfl ?_
    refine tq_bipush (nI 90) dX9_small_7 (by decide) ?_
    refine tq_icmp_gt 19 dX9_small_9 (by decide) (fun _ => ?_) (fun _ => ?_)
    · exact tX9_small_19 G v0 h
    · refine tq_iload_n 0 0 dX9_small_12 rfl rfl ?_
      refine tq_bipush (nI 32) dX9_small_13 (by decide) ?_
      refine tq_iadd dX9_small_15 ?_
      refine tq_goto 20 dX9_small_16 (by decide) ?_
      exact tq_sub [] rfl (tX9_small_20 G (v0 + (nI 32)) h)
noncomputable def fX9_small (v0 : Int32) (h : AH) : Option (Int32 × AH) := fX9_small_0 v0 h
theorem eX9_small (G : sr_G) (v0 : Int32) (h : AH) : sr_E G 0 yX9_small cX9_small 1 (some .int) jI [vI v0] h (fX9_small v0 h) := sr_E.of (own := RX9) (ini := false) (by decide) rfl (fun q => by first | rfl | cases q) rfl (Nat.le_of_ble_eq_true rfl) (tX9_small_0 G v0 h)
noncomputable def fX9_isBlank_17  (s0 : Int32) (h : AH) : Option (Int32 × AH) := cZ s0 (some (s0, h))
theorem tX9_isBlank_17 (G : sr_G) (s0 : Int32) (h : AH) : sr_T (X := Int32) G 0 RX9 cX9_isBlank 1 (some .boolean) false (sr_M G jI) 17 [] [vI s0] h (fX9_isBlank_17  s0 h) := by
  unfold fX9_isBlank_17
  exact tq_zret rfl dX9_isBlank_17
noncomputable def fX9_isBlank_12   (h : AH) : Option (Int32 × AH) := fX9_isBlank_17 (nI 1) h
theorem tX9_isBlank_12 (G : sr_G)  (h : AH) : sr_T (X := Int32) G 0 RX9 cX9_isBlank 1 (some .boolean) false (sr_M G jI) 12 [] [] h (fX9_isBlank_12  h) := by
  unfold fX9_isBlank_12
  refine tq_iconst (nI 1) dX9_isBlank_12 (by decide) ?_
  refine tq_goto 17 dX9_isBlank_13 (by decide) ?_
  exact tX9_isBlank_17 G (nI 1) h
noncomputable def fX9_isBlank_0  (v0 : Int32) (h : AH) : Option (Int32 × AH) := if v0 = (nI 10) then (fX9_isBlank_12 h) else (if v0 = (nI 32) then (fX9_isBlank_12 h) else (fX9_isBlank_17 (nI 0) h))
theorem tX9_isBlank_0 (G : sr_G) (v0 : Int32) (h : AH) : sr_T (X := Int32) G 0 RX9 cX9_isBlank 1 (some .boolean) false (sr_M G jI) 0 [(0, vI v0)] [] h (fX9_isBlank_0  v0 h) := by
  unfold fX9_isBlank_0
  refine tq_iload_n 0 0 dX9_isBlank_0 rfl rfl ?_
  refine tq_bipush (nI 10) dX9_isBlank_1 (by decide) ?_
  refine tq_icmp_eq 12 dX9_isBlank_3 (by decide) (fun _ => ?_) (fun _ => ?_)
  · exact tq_sub [] rfl (tX9_isBlank_12 G h)
  · refine tq_iload_n 0 0 dX9_isBlank_6 rfl rfl ?_
    refine tq_bipush (nI 32) dX9_isBlank_7 (by decide) ?_
    refine tq_icmp_ne 16 dX9_isBlank_9 (by decide) (fun _ => ?_) (fun _ => ?_)
    · refine tq_iconst (nI 0) dX9_isBlank_16 (by decide) ?_
      exact tq_sub [] rfl (tX9_isBlank_17 G (nI 0) h)
    · exact tq_sub [] rfl (tX9_isBlank_12 G h)
noncomputable def fX9_isBlank (v0 : Int32) (h : AH) : Option (Int32 × AH) := fX9_isBlank_0 v0 h
theorem eX9_isBlank (G : sr_G) (v0 : Int32) (h : AH) : sr_E G 0 yX9_isBlank cX9_isBlank 1 (some .boolean) jI [vI v0] h (fX9_isBlank v0 h) := sr_E.of (own := RX9) (ini := false) (by decide) rfl (fun q => by first | rfl | cases q) rfl (Nat.le_of_ble_eq_true rfl) (tX9_isBlank_0 G v0 h)
noncomputable def fX9_same_33   (h : AH) : Option (Int32 × AH) := cZ (nI 1) (some ((nI 1), h))
theorem tX9_same_33 (G : sr_G)  (h : AH) : sr_T (X := Int32) G 0 RX9 cX9_same 6 (some .boolean) false (sr_M G jI) 33 [] [] h (fX9_same_33  h) := by
  unfold fX9_same_33
  refine tq_iconst (nI 1) dX9_same_33 (by decide) ?_
  exact tq_zret rfl dX9_same_34
noncomputable def fX9_same_25   (h : AH) : Option (Int32 × AH) := cZ (nI 0) (some ((nI 0), h))
theorem tX9_same_25 (G : sr_G)  (h : AH) : sr_T (X := Int32) G 0 RX9 cX9_same 6 (some .boolean) false (sr_M G jI) 25 [] [] h (fX9_same_25  h) := by
  unfold fX9_same_25
  refine tq_iconst (nI 0) dX9_same_25 (by decide) ?_
  exact tq_zret rfl dX9_same_26
noncomputable def fX9_same_3  : Nat → Option Nat → Int32 → Option Nat → Int32 → Int32 → Int32 → AH → Option (Int32 × AH)
  | 0, _, _, _, _, _, _, _ => none
  | n + 1, v0, v1, v2, v3, v4, v5, h => if v4 ≤ v5 then (fX9_same_33 h) else (cAL h 1 v0 (v1 + v5) fun x1 => cAL h 1 v2 (v3 + v5) fun x2 => if x1 = x2 then (fX9_same_3 n v0 v1 v2 v3 v4 (v5 + (nI 1)) h) else (fX9_same_25 h))
theorem tX9_same_3 (G : sr_G) : ∀ (n : Nat) (v0 : Option Nat) (v1 : Int32) (v2 : Option Nat) (v3 : Int32) (v4 : Int32) (v5 : Int32) (h : AH), sr_T (X := Int32) G 0 RX9 cX9_same 6 (some .boolean) false (sr_M G jI) 3 [(0, vR v0), (1, vI v1), (2, vR v2), (3, vI v3), (4, vI v4), (5, vI v5)] [] h (fX9_same_3  n v0 v1 v2 v3 v4 v5 h) := by
  intro n
  induction n with
  | zero => intro v0 v1 v2 v3 v4 v5 h; exact tq_none
  | succ n ih =>
    intro v0 v1 v2 v3 v4 v5 h
    unfold fX9_same_3
    refine tq_iload 5 dX9_same_3 rfl ?_
    refine tq_iload 4 dX9_same_5 rfl ?_
    refine tq_icmp_ge 33 dX9_same_7 (by decide) (fun _ => ?_) (fun _ => ?_)
    · exact tq_sub [] rfl (tX9_same_33 G h)
    · refine tq_aload_n 0 0 dX9_same_10 rfl rfl ?_
      refine tq_iload_n 1 1 dX9_same_11 rfl rfl ?_
      refine tq_iload 5 dX9_same_12 rfl ?_
      refine tq_iadd dX9_same_14 ?_
      refine tq_bald dX9_same_15 (fun x1 => ?_)
      refine tq_aload_n 2 2 dX9_same_16 rfl rfl ?_
      refine tq_iload_n 3 3 dX9_same_17 rfl rfl ?_
      refine tq_iload 5 dX9_same_18 rfl ?_
      refine tq_iadd dX9_same_20 ?_
      refine tq_bald dX9_same_21 (fun x2 => ?_)
      refine tq_icmp_eq 27 dX9_same_22 (by decide) (fun _ => ?_) (fun _ => ?_)
      · refine tq_iinc 5 (nI 1) (L' := [(5, vI (v5 + (nI 1))), (0, vR v0), (1, vI v1), (2, vR v2), (3, vI v3), (4, vI v4)]) dX9_same_27 rfl (by decide) (by decide) rfl ?_
        refine tq_goto 3 dX9_same_30 (by decide) ?_
        exact tq_sub [1, 2, 3, 4, 5, 0] rfl (ih v0 v1 v2 v3 v4 (v5 + (nI 1)) h)
      · exact tq_sub [] rfl (tX9_same_25 G h)
noncomputable def fX9_same_0  (v0 : Option Nat) (v1 : Int32) (v2 : Option Nat) (v3 : Int32) (v4 : Int32) (h : AH) : Option (Int32 × AH) := fX9_same_3 FU v0 v1 v2 v3 v4 (nI 0) h
theorem tX9_same_0 (G : sr_G) (v0 : Option Nat) (v1 : Int32) (v2 : Option Nat) (v3 : Int32) (v4 : Int32) (h : AH) : sr_T (X := Int32) G 0 RX9 cX9_same 6 (some .boolean) false (sr_M G jI) 0 [(0, vR v0), (1, vI v1), (2, vR v2), (3, vI v3), (4, vI v4)] [] h (fX9_same_0  v0 v1 v2 v3 v4 h) := by
  unfold fX9_same_0
  refine tq_iconst (nI 0) dX9_same_0 (by decide) ?_
  refine tq_istore (L' := [(5, vI (nI 0)), (0, vR v0), (1, vI v1), (2, vR v2), (3, vI v3), (4, vI v4)]) dX9_same_1 (by decide) rfl ?_
  exact tq_sub [1, 2, 3, 4, 5, 0] rfl (tX9_same_3 G FU v0 v1 v2 v3 v4 (nI 0) h)
noncomputable def fX9_same (v0 : Option Nat) (v1 : Int32) (v2 : Option Nat) (v3 : Int32) (v4 : Int32) (h : AH) : Option (Int32 × AH) := fX9_same_0 v0 v1 v2 v3 v4 h
theorem eX9_same (G : sr_G) (v0 : Option Nat) (v1 : Int32) (v2 : Option Nat) (v3 : Int32) (v4 : Int32) (h : AH) : sr_E G 0 yX9_same cX9_same 6 (some .boolean) jI [vR v0, vI v1, vR v2, vI v3, vI v4] h (fX9_same v0 v1 v2 v3 v4 h) := sr_E.of (own := RX9) (ini := false) (by decide) rfl (fun q => by first | rfl | cases q) rfl (Nat.le_of_ble_eq_true rfl) (tX9_same_0 G v0 v1 v2 v3 v4 h)
noncomputable def fX9_isWord_50   (h : AH) : Option (Int32 × AH) := cZ (nI 1) (some ((nI 1), h))
theorem tX9_isWord_50 (G : sr_G)  (h : AH) : sr_T (X := Int32) G 0 RX9 cX9_isWord 8 (some .boolean) false (sr_M G jI) 50 [] [] h (fX9_isWord_50  h) := by
  unfold fX9_isWord_50
  refine tq_iconst (nI 1) dX9_isWord_50 (by decide) ?_
  exact tq_zret rfl dX9_isWord_51
noncomputable def fX9_isWord_36   (h : AH) : Option (Int32 × AH) := cZ (nI 0) (some ((nI 0), h))
theorem tX9_isWord_36 (G : sr_G)  (h : AH) : sr_T (X := Int32) G 0 RX9 cX9_isWord 8 (some .boolean) false (sr_M G jI) 36 [] [] h (fX9_isWord_36  h) := by
  unfold fX9_isWord_36
  refine tq_iconst (nI 0) dX9_isWord_36 (by decide) ?_
  exact tq_zret rfl dX9_isWord_37
noncomputable def fX9_isWord_6  : Nat → Option Nat → Int32 → Int32 → Int64 → AH → Option (Int32 × AH)
  | 0, _, _, _, _, _ => none
  | n + 1, v0, v2, v5, v6, h => if (lg_cmp v6 0) ≤ 0 then (fX9_isWord_50 h) else (if v2 ≤ v5 then (fX9_isWord_36 h) else (cAL h 1 v0 v5 fun x1 => if x1 = ((nI 96) + (Int64.toInt32 (v6 &&& 31))) then (fX9_isWord_6 n v0 v2 (v5 + (nI 1)) (v6 >>> (Int32.toInt64 (nI 5) &&& 63)) h) else (fX9_isWord_36 h)))
theorem tX9_isWord_6 (G : sr_G) : ∀ (n : Nat) (v0 : Option Nat) (v2 : Int32) (v5 : Int32) (v6 : Int64) (h : AH), sr_T (X := Int32) G 0 RX9 cX9_isWord 8 (some .boolean) false (sr_M G jI) 6 [(0, vR v0), (2, vI v2), (5, vI v5), (6, vL v6)] [] h (fX9_isWord_6  n v0 v2 v5 v6 h) := by
  intro n
  induction n with
  | zero => intro v0 v2 v5 v6 h; exact tq_none
  | succ n ih =>
    intro v0 v2 v5 v6 h
    unfold fX9_isWord_6
    refine tq_lload 3 dX9_isWord_6 rfl ?_
    refine tq_lconst 0 dX9_isWord_8 (by decide) ?_
    refine tq_lcmp dX9_isWord_9 ?_
    refine tq_if_le 50 dX9_isWord_10 (by decide) (fun _ => ?_) (fun _ => ?_)
    · exact tq_sub [] rfl (tX9_isWord_50 G h)
    · refine tq_iload 2 dX9_isWord_13 rfl ?_
      refine tq_iload_n 2 1 dX9_isWord_15 rfl rfl ?_
      refine tq_icmp_ge 36 dX9_isWord_16 (by decide) (fun _ => ?_) (fun _ => ?_)
      · exact tq_sub [] rfl (tX9_isWord_36 G h)
      · refine tq_aload_n 0 0 dX9_isWord_19 rfl rfl ?_
        refine tq_iload 2 dX9_isWord_20 rfl ?_
        refine tq_bald dX9_isWord_22 (fun x1 => ?_)
        refine tq_bipush (nI 96) dX9_isWord_23 (by decide) ?_
        refine tq_lload 3 dX9_isWord_25 rfl ?_
        refine tq_ldc2 31 dX9_isWord_27 wd_1069 ?_
        refine tq_land dX9_isWord_30 ?_
        refine tq_l2i dX9_isWord_31 ?_
        refine tq_iadd dX9_isWord_32 ?_
        refine tq_icmp_eq 38 dX9_isWord_33 (by decide) (fun _ => ?_) (fun _ => ?_)
        · refine tq_iinc 2 (nI 1) (L' := [(5, vI (v5 + (nI 1))), (0, vR v0), (2, vI v2), (6, vL v6)]) dX9_isWord_38 rfl (by decide) (by decide) rfl ?_
          refine tq_lload 3 dX9_isWord_41 rfl ?_
          refine tq_iconst (nI 5) dX9_isWord_43 (by decide) ?_
          refine tq_lshr dX9_isWord_44 ?_
          refine tq_lstore (L' := [(6, vL (v6 >>> (Int32.toInt64 (nI 5) &&& 63))), (5, vI (v5 + (nI 1))), (0, vR v0), (2, vI v2)]) dX9_isWord_45 (by decide) rfl ?_
          refine tq_goto 6 dX9_isWord_47 (by decide) ?_
          exact tq_sub [2, 3, 1, 0] rfl (ih v0 v2 (v5 + (nI 1)) (v6 >>> (Int32.toInt64 (nI 5) &&& 63)) h)
        · exact tq_sub [] rfl (tX9_isWord_36 G h)
noncomputable def fX9_isWord_0  (v0 : Option Nat) (v1 : Int32) (v2 : Int32) (v3 : Int64) (h : AH) : Option (Int32 × AH) := fX9_isWord_6 FU v0 v2 v1 v3 h
theorem tX9_isWord_0 (G : sr_G) (v0 : Option Nat) (v1 : Int32) (v2 : Int32) (v3 : Int64) (h : AH) : sr_T (X := Int32) G 0 RX9 cX9_isWord 8 (some .boolean) false (sr_M G jI) 0 [(0, vR v0), (1, vI v1), (2, vI v2), (3, vL v3)] [] h (fX9_isWord_0  v0 v1 v2 v3 h) := by
  unfold fX9_isWord_0
  refine tq_iload_n 1 1 dX9_isWord_0 rfl rfl ?_
  refine tq_istore (L' := [(5, vI v1), (0, vR v0), (1, vI v1), (2, vI v2), (3, vL v3)]) dX9_isWord_1 (by decide) rfl ?_
  refine tq_lload_n 3 4 dX9_isWord_3 rfl rfl ?_
  refine tq_lstore (L' := [(6, vL v3), (5, vI v1), (0, vR v0), (1, vI v1), (2, vI v2), (3, vL v3)]) dX9_isWord_4 (by decide) rfl ?_
  exact tq_sub [2, 4, 1, 0] rfl (tX9_isWord_6 G FU v0 v2 v1 v3 h)
noncomputable def fX9_isWord (v0 : Option Nat) (v1 : Int32) (v2 : Int32) (v3 : Int64) (h : AH) : Option (Int32 × AH) := fX9_isWord_0 v0 v1 v2 v3 h
theorem eX9_isWord (G : sr_G) (v0 : Option Nat) (v1 : Int32) (v2 : Int32) (v3 : Int64) (h : AH) : sr_E G 0 yX9_isWord cX9_isWord 8 (some .boolean) jI [vR v0, vI v1, vI v2, vL v3] h (fX9_isWord v0 v1 v2 v3 h) := sr_E.of (own := RX9) (ini := false) (by decide) rfl (fun q => by first | rfl | cases q) rfl (Nat.le_of_ble_eq_true rfl) (tX9_isWord_0 G v0 v1 v2 v3 h)
noncomputable def fX9_lengthOf_20  (v2 : Int32) (h : AH) : Option (Int32 × AH) := some (v2, h)
theorem tX9_lengthOf_20 (G : sr_G) (v2 : Int32) (h : AH) : sr_T (X := Int32) G 0 RX9 cX9_lengthOf 5 (some .int) false (sr_M G jI) 20 [(2, vI v2)] [] h (fX9_lengthOf_20  v2 h) := by
  unfold fX9_lengthOf_20
  refine tq_iload_n 2 0 dX9_lengthOf_20 rfl rfl ?_
  exact tq_iret rfl dX9_lengthOf_21
noncomputable def fX9_lengthOf_4  : Nat → Int32 → Int64 → AH → Option (Int32 × AH)
  | 0, _, _, _ => none
  | n + 1, v2, v3, h => if (lg_cmp v3 0) ≤ 0 then (fX9_lengthOf_20 v2 h) else (fX9_lengthOf_4 n (v2 + (nI 1)) (v3 >>> (Int32.toInt64 (nI 5) &&& 63)) h)
theorem tX9_lengthOf_4 (G : sr_G) : ∀ (n : Nat) (v2 : Int32) (v3 : Int64) (h : AH), sr_T (X := Int32) G 0 RX9 cX9_lengthOf 5 (some .int) false (sr_M G jI) 4 [(2, vI v2), (3, vL v3)] [] h (fX9_lengthOf_4  n v2 v3 h) := by
  intro n
  induction n with
  | zero => intro v2 v3 h; exact tq_none
  | succ n ih =>
    intro v2 v3 h
    unfold fX9_lengthOf_4
    refine tq_lload_n 3 1 dX9_lengthOf_4 rfl rfl ?_
    refine tq_lconst 0 dX9_lengthOf_5 (by decide) ?_
    refine tq_lcmp dX9_lengthOf_6 ?_
    refine tq_if_le 20 dX9_lengthOf_7 (by decide) (fun _ => ?_) (fun _ => ?_)
    · exact tq_sub [0] rfl (tX9_lengthOf_20 G v2 h)
    · refine tq_iinc 0 (nI 1) (L' := [(2, vI (v2 + (nI 1))), (3, vL v3)]) dX9_lengthOf_10 rfl (by decide) (by decide) rfl ?_
      refine tq_lload_n 3 1 dX9_lengthOf_13 rfl rfl ?_
      refine tq_iconst (nI 5) dX9_lengthOf_14 (by decide) ?_
      refine tq_lshr dX9_lengthOf_15 ?_
      refine tq_lstore_n 3 (L' := [(3, vL (v3 >>> (Int32.toInt64 (nI 5) &&& 63))), (2, vI (v2 + (nI 1)))]) dX9_lengthOf_16 rfl (by decide) rfl ?_
      refine tq_goto 4 dX9_lengthOf_17 (by decide) ?_
      exact tq_sub [1, 0] rfl (ih (v2 + (nI 1)) (v3 >>> (Int32.toInt64 (nI 5) &&& 63)) h)
noncomputable def fX9_lengthOf_0  (v0 : Int64) (h : AH) : Option (Int32 × AH) := fX9_lengthOf_4 FU (nI 0) v0 h
theorem tX9_lengthOf_0 (G : sr_G) (v0 : Int64) (h : AH) : sr_T (X := Int32) G 0 RX9 cX9_lengthOf 5 (some .int) false (sr_M G jI) 0 [(0, vL v0)] [] h (fX9_lengthOf_0  v0 h) := by
  unfold fX9_lengthOf_0
  refine tq_iconst (nI 0) dX9_lengthOf_0 (by decide) ?_
  refine tq_istore_n 2 (L' := [(2, vI (nI 0)), (0, vL v0)]) dX9_lengthOf_1 rfl (by decide) rfl ?_
  refine tq_lload_n 0 1 dX9_lengthOf_2 rfl rfl ?_
  refine tq_lstore_n 3 (L' := [(3, vL v0), (2, vI (nI 0)), (0, vL v0)]) dX9_lengthOf_3 rfl (by decide) rfl ?_
  exact tq_sub [1, 0] rfl (tX9_lengthOf_4 G FU (nI 0) v0 h)
noncomputable def fX9_lengthOf (v0 : Int64) (h : AH) : Option (Int32 × AH) := fX9_lengthOf_0 v0 h
theorem eX9_lengthOf (G : sr_G) (v0 : Int64) (h : AH) : sr_E G 0 yX9_lengthOf cX9_lengthOf 5 (some .int) jI [vL v0] h (fX9_lengthOf v0 h) := sr_E.of (own := RX9) (ini := false) (by decide) rfl (fun q => by first | rfl | cases q) rfl (Nat.le_of_ble_eq_true rfl) (tX9_lengthOf_0 G v0 h)
noncomputable def fX9_isEmptyTag_17  (s0 : Int32) (h : AH) : Option (Int32 × AH) := cZ s0 (some (s0, h))
theorem tX9_isEmptyTag_17 (G : sr_G) (s0 : Int32) (h : AH) : sr_T (X := Int32) G 0 RX9 cX9_isEmptyTag 1 (some .boolean) false (sr_M G jI) 17 [] [vI s0] h (fX9_isEmptyTag_17  s0 h) := by
  unfold fX9_isEmptyTag_17
  exact tq_zret rfl dX9_isEmptyTag_17
noncomputable def fX9_isEmptyTag_16   (h : AH) : Option (Int32 × AH) := fX9_isEmptyTag_17 (nI 0) h
theorem tX9_isEmptyTag_16 (G : sr_G)  (h : AH) : sr_T (X := Int32) G 0 RX9 cX9_isEmptyTag 1 (some .boolean) false (sr_M G jI) 16 [] [] h (fX9_isEmptyTag_16  h) := by
  unfold fX9_isEmptyTag_16
  refine tq_iconst (nI 0) dX9_isEmptyTag_16 (by decide) ?_
  exact tX9_isEmptyTag_17 G (nI 0) h
noncomputable def fX9_isEmptyTag_0  (v0 : Int32) (h : AH) : Option (Int32 × AH) := if v0 < (nI 10) then (fX9_isEmptyTag_16 h) else (if (nI 13) < v0 then (fX9_isEmptyTag_16 h) else (fX9_isEmptyTag_17 (nI 1) h))
theorem tX9_isEmptyTag_0 (G : sr_G) (v0 : Int32) (h : AH) : sr_T (X := Int32) G 0 RX9 cX9_isEmptyTag 1 (some .boolean) false (sr_M G jI) 0 [(0, vI v0)] [] h (fX9_isEmptyTag_0  v0 h) := by
  unfold fX9_isEmptyTag_0
  refine tq_iload_n 0 0 dX9_isEmptyTag_0 rfl rfl ?_
  refine tq_bipush (nI 10) dX9_isEmptyTag_1 (by decide) ?_
  refine tq_icmp_lt 16 dX9_isEmptyTag_3 (by decide) (fun _ => ?_) (fun _ => ?_)
  · exact tq_sub [] rfl (tX9_isEmptyTag_16 G h)
  · refine tq_iload_n 0 0 dX9_isEmptyTag_6 rfl rfl ?_
    refine tq_bipush (nI 13) dX9_isEmptyTag_7 (by decide) ?_
    refine tq_icmp_gt 16 dX9_isEmptyTag_9 (by decide) (fun _ => ?_) (fun _ => ?_)
    · exact tq_sub [] rfl (tX9_isEmptyTag_16 G h)
    · refine tq_iconst (nI 1) dX9_isEmptyTag_12 (by decide) ?_
      refine tq_goto 17 dX9_isEmptyTag_13 (by decide) ?_
      exact tq_sub [] rfl (tX9_isEmptyTag_17 G (nI 1) h)
noncomputable def fX9_isEmptyTag (v0 : Int32) (h : AH) : Option (Int32 × AH) := fX9_isEmptyTag_0 v0 h
theorem eX9_isEmptyTag (G : sr_G) (v0 : Int32) (h : AH) : sr_E G 0 yX9_isEmptyTag cX9_isEmptyTag 1 (some .boolean) jI [vI v0] h (fX9_isEmptyTag v0 h) := sr_E.of (own := RX9) (ini := false) (by decide) rfl (fun q => by first | rfl | cases q) rfl (Nat.le_of_ble_eq_true rfl) (tX9_isEmptyTag_0 G v0 h)
noncomputable def fX9_isBlockTag_16  (s0 : Int32) (h : AH) : Option (Int32 × AH) := cZ s0 (some (s0, h))
theorem tX9_isBlockTag_16 (G : sr_G) (s0 : Int32) (h : AH) : sr_T (X := Int32) G 0 RX9 cX9_isBlockTag 1 (some .boolean) false (sr_M G jI) 16 [] [vI s0] h (fX9_isBlockTag_16  s0 h) := by
  unfold fX9_isBlockTag_16
  exact tq_zret rfl dX9_isBlockTag_16
noncomputable def fX9_isBlockTag_11   (h : AH) : Option (Int32 × AH) := fX9_isBlockTag_16 (nI 1) h
theorem tX9_isBlockTag_11 (G : sr_G)  (h : AH) : sr_T (X := Int32) G 0 RX9 cX9_isBlockTag 1 (some .boolean) false (sr_M G jI) 11 [] [] h (fX9_isBlockTag_11  h) := by
  unfold fX9_isBlockTag_11
  refine tq_iconst (nI 1) dX9_isBlockTag_11 (by decide) ?_
  refine tq_goto 16 dX9_isBlockTag_12 (by decide) ?_
  exact tX9_isBlockTag_16 G (nI 1) h
noncomputable def fX9_isBlockTag_0  (v0 : Int32) (h : AH) : Option (Int32 × AH) := if v0 ≤ (nI 5) then (fX9_isBlockTag_11 h) else (if v0 = (nI 11) then (fX9_isBlockTag_11 h) else (fX9_isBlockTag_16 (nI 0) h))
theorem tX9_isBlockTag_0 (G : sr_G) (v0 : Int32) (h : AH) : sr_T (X := Int32) G 0 RX9 cX9_isBlockTag 1 (some .boolean) false (sr_M G jI) 0 [(0, vI v0)] [] h (fX9_isBlockTag_0  v0 h) := by
  unfold fX9_isBlockTag_0
  refine tq_iload_n 0 0 dX9_isBlockTag_0 rfl rfl ?_
  refine tq_iconst (nI 5) dX9_isBlockTag_1 (by decide) ?_
  refine tq_icmp_le 11 dX9_isBlockTag_2 (by decide) (fun _ => ?_) (fun _ => ?_)
  · exact tq_sub [] rfl (tX9_isBlockTag_11 G h)
  · refine tq_iload_n 0 0 dX9_isBlockTag_5 rfl rfl ?_
    refine tq_bipush (nI 11) dX9_isBlockTag_6 (by decide) ?_
    refine tq_icmp_ne 15 dX9_isBlockTag_8 (by decide) (fun _ => ?_) (fun _ => ?_)
    · refine tq_iconst (nI 0) dX9_isBlockTag_15 (by decide) ?_
      exact tq_sub [] rfl (tX9_isBlockTag_16 G (nI 0) h)
    · exact tq_sub [] rfl (tX9_isBlockTag_11 G h)
noncomputable def fX9_isBlockTag (v0 : Int32) (h : AH) : Option (Int32 × AH) := fX9_isBlockTag_0 v0 h
theorem eX9_isBlockTag (G : sr_G) (v0 : Int32) (h : AH) : sr_E G 0 yX9_isBlockTag cX9_isBlockTag 1 (some .boolean) jI [vI v0] h (fX9_isBlockTag v0 h) := sr_E.of (own := RX9) (ini := false) (by decide) rfl (fun q => by first | rfl | cases q) rfl (Nat.le_of_ble_eq_true rfl) (tX9_isBlockTag_0 G v0 h)
noncomputable def fX9_tagWord_0  (v0 : Int32) (h : AH) : Option (Int64 × AH) := (if v0 = 0 then (some (22820, h)) else (if v0 = 1 then (some (16, h)) else (if v0 = 2 then (some (8, h)) else (if v0 = 3 then (some (405, h)) else (if v0 = 4 then (some (300, h)) else (if v0 = 5 then (some (444902, h)) else (if v0 = 6 then (some (460307, h)) else (if v0 = 7 then (some (1, h)) else (if v0 = 8 then (some (2, h)) else (if v0 = 9 then (some (9, h)) else (if v0 = 10 then (some (578, h)) else (if v0 = 11 then (some (584, h)) else (if v0 = 12 then (some (7593, h)) else (if v0 = 13 then (some (21676489, h)) else (if v0 = 14 then (some (486167202, h)) else (some (5662355, h)))))))))))))))))
theorem tX9_tagWord_0 (G : sr_G) (v0 : Int32) (h : AH) : sr_T (X := Int64) G 0 RX9 cX9_tagWord 1 (some .long) false (sr_M G jL) 0 [(0, vI v0)] [] h (fX9_tagWord_0  v0 h) := by
  unfold fX9_tagWord_0
  refine tq_iload_n 0 0 dX9_tagWord_0 rfl rfl ?_
  refine tq_ite _ (fun hc => ?_) (fun hn0 => ?_)
  · refine tq_tableIn 76 dX9_tagWord_1 (by rw [hc]; decide) (by rw [hc]; decide) (off := 75) (by rw [hc]; rfl) (by decide) ?_
    refine tq_ldc2 22820 dX9_tagWord_76 wd_1051 ?_
    exact tq_lret rfl dX9_tagWord_79
  · refine tq_ite _ (fun hc => ?_) (fun hn1 => ?_)
    · refine tq_tableIn 80 dX9_tagWord_1 (by rw [hc]; decide) (by rw [hc]; decide) (off := 79) (by rw [hc]; rfl) (by decide) ?_
      refine tq_ldc2 16 dX9_tagWord_80 wd_1052 ?_
      exact tq_lret rfl dX9_tagWord_83
    · refine tq_ite _ (fun hc => ?_) (fun hn2 => ?_)
      · refine tq_tableIn 84 dX9_tagWord_1 (by rw [hc]; decide) (by rw [hc]; decide) (off := 83) (by rw [hc]; rfl) (by decide) ?_
        refine tq_ldc2 8 dX9_tagWord_84 wd_1053 ?_
        exact tq_lret rfl dX9_tagWord_87
      · refine tq_ite _ (fun hc => ?_) (fun hn3 => ?_)
        · refine tq_tableIn 88 dX9_tagWord_1 (by rw [hc]; decide) (by rw [hc]; decide) (off := 87) (by rw [hc]; rfl) (by decide) ?_
          refine tq_ldc2 405 dX9_tagWord_88 wd_1054 ?_
          exact tq_lret rfl dX9_tagWord_91
        · refine tq_ite _ (fun hc => ?_) (fun hn4 => ?_)
          · refine tq_tableIn 92 dX9_tagWord_1 (by rw [hc]; decide) (by rw [hc]; decide) (off := 91) (by rw [hc]; rfl) (by decide) ?_
            refine tq_ldc2 300 dX9_tagWord_92 wd_1055 ?_
            exact tq_lret rfl dX9_tagWord_95
          · refine tq_ite _ (fun hc => ?_) (fun hn5 => ?_)
            · refine tq_tableIn 96 dX9_tagWord_1 (by rw [hc]; decide) (by rw [hc]; decide) (off := 95) (by rw [hc]; rfl) (by decide) ?_
              refine tq_ldc2 444902 dX9_tagWord_96 wd_1056 ?_
              exact tq_lret rfl dX9_tagWord_99
            · refine tq_ite _ (fun hc => ?_) (fun hn6 => ?_)
              · refine tq_tableIn 100 dX9_tagWord_1 (by rw [hc]; decide) (by rw [hc]; decide) (off := 99) (by rw [hc]; rfl) (by decide) ?_
                refine tq_ldc2 460307 dX9_tagWord_100 wd_1057 ?_
                exact tq_lret rfl dX9_tagWord_103
              · refine tq_ite _ (fun hc => ?_) (fun hn7 => ?_)
                · refine tq_tableIn 104 dX9_tagWord_1 (by rw [hc]; decide) (by rw [hc]; decide) (off := 103) (by rw [hc]; rfl) (by decide) ?_
                  refine tq_lconst 1 dX9_tagWord_104 (by decide) ?_
                  exact tq_lret rfl dX9_tagWord_105
                · refine tq_ite _ (fun hc => ?_) (fun hn8 => ?_)
                  · refine tq_tableIn 106 dX9_tagWord_1 (by rw [hc]; decide) (by rw [hc]; decide) (off := 105) (by rw [hc]; rfl) (by decide) ?_
                    refine tq_ldc2 2 dX9_tagWord_106 wd_1058 ?_
                    exact tq_lret rfl dX9_tagWord_109
                  · refine tq_ite _ (fun hc => ?_) (fun hn9 => ?_)
                    · refine tq_tableIn 110 dX9_tagWord_1 (by rw [hc]; decide) (by rw [hc]; decide) (off := 109) (by rw [hc]; rfl) (by decide) ?_
                      refine tq_ldc2 9 dX9_tagWord_110 wd_1059 ?_
                      exact tq_lret rfl dX9_tagWord_113
                    · refine tq_ite _ (fun hc => ?_) (fun hn10 => ?_)
                      · refine tq_tableIn 114 dX9_tagWord_1 (by rw [hc]; decide) (by rw [hc]; decide) (off := 113) (by rw [hc]; rfl) (by decide) ?_
                        refine tq_ldc2 578 dX9_tagWord_114 wd_1060 ?_
                        exact tq_lret rfl dX9_tagWord_117
                      · refine tq_ite _ (fun hc => ?_) (fun hn11 => ?_)
                        · refine tq_tableIn 118 dX9_tagWord_1 (by rw [hc]; decide) (by rw [hc]; decide) (off := 117) (by rw [hc]; rfl) (by decide) ?_
                          refine tq_ldc2 584 dX9_tagWord_118 wd_1061 ?_
                          exact tq_lret rfl dX9_tagWord_121
                        · refine tq_ite _ (fun hc => ?_) (fun hn12 => ?_)
                          · refine tq_tableIn 122 dX9_tagWord_1 (by rw [hc]; decide) (by rw [hc]; decide) (off := 121) (by rw [hc]; rfl) (by decide) ?_
                            refine tq_ldc2 7593 dX9_tagWord_122 wd_1062 ?_
                            exact tq_lret rfl dX9_tagWord_125
                          · refine tq_ite _ (fun hc => ?_) (fun hn13 => ?_)
                            · refine tq_tableIn 126 dX9_tagWord_1 (by rw [hc]; decide) (by rw [hc]; decide) (off := 125) (by rw [hc]; rfl) (by decide) ?_
                              refine tq_ldc2 21676489 dX9_tagWord_126 wd_1063 ?_
                              exact tq_lret rfl dX9_tagWord_129
                            · refine tq_ite _ (fun hc => ?_) (fun hn14 => ?_)
                              · refine tq_tableIn 130 dX9_tagWord_1 (by rw [hc]; decide) (by rw [hc]; decide) (off := 129) (by rw [hc]; rfl) (by decide) ?_
                                refine tq_ldc2 486167202 dX9_tagWord_130 wd_1064 ?_
                                exact tq_lret rfl dX9_tagWord_133
                              · have q0 := lv_neT hn0 (show (0 : Int32).toInt = 0 by decide)
                                have q1 := lv_neT hn1 (show (1 : Int32).toInt = 1 by decide)
                                have q2 := lv_neT hn2 (show (2 : Int32).toInt = 2 by decide)
                                have q3 := lv_neT hn3 (show (3 : Int32).toInt = 3 by decide)
                                have q4 := lv_neT hn4 (show (4 : Int32).toInt = 4 by decide)
                                have q5 := lv_neT hn5 (show (5 : Int32).toInt = 5 by decide)
                                have q6 := lv_neT hn6 (show (6 : Int32).toInt = 6 by decide)
                                have q7 := lv_neT hn7 (show (7 : Int32).toInt = 7 by decide)
                                have q8 := lv_neT hn8 (show (8 : Int32).toInt = 8 by decide)
                                have q9 := lv_neT hn9 (show (9 : Int32).toInt = 9 by decide)
                                have q10 := lv_neT hn10 (show (10 : Int32).toInt = 10 by decide)
                                have q11 := lv_neT hn11 (show (11 : Int32).toInt = 11 by decide)
                                have q12 := lv_neT hn12 (show (12 : Int32).toInt = 12 by decide)
                                have q13 := lv_neT hn13 (show (13 : Int32).toInt = 13 by decide)
                                have q14 := lv_neT hn14 (show (14 : Int32).toInt = 14 by decide)
                                refine tq_tableOut 134 dX9_tagWord_1 (by omega) (by decide) ?_
                                refine tq_ldc2 5662355 dX9_tagWord_134 wd_1065 ?_
                                exact tq_lret rfl dX9_tagWord_137
noncomputable def fX9_tagWord (v0 : Int32) (h : AH) : Option (Int64 × AH) := fX9_tagWord_0 v0 h
theorem eX9_tagWord (G : sr_G) (v0 : Int32) (h : AH) : sr_E G 0 yX9_tagWord cX9_tagWord 1 (some .long) jL [vI v0] h (fX9_tagWord v0 h) := sr_E.of (own := RX9) (ini := false) (by decide) rfl (fun q => by first | rfl | cases q) rfl (Nat.le_of_ble_eq_true rfl) (tX9_tagWord_0 G v0 h)
noncomputable def fX9_tagOf_74   (h : AH) : Option (Int32 × AH) := some ((nI 16), h)
theorem tX9_tagOf_74 (G : sr_G)  (h : AH) : sr_T (X := Int32) G 1 RX9 cX9_tagOf 6 (some .int) false (sr_M G jI) 74 [] [] h (fX9_tagOf_74  h) := by
  unfold fX9_tagOf_74
  refine tq_bipush (nI 16) dX9_tagOf_74 (by decide) ?_
  exact tq_iret rfl dX9_tagOf_76
noncomputable def fX9_tagOf_68 (r2 : Option Nat → Int32 → Int32 → Int32 → AH → Option (Int32 × AH)) (v0 : Option Nat) (v1 : Int32) (v2 : Int32) (v3 : Int32) (h : AH) : Option (Int32 × AH) := r2 v0 v1 v2 (v3 + (nI 1)) h
theorem tX9_tagOf_68 (G : sr_G) {r2 : Option Nat → Int32 → Int32 → Int32 → AH → Option (Int32 × AH)} (hr2 : ∀ (v0 : Option Nat) (v1 : Int32) (v2 : Int32) (v3 : Int32) (h : AH), sr_T (X := Int32) G 1 RX9 cX9_tagOf 6 (some .int) false (sr_M G jI) 2 [(0, vR v0), (1, vI v1), (2, vI v2), (3, vI v3)] [] h (r2 v0 v1 v2 v3 h)) (v0 : Option Nat) (v1 : Int32) (v2 : Int32) (v3 : Int32) (h : AH) : sr_T (X := Int32) G 1 RX9 cX9_tagOf 6 (some .int) false (sr_M G jI) 68 [(0, vR v0), (1, vI v1), (2, vI v2), (3, vI v3)] [] h (fX9_tagOf_68 r2 v0 v1 v2 v3 h) := by
  unfold fX9_tagOf_68
  refine tq_iinc 3 (nI 1) (L' := [(3, vI (v3 + (nI 1))), (0, vR v0), (1, vI v1), (2, vI v2)]) dX9_tagOf_68 rfl (by decide) (by decide) rfl ?_
  refine tq_goto 2 dX9_tagOf_71 (by decide) ?_
  exact tq_sub [1, 2, 3, 0] rfl (hr2 v0 v1 v2 (v3 + (nI 1)) h)
noncomputable def fX9_tagOf_66  (v3 : Int32) (h : AH) : Option (Int32 × AH) := some (v3, h)
theorem tX9_tagOf_66 (G : sr_G) (v3 : Int32) (h : AH) : sr_T (X := Int32) G 1 RX9 cX9_tagOf 6 (some .int) false (sr_M G jI) 66 [(3, vI v3)] [] h (fX9_tagOf_66  v3 h) := by
  unfold fX9_tagOf_66
  refine tq_iload_n 3 0 dX9_tagOf_66 rfl rfl ?_
  exact tq_iret rfl dX9_tagOf_67
noncomputable def fX9_tagOf_42  (v3 : Int32) (h : AH) : Option (Int32 × AH) := some (v3, h)
theorem tX9_tagOf_42 (G : sr_G) (v3 : Int32) (h : AH) : sr_T (X := Int32) G 1 RX9 cX9_tagOf 6 (some .int) false (sr_M G jI) 42 [(3, vI v3)] [] h (fX9_tagOf_42  v3 h) := by
  unfold fX9_tagOf_42
  refine tq_iload_n 3 0 dX9_tagOf_42 rfl rfl ?_
  exact tq_iret rfl dX9_tagOf_43
noncomputable def fX9_tagOf_2  : Nat → Option Nat → Int32 → Int32 → Int32 → AH → Option (Int32 × AH)
  | 0, _, _, _, _, _ => none
  | n + 1, v0, v1, v2, v3, h => if (nI 16) ≤ v3 then (fX9_tagOf_74 h) else (cCL (fX9_tagWord v3 h) fun x2 h1 => if v3 = (nI 2) then (if v2 = (nI 2) then (cAL h1 1 v0 v1 fun x7 => if x7 = (nI 104) then (cAL h1 1 v0 (v1 + (nI 1)) fun x8 => if x8 = (nI 49) then (fX9_tagOf_42 v3 h1) else (fX9_tagOf_68 (fX9_tagOf_2 n) v0 v1 v2 v3 h1)) else (fX9_tagOf_68 (fX9_tagOf_2 n) v0 v1 v2 v3 h1)) else (fX9_tagOf_68 (fX9_tagOf_2 n) v0 v1 v2 v3 h1)) else (cCL (fX9_lengthOf x2 h1) fun x4 h3 => if x4 = v2 then (cCL (fX9_isWord v0 v1 (v1 + v2) x2 h3) fun x6 h5 => if x6 = 0 then (fX9_tagOf_68 (fX9_tagOf_2 n) v0 v1 v2 v3 h5) else (fX9_tagOf_66 v3 h5)) else (fX9_tagOf_68 (fX9_tagOf_2 n) v0 v1 v2 v3 h3)))
theorem tX9_tagOf_2 (G : sr_G) : ∀ (n : Nat) (v0 : Option Nat) (v1 : Int32) (v2 : Int32) (v3 : Int32) (h : AH), sr_T (X := Int32) G 1 RX9 cX9_tagOf 6 (some .int) false (sr_M G jI) 2 [(0, vR v0), (1, vI v1), (2, vI v2), (3, vI v3)] [] h (fX9_tagOf_2  n v0 v1 v2 v3 h) := by
  intro n
  induction n with
  | zero => intro v0 v1 v2 v3 h; exact tq_none
  | succ n ih =>
    intro v0 v1 v2 v3 h
    unfold fX9_tagOf_2
    refine tq_iload_n 3 3 dX9_tagOf_2 rfl rfl ?_
    refine tq_bipush (nI 16) dX9_tagOf_3 (by decide) ?_
    refine tq_icmp_ge 74 dX9_tagOf_5 (by decide) (fun _ => ?_) (fun _ => ?_)
    · exact tq_sub [] rfl (tX9_tagOf_74 G h)
    · refine tq_iload_n 3 3 dX9_tagOf_8 rfl rfl ?_
      refine tq_cSL [vI v3] [] dX9_tagOf_9 (eX9_tagWord G v3 h) (by decide) mbX9_tagWord wd_1048 wd_1049 rfl rfl (Nat.le_of_ble_eq_true rfl) (fun x2 h1 => ?_)
      refine tq_lstore (L' := [(4, vL x2), (0, vR v0), (1, vI v1), (2, vI v2), (3, vI v3)]) dX9_tagOf_12 (by decide) rfl ?_
      refine tq_iload_n 3 4 dX9_tagOf_14 rfl rfl ?_
      refine tq_iconst (nI 2) dX9_tagOf_15 (by decide) ?_
      refine tq_icmp_ne 44 dX9_tagOf_16 (by decide) (fun _ => ?_) (fun _ => ?_)
      · refine tq_lload 0 dX9_tagOf_44 rfl ?_
        refine tq_cSI [vL x2] [] dX9_tagOf_46 (eX9_lengthOf G x2 h1) (by decide) mbX9_lengthOf wd_1123 wd_1124 rfl rfl (Nat.le_of_ble_eq_true rfl) (fun x4 h3 => ?_)
        refine tq_iload_n 2 3 dX9_tagOf_49 rfl rfl ?_
        refine tq_icmp_ne 68 dX9_tagOf_50 (by decide) (fun _ => ?_) (fun _ => ?_)
        · exact tq_sub [1, 2, 3, 4] rfl (tX9_tagOf_68 G ih v0 v1 v2 v3 h3)
        · refine tq_aload_n 0 1 dX9_tagOf_53 rfl rfl ?_
          refine tq_iload_n 1 2 dX9_tagOf_54 rfl rfl ?_
          refine tq_iload_n 1 2 dX9_tagOf_55 rfl rfl ?_
          refine tq_iload_n 2 3 dX9_tagOf_56 rfl rfl ?_
          refine tq_iadd dX9_tagOf_57 ?_
          refine tq_lload 0 dX9_tagOf_58 rfl ?_
          refine tq_cSI [vR v0, vI v1, vI (v1 + v2), vL x2] [] dX9_tagOf_60 (eX9_isWord G v0 v1 (v1 + v2) x2 h3) (by decide) mbX9_isWord wd_1066 wd_1067 rfl rfl (Nat.le_of_ble_eq_true rfl) (fun x6 h5 => ?_)
          refine tq_if_eq 68 dX9_tagOf_63 (by decide) (fun _ => ?_) (fun _ => ?_)
          · exact tq_sub [1, 2, 3, 4] rfl (tX9_tagOf_68 G ih v0 v1 v2 v3 h5)
          · exact tq_sub [4] rfl (tX9_tagOf_66 G v3 h5)
      · refine tq_iload_n 2 3 dX9_tagOf_19 rfl rfl ?_
        refine tq_iconst (nI 2) dX9_tagOf_20 (by decide) ?_
        refine tq_icmp_ne 68 dX9_tagOf_21 (by decide) (fun _ => ?_) (fun _ => ?_)
        · exact tq_sub [1, 2, 3, 4] rfl (tX9_tagOf_68 G ih v0 v1 v2 v3 h1)
        · refine tq_aload_n 0 1 dX9_tagOf_24 rfl rfl ?_
          refine tq_iload_n 1 2 dX9_tagOf_25 rfl rfl ?_
          refine tq_bald dX9_tagOf_26 (fun x7 => ?_)
          refine tq_bipush (nI 104) dX9_tagOf_27 (by decide) ?_
          refine tq_icmp_ne 68 dX9_tagOf_29 (by decide) (fun _ => ?_) (fun _ => ?_)
          · exact tq_sub [1, 2, 3, 4] rfl (tX9_tagOf_68 G ih v0 v1 v2 v3 h1)
          · refine tq_aload_n 0 1 dX9_tagOf_32 rfl rfl ?_
            refine tq_iload_n 1 2 dX9_tagOf_33 rfl rfl ?_
            refine tq_iconst (nI 1) dX9_tagOf_34 (by decide) ?_
            refine tq_iadd dX9_tagOf_35 ?_
            refine tq_bald dX9_tagOf_36 (fun x8 => ?_)
            refine tq_bipush (nI 49) dX9_tagOf_37 (by decide) ?_
            refine tq_icmp_ne 68 dX9_tagOf_39 (by decide) (fun _ => ?_) (fun _ => ?_)
            · exact tq_sub [1, 2, 3, 4] rfl (tX9_tagOf_68 G ih v0 v1 v2 v3 h1)
            · exact tq_sub [4] rfl (tX9_tagOf_42 G v3 h1)
noncomputable def fX9_tagOf_0  (v0 : Option Nat) (v1 : Int32) (v2 : Int32) (h : AH) : Option (Int32 × AH) := fX9_tagOf_2 FU v0 v1 v2 (nI 0) h
theorem tX9_tagOf_0 (G : sr_G) (v0 : Option Nat) (v1 : Int32) (v2 : Int32) (h : AH) : sr_T (X := Int32) G 1 RX9 cX9_tagOf 6 (some .int) false (sr_M G jI) 0 [(0, vR v0), (1, vI v1), (2, vI v2)] [] h (fX9_tagOf_0  v0 v1 v2 h) := by
  unfold fX9_tagOf_0
  refine tq_iconst (nI 0) dX9_tagOf_0 (by decide) ?_
  refine tq_istore_n 3 (L' := [(3, vI (nI 0)), (0, vR v0), (1, vI v1), (2, vI v2)]) dX9_tagOf_1 rfl (by decide) rfl ?_
  exact tq_sub [1, 2, 3, 0] rfl (tX9_tagOf_2 G FU v0 v1 v2 (nI 0) h)
noncomputable def fX9_tagOf (v0 : Option Nat) (v1 : Int32) (v2 : Int32) (h : AH) : Option (Int32 × AH) := fX9_tagOf_0 v0 v1 v2 h
theorem eX9_tagOf (G : sr_G) (v0 : Option Nat) (v1 : Int32) (v2 : Int32) (h : AH) : sr_E G 1 yX9_tagOf cX9_tagOf 6 (some .int) jI [vR v0, vI v1, vI v2] h (fX9_tagOf v0 v1 v2 h) := sr_E.of (own := RX9) (ini := false) (by decide) rfl (fun q => by first | rfl | cases q) rfl (Nat.le_of_ble_eq_true rfl) (tX9_tagOf_0 G v0 v1 v2 h)
noncomputable def fX9_fresh_53   (h : AH) : Option (Int32 × AH) := some ((-1), h)
theorem tX9_fresh_53 (G : sr_G)  (h : AH) : sr_T (X := Int32) G 0 RX9 cX9_fresh 4 (some .int) false (sr_M G jI) 53 [] [] h (fX9_fresh_53  h) := by
  unfold fX9_fresh_53
  refine tq_iconst (-1) dX9_fresh_53 (by decide) ?_
  exact tq_iret rfl dX9_fresh_54
noncomputable def fX9_fresh_198  (v3 : Int32) (h : AH) : Option (Int32 × AH) := some (v3, h)
theorem tX9_fresh_198 (G : sr_G) (v3 : Int32) (h : AH) : sr_T (X := Int32) G 0 RX9 cX9_fresh 4 (some .int) false (sr_M G jI) 198 [(3, vI v3)] [] h (fX9_fresh_198  v3 h) := by
  unfold fX9_fresh_198
  refine tq_iload_n 3 0 dX9_fresh_198 rfl rfl ?_
  exact tq_iret rfl dX9_fresh_199
noncomputable def fX9_fresh_191  (v0 : Option Nat) (v1 : Int32) (v3 : Int32) (h : AH) : Option (Int32 × AH) := cGR h 9 462 v0 fun x1 => cAS h 0 x1 v1 v3 fun h2 => fX9_fresh_198 v3 h2
theorem tX9_fresh_191 (G : sr_G) (v0 : Option Nat) (v1 : Int32) (v3 : Int32) (h : AH) : sr_T (X := Int32) G 0 RX9 cX9_fresh 4 (some .int) false (sr_M G jI) 191 [(0, vR v0), (1, vI v1), (3, vI v3)] [] h (fX9_fresh_191  v0 v1 v3 h) := by
  unfold fX9_fresh_191
  refine tq_aload_n 0 0 dX9_fresh_191 rfl rfl ?_
  refine tq_getR 12 dX9_fresh_192 cfX9 (by decide) wd_884 rfl rfl (fun x1 => ?_)
  refine tq_iload_n 1 1 dX9_fresh_195 rfl rfl ?_
  refine tq_iload_n 3 2 dX9_fresh_196 rfl rfl ?_
  refine tq_iast dX9_fresh_197 (fun h2 => ?_)
  exact tq_sub [2] rfl (tX9_fresh_198 G v3 h2)
noncomputable def fX9_fresh_41  (v0 : Option Nat) (v1 : Int32) (v2 : Int32) (v3 : Int32) (h : AH) : Option (Int32 × AH) := if v3 = (nI 120) then (fX9_fresh_53 h) else (if v2 ≤ (nI 20) then (cGR h 9 456 v0 fun x1 => cAS h 2 x1 v3 (nI 1) fun h2 => cGI h2 9 475 v0 fun x3 => cPI h2 9 475 v0 (x3 + (nI 1)) fun h4 => cGR h4 9 465 v0 fun x5 => cAS h4 0 x5 v3 v2 fun h6 => cGR h6 9 460 v0 fun x7 => cAS h6 0 x7 v3 v1 fun h8 => cGR h8 9 461 v0 fun x9 => cAS h8 0 x9 v3 (-1) fun h10 => cGR h10 9 462 v0 fun x11 => cAS h10 0 x11 v3 (-1) fun h12 => cGR h12 9 463 v0 fun x13 => cAS h12 0 x13 v3 (-1) fun h14 => cGR h14 9 464 v0 fun x15 => cAS h14 0 x15 v3 (-1) fun h16 => cGR h16 9 466 v0 fun x17 => cAS h16 0 x17 v3 (nI 0) fun h18 => cGR h18 9 472 v0 fun x19 => cAS h18 0 x19 v3 (nI 0) fun h20 => cGR h20 9 473 v0 fun x21 => cAS h20 2 x21 v3 (nI 0) fun h22 => cGR h22 9 459 v0 fun x23 => cAS h22 0 x23 v3 (nI 0) fun h24 => if v1 = (-1) then (fX9_fresh_198 v3 h24) else (cGR h24 9 464 v0 fun x25 => cGR h24 9 462 v0 fun x26 => cAL h24 0 x26 v1 fun x27 => cAS h24 0 x25 v3 x27 fun h28 => cGR h28 9 462 v0 fun x29 => cAL h28 0 x29 v1 fun x30 => if x30 = (-1) then (cGR h28 9 461 v0 fun x35 => cAS h28 0 x35 v1 v3 fun h36 => fX9_fresh_191 v0 v1 v3 h36) else (cGR h28 9 463 v0 fun x31 => cGR h28 9 462 v0 fun x32 => cAL h28 0 x32 v1 fun x33 => cAS h28 0 x31 x33 v3 fun h34 => fX9_fresh_191 v0 v1 v3 h34))) else (fX9_fresh_53 h))
theorem tX9_fresh_41 (G : sr_G) (v0 : Option Nat) (v1 : Int32) (v2 : Int32) (v3 : Int32) (h : AH) : sr_T (X := Int32) G 0 RX9 cX9_fresh 4 (some .int) false (sr_M G jI) 41 [(0, vR v0), (1, vI v1), (2, vI v2), (3, vI v3)] [] h (fX9_fresh_41  v0 v1 v2 v3 h) := by
  unfold fX9_fresh_41
  refine tq_iload_n 3 3 dX9_fresh_41 rfl rfl ?_
  refine tq_bipush (nI 120) dX9_fresh_42 (by decide) ?_
  refine tq_icmp_eq 53 dX9_fresh_44 (by decide) (fun _ => ?_) (fun _ => ?_)
  · exact tq_sub [] rfl (tX9_fresh_53 G h)
  · refine tq_iload_n 2 2 dX9_fresh_47 rfl rfl ?_
    refine tq_bipush (nI 20) dX9_fresh_48 (by decide) ?_
    refine tq_icmp_le 55 dX9_fresh_50 (by decide) (fun _ => ?_) (fun _ => ?_)
    · refine tq_aload_n 0 0 dX9_fresh_55 rfl rfl ?_
      refine tq_getR 6 dX9_fresh_56 cfX9 (by decide) wd_878 rfl rfl (fun x1 => ?_)
      refine tq_iload_n 3 3 dX9_fresh_59 rfl rfl ?_
      refine tq_iconst (nI 1) dX9_fresh_60 (by decide) ?_
      refine tq_zast dX9_fresh_61 (fun h2 => ?_)
      refine tq_aload_n 0 0 dX9_fresh_62 rfl rfl ?_
      refine tq_dupR dX9_fresh_63 ?_
      refine tq_getI 25 dX9_fresh_64 cfX9 (by decide) wd_897 rfl rfl (fun x3 => ?_)
      refine tq_iconst (nI 1) dX9_fresh_67 (by decide) ?_
      refine tq_iadd dX9_fresh_68 ?_
      refine tq_putI 25 dX9_fresh_69 cfX9 (by decide) wd_897 rfl rfl (Or.inl rfl) (fun h4 => ?_)
      refine tq_aload_n 0 0 dX9_fresh_72 rfl rfl ?_
      refine tq_getR 15 dX9_fresh_73 cfX9 (by decide) wd_887 rfl rfl (fun x5 => ?_)
      refine tq_iload_n 3 3 dX9_fresh_76 rfl rfl ?_
      refine tq_iload_n 2 2 dX9_fresh_77 rfl rfl ?_
      refine tq_iast dX9_fresh_78 (fun h6 => ?_)
      refine tq_aload_n 0 0 dX9_fresh_79 rfl rfl ?_
      refine tq_getR 10 dX9_fresh_80 cfX9 (by decide) wd_882 rfl rfl (fun x7 => ?_)
      refine tq_iload_n 3 3 dX9_fresh_83 rfl rfl ?_
      refine tq_iload_n 1 1 dX9_fresh_84 rfl rfl ?_
      refine tq_iast dX9_fresh_85 (fun h8 => ?_)
      refine tq_aload_n 0 0 dX9_fresh_86 rfl rfl ?_
      refine tq_getR 11 dX9_fresh_87 cfX9 (by decide) wd_883 rfl rfl (fun x9 => ?_)
      refine tq_iload_n 3 3 dX9_fresh_90 rfl rfl ?_
      refine tq_iconst (-1) dX9_fresh_91 (by decide) ?_
      refine tq_iast dX9_fresh_92 (fun h10 => ?_)
      refine tq_aload_n 0 0 dX9_fresh_93 rfl rfl ?_
      refine tq_getR 12 dX9_fresh_94 cfX9 (by decide) wd_884 rfl rfl (fun x11 => ?_)
      refine tq_iload_n 3 3 dX9_fresh_97 rfl rfl ?_
      refine tq_iconst (-1) dX9_fresh_98 (by decide) ?_
      refine tq_iast dX9_fresh_99 (fun h12 => ?_)
      refine tq_aload_n 0 0 dX9_fresh_100 rfl rfl ?_
      refine tq_getR 13 dX9_fresh_101 cfX9 (by decide) wd_885 rfl rfl (fun x13 => ?_)
      refine tq_iload_n 3 3 dX9_fresh_104 rfl rfl ?_
      refine tq_iconst (-1) dX9_fresh_105 (by decide) ?_
      refine tq_iast dX9_fresh_106 (fun h14 => ?_)
      refine tq_aload_n 0 0 dX9_fresh_107 rfl rfl ?_
      refine tq_getR 14 dX9_fresh_108 cfX9 (by decide) wd_886 rfl rfl (fun x15 => ?_)
      refine tq_iload_n 3 3 dX9_fresh_111 rfl rfl ?_
      refine tq_iconst (-1) dX9_fresh_112 (by decide) ?_
      refine tq_iast dX9_fresh_113 (fun h16 => ?_)
      refine tq_aload_n 0 0 dX9_fresh_114 rfl rfl ?_
      refine tq_getR 16 dX9_fresh_115 cfX9 (by decide) wd_888 rfl rfl (fun x17 => ?_)
      refine tq_iload_n 3 3 dX9_fresh_118 rfl rfl ?_
      refine tq_iconst (nI 0) dX9_fresh_119 (by decide) ?_
      refine tq_iast dX9_fresh_120 (fun h18 => ?_)
      refine tq_aload_n 0 0 dX9_fresh_121 rfl rfl ?_
      refine tq_getR 22 dX9_fresh_122 cfX9 (by decide) wd_894 rfl rfl (fun x19 => ?_)
      refine tq_iload_n 3 3 dX9_fresh_125 rfl rfl ?_
      refine tq_iconst (nI 0) dX9_fresh_126 (by decide) ?_
      refine tq_iast dX9_fresh_127 (fun h20 => ?_)
      refine tq_aload_n 0 0 dX9_fresh_128 rfl rfl ?_
      refine tq_getR 23 dX9_fresh_129 cfX9 (by decide) wd_895 rfl rfl (fun x21 => ?_)
      refine tq_iload_n 3 3 dX9_fresh_132 rfl rfl ?_
      refine tq_iconst (nI 0) dX9_fresh_133 (by decide) ?_
      refine tq_zast dX9_fresh_134 (fun h22 => ?_)
      refine tq_aload_n 0 0 dX9_fresh_135 rfl rfl ?_
      refine tq_getR 9 dX9_fresh_136 cfX9 (by decide) wd_881 rfl rfl (fun x23 => ?_)
      refine tq_iload_n 3 3 dX9_fresh_139 rfl rfl ?_
      refine tq_iconst (nI 0) dX9_fresh_140 (by decide) ?_
      refine tq_iast dX9_fresh_141 (fun h24 => ?_)
      refine tq_iload_n 1 1 dX9_fresh_142 rfl rfl ?_
      refine tq_iconst (-1) dX9_fresh_143 (by decide) ?_
      refine tq_icmp_eq 198 dX9_fresh_144 (by decide) (fun _ => ?_) (fun _ => ?_)
      · exact tq_sub [3] rfl (tX9_fresh_198 G v3 h24)
      · refine tq_aload_n 0 0 dX9_fresh_147 rfl rfl ?_
        refine tq_getR 14 dX9_fresh_148 cfX9 (by decide) wd_886 rfl rfl (fun x25 => ?_)
        refine tq_iload_n 3 3 dX9_fresh_151 rfl rfl ?_
        refine tq_aload_n 0 0 dX9_fresh_152 rfl rfl ?_
        refine tq_getR 12 dX9_fresh_153 cfX9 (by decide) wd_884 rfl rfl (fun x26 => ?_)
        refine tq_iload_n 1 1 dX9_fresh_156 rfl rfl ?_
        refine tq_iald dX9_fresh_157 (fun x27 => ?_)
        refine tq_iast dX9_fresh_158 (fun h28 => ?_)
        refine tq_aload_n 0 0 dX9_fresh_159 rfl rfl ?_
        refine tq_getR 12 dX9_fresh_160 cfX9 (by decide) wd_884 rfl rfl (fun x29 => ?_)
        refine tq_iload_n 1 1 dX9_fresh_163 rfl rfl ?_
        refine tq_iald dX9_fresh_164 (fun x30 => ?_)
        refine tq_iconst (-1) dX9_fresh_165 (by decide) ?_
        refine tq_icmp_ne 179 dX9_fresh_166 (by decide) (fun _ => ?_) (fun _ => ?_)
        · refine tq_aload_n 0 0 dX9_fresh_179 rfl rfl ?_
          refine tq_getR 13 dX9_fresh_180 cfX9 (by decide) wd_885 rfl rfl (fun x31 => ?_)
          refine tq_aload_n 0 0 dX9_fresh_183 rfl rfl ?_
          refine tq_getR 12 dX9_fresh_184 cfX9 (by decide) wd_884 rfl rfl (fun x32 => ?_)
          refine tq_iload_n 1 1 dX9_fresh_187 rfl rfl ?_
          refine tq_iald dX9_fresh_188 (fun x33 => ?_)
          refine tq_iload_n 3 3 dX9_fresh_189 rfl rfl ?_
          refine tq_iast dX9_fresh_190 (fun h34 => ?_)
          exact tq_sub [0, 1, 3] rfl (tX9_fresh_191 G v0 v1 v3 h34)
        · refine tq_aload_n 0 0 dX9_fresh_169 rfl rfl ?_
          refine tq_getR 11 dX9_fresh_170 cfX9 (by decide) wd_883 rfl rfl (fun x35 => ?_)
          refine tq_iload_n 1 1 dX9_fresh_173 rfl rfl ?_
          refine tq_iload_n 3 3 dX9_fresh_174 rfl rfl ?_
          refine tq_iast dX9_fresh_175 (fun h36 => ?_)
          refine tq_goto 191 dX9_fresh_176 (by decide) ?_
          exact tq_sub [0, 1, 3] rfl (tX9_fresh_191 G v0 v1 v3 h36)
    · exact tq_sub [] rfl (tX9_fresh_53 G h)
noncomputable def fX9_fresh_20  : Nat → Option Nat → Int32 → Int32 → Int32 → AH → Option (Int32 × AH)
  | 0, _, _, _, _, _ => none
  | n + 1, v0, v1, v2, v3, h => if (nI 120) ≤ v3 then (fX9_fresh_41 v0 v1 v2 v3 h) else (cGR h 9 456 v0 fun x1 => cAL h 2 x1 v3 fun x2 => if x2 = 0 then (fX9_fresh_41 v0 v1 v2 v3 h) else (fX9_fresh_20 n v0 v1 v2 (v3 + (nI 1)) h))
theorem tX9_fresh_20 (G : sr_G) : ∀ (n : Nat) (v0 : Option Nat) (v1 : Int32) (v2 : Int32) (v3 : Int32) (h : AH), sr_T (X := Int32) G 0 RX9 cX9_fresh 4 (some .int) false (sr_M G jI) 20 [(0, vR v0), (1, vI v1), (2, vI v2), (3, vI v3)] [] h (fX9_fresh_20  n v0 v1 v2 v3 h) := by
  intro n
  induction n with
  | zero => intro v0 v1 v2 v3 h; exact tq_none
  | succ n ih =>
    intro v0 v1 v2 v3 h
    unfold fX9_fresh_20
    refine tq_iload_n 3 3 dX9_fresh_20 rfl rfl ?_
    refine tq_bipush (nI 120) dX9_fresh_21 (by decide) ?_
    refine tq_icmp_ge 41 dX9_fresh_23 (by decide) (fun _ => ?_) (fun _ => ?_)
    · exact tX9_fresh_41 G v0 v1 v2 v3 h
    · refine tq_aload_n 0 0 dX9_fresh_26 rfl rfl ?_
      refine tq_getR 6 dX9_fresh_27 cfX9 (by decide) wd_878 rfl rfl (fun x1 => ?_)
      refine tq_iload_n 3 3 dX9_fresh_30 rfl rfl ?_
      refine tq_zald dX9_fresh_31 (fun x2 => ?_)
      refine tq_if_eq 41 dX9_fresh_32 (by decide) (fun _ => ?_) (fun _ => ?_)
      · exact tX9_fresh_41 G v0 v1 v2 v3 h
      · refine tq_iinc 3 (nI 1) (L' := [(3, vI (v3 + (nI 1))), (0, vR v0), (1, vI v1), (2, vI v2)]) dX9_fresh_35 rfl (by decide) (by decide) rfl ?_
        refine tq_goto 20 dX9_fresh_38 (by decide) ?_
        exact tq_sub [1, 2, 3, 0] rfl (ih v0 v1 v2 (v3 + (nI 1)) h)
noncomputable def fX9_fresh_17  (v0 : Option Nat) (v1 : Int32) (s0 : Int32) (h : AH) : Option (Int32 × AH) := fX9_fresh_20 FU v0 v1 s0 (nI 0) h
theorem tX9_fresh_17 (G : sr_G) (v0 : Option Nat) (v1 : Int32) (s0 : Int32) (h : AH) : sr_T (X := Int32) G 0 RX9 cX9_fresh 4 (some .int) false (sr_M G jI) 17 [(0, vR v0), (1, vI v1)] [vI s0] h (fX9_fresh_17  v0 v1 s0 h) := by
  unfold fX9_fresh_17
  refine tq_istore_n 2 (L' := [(2, vI s0), (0, vR v0), (1, vI v1)]) dX9_fresh_17 rfl (by decide) rfl ?_
  refine tq_iconst (nI 0) dX9_fresh_18 (by decide) ?_
  refine tq_istore_n 3 (L' := [(3, vI (nI 0)), (2, vI s0), (0, vR v0), (1, vI v1)]) dX9_fresh_19 rfl (by decide) rfl ?_
  exact tq_sub [2, 3, 1, 0] rfl (tX9_fresh_20 G FU v0 v1 s0 (nI 0) h)
noncomputable def fX9_fresh_0  (v0 : Option Nat) (v1 : Int32) (h : AH) : Option (Int32 × AH) := if v1 = (-1) then (fX9_fresh_17 v0 v1 (nI 0) h) else (cGR h 9 465 v0 fun x1 => cAL h 0 x1 v1 fun x2 => fX9_fresh_17 v0 v1 (x2 + (nI 1)) h)
theorem tX9_fresh_0 (G : sr_G) (v0 : Option Nat) (v1 : Int32) (h : AH) : sr_T (X := Int32) G 0 RX9 cX9_fresh 4 (some .int) false (sr_M G jI) 0 [(0, vR v0), (1, vI v1)] [] h (fX9_fresh_0  v0 v1 h) := by
  unfold fX9_fresh_0
  refine tq_iload_n 1 1 dX9_fresh_0 rfl rfl ?_
  refine tq_iconst (-1) dX9_fresh_1 (by decide) ?_
  refine tq_icmp_ne 9 dX9_fresh_2 (by decide) (fun _ => ?_) (fun _ => ?_)
  · refine tq_aload_n 0 0 dX9_fresh_9 rfl rfl ?_
    refine tq_getR 15 dX9_fresh_10 cfX9 (by decide) wd_887 rfl rfl (fun x1 => ?_)
    refine tq_iload_n 1 1 dX9_fresh_13 rfl rfl ?_
    refine tq_iald dX9_fresh_14 (fun x2 => ?_)
    refine tq_iconst (nI 1) dX9_fresh_15 (by decide) ?_
    refine tq_iadd dX9_fresh_16 ?_
    exact tX9_fresh_17 G v0 v1 (x2 + (nI 1)) h
  · refine tq_iconst (nI 0) dX9_fresh_5 (by decide) ?_
    refine tq_goto 17 dX9_fresh_6 (by decide) ?_
    exact tX9_fresh_17 G v0 v1 (nI 0) h
noncomputable def fX9_fresh (v0 : Option Nat) (v1 : Int32) (h : AH) : Option (Int32 × AH) := fX9_fresh_0 v0 v1 h
theorem eX9_fresh (G : sr_G) (v0 : Option Nat) (v1 : Int32) (h : AH) : sr_E G 0 yX9_fresh cX9_fresh 4 (some .int) jI [vR v0, vI v1] h (fX9_fresh v0 v1 h) := sr_E.of (own := RX9) (ini := false) (by decide) rfl (fun q => by first | rfl | cases q) rfl (Nat.le_of_ble_eq_true rfl) (tX9_fresh_0 G v0 v1 h)
noncomputable def fX9_emptyTree_21  (v0 : Option Nat) (h : AH) : Option (Unit × AH) := cPI h 9 475 v0 (nI 0) fun h1 => cCV h1 9 v0 (fX9_fresh v0 (-1) h1) fun x3 h2 => cGR h2 9 457 v0 fun x4 => cAS h2 0 x4 x3 (nI 0) fun h5 => cGR h5 9 458 v0 fun x6 => cAS h5 1 x6 (nI 0) (nI 100) fun h7 => cGR h7 9 458 v0 fun x8 => cAS h7 1 x8 (nI 1) (nI 105) fun h9 => cGR h9 9 458 v0 fun x10 => cAS h9 1 x10 (nI 2) (nI 118) fun h11 => cGR h11 9 459 v0 fun x12 => cAS h11 0 x12 (nI 0) (nI 3) fun h13 => some ((), h13)
theorem tX9_emptyTree_21 (G : sr_G) (v0 : Option Nat) (h : AH) : sr_T (X := Unit) G 1 RX9 cX9_emptyTree 2 none false (sr_M G jV) 21 [(0, vR v0)] [] h (fX9_emptyTree_21  v0 h) := by
  unfold fX9_emptyTree_21
  refine tq_aload_n 0 0 dX9_emptyTree_21 rfl rfl ?_
  refine tq_iconst (nI 0) dX9_emptyTree_22 (by decide) ?_
  refine tq_putI 25 dX9_emptyTree_23 cfX9 (by decide) wd_897 rfl rfl (Or.inl rfl) (fun h1 => ?_)
  refine tq_aload_n 0 0 dX9_emptyTree_26 rfl rfl ?_
  refine tq_iconst (-1) dX9_emptyTree_27 (by decide) ?_
  refine tq_cVI [vI (-1)] [] dX9_emptyTree_28 (eX9_fresh G v0 (-1) h1) (by decide) mbX9_fresh cfX9 rfl wd_868 wd_870 wd_44 rfl rfl (Nat.le_of_ble_eq_true rfl) (fun x3 h2 => ?_)
  refine tq_istore_n 1 (L' := [(1, vI x3), (0, vR v0)]) dX9_emptyTree_31 rfl (by decide) rfl ?_
  refine tq_aload_n 0 1 dX9_emptyTree_32 rfl rfl ?_
  refine tq_getR 7 dX9_emptyTree_33 cfX9 (by decide) wd_879 rfl rfl (fun x4 => ?_)
  refine tq_iload_n 1 0 dX9_emptyTree_36 rfl rfl ?_
  refine tq_iconst (nI 0) dX9_emptyTree_37 (by decide) ?_
  refine tq_iast dX9_emptyTree_38 (fun h5 => ?_)
  refine tq_aload_n 0 1 dX9_emptyTree_39 rfl rfl ?_
  refine tq_getR 8 dX9_emptyTree_40 cfX9 (by decide) wd_880 rfl rfl (fun x6 => ?_)
  refine tq_iconst (nI 0) dX9_emptyTree_43 (by decide) ?_
  refine tq_bipush (nI 100) dX9_emptyTree_44 (by decide) ?_
  refine tq_bast dX9_emptyTree_46 (fun h7 => ?_)
  refine tq_aload_n 0 1 dX9_emptyTree_47 rfl rfl ?_
  refine tq_getR 8 dX9_emptyTree_48 cfX9 (by decide) wd_880 rfl rfl (fun x8 => ?_)
  refine tq_iconst (nI 1) dX9_emptyTree_51 (by decide) ?_
  refine tq_bipush (nI 105) dX9_emptyTree_52 (by decide) ?_
  refine tq_bast dX9_emptyTree_54 (fun h9 => ?_)
  refine tq_aload_n 0 1 dX9_emptyTree_55 rfl rfl ?_
  refine tq_getR 8 dX9_emptyTree_56 cfX9 (by decide) wd_880 rfl rfl (fun x10 => ?_)
  refine tq_iconst (nI 2) dX9_emptyTree_59 (by decide) ?_
  refine tq_bipush (nI 118) dX9_emptyTree_60 (by decide) ?_
  refine tq_bast dX9_emptyTree_62 (fun h11 => ?_)
  refine tq_aload_n 0 1 dX9_emptyTree_63 rfl rfl ?_
  refine tq_getR 9 dX9_emptyTree_64 cfX9 (by decide) wd_881 rfl rfl (fun x12 => ?_)
  refine tq_iconst (nI 0) dX9_emptyTree_67 (by decide) ?_
  refine tq_iconst (nI 3) dX9_emptyTree_68 (by decide) ?_
  refine tq_iast dX9_emptyTree_69 (fun h13 => ?_)
  exact tq_vret rfl dX9_emptyTree_70
noncomputable def fX9_emptyTree_2  : Nat → Option Nat → Int32 → AH → Option (Unit × AH)
  | 0, _, _, _ => none
  | n + 1, v0, v1, h => if (nI 120) ≤ v1 then (fX9_emptyTree_21 v0 h) else (cGR h 9 456 v0 fun x1 => cAS h 2 x1 v1 (nI 0) fun h2 => fX9_emptyTree_2 n v0 (v1 + (nI 1)) h2)
theorem tX9_emptyTree_2 (G : sr_G) : ∀ (n : Nat) (v0 : Option Nat) (v1 : Int32) (h : AH), sr_T (X := Unit) G 1 RX9 cX9_emptyTree 2 none false (sr_M G jV) 2 [(0, vR v0), (1, vI v1)] [] h (fX9_emptyTree_2  n v0 v1 h) := by
  intro n
  induction n with
  | zero => intro v0 v1 h; exact tq_none
  | succ n ih =>
    intro v0 v1 h
    unfold fX9_emptyTree_2
    refine tq_iload_n 1 1 dX9_emptyTree_2 rfl rfl ?_
    refine tq_bipush (nI 120) dX9_emptyTree_3 (by decide) ?_
    refine tq_icmp_ge 21 dX9_emptyTree_5 (by decide) (fun _ => ?_) (fun _ => ?_)
    · exact tq_sub [0] rfl (tX9_emptyTree_21 G v0 h)
    · refine tq_aload_n 0 0 dX9_emptyTree_8 rfl rfl ?_
      refine tq_getR 6 dX9_emptyTree_9 cfX9 (by decide) wd_878 rfl rfl (fun x1 => ?_)
      refine tq_iload_n 1 1 dX9_emptyTree_12 rfl rfl ?_
      refine tq_iconst (nI 0) dX9_emptyTree_13 (by decide) ?_
      refine tq_zast dX9_emptyTree_14 (fun h2 => ?_)
      refine tq_iinc 1 (nI 1) (L' := [(1, vI (v1 + (nI 1))), (0, vR v0)]) dX9_emptyTree_15 rfl (by decide) (by decide) rfl ?_
      refine tq_goto 2 dX9_emptyTree_18 (by decide) ?_
      exact tq_sub [1, 0] rfl (ih v0 (v1 + (nI 1)) h2)
noncomputable def fX9_emptyTree_0  (v0 : Option Nat) (h : AH) : Option (Unit × AH) := fX9_emptyTree_2 FU v0 (nI 0) h
theorem tX9_emptyTree_0 (G : sr_G) (v0 : Option Nat) (h : AH) : sr_T (X := Unit) G 1 RX9 cX9_emptyTree 2 none false (sr_M G jV) 0 [(0, vR v0)] [] h (fX9_emptyTree_0  v0 h) := by
  unfold fX9_emptyTree_0
  refine tq_iconst (nI 0) dX9_emptyTree_0 (by decide) ?_
  refine tq_istore_n 1 (L' := [(1, vI (nI 0)), (0, vR v0)]) dX9_emptyTree_1 rfl (by decide) rfl ?_
  exact tq_sub [1, 0] rfl (tX9_emptyTree_2 G FU v0 (nI 0) h)
noncomputable def fX9_emptyTree (v0 : Option Nat) (h : AH) : Option (Unit × AH) := fX9_emptyTree_0 v0 h
theorem eX9_emptyTree (G : sr_G) (v0 : Option Nat) (h : AH) : sr_E G 1 yX9_emptyTree cX9_emptyTree 2 none jV [vR v0] h (fX9_emptyTree v0 h) := sr_E.of (own := RX9) (ini := false) (by decide) rfl (fun q => by first | rfl | cases q) rfl (Nat.le_of_ble_eq_true rfl) (tX9_emptyTree_0 G v0 h)
noncomputable def fX9_behind_42  (s0 : Int32) (h : AH) : Option (Int32 × AH) := some (s0, h)
theorem tX9_behind_42 (G : sr_G) (s0 : Int32) (h : AH) : sr_T (X := Int32) G 0 RX9 cX9_behind 4 (some .int) false (sr_M G jI) 42 [] [vI s0] h (fX9_behind_42  s0 h) := by
  unfold fX9_behind_42
  exact tq_iret rfl dX9_behind_42
noncomputable def fX9_behind_27  (v0 : Option Nat) (v2 : Int32) (v3 : Int32) (h : AH) : Option (Int32 × AH) := if v3 = v2 then (fX9_behind_42 (-1) h) else (cGR h 9 463 v0 fun x1 => cAL h 0 x1 v3 fun x2 => fX9_behind_42 x2 h)
theorem tX9_behind_27 (G : sr_G) (v0 : Option Nat) (v2 : Int32) (v3 : Int32) (h : AH) : sr_T (X := Int32) G 0 RX9 cX9_behind 4 (some .int) false (sr_M G jI) 27 [(0, vR v0), (2, vI v2), (3, vI v3)] [] h (fX9_behind_27  v0 v2 v3 h) := by
  unfold fX9_behind_27
  refine tq_iload_n 3 2 dX9_behind_27 rfl rfl ?_
  refine tq_iload_n 2 1 dX9_behind_28 rfl rfl ?_
  refine tq_icmp_ne 36 dX9_behind_29 (by decide) (fun _ => ?_) (fun _ => ?_)
  · refine tq_aload_n 0 0 dX9_behind_36 rfl rfl ?_
    refine tq_getR 13 dX9_behind_37 cfX9 (by decide) wd_885 rfl rfl (fun x1 => ?_)
    refine tq_iload_n 3 2 dX9_behind_40 rfl rfl ?_
    refine tq_iald dX9_behind_41 (fun x2 => ?_)
    exact tq_sub [] rfl (tX9_behind_42 G x2 h)
  · refine tq_iconst (-1) dX9_behind_32 (by decide) ?_
    refine tq_goto 42 dX9_behind_33 (by decide) ?_
    exact tq_sub [] rfl (tX9_behind_42 G (-1) h)
noncomputable def fX9_behind_2  : Nat → Option Nat → Int32 → Int32 → AH → Option (Int32 × AH)
  | 0, _, _, _, _ => none
  | n + 1, v0, v2, v3, h => if v3 = v2 then (fX9_behind_27 v0 v2 v3 h) else (cGR h 9 463 v0 fun x1 => cAL h 0 x1 v3 fun x2 => if x2 = (-1) then (cGR h 9 460 v0 fun x3 => cAL h 0 x3 v3 fun x4 => fX9_behind_2 n v0 v2 x4 h) else (fX9_behind_27 v0 v2 v3 h))
theorem tX9_behind_2 (G : sr_G) : ∀ (n : Nat) (v0 : Option Nat) (v2 : Int32) (v3 : Int32) (h : AH), sr_T (X := Int32) G 0 RX9 cX9_behind 4 (some .int) false (sr_M G jI) 2 [(0, vR v0), (2, vI v2), (3, vI v3)] [] h (fX9_behind_2  n v0 v2 v3 h) := by
  intro n
  induction n with
  | zero => intro v0 v2 v3 h; exact tq_none
  | succ n ih =>
    intro v0 v2 v3 h
    unfold fX9_behind_2
    refine tq_iload_n 3 2 dX9_behind_2 rfl rfl ?_
    refine tq_iload_n 2 1 dX9_behind_3 rfl rfl ?_
    refine tq_icmp_eq 27 dX9_behind_4 (by decide) (fun _ => ?_) (fun _ => ?_)
    · exact tX9_behind_27 G v0 v2 v3 h
    · refine tq_aload_n 0 0 dX9_behind_7 rfl rfl ?_
      refine tq_getR 13 dX9_behind_8 cfX9 (by decide) wd_885 rfl rfl (fun x1 => ?_)
      refine tq_iload_n 3 2 dX9_behind_11 rfl rfl ?_
      refine tq_iald dX9_behind_12 (fun x2 => ?_)
      refine tq_iconst (-1) dX9_behind_13 (by decide) ?_
      refine tq_icmp_ne 27 dX9_behind_14 (by decide) (fun _ => ?_) (fun _ => ?_)
      · exact tX9_behind_27 G v0 v2 v3 h
      · refine tq_aload_n 0 0 dX9_behind_17 rfl rfl ?_
        refine tq_getR 10 dX9_behind_18 cfX9 (by decide) wd_882 rfl rfl (fun x3 => ?_)
        refine tq_iload_n 3 2 dX9_behind_21 rfl rfl ?_
        refine tq_iald dX9_behind_22 (fun x4 => ?_)
        refine tq_istore_n 3 (L' := [(3, vI x4), (0, vR v0), (2, vI v2)]) dX9_behind_23 rfl (by decide) rfl ?_
        refine tq_goto 2 dX9_behind_24 (by decide) ?_
        exact tq_sub [1, 2, 0] rfl (ih v0 v2 x4 h)
noncomputable def fX9_behind_0  (v0 : Option Nat) (v1 : Int32) (v2 : Int32) (h : AH) : Option (Int32 × AH) := fX9_behind_2 FU v0 v2 v1 h
theorem tX9_behind_0 (G : sr_G) (v0 : Option Nat) (v1 : Int32) (v2 : Int32) (h : AH) : sr_T (X := Int32) G 0 RX9 cX9_behind 4 (some .int) false (sr_M G jI) 0 [(0, vR v0), (1, vI v1), (2, vI v2)] [] h (fX9_behind_0  v0 v1 v2 h) := by
  unfold fX9_behind_0
  refine tq_iload_n 1 1 dX9_behind_0 rfl rfl ?_
  refine tq_istore_n 3 (L' := [(3, vI v1), (0, vR v0), (1, vI v1), (2, vI v2)]) dX9_behind_1 rfl (by decide) rfl ?_
  exact tq_sub [1, 3, 0] rfl (tX9_behind_2 G FU v0 v2 v1 h)
noncomputable def fX9_behind (v0 : Option Nat) (v1 : Int32) (v2 : Int32) (h : AH) : Option (Int32 × AH) := fX9_behind_0 v0 v1 v2 h
theorem eX9_behind (G : sr_G) (v0 : Option Nat) (v1 : Int32) (v2 : Int32) (h : AH) : sr_E G 0 yX9_behind cX9_behind 4 (some .int) jI [vR v0, vI v1, vI v2] h (fX9_behind v0 v1 v2 h) := sr_E.of (own := RX9) (ini := false) (by decide) rfl (fun q => by first | rfl | cases q) rfl (Nat.le_of_ble_eq_true rfl) (tX9_behind_0 G v0 v1 v2 h)
noncomputable def fX9_after_0  (v0 : Option Nat) (v1 : Int32) (v2 : Int32) (h : AH) : Option (Int32 × AH) := cGR h 9 461 v0 fun x1 => cAL h 0 x1 v1 fun x2 => if x2 = (-1) then (cCV h 9 v0 (fX9_behind v0 v1 v2 h) fun x4 h3 => some (x4, h3)) else (cGR h 9 461 v0 fun x5 => cAL h 0 x5 v1 fun x6 => some (x6, h))
theorem tX9_after_0 (G : sr_G) (v0 : Option Nat) (v1 : Int32) (v2 : Int32) (h : AH) : sr_T (X := Int32) G 1 RX9 cX9_after 3 (some .int) false (sr_M G jI) 0 [(0, vR v0), (1, vI v1), (2, vI v2)] [] h (fX9_after_0  v0 v1 v2 h) := by
  unfold fX9_after_0
  refine tq_aload_n 0 0 dX9_after_0 rfl rfl ?_
  refine tq_getR 11 dX9_after_1 cfX9 (by decide) wd_883 rfl rfl (fun x1 => ?_)
  refine tq_iload_n 1 1 dX9_after_4 rfl rfl ?_
  refine tq_iald dX9_after_5 (fun x2 => ?_)
  refine tq_iconst (-1) dX9_after_6 (by decide) ?_
  refine tq_icmp_eq 17 dX9_after_7 (by decide) (fun _ => ?_) (fun _ => ?_)
  · refine tq_aload_n 0 0 dX9_after_17 rfl rfl ?_
    refine tq_iload_n 1 1 dX9_after_18 rfl rfl ?_
    refine tq_iload_n 2 2 dX9_after_19 rfl rfl ?_
    refine tq_cVI [vI v1, vI v2] [] dX9_after_20 (eX9_behind G v0 v1 v2 h) (by decide) mbX9_behind cfX9 rfl wd_1189 wd_1191 wd_68 rfl rfl (Nat.le_of_ble_eq_true rfl) (fun x4 h3 => ?_)
    exact tq_iret rfl dX9_after_23
  · refine tq_aload_n 0 0 dX9_after_10 rfl rfl ?_
    refine tq_getR 11 dX9_after_11 cfX9 (by decide) wd_883 rfl rfl (fun x5 => ?_)
    refine tq_iload_n 1 1 dX9_after_14 rfl rfl ?_
    refine tq_iald dX9_after_15 (fun x6 => ?_)
    exact tq_iret rfl dX9_after_16
noncomputable def fX9_after (v0 : Option Nat) (v1 : Int32) (v2 : Int32) (h : AH) : Option (Int32 × AH) := fX9_after_0 v0 v1 v2 h
theorem eX9_after (G : sr_G) (v0 : Option Nat) (v1 : Int32) (v2 : Int32) (h : AH) : sr_E G 1 yX9_after cX9_after 3 (some .int) jI [vR v0, vI v1, vI v2] h (fX9_after v0 v1 v2 h) := sr_E.of (own := RX9) (ini := false) (by decide) rfl (fun q => by first | rfl | cases q) rfl (Nat.le_of_ble_eq_true rfl) (tX9_after_0 G v0 v1 v2 h)
noncomputable def fX9_remove0_130   (h : AH) : Option (Unit × AH) := some ((), h)
theorem tX9_remove0_130 (G : sr_G)  (h : AH) : sr_T (X := Unit) G 2 RX9 cX9_remove0 4 none false (sr_M G jV) 130 [] [] h (fX9_remove0_130  h) := by
  unfold fX9_remove0_130
  exact tq_vret rfl dX9_remove0_130
noncomputable def fX9_remove0_96  : Nat → Option Nat → Int32 → Int32 → AH → Option (Unit × AH)
  | 0, _, _, _, _ => none
  | n + 1, v0, v1, v2, h => if v2 = (-1) then (fX9_remove0_130 h) else (cCV h 9 v0 (fX9_after v0 v2 v1 h) fun x2 h1 => cGR h1 9 456 v0 fun x3 => cAS h1 2 x3 v2 (nI 0) fun h4 => cGI h4 9 475 v0 fun x5 => cPI h4 9 475 v0 (x5 - (nI 1)) fun h6 => fX9_remove0_96 n v0 v1 x2 h6)
theorem tX9_remove0_96 (G : sr_G) : ∀ (n : Nat) (v0 : Option Nat) (v1 : Int32) (v2 : Int32) (h : AH), sr_T (X := Unit) G 2 RX9 cX9_remove0 4 none false (sr_M G jV) 96 [(0, vR v0), (1, vI v1), (2, vI v2)] [] h (fX9_remove0_96  n v0 v1 v2 h) := by
  intro n
  induction n with
  | zero => intro v0 v1 v2 h; exact tq_none
  | succ n ih =>
    intro v0 v1 v2 h
    unfold fX9_remove0_96
    refine tq_iload_n 2 2 dX9_remove0_96 rfl rfl ?_
    refine tq_iconst (-1) dX9_remove0_97 (by decide) ?_
    refine tq_icmp_eq 130 dX9_remove0_98 (by decide) (fun _ => ?_) (fun _ => ?_)
    · exact tq_sub [] rfl (tX9_remove0_130 G h)
    · refine tq_aload_n 0 0 dX9_remove0_101 rfl rfl ?_
      refine tq_iload_n 2 2 dX9_remove0_102 rfl rfl ?_
      refine tq_iload_n 1 1 dX9_remove0_103 rfl rfl ?_
      refine tq_cVI [vI v2, vI v1] [] dX9_remove0_104 (eX9_after G v0 v2 v1 h) (by decide) mbX9_after cfX9 rfl wd_1185 wd_1187 wd_67 rfl rfl (Nat.le_of_ble_eq_true rfl) (fun x2 h1 => ?_)
      refine tq_istore_n 3 (L' := [(3, vI x2), (0, vR v0), (1, vI v1), (2, vI v2)]) dX9_remove0_107 rfl (by decide) rfl ?_
      refine tq_aload_n 0 1 dX9_remove0_108 rfl rfl ?_
      refine tq_getR 6 dX9_remove0_109 cfX9 (by decide) wd_878 rfl rfl (fun x3 => ?_)
      refine tq_iload_n 2 3 dX9_remove0_112 rfl rfl ?_
      refine tq_iconst (nI 0) dX9_remove0_113 (by decide) ?_
      refine tq_zast dX9_remove0_114 (fun h4 => ?_)
      refine tq_aload_n 0 1 dX9_remove0_115 rfl rfl ?_
      refine tq_dupR dX9_remove0_116 ?_
      refine tq_getI 25 dX9_remove0_117 cfX9 (by decide) wd_897 rfl rfl (fun x5 => ?_)
      refine tq_iconst (nI 1) dX9_remove0_120 (by decide) ?_
      refine tq_isub dX9_remove0_121 ?_
      refine tq_putI 25 dX9_remove0_122 cfX9 (by decide) wd_897 rfl rfl (Or.inl rfl) (fun h6 => ?_)
      refine tq_iload_n 3 0 dX9_remove0_125 rfl rfl ?_
      refine tq_istore_n 2 (L' := [(2, vI x2), (3, vI x2), (0, vR v0), (1, vI v1)]) dX9_remove0_126 rfl (by decide) rfl ?_
      refine tq_goto 96 dX9_remove0_127 (by decide) ?_
      exact tq_sub [2, 3, 0] rfl (ih v0 v1 x2 h6)
noncomputable def fX9_remove0_94  (v0 : Option Nat) (v1 : Int32) (h : AH) : Option (Unit × AH) := fX9_remove0_96 FU v0 v1 v1 h
theorem tX9_remove0_94 (G : sr_G) (v0 : Option Nat) (v1 : Int32) (h : AH) : sr_T (X := Unit) G 2 RX9 cX9_remove0 4 none false (sr_M G jV) 94 [(0, vR v0), (1, vI v1)] [] h (fX9_remove0_94  v0 v1 h) := by
  unfold fX9_remove0_94
  refine tq_iload_n 1 1 dX9_remove0_94 rfl rfl ?_
  refine tq_istore_n 2 (L' := [(2, vI v1), (0, vR v0), (1, vI v1)]) dX9_remove0_95 rfl (by decide) rfl ?_
  exact tq_sub [1, 2, 0] rfl (tX9_remove0_96 G FU v0 v1 v1 h)
noncomputable def fX9_remove0_47  (v0 : Option Nat) (v1 : Int32) (h : AH) : Option (Unit × AH) := cGR h 9 463 v0 fun x1 => cAL h 0 x1 v1 fun x2 => if x2 = (-1) then (cGR h 9 462 v0 fun x9 => cGR h 9 460 v0 fun x10 => cAL h 0 x10 v1 fun x11 => cGR h 9 464 v0 fun x12 => cAL h 0 x12 v1 fun x13 => cAS h 0 x9 x11 x13 fun h14 => fX9_remove0_94 v0 v1 h14) else (cGR h 9 464 v0 fun x3 => cGR h 9 463 v0 fun x4 => cAL h 0 x4 v1 fun x5 => cGR h 9 464 v0 fun x6 => cAL h 0 x6 v1 fun x7 => cAS h 0 x3 x5 x7 fun h8 => fX9_remove0_94 v0 v1 h8)
theorem tX9_remove0_47 (G : sr_G) (v0 : Option Nat) (v1 : Int32) (h : AH) : sr_T (X := Unit) G 2 RX9 cX9_remove0 4 none false (sr_M G jV) 47 [(0, vR v0), (1, vI v1)] [] h (fX9_remove0_47  v0 v1 h) := by
  unfold fX9_remove0_47
  refine tq_aload_n 0 0 dX9_remove0_47 rfl rfl ?_
  refine tq_getR 13 dX9_remove0_48 cfX9 (by decide) wd_885 rfl rfl (fun x1 => ?_)
  refine tq_iload_n 1 1 dX9_remove0_51 rfl rfl ?_
  refine tq_iald dX9_remove0_52 (fun x2 => ?_)
  refine tq_iconst (-1) dX9_remove0_53 (by decide) ?_
  refine tq_icmp_ne 77 dX9_remove0_54 (by decide) (fun _ => ?_) (fun _ => ?_)
  · refine tq_aload_n 0 0 dX9_remove0_77 rfl rfl ?_
    refine tq_getR 14 dX9_remove0_78 cfX9 (by decide) wd_886 rfl rfl (fun x3 => ?_)
    refine tq_aload_n 0 0 dX9_remove0_81 rfl rfl ?_
    refine tq_getR 13 dX9_remove0_82 cfX9 (by decide) wd_885 rfl rfl (fun x4 => ?_)
    refine tq_iload_n 1 1 dX9_remove0_85 rfl rfl ?_
    refine tq_iald dX9_remove0_86 (fun x5 => ?_)
    refine tq_aload_n 0 0 dX9_remove0_87 rfl rfl ?_
    refine tq_getR 14 dX9_remove0_88 cfX9 (by decide) wd_886 rfl rfl (fun x6 => ?_)
    refine tq_iload_n 1 1 dX9_remove0_91 rfl rfl ?_
    refine tq_iald dX9_remove0_92 (fun x7 => ?_)
    refine tq_iast dX9_remove0_93 (fun h8 => ?_)
    exact tX9_remove0_94 G v0 v1 h8
  · refine tq_aload_n 0 0 dX9_remove0_57 rfl rfl ?_
    refine tq_getR 12 dX9_remove0_58 cfX9 (by decide) wd_884 rfl rfl (fun x9 => ?_)
    refine tq_aload_n 0 0 dX9_remove0_61 rfl rfl ?_
    refine tq_getR 10 dX9_remove0_62 cfX9 (by decide) wd_882 rfl rfl (fun x10 => ?_)
    refine tq_iload_n 1 1 dX9_remove0_65 rfl rfl ?_
    refine tq_iald dX9_remove0_66 (fun x11 => ?_)
    refine tq_aload_n 0 0 dX9_remove0_67 rfl rfl ?_
    refine tq_getR 14 dX9_remove0_68 cfX9 (by decide) wd_886 rfl rfl (fun x12 => ?_)
    refine tq_iload_n 1 1 dX9_remove0_71 rfl rfl ?_
    refine tq_iald dX9_remove0_72 (fun x13 => ?_)
    refine tq_iast dX9_remove0_73 (fun h14 => ?_)
    refine tq_goto 94 dX9_remove0_74 (by decide) ?_
    exact tX9_remove0_94 G v0 v1 h14
noncomputable def fX9_remove0_0  (v0 : Option Nat) (v1 : Int32) (h : AH) : Option (Unit × AH) := cGR h 9 464 v0 fun x1 => cAL h 0 x1 v1 fun x2 => if x2 = (-1) then (cGR h 9 461 v0 fun x9 => cGR h 9 460 v0 fun x10 => cAL h 0 x10 v1 fun x11 => cGR h 9 463 v0 fun x12 => cAL h 0 x12 v1 fun x13 => cAS h 0 x9 x11 x13 fun h14 => fX9_remove0_47 v0 v1 h14) else (cGR h 9 463 v0 fun x3 => cGR h 9 464 v0 fun x4 => cAL h 0 x4 v1 fun x5 => cGR h 9 463 v0 fun x6 => cAL h 0 x6 v1 fun x7 => cAS h 0 x3 x5 x7 fun h8 => fX9_remove0_47 v0 v1 h8)
theorem tX9_remove0_0 (G : sr_G) (v0 : Option Nat) (v1 : Int32) (h : AH) : sr_T (X := Unit) G 2 RX9 cX9_remove0 4 none false (sr_M G jV) 0 [(0, vR v0), (1, vI v1)] [] h (fX9_remove0_0  v0 v1 h) := by
  unfold fX9_remove0_0
  refine tq_aload_n 0 0 dX9_remove0_0 rfl rfl ?_
  refine tq_getR 14 dX9_remove0_1 cfX9 (by decide) wd_886 rfl rfl (fun x1 => ?_)
  refine tq_iload_n 1 1 dX9_remove0_4 rfl rfl ?_
  refine tq_iald dX9_remove0_5 (fun x2 => ?_)
  refine tq_iconst (-1) dX9_remove0_6 (by decide) ?_
  refine tq_icmp_ne 30 dX9_remove0_7 (by decide) (fun _ => ?_) (fun _ => ?_)
  · refine tq_aload_n 0 0 dX9_remove0_30 rfl rfl ?_
    refine tq_getR 13 dX9_remove0_31 cfX9 (by decide) wd_885 rfl rfl (fun x3 => ?_)
    refine tq_aload_n 0 0 dX9_remove0_34 rfl rfl ?_
    refine tq_getR 14 dX9_remove0_35 cfX9 (by decide) wd_886 rfl rfl (fun x4 => ?_)
    refine tq_iload_n 1 1 dX9_remove0_38 rfl rfl ?_
    refine tq_iald dX9_remove0_39 (fun x5 => ?_)
    refine tq_aload_n 0 0 dX9_remove0_40 rfl rfl ?_
    refine tq_getR 13 dX9_remove0_41 cfX9 (by decide) wd_885 rfl rfl (fun x6 => ?_)
    refine tq_iload_n 1 1 dX9_remove0_44 rfl rfl ?_
    refine tq_iald dX9_remove0_45 (fun x7 => ?_)
    refine tq_iast dX9_remove0_46 (fun h8 => ?_)
    exact tX9_remove0_47 G v0 v1 h8
  · refine tq_aload_n 0 0 dX9_remove0_10 rfl rfl ?_
    refine tq_getR 11 dX9_remove0_11 cfX9 (by decide) wd_883 rfl rfl (fun x9 => ?_)
    refine tq_aload_n 0 0 dX9_remove0_14 rfl rfl ?_
    refine tq_getR 10 dX9_remove0_15 cfX9 (by decide) wd_882 rfl rfl (fun x10 => ?_)
    refine tq_iload_n 1 1 dX9_remove0_18 rfl rfl ?_
    refine tq_iald dX9_remove0_19 (fun x11 => ?_)
    refine tq_aload_n 0 0 dX9_remove0_20 rfl rfl ?_
    refine tq_getR 13 dX9_remove0_21 cfX9 (by decide) wd_885 rfl rfl (fun x12 => ?_)
    refine tq_iload_n 1 1 dX9_remove0_24 rfl rfl ?_
    refine tq_iald dX9_remove0_25 (fun x13 => ?_)
    refine tq_iast dX9_remove0_26 (fun h14 => ?_)
    refine tq_goto 47 dX9_remove0_27 (by decide) ?_
    exact tX9_remove0_47 G v0 v1 h14
noncomputable def fX9_remove0 (v0 : Option Nat) (v1 : Int32) (h : AH) : Option (Unit × AH) := fX9_remove0_0 v0 v1 h
theorem eX9_remove0 (G : sr_G) (v0 : Option Nat) (v1 : Int32) (h : AH) : sr_E G 2 yX9_remove0 cX9_remove0 4 none jV [vR v0, vI v1] h (fX9_remove0 v0 v1 h) := sr_E.of (own := RX9) (ini := false) (by decide) rfl (fun q => by first | rfl | cases q) rfl (Nat.le_of_ble_eq_true rfl) (tX9_remove0_0 G v0 v1 h)
noncomputable def fX9_tellFault_29  (v0 : Option Nat) (h : AH) : Option (Unit × AH) := cGI h 9 476 v0 fun x1 => cPI h 9 476 v0 (x1 + (nI 1)) fun h2 => some ((), h2)
theorem tX9_tellFault_29 (G : sr_G) (v0 : Option Nat) (h : AH) : sr_T (X := Unit) G 0 RX9 cX9_tellFault 3 none false (sr_M G jV) 29 [(0, vR v0)] [] h (fX9_tellFault_29  v0 h) := by
  unfold fX9_tellFault_29
  refine tq_aload_n 0 0 dX9_tellFault_29 rfl rfl ?_
  refine tq_dupR dX9_tellFault_30 ?_
  refine tq_getI 26 dX9_tellFault_31 cfX9 (by decide) wd_898 rfl rfl (fun x1 => ?_)
  refine tq_iconst (nI 1) dX9_tellFault_34 (by decide) ?_
  refine tq_iadd dX9_tellFault_35 ?_
  refine tq_putI 26 dX9_tellFault_36 cfX9 (by decide) wd_898 rfl rfl (Or.inl rfl) (fun h2 => ?_)
  exact tq_vret rfl dX9_tellFault_39
noncomputable def fX9_tellFault_0  (v0 : Option Nat) (v1 : Int32) (v2 : Int32) (h : AH) : Option (Unit × AH) := cGI h 9 476 v0 fun x1 => if (nI 40) ≤ x1 then (fX9_tellFault_29 v0 h) else (cGR h 9 477 v0 fun x2 => cGI h 9 476 v0 fun x3 => cAS h 0 x2 x3 v1 fun h4 => cGR h4 9 478 v0 fun x5 => cGI h4 9 476 v0 fun x6 => cAS h4 0 x5 x6 v2 fun h7 => fX9_tellFault_29 v0 h7)
theorem tX9_tellFault_0 (G : sr_G) (v0 : Option Nat) (v1 : Int32) (v2 : Int32) (h : AH) : sr_T (X := Unit) G 0 RX9 cX9_tellFault 3 none false (sr_M G jV) 0 [(0, vR v0), (1, vI v1), (2, vI v2)] [] h (fX9_tellFault_0  v0 v1 v2 h) := by
  unfold fX9_tellFault_0
  refine tq_aload_n 0 0 dX9_tellFault_0 rfl rfl ?_
  refine tq_getI 26 dX9_tellFault_1 cfX9 (by decide) wd_898 rfl rfl (fun x1 => ?_)
  refine tq_bipush (nI 40) dX9_tellFault_4 (by decide) ?_
  refine tq_icmp_ge 29 dX9_tellFault_6 (by decide) (fun _ => ?_) (fun _ => ?_)
  · exact tq_sub [0] rfl (tX9_tellFault_29 G v0 h)
  · refine tq_aload_n 0 0 dX9_tellFault_9 rfl rfl ?_
    refine tq_getR 27 dX9_tellFault_10 cfX9 (by decide) wd_899 rfl rfl (fun x2 => ?_)
    refine tq_aload_n 0 0 dX9_tellFault_13 rfl rfl ?_
    refine tq_getI 26 dX9_tellFault_14 cfX9 (by decide) wd_898 rfl rfl (fun x3 => ?_)
    refine tq_iload_n 1 1 dX9_tellFault_17 rfl rfl ?_
    refine tq_iast dX9_tellFault_18 (fun h4 => ?_)
    refine tq_aload_n 0 0 dX9_tellFault_19 rfl rfl ?_
    refine tq_getR 28 dX9_tellFault_20 cfX9 (by decide) wd_900 rfl rfl (fun x5 => ?_)
    refine tq_aload_n 0 0 dX9_tellFault_23 rfl rfl ?_
    refine tq_getI 26 dX9_tellFault_24 cfX9 (by decide) wd_898 rfl rfl (fun x6 => ?_)
    refine tq_iload_n 2 2 dX9_tellFault_27 rfl rfl ?_
    refine tq_iast dX9_tellFault_28 (fun h7 => ?_)
    exact tq_sub [0] rfl (tX9_tellFault_29 G v0 h7)
noncomputable def fX9_tellFault (v0 : Option Nat) (v1 : Int32) (v2 : Int32) (h : AH) : Option (Unit × AH) := fX9_tellFault_0 v0 v1 v2 h
theorem eX9_tellFault (G : sr_G) (v0 : Option Nat) (v1 : Int32) (v2 : Int32) (h : AH) : sr_E G 0 yX9_tellFault cX9_tellFault 3 none jV [vR v0, vI v1, vI v2] h (fX9_tellFault v0 v1 v2 h) := sr_E.of (own := RX9) (ini := false) (by decide) rfl (fun q => by first | rfl | cases q) rfl (Nat.le_of_ble_eq_true rfl) (tX9_tellFault_0 G v0 v1 v2 h)
noncomputable def fX9_isAt_50  (s0 : Int32) (h : AH) : Option (Int32 × AH) := cZ s0 (some (s0, h))
theorem tX9_isAt_50 (G : sr_G) (s0 : Int32) (h : AH) : sr_T (X := Int32) G 0 RX9 cX9_isAt 5 (some .boolean) false (sr_M G jI) 50 [] [vI s0] h (fX9_isAt_50  s0 h) := by
  unfold fX9_isAt_50
  exact tq_zret rfl dX9_isAt_50
noncomputable def fX9_isAt_49   (h : AH) : Option (Int32 × AH) := fX9_isAt_50 (nI 0) h
theorem tX9_isAt_49 (G : sr_G)  (h : AH) : sr_T (X := Int32) G 0 RX9 cX9_isAt 5 (some .boolean) false (sr_M G jI) 49 [] [] h (fX9_isAt_49  h) := by
  unfold fX9_isAt_49
  refine tq_iconst (nI 0) dX9_isAt_49 (by decide) ?_
  exact tX9_isAt_50 G (nI 0) h
noncomputable def fX9_isAt_0  (v0 : Option Nat) (v1 : Int32) (v2 : Int32) (v3 : Int32) (v4 : Int32) (h : AH) : Option (Int32 × AH) := cGI h 9 482 v0 fun x1 => if x1 ≤ (v1 + (nI 2)) then (fX9_isAt_49 h) else (cGR h 9 481 v0 fun x2 => cAL h 1 x2 v1 fun x3 => if x3 = v2 then (cGR h 9 481 v0 fun x4 => cAL h 1 x4 (v1 + (nI 1)) fun x5 => if x5 = v3 then (cGR h 9 481 v0 fun x6 => cAL h 1 x6 (v1 + (nI 2)) fun x7 => if x7 = v4 then (fX9_isAt_50 (nI 1) h) else (fX9_isAt_49 h)) else (fX9_isAt_49 h)) else (fX9_isAt_49 h))
theorem tX9_isAt_0 (G : sr_G) (v0 : Option Nat) (v1 : Int32) (v2 : Int32) (v3 : Int32) (v4 : Int32) (h : AH) : sr_T (X := Int32) G 0 RX9 cX9_isAt 5 (some .boolean) false (sr_M G jI) 0 [(0, vR v0), (1, vI v1), (2, vI v2), (3, vI v3), (4, vI v4)] [] h (fX9_isAt_0  v0 v1 v2 v3 v4 h) := by
  unfold fX9_isAt_0
  refine tq_iload_n 1 1 dX9_isAt_0 rfl rfl ?_
  refine tq_iconst (nI 2) dX9_isAt_1 (by decide) ?_
  refine tq_iadd dX9_isAt_2 ?_
  refine tq_aload_n 0 0 dX9_isAt_3 rfl rfl ?_
  refine tq_getI 32 dX9_isAt_4 cfX9 (by decide) wd_904 rfl rfl (fun x1 => ?_)
  refine tq_icmp_ge 49 dX9_isAt_7 (by decide) (fun _ => ?_) (fun _ => ?_)
  · exact tq_sub [] rfl (tX9_isAt_49 G h)
  · refine tq_aload_n 0 0 dX9_isAt_10 rfl rfl ?_
    refine tq_getR 31 dX9_isAt_11 cfX9 (by decide) wd_903 rfl rfl (fun x2 => ?_)
    refine tq_iload_n 1 1 dX9_isAt_14 rfl rfl ?_
    refine tq_bald dX9_isAt_15 (fun x3 => ?_)
    refine tq_iload_n 2 2 dX9_isAt_16 rfl rfl ?_
    refine tq_icmp_ne 49 dX9_isAt_17 (by decide) (fun _ => ?_) (fun _ => ?_)
    · exact tq_sub [] rfl (tX9_isAt_49 G h)
    · refine tq_aload_n 0 0 dX9_isAt_20 rfl rfl ?_
      refine tq_getR 31 dX9_isAt_21 cfX9 (by decide) wd_903 rfl rfl (fun x4 => ?_)
      refine tq_iload_n 1 1 dX9_isAt_24 rfl rfl ?_
      refine tq_iconst (nI 1) dX9_isAt_25 (by decide) ?_
      refine tq_iadd dX9_isAt_26 ?_
      refine tq_bald dX9_isAt_27 (fun x5 => ?_)
      refine tq_iload_n 3 3 dX9_isAt_28 rfl rfl ?_
      refine tq_icmp_ne 49 dX9_isAt_29 (by decide) (fun _ => ?_) (fun _ => ?_)
      · exact tq_sub [] rfl (tX9_isAt_49 G h)
      · refine tq_aload_n 0 0 dX9_isAt_32 rfl rfl ?_
        refine tq_getR 31 dX9_isAt_33 cfX9 (by decide) wd_903 rfl rfl (fun x6 => ?_)
        refine tq_iload_n 1 1 dX9_isAt_36 rfl rfl ?_
        refine tq_iconst (nI 2) dX9_isAt_37 (by decide) ?_
        refine tq_iadd dX9_isAt_38 ?_
        refine tq_bald dX9_isAt_39 (fun x7 => ?_)
        refine tq_iload 4 dX9_isAt_40 rfl ?_
        refine tq_icmp_ne 49 dX9_isAt_42 (by decide) (fun _ => ?_) (fun _ => ?_)
        · exact tq_sub [] rfl (tX9_isAt_49 G h)
        · refine tq_iconst (nI 1) dX9_isAt_45 (by decide) ?_
          refine tq_goto 50 dX9_isAt_46 (by decide) ?_
          exact tq_sub [] rfl (tX9_isAt_50 G (nI 1) h)
noncomputable def fX9_isAt (v0 : Option Nat) (v1 : Int32) (v2 : Int32) (v3 : Int32) (v4 : Int32) (h : AH) : Option (Int32 × AH) := fX9_isAt_0 v0 v1 v2 v3 v4 h
theorem eX9_isAt (G : sr_G) (v0 : Option Nat) (v1 : Int32) (v2 : Int32) (v3 : Int32) (v4 : Int32) (h : AH) : sr_E G 0 yX9_isAt cX9_isAt 5 (some .boolean) jI [vR v0, vI v1, vI v2, vI v3, vI v4] h (fX9_isAt v0 v1 v2 v3 v4 h) := sr_E.of (own := RX9) (ini := false) (by decide) rfl (fun q => by first | rfl | cases q) rfl (Nat.le_of_ble_eq_true rfl) (tX9_isAt_0 G v0 v1 v2 v3 v4 h)

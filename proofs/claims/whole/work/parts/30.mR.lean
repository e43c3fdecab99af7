noncomputable def fX9_out_26  (s0 : Int32) (h : AH) : Option (Int32 × AH) := some (s0, h)
theorem tX9_out_26 (G : sr_G) (s0 : Int32) (h : AH) : sr_T (X := Int32) G 0 RX9 cX9_out 2 (some .int) false (sr_M G jI) 26 [] [vI s0] h (fX9_out_26  s0 h) := by
  unfold fX9_out_26
  exact tq_iret rfl dX9_out_26
noncomputable def fX9_out_12   (h : AH) : Option (Int32 × AH) := fX9_out_26 (-1) h
theorem tX9_out_12 (G : sr_G)  (h : AH) : sr_T (X := Int32) G 0 RX9 cX9_out 2 (some .int) false (sr_M G jI) 12 [] [] h (fX9_out_12  h) := by
  unfold fX9_out_12
  refine tq_iconst (-1) dX9_out_12 (by decide) ?_
  refine tq_goto 26 dX9_out_13 (by decide) ?_
  exact tX9_out_26 G (-1) h
noncomputable def fX9_out_0  (v0 : Option Nat) (v1 : Int32) (h : AH) : Option (Int32 × AH) := if v1 < 0 then (fX9_out_12 h) else (cGI h 9 455 v0 fun x1 => if v1 < x1 then (cGR h 9 454 v0 fun x2 => cAL h 1 x2 v1 fun x3 => fX9_out_26 (x3 &&& (nI 255)) h) else (fX9_out_12 h))
theorem tX9_out_0 (G : sr_G) (v0 : Option Nat) (v1 : Int32) (h : AH) : sr_T (X := Int32) G 0 RX9 cX9_out 2 (some .int) false (sr_M G jI) 0 [(0, vR v0), (1, vI v1)] [] h (fX9_out_0  v0 v1 h) := by
  unfold fX9_out_0
  refine tq_iload_n 1 1 dX9_out_0 rfl rfl ?_
  refine tq_if_lt 12 dX9_out_1 (by decide) (fun _ => ?_) (fun _ => ?_)
  · exact tq_sub [] rfl (tX9_out_12 G h)
  · refine tq_iload_n 1 1 dX9_out_4 rfl rfl ?_
    refine tq_aload_n 0 0 dX9_out_5 rfl rfl ?_
    refine tq_getI 5 dX9_out_6 cfX9 (by decide) wd_877 rfl rfl (fun x1 => ?_)
    refine tq_icmp_lt 16 dX9_out_9 (by decide) (fun _ => ?_) (fun _ => ?_)
    · refine tq_aload_n 0 0 dX9_out_16 rfl rfl ?_
      refine tq_getR 4 dX9_out_17 cfX9 (by decide) wd_876 rfl rfl (fun x2 => ?_)
      refine tq_iload_n 1 1 dX9_out_20 rfl rfl ?_
      refine tq_bald dX9_out_21 (fun x3 => ?_)
      refine tq_sipush (nI 255) dX9_out_22 (by decide) ?_
      refine tq_iand dX9_out_25 ?_
      exact tq_sub [] rfl (tX9_out_26 G (x3 &&& (nI 255)) h)
    · exact tq_sub [] rfl (tX9_out_12 G h)
noncomputable def fX9_out (v0 : Option Nat) (v1 : Int32) (h : AH) : Option (Int32 × AH) := fX9_out_0 v0 v1 h
theorem eX9_out (G : sr_G) (v0 : Option Nat) (v1 : Int32) (h : AH) : sr_E G 0 yX9_out cX9_out 2 (some .int) jI [vR v0, vI v1] h (fX9_out v0 v1 h) := sr_E.of (own := RX9) (ini := false) (by decide) rfl (fun q => by first | rfl | cases q) rfl (Nat.le_of_ble_eq_true rfl) (tX9_out_0 G v0 v1 h)
noncomputable def fX9_page_62  (v0 : Option Nat) (h : AH) : Option (Int32 × AH) := cCV h 9 v0 (fX9_readPage v0 h) fun _ h1 => cGI h1 9 475 v0 fun x2 => some (x2, h1)
theorem tX9_page_62 (G : sr_G) (v0 : Option Nat) (h : AH) : sr_T (X := Int32) G 5 RX9 cX9_page 3 (some .int) false (sr_M G jI) 62 [(0, vR v0)] [] h (fX9_page_62  v0 h) := by
  unfold fX9_page_62
  refine tq_aload_n 0 0 dX9_page_62 rfl rfl ?_
  refine tq_cVV [] [] dX9_page_63 (eX9_readPage G v0 h) (by decide) mbX9_readPage cfX9 rfl wd_1036 wd_1038 wd_47 rfl rfl (Nat.le_of_ble_eq_true rfl) (fun _ h1 => ?_)
  refine tq_aload_n 0 0 dX9_page_66 rfl rfl ?_
  refine tq_getI 25 dX9_page_67 cfX9 (by decide) wd_897 rfl rfl (fun x2 => ?_)
  exact tq_iret rfl dX9_page_70
noncomputable def fX9_page_36  : Nat → Option Nat → Int32 → AH → Option (Int32 × AH)
  | 0, _, _, _ => none
  | n + 1, v0, v2, h => cGI h 9 453 v0 fun x1 => if x1 ≤ v2 then (fX9_page_62 v0 h) else (cGR h 9 481 v0 fun x2 => cGR h 9 452 v0 fun x3 => cAL h 1 x3 v2 fun x4 => cAS h 1 x2 v2 x4 fun h5 => fX9_page_36 n v0 (v2 + (nI 1)) h5)
theorem tX9_page_36 (G : sr_G) : ∀ (n : Nat) (v0 : Option Nat) (v2 : Int32) (h : AH), sr_T (X := Int32) G 5 RX9 cX9_page 3 (some .int) false (sr_M G jI) 36 [(0, vR v0), (2, vI v2)] [] h (fX9_page_36  n v0 v2 h) := by
  intro n
  induction n with
  | zero => intro v0 v2 h; exact tq_none
  | succ n ih =>
    intro v0 v2 h
    unfold fX9_page_36
    refine tq_iload_n 2 1 dX9_page_36 rfl rfl ?_
    refine tq_aload_n 0 0 dX9_page_37 rfl rfl ?_
    refine tq_getI 3 dX9_page_38 cfX9 (by decide) wd_875 rfl rfl (fun x1 => ?_)
    refine tq_icmp_ge 62 dX9_page_41 (by decide) (fun _ => ?_) (fun _ => ?_)
    · exact tq_sub [0] rfl (tX9_page_62 G v0 h)
    · refine tq_aload_n 0 0 dX9_page_44 rfl rfl ?_
      refine tq_getR 31 dX9_page_45 cfX9 (by decide) wd_903 rfl rfl (fun x2 => ?_)
      refine tq_iload_n 2 1 dX9_page_48 rfl rfl ?_
      refine tq_aload_n 0 0 dX9_page_49 rfl rfl ?_
      refine tq_getR 2 dX9_page_50 cfX9 (by decide) wd_874 rfl rfl (fun x3 => ?_)
      refine tq_iload_n 2 1 dX9_page_53 rfl rfl ?_
      refine tq_bald dX9_page_54 (fun x4 => ?_)
      refine tq_bast dX9_page_55 (fun h5 => ?_)
      refine tq_iinc 1 (nI 1) (L' := [(2, vI (v2 + (nI 1))), (0, vR v0)]) dX9_page_56 rfl (by decide) (by decide) rfl ?_
      refine tq_goto 36 dX9_page_59 (by decide) ?_
      exact tq_sub [1, 0] rfl (ih v0 (v2 + (nI 1)) h5)
noncomputable def fX9_page_0  (v0 : Option Nat) (h : AH) : Option (Int32 × AH) := cCV h 9 v0 (fX9_take v0 h) fun x2 h1 => if x2 < 0 then (cGI h1 9 453 v0 fun x3 => if x3 ≤ (nI 1500) then (cGI h1 9 453 v0 fun x4 => cPI h1 9 482 v0 x4 fun h5 => fX9_page_36 FU v0 (nI 0) h5) else (some ((-1), h1))) else (cCL (fX9_wrong x2 h1) fun x7 h6 => some (x7, h6))
theorem tX9_page_0 (G : sr_G) (v0 : Option Nat) (h : AH) : sr_T (X := Int32) G 5 RX9 cX9_page 3 (some .int) false (sr_M G jI) 0 [(0, vR v0)] [] h (fX9_page_0  v0 h) := by
  unfold fX9_page_0
  refine tq_aload_n 0 0 dX9_page_0 rfl rfl ?_
  refine tq_cVI [] [] dX9_page_1 (eX9_take G v0 h) (by decide) mbX9_take cfX9 rfl wd_1029 wd_1031 wd_46 rfl rfl (Nat.le_of_ble_eq_true rfl) (fun x2 h1 => ?_)
  refine tq_istore_n 1 (L' := [(1, vI x2), (0, vR v0)]) dX9_page_4 rfl (by decide) rfl ?_
  refine tq_iload_n 1 0 dX9_page_5 rfl rfl ?_
  refine tq_if_lt 14 dX9_page_6 (by decide) (fun _ => ?_) (fun _ => ?_)
  · refine tq_aload_n 0 1 dX9_page_14 rfl rfl ?_
    refine tq_getI 3 dX9_page_15 cfX9 (by decide) wd_875 rfl rfl (fun x3 => ?_)
    refine tq_sipush (nI 1500) dX9_page_18 (by decide) ?_
    refine tq_icmp_le 26 dX9_page_21 (by decide) (fun _ => ?_) (fun _ => ?_)
    · refine tq_aload_n 0 1 dX9_page_26 rfl rfl ?_
      refine tq_aload_n 0 1 dX9_page_27 rfl rfl ?_
      refine tq_getI 3 dX9_page_28 cfX9 (by decide) wd_875 rfl rfl (fun x4 => ?_)
      refine tq_putI 32 dX9_page_31 cfX9 (by decide) wd_904 rfl rfl (Or.inl rfl) (fun h5 => ?_)
      refine tq_iconst (nI 0) dX9_page_34 (by decide) ?_
      refine tq_istore_n 2 (L' := [(2, vI (nI 0)), (1, vI x2), (0, vR v0)]) dX9_page_35 rfl (by decide) rfl ?_
      exact tq_sub [2, 0] rfl (tX9_page_36 G FU v0 (nI 0) h5)
    · refine tq_iconst (-1) dX9_page_24 (by decide) ?_
      exact tq_iret rfl dX9_page_25
  · refine tq_iload_n 1 0 dX9_page_9 rfl rfl ?_
    refine tq_cSI [vI x2] [] dX9_page_10 (eX9_wrong G x2 h1) (by decide) mbX9_wrong wd_1033 wd_1034 rfl rfl (Nat.le_of_ble_eq_true rfl) (fun x7 h6 => ?_)
    exact tq_iret rfl dX9_page_13
noncomputable def fX9_page (v0 : Option Nat) (h : AH) : Option (Int32 × AH) := fX9_page_0 v0 h
theorem eX9_page (G : sr_G) (v0 : Option Nat) (h : AH) : sr_E G 5 yX9_page cX9_page 3 (some .int) jI [vR v0] h (fX9_page v0 h) := sr_E.of (own := RX9) (ini := false) (by decide) rfl (fun q => by first | rfl | cases q) rfl (Nat.le_of_ble_eq_true rfl) (tX9_page_0 G v0 h)
noncomputable def fX9_wrongName_61  (s0 : Int32) (h : AH) : Option (Int32 × AH) := some (s0, h)
theorem tX9_wrongName_61 (G : sr_G) (s0 : Int32) (h : AH) : sr_T (X := Int32) G 1 RX9 cX9_wrongName 3 (some .int) false (sr_M G jI) 61 [] [vI s0] h (fX9_wrongName_61  s0 h) := by
  unfold fX9_wrongName_61
  exact tq_iret rfl dX9_wrongName_61
noncomputable def fX9_wrongName_56  (v2 : Int32) (h : AH) : Option (Int32 × AH) := fX9_wrongName_61 v2 h
theorem tX9_wrongName_56 (G : sr_G) (v2 : Int32) (h : AH) : sr_T (X := Int32) G 1 RX9 cX9_wrongName 3 (some .int) false (sr_M G jI) 56 [(2, vI v2)] [] h (fX9_wrongName_56  v2 h) := by
  unfold fX9_wrongName_56
  refine tq_iload_n 2 0 dX9_wrongName_56 rfl rfl ?_
  refine tq_goto 61 dX9_wrongName_57 (by decide) ?_
  exact tq_sub [] rfl (tX9_wrongName_61 G v2 h)
noncomputable def fX9_wrongName_47  (v1 : Int32) (v2 : Int32) (h : AH) : Option (Int32 × AH) := if v2 < v1 then (fX9_wrongName_56 v2 h) else (if v2 = 0 then (fX9_wrongName_56 v2 h) else (fX9_wrongName_61 (-1) h))
theorem tX9_wrongName_47 (G : sr_G) (v1 : Int32) (v2 : Int32) (h : AH) : sr_T (X := Int32) G 1 RX9 cX9_wrongName 3 (some .int) false (sr_M G jI) 47 [(1, vI v1), (2, vI v2)] [] h (fX9_wrongName_47  v1 v2 h) := by
  unfold fX9_wrongName_47
  refine tq_iload_n 2 1 dX9_wrongName_47 rfl rfl ?_
  refine tq_iload_n 1 0 dX9_wrongName_48 rfl rfl ?_
  refine tq_icmp_lt 56 dX9_wrongName_49 (by decide) (fun _ => ?_) (fun _ => ?_)
  · exact tq_sub [1] rfl (tX9_wrongName_56 G v2 h)
  · refine tq_iload_n 2 1 dX9_wrongName_52 rfl rfl ?_
    refine tq_if_ne 60 dX9_wrongName_53 (by decide) (fun _ => ?_) (fun _ => ?_)
    · refine tq_iconst (-1) dX9_wrongName_60 (by decide) ?_
      exact tq_sub [] rfl (tX9_wrongName_61 G (-1) h)
    · exact tq_sub [1] rfl (tX9_wrongName_56 G v2 h)
noncomputable def fX9_wrongName_41 (r2 : Option Nat → Int32 → Int32 → AH → Option (Int32 × AH)) (v0 : Option Nat) (v1 : Int32) (v2 : Int32) (h : AH) : Option (Int32 × AH) := r2 v0 v1 (v2 + (nI 1)) h
theorem tX9_wrongName_41 (G : sr_G) {r2 : Option Nat → Int32 → Int32 → AH → Option (Int32 × AH)} (hr2 : ∀ (v0 : Option Nat) (v1 : Int32) (v2 : Int32) (h : AH), sr_T (X := Int32) G 1 RX9 cX9_wrongName 3 (some .int) false (sr_M G jI) 2 [(0, vR v0), (1, vI v1), (2, vI v2)] [] h (r2 v0 v1 v2 h)) (v0 : Option Nat) (v1 : Int32) (v2 : Int32) (h : AH) : sr_T (X := Int32) G 1 RX9 cX9_wrongName 3 (some .int) false (sr_M G jI) 41 [(0, vR v0), (1, vI v1), (2, vI v2)] [] h (fX9_wrongName_41 r2 v0 v1 v2 h) := by
  unfold fX9_wrongName_41
  refine tq_iinc 2 (nI 1) (L' := [(2, vI (v2 + (nI 1))), (0, vR v0), (1, vI v1)]) dX9_wrongName_41 rfl (by decide) (by decide) rfl ?_
  refine tq_goto 2 dX9_wrongName_44 (by decide) ?_
  exact tq_sub [1, 2, 0] rfl (hr2 v0 v1 (v2 + (nI 1)) h)
noncomputable def fX9_wrongName_2  : Nat → Option Nat → Int32 → Int32 → AH → Option (Int32 × AH)
  | 0, _, _, _, _ => none
  | n + 1, v0, v1, v2, h => if v1 ≤ v2 then (fX9_wrongName_47 v1 v2 h) else (if (nI 8) ≤ v2 then (fX9_wrongName_47 v1 v2 h) else (cGR h 9 452 v0 fun x1 => cAL h 1 x1 v2 fun x2 => cCL (fX9_isSmall x2 h) fun x4 h3 => if x4 = 0 then (if v2 ≤ 0 then (fX9_wrongName_47 v1 v2 h3) else (cGR h3 9 452 v0 fun x5 => cAL h3 1 x5 v2 fun x6 => cCL (fX9_isDigit x6 h3) fun x8 h7 => if x8 = 0 then (fX9_wrongName_47 v1 v2 h7) else (fX9_wrongName_41 (fX9_wrongName_2 n) v0 v1 v2 h7))) else (fX9_wrongName_41 (fX9_wrongName_2 n) v0 v1 v2 h3)))
theorem tX9_wrongName_2 (G : sr_G) : ∀ (n : Nat) (v0 : Option Nat) (v1 : Int32) (v2 : Int32) (h : AH), sr_T (X := Int32) G 1 RX9 cX9_wrongName 3 (some .int) false (sr_M G jI) 2 [(0, vR v0), (1, vI v1), (2, vI v2)] [] h (fX9_wrongName_2  n v0 v1 v2 h) := by
  intro n
  induction n with
  | zero => intro v0 v1 v2 h; exact tq_none
  | succ n ih =>
    intro v0 v1 v2 h
    unfold fX9_wrongName_2
    refine tq_iload_n 2 2 dX9_wrongName_2 rfl rfl ?_
    refine tq_iload_n 1 1 dX9_wrongName_3 rfl rfl ?_
    refine tq_icmp_ge 47 dX9_wrongName_4 (by decide) (fun _ => ?_) (fun _ => ?_)
    · exact tq_sub [1, 2] rfl (tX9_wrongName_47 G v1 v2 h)
    · refine tq_iload_n 2 2 dX9_wrongName_7 rfl rfl ?_
      refine tq_bipush (nI 8) dX9_wrongName_8 (by decide) ?_
      refine tq_icmp_ge 47 dX9_wrongName_10 (by decide) (fun _ => ?_) (fun _ => ?_)
      · exact tq_sub [1, 2] rfl (tX9_wrongName_47 G v1 v2 h)
      · refine tq_aload_n 0 0 dX9_wrongName_13 rfl rfl ?_
        refine tq_getR 2 dX9_wrongName_14 cfX9 (by decide) wd_874 rfl rfl (fun x1 => ?_)
        refine tq_iload_n 2 2 dX9_wrongName_17 rfl rfl ?_
        refine tq_bald dX9_wrongName_18 (fun x2 => ?_)
        refine tq_cSI [vI x2] [] dX9_wrongName_19 (eX9_isSmall G x2 h) (by decide) mbX9_isSmall wd_1088 wd_1089 rfl rfl (Nat.le_of_ble_eq_true rfl) (fun x4 h3 => ?_)
        refine tq_if_ne 41 dX9_wrongName_22 (by decide) (fun _ => ?_) (fun _ => ?_)
        · exact tX9_wrongName_41 G ih v0 v1 v2 h3
        · refine tq_iload_n 2 2 dX9_wrongName_25 rfl rfl ?_
          refine tq_if_le 47 dX9_wrongName_26 (by decide) (fun _ => ?_) (fun _ => ?_)
          · exact tq_sub [1, 2] rfl (tX9_wrongName_47 G v1 v2 h3)
          · refine tq_aload_n 0 0 dX9_wrongName_29 rfl rfl ?_
            refine tq_getR 2 dX9_wrongName_30 cfX9 (by decide) wd_874 rfl rfl (fun x5 => ?_)
            refine tq_iload_n 2 2 dX9_wrongName_33 rfl rfl ?_
            refine tq_bald dX9_wrongName_34 (fun x6 => ?_)
            refine tq_cSI [vI x6] [] dX9_wrongName_35 (eX9_isDigit G x6 h3) (by decide) mbX9_isDigit wd_1107 wd_1108 rfl rfl (Nat.le_of_ble_eq_true rfl) (fun x8 h7 => ?_)
            refine tq_if_eq 47 dX9_wrongName_38 (by decide) (fun _ => ?_) (fun _ => ?_)
            · exact tq_sub [1, 2] rfl (tX9_wrongName_47 G v1 v2 h7)
            · exact tX9_wrongName_41 G ih v0 v1 v2 h7
noncomputable def fX9_wrongName_0  (v0 : Option Nat) (v1 : Int32) (h : AH) : Option (Int32 × AH) := fX9_wrongName_2 FU v0 v1 (nI 0) h
theorem tX9_wrongName_0 (G : sr_G) (v0 : Option Nat) (v1 : Int32) (h : AH) : sr_T (X := Int32) G 1 RX9 cX9_wrongName 3 (some .int) false (sr_M G jI) 0 [(0, vR v0), (1, vI v1)] [] h (fX9_wrongName_0  v0 v1 h) := by
  unfold fX9_wrongName_0
  refine tq_iconst (nI 0) dX9_wrongName_0 (by decide) ?_
  refine tq_istore_n 2 (L' := [(2, vI (nI 0)), (0, vR v0), (1, vI v1)]) dX9_wrongName_1 rfl (by decide) rfl ?_
  exact tq_sub [1, 2, 0] rfl (tX9_wrongName_2 G FU v0 v1 (nI 0) h)
noncomputable def fX9_wrongName (v0 : Option Nat) (v1 : Int32) (h : AH) : Option (Int32 × AH) := fX9_wrongName_0 v0 v1 h
theorem eX9_wrongName (G : sr_G) (v0 : Option Nat) (v1 : Int32) (h : AH) : sr_E G 1 yX9_wrongName cX9_wrongName 3 (some .int) jI [vR v0, vI v1] h (fX9_wrongName v0 v1 h) := sr_E.of (own := RX9) (ini := false) (by decide) rfl (fun q => by first | rfl | cases q) rfl (Nat.le_of_ble_eq_true rfl) (tX9_wrongName_0 G v0 v1 h)
noncomputable def fX9_takeName_21  (s0 : Int32) (h : AH) : Option (Int32 × AH) := some (s0, h)
theorem tX9_takeName_21 (G : sr_G) (s0 : Int32) (h : AH) : sr_T (X := Int32) G 2 RX9 cX9_takeName 2 (some .int) false (sr_M G jI) 21 [] [vI s0] h (fX9_takeName_21  s0 h) := by
  unfold fX9_takeName_21
  exact tq_iret rfl dX9_takeName_21
noncomputable def fX9_takeName_0  (v0 : Option Nat) (h : AH) : Option (Int32 × AH) := cCV h 9 v0 (fX9_take v0 h) fun x2 h1 => if x2 < 0 then (cGI h1 9 453 v0 fun x3 => cCV h1 9 v0 (fX9_wrongName v0 x3 h1) fun x5 h4 => fX9_takeName_21 x5 h4) else (fX9_takeName_21 x2 h1)
theorem tX9_takeName_0 (G : sr_G) (v0 : Option Nat) (h : AH) : sr_T (X := Int32) G 2 RX9 cX9_takeName 2 (some .int) false (sr_M G jI) 0 [(0, vR v0)] [] h (fX9_takeName_0  v0 h) := by
  unfold fX9_takeName_0
  refine tq_aload_n 0 0 dX9_takeName_0 rfl rfl ?_
  refine tq_cVI [] [] dX9_takeName_1 (eX9_take G v0 h) (by decide) mbX9_take cfX9 rfl wd_1029 wd_1031 wd_46 rfl rfl (Nat.le_of_ble_eq_true rfl) (fun x2 h1 => ?_)
  refine tq_istore_n 1 (L' := [(1, vI x2), (0, vR v0)]) dX9_takeName_4 rfl (by decide) rfl ?_
  refine tq_iload_n 1 0 dX9_takeName_5 rfl rfl ?_
  refine tq_if_lt 13 dX9_takeName_6 (by decide) (fun _ => ?_) (fun _ => ?_)
  · refine tq_aload_n 0 1 dX9_takeName_13 rfl rfl ?_
    refine tq_aload_n 0 1 dX9_takeName_14 rfl rfl ?_
    refine tq_getI 3 dX9_takeName_15 cfX9 (by decide) wd_875 rfl rfl (fun x3 => ?_)
    refine tq_cVI [vI x3] [] dX9_takeName_18 (eX9_wrongName G v0 x3 h1) (by decide) mbX9_wrongName cfX9 rfl wd_1153 wd_1155 wd_63 rfl rfl (Nat.le_of_ble_eq_true rfl) (fun x5 h4 => ?_)
    exact tq_sub [] rfl (tX9_takeName_21 G x5 h4)
  · refine tq_iload_n 1 0 dX9_takeName_9 rfl rfl ?_
    refine tq_goto 21 dX9_takeName_10 (by decide) ?_
    exact tq_sub [] rfl (tX9_takeName_21 G x2 h1)
noncomputable def fX9_takeName (v0 : Option Nat) (h : AH) : Option (Int32 × AH) := fX9_takeName_0 v0 h
theorem eX9_takeName (G : sr_G) (v0 : Option Nat) (h : AH) : sr_E G 2 yX9_takeName cX9_takeName 2 (some .int) jI [vR v0] h (fX9_takeName v0 h) := sr_E.of (own := RX9) (ini := false) (by decide) rfl (fun q => by first | rfl | cases q) rfl (Nat.le_of_ble_eq_true rfl) (tX9_takeName_0 G v0 h)
noncomputable def fX9_isElement_24  (s0 : Int32) (h : AH) : Option (Int32 × AH) := cZ s0 (some (s0, h))
theorem tX9_isElement_24 (G : sr_G) (s0 : Int32) (h : AH) : sr_T (X := Int32) G 1 RX9 cX9_isElement 2 (some .boolean) false (sr_M G jI) 24 [] [vI s0] h (fX9_isElement_24  s0 h) := by
  unfold fX9_isElement_24
  exact tq_zret rfl dX9_isElement_24
noncomputable def fX9_isElement_23   (h : AH) : Option (Int32 × AH) := fX9_isElement_24 (nI 0) h
theorem tX9_isElement_23 (G : sr_G)  (h : AH) : sr_T (X := Int32) G 1 RX9 cX9_isElement 2 (some .boolean) false (sr_M G jI) 23 [] [] h (fX9_isElement_23  h) := by
  unfold fX9_isElement_23
  refine tq_iconst (nI 0) dX9_isElement_23 (by decide) ?_
  exact tX9_isElement_24 G (nI 0) h
noncomputable def fX9_isElement_0  (v0 : Option Nat) (v1 : Int32) (h : AH) : Option (Int32 × AH) := cCV h 9 v0 (fX9_there v0 v1 h) fun x2 h1 => if x2 = 0 then (fX9_isElement_23 h1) else (cGR h1 9 457 v0 fun x3 => cAL h1 0 x3 v1 fun x4 => if x4 = (nI 17) then (fX9_isElement_23 h1) else (fX9_isElement_24 (nI 1) h1))
theorem tX9_isElement_0 (G : sr_G) (v0 : Option Nat) (v1 : Int32) (h : AH) : sr_T (X := Int32) G 1 RX9 cX9_isElement 2 (some .boolean) false (sr_M G jI) 0 [(0, vR v0), (1, vI v1)] [] h (fX9_isElement_0  v0 v1 h) := by
  unfold fX9_isElement_0
  refine tq_aload_n 0 0 dX9_isElement_0 rfl rfl ?_
  refine tq_iload_n 1 1 dX9_isElement_1 rfl rfl ?_
  refine tq_cVI [vI v1] [] dX9_isElement_2 (eX9_there G v0 v1 h) (by decide) mbX9_there cfX9 rfl wd_818 wd_820 wd_37 rfl rfl (Nat.le_of_ble_eq_true rfl) (fun x2 h1 => ?_)
  refine tq_if_eq 23 dX9_isElement_5 (by decide) (fun _ => ?_) (fun _ => ?_)
  · exact tq_sub [] rfl (tX9_isElement_23 G h1)
  · refine tq_aload_n 0 0 dX9_isElement_8 rfl rfl ?_
    refine tq_getR 7 dX9_isElement_9 cfX9 (by decide) wd_879 rfl rfl (fun x3 => ?_)
    refine tq_iload_n 1 1 dX9_isElement_12 rfl rfl ?_
    refine tq_iald dX9_isElement_13 (fun x4 => ?_)
    refine tq_bipush (nI 17) dX9_isElement_14 (by decide) ?_
    refine tq_icmp_eq 23 dX9_isElement_16 (by decide) (fun _ => ?_) (fun _ => ?_)
    · exact tq_sub [] rfl (tX9_isElement_23 G h1)
    · refine tq_iconst (nI 1) dX9_isElement_19 (by decide) ?_
      refine tq_goto 24 dX9_isElement_20 (by decide) ?_
      exact tq_sub [] rfl (tX9_isElement_24 G (nI 1) h1)
noncomputable def fX9_isElement (v0 : Option Nat) (v1 : Int32) (h : AH) : Option (Int32 × AH) := fX9_isElement_0 v0 v1 h
theorem eX9_isElement (G : sr_G) (v0 : Option Nat) (v1 : Int32) (h : AH) : sr_E G 1 yX9_isElement cX9_isElement 2 (some .boolean) jI [vR v0, vI v1] h (fX9_isElement v0 v1 h) := sr_E.of (own := RX9) (ini := false) (by decide) rfl (fun q => by first | rfl | cases q) rfl (Nat.le_of_ble_eq_true rfl) (tX9_isElement_0 G v0 v1 h)
noncomputable def fX9_attributeNamed_56   (h : AH) : Option (Int32 × AH) := some ((-1), h)
theorem tX9_attributeNamed_56 (G : sr_G)  (h : AH) : sr_T (X := Int32) G 1 RX9 cX9_attributeNamed 4 (some .int) false (sr_M G jI) 56 [] [] h (fX9_attributeNamed_56  h) := by
  unfold fX9_attributeNamed_56
  refine tq_iconst (-1) dX9_attributeNamed_56 (by decide) ?_
  exact tq_iret rfl dX9_attributeNamed_57
noncomputable def fX9_attributeNamed_50 (r4 : Option Nat → Int32 → Int32 → Int32 → AH → Option (Int32 × AH)) (v0 : Option Nat) (v1 : Int32) (v2 : Int32) (v3 : Int32) (h : AH) : Option (Int32 × AH) := r4 v0 v1 v2 (v3 + (nI 1)) h
theorem tX9_attributeNamed_50 (G : sr_G) {r4 : Option Nat → Int32 → Int32 → Int32 → AH → Option (Int32 × AH)} (hr4 : ∀ (v0 : Option Nat) (v1 : Int32) (v2 : Int32) (v3 : Int32) (h : AH), sr_T (X := Int32) G 1 RX9 cX9_attributeNamed 4 (some .int) false (sr_M G jI) 4 [(0, vR v0), (1, vI v1), (2, vI v2), (3, vI v3)] [] h (r4 v0 v1 v2 v3 h)) (v0 : Option Nat) (v1 : Int32) (v2 : Int32) (v3 : Int32) (h : AH) : sr_T (X := Int32) G 1 RX9 cX9_attributeNamed 4 (some .int) false (sr_M G jI) 50 [(0, vR v0), (1, vI v1), (2, vI v2), (3, vI v3)] [] h (fX9_attributeNamed_50 r4 v0 v1 v2 v3 h) := by
  unfold fX9_attributeNamed_50
  refine tq_iinc 3 (nI 1) (L' := [(3, vI (v3 + (nI 1))), (0, vR v0), (1, vI v1), (2, vI v2)]) dX9_attributeNamed_50 rfl (by decide) (by decide) rfl ?_
  refine tq_goto 4 dX9_attributeNamed_53 (by decide) ?_
  exact tq_sub [1, 2, 3, 0] rfl (hr4 v0 v1 v2 (v3 + (nI 1)) h)
noncomputable def fX9_attributeNamed_48  (v3 : Int32) (h : AH) : Option (Int32 × AH) := some (v3, h)
theorem tX9_attributeNamed_48 (G : sr_G) (v3 : Int32) (h : AH) : sr_T (X := Int32) G 1 RX9 cX9_attributeNamed 4 (some .int) false (sr_M G jI) 48 [(3, vI v3)] [] h (fX9_attributeNamed_48  v3 h) := by
  unfold fX9_attributeNamed_48
  refine tq_iload_n 3 0 dX9_attributeNamed_48 rfl rfl ?_
  exact tq_iret rfl dX9_attributeNamed_49
noncomputable def fX9_attributeNamed_4  : Nat → Option Nat → Int32 → Int32 → Int32 → AH → Option (Int32 × AH)
  | 0, _, _, _, _, _ => none
  | n + 1, v0, v1, v2, v3, h => cGR h 9 466 v0 fun x1 => cAL h 0 x1 v1 fun x2 => if (((nI 4) * v1) + x2) ≤ v3 then (fX9_attributeNamed_56 h) else (cGR h 9 468 v0 fun x3 => cAL h 0 x3 v3 fun x4 => if x4 = v2 then (cGR h 9 467 v0 fun x5 => cGR h 9 452 v0 fun x6 => cCL (fX9_same x5 ((nI 8) * v3) x6 (nI 0) v2 h) fun x8 h7 => if x8 = 0 then (fX9_attributeNamed_50 (fX9_attributeNamed_4 n) v0 v1 v2 v3 h7) else (fX9_attributeNamed_48 v3 h7)) else (fX9_attributeNamed_50 (fX9_attributeNamed_4 n) v0 v1 v2 v3 h))
theorem tX9_attributeNamed_4 (G : sr_G) : ∀ (n : Nat) (v0 : Option Nat) (v1 : Int32) (v2 : Int32) (v3 : Int32) (h : AH), sr_T (X := Int32) G 1 RX9 cX9_attributeNamed 4 (some .int) false (sr_M G jI) 4 [(0, vR v0), (1, vI v1), (2, vI v2), (3, vI v3)] [] h (fX9_attributeNamed_4  n v0 v1 v2 v3 h) := by
  intro n
  induction n with
  | zero => intro v0 v1 v2 v3 h; exact tq_none
  | succ n ih =>
    intro v0 v1 v2 v3 h
    unfold fX9_attributeNamed_4
    refine tq_iload_n 3 3 dX9_attributeNamed_4 rfl rfl ?_
    refine tq_iconst (nI 4) dX9_attributeNamed_5 (by decide) ?_
    refine tq_iload_n 1 1 dX9_attributeNamed_6 rfl rfl ?_
    refine tq_imul dX9_attributeNamed_7 ?_
    refine tq_aload_n 0 0 dX9_attributeNamed_8 rfl rfl ?_
    refine tq_getR 16 dX9_attributeNamed_9 cfX9 (by decide) wd_888 rfl rfl (fun x1 => ?_)
    refine tq_iload_n 1 1 dX9_attributeNamed_12 rfl rfl ?_
    refine tq_iald dX9_attributeNamed_13 (fun x2 => ?_)
    refine tq_iadd dX9_attributeNamed_14 ?_
    refine tq_icmp_ge 56 dX9_attributeNamed_15 (by decide) (fun _ => ?_) (fun _ => ?_)
    · exact tq_sub [] rfl (tX9_attributeNamed_56 G h)
    · refine tq_aload_n 0 0 dX9_attributeNamed_18 rfl rfl ?_
      refine tq_getR 18 dX9_attributeNamed_19 cfX9 (by decide) wd_890 rfl rfl (fun x3 => ?_)
      refine tq_iload_n 3 3 dX9_attributeNamed_22 rfl rfl ?_
      refine tq_iald dX9_attributeNamed_23 (fun x4 => ?_)
      refine tq_iload_n 2 2 dX9_attributeNamed_24 rfl rfl ?_
      refine tq_icmp_ne 50 dX9_attributeNamed_25 (by decide) (fun _ => ?_) (fun _ => ?_)
      · exact tX9_attributeNamed_50 G ih v0 v1 v2 v3 h
      · refine tq_aload_n 0 0 dX9_attributeNamed_28 rfl rfl ?_
        refine tq_getR 17 dX9_attributeNamed_29 cfX9 (by decide) wd_889 rfl rfl (fun x5 => ?_)
        refine tq_bipush (nI 8) dX9_attributeNamed_32 (by decide) ?_
        refine tq_iload_n 3 3 dX9_attributeNamed_34 rfl rfl ?_
        refine tq_imul dX9_attributeNamed_35 ?_
        refine tq_aload_n 0 0 dX9_attributeNamed_36 rfl rfl ?_
        refine tq_getR 2 dX9_attributeNamed_37 cfX9 (by decide) wd_874 rfl rfl (fun x6 => ?_)
        refine tq_iconst (nI 0) dX9_attributeNamed_40 (by decide) ?_
        refine tq_iload_n 2 2 dX9_attributeNamed_41 rfl rfl ?_
        refine tq_cSI [vR x5, vI ((nI 8) * v3), vR x6, vI (nI 0), vI v2] [] dX9_attributeNamed_42 (eX9_same G x5 ((nI 8) * v3) x6 (nI 0) v2 h) (by decide) mbX9_same wd_1117 wd_1118 rfl rfl (Nat.le_of_ble_eq_true rfl) (fun x8 h7 => ?_)
        refine tq_if_eq 50 dX9_attributeNamed_45 (by decide) (fun _ => ?_) (fun _ => ?_)
        · exact tX9_attributeNamed_50 G ih v0 v1 v2 v3 h7
        · exact tq_sub [3] rfl (tX9_attributeNamed_48 G v3 h7)
noncomputable def fX9_attributeNamed_0  (v0 : Option Nat) (v1 : Int32) (v2 : Int32) (h : AH) : Option (Int32 × AH) := fX9_attributeNamed_4 FU v0 v1 v2 ((nI 4) * v1) h
theorem tX9_attributeNamed_0 (G : sr_G) (v0 : Option Nat) (v1 : Int32) (v2 : Int32) (h : AH) : sr_T (X := Int32) G 1 RX9 cX9_attributeNamed 4 (some .int) false (sr_M G jI) 0 [(0, vR v0), (1, vI v1), (2, vI v2)] [] h (fX9_attributeNamed_0  v0 v1 v2 h) := by
  unfold fX9_attributeNamed_0
  refine tq_iconst (nI 4) dX9_attributeNamed_0 (by decide) ?_
  refine tq_iload_n 1 1 dX9_attributeNamed_1 rfl rfl ?_
  refine tq_imul dX9_attributeNamed_2 ?_
  refine tq_istore_n 3 (L' := [(3, vI ((nI 4) * v1)), (0, vR v0), (1, vI v1), (2, vI v2)]) dX9_attributeNamed_3 rfl (by decide) rfl ?_
  exact tq_sub [1, 2, 3, 0] rfl (tX9_attributeNamed_4 G FU v0 v1 v2 ((nI 4) * v1) h)
noncomputable def fX9_attributeNamed (v0 : Option Nat) (v1 : Int32) (v2 : Int32) (h : AH) : Option (Int32 × AH) := fX9_attributeNamed_0 v0 v1 v2 h
theorem eX9_attributeNamed (G : sr_G) (v0 : Option Nat) (v1 : Int32) (v2 : Int32) (h : AH) : sr_E G 1 yX9_attributeNamed cX9_attributeNamed 4 (some .int) jI [vR v0, vI v1, vI v2] h (fX9_attributeNamed v0 v1 v2 h) := sr_E.of (own := RX9) (ini := false) (by decide) rfl (fun q => by first | rfl | cases q) rfl (Nat.le_of_ble_eq_true rfl) (tX9_attributeNamed_0 G v0 v1 v2 h)
noncomputable def fX9_attribute_35  (v0 : Option Nat) (s0 : Int32) (h : AH) : Option (Int32 × AH) := if s0 = (-1) then (some ((-1), h)) else (cPI h 9 455 v0 (nI 0) fun h1 => cGR h1 9 469 v0 fun x2 => cGR h1 9 470 v0 fun x3 => cAL h1 0 x3 s0 fun x4 => cCV h1 9 v0 (fX9_sayAll v0 x2 ((nI 60) * s0) x4 h1) fun _ h5 => cGI h5 9 455 v0 fun x6 => some (x6, h5))
theorem tX9_attribute_35 (G : sr_G) (v0 : Option Nat) (s0 : Int32) (h : AH) : sr_T (X := Int32) G 3 RX9 cX9_attribute 4 (some .int) false (sr_M G jI) 35 [(0, vR v0)] [vI s0] h (fX9_attribute_35  v0 s0 h) := by
  unfold fX9_attribute_35
  refine tq_istore_n 3 (L' := [(3, vI s0), (0, vR v0)]) dX9_attribute_35 rfl (by decide) rfl ?_
  refine tq_iload_n 3 0 dX9_attribute_36 rfl rfl ?_
  refine tq_iconst (-1) dX9_attribute_37 (by decide) ?_
  refine tq_icmp_ne 43 dX9_attribute_38 (by decide) (fun _ => ?_) (fun _ => ?_)
  · refine tq_aload_n 0 1 dX9_attribute_43 rfl rfl ?_
    refine tq_iconst (nI 0) dX9_attribute_44 (by decide) ?_
    refine tq_putI 5 dX9_attribute_45 cfX9 (by decide) wd_877 rfl rfl (Or.inl rfl) (fun h1 => ?_)
    refine tq_aload_n 0 1 dX9_attribute_48 rfl rfl ?_
    refine tq_aload_n 0 1 dX9_attribute_49 rfl rfl ?_
    refine tq_getR 19 dX9_attribute_50 cfX9 (by decide) wd_891 rfl rfl (fun x2 => ?_)
    refine tq_bipush (nI 60) dX9_attribute_53 (by decide) ?_
    refine tq_iload_n 3 0 dX9_attribute_55 rfl rfl ?_
    refine tq_imul dX9_attribute_56 ?_
    refine tq_aload_n 0 1 dX9_attribute_57 rfl rfl ?_
    refine tq_getR 20 dX9_attribute_58 cfX9 (by decide) wd_892 rfl rfl (fun x3 => ?_)
    refine tq_iload_n 3 0 dX9_attribute_61 rfl rfl ?_
    refine tq_iald dX9_attribute_62 (fun x4 => ?_)
    refine tq_cVV [vR x2, vI ((nI 60) * s0), vI x4] [] dX9_attribute_63 (eX9_sayAll G v0 x2 ((nI 60) * s0) x4 h1) (by decide) mbX9_sayAll cfX9 rfl wd_835 wd_837 wd_41 rfl rfl (Nat.le_of_ble_eq_true rfl) (fun _ h5 => ?_)
    refine tq_aload_n 0 1 dX9_attribute_66 rfl rfl ?_
    refine tq_getI 5 dX9_attribute_67 cfX9 (by decide) wd_877 rfl rfl (fun x6 => ?_)
    exact tq_iret rfl dX9_attribute_70
  · refine tq_iconst (-1) dX9_attribute_41 (by decide) ?_
    exact tq_iret rfl dX9_attribute_42
noncomputable def fX9_attribute_0  (v0 : Option Nat) (v1 : Int32) (h : AH) : Option (Int32 × AH) := cCV h 9 v0 (fX9_takeName v0 h) fun x2 h1 => if x2 < 0 then (cCV h1 9 v0 (fX9_isElement v0 v1 h1) fun x4 h3 => if x4 = 0 then (fX9_attribute_35 v0 (-1) h3) else (cGI h3 9 453 v0 fun x5 => cCV h3 9 v0 (fX9_attributeNamed v0 v1 x5 h3) fun x7 h6 => fX9_attribute_35 v0 x7 h6)) else (cCL (fX9_wrong x2 h1) fun x9 h8 => some (x9, h8))
theorem tX9_attribute_0 (G : sr_G) (v0 : Option Nat) (v1 : Int32) (h : AH) : sr_T (X := Int32) G 3 RX9 cX9_attribute 4 (some .int) false (sr_M G jI) 0 [(0, vR v0), (1, vI v1)] [] h (fX9_attribute_0  v0 v1 h) := by
  unfold fX9_attribute_0
  refine tq_aload_n 0 0 dX9_attribute_0 rfl rfl ?_
  refine tq_cVI [] [] dX9_attribute_1 (eX9_takeName G v0 h) (by decide) mbX9_takeName cfX9 rfl wd_1149 wd_1151 wd_62 rfl rfl (Nat.le_of_ble_eq_true rfl) (fun x2 h1 => ?_)
  refine tq_istore_n 2 (L' := [(2, vI x2), (0, vR v0), (1, vI v1)]) dX9_attribute_4 rfl (by decide) rfl ?_
  refine tq_iload_n 2 0 dX9_attribute_5 rfl rfl ?_
  refine tq_if_lt 14 dX9_attribute_6 (by decide) (fun _ => ?_) (fun _ => ?_)
  · refine tq_aload_n 0 1 dX9_attribute_14 rfl rfl ?_
    refine tq_iload_n 1 2 dX9_attribute_15 rfl rfl ?_
    refine tq_cVI [vI v1] [] dX9_attribute_16 (eX9_isElement G v0 v1 h1) (by decide) mbX9_isElement cfX9 rfl wd_1157 wd_1159 wd_64 rfl rfl (Nat.le_of_ble_eq_true rfl) (fun x4 h3 => ?_)
    refine tq_if_eq 34 dX9_attribute_19 (by decide) (fun _ => ?_) (fun _ => ?_)
    · refine tq_iconst (-1) dX9_attribute_34 (by decide) ?_
      exact tq_sub [1] rfl (tX9_attribute_35 G v0 (-1) h3)
    · refine tq_aload_n 0 1 dX9_attribute_22 rfl rfl ?_
      refine tq_iload_n 1 2 dX9_attribute_23 rfl rfl ?_
      refine tq_aload_n 0 1 dX9_attribute_24 rfl rfl ?_
      refine tq_getI 3 dX9_attribute_25 cfX9 (by decide) wd_875 rfl rfl (fun x5 => ?_)
      refine tq_cVI [vI v1, vI x5] [] dX9_attribute_28 (eX9_attributeNamed G v0 v1 x5 h3) (by decide) mbX9_attributeNamed cfX9 rfl wd_1161 wd_1163 wd_65 rfl rfl (Nat.le_of_ble_eq_true rfl) (fun x7 h6 => ?_)
      refine tq_goto 35 dX9_attribute_31 (by decide) ?_
      exact tq_sub [1] rfl (tX9_attribute_35 G v0 x7 h6)
  · refine tq_iload_n 2 0 dX9_attribute_9 rfl rfl ?_
    refine tq_cSI [vI x2] [] dX9_attribute_10 (eX9_wrong G x2 h1) (by decide) mbX9_wrong wd_1033 wd_1034 rfl rfl (Nat.le_of_ble_eq_true rfl) (fun x9 h8 => ?_)
    exact tq_iret rfl dX9_attribute_13
noncomputable def fX9_attribute (v0 : Option Nat) (v1 : Int32) (h : AH) : Option (Int32 × AH) := fX9_attribute_0 v0 v1 h
theorem eX9_attribute (G : sr_G) (v0 : Option Nat) (v1 : Int32) (h : AH) : sr_E G 3 yX9_attribute cX9_attribute 4 (some .int) jI [vR v0, vI v1] h (fX9_attribute v0 v1 h) := sr_E.of (own := RX9) (ini := false) (by decide) rfl (fun q => by first | rfl | cases q) rfl (Nat.le_of_ble_eq_true rfl) (tX9_attribute_0 G v0 v1 h)
noncomputable def fX9_fault_18   (h : AH) : Option (Int32 × AH) := some ((-1), h)
theorem tX9_fault_18 (G : sr_G)  (h : AH) : sr_T (X := Int32) G 0 RX9 cX9_fault 3 (some .int) false (sr_M G jI) 18 [] [] h (fX9_fault_18  h) := by
  unfold fX9_fault_18
  refine tq_iconst (-1) dX9_fault_18 (by decide) ?_
  exact tq_iret rfl dX9_fault_19
noncomputable def fX9_fault_48  (s0 : Int32) (h : AH) : Option (Int32 × AH) := some (s0, h)
theorem tX9_fault_48 (G : sr_G) (s0 : Int32) (h : AH) : sr_T (X := Int32) G 0 RX9 cX9_fault 3 (some .int) false (sr_M G jI) 48 [] [vI s0] h (fX9_fault_48  s0 h) := by
  unfold fX9_fault_48
  exact tq_iret rfl dX9_fault_48
noncomputable def fX9_fault_0  (v0 : Option Nat) (v1 : Int32) (v2 : Int32) (h : AH) : Option (Int32 × AH) := if v1 < 0 then (fX9_fault_18 h) else (cGI h 9 476 v0 fun x1 => if x1 ≤ v1 then (fX9_fault_18 h) else (if v1 < (nI 40) then (if v2 = 0 then (cGR h 9 477 v0 fun x4 => cAL h 0 x4 v1 fun x5 => fX9_fault_48 x5 h) else (if v2 = (nI 1) then (cGR h 9 478 v0 fun x2 => cAL h 0 x2 v1 fun x3 => fX9_fault_48 x3 h) else (fX9_fault_48 (-1) h))) else (fX9_fault_18 h)))
theorem tX9_fault_0 (G : sr_G) (v0 : Option Nat) (v1 : Int32) (v2 : Int32) (h : AH) : sr_T (X := Int32) G 0 RX9 cX9_fault 3 (some .int) false (sr_M G jI) 0 [(0, vR v0), (1, vI v1), (2, vI v2)] [] h (fX9_fault_0  v0 v1 v2 h) := by
  unfold fX9_fault_0
  refine tq_iload_n 1 1 dX9_fault_0 rfl rfl ?_
  refine tq_if_lt 18 dX9_fault_1 (by decide) (fun _ => ?_) (fun _ => ?_)
  · exact tq_sub [] rfl (tX9_fault_18 G h)
  · refine tq_iload_n 1 1 dX9_fault_4 rfl rfl ?_
    refine tq_aload_n 0 0 dX9_fault_5 rfl rfl ?_
    refine tq_getI 26 dX9_fault_6 cfX9 (by decide) wd_898 rfl rfl (fun x1 => ?_)
    refine tq_icmp_ge 18 dX9_fault_9 (by decide) (fun _ => ?_) (fun _ => ?_)
    · exact tq_sub [] rfl (tX9_fault_18 G h)
    · refine tq_iload_n 1 1 dX9_fault_12 rfl rfl ?_
      refine tq_bipush (nI 40) dX9_fault_13 (by decide) ?_
      refine tq_icmp_lt 20 dX9_fault_15 (by decide) (fun _ => ?_) (fun _ => ?_)
      · refine tq_iload_n 2 2 dX9_fault_20 rfl rfl ?_
        refine tq_if_ne 33 dX9_fault_21 (by decide) (fun _ => ?_) (fun _ => ?_)
        · refine tq_iload_n 2 2 dX9_fault_33 rfl rfl ?_
          refine tq_iconst (nI 1) dX9_fault_34 (by decide) ?_
          refine tq_icmp_ne 47 dX9_fault_35 (by decide) (fun _ => ?_) (fun _ => ?_)
          · refine tq_iconst (-1) dX9_fault_47 (by decide) ?_
            exact tq_sub [] rfl (tX9_fault_48 G (-1) h)
          · refine tq_aload_n 0 0 dX9_fault_38 rfl rfl ?_
            refine tq_getR 28 dX9_fault_39 cfX9 (by decide) wd_900 rfl rfl (fun x2 => ?_)
            refine tq_iload_n 1 1 dX9_fault_42 rfl rfl ?_
            refine tq_iald dX9_fault_43 (fun x3 => ?_)
            refine tq_goto 48 dX9_fault_44 (by decide) ?_
            exact tq_sub [] rfl (tX9_fault_48 G x3 h)
        · refine tq_aload_n 0 0 dX9_fault_24 rfl rfl ?_
          refine tq_getR 27 dX9_fault_25 cfX9 (by decide) wd_899 rfl rfl (fun x4 => ?_)
          refine tq_iload_n 1 1 dX9_fault_28 rfl rfl ?_
          refine tq_iald dX9_fault_29 (fun x5 => ?_)
          refine tq_goto 48 dX9_fault_30 (by decide) ?_
          exact tq_sub [] rfl (tX9_fault_48 G x5 h)
      · exact tq_sub [] rfl (tX9_fault_18 G h)
noncomputable def fX9_fault (v0 : Option Nat) (v1 : Int32) (v2 : Int32) (h : AH) : Option (Int32 × AH) := fX9_fault_0 v0 v1 v2 h
theorem eX9_fault (G : sr_G) (v0 : Option Nat) (v1 : Int32) (v2 : Int32) (h : AH) : sr_E G 0 yX9_fault cX9_fault 3 (some .int) jI [vR v0, vI v1, vI v2] h (fX9_fault v0 v1 v2 h) := sr_E.of (own := RX9) (ini := false) (by decide) rfl (fun q => by first | rfl | cases q) rfl (Nat.le_of_ble_eq_true rfl) (tX9_fault_0 G v0 v1 v2 h)
noncomputable def fX9_faults_0  (v0 : Option Nat) (h : AH) : Option (Int32 × AH) := cGI h 9 476 v0 fun x1 => some (x1, h)
theorem tX9_faults_0 (G : sr_G) (v0 : Option Nat) (h : AH) : sr_T (X := Int32) G 0 RX9 cX9_faults 1 (some .int) false (sr_M G jI) 0 [(0, vR v0)] [] h (fX9_faults_0  v0 h) := by
  unfold fX9_faults_0
  refine tq_aload_n 0 0 dX9_faults_0 rfl rfl ?_
  refine tq_getI 26 dX9_faults_1 cfX9 (by decide) wd_898 rfl rfl (fun x1 => ?_)
  exact tq_iret rfl dX9_faults_4
noncomputable def fX9_faults (v0 : Option Nat) (h : AH) : Option (Int32 × AH) := fX9_faults_0 v0 h
theorem eX9_faults (G : sr_G) (v0 : Option Nat) (h : AH) : sr_E G 0 yX9_faults cX9_faults 1 (some .int) jI [vR v0] h (fX9_faults v0 h) := sr_E.of (own := RX9) (ini := false) (by decide) rfl (fun q => by first | rfl | cases q) rfl (Nat.le_of_ble_eq_true rfl) (tX9_faults_0 G v0 h)
noncomputable def fX9_add_34   (h : AH) : Option (Int32 × AH) := some ((-1), h)
theorem tX9_add_34 (G : sr_G)  (h : AH) : sr_T (X := Int32) G 3 RX9 cX9_add 5 (some .int) false (sr_M G jI) 34 [] [] h (fX9_add_34  h) := by
  unfold fX9_add_34
  refine tq_iconst (-1) dX9_add_34 (by decide) ?_
  exact tq_iret rfl dX9_add_35
noncomputable def fX9_add_89  (v0 : Option Nat) (v3 : Int32) (h : AH) : Option (Int32 × AH) := cGR h 9 484 v0 fun x1 => cGI h 9 485 v0 fun x2 => cCL (fX9_tagOf x1 (nI 0) x2 h) fun x4 h3 => cCV h3 9 v0 (fX9_element v0 v3 x4 h3) fun _ h5 => some (v3, h5)
theorem tX9_add_89 (G : sr_G) (v0 : Option Nat) (v3 : Int32) (h : AH) : sr_T (X := Int32) G 3 RX9 cX9_add 5 (some .int) false (sr_M G jI) 89 [(0, vR v0), (3, vI v3)] [] h (fX9_add_89  v0 v3 h) := by
  unfold fX9_add_89
  refine tq_aload_n 0 0 dX9_add_89 rfl rfl ?_
  refine tq_iload_n 3 1 dX9_add_90 rfl rfl ?_
  refine tq_aload_n 0 0 dX9_add_91 rfl rfl ?_
  refine tq_getR 34 dX9_add_92 cfX9 (by decide) wd_906 rfl rfl (fun x1 => ?_)
  refine tq_iconst (nI 0) dX9_add_95 (by decide) ?_
  refine tq_aload_n 0 0 dX9_add_96 rfl rfl ?_
  refine tq_getI 35 dX9_add_97 cfX9 (by decide) wd_907 rfl rfl (fun x2 => ?_)
  refine tq_cSI [vR x1, vI (nI 0), vI x2] [vI v3, vR v0] dX9_add_100 (eX9_tagOf G x1 (nI 0) x2 h) (by decide) mbX9_tagOf wd_1120 wd_1121 rfl rfl (Nat.le_of_ble_eq_true rfl) (fun x4 h3 => ?_)
  refine tq_cVV [vI v3, vI x4] [] dX9_add_103 (eX9_element G v0 v3 x4 h3) (by decide) mbX9_element cfX9 rfl wd_1141 wd_1143 wd_61 rfl rfl (Nat.le_of_ble_eq_true rfl) (fun _ h5 => ?_)
  refine tq_iload_n 3 1 dX9_add_106 rfl rfl ?_
  exact tq_iret rfl dX9_add_107
noncomputable def fX9_add_60  : Nat → Option Nat → Int32 → Int32 → AH → Option (Int32 × AH)
  | 0, _, _, _, _ => none
  | n + 1, v0, v3, v4, h => cGI h 9 453 v0 fun x1 => if x1 ≤ v4 then (fX9_add_89 v0 v3 h) else (cGR h 9 484 v0 fun x2 => cGR h 9 452 v0 fun x3 => cAL h 1 x3 v4 fun x4 => cAS h 1 x2 v4 x4 fun h5 => fX9_add_60 n v0 v3 (v4 + (nI 1)) h5)
theorem tX9_add_60 (G : sr_G) : ∀ (n : Nat) (v0 : Option Nat) (v3 : Int32) (v4 : Int32) (h : AH), sr_T (X := Int32) G 3 RX9 cX9_add 5 (some .int) false (sr_M G jI) 60 [(0, vR v0), (3, vI v3), (4, vI v4)] [] h (fX9_add_60  n v0 v3 v4 h) := by
  intro n
  induction n with
  | zero => intro v0 v3 v4 h; exact tq_none
  | succ n ih =>
    intro v0 v3 v4 h
    unfold fX9_add_60
    refine tq_iload 2 dX9_add_60 rfl ?_
    refine tq_aload_n 0 0 dX9_add_62 rfl rfl ?_
    refine tq_getI 3 dX9_add_63 cfX9 (by decide) wd_875 rfl rfl (fun x1 => ?_)
    refine tq_icmp_ge 89 dX9_add_66 (by decide) (fun _ => ?_) (fun _ => ?_)
    · exact tq_sub [0, 1] rfl (tX9_add_89 G v0 v3 h)
    · refine tq_aload_n 0 0 dX9_add_69 rfl rfl ?_
      refine tq_getR 34 dX9_add_70 cfX9 (by decide) wd_906 rfl rfl (fun x2 => ?_)
      refine tq_iload 2 dX9_add_73 rfl ?_
      refine tq_aload_n 0 0 dX9_add_75 rfl rfl ?_
      refine tq_getR 2 dX9_add_76 cfX9 (by decide) wd_874 rfl rfl (fun x3 => ?_)
      refine tq_iload 2 dX9_add_79 rfl ?_
      refine tq_bald dX9_add_81 (fun x4 => ?_)
      refine tq_bast dX9_add_82 (fun h5 => ?_)
      refine tq_iinc 2 (nI 1) (L' := [(4, vI (v4 + (nI 1))), (0, vR v0), (3, vI v3)]) dX9_add_83 rfl (by decide) (by decide) rfl ?_
      refine tq_goto 60 dX9_add_86 (by decide) ?_
      exact tq_sub [1, 2, 0] rfl (ih v0 v3 (v4 + (nI 1)) h5)
noncomputable def fX9_add_0  (v0 : Option Nat) (v1 : Int32) (h : AH) : Option (Int32 × AH) := cCV h 9 v0 (fX9_takeName v0 h) fun x2 h1 => if x2 < 0 then (cCV h1 9 v0 (fX9_isElement v0 v1 h1) fun x4 h3 => if x4 = 0 then (fX9_add_34 h3) else (cGR h3 9 457 v0 fun x5 => cAL h3 0 x5 v1 fun x6 => cCL (fX9_isEmptyTag x6 h3) fun x8 h7 => if x8 = 0 then (cCV h7 9 v0 (fX9_fresh v0 v1 h7) fun x10 h9 => if x10 = (-1) then (some ((-1), h9)) else (cGI h9 9 453 v0 fun x11 => cPI h9 9 485 v0 x11 fun h12 => fX9_add_60 FU v0 x10 (nI 0) h12)) else (fX9_add_34 h7))) else (cCL (fX9_wrong x2 h1) fun x14 h13 => some (x14, h13))
theorem tX9_add_0 (G : sr_G) (v0 : Option Nat) (v1 : Int32) (h : AH) : sr_T (X := Int32) G 3 RX9 cX9_add 5 (some .int) false (sr_M G jI) 0 [(0, vR v0), (1, vI v1)] [] h (fX9_add_0  v0 v1 h) := by
  unfold fX9_add_0
  refine tq_aload_n 0 0 dX9_add_0 rfl rfl ?_
  refine tq_cVI [] [] dX9_add_1 (eX9_takeName G v0 h) (by decide) mbX9_takeName cfX9 rfl wd_1149 wd_1151 wd_62 rfl rfl (Nat.le_of_ble_eq_true rfl) (fun x2 h1 => ?_)
  refine tq_istore_n 2 (L' := [(2, vI x2), (0, vR v0), (1, vI v1)]) dX9_add_4 rfl (by decide) rfl ?_
  refine tq_iload_n 2 0 dX9_add_5 rfl rfl ?_
  refine tq_if_lt 14 dX9_add_6 (by decide) (fun _ => ?_) (fun _ => ?_)
  · refine tq_aload_n 0 1 dX9_add_14 rfl rfl ?_
    refine tq_iload_n 1 2 dX9_add_15 rfl rfl ?_
    refine tq_cVI [vI v1] [] dX9_add_16 (eX9_isElement G v0 v1 h1) (by decide) mbX9_isElement cfX9 rfl wd_1157 wd_1159 wd_64 rfl rfl (Nat.le_of_ble_eq_true rfl) (fun x4 h3 => ?_)
    refine tq_if_eq 34 dX9_add_19 (by decide) (fun _ => ?_) (fun _ => ?_)
    · exact tq_sub [] rfl (tX9_add_34 G h3)
    · refine tq_aload_n 0 1 dX9_add_22 rfl rfl ?_
      refine tq_getR 7 dX9_add_23 cfX9 (by decide) wd_879 rfl rfl (fun x5 => ?_)
      refine tq_iload_n 1 2 dX9_add_26 rfl rfl ?_
      refine tq_iald dX9_add_27 (fun x6 => ?_)
      refine tq_cSI [vI x6] [] dX9_add_28 (eX9_isEmptyTag G x6 h3) (by decide) mbX9_isEmptyTag wd_843 wd_844 rfl rfl (Nat.le_of_ble_eq_true rfl) (fun x8 h7 => ?_)
      refine tq_if_eq 36 dX9_add_31 (by decide) (fun _ => ?_) (fun _ => ?_)
      · refine tq_aload_n 0 1 dX9_add_36 rfl rfl ?_
        refine tq_iload_n 1 2 dX9_add_37 rfl rfl ?_
        refine tq_cVI [vI v1] [] dX9_add_38 (eX9_fresh G v0 v1 h7) (by decide) mbX9_fresh cfX9 rfl wd_868 wd_870 wd_44 rfl rfl (Nat.le_of_ble_eq_true rfl) (fun x10 h9 => ?_)
        refine tq_istore_n 3 (L' := [(3, vI x10), (2, vI x2), (0, vR v0), (1, vI v1)]) dX9_add_41 rfl (by decide) rfl ?_
        refine tq_iload_n 3 0 dX9_add_42 rfl rfl ?_
        refine tq_iconst (-1) dX9_add_43 (by decide) ?_
        refine tq_icmp_ne 49 dX9_add_44 (by decide) (fun _ => ?_) (fun _ => ?_)
        · refine tq_aload_n 0 2 dX9_add_49 rfl rfl ?_
          refine tq_aload_n 0 2 dX9_add_50 rfl rfl ?_
          refine tq_getI 3 dX9_add_51 cfX9 (by decide) wd_875 rfl rfl (fun x11 => ?_)
          refine tq_putI 35 dX9_add_54 cfX9 (by decide) wd_907 rfl rfl (Or.inl rfl) (fun h12 => ?_)
          refine tq_iconst (nI 0) dX9_add_57 (by decide) ?_
          refine tq_istore (L' := [(4, vI (nI 0)), (3, vI x10), (2, vI x2), (0, vR v0), (1, vI v1)]) dX9_add_58 (by decide) rfl ?_
          exact tq_sub [3, 1, 0] rfl (tX9_add_60 G FU v0 x10 (nI 0) h12)
        · refine tq_iconst (-1) dX9_add_47 (by decide) ?_
          exact tq_iret rfl dX9_add_48
      · exact tq_sub [] rfl (tX9_add_34 G h7)
  · refine tq_iload_n 2 0 dX9_add_9 rfl rfl ?_
    refine tq_cSI [vI x2] [] dX9_add_10 (eX9_wrong G x2 h1) (by decide) mbX9_wrong wd_1033 wd_1034 rfl rfl (Nat.le_of_ble_eq_true rfl) (fun x14 h13 => ?_)
    exact tq_iret rfl dX9_add_13
noncomputable def fX9_add (v0 : Option Nat) (v1 : Int32) (h : AH) : Option (Int32 × AH) := fX9_add_0 v0 v1 h
theorem eX9_add (G : sr_G) (v0 : Option Nat) (v1 : Int32) (h : AH) : sr_E G 3 yX9_add cX9_add 5 (some .int) jI [vR v0, vI v1] h (fX9_add v0 v1 h) := sr_E.of (own := RX9) (ini := false) (by decide) rfl (fun q => by first | rfl | cases q) rfl (Nat.le_of_ble_eq_true rfl) (tX9_add_0 G v0 v1 h)
noncomputable def fX9_less_10  (s0 : Int32) (h : AH) : Option (Int32 × AH) := some (s0, h)
theorem tX9_less_10 (G : sr_G) (s0 : Int32) (h : AH) : sr_T (X := Int32) G 0 RX9 cX9_less 2 (some .int) false (sr_M G jI) 10 [] [vI s0] h (fX9_less_10  s0 h) := by
  unfold fX9_less_10
  exact tq_iret rfl dX9_less_10
noncomputable def fX9_less_0  (v0 : Int32) (v1 : Int32) (h : AH) : Option (Int32 × AH) := if v1 ≤ v0 then (fX9_less_10 v1 h) else (fX9_less_10 v0 h)
theorem tX9_less_0 (G : sr_G) (v0 : Int32) (v1 : Int32) (h : AH) : sr_T (X := Int32) G 0 RX9 cX9_less 2 (some .int) false (sr_M G jI) 0 [(0, vI v0), (1, vI v1)] [] h (fX9_less_0  v0 v1 h) := by
  unfold fX9_less_0
  refine tq_iload_n 0 0 dX9_less_0 rfl rfl ?_
  refine tq_iload_n 1 1 dX9_less_1 rfl rfl ?_
  refine tq_icmp_ge 9 dX9_less_2 (by decide) (fun _ => ?_) (fun _ => ?_)
  · refine tq_iload_n 1 1 dX9_less_9 rfl rfl ?_
    exact tq_sub [] rfl (tX9_less_10 G v1 h)
  · refine tq_iload_n 0 0 dX9_less_5 rfl rfl ?_
    refine tq_goto 10 dX9_less_6 (by decide) ?_
    exact tq_sub [] rfl (tX9_less_10 G v0 h)
noncomputable def fX9_less (v0 : Int32) (v1 : Int32) (h : AH) : Option (Int32 × AH) := fX9_less_0 v0 v1 h
theorem eX9_less (G : sr_G) (v0 : Int32) (v1 : Int32) (h : AH) : sr_E G 0 yX9_less cX9_less 2 (some .int) jI [vI v0, vI v1] h (fX9_less v0 v1 h) := sr_E.of (own := RX9) (ini := false) (by decide) rfl (fun q => by first | rfl | cases q) rfl (Nat.le_of_ble_eq_true rfl) (tX9_less_0 G v0 v1 h)
noncomputable def fX9_text_45   (h : AH) : Option (Int32 × AH) := some ((-1), h)
theorem tX9_text_45 (G : sr_G)  (h : AH) : sr_T (X := Int32) G 3 RX9 cX9_text 5 (some .int) false (sr_M G jI) 45 [] [] h (fX9_text_45  h) := by
  unfold fX9_text_45
  refine tq_iconst (-1) dX9_text_45 (by decide) ?_
  exact tq_iret rfl dX9_text_46
noncomputable def fX9_text_175  (v0 : Option Nat) (h : AH) : Option (Int32 × AH) := cGI h 9 475 v0 fun x1 => some (x1, h)
theorem tX9_text_175 (G : sr_G) (v0 : Option Nat) (h : AH) : sr_T (X := Int32) G 3 RX9 cX9_text 5 (some .int) false (sr_M G jI) 175 [(0, vR v0)] [] h (fX9_text_175  v0 h) := by
  unfold fX9_text_175
  refine tq_aload_n 0 0 dX9_text_175 rfl rfl ?_
  refine tq_getI 25 dX9_text_176 cfX9 (by decide) wd_897 rfl rfl (fun x1 => ?_)
  exact tq_iret rfl dX9_text_179
noncomputable def fX9_text_138  : Nat → Option Nat → Int32 → Int32 → AH → Option (Int32 × AH)
  | 0, _, _, _, _ => none
  | n + 1, v0, v3, v4, h => cGR h 9 472 v0 fun x1 => cAL h 0 x1 v3 fun x2 => if x2 ≤ v4 then (fX9_text_175 v0 h) else (cGR h 9 471 v0 fun x3 => cGR h 9 452 v0 fun x4 => cAL h 1 x4 v4 fun x5 => cAS h 1 x3 (((nI 400) * v3) + v4) x5 fun h6 => fX9_text_138 n v0 v3 (v4 + (nI 1)) h6)
theorem tX9_text_138 (G : sr_G) : ∀ (n : Nat) (v0 : Option Nat) (v3 : Int32) (v4 : Int32) (h : AH), sr_T (X := Int32) G 3 RX9 cX9_text 5 (some .int) false (sr_M G jI) 138 [(0, vR v0), (3, vI v3), (4, vI v4)] [] h (fX9_text_138  n v0 v3 v4 h) := by
  intro n
  induction n with
  | zero => intro v0 v3 v4 h; exact tq_none
  | succ n ih =>
    intro v0 v3 v4 h
    unfold fX9_text_138
    refine tq_iload 2 dX9_text_138 rfl ?_
    refine tq_aload_n 0 0 dX9_text_140 rfl rfl ?_
    refine tq_getR 22 dX9_text_141 cfX9 (by decide) wd_894 rfl rfl (fun x1 => ?_)
    refine tq_iload_n 3 1 dX9_text_144 rfl rfl ?_
    refine tq_iald dX9_text_145 (fun x2 => ?_)
    refine tq_icmp_ge 175 dX9_text_146 (by decide) (fun _ => ?_) (fun _ => ?_)
    · exact tq_sub [0] rfl (tX9_text_175 G v0 h)
    · refine tq_aload_n 0 0 dX9_text_149 rfl rfl ?_
      refine tq_getR 21 dX9_text_150 cfX9 (by decide) wd_893 rfl rfl (fun x3 => ?_)
      refine tq_sipush (nI 400) dX9_text_153 (by decide) ?_
      refine tq_iload_n 3 1 dX9_text_156 rfl rfl ?_
      refine tq_imul dX9_text_157 ?_
      refine tq_iload 2 dX9_text_158 rfl ?_
      refine tq_iadd dX9_text_160 ?_
      refine tq_aload_n 0 0 dX9_text_161 rfl rfl ?_
      refine tq_getR 2 dX9_text_162 cfX9 (by decide) wd_874 rfl rfl (fun x4 => ?_)
      refine tq_iload 2 dX9_text_165 rfl ?_
      refine tq_bald dX9_text_167 (fun x5 => ?_)
      refine tq_bast dX9_text_168 (fun h6 => ?_)
      refine tq_iinc 2 (nI 1) (L' := [(4, vI (v4 + (nI 1))), (0, vR v0), (3, vI v3)]) dX9_text_169 rfl (by decide) (by decide) rfl ?_
      refine tq_goto 138 dX9_text_172 (by decide) ?_
      exact tq_sub [1, 2, 0] rfl (ih v0 v3 (v4 + (nI 1)) h6)
noncomputable def fX9_text_98  (v0 : Option Nat) (v1 : Int32) (h : AH) : Option (Int32 × AH) := cGI h 9 453 v0 fun x1 => if x1 ≤ 0 then (fX9_text_175 v0 h) else (cCV h 9 v0 (fX9_fresh v0 v1 h) fun x3 h2 => cGR h2 9 457 v0 fun x4 => cAS h2 0 x4 x3 (nI 17) fun h5 => cGR h5 9 472 v0 fun x6 => cGI h5 9 453 v0 fun x7 => cCL (fX9_less (nI 400) x7 h5) fun x9 h8 => cAS h8 0 x6 x3 x9 fun h10 => fX9_text_138 FU v0 x3 (nI 0) h10)
theorem tX9_text_98 (G : sr_G) (v0 : Option Nat) (v1 : Int32) (h : AH) : sr_T (X := Int32) G 3 RX9 cX9_text 5 (some .int) false (sr_M G jI) 98 [(0, vR v0), (1, vI v1)] [] h (fX9_text_98  v0 v1 h) := by
  unfold fX9_text_98
  refine tq_aload_n 0 0 dX9_text_98 rfl rfl ?_
  refine tq_getI 3 dX9_text_99 cfX9 (by decide) wd_875 rfl rfl (fun x1 => ?_)
  refine tq_if_le 175 dX9_text_102 (by decide) (fun _ => ?_) (fun _ => ?_)
  · exact tq_sub [0] rfl (tX9_text_175 G v0 h)
  · refine tq_aload_n 0 0 dX9_text_105 rfl rfl ?_
    refine tq_iload_n 1 1 dX9_text_106 rfl rfl ?_
    refine tq_cVI [vI v1] [] dX9_text_107 (eX9_fresh G v0 v1 h) (by decide) mbX9_fresh cfX9 rfl wd_868 wd_870 wd_44 rfl rfl (Nat.le_of_ble_eq_true rfl) (fun x3 h2 => ?_)
    refine tq_istore_n 3 (L' := [(3, vI x3), (0, vR v0), (1, vI v1)]) dX9_text_110 rfl (by decide) rfl ?_
    refine tq_aload_n 0 1 dX9_text_111 rfl rfl ?_
    refine tq_getR 7 dX9_text_112 cfX9 (by decide) wd_879 rfl rfl (fun x4 => ?_)
    refine tq_iload_n 3 0 dX9_text_115 rfl rfl ?_
    refine tq_bipush (nI 17) dX9_text_116 (by decide) ?_
    refine tq_iast dX9_text_118 (fun h5 => ?_)
    refine tq_aload_n 0 1 dX9_text_119 rfl rfl ?_
    refine tq_getR 22 dX9_text_120 cfX9 (by decide) wd_894 rfl rfl (fun x6 => ?_)
    refine tq_iload_n 3 0 dX9_text_123 rfl rfl ?_
    refine tq_sipush (nI 400) dX9_text_124 (by decide) ?_
    refine tq_aload_n 0 1 dX9_text_127 rfl rfl ?_
    refine tq_getI 3 dX9_text_128 cfX9 (by decide) wd_875 rfl rfl (fun x7 => ?_)
    refine tq_cSI [vI (nI 400), vI x7] [vI x3, vR x6] dX9_text_131 (eX9_less G (nI 400) x7 h5) (by decide) mbX9_less wd_1193 wd_1194 rfl rfl (Nat.le_of_ble_eq_true rfl) (fun x9 h8 => ?_)
    refine tq_iast dX9_text_134 (fun h10 => ?_)
    refine tq_iconst (nI 0) dX9_text_135 (by decide) ?_
    refine tq_istore (L' := [(4, vI (nI 0)), (3, vI x3), (0, vR v0), (1, vI v1)]) dX9_text_136 (by decide) rfl ?_
    exact tq_sub [2, 1, 0] rfl (tX9_text_138 G FU v0 x3 (nI 0) h10)
noncomputable def fX9_text_75  : Nat → Option Nat → Int32 → AH → Option (Int32 × AH)
  | 0, _, _, _ => none
  | n + 1, v0, v1, h => cGR h 9 461 v0 fun x1 => cAL h 0 x1 v1 fun x2 => if x2 = (-1) then (fX9_text_98 v0 v1 h) else (cGR h 9 461 v0 fun x3 => cAL h 0 x3 v1 fun x4 => cCV h 9 v0 (fX9_remove0 v0 x4 h) fun _ h5 => fX9_text_75 n v0 v1 h5)
theorem tX9_text_75 (G : sr_G) : ∀ (n : Nat) (v0 : Option Nat) (v1 : Int32) (h : AH), sr_T (X := Int32) G 3 RX9 cX9_text 5 (some .int) false (sr_M G jI) 75 [(0, vR v0), (1, vI v1)] [] h (fX9_text_75  n v0 v1 h) := by
  intro n
  induction n with
  | zero => intro v0 v1 h; exact tq_none
  | succ n ih =>
    intro v0 v1 h
    unfold fX9_text_75
    refine tq_aload_n 0 0 dX9_text_75 rfl rfl ?_
    refine tq_getR 11 dX9_text_76 cfX9 (by decide) wd_883 rfl rfl (fun x1 => ?_)
    refine tq_iload_n 1 1 dX9_text_79 rfl rfl ?_
    refine tq_iald dX9_text_80 (fun x2 => ?_)
    refine tq_iconst (-1) dX9_text_81 (by decide) ?_
    refine tq_icmp_eq 98 dX9_text_82 (by decide) (fun _ => ?_) (fun _ => ?_)
    · exact tX9_text_98 G v0 v1 h
    · refine tq_aload_n 0 0 dX9_text_85 rfl rfl ?_
      refine tq_aload_n 0 0 dX9_text_86 rfl rfl ?_
      refine tq_getR 11 dX9_text_87 cfX9 (by decide) wd_883 rfl rfl (fun x3 => ?_)
      refine tq_iload_n 1 1 dX9_text_90 rfl rfl ?_
      refine tq_iald dX9_text_91 (fun x4 => ?_)
      refine tq_cVV [vI x4] [] dX9_text_92 (eX9_remove0 G v0 x4 h) (by decide) mbX9_remove0 cfX9 rfl wd_1181 wd_1183 wd_66 rfl rfl (Nat.le_of_ble_eq_true rfl) (fun _ h5 => ?_)
      refine tq_goto 75 dX9_text_95 (by decide) ?_
      exact ih v0 v1 h5
noncomputable def fX9_text_0  (v0 : Option Nat) (v1 : Int32) (h : AH) : Option (Int32 × AH) := cCV h 9 v0 (fX9_take v0 h) fun x2 h1 => if x2 < 0 then (cCV h1 9 v0 (fX9_isElement v0 v1 h1) fun x4 h3 => if x4 = 0 then (fX9_text_45 h3) else (cGR h3 9 457 v0 fun x5 => cAL h3 0 x5 v1 fun x6 => cCL (fX9_isEmptyTag x6 h3) fun x8 h7 => if x8 = 0 then (cGR h7 9 465 v0 fun x9 => cAL h7 0 x9 v1 fun x10 => if x10 = (nI 20) then (fX9_text_45 h7) else (cGI h7 9 453 v0 fun x11 => if x11 ≤ 0 then (fX9_text_75 FU v0 v1 h7) else (cGI h7 9 475 v0 fun x12 => if x12 = (nI 120) then (cGR h7 9 461 v0 fun x13 => cAL h7 0 x13 v1 fun x14 => if x14 = (-1) then (some ((-1), h7)) else (fX9_text_75 FU v0 v1 h7)) else (fX9_text_75 FU v0 v1 h7)))) else (fX9_text_45 h7))) else (cCL (fX9_wrong x2 h1) fun x16 h15 => some (x16, h15))
theorem tX9_text_0 (G : sr_G) (v0 : Option Nat) (v1 : Int32) (h : AH) : sr_T (X := Int32) G 3 RX9 cX9_text 5 (some .int) false (sr_M G jI) 0 [(0, vR v0), (1, vI v1)] [] h (fX9_text_0  v0 v1 h) := by
  unfold fX9_text_0
  refine tq_aload_n 0 0 dX9_text_0 rfl rfl ?_
  refine tq_cVI [] [] dX9_text_1 (eX9_take G v0 h) (by decide) mbX9_take cfX9 rfl wd_1029 wd_1031 wd_46 rfl rfl (Nat.le_of_ble_eq_true rfl) (fun x2 h1 => ?_)
  refine tq_istore_n 2 (L' := [(2, vI x2), (0, vR v0), (1, vI v1)]) dX9_text_4 rfl (by decide) rfl ?_
  refine tq_iload_n 2 0 dX9_text_5 rfl rfl ?_
  refine tq_if_lt 14 dX9_text_6 (by decide) (fun _ => ?_) (fun _ => ?_)
  · refine tq_aload_n 0 1 dX9_text_14 rfl rfl ?_
    refine tq_iload_n 1 2 dX9_text_15 rfl rfl ?_
    refine tq_cVI [vI v1] [] dX9_text_16 (eX9_isElement G v0 v1 h1) (by decide) mbX9_isElement cfX9 rfl wd_1157 wd_1159 wd_64 rfl rfl (Nat.le_of_ble_eq_true rfl) (fun x4 h3 => ?_)
    refine tq_if_eq 45 dX9_text_19 (by decide) (fun _ => ?_) (fun _ => ?_)
    · exact tq_sub [] rfl (tX9_text_45 G h3)
    · refine tq_aload_n 0 1 dX9_text_22 rfl rfl ?_
      refine tq_getR 7 dX9_text_23 cfX9 (by decide) wd_879 rfl rfl (fun x5 => ?_)
      refine tq_iload_n 1 2 dX9_text_26 rfl rfl ?_
      refine tq_iald dX9_text_27 (fun x6 => ?_)
      refine tq_cSI [vI x6] [] dX9_text_28 (eX9_isEmptyTag G x6 h3) (by decide) mbX9_isEmptyTag wd_843 wd_844 rfl rfl (Nat.le_of_ble_eq_true rfl) (fun x8 h7 => ?_)
      refine tq_if_ne 45 dX9_text_31 (by decide) (fun _ => ?_) (fun _ => ?_)
      · exact tq_sub [] rfl (tX9_text_45 G h7)
      · refine tq_aload_n 0 1 dX9_text_34 rfl rfl ?_
        refine tq_getR 15 dX9_text_35 cfX9 (by decide) wd_887 rfl rfl (fun x9 => ?_)
        refine tq_iload_n 1 2 dX9_text_38 rfl rfl ?_
        refine tq_iald dX9_text_39 (fun x10 => ?_)
        refine tq_bipush (nI 20) dX9_text_40 (by decide) ?_
        refine tq_icmp_ne 47 dX9_text_42 (by decide) (fun _ => ?_) (fun _ => ?_)
        · refine tq_aload_n 0 1 dX9_text_47 rfl rfl ?_
          refine tq_getI 3 dX9_text_48 cfX9 (by decide) wd_875 rfl rfl (fun x11 => ?_)
          refine tq_if_le 75 dX9_text_51 (by decide) (fun _ => ?_) (fun _ => ?_)
          · exact tq_sub [1, 2] rfl (tX9_text_75 G FU v0 v1 h7)
          · refine tq_aload_n 0 1 dX9_text_54 rfl rfl ?_
            refine tq_getI 25 dX9_text_55 cfX9 (by decide) wd_897 rfl rfl (fun x12 => ?_)
            refine tq_bipush (nI 120) dX9_text_58 (by decide) ?_
            refine tq_icmp_ne 75 dX9_text_60 (by decide) (fun _ => ?_) (fun _ => ?_)
            · exact tq_sub [1, 2] rfl (tX9_text_75 G FU v0 v1 h7)
            · refine tq_aload_n 0 1 dX9_text_63 rfl rfl ?_
              refine tq_getR 11 dX9_text_64 cfX9 (by decide) wd_883 rfl rfl (fun x13 => ?_)
              refine tq_iload_n 1 2 dX9_text_67 rfl rfl ?_
              refine tq_iald dX9_text_68 (fun x14 => ?_)
              refine tq_iconst (-1) dX9_text_69 (by decide) ?_
              refine tq_icmp_ne 75 dX9_text_70 (by decide) (fun _ => ?_) (fun _ => ?_)
              · exact tq_sub [1, 2] rfl (tX9_text_75 G FU v0 v1 h7)
              · refine tq_iconst (-1) dX9_text_73 (by decide) ?_
                exact tq_iret rfl dX9_text_74
        · exact tq_sub [] rfl (tX9_text_45 G h7)
  · refine tq_iload_n 2 0 dX9_text_9 rfl rfl ?_
    refine tq_cSI [vI x2] [] dX9_text_10 (eX9_wrong G x2 h1) (by decide) mbX9_wrong wd_1033 wd_1034 rfl rfl (Nat.le_of_ble_eq_true rfl) (fun x16 h15 => ?_)
    exact tq_iret rfl dX9_text_13
noncomputable def fX9_text (v0 : Option Nat) (v1 : Int32) (h : AH) : Option (Int32 × AH) := fX9_text_0 v0 v1 h
theorem eX9_text (G : sr_G) (v0 : Option Nat) (v1 : Int32) (h : AH) : sr_E G 3 yX9_text cX9_text 5 (some .int) jI [vR v0, vI v1] h (fX9_text v0 v1 h) := sr_E.of (own := RX9) (ini := false) (by decide) rfl (fun q => by first | rfl | cases q) rfl (Nat.le_of_ble_eq_true rfl) (tX9_text_0 G v0 v1 h)
noncomputable def fX9_set_71  (s0 : Int32) (h : AH) : Option (Int32 × AH) := cCL (fX9_wrong s0 h) fun x2 h1 => some (x2, h1)
theorem tX9_set_71 (G : sr_G) (s0 : Int32) (h : AH) : sr_T (X := Int32) G 2 RX9 cX9_set 6 (some .int) false (sr_M G jI) 71 [] [vI s0] h (fX9_set_71  s0 h) := by
  unfold fX9_set_71
  refine tq_cSI [vI s0] [] dX9_set_71 (eX9_wrong G s0 h) (by decide) mbX9_wrong wd_1033 wd_1034 rfl rfl (Nat.le_of_ble_eq_true rfl) (fun x2 h1 => ?_)
  exact tq_iret rfl dX9_set_74
noncomputable def fX9_set_59  (v0 : Option Nat) (v2 : Int32) (h : AH) : Option (Int32 × AH) := if v2 < 0 then (cGI h 9 453 v0 fun x1 => fX9_set_71 x1 h) else (fX9_set_71 v2 h)
theorem tX9_set_59 (G : sr_G) (v0 : Option Nat) (v2 : Int32) (h : AH) : sr_T (X := Int32) G 2 RX9 cX9_set 6 (some .int) false (sr_M G jI) 59 [(0, vR v0), (2, vI v2)] [] h (fX9_set_59  v0 v2 h) := by
  unfold fX9_set_59
  refine tq_iload_n 2 1 dX9_set_59 rfl rfl ?_
  refine tq_if_lt 67 dX9_set_60 (by decide) (fun _ => ?_) (fun _ => ?_)
  · refine tq_aload_n 0 0 dX9_set_67 rfl rfl ?_
    refine tq_getI 3 dX9_set_68 cfX9 (by decide) wd_875 rfl rfl (fun x1 => ?_)
    exact tq_sub [] rfl (tX9_set_71 G x1 h)
  · refine tq_iload_n 2 1 dX9_set_63 rfl rfl ?_
    refine tq_goto 71 dX9_set_64 (by decide) ?_
    exact tq_sub [] rfl (tX9_set_71 G v2 h)
noncomputable def fX9_set_247  (v0 : Option Nat) (v1 : Int32) (h : AH) : Option (Int32 × AH) := cGR h 9 466 v0 fun x1 => cAL h 0 x1 v1 fun x2 => some (x2, h)
theorem tX9_set_247 (G : sr_G) (v0 : Option Nat) (v1 : Int32) (h : AH) : sr_T (X := Int32) G 2 RX9 cX9_set 6 (some .int) false (sr_M G jI) 247 [(0, vR v0), (1, vI v1)] [] h (fX9_set_247  v0 v1 h) := by
  unfold fX9_set_247
  refine tq_aload_n 0 0 dX9_set_247 rfl rfl ?_
  refine tq_getR 16 dX9_set_248 cfX9 (by decide) wd_888 rfl rfl (fun x1 => ?_)
  refine tq_iload_n 1 1 dX9_set_251 rfl rfl ?_
  refine tq_iald dX9_set_252 (fun x2 => ?_)
  exact tq_iret rfl dX9_set_253
noncomputable def fX9_set_205  : Nat → Option Nat → Int32 → Int32 → Int32 → Int32 → AH → Option (Int32 × AH)
  | 0, _, _, _, _, _, _ => none
  | n + 1, v0, v1, v3, v4, v5, h => cGR h 9 470 v0 fun x1 => cAL h 0 x1 v4 fun x2 => if x2 ≤ v5 then (fX9_set_247 v0 v1 h) else (cGR h 9 469 v0 fun x3 => cGR h 9 452 v0 fun x4 => cAL h 1 x4 ((v3 + (nI 1)) + v5) fun x5 => cAS h 1 x3 (((nI 60) * v4) + v5) x5 fun h6 => fX9_set_205 n v0 v1 v3 v4 (v5 + (nI 1)) h6)
theorem tX9_set_205 (G : sr_G) : ∀ (n : Nat) (v0 : Option Nat) (v1 : Int32) (v3 : Int32) (v4 : Int32) (v5 : Int32) (h : AH), sr_T (X := Int32) G 2 RX9 cX9_set 6 (some .int) false (sr_M G jI) 205 [(0, vR v0), (1, vI v1), (3, vI v3), (4, vI v4), (5, vI v5)] [] h (fX9_set_205  n v0 v1 v3 v4 v5 h) := by
  intro n
  induction n with
  | zero => intro v0 v1 v3 v4 v5 h; exact tq_none
  | succ n ih =>
    intro v0 v1 v3 v4 v5 h
    unfold fX9_set_205
    refine tq_iload 4 dX9_set_205 rfl ?_
    refine tq_aload_n 0 0 dX9_set_207 rfl rfl ?_
    refine tq_getR 20 dX9_set_208 cfX9 (by decide) wd_892 rfl rfl (fun x1 => ?_)
    refine tq_iload 3 dX9_set_211 rfl ?_
    refine tq_iald dX9_set_213 (fun x2 => ?_)
    refine tq_icmp_ge 247 dX9_set_214 (by decide) (fun _ => ?_) (fun _ => ?_)
    · exact tq_sub [0, 1] rfl (tX9_set_247 G v0 v1 h)
    · refine tq_aload_n 0 0 dX9_set_217 rfl rfl ?_
      refine tq_getR 19 dX9_set_218 cfX9 (by decide) wd_891 rfl rfl (fun x3 => ?_)
      refine tq_bipush (nI 60) dX9_set_221 (by decide) ?_
      refine tq_iload 3 dX9_set_223 rfl ?_
      refine tq_imul dX9_set_225 ?_
      refine tq_iload 4 dX9_set_226 rfl ?_
      refine tq_iadd dX9_set_228 ?_
      refine tq_aload_n 0 0 dX9_set_229 rfl rfl ?_
      refine tq_getR 2 dX9_set_230 cfX9 (by decide) wd_874 rfl rfl (fun x4 => ?_)
      refine tq_iload_n 3 2 dX9_set_233 rfl rfl ?_
      refine tq_iconst (nI 1) dX9_set_234 (by decide) ?_
      refine tq_iadd dX9_set_235 ?_
      refine tq_iload 4 dX9_set_236 rfl ?_
      refine tq_iadd dX9_set_238 ?_
      refine tq_bald dX9_set_239 (fun x5 => ?_)
      refine tq_bast dX9_set_240 (fun h6 => ?_)
      refine tq_iinc 4 (nI 1) (L' := [(5, vI (v5 + (nI 1))), (0, vR v0), (1, vI v1), (3, vI v3), (4, vI v4)]) dX9_set_241 rfl (by decide) (by decide) rfl ?_
      refine tq_goto 205 dX9_set_244 (by decide) ?_
      exact tq_sub [1, 2, 3, 4, 0] rfl (ih v0 v1 v3 v4 (v5 + (nI 1)) h6)
noncomputable def fX9_set_182  (v0 : Option Nat) (v1 : Int32) (v3 : Int32) (v4 : Int32) (h : AH) : Option (Int32 × AH) := cGR h 9 470 v0 fun x1 => cGI h 9 453 v0 fun x2 => cCL (fX9_less (nI 60) ((x2 - v3) - (nI 1)) h) fun x4 h3 => cAS h3 0 x1 v4 x4 fun h5 => fX9_set_205 FU v0 v1 v3 v4 (nI 0) h5
theorem tX9_set_182 (G : sr_G) (v0 : Option Nat) (v1 : Int32) (v3 : Int32) (v4 : Int32) (h : AH) : sr_T (X := Int32) G 2 RX9 cX9_set 6 (some .int) false (sr_M G jI) 182 [(0, vR v0), (1, vI v1), (3, vI v3), (4, vI v4)] [] h (fX9_set_182  v0 v1 v3 v4 h) := by
  unfold fX9_set_182
  refine tq_aload_n 0 0 dX9_set_182 rfl rfl ?_
  refine tq_getR 20 dX9_set_183 cfX9 (by decide) wd_892 rfl rfl (fun x1 => ?_)
  refine tq_iload 3 dX9_set_186 rfl ?_
  refine tq_bipush (nI 60) dX9_set_188 (by decide) ?_
  refine tq_aload_n 0 0 dX9_set_190 rfl rfl ?_
  refine tq_getI 3 dX9_set_191 cfX9 (by decide) wd_875 rfl rfl (fun x2 => ?_)
  refine tq_iload_n 3 2 dX9_set_194 rfl rfl ?_
  refine tq_isub dX9_set_195 ?_
  refine tq_iconst (nI 1) dX9_set_196 (by decide) ?_
  refine tq_isub dX9_set_197 ?_
  refine tq_cSI [vI (nI 60), vI ((x2 - v3) - (nI 1))] [vI v4, vR x1] dX9_set_198 (eX9_less G (nI 60) ((x2 - v3) - (nI 1)) h) (by decide) mbX9_less wd_1193 wd_1194 rfl rfl (Nat.le_of_ble_eq_true rfl) (fun x4 h3 => ?_)
  refine tq_iast dX9_set_201 (fun h5 => ?_)
  refine tq_iconst (nI 0) dX9_set_202 (by decide) ?_
  refine tq_istore (L' := [(5, vI (nI 0)), (0, vR v0), (1, vI v1), (3, vI v3), (4, vI v4)]) dX9_set_203 (by decide) rfl ?_
  exact tq_sub [1, 2, 3, 4, 0] rfl (tX9_set_205 G FU v0 v1 v3 v4 (nI 0) h5)
noncomputable def fX9_set_150  : Nat → Option Nat → Int32 → Int32 → Int32 → Int32 → AH → Option (Int32 × AH)
  | 0, _, _, _, _, _, _ => none
  | n + 1, v0, v1, v3, v4, v5, h => if v3 ≤ v5 then (fX9_set_182 v0 v1 v3 v4 h) else (cGR h 9 467 v0 fun x1 => cGR h 9 452 v0 fun x2 => cAL h 1 x2 v5 fun x3 => cAS h 1 x1 (((nI 8) * v4) + v5) x3 fun h4 => fX9_set_150 n v0 v1 v3 v4 (v5 + (nI 1)) h4)
theorem tX9_set_150 (G : sr_G) : ∀ (n : Nat) (v0 : Option Nat) (v1 : Int32) (v3 : Int32) (v4 : Int32) (v5 : Int32) (h : AH), sr_T (X := Int32) G 2 RX9 cX9_set 6 (some .int) false (sr_M G jI) 150 [(0, vR v0), (1, vI v1), (3, vI v3), (4, vI v4), (5, vI v5)] [] h (fX9_set_150  n v0 v1 v3 v4 v5 h) := by
  intro n
  induction n with
  | zero => intro v0 v1 v3 v4 v5 h; exact tq_none
  | succ n ih =>
    intro v0 v1 v3 v4 v5 h
    unfold fX9_set_150
    refine tq_iload 4 dX9_set_150 rfl ?_
    refine tq_iload_n 3 2 dX9_set_152 rfl rfl ?_
    refine tq_icmp_ge 182 dX9_set_153 (by decide) (fun _ => ?_) (fun _ => ?_)
    · exact tq_sub [0, 1, 2, 3] rfl (tX9_set_182 G v0 v1 v3 v4 h)
    · refine tq_aload_n 0 0 dX9_set_156 rfl rfl ?_
      refine tq_getR 17 dX9_set_157 cfX9 (by decide) wd_889 rfl rfl (fun x1 => ?_)
      refine tq_bipush (nI 8) dX9_set_160 (by decide) ?_
      refine tq_iload 3 dX9_set_162 rfl ?_
      refine tq_imul dX9_set_164 ?_
      refine tq_iload 4 dX9_set_165 rfl ?_
      refine tq_iadd dX9_set_167 ?_
      refine tq_aload_n 0 0 dX9_set_168 rfl rfl ?_
      refine tq_getR 2 dX9_set_169 cfX9 (by decide) wd_874 rfl rfl (fun x2 => ?_)
      refine tq_iload 4 dX9_set_172 rfl ?_
      refine tq_bald dX9_set_174 (fun x3 => ?_)
      refine tq_bast dX9_set_175 (fun h4 => ?_)
      refine tq_iinc 4 (nI 1) (L' := [(5, vI (v5 + (nI 1))), (0, vR v0), (1, vI v1), (3, vI v3), (4, vI v4)]) dX9_set_176 rfl (by decide) (by decide) rfl ?_
      refine tq_goto 150 dX9_set_179 (by decide) ?_
      exact tq_sub [1, 2, 3, 4, 0] rfl (ih v0 v1 v3 v4 (v5 + (nI 1)) h4)
noncomputable def fX9_set_111  (v0 : Option Nat) (v1 : Int32) (v3 : Int32) (v4 : Int32) (h : AH) : Option (Int32 × AH) := if v4 = (-1) then (cGR h 9 466 v0 fun x1 => cAL h 0 x1 v1 fun x2 => cGR h 9 466 v0 fun x3 => cAL h 0 x3 v1 fun x4 => cAS h 0 x3 v1 (x4 + (nI 1)) fun h5 => cGR h5 9 468 v0 fun x6 => cAS h5 0 x6 (((nI 4) * v1) + x2) v3 fun h7 => fX9_set_150 FU v0 v1 v3 (((nI 4) * v1) + x2) (nI 0) h7) else (fX9_set_182 v0 v1 v3 v4 h)
theorem tX9_set_111 (G : sr_G) (v0 : Option Nat) (v1 : Int32) (v3 : Int32) (v4 : Int32) (h : AH) : sr_T (X := Int32) G 2 RX9 cX9_set 6 (some .int) false (sr_M G jI) 111 [(0, vR v0), (1, vI v1), (3, vI v3), (4, vI v4)] [] h (fX9_set_111  v0 v1 v3 v4 h) := by
  unfold fX9_set_111
  refine tq_iload 3 dX9_set_111 rfl ?_
  refine tq_iconst (-1) dX9_set_113 (by decide) ?_
  refine tq_icmp_ne 182 dX9_set_114 (by decide) (fun _ => ?_) (fun _ => ?_)
  · exact tX9_set_182 G v0 v1 v3 v4 h
  · refine tq_iconst (nI 4) dX9_set_117 (by decide) ?_
    refine tq_iload_n 1 1 dX9_set_118 rfl rfl ?_
    refine tq_imul dX9_set_119 ?_
    refine tq_aload_n 0 0 dX9_set_120 rfl rfl ?_
    refine tq_getR 16 dX9_set_121 cfX9 (by decide) wd_888 rfl rfl (fun x1 => ?_)
    refine tq_iload_n 1 1 dX9_set_124 rfl rfl ?_
    refine tq_iald dX9_set_125 (fun x2 => ?_)
    refine tq_iadd dX9_set_126 ?_
    refine tq_istore (L' := [(4, vI (((nI 4) * v1) + x2)), (0, vR v0), (1, vI v1), (3, vI v3)]) dX9_set_127 (by decide) rfl ?_
    refine tq_aload_n 0 1 dX9_set_129 rfl rfl ?_
    refine tq_getR 16 dX9_set_130 cfX9 (by decide) wd_888 rfl rfl (fun x3 => ?_)
    refine tq_iload_n 1 2 dX9_set_133 rfl rfl ?_
    refine tq_dup2 dX9_set_134 ?_
    refine tq_iald dX9_set_135 (fun x4 => ?_)
    refine tq_iconst (nI 1) dX9_set_136 (by decide) ?_
    refine tq_iadd dX9_set_137 ?_
    refine tq_iast dX9_set_138 (fun h5 => ?_)
    refine tq_aload_n 0 1 dX9_set_139 rfl rfl ?_
    refine tq_getR 18 dX9_set_140 cfX9 (by decide) wd_890 rfl rfl (fun x6 => ?_)
    refine tq_iload 0 dX9_set_143 rfl ?_
    refine tq_iload_n 3 3 dX9_set_145 rfl rfl ?_
    refine tq_iast dX9_set_146 (fun h7 => ?_)
    refine tq_iconst (nI 0) dX9_set_147 (by decide) ?_
    refine tq_istore (L' := [(5, vI (nI 0)), (4, vI (((nI 4) * v1) + x2)), (0, vR v0), (1, vI v1), (3, vI v3)]) dX9_set_148 (by decide) rfl ?_
    exact tq_sub [2, 3, 4, 1, 0] rfl (tX9_set_150 G FU v0 v1 v3 (((nI 4) * v1) + x2) (nI 0) h7)
noncomputable def fX9_set_41  (v0 : Option Nat) (v1 : Int32) (v3 : Int32) (h : AH) : Option (Int32 × AH) := cCV h 9 v0 (fX9_wrongName v0 v3 h) fun x2 h1 => if 0 ≤ x2 then (fX9_set_59 v0 x2 h1) else (cGI h1 9 453 v0 fun x3 => if v3 = x3 then (fX9_set_59 v0 x2 h1) else (cCV h1 9 v0 (fX9_isElement v0 v1 h1) fun x5 h4 => if x5 = 0 then (some ((-1), h4)) else (cCV h4 9 v0 (fX9_attributeNamed v0 v1 v3 h4) fun x7 h6 => if x7 = (-1) then (cGR h6 9 466 v0 fun x8 => cAL h6 0 x8 v1 fun x9 => if x9 = (nI 4) then (some ((-1), h6)) else (fX9_set_111 v0 v1 v3 x7 h6)) else (fX9_set_111 v0 v1 v3 x7 h6))))
theorem tX9_set_41 (G : sr_G) (v0 : Option Nat) (v1 : Int32) (v3 : Int32) (h : AH) : sr_T (X := Int32) G 2 RX9 cX9_set 6 (some .int) false (sr_M G jI) 41 [(0, vR v0), (1, vI v1), (3, vI v3)] [] h (fX9_set_41  v0 v1 v3 h) := by
  unfold fX9_set_41
  refine tq_aload_n 0 0 dX9_set_41 rfl rfl ?_
  refine tq_iload_n 3 2 dX9_set_42 rfl rfl ?_
  refine tq_cVI [vI v3] [] dX9_set_43 (eX9_wrongName G v0 v3 h) (by decide) mbX9_wrongName cfX9 rfl wd_1153 wd_1155 wd_63 rfl rfl (Nat.le_of_ble_eq_true rfl) (fun x2 h1 => ?_)
  refine tq_istore_n 2 (L' := [(2, vI x2), (0, vR v0), (1, vI v1), (3, vI v3)]) dX9_set_46 rfl (by decide) rfl ?_
  refine tq_iload_n 2 0 dX9_set_47 rfl rfl ?_
  refine tq_if_ge 59 dX9_set_48 (by decide) (fun _ => ?_) (fun _ => ?_)
  · exact tq_sub [1, 0] rfl (tX9_set_59 G v0 x2 h1)
  · refine tq_iload_n 3 3 dX9_set_51 rfl rfl ?_
    refine tq_aload_n 0 1 dX9_set_52 rfl rfl ?_
    refine tq_getI 3 dX9_set_53 cfX9 (by decide) wd_875 rfl rfl (fun x3 => ?_)
    refine tq_icmp_ne 75 dX9_set_56 (by decide) (fun _ => ?_) (fun _ => ?_)
    · refine tq_aload_n 0 1 dX9_set_75 rfl rfl ?_
      refine tq_iload_n 1 2 dX9_set_76 rfl rfl ?_
      refine tq_cVI [vI v1] [] dX9_set_77 (eX9_isElement G v0 v1 h1) (by decide) mbX9_isElement cfX9 rfl wd_1157 wd_1159 wd_64 rfl rfl (Nat.le_of_ble_eq_true rfl) (fun x5 h4 => ?_)
      refine tq_if_ne 85 dX9_set_80 (by decide) (fun _ => ?_) (fun _ => ?_)
      · refine tq_aload_n 0 1 dX9_set_85 rfl rfl ?_
        refine tq_iload_n 1 2 dX9_set_86 rfl rfl ?_
        refine tq_iload_n 3 3 dX9_set_87 rfl rfl ?_
        refine tq_cVI [vI v1, vI v3] [] dX9_set_88 (eX9_attributeNamed G v0 v1 v3 h4) (by decide) mbX9_attributeNamed cfX9 rfl wd_1161 wd_1163 wd_65 rfl rfl (Nat.le_of_ble_eq_true rfl) (fun x7 h6 => ?_)
        refine tq_istore (L' := [(4, vI x7), (2, vI x2), (0, vR v0), (1, vI v1), (3, vI v3)]) dX9_set_91 (by decide) rfl ?_
        refine tq_iload 0 dX9_set_93 rfl ?_
        refine tq_iconst (-1) dX9_set_95 (by decide) ?_
        refine tq_icmp_ne 111 dX9_set_96 (by decide) (fun _ => ?_) (fun _ => ?_)
        · exact tq_sub [2, 3, 4, 0] rfl (tX9_set_111 G v0 v1 v3 x7 h6)
        · refine tq_aload_n 0 2 dX9_set_99 rfl rfl ?_
          refine tq_getR 16 dX9_set_100 cfX9 (by decide) wd_888 rfl rfl (fun x8 => ?_)
          refine tq_iload_n 1 3 dX9_set_103 rfl rfl ?_
          refine tq_iald dX9_set_104 (fun x9 => ?_)
          refine tq_iconst (nI 4) dX9_set_105 (by decide) ?_
          refine tq_icmp_ne 111 dX9_set_106 (by decide) (fun _ => ?_) (fun _ => ?_)
          · exact tq_sub [2, 3, 4, 0] rfl (tX9_set_111 G v0 v1 v3 x7 h6)
          · refine tq_iconst (-1) dX9_set_109 (by decide) ?_
            exact tq_iret rfl dX9_set_110
      · refine tq_iconst (-1) dX9_set_83 (by decide) ?_
        exact tq_iret rfl dX9_set_84
    · exact tq_sub [1, 0] rfl (tX9_set_59 G v0 x2 h1)
noncomputable def fX9_set_16  : Nat → Option Nat → Int32 → Int32 → AH → Option (Int32 × AH)
  | 0, _, _, _, _ => none
  | n + 1, v0, v1, v3, h => cGI h 9 453 v0 fun x1 => if x1 ≤ v3 then (fX9_set_41 v0 v1 v3 h) else (cGR h 9 452 v0 fun x2 => cAL h 1 x2 v3 fun x3 => if x3 = (nI 61) then (fX9_set_41 v0 v1 v3 h) else (fX9_set_16 n v0 v1 (v3 + (nI 1)) h))
theorem tX9_set_16 (G : sr_G) : ∀ (n : Nat) (v0 : Option Nat) (v1 : Int32) (v3 : Int32) (h : AH), sr_T (X := Int32) G 2 RX9 cX9_set 6 (some .int) false (sr_M G jI) 16 [(0, vR v0), (1, vI v1), (3, vI v3)] [] h (fX9_set_16  n v0 v1 v3 h) := by
  intro n
  induction n with
  | zero => intro v0 v1 v3 h; exact tq_none
  | succ n ih =>
    intro v0 v1 v3 h
    unfold fX9_set_16
    refine tq_iload_n 3 2 dX9_set_16 rfl rfl ?_
    refine tq_aload_n 0 0 dX9_set_17 rfl rfl ?_
    refine tq_getI 3 dX9_set_18 cfX9 (by decide) wd_875 rfl rfl (fun x1 => ?_)
    refine tq_icmp_ge 41 dX9_set_21 (by decide) (fun _ => ?_) (fun _ => ?_)
    · exact tX9_set_41 G v0 v1 v3 h
    · refine tq_aload_n 0 0 dX9_set_24 rfl rfl ?_
      refine tq_getR 2 dX9_set_25 cfX9 (by decide) wd_874 rfl rfl (fun x2 => ?_)
      refine tq_iload_n 3 2 dX9_set_28 rfl rfl ?_
      refine tq_bald dX9_set_29 (fun x3 => ?_)
      refine tq_bipush (nI 61) dX9_set_30 (by decide) ?_
      refine tq_icmp_eq 41 dX9_set_32 (by decide) (fun _ => ?_) (fun _ => ?_)
      · exact tX9_set_41 G v0 v1 v3 h
      · refine tq_iinc 2 (nI 1) (L' := [(3, vI (v3 + (nI 1))), (0, vR v0), (1, vI v1)]) dX9_set_35 rfl (by decide) (by decide) rfl ?_
        refine tq_goto 16 dX9_set_38 (by decide) ?_
        exact tq_sub [1, 2, 0] rfl (ih v0 v1 (v3 + (nI 1)) h)
noncomputable def fX9_set_0  (v0 : Option Nat) (v1 : Int32) (h : AH) : Option (Int32 × AH) := cCV h 9 v0 (fX9_take v0 h) fun x2 h1 => if x2 < 0 then (fX9_set_16 FU v0 v1 (nI 0) h1) else (cCL (fX9_wrong x2 h1) fun x4 h3 => some (x4, h3))
theorem tX9_set_0 (G : sr_G) (v0 : Option Nat) (v1 : Int32) (h : AH) : sr_T (X := Int32) G 2 RX9 cX9_set 6 (some .int) false (sr_M G jI) 0 [(0, vR v0), (1, vI v1)] [] h (fX9_set_0  v0 v1 h) := by
  unfold fX9_set_0
  refine tq_aload_n 0 0 dX9_set_0 rfl rfl ?_
  refine tq_cVI [] [] dX9_set_1 (eX9_take G v0 h) (by decide) mbX9_take cfX9 rfl wd_1029 wd_1031 wd_46 rfl rfl (Nat.le_of_ble_eq_true rfl) (fun x2 h1 => ?_)
  refine tq_istore_n 2 (L' := [(2, vI x2), (0, vR v0), (1, vI v1)]) dX9_set_4 rfl (by decide) rfl ?_
  refine tq_iload_n 2 0 dX9_set_5 rfl rfl ?_
  refine tq_if_lt 14 dX9_set_6 (by decide) (fun _ => ?_) (fun _ => ?_)
  · refine tq_iconst (nI 0) dX9_set_14 (by decide) ?_
    refine tq_istore_n 3 (L' := [(3, vI (nI 0)), (2, vI x2), (0, vR v0), (1, vI v1)]) dX9_set_15 rfl (by decide) rfl ?_
    exact tq_sub [2, 3, 0] rfl (tX9_set_16 G FU v0 v1 (nI 0) h1)
  · refine tq_iload_n 2 0 dX9_set_9 rfl rfl ?_
    refine tq_cSI [vI x2] [] dX9_set_10 (eX9_wrong G x2 h1) (by decide) mbX9_wrong wd_1033 wd_1034 rfl rfl (Nat.le_of_ble_eq_true rfl) (fun x4 h3 => ?_)
    exact tq_iret rfl dX9_set_13
noncomputable def fX9_set (v0 : Option Nat) (v1 : Int32) (h : AH) : Option (Int32 × AH) := fX9_set_0 v0 v1 h
theorem eX9_set (G : sr_G) (v0 : Option Nat) (v1 : Int32) (h : AH) : sr_E G 2 yX9_set cX9_set 6 (some .int) jI [vR v0, vI v1] h (fX9_set v0 v1 h) := sr_E.of (own := RX9) (ini := false) (by decide) rfl (fun q => by first | rfl | cases q) rfl (Nat.le_of_ble_eq_true rfl) (tX9_set_0 G v0 v1 h)
noncomputable def fX9_remove_12   (h : AH) : Option (Int32 × AH) := some ((-1), h)
theorem tX9_remove_12 (G : sr_G)  (h : AH) : sr_T (X := Int32) G 3 RX9 cX9_remove 2 (some .int) false (sr_M G jI) 12 [] [] h (fX9_remove_12  h) := by
  unfold fX9_remove_12
  refine tq_iconst (-1) dX9_remove_12 (by decide) ?_
  exact tq_iret rfl dX9_remove_13
noncomputable def fX9_remove_0  (v0 : Option Nat) (v1 : Int32) (h : AH) : Option (Int32 × AH) := cCV h 9 v0 (fX9_there v0 v1 h) fun x2 h1 => if x2 = 0 then (fX9_remove_12 h1) else (if v1 = 0 then (fX9_remove_12 h1) else (cCV h1 9 v0 (fX9_remove0 v0 v1 h1) fun _ h3 => cGI h3 9 475 v0 fun x4 => some (x4, h3)))
theorem tX9_remove_0 (G : sr_G) (v0 : Option Nat) (v1 : Int32) (h : AH) : sr_T (X := Int32) G 3 RX9 cX9_remove 2 (some .int) false (sr_M G jI) 0 [(0, vR v0), (1, vI v1)] [] h (fX9_remove_0  v0 v1 h) := by
  unfold fX9_remove_0
  refine tq_aload_n 0 0 dX9_remove_0 rfl rfl ?_
  refine tq_iload_n 1 1 dX9_remove_1 rfl rfl ?_
  refine tq_cVI [vI v1] [] dX9_remove_2 (eX9_there G v0 v1 h) (by decide) mbX9_there cfX9 rfl wd_818 wd_820 wd_37 rfl rfl (Nat.le_of_ble_eq_true rfl) (fun x2 h1 => ?_)
  refine tq_if_eq 12 dX9_remove_5 (by decide) (fun _ => ?_) (fun _ => ?_)
  · exact tq_sub [] rfl (tX9_remove_12 G h1)
  · refine tq_iload_n 1 1 dX9_remove_8 rfl rfl ?_
    refine tq_if_ne 14 dX9_remove_9 (by decide) (fun _ => ?_) (fun _ => ?_)
    · refine tq_aload_n 0 0 dX9_remove_14 rfl rfl ?_
      refine tq_iload_n 1 1 dX9_remove_15 rfl rfl ?_
      refine tq_cVV [vI v1] [] dX9_remove_16 (eX9_remove0 G v0 v1 h1) (by decide) mbX9_remove0 cfX9 rfl wd_1181 wd_1183 wd_66 rfl rfl (Nat.le_of_ble_eq_true rfl) (fun _ h3 => ?_)
      refine tq_aload_n 0 0 dX9_remove_19 rfl rfl ?_
      refine tq_getI 25 dX9_remove_20 cfX9 (by decide) wd_897 rfl rfl (fun x4 => ?_)
      exact tq_iret rfl dX9_remove_23
    · exact tq_sub [] rfl (tX9_remove_12 G h1)
noncomputable def fX9_remove (v0 : Option Nat) (v1 : Int32) (h : AH) : Option (Int32 × AH) := fX9_remove_0 v0 v1 h
theorem eX9_remove (G : sr_G) (v0 : Option Nat) (v1 : Int32) (h : AH) : sr_E G 3 yX9_remove cX9_remove 2 (some .int) jI [vR v0, vI v1] h (fX9_remove v0 v1 h) := sr_E.of (own := RX9) (ini := false) (by decide) rfl (fun q => by first | rfl | cases q) rfl (Nat.le_of_ble_eq_true rfl) (tX9_remove_0 G v0 v1 h)
noncomputable def fX9_find_107  (v3 : Int32) (h : AH) : Option (Int32 × AH) := some (v3, h)
theorem tX9_find_107 (G : sr_G) (v3 : Int32) (h : AH) : sr_T (X := Int32) G 3 RX9 cX9_find 4 (some .int) false (sr_M G jI) 107 [(3, vI v3)] [] h (fX9_find_107  v3 h) := by
  unfold fX9_find_107
  refine tq_iload_n 3 0 dX9_find_107 rfl rfl ?_
  exact tq_iret rfl dX9_find_108
noncomputable def fX9_find_97 (r45 : Option Nat → Int32 → AH → Option (Int32 × AH)) (v0 : Option Nat) (v3 : Int32) (h : AH) : Option (Int32 × AH) := cCV h 9 v0 (fX9_after v0 v3 (nI 0) h) fun x2 h1 => r45 v0 x2 h1
theorem tX9_find_97 (G : sr_G) {r45 : Option Nat → Int32 → AH → Option (Int32 × AH)} (hr45 : ∀ (v0 : Option Nat) (v3 : Int32) (h : AH), sr_T (X := Int32) G 3 RX9 cX9_find 4 (some .int) false (sr_M G jI) 45 [(0, vR v0), (3, vI v3)] [] h (r45 v0 v3 h)) (v0 : Option Nat) (v3 : Int32) (h : AH) : sr_T (X := Int32) G 3 RX9 cX9_find 4 (some .int) false (sr_M G jI) 97 [(0, vR v0), (3, vI v3)] [] h (fX9_find_97 r45 v0 v3 h) := by
  unfold fX9_find_97
  refine tq_aload_n 0 0 dX9_find_97 rfl rfl ?_
  refine tq_iload_n 3 1 dX9_find_98 rfl rfl ?_
  refine tq_iconst (nI 0) dX9_find_99 (by decide) ?_
  refine tq_cVI [vI v3, vI (nI 0)] [] dX9_find_100 (eX9_after G v0 v3 (nI 0) h) (by decide) mbX9_after cfX9 rfl wd_1185 wd_1187 wd_67 rfl rfl (Nat.le_of_ble_eq_true rfl) (fun x2 h1 => ?_)
  refine tq_istore_n 3 (L' := [(3, vI x2), (0, vR v0)]) dX9_find_103 rfl (by decide) rfl ?_
  refine tq_goto 45 dX9_find_104 (by decide) ?_
  exact tq_sub [1, 0] rfl (hr45 v0 x2 h1)
noncomputable def fX9_find_45  : Nat → Option Nat → Int32 → AH → Option (Int32 × AH)
  | 0, _, _, _ => none
  | n + 1, v0, v3, h => if v3 = (-1) then (fX9_find_107 v3 h) else (cGR h 9 457 v0 fun x1 => cAL h 0 x1 v3 fun x2 => if x2 = (nI 17) then (fX9_find_97 (fX9_find_45 n) v0 v3 h) else (cGR h 9 459 v0 fun x3 => cAL h 0 x3 v3 fun x4 => cGI h 9 453 v0 fun x5 => if x4 = x5 then (cGR h 9 458 v0 fun x6 => cGR h 9 452 v0 fun x7 => cGI h 9 453 v0 fun x8 => cCL (fX9_same x6 ((nI 8) * v3) x7 (nI 0) x8 h) fun x10 h9 => if x10 = 0 then (fX9_find_97 (fX9_find_45 n) v0 v3 h9) else (fX9_find_107 v3 h9)) else (fX9_find_97 (fX9_find_45 n) v0 v3 h)))
theorem tX9_find_45 (G : sr_G) : ∀ (n : Nat) (v0 : Option Nat) (v3 : Int32) (h : AH), sr_T (X := Int32) G 3 RX9 cX9_find 4 (some .int) false (sr_M G jI) 45 [(0, vR v0), (3, vI v3)] [] h (fX9_find_45  n v0 v3 h) := by
  intro n
  induction n with
  | zero => intro v0 v3 h; exact tq_none
  | succ n ih =>
    intro v0 v3 h
    unfold fX9_find_45
    refine tq_iload_n 3 1 dX9_find_45 rfl rfl ?_
    refine tq_iconst (-1) dX9_find_46 (by decide) ?_
    refine tq_icmp_eq 107 dX9_find_47 (by decide) (fun _ => ?_) (fun _ => ?_)
    · exact tq_sub [1] rfl (tX9_find_107 G v3 h)
    · refine tq_aload_n 0 0 dX9_find_50 rfl rfl ?_
      refine tq_getR 7 dX9_find_51 cfX9 (by decide) wd_879 rfl rfl (fun x1 => ?_)
      refine tq_iload_n 3 1 dX9_find_54 rfl rfl ?_
      refine tq_iald dX9_find_55 (fun x2 => ?_)
      refine tq_bipush (nI 17) dX9_find_56 (by decide) ?_
      refine tq_icmp_eq 97 dX9_find_58 (by decide) (fun _ => ?_) (fun _ => ?_)
      · exact tX9_find_97 G ih v0 v3 h
      · refine tq_aload_n 0 0 dX9_find_61 rfl rfl ?_
        refine tq_getR 9 dX9_find_62 cfX9 (by decide) wd_881 rfl rfl (fun x3 => ?_)
        refine tq_iload_n 3 1 dX9_find_65 rfl rfl ?_
        refine tq_iald dX9_find_66 (fun x4 => ?_)
        refine tq_aload_n 0 0 dX9_find_67 rfl rfl ?_
        refine tq_getI 3 dX9_find_68 cfX9 (by decide) wd_875 rfl rfl (fun x5 => ?_)
        refine tq_icmp_ne 97 dX9_find_71 (by decide) (fun _ => ?_) (fun _ => ?_)
        · exact tX9_find_97 G ih v0 v3 h
        · refine tq_aload_n 0 0 dX9_find_74 rfl rfl ?_
          refine tq_getR 8 dX9_find_75 cfX9 (by decide) wd_880 rfl rfl (fun x6 => ?_)
          refine tq_bipush (nI 8) dX9_find_78 (by decide) ?_
          refine tq_iload_n 3 1 dX9_find_80 rfl rfl ?_
          refine tq_imul dX9_find_81 ?_
          refine tq_aload_n 0 0 dX9_find_82 rfl rfl ?_
          refine tq_getR 2 dX9_find_83 cfX9 (by decide) wd_874 rfl rfl (fun x7 => ?_)
          refine tq_iconst (nI 0) dX9_find_86 (by decide) ?_
          refine tq_aload_n 0 0 dX9_find_87 rfl rfl ?_
          refine tq_getI 3 dX9_find_88 cfX9 (by decide) wd_875 rfl rfl (fun x8 => ?_)
          refine tq_cSI [vR x6, vI ((nI 8) * v3), vR x7, vI (nI 0), vI x8] [] dX9_find_91 (eX9_same G x6 ((nI 8) * v3) x7 (nI 0) x8 h) (by decide) mbX9_same wd_1117 wd_1118 rfl rfl (Nat.le_of_ble_eq_true rfl) (fun x10 h9 => ?_)
          refine tq_if_ne 107 dX9_find_94 (by decide) (fun _ => ?_) (fun _ => ?_)
          · exact tq_sub [1] rfl (tX9_find_107 G v3 h9)
          · exact tX9_find_97 G ih v0 v3 h9
noncomputable def fX9_find_44  (v0 : Option Nat) (s0 : Int32) (h : AH) : Option (Int32 × AH) := fX9_find_45 FU v0 s0 h
theorem tX9_find_44 (G : sr_G) (v0 : Option Nat) (s0 : Int32) (h : AH) : sr_T (X := Int32) G 3 RX9 cX9_find 4 (some .int) false (sr_M G jI) 44 [(0, vR v0)] [vI s0] h (fX9_find_44  v0 s0 h) := by
  unfold fX9_find_44
  refine tq_istore_n 3 (L' := [(3, vI s0), (0, vR v0)]) dX9_find_44 rfl (by decide) rfl ?_
  exact tq_sub [1, 0] rfl (tX9_find_45 G FU v0 s0 h)
noncomputable def fX9_find_29  (v0 : Option Nat) (v1 : Int32) (h : AH) : Option (Int32 × AH) := if v1 = (-1) then (fX9_find_44 v0 (nI 0) h) else (cCV h 9 v0 (fX9_after v0 v1 (nI 0) h) fun x2 h1 => fX9_find_44 v0 x2 h1)
theorem tX9_find_29 (G : sr_G) (v0 : Option Nat) (v1 : Int32) (h : AH) : sr_T (X := Int32) G 3 RX9 cX9_find 4 (some .int) false (sr_M G jI) 29 [(0, vR v0), (1, vI v1)] [] h (fX9_find_29  v0 v1 h) := by
  unfold fX9_find_29
  refine tq_iload_n 1 1 dX9_find_29 rfl rfl ?_
  refine tq_iconst (-1) dX9_find_30 (by decide) ?_
  refine tq_icmp_ne 38 dX9_find_31 (by decide) (fun _ => ?_) (fun _ => ?_)
  · refine tq_aload_n 0 0 dX9_find_38 rfl rfl ?_
    refine tq_iload_n 1 1 dX9_find_39 rfl rfl ?_
    refine tq_iconst (nI 0) dX9_find_40 (by decide) ?_
    refine tq_cVI [vI v1, vI (nI 0)] [] dX9_find_41 (eX9_after G v0 v1 (nI 0) h) (by decide) mbX9_after cfX9 rfl wd_1185 wd_1187 wd_67 rfl rfl (Nat.le_of_ble_eq_true rfl) (fun x2 h1 => ?_)
    exact tq_sub [0] rfl (tX9_find_44 G v0 x2 h1)
  · refine tq_iconst (nI 0) dX9_find_34 (by decide) ?_
    refine tq_goto 44 dX9_find_35 (by decide) ?_
    exact tq_sub [0] rfl (tX9_find_44 G v0 (nI 0) h)
noncomputable def fX9_find_0  (v0 : Option Nat) (v1 : Int32) (h : AH) : Option (Int32 × AH) := cCV h 9 v0 (fX9_takeName v0 h) fun x2 h1 => if x2 < 0 then (if v1 = (-1) then (fX9_find_29 v0 v1 h1) else (cCV h1 9 v0 (fX9_there v0 v1 h1) fun x4 h3 => if x4 = 0 then (some ((-1), h3)) else (fX9_find_29 v0 v1 h3))) else (cCL (fX9_wrong x2 h1) fun x6 h5 => some (x6, h5))
theorem tX9_find_0 (G : sr_G) (v0 : Option Nat) (v1 : Int32) (h : AH) : sr_T (X := Int32) G 3 RX9 cX9_find 4 (some .int) false (sr_M G jI) 0 [(0, vR v0), (1, vI v1)] [] h (fX9_find_0  v0 v1 h) := by
  unfold fX9_find_0
  refine tq_aload_n 0 0 dX9_find_0 rfl rfl ?_
  refine tq_cVI [] [] dX9_find_1 (eX9_takeName G v0 h) (by decide) mbX9_takeName cfX9 rfl wd_1149 wd_1151 wd_62 rfl rfl (Nat.le_of_ble_eq_true rfl) (fun x2 h1 => ?_)
  refine tq_istore_n 2 (L' := [(2, vI x2), (0, vR v0), (1, vI v1)]) dX9_find_4 rfl (by decide) rfl ?_
  refine tq_iload_n 2 0 dX9_find_5 rfl rfl ?_
  refine tq_if_lt 14 dX9_find_6 (by decide) (fun _ => ?_) (fun _ => ?_)
  · refine tq_iload_n 1 2 dX9_find_14 rfl rfl ?_
    refine tq_iconst (-1) dX9_find_15 (by decide) ?_
    refine tq_icmp_eq 29 dX9_find_16 (by decide) (fun _ => ?_) (fun _ => ?_)
    · exact tq_sub [1, 2] rfl (tX9_find_29 G v0 v1 h1)
    · refine tq_aload_n 0 1 dX9_find_19 rfl rfl ?_
      refine tq_iload_n 1 2 dX9_find_20 rfl rfl ?_
      refine tq_cVI [vI v1] [] dX9_find_21 (eX9_there G v0 v1 h1) (by decide) mbX9_there cfX9 rfl wd_818 wd_820 wd_37 rfl rfl (Nat.le_of_ble_eq_true rfl) (fun x4 h3 => ?_)
      refine tq_if_ne 29 dX9_find_24 (by decide) (fun _ => ?_) (fun _ => ?_)
      · exact tq_sub [1, 2] rfl (tX9_find_29 G v0 v1 h3)
      · refine tq_iconst (-1) dX9_find_27 (by decide) ?_
        exact tq_iret rfl dX9_find_28
  · refine tq_iload_n 2 0 dX9_find_9 rfl rfl ?_
    refine tq_cSI [vI x2] [] dX9_find_10 (eX9_wrong G x2 h1) (by decide) mbX9_wrong wd_1033 wd_1034 rfl rfl (Nat.le_of_ble_eq_true rfl) (fun x6 h5 => ?_)
    exact tq_iret rfl dX9_find_13
noncomputable def fX9_find (v0 : Option Nat) (v1 : Int32) (h : AH) : Option (Int32 × AH) := fX9_find_0 v0 v1 h
theorem eX9_find (G : sr_G) (v0 : Option Nat) (v1 : Int32) (h : AH) : sr_E G 3 yX9_find cX9_find 4 (some .int) jI [vR v0, vI v1] h (fX9_find v0 v1 h) := sr_E.of (own := RX9) (ini := false) (by decide) rfl (fun q => by first | rfl | cases q) rfl (Nat.le_of_ble_eq_true rfl) (tX9_find_0 G v0 v1 h)

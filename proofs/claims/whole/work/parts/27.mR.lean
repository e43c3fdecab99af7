noncomputable def fX9_isNote_42  (s0 : Int32) (h : AH) : Option (Int32 × AH) := cZ s0 (some (s0, h))
theorem tX9_isNote_42 (G : sr_G) (s0 : Int32) (h : AH) : sr_T (X := Int32) G 1 RX9 cX9_isNote 2 (some .boolean) false (sr_M G jI) 42 [] [vI s0] h (fX9_isNote_42  s0 h) := by
  unfold fX9_isNote_42
  exact tq_zret rfl dX9_isNote_42
noncomputable def fX9_isNote_41   (h : AH) : Option (Int32 × AH) := fX9_isNote_42 (nI 0) h
theorem tX9_isNote_41 (G : sr_G)  (h : AH) : sr_T (X := Int32) G 1 RX9 cX9_isNote 2 (some .boolean) false (sr_M G jI) 41 [] [] h (fX9_isNote_41  h) := by
  unfold fX9_isNote_41
  refine tq_iconst (nI 0) dX9_isNote_41 (by decide) ?_
  exact tX9_isNote_42 G (nI 0) h
noncomputable def fX9_isNote_0  (v0 : Option Nat) (v1 : Int32) (h : AH) : Option (Int32 × AH) := cCV h 9 v0 (fX9_isAt v0 v1 (nI 60) (nI 33) (nI 45) h) fun x2 h1 => if x2 = 0 then (fX9_isNote_41 h1) else (cGI h1 9 482 v0 fun x3 => if x3 ≤ (v1 + (nI 3)) then (fX9_isNote_41 h1) else (cGR h1 9 481 v0 fun x4 => cAL h1 1 x4 (v1 + (nI 3)) fun x5 => if x5 = (nI 45) then (fX9_isNote_42 (nI 1) h1) else (fX9_isNote_41 h1)))
theorem tX9_isNote_0 (G : sr_G) (v0 : Option Nat) (v1 : Int32) (h : AH) : sr_T (X := Int32) G 1 RX9 cX9_isNote 2 (some .boolean) false (sr_M G jI) 0 [(0, vR v0), (1, vI v1)] [] h (fX9_isNote_0  v0 v1 h) := by
  unfold fX9_isNote_0
  refine tq_aload_n 0 0 dX9_isNote_0 rfl rfl ?_
  refine tq_iload_n 1 1 dX9_isNote_1 rfl rfl ?_
  refine tq_bipush (nI 60) dX9_isNote_2 (by decide) ?_
  refine tq_bipush (nI 33) dX9_isNote_4 (by decide) ?_
  refine tq_bipush (nI 45) dX9_isNote_6 (by decide) ?_
  refine tq_cVI [vI v1, vI (nI 60), vI (nI 33), vI (nI 45)] [] dX9_isNote_8 (eX9_isAt G v0 v1 (nI 60) (nI 33) (nI 45) h) (by decide) mbX9_isAt cfX9 rfl wd_1044 wd_1046 wd_49 rfl rfl (Nat.le_of_ble_eq_true rfl) (fun x2 h1 => ?_)
  refine tq_if_eq 41 dX9_isNote_11 (by decide) (fun _ => ?_) (fun _ => ?_)
  · exact tq_sub [] rfl (tX9_isNote_41 G h1)
  · refine tq_iload_n 1 1 dX9_isNote_14 rfl rfl ?_
    refine tq_iconst (nI 3) dX9_isNote_15 (by decide) ?_
    refine tq_iadd dX9_isNote_16 ?_
    refine tq_aload_n 0 0 dX9_isNote_17 rfl rfl ?_
    refine tq_getI 32 dX9_isNote_18 cfX9 (by decide) wd_904 rfl rfl (fun x3 => ?_)
    refine tq_icmp_ge 41 dX9_isNote_21 (by decide) (fun _ => ?_) (fun _ => ?_)
    · exact tq_sub [] rfl (tX9_isNote_41 G h1)
    · refine tq_aload_n 0 0 dX9_isNote_24 rfl rfl ?_
      refine tq_getR 31 dX9_isNote_25 cfX9 (by decide) wd_903 rfl rfl (fun x4 => ?_)
      refine tq_iload_n 1 1 dX9_isNote_28 rfl rfl ?_
      refine tq_iconst (nI 3) dX9_isNote_29 (by decide) ?_
      refine tq_iadd dX9_isNote_30 ?_
      refine tq_bald dX9_isNote_31 (fun x5 => ?_)
      refine tq_bipush (nI 45) dX9_isNote_32 (by decide) ?_
      refine tq_icmp_ne 41 dX9_isNote_34 (by decide) (fun _ => ?_) (fun _ => ?_)
      · exact tq_sub [] rfl (tX9_isNote_41 G h1)
      · refine tq_iconst (nI 1) dX9_isNote_37 (by decide) ?_
        refine tq_goto 42 dX9_isNote_38 (by decide) ?_
        exact tq_sub [] rfl (tX9_isNote_42 G (nI 1) h1)
noncomputable def fX9_isNote (v0 : Option Nat) (v1 : Int32) (h : AH) : Option (Int32 × AH) := fX9_isNote_0 v0 v1 h
theorem eX9_isNote (G : sr_G) (v0 : Option Nat) (v1 : Int32) (h : AH) : sr_E G 1 yX9_isNote cX9_isNote 2 (some .boolean) jI [vR v0, vI v1] h (fX9_isNote v0 v1 h) := sr_E.of (own := RX9) (ini := false) (by decide) rfl (fun q => by first | rfl | cases q) rfl (Nat.le_of_ble_eq_true rfl) (tX9_isNote_0 G v0 v1 h)
noncomputable def fX9_isTag_19   (h : AH) : Option (Int32 × AH) := cZ (nI 0) (some ((nI 0), h))
theorem tX9_isTag_19 (G : sr_G)  (h : AH) : sr_T (X := Int32) G 2 RX9 cX9_isTag 3 (some .boolean) false (sr_M G jI) 19 [] [] h (fX9_isTag_19  h) := by
  unfold fX9_isTag_19
  refine tq_iconst (nI 0) dX9_isTag_19 (by decide) ?_
  exact tq_zret rfl dX9_isTag_20
noncomputable def fX9_isTag_79  (s0 : Int32) (h : AH) : Option (Int32 × AH) := cZ s0 (some (s0, h))
theorem tX9_isTag_79 (G : sr_G) (s0 : Int32) (h : AH) : sr_T (X := Int32) G 2 RX9 cX9_isTag 3 (some .boolean) false (sr_M G jI) 79 [] [vI s0] h (fX9_isTag_79  s0 h) := by
  unfold fX9_isTag_79
  exact tq_zret rfl dX9_isTag_79
noncomputable def fX9_isTag_78   (h : AH) : Option (Int32 × AH) := fX9_isTag_79 (nI 0) h
theorem tX9_isTag_78 (G : sr_G)  (h : AH) : sr_T (X := Int32) G 2 RX9 cX9_isTag 3 (some .boolean) false (sr_M G jI) 78 [] [] h (fX9_isTag_78  h) := by
  unfold fX9_isTag_78
  refine tq_iconst (nI 0) dX9_isTag_78 (by decide) ?_
  exact tX9_isTag_79 G (nI 0) h
noncomputable def fX9_isTag_53  (v0 : Option Nat) (s0 : Int32) (h : AH) : Option (Int32 × AH) := cGI h 9 482 v0 fun x1 => if x1 ≤ s0 then (fX9_isTag_78 h) else (cGR h 9 481 v0 fun x2 => cAL h 1 x2 s0 fun x3 => cCL (fX9_isLetter x3 h) fun x5 h4 => if x5 = 0 then (fX9_isTag_78 h4) else (fX9_isTag_79 (nI 1) h4))
theorem tX9_isTag_53 (G : sr_G) (v0 : Option Nat) (s0 : Int32) (h : AH) : sr_T (X := Int32) G 2 RX9 cX9_isTag 3 (some .boolean) false (sr_M G jI) 53 [(0, vR v0)] [vI s0] h (fX9_isTag_53  v0 s0 h) := by
  unfold fX9_isTag_53
  refine tq_istore_n 2 (L' := [(2, vI s0), (0, vR v0)]) dX9_isTag_53 rfl (by decide) rfl ?_
  refine tq_iload_n 2 0 dX9_isTag_54 rfl rfl ?_
  refine tq_aload_n 0 1 dX9_isTag_55 rfl rfl ?_
  refine tq_getI 32 dX9_isTag_56 cfX9 (by decide) wd_904 rfl rfl (fun x1 => ?_)
  refine tq_icmp_ge 78 dX9_isTag_59 (by decide) (fun _ => ?_) (fun _ => ?_)
  · exact tq_sub [] rfl (tX9_isTag_78 G h)
  · refine tq_aload_n 0 1 dX9_isTag_62 rfl rfl ?_
    refine tq_getR 31 dX9_isTag_63 cfX9 (by decide) wd_903 rfl rfl (fun x2 => ?_)
    refine tq_iload_n 2 0 dX9_isTag_66 rfl rfl ?_
    refine tq_bald dX9_isTag_67 (fun x3 => ?_)
    refine tq_cSI [vI x3] [] dX9_isTag_68 (eX9_isLetter G x3 h) (by decide) mbX9_isLetter wd_1085 wd_1086 rfl rfl (Nat.le_of_ble_eq_true rfl) (fun x5 h4 => ?_)
    refine tq_if_eq 78 dX9_isTag_71 (by decide) (fun _ => ?_) (fun _ => ?_)
    · exact tq_sub [] rfl (tX9_isTag_78 G h4)
    · refine tq_iconst (nI 1) dX9_isTag_74 (by decide) ?_
      refine tq_goto 79 dX9_isTag_75 (by decide) ?_
      exact tq_sub [] rfl (tX9_isTag_79 G (nI 1) h4)
noncomputable def fX9_isTag_50  (v0 : Option Nat) (v1 : Int32) (h : AH) : Option (Int32 × AH) := fX9_isTag_53 v0 (v1 + (nI 1)) h
theorem tX9_isTag_50 (G : sr_G) (v0 : Option Nat) (v1 : Int32) (h : AH) : sr_T (X := Int32) G 2 RX9 cX9_isTag 3 (some .boolean) false (sr_M G jI) 50 [(0, vR v0), (1, vI v1)] [] h (fX9_isTag_50  v0 v1 h) := by
  unfold fX9_isTag_50
  refine tq_iload_n 1 1 dX9_isTag_50 rfl rfl ?_
  refine tq_iconst (nI 1) dX9_isTag_51 (by decide) ?_
  refine tq_iadd dX9_isTag_52 ?_
  exact tq_sub [0] rfl (tX9_isTag_53 G v0 (v1 + (nI 1)) h)
noncomputable def fX9_isTag_0  (v0 : Option Nat) (v1 : Int32) (h : AH) : Option (Int32 × AH) := cGI h 9 482 v0 fun x1 => if x1 ≤ v1 then (fX9_isTag_19 h) else (cGR h 9 481 v0 fun x2 => cAL h 1 x2 v1 fun x3 => if x3 = (nI 60) then (cGI h 9 482 v0 fun x4 => if x4 ≤ (v1 + (nI 1)) then (fX9_isTag_50 v0 v1 h) else (cGR h 9 481 v0 fun x5 => cAL h 1 x5 (v1 + (nI 1)) fun x6 => if x6 = (nI 47) then (fX9_isTag_53 v0 (v1 + (nI 2)) h) else (fX9_isTag_50 v0 v1 h))) else (fX9_isTag_19 h))
theorem tX9_isTag_0 (G : sr_G) (v0 : Option Nat) (v1 : Int32) (h : AH) : sr_T (X := Int32) G 2 RX9 cX9_isTag 3 (some .boolean) false (sr_M G jI) 0 [(0, vR v0), (1, vI v1)] [] h (fX9_isTag_0  v0 v1 h) := by
  unfold fX9_isTag_0
  refine tq_iload_n 1 1 dX9_isTag_0 rfl rfl ?_
  refine tq_aload_n 0 0 dX9_isTag_1 rfl rfl ?_
  refine tq_getI 32 dX9_isTag_2 cfX9 (by decide) wd_904 rfl rfl (fun x1 => ?_)
  refine tq_icmp_ge 19 dX9_isTag_5 (by decide) (fun _ => ?_) (fun _ => ?_)
  · exact tq_sub [] rfl (tX9_isTag_19 G h)
  · refine tq_aload_n 0 0 dX9_isTag_8 rfl rfl ?_
    refine tq_getR 31 dX9_isTag_9 cfX9 (by decide) wd_903 rfl rfl (fun x2 => ?_)
    refine tq_iload_n 1 1 dX9_isTag_12 rfl rfl ?_
    refine tq_bald dX9_isTag_13 (fun x3 => ?_)
    refine tq_bipush (nI 60) dX9_isTag_14 (by decide) ?_
    refine tq_icmp_eq 21 dX9_isTag_16 (by decide) (fun _ => ?_) (fun _ => ?_)
    · refine tq_iload_n 1 1 dX9_isTag_21 rfl rfl ?_
      refine tq_iconst (nI 1) dX9_isTag_22 (by decide) ?_
      refine tq_iadd dX9_isTag_23 ?_
      refine tq_aload_n 0 0 dX9_isTag_24 rfl rfl ?_
      refine tq_getI 32 dX9_isTag_25 cfX9 (by decide) wd_904 rfl rfl (fun x4 => ?_)
      refine tq_icmp_ge 50 dX9_isTag_28 (by decide) (fun _ => ?_) (fun _ => ?_)
      · exact tX9_isTag_50 G v0 v1 h
      · refine tq_aload_n 0 0 dX9_isTag_31 rfl rfl ?_
        refine tq_getR 31 dX9_isTag_32 cfX9 (by decide) wd_903 rfl rfl (fun x5 => ?_)
        refine tq_iload_n 1 1 dX9_isTag_35 rfl rfl ?_
        refine tq_iconst (nI 1) dX9_isTag_36 (by decide) ?_
        refine tq_iadd dX9_isTag_37 ?_
        refine tq_bald dX9_isTag_38 (fun x6 => ?_)
        refine tq_bipush (nI 47) dX9_isTag_39 (by decide) ?_
        refine tq_icmp_ne 50 dX9_isTag_41 (by decide) (fun _ => ?_) (fun _ => ?_)
        · exact tX9_isTag_50 G v0 v1 h
        · refine tq_iload_n 1 1 dX9_isTag_44 rfl rfl ?_
          refine tq_iconst (nI 2) dX9_isTag_45 (by decide) ?_
          refine tq_iadd dX9_isTag_46 ?_
          refine tq_goto 53 dX9_isTag_47 (by decide) ?_
          exact tq_sub [0] rfl (tX9_isTag_53 G v0 (v1 + (nI 2)) h)
    · exact tq_sub [] rfl (tX9_isTag_19 G h)
noncomputable def fX9_isTag (v0 : Option Nat) (v1 : Int32) (h : AH) : Option (Int32 × AH) := fX9_isTag_0 v0 v1 h
theorem eX9_isTag (G : sr_G) (v0 : Option Nat) (v1 : Int32) (h : AH) : sr_E G 2 yX9_isTag cX9_isTag 3 (some .boolean) jI [vR v0, vI v1] h (fX9_isTag v0 v1 h) := sr_E.of (own := RX9) (ini := false) (by decide) rfl (fun q => by first | rfl | cases q) rfl (Nat.le_of_ble_eq_true rfl) (tX9_isTag_0 G v0 v1 h)
noncomputable def fX9_endsStyle_41  (s0 : Int32) (h : AH) : Option (Int32 × AH) := cZ s0 (some (s0, h))
theorem tX9_endsStyle_41 (G : sr_G) (s0 : Int32) (h : AH) : sr_T (X := Int32) G 1 RX9 cX9_endsStyle 2 (some .boolean) false (sr_M G jI) 41 [] [vI s0] h (fX9_endsStyle_41  s0 h) := by
  unfold fX9_endsStyle_41
  exact tq_zret rfl dX9_endsStyle_41
noncomputable def fX9_endsStyle_40   (h : AH) : Option (Int32 × AH) := fX9_endsStyle_41 (nI 0) h
theorem tX9_endsStyle_40 (G : sr_G)  (h : AH) : sr_T (X := Int32) G 1 RX9 cX9_endsStyle 2 (some .boolean) false (sr_M G jI) 40 [] [] h (fX9_endsStyle_40  h) := by
  unfold fX9_endsStyle_40
  refine tq_iconst (nI 0) dX9_endsStyle_40 (by decide) ?_
  exact tX9_endsStyle_41 G (nI 0) h
noncomputable def fX9_endsStyle_0  (v0 : Option Nat) (v1 : Int32) (h : AH) : Option (Int32 × AH) := cCV h 9 v0 (fX9_isAt v0 v1 (nI 60) (nI 47) (nI 115) h) fun x2 h1 => if x2 = 0 then (fX9_endsStyle_40 h1) else (cGR h1 9 481 v0 fun x3 => cGI h1 9 482 v0 fun x4 => cCL (fX9_tagWord (nI 15) h1) fun x6 h5 => cCL (fX9_isWord x3 (v1 + (nI 2)) x4 x6 h5) fun x8 h7 => if x8 = 0 then (fX9_endsStyle_40 h7) else (fX9_endsStyle_41 (nI 1) h7))
theorem tX9_endsStyle_0 (G : sr_G) (v0 : Option Nat) (v1 : Int32) (h : AH) : sr_T (X := Int32) G 1 RX9 cX9_endsStyle 2 (some .boolean) false (sr_M G jI) 0 [(0, vR v0), (1, vI v1)] [] h (fX9_endsStyle_0  v0 v1 h) := by
  unfold fX9_endsStyle_0
  refine tq_aload_n 0 0 dX9_endsStyle_0 rfl rfl ?_
  refine tq_iload_n 1 1 dX9_endsStyle_1 rfl rfl ?_
  refine tq_bipush (nI 60) dX9_endsStyle_2 (by decide) ?_
  refine tq_bipush (nI 47) dX9_endsStyle_4 (by decide) ?_
  refine tq_bipush (nI 115) dX9_endsStyle_6 (by decide) ?_
  refine tq_cVI [vI v1, vI (nI 60), vI (nI 47), vI (nI 115)] [] dX9_endsStyle_8 (eX9_isAt G v0 v1 (nI 60) (nI 47) (nI 115) h) (by decide) mbX9_isAt cfX9 rfl wd_1044 wd_1046 wd_49 rfl rfl (Nat.le_of_ble_eq_true rfl) (fun x2 h1 => ?_)
  refine tq_if_eq 40 dX9_endsStyle_11 (by decide) (fun _ => ?_) (fun _ => ?_)
  · exact tq_sub [] rfl (tX9_endsStyle_40 G h1)
  · refine tq_aload_n 0 0 dX9_endsStyle_14 rfl rfl ?_
    refine tq_getR 31 dX9_endsStyle_15 cfX9 (by decide) wd_903 rfl rfl (fun x3 => ?_)
    refine tq_iload_n 1 1 dX9_endsStyle_18 rfl rfl ?_
    refine tq_iconst (nI 2) dX9_endsStyle_19 (by decide) ?_
    refine tq_iadd dX9_endsStyle_20 ?_
    refine tq_aload_n 0 0 dX9_endsStyle_21 rfl rfl ?_
    refine tq_getI 32 dX9_endsStyle_22 cfX9 (by decide) wd_904 rfl rfl (fun x4 => ?_)
    refine tq_bipush (nI 15) dX9_endsStyle_25 (by decide) ?_
    refine tq_cSL [vI (nI 15)] [vI x4, vI (v1 + (nI 2)), vR x3] dX9_endsStyle_27 (eX9_tagWord G (nI 15) h1) (by decide) mbX9_tagWord wd_1048 wd_1049 rfl rfl (Nat.le_of_ble_eq_true rfl) (fun x6 h5 => ?_)
    refine tq_cSI [vR x3, vI (v1 + (nI 2)), vI x4, vL x6] [] dX9_endsStyle_30 (eX9_isWord G x3 (v1 + (nI 2)) x4 x6 h5) (by decide) mbX9_isWord wd_1066 wd_1067 rfl rfl (Nat.le_of_ble_eq_true rfl) (fun x8 h7 => ?_)
    refine tq_if_eq 40 dX9_endsStyle_33 (by decide) (fun _ => ?_) (fun _ => ?_)
    · exact tq_sub [] rfl (tX9_endsStyle_40 G h7)
    · refine tq_iconst (nI 1) dX9_endsStyle_36 (by decide) ?_
      refine tq_goto 41 dX9_endsStyle_37 (by decide) ?_
      exact tq_sub [] rfl (tX9_endsStyle_41 G (nI 1) h7)
noncomputable def fX9_endsStyle (v0 : Option Nat) (v1 : Int32) (h : AH) : Option (Int32 × AH) := fX9_endsStyle_0 v0 v1 h
theorem eX9_endsStyle (G : sr_G) (v0 : Option Nat) (v1 : Int32) (h : AH) : sr_E G 1 yX9_endsStyle cX9_endsStyle 2 (some .boolean) jI [vR v0, vI v1] h (fX9_endsStyle v0 v1 h) := sr_E.of (own := RX9) (ini := false) (by decide) rfl (fun q => by first | rfl | cases q) rfl (Nat.le_of_ble_eq_true rfl) (tX9_endsStyle_0 G v0 v1 h)
noncomputable def fX9_closeTo_78   (h : AH) : Option (Unit × AH) := some ((), h)
theorem tX9_closeTo_78 (G : sr_G)  (h : AH) : sr_T (X := Unit) G 1 RX9 cX9_closeTo 5 none false (sr_M G jV) 78 [] [] h (fX9_closeTo_78  h) := by
  unfold fX9_closeTo_78
  exact tq_vret rfl dX9_closeTo_78
noncomputable def fX9_closeTo_75 (r0 : Option Nat → Int32 → Int32 → Int32 → AH → Option (Unit × AH)) (v0 : Option Nat) (v1 : Int32) (v2 : Int32) (v3 : Int32) (h : AH) : Option (Unit × AH) := r0 v0 v1 v2 v3 h
theorem tX9_closeTo_75 (G : sr_G) {r0 : Option Nat → Int32 → Int32 → Int32 → AH → Option (Unit × AH)} (hr0 : ∀ (v0 : Option Nat) (v1 : Int32) (v2 : Int32) (v3 : Int32) (h : AH), sr_T (X := Unit) G 1 RX9 cX9_closeTo 5 none false (sr_M G jV) 0 [(0, vR v0), (1, vI v1), (2, vI v2), (3, vI v3)] [] h (r0 v0 v1 v2 v3 h)) (v0 : Option Nat) (v1 : Int32) (v2 : Int32) (v3 : Int32) (h : AH) : sr_T (X := Unit) G 1 RX9 cX9_closeTo 5 none false (sr_M G jV) 75 [(0, vR v0), (1, vI v1), (2, vI v2), (3, vI v3)] [] h (fX9_closeTo_75 r0 v0 v1 v2 v3 h) := by
  unfold fX9_closeTo_75
  refine tq_goto 0 dX9_closeTo_75 (by decide) ?_
  exact hr0 v0 v1 v2 v3 h
noncomputable def fX9_closeTo_0  : Nat → Option Nat → Int32 → Int32 → Int32 → AH → Option (Unit × AH)
  | 0, _, _, _, _, _ => none
  | n + 1, v0, v1, v2, v3, h => cGI h 9 480 v0 fun x1 => if x1 ≤ v1 then (fX9_closeTo_78 h) else (cGI h 9 480 v0 fun x2 => cPI h 9 480 v0 (x2 - (nI 1)) fun h3 => cGR h3 9 479 v0 fun x4 => cGI h3 9 480 v0 fun x5 => cAL h3 0 x4 x5 fun x6 => if x6 = v2 then (fX9_closeTo_75 (fX9_closeTo_0 n) v0 v1 v2 v3 h3) else (if x6 = v3 then (fX9_closeTo_75 (fX9_closeTo_0 n) v0 v1 v2 v3 h3) else (cGR h3 9 457 v0 fun x7 => cAL h3 0 x7 x6 fun x8 => if x8 = (nI 1) then (fX9_closeTo_75 (fX9_closeTo_0 n) v0 v1 v2 v3 h3) else (cGR h3 9 457 v0 fun x9 => cAL h3 0 x9 x6 fun x10 => if x10 = (nI 4) then (fX9_closeTo_75 (fX9_closeTo_0 n) v0 v1 v2 v3 h3) else (cGR h3 9 474 v0 fun x11 => cAL h3 0 x11 x6 fun x12 => cCV h3 9 v0 (fX9_tellFault v0 (nI 4) x12 h3) fun _ h13 => fX9_closeTo_75 (fX9_closeTo_0 n) v0 v1 v2 v3 h13)))))
theorem tX9_closeTo_0 (G : sr_G) : ∀ (n : Nat) (v0 : Option Nat) (v1 : Int32) (v2 : Int32) (v3 : Int32) (h : AH), sr_T (X := Unit) G 1 RX9 cX9_closeTo 5 none false (sr_M G jV) 0 [(0, vR v0), (1, vI v1), (2, vI v2), (3, vI v3)] [] h (fX9_closeTo_0  n v0 v1 v2 v3 h) := by
  intro n
  induction n with
  | zero => intro v0 v1 v2 v3 h; exact tq_none
  | succ n ih =>
    intro v0 v1 v2 v3 h
    unfold fX9_closeTo_0
    refine tq_aload_n 0 0 dX9_closeTo_0 rfl rfl ?_
    refine tq_getI 30 dX9_closeTo_1 cfX9 (by decide) wd_902 rfl rfl (fun x1 => ?_)
    refine tq_iload_n 1 1 dX9_closeTo_4 rfl rfl ?_
    refine tq_icmp_le 78 dX9_closeTo_5 (by decide) (fun _ => ?_) (fun _ => ?_)
    · exact tq_sub [] rfl (tX9_closeTo_78 G h)
    · refine tq_aload_n 0 0 dX9_closeTo_8 rfl rfl ?_
      refine tq_dupR dX9_closeTo_9 ?_
      refine tq_getI 30 dX9_closeTo_10 cfX9 (by decide) wd_902 rfl rfl (fun x2 => ?_)
      refine tq_iconst (nI 1) dX9_closeTo_13 (by decide) ?_
      refine tq_isub dX9_closeTo_14 ?_
      refine tq_putI 30 dX9_closeTo_15 cfX9 (by decide) wd_902 rfl rfl (Or.inl rfl) (fun h3 => ?_)
      refine tq_aload_n 0 0 dX9_closeTo_18 rfl rfl ?_
      refine tq_getR 29 dX9_closeTo_19 cfX9 (by decide) wd_901 rfl rfl (fun x4 => ?_)
      refine tq_aload_n 0 0 dX9_closeTo_22 rfl rfl ?_
      refine tq_getI 30 dX9_closeTo_23 cfX9 (by decide) wd_902 rfl rfl (fun x5 => ?_)
      refine tq_iald dX9_closeTo_26 (fun x6 => ?_)
      refine tq_istore (L' := [(4, vI x6), (0, vR v0), (1, vI v1), (2, vI v2), (3, vI v3)]) dX9_closeTo_27 (by decide) rfl ?_
      refine tq_iload 0 dX9_closeTo_29 rfl ?_
      refine tq_iload_n 2 3 dX9_closeTo_31 rfl rfl ?_
      refine tq_icmp_eq 75 dX9_closeTo_32 (by decide) (fun _ => ?_) (fun _ => ?_)
      · exact tq_sub [1, 2, 3, 4] rfl (tX9_closeTo_75 G ih v0 v1 v2 v3 h3)
      · refine tq_iload 0 dX9_closeTo_35 rfl ?_
        refine tq_iload_n 3 4 dX9_closeTo_37 rfl rfl ?_
        refine tq_icmp_eq 75 dX9_closeTo_38 (by decide) (fun _ => ?_) (fun _ => ?_)
        · exact tq_sub [1, 2, 3, 4] rfl (tX9_closeTo_75 G ih v0 v1 v2 v3 h3)
        · refine tq_aload_n 0 1 dX9_closeTo_41 rfl rfl ?_
          refine tq_getR 7 dX9_closeTo_42 cfX9 (by decide) wd_879 rfl rfl (fun x7 => ?_)
          refine tq_iload 0 dX9_closeTo_45 rfl ?_
          refine tq_iald dX9_closeTo_47 (fun x8 => ?_)
          refine tq_iconst (nI 1) dX9_closeTo_48 (by decide) ?_
          refine tq_icmp_eq 75 dX9_closeTo_49 (by decide) (fun _ => ?_) (fun _ => ?_)
          · exact tq_sub [1, 2, 3, 4] rfl (tX9_closeTo_75 G ih v0 v1 v2 v3 h3)
          · refine tq_aload_n 0 1 dX9_closeTo_52 rfl rfl ?_
            refine tq_getR 7 dX9_closeTo_53 cfX9 (by decide) wd_879 rfl rfl (fun x9 => ?_)
            refine tq_iload 0 dX9_closeTo_56 rfl ?_
            refine tq_iald dX9_closeTo_58 (fun x10 => ?_)
            refine tq_iconst (nI 4) dX9_closeTo_59 (by decide) ?_
            refine tq_icmp_eq 75 dX9_closeTo_60 (by decide) (fun _ => ?_) (fun _ => ?_)
            · exact tq_sub [1, 2, 3, 4] rfl (tX9_closeTo_75 G ih v0 v1 v2 v3 h3)
            · refine tq_aload_n 0 1 dX9_closeTo_63 rfl rfl ?_
              refine tq_iconst (nI 4) dX9_closeTo_64 (by decide) ?_
              refine tq_aload_n 0 1 dX9_closeTo_65 rfl rfl ?_
              refine tq_getR 24 dX9_closeTo_66 cfX9 (by decide) wd_896 rfl rfl (fun x11 => ?_)
              refine tq_iload 0 dX9_closeTo_69 rfl ?_
              refine tq_iald dX9_closeTo_71 (fun x12 => ?_)
              refine tq_cVV [vI (nI 4), vI x12] [] dX9_closeTo_72 (eX9_tellFault G v0 (nI 4) x12 h3) (by decide) mbX9_tellFault cfX9 rfl wd_1091 wd_1093 wd_53 rfl rfl (Nat.le_of_ble_eq_true rfl) (fun _ h13 => ?_)
              exact tq_sub [1, 2, 3, 4] rfl (tX9_closeTo_75 G ih v0 v1 v2 v3 h13)
noncomputable def fX9_closeTo (v0 : Option Nat) (v1 : Int32) (v2 : Int32) (v3 : Int32) (h : AH) : Option (Unit × AH) := fX9_closeTo_0 FU v0 v1 v2 v3 h
theorem eX9_closeTo (G : sr_G) (v0 : Option Nat) (v1 : Int32) (v2 : Int32) (v3 : Int32) (h : AH) : sr_E G 1 yX9_closeTo cX9_closeTo 5 none jV [vR v0, vI v1, vI v2, vI v3] h (fX9_closeTo v0 v1 v2 v3 h) := sr_E.of (own := RX9) (ini := false) (by decide) rfl (fun q => by first | rfl | cases q) rfl (Nat.le_of_ble_eq_true rfl) (tX9_closeTo_0 G FU v0 v1 v2 v3 h)
noncomputable def fX9_note_32  (v0 : Option Nat) (v1 : Int32) (v2 : Int32) (h : AH) : Option (Int32 × AH) := cGI h 9 482 v0 fun x1 => if x1 ≤ v2 then (cCV h 9 v0 (fX9_tellFault v0 (nI 1) v1 h) fun _ h2 => cGI h2 9 482 v0 fun x3 => some (x3, h2)) else (some ((v2 + (nI 3)), h))
theorem tX9_note_32 (G : sr_G) (v0 : Option Nat) (v1 : Int32) (v2 : Int32) (h : AH) : sr_T (X := Int32) G 1 RX9 cX9_note 3 (some .int) false (sr_M G jI) 32 [(0, vR v0), (1, vI v1), (2, vI v2)] [] h (fX9_note_32  v0 v1 v2 h) := by
  unfold fX9_note_32
  refine tq_iload_n 2 2 dX9_note_32 rfl rfl ?_
  refine tq_aload_n 0 0 dX9_note_33 rfl rfl ?_
  refine tq_getI 32 dX9_note_34 cfX9 (by decide) wd_904 rfl rfl (fun x1 => ?_)
  refine tq_icmp_ge 44 dX9_note_37 (by decide) (fun _ => ?_) (fun _ => ?_)
  · refine tq_aload_n 0 0 dX9_note_44 rfl rfl ?_
    refine tq_iconst (nI 1) dX9_note_45 (by decide) ?_
    refine tq_iload_n 1 1 dX9_note_46 rfl rfl ?_
    refine tq_cVV [vI (nI 1), vI v1] [] dX9_note_47 (eX9_tellFault G v0 (nI 1) v1 h) (by decide) mbX9_tellFault cfX9 rfl wd_1091 wd_1093 wd_53 rfl rfl (Nat.le_of_ble_eq_true rfl) (fun _ h2 => ?_)
    refine tq_aload_n 0 0 dX9_note_50 rfl rfl ?_
    refine tq_getI 32 dX9_note_51 cfX9 (by decide) wd_904 rfl rfl (fun x3 => ?_)
    exact tq_iret rfl dX9_note_54
  · refine tq_iload_n 2 2 dX9_note_40 rfl rfl ?_
    refine tq_iconst (nI 3) dX9_note_41 (by decide) ?_
    refine tq_iadd dX9_note_42 ?_
    exact tq_iret rfl dX9_note_43
noncomputable def fX9_note_4  : Nat → Option Nat → Int32 → Int32 → AH → Option (Int32 × AH)
  | 0, _, _, _, _ => none
  | n + 1, v0, v1, v2, h => cGI h 9 482 v0 fun x1 => if x1 ≤ v2 then (fX9_note_32 v0 v1 v2 h) else (cCV h 9 v0 (fX9_isAt v0 v2 (nI 45) (nI 45) (nI 62) h) fun x3 h2 => if x3 = 0 then (fX9_note_4 n v0 v1 (v2 + (nI 1)) h2) else (fX9_note_32 v0 v1 v2 h2))
theorem tX9_note_4 (G : sr_G) : ∀ (n : Nat) (v0 : Option Nat) (v1 : Int32) (v2 : Int32) (h : AH), sr_T (X := Int32) G 1 RX9 cX9_note 3 (some .int) false (sr_M G jI) 4 [(0, vR v0), (1, vI v1), (2, vI v2)] [] h (fX9_note_4  n v0 v1 v2 h) := by
  intro n
  induction n with
  | zero => intro v0 v1 v2 h; exact tq_none
  | succ n ih =>
    intro v0 v1 v2 h
    unfold fX9_note_4
    refine tq_iload_n 2 2 dX9_note_4 rfl rfl ?_
    refine tq_aload_n 0 0 dX9_note_5 rfl rfl ?_
    refine tq_getI 32 dX9_note_6 cfX9 (by decide) wd_904 rfl rfl (fun x1 => ?_)
    refine tq_icmp_ge 32 dX9_note_9 (by decide) (fun _ => ?_) (fun _ => ?_)
    · exact tX9_note_32 G v0 v1 v2 h
    · refine tq_aload_n 0 0 dX9_note_12 rfl rfl ?_
      refine tq_iload_n 2 2 dX9_note_13 rfl rfl ?_
      refine tq_bipush (nI 45) dX9_note_14 (by decide) ?_
      refine tq_bipush (nI 45) dX9_note_16 (by decide) ?_
      refine tq_bipush (nI 62) dX9_note_18 (by decide) ?_
      refine tq_cVI [vI v2, vI (nI 45), vI (nI 45), vI (nI 62)] [] dX9_note_20 (eX9_isAt G v0 v2 (nI 45) (nI 45) (nI 62) h) (by decide) mbX9_isAt cfX9 rfl wd_1044 wd_1046 wd_49 rfl rfl (Nat.le_of_ble_eq_true rfl) (fun x3 h2 => ?_)
      refine tq_if_ne 32 dX9_note_23 (by decide) (fun _ => ?_) (fun _ => ?_)
      · exact tX9_note_32 G v0 v1 v2 h2
      · refine tq_iinc 2 (nI 1) (L' := [(2, vI (v2 + (nI 1))), (0, vR v0), (1, vI v1)]) dX9_note_26 rfl (by decide) (by decide) rfl ?_
        refine tq_goto 4 dX9_note_29 (by decide) ?_
        exact tq_sub [1, 2, 0] rfl (ih v0 v1 (v2 + (nI 1)) h2)
noncomputable def fX9_note_0  (v0 : Option Nat) (v1 : Int32) (h : AH) : Option (Int32 × AH) := fX9_note_4 FU v0 v1 (v1 + (nI 4)) h
theorem tX9_note_0 (G : sr_G) (v0 : Option Nat) (v1 : Int32) (h : AH) : sr_T (X := Int32) G 1 RX9 cX9_note 3 (some .int) false (sr_M G jI) 0 [(0, vR v0), (1, vI v1)] [] h (fX9_note_0  v0 v1 h) := by
  unfold fX9_note_0
  refine tq_iload_n 1 1 dX9_note_0 rfl rfl ?_
  refine tq_iconst (nI 4) dX9_note_1 (by decide) ?_
  refine tq_iadd dX9_note_2 ?_
  refine tq_istore_n 2 (L' := [(2, vI (v1 + (nI 4))), (0, vR v0), (1, vI v1)]) dX9_note_3 rfl (by decide) rfl ?_
  exact tq_sub [1, 2, 0] rfl (tX9_note_4 G FU v0 v1 (v1 + (nI 4)) h)
noncomputable def fX9_note (v0 : Option Nat) (v1 : Int32) (h : AH) : Option (Int32 × AH) := fX9_note_0 v0 v1 h
theorem eX9_note (G : sr_G) (v0 : Option Nat) (v1 : Int32) (h : AH) : sr_E G 1 yX9_note cX9_note 3 (some .int) jI [vR v0, vI v1] h (fX9_note v0 v1 h) := sr_E.of (own := RX9) (ini := false) (by decide) rfl (fun q => by first | rfl | cases q) rfl (Nat.le_of_ble_eq_true rfl) (tX9_note_0 G v0 v1 h)
noncomputable def fX9_endTag_116   (h : AH) : Option (Unit × AH) := some ((), h)
theorem tX9_endTag_116 (G : sr_G)  (h : AH) : sr_T (X := Unit) G 2 RX9 cX9_endTag 4 none false (sr_M G jV) 116 [] [] h (fX9_endTag_116  h) := by
  unfold fX9_endTag_116
  exact tq_vret rfl dX9_endTag_116
noncomputable def fX9_endTag_95  (v0 : Option Nat) (v1 : Int32) (h : AH) : Option (Unit × AH) := cCV h 9 v0 (fX9_tellFault v0 (nI 3) v1 h) fun _ h1 => fX9_endTag_116 h1
theorem tX9_endTag_95 (G : sr_G) (v0 : Option Nat) (v1 : Int32) (h : AH) : sr_T (X := Unit) G 2 RX9 cX9_endTag 4 none false (sr_M G jV) 95 [(0, vR v0), (1, vI v1)] [] h (fX9_endTag_95  v0 v1 h) := by
  unfold fX9_endTag_95
  refine tq_aload_n 0 0 dX9_endTag_95 rfl rfl ?_
  refine tq_iconst (nI 3) dX9_endTag_96 (by decide) ?_
  refine tq_iload_n 1 1 dX9_endTag_97 rfl rfl ?_
  refine tq_cVV [vI (nI 3), vI v1] [] dX9_endTag_98 (eX9_tellFault G v0 (nI 3) v1 h) (by decide) mbX9_tellFault cfX9 rfl wd_1091 wd_1093 wd_53 rfl rfl (Nat.le_of_ble_eq_true rfl) (fun _ h1 => ?_)
  refine tq_goto 116 dX9_endTag_101 (by decide) ?_
  exact tq_sub [] rfl (tX9_endTag_116 G h1)
noncomputable def fX9_endTag_84  (v0 : Option Nat) (v1 : Int32) (v2 : Int32) (v3 : Int32) (h : AH) : Option (Unit × AH) := if v3 = 0 then (fX9_endTag_95 v0 v1 h) else (cCL (fX9_isEmptyTag v2 h) fun x2 h1 => if x2 = 0 then (cGR h1 9 479 v0 fun x3 => cAL h1 0 x3 v3 fun x4 => cCV h1 9 v0 (fX9_closeTo v0 v3 x4 (-1) h1) fun _ h5 => fX9_endTag_116 h5) else (fX9_endTag_95 v0 v1 h1))
theorem tX9_endTag_84 (G : sr_G) (v0 : Option Nat) (v1 : Int32) (v2 : Int32) (v3 : Int32) (h : AH) : sr_T (X := Unit) G 2 RX9 cX9_endTag 4 none false (sr_M G jV) 84 [(0, vR v0), (1, vI v1), (2, vI v2), (3, vI v3)] [] h (fX9_endTag_84  v0 v1 v2 v3 h) := by
  unfold fX9_endTag_84
  refine tq_iload_n 3 3 dX9_endTag_84 rfl rfl ?_
  refine tq_if_eq 95 dX9_endTag_85 (by decide) (fun _ => ?_) (fun _ => ?_)
  · exact tq_sub [0, 1] rfl (tX9_endTag_95 G v0 v1 h)
  · refine tq_iload_n 2 2 dX9_endTag_88 rfl rfl ?_
    refine tq_cSI [vI v2] [] dX9_endTag_89 (eX9_isEmptyTag G v2 h) (by decide) mbX9_isEmptyTag wd_843 wd_844 rfl rfl (Nat.le_of_ble_eq_true rfl) (fun x2 h1 => ?_)
    refine tq_if_eq 104 dX9_endTag_92 (by decide) (fun _ => ?_) (fun _ => ?_)
    · refine tq_aload_n 0 0 dX9_endTag_104 rfl rfl ?_
      refine tq_iload_n 3 3 dX9_endTag_105 rfl rfl ?_
      refine tq_aload_n 0 0 dX9_endTag_106 rfl rfl ?_
      refine tq_getR 29 dX9_endTag_107 cfX9 (by decide) wd_901 rfl rfl (fun x3 => ?_)
      refine tq_iload_n 3 3 dX9_endTag_110 rfl rfl ?_
      refine tq_iald dX9_endTag_111 (fun x4 => ?_)
      refine tq_iconst (-1) dX9_endTag_112 (by decide) ?_
      refine tq_cVV [vI v3, vI x4, vI (-1)] [] dX9_endTag_113 (eX9_closeTo G v0 v3 x4 (-1) h1) (by decide) mbX9_closeTo cfX9 rfl wd_1130 wd_1132 wd_59 rfl rfl (Nat.le_of_ble_eq_true rfl) (fun _ h5 => ?_)
      exact tq_sub [] rfl (tX9_endTag_116 G h5)
    · exact tq_sub [0, 1] rfl (tX9_endTag_95 G v0 v1 h1)
noncomputable def fX9_endTag_78 (r7 : Option Nat → Int32 → Int32 → Int32 → AH → Option (Unit × AH)) (v0 : Option Nat) (v1 : Int32) (v2 : Int32) (v3 : Int32) (h : AH) : Option (Unit × AH) := r7 v0 v1 v2 (v3 + (-1)) h
theorem tX9_endTag_78 (G : sr_G) {r7 : Option Nat → Int32 → Int32 → Int32 → AH → Option (Unit × AH)} (hr7 : ∀ (v0 : Option Nat) (v1 : Int32) (v2 : Int32) (v3 : Int32) (h : AH), sr_T (X := Unit) G 2 RX9 cX9_endTag 4 none false (sr_M G jV) 7 [(0, vR v0), (1, vI v1), (2, vI v2), (3, vI v3)] [] h (r7 v0 v1 v2 v3 h)) (v0 : Option Nat) (v1 : Int32) (v2 : Int32) (v3 : Int32) (h : AH) : sr_T (X := Unit) G 2 RX9 cX9_endTag 4 none false (sr_M G jV) 78 [(0, vR v0), (1, vI v1), (2, vI v2), (3, vI v3)] [] h (fX9_endTag_78 r7 v0 v1 v2 v3 h) := by
  unfold fX9_endTag_78
  refine tq_iinc 3 (-1) (L' := [(3, vI (v3 + (-1))), (0, vR v0), (1, vI v1), (2, vI v2)]) dX9_endTag_78 rfl (by decide) (by decide) rfl ?_
  refine tq_goto 7 dX9_endTag_81 (by decide) ?_
  exact tq_sub [1, 2, 3, 0] rfl (hr7 v0 v1 v2 (v3 + (-1)) h)
noncomputable def fX9_endTag_7  : Nat → Option Nat → Int32 → Int32 → Int32 → AH → Option (Unit × AH)
  | 0, _, _, _, _, _ => none
  | n + 1, v0, v1, v2, v3, h => if v3 ≤ 0 then (fX9_endTag_84 v0 v1 v2 v3 h) else (cGR h 9 457 v0 fun x1 => cGR h 9 479 v0 fun x2 => cAL h 0 x2 v3 fun x3 => cAL h 0 x1 x3 fun x4 => if x4 = v2 then (if v2 = (nI 16) then (cGR h 9 459 v0 fun x5 => cGR h 9 479 v0 fun x6 => cAL h 0 x6 v3 fun x7 => cAL h 0 x5 x7 fun x8 => cGI h 9 485 v0 fun x9 => if x8 = x9 then (cGR h 9 458 v0 fun x10 => cGR h 9 479 v0 fun x11 => cAL h 0 x11 v3 fun x12 => cGR h 9 484 v0 fun x13 => cGI h 9 485 v0 fun x14 => cCL (fX9_same x10 ((nI 8) * x12) x13 (nI 0) x14 h) fun x16 h15 => if x16 = 0 then (fX9_endTag_78 (fX9_endTag_7 n) v0 v1 v2 v3 h15) else (fX9_endTag_84 v0 v1 v2 v3 h15)) else (fX9_endTag_78 (fX9_endTag_7 n) v0 v1 v2 v3 h)) else (fX9_endTag_84 v0 v1 v2 v3 h)) else (fX9_endTag_78 (fX9_endTag_7 n) v0 v1 v2 v3 h))
theorem tX9_endTag_7 (G : sr_G) : ∀ (n : Nat) (v0 : Option Nat) (v1 : Int32) (v2 : Int32) (v3 : Int32) (h : AH), sr_T (X := Unit) G 2 RX9 cX9_endTag 4 none false (sr_M G jV) 7 [(0, vR v0), (1, vI v1), (2, vI v2), (3, vI v3)] [] h (fX9_endTag_7  n v0 v1 v2 v3 h) := by
  intro n
  induction n with
  | zero => intro v0 v1 v2 v3 h; exact tq_none
  | succ n ih =>
    intro v0 v1 v2 v3 h
    unfold fX9_endTag_7
    refine tq_iload_n 3 3 dX9_endTag_7 rfl rfl ?_
    refine tq_if_le 84 dX9_endTag_8 (by decide) (fun _ => ?_) (fun _ => ?_)
    · exact tX9_endTag_84 G v0 v1 v2 v3 h
    · refine tq_aload_n 0 0 dX9_endTag_11 rfl rfl ?_
      refine tq_getR 7 dX9_endTag_12 cfX9 (by decide) wd_879 rfl rfl (fun x1 => ?_)
      refine tq_aload_n 0 0 dX9_endTag_15 rfl rfl ?_
      refine tq_getR 29 dX9_endTag_16 cfX9 (by decide) wd_901 rfl rfl (fun x2 => ?_)
      refine tq_iload_n 3 3 dX9_endTag_19 rfl rfl ?_
      refine tq_iald dX9_endTag_20 (fun x3 => ?_)
      refine tq_iald dX9_endTag_21 (fun x4 => ?_)
      refine tq_iload_n 2 2 dX9_endTag_22 rfl rfl ?_
      refine tq_icmp_ne 78 dX9_endTag_23 (by decide) (fun _ => ?_) (fun _ => ?_)
      · exact tX9_endTag_78 G ih v0 v1 v2 v3 h
      · refine tq_iload_n 2 2 dX9_endTag_26 rfl rfl ?_
        refine tq_bipush (nI 16) dX9_endTag_27 (by decide) ?_
        refine tq_icmp_ne 84 dX9_endTag_29 (by decide) (fun _ => ?_) (fun _ => ?_)
        · exact tX9_endTag_84 G v0 v1 v2 v3 h
        · refine tq_aload_n 0 0 dX9_endTag_32 rfl rfl ?_
          refine tq_getR 9 dX9_endTag_33 cfX9 (by decide) wd_881 rfl rfl (fun x5 => ?_)
          refine tq_aload_n 0 0 dX9_endTag_36 rfl rfl ?_
          refine tq_getR 29 dX9_endTag_37 cfX9 (by decide) wd_901 rfl rfl (fun x6 => ?_)
          refine tq_iload_n 3 3 dX9_endTag_40 rfl rfl ?_
          refine tq_iald dX9_endTag_41 (fun x7 => ?_)
          refine tq_iald dX9_endTag_42 (fun x8 => ?_)
          refine tq_aload_n 0 0 dX9_endTag_43 rfl rfl ?_
          refine tq_getI 35 dX9_endTag_44 cfX9 (by decide) wd_907 rfl rfl (fun x9 => ?_)
          refine tq_icmp_ne 78 dX9_endTag_47 (by decide) (fun _ => ?_) (fun _ => ?_)
          · exact tX9_endTag_78 G ih v0 v1 v2 v3 h
          · refine tq_aload_n 0 0 dX9_endTag_50 rfl rfl ?_
            refine tq_getR 8 dX9_endTag_51 cfX9 (by decide) wd_880 rfl rfl (fun x10 => ?_)
            refine tq_bipush (nI 8) dX9_endTag_54 (by decide) ?_
            refine tq_aload_n 0 0 dX9_endTag_56 rfl rfl ?_
            refine tq_getR 29 dX9_endTag_57 cfX9 (by decide) wd_901 rfl rfl (fun x11 => ?_)
            refine tq_iload_n 3 3 dX9_endTag_60 rfl rfl ?_
            refine tq_iald dX9_endTag_61 (fun x12 => ?_)
            refine tq_imul dX9_endTag_62 ?_
            refine tq_aload_n 0 0 dX9_endTag_63 rfl rfl ?_
            refine tq_getR 34 dX9_endTag_64 cfX9 (by decide) wd_906 rfl rfl (fun x13 => ?_)
            refine tq_iconst (nI 0) dX9_endTag_67 (by decide) ?_
            refine tq_aload_n 0 0 dX9_endTag_68 rfl rfl ?_
            refine tq_getI 35 dX9_endTag_69 cfX9 (by decide) wd_907 rfl rfl (fun x14 => ?_)
            refine tq_cSI [vR x10, vI ((nI 8) * x12), vR x13, vI (nI 0), vI x14] [] dX9_endTag_72 (eX9_same G x10 ((nI 8) * x12) x13 (nI 0) x14 h) (by decide) mbX9_same wd_1117 wd_1118 rfl rfl (Nat.le_of_ble_eq_true rfl) (fun x16 h15 => ?_)
            refine tq_if_ne 84 dX9_endTag_75 (by decide) (fun _ => ?_) (fun _ => ?_)
            · exact tX9_endTag_84 G v0 v1 v2 v3 h15
            · exact tX9_endTag_78 G ih v0 v1 v2 v3 h15
noncomputable def fX9_endTag_0  (v0 : Option Nat) (v1 : Int32) (v2 : Int32) (h : AH) : Option (Unit × AH) := cGI h 9 480 v0 fun x1 => fX9_endTag_7 FU v0 v1 v2 (x1 - (nI 1)) h
theorem tX9_endTag_0 (G : sr_G) (v0 : Option Nat) (v1 : Int32) (v2 : Int32) (h : AH) : sr_T (X := Unit) G 2 RX9 cX9_endTag 4 none false (sr_M G jV) 0 [(0, vR v0), (1, vI v1), (2, vI v2)] [] h (fX9_endTag_0  v0 v1 v2 h) := by
  unfold fX9_endTag_0
  refine tq_aload_n 0 0 dX9_endTag_0 rfl rfl ?_
  refine tq_getI 30 dX9_endTag_1 cfX9 (by decide) wd_902 rfl rfl (fun x1 => ?_)
  refine tq_iconst (nI 1) dX9_endTag_4 (by decide) ?_
  refine tq_isub dX9_endTag_5 ?_
  refine tq_istore_n 3 (L' := [(3, vI (x1 - (nI 1))), (0, vR v0), (1, vI v1), (2, vI v2)]) dX9_endTag_6 rfl (by decide) rfl ?_
  exact tq_sub [1, 2, 3, 0] rfl (tX9_endTag_7 G FU v0 v1 v2 (x1 - (nI 1)) h)
noncomputable def fX9_endTag (v0 : Option Nat) (v1 : Int32) (v2 : Int32) (h : AH) : Option (Unit × AH) := fX9_endTag_0 v0 v1 v2 h
theorem eX9_endTag (G : sr_G) (v0 : Option Nat) (v1 : Int32) (v2 : Int32) (h : AH) : sr_E G 2 yX9_endTag cX9_endTag 4 none jV [vR v0, vI v1, vI v2] h (fX9_endTag v0 v1 v2 h) := sr_E.of (own := RX9) (ini := false) (by decide) rfl (fun q => by first | rfl | cases q) rfl (Nat.le_of_ble_eq_true rfl) (tX9_endTag_0 G v0 v1 v2 h)
noncomputable def fX9_entity_217  (v4 : Int32) (h : AH) : Option (Int32 × AH) := some (v4, h)
theorem tX9_entity_217 (G : sr_G) (v4 : Int32) (h : AH) : sr_T (X := Int32) G 0 RX9 cX9_entity 5 (some .int) false (sr_M G jI) 217 [(4, vI v4)] [] h (fX9_entity_217  v4 h) := by
  unfold fX9_entity_217
  refine tq_iload 0 dX9_entity_217 rfl ?_
  exact tq_iret rfl dX9_entity_219
noncomputable def fX9_entity_150  (v0 : Option Nat) (v1 : Option Nat) (v2 : Int32) (v3 : Int32) (v4 : Int32) (h : AH) : Option (Int32 × AH) := if v3 ≤ (v2 + (nI 5)) then (fX9_entity_217 v4 h) else (cAL h 1 v1 (v2 + (nI 1)) fun x1 => if x1 = (nI 113) then (cAL h 1 v1 (v2 + (nI 2)) fun x2 => if x2 = (nI 117) then (cAL h 1 v1 (v2 + (nI 3)) fun x3 => if x3 = (nI 111) then (cAL h 1 v1 (v2 + (nI 4)) fun x4 => if x4 = (nI 116) then (cAL h 1 v1 (v2 + (nI 5)) fun x5 => if x5 = (nI 59) then (cPI h 9 483 v0 (nI 6) fun h6 => fX9_entity_217 (nI 34) h6) else (fX9_entity_217 v4 h)) else (fX9_entity_217 v4 h)) else (fX9_entity_217 v4 h)) else (fX9_entity_217 v4 h)) else (fX9_entity_217 v4 h))
theorem tX9_entity_150 (G : sr_G) (v0 : Option Nat) (v1 : Option Nat) (v2 : Int32) (v3 : Int32) (v4 : Int32) (h : AH) : sr_T (X := Int32) G 0 RX9 cX9_entity 5 (some .int) false (sr_M G jI) 150 [(0, vR v0), (1, vR v1), (2, vI v2), (3, vI v3), (4, vI v4)] [] h (fX9_entity_150  v0 v1 v2 v3 v4 h) := by
  unfold fX9_entity_150
  refine tq_iload_n 2 2 dX9_entity_150 rfl rfl ?_
  refine tq_iconst (nI 5) dX9_entity_151 (by decide) ?_
  refine tq_iadd dX9_entity_152 ?_
  refine tq_iload_n 3 3 dX9_entity_153 rfl rfl ?_
  refine tq_icmp_ge 217 dX9_entity_154 (by decide) (fun _ => ?_) (fun _ => ?_)
  · exact tq_sub [4] rfl (tX9_entity_217 G v4 h)
  · refine tq_aload_n 1 1 dX9_entity_157 rfl rfl ?_
    refine tq_iload_n 2 2 dX9_entity_158 rfl rfl ?_
    refine tq_iconst (nI 1) dX9_entity_159 (by decide) ?_
    refine tq_iadd dX9_entity_160 ?_
    refine tq_bald dX9_entity_161 (fun x1 => ?_)
    refine tq_bipush (nI 113) dX9_entity_162 (by decide) ?_
    refine tq_icmp_ne 217 dX9_entity_164 (by decide) (fun _ => ?_) (fun _ => ?_)
    · exact tq_sub [4] rfl (tX9_entity_217 G v4 h)
    · refine tq_aload_n 1 1 dX9_entity_167 rfl rfl ?_
      refine tq_iload_n 2 2 dX9_entity_168 rfl rfl ?_
      refine tq_iconst (nI 2) dX9_entity_169 (by decide) ?_
      refine tq_iadd dX9_entity_170 ?_
      refine tq_bald dX9_entity_171 (fun x2 => ?_)
      refine tq_bipush (nI 117) dX9_entity_172 (by decide) ?_
      refine tq_icmp_ne 217 dX9_entity_174 (by decide) (fun _ => ?_) (fun _ => ?_)
      · exact tq_sub [4] rfl (tX9_entity_217 G v4 h)
      · refine tq_aload_n 1 1 dX9_entity_177 rfl rfl ?_
        refine tq_iload_n 2 2 dX9_entity_178 rfl rfl ?_
        refine tq_iconst (nI 3) dX9_entity_179 (by decide) ?_
        refine tq_iadd dX9_entity_180 ?_
        refine tq_bald dX9_entity_181 (fun x3 => ?_)
        refine tq_bipush (nI 111) dX9_entity_182 (by decide) ?_
        refine tq_icmp_ne 217 dX9_entity_184 (by decide) (fun _ => ?_) (fun _ => ?_)
        · exact tq_sub [4] rfl (tX9_entity_217 G v4 h)
        · refine tq_aload_n 1 1 dX9_entity_187 rfl rfl ?_
          refine tq_iload_n 2 2 dX9_entity_188 rfl rfl ?_
          refine tq_iconst (nI 4) dX9_entity_189 (by decide) ?_
          refine tq_iadd dX9_entity_190 ?_
          refine tq_bald dX9_entity_191 (fun x4 => ?_)
          refine tq_bipush (nI 116) dX9_entity_192 (by decide) ?_
          refine tq_icmp_ne 217 dX9_entity_194 (by decide) (fun _ => ?_) (fun _ => ?_)
          · exact tq_sub [4] rfl (tX9_entity_217 G v4 h)
          · refine tq_aload_n 1 1 dX9_entity_197 rfl rfl ?_
            refine tq_iload_n 2 2 dX9_entity_198 rfl rfl ?_
            refine tq_iconst (nI 5) dX9_entity_199 (by decide) ?_
            refine tq_iadd dX9_entity_200 ?_
            refine tq_bald dX9_entity_201 (fun x5 => ?_)
            refine tq_bipush (nI 59) dX9_entity_202 (by decide) ?_
            refine tq_icmp_ne 217 dX9_entity_204 (by decide) (fun _ => ?_) (fun _ => ?_)
            · exact tq_sub [4] rfl (tX9_entity_217 G v4 h)
            · refine tq_aload_n 0 0 dX9_entity_207 rfl rfl ?_
              refine tq_bipush (nI 6) dX9_entity_208 (by decide) ?_
              refine tq_putI 33 dX9_entity_210 cfX9 (by decide) wd_905 rfl rfl (Or.inl rfl) (fun h6 => ?_)
              refine tq_bipush (nI 34) dX9_entity_213 (by decide) ?_
              refine tq_istore (L' := [(4, vI (nI 34)), (0, vR v0), (1, vR v1), (2, vI v2), (3, vI v3)]) dX9_entity_215 (by decide) rfl ?_
              exact tq_sub [0] rfl (tX9_entity_217 G (nI 34) h6)
noncomputable def fX9_entity_95  (v0 : Option Nat) (v1 : Option Nat) (v2 : Int32) (v3 : Int32) (v4 : Int32) (h : AH) : Option (Int32 × AH) := if v3 ≤ (v2 + (nI 4)) then (fX9_entity_150 v0 v1 v2 v3 v4 h) else (cAL h 1 v1 (v2 + (nI 1)) fun x1 => if x1 = (nI 97) then (cAL h 1 v1 (v2 + (nI 2)) fun x2 => if x2 = (nI 109) then (cAL h 1 v1 (v2 + (nI 3)) fun x3 => if x3 = (nI 112) then (cAL h 1 v1 (v2 + (nI 4)) fun x4 => if x4 = (nI 59) then (cPI h 9 483 v0 (nI 5) fun h5 => fX9_entity_217 v4 h5) else (fX9_entity_150 v0 v1 v2 v3 v4 h)) else (fX9_entity_150 v0 v1 v2 v3 v4 h)) else (fX9_entity_150 v0 v1 v2 v3 v4 h)) else (fX9_entity_150 v0 v1 v2 v3 v4 h))
theorem tX9_entity_95 (G : sr_G) (v0 : Option Nat) (v1 : Option Nat) (v2 : Int32) (v3 : Int32) (v4 : Int32) (h : AH) : sr_T (X := Int32) G 0 RX9 cX9_entity 5 (some .int) false (sr_M G jI) 95 [(0, vR v0), (1, vR v1), (2, vI v2), (3, vI v3), (4, vI v4)] [] h (fX9_entity_95  v0 v1 v2 v3 v4 h) := by
  unfold fX9_entity_95
  refine tq_iload_n 2 2 dX9_entity_95 rfl rfl ?_
  refine tq_iconst (nI 4) dX9_entity_96 (by decide) ?_
  refine tq_iadd dX9_entity_97 ?_
  refine tq_iload_n 3 3 dX9_entity_98 rfl rfl ?_
  refine tq_icmp_ge 150 dX9_entity_99 (by decide) (fun _ => ?_) (fun _ => ?_)
  · exact tX9_entity_150 G v0 v1 v2 v3 v4 h
  · refine tq_aload_n 1 1 dX9_entity_102 rfl rfl ?_
    refine tq_iload_n 2 2 dX9_entity_103 rfl rfl ?_
    refine tq_iconst (nI 1) dX9_entity_104 (by decide) ?_
    refine tq_iadd dX9_entity_105 ?_
    refine tq_bald dX9_entity_106 (fun x1 => ?_)
    refine tq_bipush (nI 97) dX9_entity_107 (by decide) ?_
    refine tq_icmp_ne 150 dX9_entity_109 (by decide) (fun _ => ?_) (fun _ => ?_)
    · exact tX9_entity_150 G v0 v1 v2 v3 v4 h
    · refine tq_aload_n 1 1 dX9_entity_112 rfl rfl ?_
      refine tq_iload_n 2 2 dX9_entity_113 rfl rfl ?_
      refine tq_iconst (nI 2) dX9_entity_114 (by decide) ?_
      refine tq_iadd dX9_entity_115 ?_
      refine tq_bald dX9_entity_116 (fun x2 => ?_)
      refine tq_bipush (nI 109) dX9_entity_117 (by decide) ?_
      refine tq_icmp_ne 150 dX9_entity_119 (by decide) (fun _ => ?_) (fun _ => ?_)
      · exact tX9_entity_150 G v0 v1 v2 v3 v4 h
      · refine tq_aload_n 1 1 dX9_entity_122 rfl rfl ?_
        refine tq_iload_n 2 2 dX9_entity_123 rfl rfl ?_
        refine tq_iconst (nI 3) dX9_entity_124 (by decide) ?_
        refine tq_iadd dX9_entity_125 ?_
        refine tq_bald dX9_entity_126 (fun x3 => ?_)
        refine tq_bipush (nI 112) dX9_entity_127 (by decide) ?_
        refine tq_icmp_ne 150 dX9_entity_129 (by decide) (fun _ => ?_) (fun _ => ?_)
        · exact tX9_entity_150 G v0 v1 v2 v3 v4 h
        · refine tq_aload_n 1 1 dX9_entity_132 rfl rfl ?_
          refine tq_iload_n 2 2 dX9_entity_133 rfl rfl ?_
          refine tq_iconst (nI 4) dX9_entity_134 (by decide) ?_
          refine tq_iadd dX9_entity_135 ?_
          refine tq_bald dX9_entity_136 (fun x4 => ?_)
          refine tq_bipush (nI 59) dX9_entity_137 (by decide) ?_
          refine tq_icmp_ne 150 dX9_entity_139 (by decide) (fun _ => ?_) (fun _ => ?_)
          · exact tX9_entity_150 G v0 v1 v2 v3 v4 h
          · refine tq_aload_n 0 0 dX9_entity_142 rfl rfl ?_
            refine tq_iconst (nI 5) dX9_entity_143 (by decide) ?_
            refine tq_putI 33 dX9_entity_144 cfX9 (by decide) wd_905 rfl rfl (Or.inl rfl) (fun h5 => ?_)
            refine tq_goto 217 dX9_entity_147 (by decide) ?_
            exact tq_sub [4] rfl (tX9_entity_217 G v4 h5)
noncomputable def fX9_entity_90  (s0 : Int32) (h : AH) : Option (Int32 × AH) := fX9_entity_217 s0 h
theorem tX9_entity_90 (G : sr_G) (s0 : Int32) (h : AH) : sr_T (X := Int32) G 0 RX9 cX9_entity 5 (some .int) false (sr_M G jI) 90 [] [vI s0] h (fX9_entity_90  s0 h) := by
  unfold fX9_entity_90
  refine tq_istore (L' := [(4, vI s0)]) dX9_entity_90 (by decide) rfl ?_
  refine tq_goto 217 dX9_entity_92 (by decide) ?_
  exact tX9_entity_217 G s0 h
noncomputable def fX9_entity_68  (v0 : Option Nat) (v1 : Option Nat) (v2 : Int32) (h : AH) : Option (Int32 × AH) := cPI h 9 483 v0 (nI 4) fun h1 => cAL h1 1 v1 (v2 + (nI 1)) fun x2 => if x2 = (nI 108) then (fX9_entity_90 (nI 60) h1) else (fX9_entity_90 (nI 62) h1)
theorem tX9_entity_68 (G : sr_G) (v0 : Option Nat) (v1 : Option Nat) (v2 : Int32) (h : AH) : sr_T (X := Int32) G 0 RX9 cX9_entity 5 (some .int) false (sr_M G jI) 68 [(0, vR v0), (1, vR v1), (2, vI v2)] [] h (fX9_entity_68  v0 v1 v2 h) := by
  unfold fX9_entity_68
  refine tq_aload_n 0 0 dX9_entity_68 rfl rfl ?_
  refine tq_iconst (nI 4) dX9_entity_69 (by decide) ?_
  refine tq_putI 33 dX9_entity_70 cfX9 (by decide) wd_905 rfl rfl (Or.inl rfl) (fun h1 => ?_)
  refine tq_aload_n 1 1 dX9_entity_73 rfl rfl ?_
  refine tq_iload_n 2 2 dX9_entity_74 rfl rfl ?_
  refine tq_iconst (nI 1) dX9_entity_75 (by decide) ?_
  refine tq_iadd dX9_entity_76 ?_
  refine tq_bald dX9_entity_77 (fun x2 => ?_)
  refine tq_bipush (nI 108) dX9_entity_78 (by decide) ?_
  refine tq_icmp_ne 88 dX9_entity_80 (by decide) (fun _ => ?_) (fun _ => ?_)
  · refine tq_bipush (nI 62) dX9_entity_88 (by decide) ?_
    exact tq_sub [] rfl (tX9_entity_90 G (nI 62) h1)
  · refine tq_bipush (nI 60) dX9_entity_83 (by decide) ?_
    refine tq_goto 90 dX9_entity_85 (by decide) ?_
    exact tq_sub [] rfl (tX9_entity_90 G (nI 60) h1)
noncomputable def fX9_entity_0  (v0 : Option Nat) (v1 : Option Nat) (v2 : Int32) (v3 : Int32) (h : AH) : Option (Int32 × AH) := cPI h 9 483 v0 (nI 1) fun h1 => cAL h1 1 v1 v2 fun x2 => if x2 = (nI 38) then (if v3 ≤ (v2 + (nI 3)) then (fX9_entity_95 v0 v1 v2 v3 (nI 38) h1) else (cAL h1 1 v1 (v2 + (nI 2)) fun x3 => if x3 = (nI 116) then (cAL h1 1 v1 (v2 + (nI 3)) fun x4 => if x4 = (nI 59) then (cAL h1 1 v1 (v2 + (nI 1)) fun x5 => if x5 = (nI 108) then (fX9_entity_68 v0 v1 v2 h1) else (cAL h1 1 v1 (v2 + (nI 1)) fun x6 => if x6 = (nI 103) then (fX9_entity_68 v0 v1 v2 h1) else (fX9_entity_95 v0 v1 v2 v3 (nI 38) h1))) else (fX9_entity_95 v0 v1 v2 v3 (nI 38) h1)) else (fX9_entity_95 v0 v1 v2 v3 (nI 38) h1))) else (cAL h1 1 v1 v2 fun x7 => some (x7, h1))
theorem tX9_entity_0 (G : sr_G) (v0 : Option Nat) (v1 : Option Nat) (v2 : Int32) (v3 : Int32) (h : AH) : sr_T (X := Int32) G 0 RX9 cX9_entity 5 (some .int) false (sr_M G jI) 0 [(0, vR v0), (1, vR v1), (2, vI v2), (3, vI v3)] [] h (fX9_entity_0  v0 v1 v2 v3 h) := by
  unfold fX9_entity_0
  refine tq_aload_n 0 0 dX9_entity_0 rfl rfl ?_
  refine tq_iconst (nI 1) dX9_entity_1 (by decide) ?_
  refine tq_putI 33 dX9_entity_2 cfX9 (by decide) wd_905 rfl rfl (Or.inl rfl) (fun h1 => ?_)
  refine tq_aload_n 1 1 dX9_entity_5 rfl rfl ?_
  refine tq_iload_n 2 2 dX9_entity_6 rfl rfl ?_
  refine tq_bald dX9_entity_7 (fun x2 => ?_)
  refine tq_bipush (nI 38) dX9_entity_8 (by decide) ?_
  refine tq_icmp_eq 17 dX9_entity_10 (by decide) (fun _ => ?_) (fun _ => ?_)
  · refine tq_bipush (nI 38) dX9_entity_17 (by decide) ?_
    refine tq_istore (L' := [(4, vI (nI 38)), (0, vR v0), (1, vR v1), (2, vI v2), (3, vI v3)]) dX9_entity_19 (by decide) rfl ?_
    refine tq_iload_n 2 3 dX9_entity_21 rfl rfl ?_
    refine tq_iconst (nI 3) dX9_entity_22 (by decide) ?_
    refine tq_iadd dX9_entity_23 ?_
    refine tq_iload_n 3 4 dX9_entity_24 rfl rfl ?_
    refine tq_icmp_ge 95 dX9_entity_25 (by decide) (fun _ => ?_) (fun _ => ?_)
    · exact tq_sub [1, 2, 3, 4, 0] rfl (tX9_entity_95 G v0 v1 v2 v3 (nI 38) h1)
    · refine tq_aload_n 1 2 dX9_entity_28 rfl rfl ?_
      refine tq_iload_n 2 3 dX9_entity_29 rfl rfl ?_
      refine tq_iconst (nI 2) dX9_entity_30 (by decide) ?_
      refine tq_iadd dX9_entity_31 ?_
      refine tq_bald dX9_entity_32 (fun x3 => ?_)
      refine tq_bipush (nI 116) dX9_entity_33 (by decide) ?_
      refine tq_icmp_ne 95 dX9_entity_35 (by decide) (fun _ => ?_) (fun _ => ?_)
      · exact tq_sub [1, 2, 3, 4, 0] rfl (tX9_entity_95 G v0 v1 v2 v3 (nI 38) h1)
      · refine tq_aload_n 1 2 dX9_entity_38 rfl rfl ?_
        refine tq_iload_n 2 3 dX9_entity_39 rfl rfl ?_
        refine tq_iconst (nI 3) dX9_entity_40 (by decide) ?_
        refine tq_iadd dX9_entity_41 ?_
        refine tq_bald dX9_entity_42 (fun x4 => ?_)
        refine tq_bipush (nI 59) dX9_entity_43 (by decide) ?_
        refine tq_icmp_ne 95 dX9_entity_45 (by decide) (fun _ => ?_) (fun _ => ?_)
        · exact tq_sub [1, 2, 3, 4, 0] rfl (tX9_entity_95 G v0 v1 v2 v3 (nI 38) h1)
        · refine tq_aload_n 1 2 dX9_entity_48 rfl rfl ?_
          refine tq_iload_n 2 3 dX9_entity_49 rfl rfl ?_
          refine tq_iconst (nI 1) dX9_entity_50 (by decide) ?_
          refine tq_iadd dX9_entity_51 ?_
          refine tq_bald dX9_entity_52 (fun x5 => ?_)
          refine tq_bipush (nI 108) dX9_entity_53 (by decide) ?_
          refine tq_icmp_eq 68 dX9_entity_55 (by decide) (fun _ => ?_) (fun _ => ?_)
          · exact tq_sub [1, 2, 3] rfl (tX9_entity_68 G v0 v1 v2 h1)
          · refine tq_aload_n 1 2 dX9_entity_58 rfl rfl ?_
            refine tq_iload_n 2 3 dX9_entity_59 rfl rfl ?_
            refine tq_iconst (nI 1) dX9_entity_60 (by decide) ?_
            refine tq_iadd dX9_entity_61 ?_
            refine tq_bald dX9_entity_62 (fun x6 => ?_)
            refine tq_bipush (nI 103) dX9_entity_63 (by decide) ?_
            refine tq_icmp_ne 95 dX9_entity_65 (by decide) (fun _ => ?_) (fun _ => ?_)
            · exact tq_sub [1, 2, 3, 4, 0] rfl (tX9_entity_95 G v0 v1 v2 v3 (nI 38) h1)
            · exact tq_sub [1, 2, 3] rfl (tX9_entity_68 G v0 v1 v2 h1)
  · refine tq_aload_n 1 1 dX9_entity_13 rfl rfl ?_
    refine tq_iload_n 2 2 dX9_entity_14 rfl rfl ?_
    refine tq_bald dX9_entity_15 (fun x7 => ?_)
    exact tq_iret rfl dX9_entity_16
noncomputable def fX9_entity (v0 : Option Nat) (v1 : Option Nat) (v2 : Int32) (v3 : Int32) (h : AH) : Option (Int32 × AH) := fX9_entity_0 v0 v1 v2 v3 h
theorem eX9_entity (G : sr_G) (v0 : Option Nat) (v1 : Option Nat) (v2 : Int32) (v3 : Int32) (h : AH) : sr_E G 0 yX9_entity cX9_entity 5 (some .int) jI [vR v0, vR v1, vI v2, vI v3] h (fX9_entity v0 v1 v2 v3 h) := sr_E.of (own := RX9) (ini := false) (by decide) rfl (fun q => by first | rfl | cases q) rfl (Nat.le_of_ble_eq_true rfl) (tX9_entity_0 G v0 v1 v2 v3 h)
noncomputable def fX9_readAttribute_392  (v0 : Option Nat) (v1 : Int32) (v3 : Int32) (h : AH) : Option (Int32 × AH) := cGR h 9 492 v0 fun x1 => cGI h 9 491 v0 fun x2 => cAS h 0 x1 x2 v1 fun h3 => cGI h3 9 491 v0 fun x4 => cPI h3 9 491 v0 (x4 + (nI 1)) fun h5 => some (v3, h5)
theorem tX9_readAttribute_392 (G : sr_G) (v0 : Option Nat) (v1 : Int32) (v3 : Int32) (h : AH) : sr_T (X := Int32) G 1 RX9 cX9_readAttribute 8 (some .int) false (sr_M G jI) 392 [(0, vR v0), (1, vI v1), (3, vI v3)] [] h (fX9_readAttribute_392  v0 v1 v3 h) := by
  unfold fX9_readAttribute_392
  refine tq_aload_n 0 0 dX9_readAttribute_392 rfl rfl ?_
  refine tq_getR 42 dX9_readAttribute_393 cfX9 (by decide) wd_914 rfl rfl (fun x1 => ?_)
  refine tq_aload_n 0 0 dX9_readAttribute_396 rfl rfl ?_
  refine tq_getI 41 dX9_readAttribute_397 cfX9 (by decide) wd_913 rfl rfl (fun x2 => ?_)
  refine tq_iload_n 1 1 dX9_readAttribute_400 rfl rfl ?_
  refine tq_iast dX9_readAttribute_401 (fun h3 => ?_)
  refine tq_aload_n 0 0 dX9_readAttribute_402 rfl rfl ?_
  refine tq_dupR dX9_readAttribute_403 ?_
  refine tq_getI 41 dX9_readAttribute_404 cfX9 (by decide) wd_913 rfl rfl (fun x4 => ?_)
  refine tq_iconst (nI 1) dX9_readAttribute_407 (by decide) ?_
  refine tq_iadd dX9_readAttribute_408 ?_
  refine tq_putI 41 dX9_readAttribute_409 cfX9 (by decide) wd_913 rfl rfl (Or.inl rfl) (fun h5 => ?_)
  refine tq_iload_n 3 2 dX9_readAttribute_412 rfl rfl ?_
  exact tq_iret rfl dX9_readAttribute_413
noncomputable def fX9_readAttribute_510  (v0 : Option Nat) (v3 : Int32) (h : AH) : Option (Int32 × AH) := cGI h 9 486 v0 fun x1 => cPI h 9 486 v0 (x1 + (nI 1)) fun h2 => some (v3, h2)
theorem tX9_readAttribute_510 (G : sr_G) (v0 : Option Nat) (v3 : Int32) (h : AH) : sr_T (X := Int32) G 1 RX9 cX9_readAttribute 8 (some .int) false (sr_M G jI) 510 [(0, vR v0), (3, vI v3)] [] h (fX9_readAttribute_510  v0 v3 h) := by
  unfold fX9_readAttribute_510
  refine tq_aload_n 0 0 dX9_readAttribute_510 rfl rfl ?_
  refine tq_dupR dX9_readAttribute_511 ?_
  refine tq_getI 36 dX9_readAttribute_512 cfX9 (by decide) wd_908 rfl rfl (fun x1 => ?_)
  refine tq_iconst (nI 1) dX9_readAttribute_515 (by decide) ?_
  refine tq_iadd dX9_readAttribute_516 ?_
  refine tq_putI 36 dX9_readAttribute_517 cfX9 (by decide) wd_908 rfl rfl (Or.inl rfl) (fun h2 => ?_)
  refine tq_iload_n 3 1 dX9_readAttribute_520 rfl rfl ?_
  exact tq_iret rfl dX9_readAttribute_521
noncomputable def fX9_readAttribute_475  : Nat → Option Nat → Int32 → Int32 → Int32 → AH → Option (Int32 × AH)
  | 0, _, _, _, _, _ => none
  | n + 1, v0, v3, v4, v6, h => if v4 ≤ v6 then (fX9_readAttribute_510 v0 v3 h) else (cGR h 9 489 v0 fun x1 => cGI h 9 486 v0 fun x2 => cGR h 9 494 v0 fun x3 => cAL h 1 x3 v6 fun x4 => cAS h 1 x1 (((nI 60) * x2) + v6) x4 fun h5 => fX9_readAttribute_475 n v0 v3 v4 (v6 + (nI 1)) h5)
theorem tX9_readAttribute_475 (G : sr_G) : ∀ (n : Nat) (v0 : Option Nat) (v3 : Int32) (v4 : Int32) (v6 : Int32) (h : AH), sr_T (X := Int32) G 1 RX9 cX9_readAttribute 8 (some .int) false (sr_M G jI) 475 [(0, vR v0), (3, vI v3), (4, vI v4), (6, vI v6)] [] h (fX9_readAttribute_475  n v0 v3 v4 v6 h) := by
  intro n
  induction n with
  | zero => intro v0 v3 v4 v6 h; exact tq_none
  | succ n ih =>
    intro v0 v3 v4 v6 h
    unfold fX9_readAttribute_475
    refine tq_iload 3 dX9_readAttribute_475 rfl ?_
    refine tq_iload 2 dX9_readAttribute_477 rfl ?_
    refine tq_icmp_ge 510 dX9_readAttribute_479 (by decide) (fun _ => ?_) (fun _ => ?_)
    · exact tq_sub [0, 1] rfl (tX9_readAttribute_510 G v0 v3 h)
    · refine tq_aload_n 0 0 dX9_readAttribute_482 rfl rfl ?_
      refine tq_getR 39 dX9_readAttribute_483 cfX9 (by decide) wd_911 rfl rfl (fun x1 => ?_)
      refine tq_bipush (nI 60) dX9_readAttribute_486 (by decide) ?_
      refine tq_aload_n 0 0 dX9_readAttribute_488 rfl rfl ?_
      refine tq_getI 36 dX9_readAttribute_489 cfX9 (by decide) wd_908 rfl rfl (fun x2 => ?_)
      refine tq_imul dX9_readAttribute_492 ?_
      refine tq_iload 3 dX9_readAttribute_493 rfl ?_
      refine tq_iadd dX9_readAttribute_495 ?_
      refine tq_aload_n 0 0 dX9_readAttribute_496 rfl rfl ?_
      refine tq_getR 44 dX9_readAttribute_497 cfX9 (by decide) wd_916 rfl rfl (fun x3 => ?_)
      refine tq_iload 3 dX9_readAttribute_500 rfl ?_
      refine tq_bald dX9_readAttribute_502 (fun x4 => ?_)
      refine tq_bast dX9_readAttribute_503 (fun h5 => ?_)
      refine tq_iinc 3 (nI 1) (L' := [(6, vI (v6 + (nI 1))), (0, vR v0), (3, vI v3), (4, vI v4)]) dX9_readAttribute_504 rfl (by decide) (by decide) rfl ?_
      refine tq_goto 475 dX9_readAttribute_507 (by decide) ?_
      exact tq_sub [1, 2, 3, 0] rfl (ih v0 v3 v4 (v6 + (nI 1)) h5)
noncomputable def fX9_readAttribute_472  (v0 : Option Nat) (v3 : Int32) (v4 : Int32) (h : AH) : Option (Int32 × AH) := fX9_readAttribute_475 FU v0 v3 v4 (nI 0) h
theorem tX9_readAttribute_472 (G : sr_G) (v0 : Option Nat) (v3 : Int32) (v4 : Int32) (h : AH) : sr_T (X := Int32) G 1 RX9 cX9_readAttribute 8 (some .int) false (sr_M G jI) 472 [(0, vR v0), (3, vI v3), (4, vI v4)] [] h (fX9_readAttribute_472  v0 v3 v4 h) := by
  unfold fX9_readAttribute_472
  refine tq_iconst (nI 0) dX9_readAttribute_472 (by decide) ?_
  refine tq_istore (L' := [(6, vI (nI 0)), (0, vR v0), (3, vI v3), (4, vI v4)]) dX9_readAttribute_473 (by decide) rfl ?_
  exact tq_sub [1, 2, 3, 0] rfl (tX9_readAttribute_475 G FU v0 v3 v4 (nI 0) h)
noncomputable def fX9_readAttribute_438  : Nat → Option Nat → Int32 → Int32 → Int32 → Int32 → AH → Option (Int32 × AH)
  | 0, _, _, _, _, _, _ => none
  | n + 1, v0, v2, v3, v4, v6, h => if v2 ≤ v6 then (fX9_readAttribute_472 v0 v3 v4 h) else (cGR h 9 487 v0 fun x1 => cGI h 9 486 v0 fun x2 => cGR h 9 493 v0 fun x3 => cAL h 1 x3 v6 fun x4 => cAS h 1 x1 (((nI 8) * x2) + v6) x4 fun h5 => fX9_readAttribute_438 n v0 v2 v3 v4 (v6 + (nI 1)) h5)
theorem tX9_readAttribute_438 (G : sr_G) : ∀ (n : Nat) (v0 : Option Nat) (v2 : Int32) (v3 : Int32) (v4 : Int32) (v6 : Int32) (h : AH), sr_T (X := Int32) G 1 RX9 cX9_readAttribute 8 (some .int) false (sr_M G jI) 438 [(0, vR v0), (2, vI v2), (3, vI v3), (4, vI v4), (6, vI v6)] [] h (fX9_readAttribute_438  n v0 v2 v3 v4 v6 h) := by
  intro n
  induction n with
  | zero => intro v0 v2 v3 v4 v6 h; exact tq_none
  | succ n ih =>
    intro v0 v2 v3 v4 v6 h
    unfold fX9_readAttribute_438
    refine tq_iload 4 dX9_readAttribute_438 rfl ?_
    refine tq_iload_n 2 1 dX9_readAttribute_440 rfl rfl ?_
    refine tq_icmp_ge 472 dX9_readAttribute_441 (by decide) (fun _ => ?_) (fun _ => ?_)
    · exact tq_sub [0, 2, 3] rfl (tX9_readAttribute_472 G v0 v3 v4 h)
    · refine tq_aload_n 0 0 dX9_readAttribute_444 rfl rfl ?_
      refine tq_getR 37 dX9_readAttribute_445 cfX9 (by decide) wd_909 rfl rfl (fun x1 => ?_)
      refine tq_bipush (nI 8) dX9_readAttribute_448 (by decide) ?_
      refine tq_aload_n 0 0 dX9_readAttribute_450 rfl rfl ?_
      refine tq_getI 36 dX9_readAttribute_451 cfX9 (by decide) wd_908 rfl rfl (fun x2 => ?_)
      refine tq_imul dX9_readAttribute_454 ?_
      refine tq_iload 4 dX9_readAttribute_455 rfl ?_
      refine tq_iadd dX9_readAttribute_457 ?_
      refine tq_aload_n 0 0 dX9_readAttribute_458 rfl rfl ?_
      refine tq_getR 43 dX9_readAttribute_459 cfX9 (by decide) wd_915 rfl rfl (fun x3 => ?_)
      refine tq_iload 4 dX9_readAttribute_462 rfl ?_
      refine tq_bald dX9_readAttribute_464 (fun x4 => ?_)
      refine tq_bast dX9_readAttribute_465 (fun h5 => ?_)
      refine tq_iinc 4 (nI 1) (L' := [(6, vI (v6 + (nI 1))), (0, vR v0), (2, vI v2), (3, vI v3), (4, vI v4)]) dX9_readAttribute_466 rfl (by decide) (by decide) rfl ?_
      refine tq_goto 438 dX9_readAttribute_469 (by decide) ?_
      exact tq_sub [1, 2, 3, 4, 0] rfl (ih v0 v2 v3 v4 (v6 + (nI 1)) h5)
noncomputable def fX9_readAttribute_379  (v0 : Option Nat) (v1 : Int32) (v2 : Int32) (v3 : Int32) (v4 : Int32) (v5 : Int32) (h : AH) : Option (Int32 × AH) := if v5 = 0 then (cGI h 9 486 v0 fun x1 => if x1 = (nI 4) then (fX9_readAttribute_392 v0 v1 v3 h) else (cGR h 9 488 v0 fun x2 => cGI h 9 486 v0 fun x3 => cAS h 0 x2 x3 v2 fun h4 => cGR h4 9 490 v0 fun x5 => cGI h4 9 486 v0 fun x6 => cAS h4 0 x5 x6 v4 fun h7 => fX9_readAttribute_438 FU v0 v2 v3 v4 (nI 0) h7)) else (fX9_readAttribute_392 v0 v1 v3 h)
theorem tX9_readAttribute_379 (G : sr_G) (v0 : Option Nat) (v1 : Int32) (v2 : Int32) (v3 : Int32) (v4 : Int32) (v5 : Int32) (h : AH) : sr_T (X := Int32) G 1 RX9 cX9_readAttribute 8 (some .int) false (sr_M G jI) 379 [(0, vR v0), (1, vI v1), (2, vI v2), (3, vI v3), (4, vI v4), (5, vI v5)] [] h (fX9_readAttribute_379  v0 v1 v2 v3 v4 v5 h) := by
  unfold fX9_readAttribute_379
  refine tq_iload 5 dX9_readAttribute_379 rfl ?_
  refine tq_if_ne 392 dX9_readAttribute_381 (by decide) (fun _ => ?_) (fun _ => ?_)
  · exact tq_sub [0, 1, 3] rfl (tX9_readAttribute_392 G v0 v1 v3 h)
  · refine tq_aload_n 0 0 dX9_readAttribute_384 rfl rfl ?_
    refine tq_getI 36 dX9_readAttribute_385 cfX9 (by decide) wd_908 rfl rfl (fun x1 => ?_)
    refine tq_iconst (nI 4) dX9_readAttribute_388 (by decide) ?_
    refine tq_icmp_ne 414 dX9_readAttribute_389 (by decide) (fun _ => ?_) (fun _ => ?_)
    · refine tq_aload_n 0 0 dX9_readAttribute_414 rfl rfl ?_
      refine tq_getR 38 dX9_readAttribute_415 cfX9 (by decide) wd_910 rfl rfl (fun x2 => ?_)
      refine tq_aload_n 0 0 dX9_readAttribute_418 rfl rfl ?_
      refine tq_getI 36 dX9_readAttribute_419 cfX9 (by decide) wd_908 rfl rfl (fun x3 => ?_)
      refine tq_iload_n 2 2 dX9_readAttribute_422 rfl rfl ?_
      refine tq_iast dX9_readAttribute_423 (fun h4 => ?_)
      refine tq_aload_n 0 0 dX9_readAttribute_424 rfl rfl ?_
      refine tq_getR 40 dX9_readAttribute_425 cfX9 (by decide) wd_912 rfl rfl (fun x5 => ?_)
      refine tq_aload_n 0 0 dX9_readAttribute_428 rfl rfl ?_
      refine tq_getI 36 dX9_readAttribute_429 cfX9 (by decide) wd_908 rfl rfl (fun x6 => ?_)
      refine tq_iload 4 dX9_readAttribute_432 rfl ?_
      refine tq_iast dX9_readAttribute_434 (fun h7 => ?_)
      refine tq_iconst (nI 0) dX9_readAttribute_435 (by decide) ?_
      refine tq_istore (L' := [(6, vI (nI 0)), (0, vR v0), (1, vI v1), (2, vI v2), (3, vI v3), (4, vI v4), (5, vI v5)]) dX9_readAttribute_436 (by decide) rfl ?_
      exact tq_sub [1, 3, 4, 5, 0] rfl (tX9_readAttribute_438 G FU v0 v2 v3 v4 (nI 0) h7)
    · exact tq_sub [0, 1, 3] rfl (tX9_readAttribute_392 G v0 v1 v3 h)
noncomputable def fX9_readAttribute_371 (r320 : Option Nat → Int32 → Int32 → Int32 → Int32 → Int32 → Int32 → AH → Option (Int32 × AH)) (v0 : Option Nat) (v1 : Int32) (v2 : Int32) (v3 : Int32) (v4 : Int32) (v6 : Int32) (s0 : Int32) (h : AH) : Option (Int32 × AH) := r320 v0 v1 v2 v3 v4 s0 (v6 + (nI 1)) h
theorem tX9_readAttribute_371 (G : sr_G) {r320 : Option Nat → Int32 → Int32 → Int32 → Int32 → Int32 → Int32 → AH → Option (Int32 × AH)} (hr320 : ∀ (v0 : Option Nat) (v1 : Int32) (v2 : Int32) (v3 : Int32) (v4 : Int32) (v5 : Int32) (v6 : Int32) (h : AH), sr_T (X := Int32) G 1 RX9 cX9_readAttribute 8 (some .int) false (sr_M G jI) 320 [(0, vR v0), (1, vI v1), (2, vI v2), (3, vI v3), (4, vI v4), (5, vI v5), (6, vI v6)] [] h (r320 v0 v1 v2 v3 v4 v5 v6 h)) (v0 : Option Nat) (v1 : Int32) (v2 : Int32) (v3 : Int32) (v4 : Int32) (v6 : Int32) (s0 : Int32) (h : AH) : sr_T (X := Int32) G 1 RX9 cX9_readAttribute 8 (some .int) false (sr_M G jI) 371 [(0, vR v0), (1, vI v1), (2, vI v2), (3, vI v3), (4, vI v4), (6, vI v6)] [vI s0] h (fX9_readAttribute_371 r320 v0 v1 v2 v3 v4 v6 s0 h) := by
  unfold fX9_readAttribute_371
  refine tq_istore (L' := [(5, vI s0), (0, vR v0), (1, vI v1), (2, vI v2), (3, vI v3), (4, vI v4), (6, vI v6)]) dX9_readAttribute_371 (by decide) rfl ?_
  refine tq_iinc 6 (nI 1) (L' := [(6, vI (v6 + (nI 1))), (5, vI s0), (0, vR v0), (1, vI v1), (2, vI v2), (3, vI v3), (4, vI v4)]) dX9_readAttribute_373 rfl (by decide) (by decide) rfl ?_
  refine tq_goto 320 dX9_readAttribute_376 (by decide) ?_
  exact tq_sub [2, 3, 4, 5, 6, 1, 0] rfl (hr320 v0 v1 v2 v3 v4 s0 (v6 + (nI 1)) h)
noncomputable def fX9_readAttribute_366 (r320 : Option Nat → Int32 → Int32 → Int32 → Int32 → Int32 → Int32 → AH → Option (Int32 × AH)) (v0 : Option Nat) (v1 : Int32) (v2 : Int32) (v3 : Int32) (v4 : Int32) (v6 : Int32) (h : AH) : Option (Int32 × AH) := fX9_readAttribute_371 r320 v0 v1 v2 v3 v4 v6 (nI 1) h
theorem tX9_readAttribute_366 (G : sr_G) {r320 : Option Nat → Int32 → Int32 → Int32 → Int32 → Int32 → Int32 → AH → Option (Int32 × AH)} (hr320 : ∀ (v0 : Option Nat) (v1 : Int32) (v2 : Int32) (v3 : Int32) (v4 : Int32) (v5 : Int32) (v6 : Int32) (h : AH), sr_T (X := Int32) G 1 RX9 cX9_readAttribute 8 (some .int) false (sr_M G jI) 320 [(0, vR v0), (1, vI v1), (2, vI v2), (3, vI v3), (4, vI v4), (5, vI v5), (6, vI v6)] [] h (r320 v0 v1 v2 v3 v4 v5 v6 h)) (v0 : Option Nat) (v1 : Int32) (v2 : Int32) (v3 : Int32) (v4 : Int32) (v6 : Int32) (h : AH) : sr_T (X := Int32) G 1 RX9 cX9_readAttribute 8 (some .int) false (sr_M G jI) 366 [(0, vR v0), (1, vI v1), (2, vI v2), (3, vI v3), (4, vI v4), (6, vI v6)] [] h (fX9_readAttribute_366 r320 v0 v1 v2 v3 v4 v6 h) := by
  unfold fX9_readAttribute_366
  refine tq_iconst (nI 1) dX9_readAttribute_366 (by decide) ?_
  refine tq_goto 371 dX9_readAttribute_367 (by decide) ?_
  exact tX9_readAttribute_371 G hr320 v0 v1 v2 v3 v4 v6 (nI 1) h
noncomputable def fX9_readAttribute_370 (r320 : Option Nat → Int32 → Int32 → Int32 → Int32 → Int32 → Int32 → AH → Option (Int32 × AH)) (v0 : Option Nat) (v1 : Int32) (v2 : Int32) (v3 : Int32) (v4 : Int32) (v6 : Int32) (h : AH) : Option (Int32 × AH) := fX9_readAttribute_371 r320 v0 v1 v2 v3 v4 v6 (nI 0) h
theorem tX9_readAttribute_370 (G : sr_G) {r320 : Option Nat → Int32 → Int32 → Int32 → Int32 → Int32 → Int32 → AH → Option (Int32 × AH)} (hr320 : ∀ (v0 : Option Nat) (v1 : Int32) (v2 : Int32) (v3 : Int32) (v4 : Int32) (v5 : Int32) (v6 : Int32) (h : AH), sr_T (X := Int32) G 1 RX9 cX9_readAttribute 8 (some .int) false (sr_M G jI) 320 [(0, vR v0), (1, vI v1), (2, vI v2), (3, vI v3), (4, vI v4), (5, vI v5), (6, vI v6)] [] h (r320 v0 v1 v2 v3 v4 v5 v6 h)) (v0 : Option Nat) (v1 : Int32) (v2 : Int32) (v3 : Int32) (v4 : Int32) (v6 : Int32) (h : AH) : sr_T (X := Int32) G 1 RX9 cX9_readAttribute 8 (some .int) false (sr_M G jI) 370 [(0, vR v0), (1, vI v1), (2, vI v2), (3, vI v3), (4, vI v4), (6, vI v6)] [] h (fX9_readAttribute_370 r320 v0 v1 v2 v3 v4 v6 h) := by
  unfold fX9_readAttribute_370
  refine tq_iconst (nI 0) dX9_readAttribute_370 (by decide) ?_
  exact tX9_readAttribute_371 G hr320 v0 v1 v2 v3 v4 v6 (nI 0) h
noncomputable def fX9_readAttribute_320  : Nat → Option Nat → Int32 → Int32 → Int32 → Int32 → Int32 → Int32 → AH → Option (Int32 × AH)
  | 0, _, _, _, _, _, _, _, _ => none
  | n + 1, v0, v1, v2, v3, v4, v5, v6, h => cGI h 9 486 v0 fun x1 => if x1 ≤ v6 then (fX9_readAttribute_379 v0 v1 v2 v3 v4 v5 h) else (if v5 = 0 then (cGR h 9 488 v0 fun x2 => cAL h 0 x2 v6 fun x3 => if x3 = v2 then (cGR h 9 487 v0 fun x4 => cGR h 9 493 v0 fun x5 => cCL (fX9_same x4 ((nI 8) * v6) x5 (nI 0) v2 h) fun x7 h6 => if x7 = 0 then (fX9_readAttribute_370 (fX9_readAttribute_320 n) v0 v1 v2 v3 v4 v6 h6) else (fX9_readAttribute_366 (fX9_readAttribute_320 n) v0 v1 v2 v3 v4 v6 h6)) else (fX9_readAttribute_370 (fX9_readAttribute_320 n) v0 v1 v2 v3 v4 v6 h)) else (fX9_readAttribute_366 (fX9_readAttribute_320 n) v0 v1 v2 v3 v4 v6 h))
theorem tX9_readAttribute_320 (G : sr_G) : ∀ (n : Nat) (v0 : Option Nat) (v1 : Int32) (v2 : Int32) (v3 : Int32) (v4 : Int32) (v5 : Int32) (v6 : Int32) (h : AH), sr_T (X := Int32) G 1 RX9 cX9_readAttribute 8 (some .int) false (sr_M G jI) 320 [(0, vR v0), (1, vI v1), (2, vI v2), (3, vI v3), (4, vI v4), (5, vI v5), (6, vI v6)] [] h (fX9_readAttribute_320  n v0 v1 v2 v3 v4 v5 v6 h) := by
  intro n
  induction n with
  | zero => intro v0 v1 v2 v3 v4 v5 v6 h; exact tq_none
  | succ n ih =>
    intro v0 v1 v2 v3 v4 v5 v6 h
    unfold fX9_readAttribute_320
    refine tq_iload 6 dX9_readAttribute_320 rfl ?_
    refine tq_aload_n 0 0 dX9_readAttribute_322 rfl rfl ?_
    refine tq_getI 36 dX9_readAttribute_323 cfX9 (by decide) wd_908 rfl rfl (fun x1 => ?_)
    refine tq_icmp_ge 379 dX9_readAttribute_326 (by decide) (fun _ => ?_) (fun _ => ?_)
    · exact tq_sub [0, 1, 2, 3, 4, 5] rfl (tX9_readAttribute_379 G v0 v1 v2 v3 v4 v5 h)
    · refine tq_iload 5 dX9_readAttribute_329 rfl ?_
      refine tq_if_ne 366 dX9_readAttribute_331 (by decide) (fun _ => ?_) (fun _ => ?_)
      · exact tq_sub [0, 1, 2, 3, 4, 6] rfl (tX9_readAttribute_366 G ih v0 v1 v2 v3 v4 v6 h)
      · refine tq_aload_n 0 0 dX9_readAttribute_334 rfl rfl ?_
        refine tq_getR 38 dX9_readAttribute_335 cfX9 (by decide) wd_910 rfl rfl (fun x2 => ?_)
        refine tq_iload 6 dX9_readAttribute_338 rfl ?_
        refine tq_iald dX9_readAttribute_340 (fun x3 => ?_)
        refine tq_iload_n 2 2 dX9_readAttribute_341 rfl rfl ?_
        refine tq_icmp_ne 370 dX9_readAttribute_342 (by decide) (fun _ => ?_) (fun _ => ?_)
        · exact tq_sub [0, 1, 2, 3, 4, 6] rfl (tX9_readAttribute_370 G ih v0 v1 v2 v3 v4 v6 h)
        · refine tq_aload_n 0 0 dX9_readAttribute_345 rfl rfl ?_
          refine tq_getR 37 dX9_readAttribute_346 cfX9 (by decide) wd_909 rfl rfl (fun x4 => ?_)
          refine tq_bipush (nI 8) dX9_readAttribute_349 (by decide) ?_
          refine tq_iload 6 dX9_readAttribute_351 rfl ?_
          refine tq_imul dX9_readAttribute_353 ?_
          refine tq_aload_n 0 0 dX9_readAttribute_354 rfl rfl ?_
          refine tq_getR 43 dX9_readAttribute_355 cfX9 (by decide) wd_915 rfl rfl (fun x5 => ?_)
          refine tq_iconst (nI 0) dX9_readAttribute_358 (by decide) ?_
          refine tq_iload_n 2 2 dX9_readAttribute_359 rfl rfl ?_
          refine tq_cSI [vR x4, vI ((nI 8) * v6), vR x5, vI (nI 0), vI v2] [] dX9_readAttribute_360 (eX9_same G x4 ((nI 8) * v6) x5 (nI 0) v2 h) (by decide) mbX9_same wd_1117 wd_1118 rfl rfl (Nat.le_of_ble_eq_true rfl) (fun x7 h6 => ?_)
          refine tq_if_eq 370 dX9_readAttribute_363 (by decide) (fun _ => ?_) (fun _ => ?_)
          · exact tq_sub [0, 1, 2, 3, 4, 6] rfl (tX9_readAttribute_370 G ih v0 v1 v2 v3 v4 v6 h6)
          · exact tq_sub [0, 1, 2, 3, 4, 6] rfl (tX9_readAttribute_366 G ih v0 v1 v2 v3 v4 v6 h6)
noncomputable def fX9_readAttribute_314  (v0 : Option Nat) (v1 : Int32) (v2 : Int32) (v3 : Int32) (v4 : Int32) (h : AH) : Option (Int32 × AH) := fX9_readAttribute_320 FU v0 v1 v2 v3 v4 (nI 0) (nI 0) h
theorem tX9_readAttribute_314 (G : sr_G) (v0 : Option Nat) (v1 : Int32) (v2 : Int32) (v3 : Int32) (v4 : Int32) (h : AH) : sr_T (X := Int32) G 1 RX9 cX9_readAttribute 8 (some .int) false (sr_M G jI) 314 [(0, vR v0), (1, vI v1), (2, vI v2), (3, vI v3), (4, vI v4)] [] h (fX9_readAttribute_314  v0 v1 v2 v3 v4 h) := by
  unfold fX9_readAttribute_314
  refine tq_iconst (nI 0) dX9_readAttribute_314 (by decide) ?_
  refine tq_istore (L' := [(5, vI (nI 0)), (0, vR v0), (1, vI v1), (2, vI v2), (3, vI v3), (4, vI v4)]) dX9_readAttribute_315 (by decide) rfl ?_
  refine tq_iconst (nI 0) dX9_readAttribute_317 (by decide) ?_
  refine tq_istore (L' := [(6, vI (nI 0)), (5, vI (nI 0)), (0, vR v0), (1, vI v1), (2, vI v2), (3, vI v3), (4, vI v4)]) dX9_readAttribute_318 (by decide) rfl ?_
  exact tq_sub [2, 3, 4, 5, 6, 1, 0] rfl (tX9_readAttribute_320 G FU v0 v1 v2 v3 v4 (nI 0) (nI 0) h)
noncomputable def fX9_readAttribute_304  (v0 : Option Nat) (v1 : Int32) (v2 : Int32) (v3 : Int32) (v4 : Int32) (v5 : Int32) (h : AH) : Option (Int32 × AH) := if v5 ≤ 0 then (fX9_readAttribute_314 v0 v1 v2 v3 v4 h) else (cGI h 9 482 v0 fun x1 => fX9_readAttribute_314 v0 v1 v2 x1 v4 h)
theorem tX9_readAttribute_304 (G : sr_G) (v0 : Option Nat) (v1 : Int32) (v2 : Int32) (v3 : Int32) (v4 : Int32) (v5 : Int32) (h : AH) : sr_T (X := Int32) G 1 RX9 cX9_readAttribute 8 (some .int) false (sr_M G jI) 304 [(0, vR v0), (1, vI v1), (2, vI v2), (3, vI v3), (4, vI v4), (5, vI v5)] [] h (fX9_readAttribute_304  v0 v1 v2 v3 v4 v5 h) := by
  unfold fX9_readAttribute_304
  refine tq_iload 5 dX9_readAttribute_304 rfl ?_
  refine tq_if_le 314 dX9_readAttribute_306 (by decide) (fun _ => ?_) (fun _ => ?_)
  · exact tq_sub [0, 1, 2, 3, 4] rfl (tX9_readAttribute_314 G v0 v1 v2 v3 v4 h)
  · refine tq_aload_n 0 0 dX9_readAttribute_309 rfl rfl ?_
    refine tq_getI 32 dX9_readAttribute_310 cfX9 (by decide) wd_904 rfl rfl (fun x1 => ?_)
    refine tq_istore_n 3 (L' := [(3, vI x1), (0, vR v0), (1, vI v1), (2, vI v2), (4, vI v4), (5, vI v5)]) dX9_readAttribute_313 rfl (by decide) rfl ?_
    exact tq_sub [1, 2, 3, 0, 4] rfl (tX9_readAttribute_314 G v0 v1 v2 x1 v4 h)
noncomputable def fX9_readAttribute_285  (v0 : Option Nat) (v1 : Int32) (v2 : Int32) (v3 : Int32) (v4 : Int32) (v5 : Int32) (h : AH) : Option (Int32 × AH) := if v5 ≤ 0 then (fX9_readAttribute_304 v0 v1 v2 v3 v4 v5 h) else (cGI h 9 482 v0 fun x1 => if x1 ≤ v3 then (fX9_readAttribute_304 v0 v1 v2 v3 v4 v5 h) else (fX9_readAttribute_314 v0 v1 v2 (v3 + (nI 1)) v4 h))
theorem tX9_readAttribute_285 (G : sr_G) (v0 : Option Nat) (v1 : Int32) (v2 : Int32) (v3 : Int32) (v4 : Int32) (v5 : Int32) (h : AH) : sr_T (X := Int32) G 1 RX9 cX9_readAttribute 8 (some .int) false (sr_M G jI) 285 [(0, vR v0), (1, vI v1), (2, vI v2), (3, vI v3), (4, vI v4), (5, vI v5)] [] h (fX9_readAttribute_285  v0 v1 v2 v3 v4 v5 h) := by
  unfold fX9_readAttribute_285
  refine tq_iload 5 dX9_readAttribute_285 rfl ?_
  refine tq_if_le 304 dX9_readAttribute_287 (by decide) (fun _ => ?_) (fun _ => ?_)
  · exact tX9_readAttribute_304 G v0 v1 v2 v3 v4 v5 h
  · refine tq_iload_n 3 3 dX9_readAttribute_290 rfl rfl ?_
    refine tq_aload_n 0 0 dX9_readAttribute_291 rfl rfl ?_
    refine tq_getI 32 dX9_readAttribute_292 cfX9 (by decide) wd_904 rfl rfl (fun x1 => ?_)
    refine tq_icmp_ge 304 dX9_readAttribute_295 (by decide) (fun _ => ?_) (fun _ => ?_)
    · exact tX9_readAttribute_304 G v0 v1 v2 v3 v4 v5 h
    · refine tq_iinc 3 (nI 1) (L' := [(3, vI (v3 + (nI 1))), (0, vR v0), (1, vI v1), (2, vI v2), (4, vI v4), (5, vI v5)]) dX9_readAttribute_298 rfl (by decide) (by decide) rfl ?_
      refine tq_goto 314 dX9_readAttribute_301 (by decide) ?_
      exact tq_sub [1, 2, 3, 0, 4] rfl (tX9_readAttribute_314 G v0 v1 v2 (v3 + (nI 1)) v4 h)
noncomputable def fX9_readAttribute_275 (r236 : Option Nat → Int32 → Int32 → Int32 → Int32 → Int32 → Int32 → AH → Option (Int32 × AH)) (v0 : Option Nat) (v1 : Int32) (v2 : Int32) (v3 : Int32) (v4 : Int32) (v5 : Int32) (v6 : Int32) (h : AH) : Option (Int32 × AH) := cGI h 9 483 v0 fun x1 => r236 v0 v1 v2 (v3 + x1) v4 v5 v6 h
theorem tX9_readAttribute_275 (G : sr_G) {r236 : Option Nat → Int32 → Int32 → Int32 → Int32 → Int32 → Int32 → AH → Option (Int32 × AH)} (hr236 : ∀ (v0 : Option Nat) (v1 : Int32) (v2 : Int32) (v3 : Int32) (v4 : Int32) (v5 : Int32) (v6 : Int32) (h : AH), sr_T (X := Int32) G 1 RX9 cX9_readAttribute 8 (some .int) false (sr_M G jI) 236 [(0, vR v0), (1, vI v1), (2, vI v2), (3, vI v3), (4, vI v4), (5, vI v5), (6, vI v6)] [] h (r236 v0 v1 v2 v3 v4 v5 v6 h)) (v0 : Option Nat) (v1 : Int32) (v2 : Int32) (v3 : Int32) (v4 : Int32) (v5 : Int32) (v6 : Int32) (h : AH) : sr_T (X := Int32) G 1 RX9 cX9_readAttribute 8 (some .int) false (sr_M G jI) 275 [(0, vR v0), (1, vI v1), (2, vI v2), (3, vI v3), (4, vI v4), (5, vI v5), (6, vI v6)] [] h (fX9_readAttribute_275 r236 v0 v1 v2 v3 v4 v5 v6 h) := by
  unfold fX9_readAttribute_275
  refine tq_iload_n 3 3 dX9_readAttribute_275 rfl rfl ?_
  refine tq_aload_n 0 0 dX9_readAttribute_276 rfl rfl ?_
  refine tq_getI 33 dX9_readAttribute_277 cfX9 (by decide) wd_905 rfl rfl (fun x1 => ?_)
  refine tq_iadd dX9_readAttribute_280 ?_
  refine tq_istore_n 3 (L' := [(3, vI (v3 + x1)), (0, vR v0), (1, vI v1), (2, vI v2), (4, vI v4), (5, vI v5), (6, vI v6)]) dX9_readAttribute_281 rfl (by decide) rfl ?_
  refine tq_goto 236 dX9_readAttribute_282 (by decide) ?_
  exact tq_sub [1, 2, 3, 0, 4, 5, 6] rfl (hr236 v0 v1 v2 (v3 + x1) v4 v5 v6 h)
noncomputable def fX9_readAttribute_236  : Nat → Option Nat → Int32 → Int32 → Int32 → Int32 → Int32 → Int32 → AH → Option (Int32 × AH)
  | 0, _, _, _, _, _, _, _, _ => none
  | n + 1, v0, v1, v2, v3, v4, v5, v6, h => if v6 ≤ v3 then (fX9_readAttribute_285 v0 v1 v2 v3 v4 v5 h) else (cGR h 9 481 v0 fun x1 => cCV h 9 v0 (fX9_entity v0 x1 v3 v6 h) fun x3 h2 => if (nI 60) ≤ v4 then (fX9_readAttribute_275 (fX9_readAttribute_236 n) v0 v1 v2 v3 v4 v5 v6 h2) else (cGR h2 9 494 v0 fun x4 => cAS h2 1 x4 v4 (Int8.toInt32 (Int32.toInt8 x3)) fun h5 => fX9_readAttribute_275 (fX9_readAttribute_236 n) v0 v1 v2 v3 (v4 + (nI 1)) v5 v6 h5))
theorem tX9_readAttribute_236 (G : sr_G) : ∀ (n : Nat) (v0 : Option Nat) (v1 : Int32) (v2 : Int32) (v3 : Int32) (v4 : Int32) (v5 : Int32) (v6 : Int32) (h : AH), sr_T (X := Int32) G 1 RX9 cX9_readAttribute 8 (some .int) false (sr_M G jI) 236 [(0, vR v0), (1, vI v1), (2, vI v2), (3, vI v3), (4, vI v4), (5, vI v5), (6, vI v6)] [] h (fX9_readAttribute_236  n v0 v1 v2 v3 v4 v5 v6 h) := by
  intro n
  induction n with
  | zero => intro v0 v1 v2 v3 v4 v5 v6 h; exact tq_none
  | succ n ih =>
    intro v0 v1 v2 v3 v4 v5 v6 h
    unfold fX9_readAttribute_236
    refine tq_iload_n 3 3 dX9_readAttribute_236 rfl rfl ?_
    refine tq_iload 6 dX9_readAttribute_237 rfl ?_
    refine tq_icmp_ge 285 dX9_readAttribute_239 (by decide) (fun _ => ?_) (fun _ => ?_)
    · exact tq_sub [0, 1, 2, 3, 4, 5] rfl (tX9_readAttribute_285 G v0 v1 v2 v3 v4 v5 h)
    · refine tq_aload_n 0 0 dX9_readAttribute_242 rfl rfl ?_
      refine tq_aload_n 0 0 dX9_readAttribute_243 rfl rfl ?_
      refine tq_getR 31 dX9_readAttribute_244 cfX9 (by decide) wd_903 rfl rfl (fun x1 => ?_)
      refine tq_iload_n 3 3 dX9_readAttribute_247 rfl rfl ?_
      refine tq_iload 6 dX9_readAttribute_248 rfl ?_
      refine tq_cVI [vR x1, vI v3, vI v6] [] dX9_readAttribute_250 (eX9_entity G v0 x1 v3 v6 h) (by decide) mbX9_entity cfX9 rfl wd_1095 wd_1097 wd_54 rfl rfl (Nat.le_of_ble_eq_true rfl) (fun x3 h2 => ?_)
      refine tq_istore (L' := [(7, vI x3), (0, vR v0), (1, vI v1), (2, vI v2), (3, vI v3), (4, vI v4), (5, vI v5), (6, vI v6)]) dX9_readAttribute_253 (by decide) rfl ?_
      refine tq_iload 5 dX9_readAttribute_255 rfl ?_
      refine tq_bipush (nI 60) dX9_readAttribute_257 (by decide) ?_
      refine tq_icmp_ge 275 dX9_readAttribute_259 (by decide) (fun _ => ?_) (fun _ => ?_)
      · exact tq_sub [1, 2, 3, 4, 5, 6, 7] rfl (tX9_readAttribute_275 G ih v0 v1 v2 v3 v4 v5 v6 h2)
      · refine tq_aload_n 0 1 dX9_readAttribute_262 rfl rfl ?_
        refine tq_getR 44 dX9_readAttribute_263 cfX9 (by decide) wd_916 rfl rfl (fun x4 => ?_)
        refine tq_iload 5 dX9_readAttribute_266 rfl ?_
        refine tq_iload 0 dX9_readAttribute_268 rfl ?_
        refine tq_i2b dX9_readAttribute_270 ?_
        refine tq_bast dX9_readAttribute_271 (fun h5 => ?_)
        refine tq_iinc 5 (nI 1) (L' := [(4, vI (v4 + (nI 1))), (7, vI x3), (0, vR v0), (1, vI v1), (2, vI v2), (3, vI v3), (5, vI v5), (6, vI v6)]) dX9_readAttribute_272 rfl (by decide) (by decide) rfl ?_
        exact tq_sub [2, 3, 4, 5, 0, 6, 7] rfl (tX9_readAttribute_275 G ih v0 v1 v2 v3 (v4 + (nI 1)) v5 v6 h5)
noncomputable def fX9_readAttribute_230 (r176 : Option Nat → Int32 → Int32 → Int32 → Int32 → Int32 → Int32 → AH → Option (Int32 × AH)) (v0 : Option Nat) (v1 : Int32) (v2 : Int32) (v3 : Int32) (v4 : Int32) (v5 : Int32) (v6 : Int32) (h : AH) : Option (Int32 × AH) := r176 v0 v1 v2 v3 v4 v5 (v6 + (nI 1)) h
theorem tX9_readAttribute_230 (G : sr_G) {r176 : Option Nat → Int32 → Int32 → Int32 → Int32 → Int32 → Int32 → AH → Option (Int32 × AH)} (hr176 : ∀ (v0 : Option Nat) (v1 : Int32) (v2 : Int32) (v3 : Int32) (v4 : Int32) (v5 : Int32) (v6 : Int32) (h : AH), sr_T (X := Int32) G 1 RX9 cX9_readAttribute 8 (some .int) false (sr_M G jI) 176 [(0, vR v0), (1, vI v1), (2, vI v2), (3, vI v3), (4, vI v4), (5, vI v5), (6, vI v6)] [] h (r176 v0 v1 v2 v3 v4 v5 v6 h)) (v0 : Option Nat) (v1 : Int32) (v2 : Int32) (v3 : Int32) (v4 : Int32) (v5 : Int32) (v6 : Int32) (h : AH) : sr_T (X := Int32) G 1 RX9 cX9_readAttribute 8 (some .int) false (sr_M G jI) 230 [(0, vR v0), (1, vI v1), (2, vI v2), (3, vI v3), (4, vI v4), (5, vI v5), (6, vI v6)] [] h (fX9_readAttribute_230 r176 v0 v1 v2 v3 v4 v5 v6 h) := by
  unfold fX9_readAttribute_230
  refine tq_iinc 6 (nI 1) (L' := [(6, vI (v6 + (nI 1))), (0, vR v0), (1, vI v1), (2, vI v2), (3, vI v3), (4, vI v4), (5, vI v5)]) dX9_readAttribute_230 rfl (by decide) (by decide) rfl ?_
  refine tq_goto 176 dX9_readAttribute_233 (by decide) ?_
  exact tq_sub [1, 2, 3, 4, 5, 6, 0] rfl (hr176 v0 v1 v2 v3 v4 v5 (v6 + (nI 1)) h)
noncomputable def fX9_readAttribute_176  : Nat → Option Nat → Int32 → Int32 → Int32 → Int32 → Int32 → Int32 → AH → Option (Int32 × AH)
  | 0, _, _, _, _, _, _, _, _ => none
  | n + 1, v0, v1, v2, v3, v4, v5, v6, h => cGI h 9 482 v0 fun x1 => if x1 ≤ v6 then (fX9_readAttribute_236 FU v0 v1 v2 v3 v4 v5 v6 h) else (if v5 ≤ 0 then (cGR h 9 481 v0 fun x2 => cAL h 1 x2 v6 fun x3 => cCL (fX9_isBlank x3 h) fun x5 h4 => if x5 = 0 then (cGR h4 9 481 v0 fun x6 => cAL h4 1 x6 v6 fun x7 => if x7 = (nI 62) then (fX9_readAttribute_236 FU v0 v1 v2 v3 v4 v5 v6 h4) else (fX9_readAttribute_230 (fX9_readAttribute_176 n) v0 v1 v2 v3 v4 v5 v6 h4)) else (fX9_readAttribute_236 FU v0 v1 v2 v3 v4 v5 v6 h4)) else (cGR h 9 481 v0 fun x8 => cAL h 1 x8 v6 fun x9 => if x9 = v5 then (fX9_readAttribute_236 FU v0 v1 v2 v3 v4 v5 v6 h) else (fX9_readAttribute_230 (fX9_readAttribute_176 n) v0 v1 v2 v3 v4 v5 v6 h)))
theorem tX9_readAttribute_176 (G : sr_G) : ∀ (n : Nat) (v0 : Option Nat) (v1 : Int32) (v2 : Int32) (v3 : Int32) (v4 : Int32) (v5 : Int32) (v6 : Int32) (h : AH), sr_T (X := Int32) G 1 RX9 cX9_readAttribute 8 (some .int) false (sr_M G jI) 176 [(0, vR v0), (1, vI v1), (2, vI v2), (3, vI v3), (4, vI v4), (5, vI v5), (6, vI v6)] [] h (fX9_readAttribute_176  n v0 v1 v2 v3 v4 v5 v6 h) := by
  intro n
  induction n with
  | zero => intro v0 v1 v2 v3 v4 v5 v6 h; exact tq_none
  | succ n ih =>
    intro v0 v1 v2 v3 v4 v5 v6 h
    unfold fX9_readAttribute_176
    refine tq_iload 6 dX9_readAttribute_176 rfl ?_
    refine tq_aload_n 0 0 dX9_readAttribute_178 rfl rfl ?_
    refine tq_getI 32 dX9_readAttribute_179 cfX9 (by decide) wd_904 rfl rfl (fun x1 => ?_)
    refine tq_icmp_ge 236 dX9_readAttribute_182 (by decide) (fun _ => ?_) (fun _ => ?_)
    · exact tX9_readAttribute_236 G FU v0 v1 v2 v3 v4 v5 v6 h
    · refine tq_iload 5 dX9_readAttribute_185 rfl ?_
      refine tq_if_le 205 dX9_readAttribute_187 (by decide) (fun _ => ?_) (fun _ => ?_)
      · refine tq_aload_n 0 0 dX9_readAttribute_205 rfl rfl ?_
        refine tq_getR 31 dX9_readAttribute_206 cfX9 (by decide) wd_903 rfl rfl (fun x2 => ?_)
        refine tq_iload 6 dX9_readAttribute_209 rfl ?_
        refine tq_bald dX9_readAttribute_211 (fun x3 => ?_)
        refine tq_cSI [vI x3] [] dX9_readAttribute_212 (eX9_isBlank G x3 h) (by decide) mbX9_isBlank wd_1074 wd_1075 rfl rfl (Nat.le_of_ble_eq_true rfl) (fun x5 h4 => ?_)
        refine tq_if_ne 236 dX9_readAttribute_215 (by decide) (fun _ => ?_) (fun _ => ?_)
        · exact tX9_readAttribute_236 G FU v0 v1 v2 v3 v4 v5 v6 h4
        · refine tq_aload_n 0 0 dX9_readAttribute_218 rfl rfl ?_
          refine tq_getR 31 dX9_readAttribute_219 cfX9 (by decide) wd_903 rfl rfl (fun x6 => ?_)
          refine tq_iload 6 dX9_readAttribute_222 rfl ?_
          refine tq_bald dX9_readAttribute_224 (fun x7 => ?_)
          refine tq_bipush (nI 62) dX9_readAttribute_225 (by decide) ?_
          refine tq_icmp_eq 236 dX9_readAttribute_227 (by decide) (fun _ => ?_) (fun _ => ?_)
          · exact tX9_readAttribute_236 G FU v0 v1 v2 v3 v4 v5 v6 h4
          · exact tX9_readAttribute_230 G ih v0 v1 v2 v3 v4 v5 v6 h4
      · refine tq_aload_n 0 0 dX9_readAttribute_190 rfl rfl ?_
        refine tq_getR 31 dX9_readAttribute_191 cfX9 (by decide) wd_903 rfl rfl (fun x8 => ?_)
        refine tq_iload 6 dX9_readAttribute_194 rfl ?_
        refine tq_bald dX9_readAttribute_196 (fun x9 => ?_)
        refine tq_iload 5 dX9_readAttribute_197 rfl ?_
        refine tq_icmp_eq 236 dX9_readAttribute_199 (by decide) (fun _ => ?_) (fun _ => ?_)
        · exact tX9_readAttribute_236 G FU v0 v1 v2 v3 v4 v5 v6 h
        · refine tq_goto 230 dX9_readAttribute_202 (by decide) ?_
          exact tX9_readAttribute_230 G ih v0 v1 v2 v3 v4 v5 v6 h
noncomputable def fX9_readAttribute_172  (v0 : Option Nat) (v1 : Int32) (v2 : Int32) (v4 : Int32) (v5 : Int32) (s0 : Int32) (h : AH) : Option (Int32 × AH) := fX9_readAttribute_176 FU v0 v1 v2 s0 v4 v5 s0 h
theorem tX9_readAttribute_172 (G : sr_G) (v0 : Option Nat) (v1 : Int32) (v2 : Int32) (v4 : Int32) (v5 : Int32) (s0 : Int32) (h : AH) : sr_T (X := Int32) G 1 RX9 cX9_readAttribute 8 (some .int) false (sr_M G jI) 172 [(0, vR v0), (1, vI v1), (2, vI v2), (4, vI v4), (5, vI v5)] [vI s0] h (fX9_readAttribute_172  v0 v1 v2 v4 v5 s0 h) := by
  unfold fX9_readAttribute_172
  refine tq_istore_n 3 (L' := [(3, vI s0), (0, vR v0), (1, vI v1), (2, vI v2), (4, vI v4), (5, vI v5)]) dX9_readAttribute_172 rfl (by decide) rfl ?_
  refine tq_iload_n 3 0 dX9_readAttribute_173 rfl rfl ?_
  refine tq_istore (L' := [(6, vI s0), (3, vI s0), (0, vR v0), (1, vI v1), (2, vI v2), (4, vI v4), (5, vI v5)]) dX9_readAttribute_174 (by decide) rfl ?_
  exact tq_sub [2, 3, 4, 1, 5, 6, 0] rfl (tX9_readAttribute_176 G FU v0 v1 v2 s0 v4 v5 s0 h)
noncomputable def fX9_readAttribute_158  (v0 : Option Nat) (v1 : Int32) (v2 : Int32) (v3 : Int32) (v4 : Int32) (s0 : Int32) (h : AH) : Option (Int32 × AH) := if s0 ≤ 0 then (fX9_readAttribute_172 v0 v1 v2 v4 s0 v3 h) else (fX9_readAttribute_172 v0 v1 v2 v4 s0 (v3 + (nI 1)) h)
theorem tX9_readAttribute_158 (G : sr_G) (v0 : Option Nat) (v1 : Int32) (v2 : Int32) (v3 : Int32) (v4 : Int32) (s0 : Int32) (h : AH) : sr_T (X := Int32) G 1 RX9 cX9_readAttribute 8 (some .int) false (sr_M G jI) 158 [(0, vR v0), (1, vI v1), (2, vI v2), (3, vI v3), (4, vI v4)] [vI s0] h (fX9_readAttribute_158  v0 v1 v2 v3 v4 s0 h) := by
  unfold fX9_readAttribute_158
  refine tq_istore (L' := [(5, vI s0), (0, vR v0), (1, vI v1), (2, vI v2), (3, vI v3), (4, vI v4)]) dX9_readAttribute_158 (by decide) rfl ?_
  refine tq_iload 0 dX9_readAttribute_160 rfl ?_
  refine tq_if_le 171 dX9_readAttribute_162 (by decide) (fun _ => ?_) (fun _ => ?_)
  · refine tq_iload_n 3 4 dX9_readAttribute_171 rfl rfl ?_
    exact tq_sub [1, 2, 3, 5, 0] rfl (tX9_readAttribute_172 G v0 v1 v2 v4 s0 v3 h)
  · refine tq_iload_n 3 4 dX9_readAttribute_165 rfl rfl ?_
    refine tq_iconst (nI 1) dX9_readAttribute_166 (by decide) ?_
    refine tq_iadd dX9_readAttribute_167 ?_
    refine tq_goto 172 dX9_readAttribute_168 (by decide) ?_
    exact tq_sub [1, 2, 3, 5, 0] rfl (tX9_readAttribute_172 G v0 v1 v2 v4 s0 (v3 + (nI 1)) h)
noncomputable def fX9_readAttribute_157  (v0 : Option Nat) (v1 : Int32) (v2 : Int32) (v3 : Int32) (v4 : Int32) (h : AH) : Option (Int32 × AH) := fX9_readAttribute_158 v0 v1 v2 v3 v4 (nI 0) h
theorem tX9_readAttribute_157 (G : sr_G) (v0 : Option Nat) (v1 : Int32) (v2 : Int32) (v3 : Int32) (v4 : Int32) (h : AH) : sr_T (X := Int32) G 1 RX9 cX9_readAttribute 8 (some .int) false (sr_M G jI) 157 [(0, vR v0), (1, vI v1), (2, vI v2), (3, vI v3), (4, vI v4)] [] h (fX9_readAttribute_157  v0 v1 v2 v3 v4 h) := by
  unfold fX9_readAttribute_157
  refine tq_iconst (nI 0) dX9_readAttribute_157 (by decide) ?_
  exact tX9_readAttribute_158 G v0 v1 v2 v3 v4 (nI 0) h
noncomputable def fX9_readAttribute_148  (v0 : Option Nat) (v1 : Int32) (v2 : Int32) (v3 : Int32) (v4 : Int32) (h : AH) : Option (Int32 × AH) := cGR h 9 481 v0 fun x1 => cAL h 1 x1 v3 fun x2 => fX9_readAttribute_158 v0 v1 v2 v3 v4 x2 h
theorem tX9_readAttribute_148 (G : sr_G) (v0 : Option Nat) (v1 : Int32) (v2 : Int32) (v3 : Int32) (v4 : Int32) (h : AH) : sr_T (X := Int32) G 1 RX9 cX9_readAttribute 8 (some .int) false (sr_M G jI) 148 [(0, vR v0), (1, vI v1), (2, vI v2), (3, vI v3), (4, vI v4)] [] h (fX9_readAttribute_148  v0 v1 v2 v3 v4 h) := by
  unfold fX9_readAttribute_148
  refine tq_aload_n 0 0 dX9_readAttribute_148 rfl rfl ?_
  refine tq_getR 31 dX9_readAttribute_149 cfX9 (by decide) wd_903 rfl rfl (fun x1 => ?_)
  refine tq_iload_n 3 3 dX9_readAttribute_152 rfl rfl ?_
  refine tq_bald dX9_readAttribute_153 (fun x2 => ?_)
  refine tq_goto 158 dX9_readAttribute_154 (by decide) ?_
  exact tX9_readAttribute_158 G v0 v1 v2 v3 v4 x2 h
noncomputable def fX9_readAttribute_93  (v0 : Option Nat) (v1 : Int32) (v2 : Int32) (v3 : Int32) (h : AH) : Option (Int32 × AH) := cGI h 9 482 v0 fun x1 => if x1 ≤ v3 then (fX9_readAttribute_314 v0 v1 v2 v3 (nI 0) h) else (cGR h 9 481 v0 fun x2 => cAL h 1 x2 v3 fun x3 => if x3 = (nI 61) then (cGI h 9 482 v0 fun x4 => if x4 ≤ (v3 + (nI 1)) then (fX9_readAttribute_157 v0 v1 v2 (v3 + (nI 1)) (nI 0) h) else (cGR h 9 481 v0 fun x5 => cAL h 1 x5 (v3 + (nI 1)) fun x6 => if x6 = (nI 34) then (fX9_readAttribute_148 v0 v1 v2 (v3 + (nI 1)) (nI 0) h) else (cGR h 9 481 v0 fun x7 => cAL h 1 x7 (v3 + (nI 1)) fun x8 => if x8 = (nI 39) then (fX9_readAttribute_148 v0 v1 v2 (v3 + (nI 1)) (nI 0) h) else (fX9_readAttribute_157 v0 v1 v2 (v3 + (nI 1)) (nI 0) h)))) else (fX9_readAttribute_314 v0 v1 v2 v3 (nI 0) h))
theorem tX9_readAttribute_93 (G : sr_G) (v0 : Option Nat) (v1 : Int32) (v2 : Int32) (v3 : Int32) (h : AH) : sr_T (X := Int32) G 1 RX9 cX9_readAttribute 8 (some .int) false (sr_M G jI) 93 [(0, vR v0), (1, vI v1), (2, vI v2), (3, vI v3)] [] h (fX9_readAttribute_93  v0 v1 v2 v3 h) := by
  unfold fX9_readAttribute_93
  refine tq_iconst (nI 0) dX9_readAttribute_93 (by decide) ?_
  refine tq_istore (L' := [(4, vI (nI 0)), (0, vR v0), (1, vI v1), (2, vI v2), (3, vI v3)]) dX9_readAttribute_94 (by decide) rfl ?_
  refine tq_iload_n 3 4 dX9_readAttribute_96 rfl rfl ?_
  refine tq_aload_n 0 1 dX9_readAttribute_97 rfl rfl ?_
  refine tq_getI 32 dX9_readAttribute_98 cfX9 (by decide) wd_904 rfl rfl (fun x1 => ?_)
  refine tq_icmp_ge 314 dX9_readAttribute_101 (by decide) (fun _ => ?_) (fun _ => ?_)
  · exact tq_sub [1, 2, 3, 4, 0] rfl (tX9_readAttribute_314 G v0 v1 v2 v3 (nI 0) h)
  · refine tq_aload_n 0 1 dX9_readAttribute_104 rfl rfl ?_
    refine tq_getR 31 dX9_readAttribute_105 cfX9 (by decide) wd_903 rfl rfl (fun x2 => ?_)
    refine tq_iload_n 3 4 dX9_readAttribute_108 rfl rfl ?_
    refine tq_bald dX9_readAttribute_109 (fun x3 => ?_)
    refine tq_bipush (nI 61) dX9_readAttribute_110 (by decide) ?_
    refine tq_icmp_ne 314 dX9_readAttribute_112 (by decide) (fun _ => ?_) (fun _ => ?_)
    · exact tq_sub [1, 2, 3, 4, 0] rfl (tX9_readAttribute_314 G v0 v1 v2 v3 (nI 0) h)
    · refine tq_iinc 4 (nI 1) (L' := [(3, vI (v3 + (nI 1))), (4, vI (nI 0)), (0, vR v0), (1, vI v1), (2, vI v2)]) dX9_readAttribute_115 rfl (by decide) (by decide) rfl ?_
      refine tq_iload_n 3 0 dX9_readAttribute_118 rfl rfl ?_
      refine tq_aload_n 0 2 dX9_readAttribute_119 rfl rfl ?_
      refine tq_getI 32 dX9_readAttribute_120 cfX9 (by decide) wd_904 rfl rfl (fun x4 => ?_)
      refine tq_icmp_ge 157 dX9_readAttribute_123 (by decide) (fun _ => ?_) (fun _ => ?_)
      · exact tq_sub [2, 3, 4, 0, 1] rfl (tX9_readAttribute_157 G v0 v1 v2 (v3 + (nI 1)) (nI 0) h)
      · refine tq_aload_n 0 2 dX9_readAttribute_126 rfl rfl ?_
        refine tq_getR 31 dX9_readAttribute_127 cfX9 (by decide) wd_903 rfl rfl (fun x5 => ?_)
        refine tq_iload_n 3 0 dX9_readAttribute_130 rfl rfl ?_
        refine tq_bald dX9_readAttribute_131 (fun x6 => ?_)
        refine tq_bipush (nI 34) dX9_readAttribute_132 (by decide) ?_
        refine tq_icmp_eq 148 dX9_readAttribute_134 (by decide) (fun _ => ?_) (fun _ => ?_)
        · exact tq_sub [2, 3, 4, 0, 1] rfl (tX9_readAttribute_148 G v0 v1 v2 (v3 + (nI 1)) (nI 0) h)
        · refine tq_aload_n 0 2 dX9_readAttribute_137 rfl rfl ?_
          refine tq_getR 31 dX9_readAttribute_138 cfX9 (by decide) wd_903 rfl rfl (fun x7 => ?_)
          refine tq_iload_n 3 0 dX9_readAttribute_141 rfl rfl ?_
          refine tq_bald dX9_readAttribute_142 (fun x8 => ?_)
          refine tq_bipush (nI 39) dX9_readAttribute_143 (by decide) ?_
          refine tq_icmp_ne 157 dX9_readAttribute_145 (by decide) (fun _ => ?_) (fun _ => ?_)
          · exact tq_sub [2, 3, 4, 0, 1] rfl (tX9_readAttribute_157 G v0 v1 v2 (v3 + (nI 1)) (nI 0) h)
          · exact tq_sub [2, 3, 4, 0, 1] rfl (tX9_readAttribute_148 G v0 v1 v2 (v3 + (nI 1)) (nI 0) h)
noncomputable def fX9_readAttribute_87 (r4 : Option Nat → Int32 → Int32 → Int32 → AH → Option (Int32 × AH)) (v0 : Option Nat) (v1 : Int32) (v2 : Int32) (v3 : Int32) (h : AH) : Option (Int32 × AH) := r4 v0 v1 v2 (v3 + (nI 1)) h
theorem tX9_readAttribute_87 (G : sr_G) {r4 : Option Nat → Int32 → Int32 → Int32 → AH → Option (Int32 × AH)} (hr4 : ∀ (v0 : Option Nat) (v1 : Int32) (v2 : Int32) (v3 : Int32) (h : AH), sr_T (X := Int32) G 1 RX9 cX9_readAttribute 8 (some .int) false (sr_M G jI) 4 [(0, vR v0), (1, vI v1), (2, vI v2), (3, vI v3)] [] h (r4 v0 v1 v2 v3 h)) (v0 : Option Nat) (v1 : Int32) (v2 : Int32) (v3 : Int32) (h : AH) : sr_T (X := Int32) G 1 RX9 cX9_readAttribute 8 (some .int) false (sr_M G jI) 87 [(0, vR v0), (1, vI v1), (2, vI v2), (3, vI v3)] [] h (fX9_readAttribute_87 r4 v0 v1 v2 v3 h) := by
  unfold fX9_readAttribute_87
  refine tq_iinc 3 (nI 1) (L' := [(3, vI (v3 + (nI 1))), (0, vR v0), (1, vI v1), (2, vI v2)]) dX9_readAttribute_87 rfl (by decide) (by decide) rfl ?_
  refine tq_goto 4 dX9_readAttribute_90 (by decide) ?_
  exact tq_sub [1, 2, 3, 0] rfl (hr4 v0 v1 v2 (v3 + (nI 1)) h)
noncomputable def fX9_readAttribute_62 (r4 : Option Nat → Int32 → Int32 → Int32 → AH → Option (Int32 × AH)) (v0 : Option Nat) (v1 : Int32) (v2 : Int32) (v3 : Int32) (h : AH) : Option (Int32 × AH) := if (nI 8) ≤ v2 then (fX9_readAttribute_87 r4 v0 v1 v2 v3 h) else (cGR h 9 493 v0 fun x1 => cGR h 9 481 v0 fun x2 => cAL h 1 x2 v3 fun x3 => cCL (fX9_small x3 h) fun x5 h4 => cAS h4 1 x1 v2 (Int8.toInt32 (Int32.toInt8 x5)) fun h6 => fX9_readAttribute_87 r4 v0 v1 (v2 + (nI 1)) v3 h6)
theorem tX9_readAttribute_62 (G : sr_G) {r4 : Option Nat → Int32 → Int32 → Int32 → AH → Option (Int32 × AH)} (hr4 : ∀ (v0 : Option Nat) (v1 : Int32) (v2 : Int32) (v3 : Int32) (h : AH), sr_T (X := Int32) G 1 RX9 cX9_readAttribute 8 (some .int) false (sr_M G jI) 4 [(0, vR v0), (1, vI v1), (2, vI v2), (3, vI v3)] [] h (r4 v0 v1 v2 v3 h)) (v0 : Option Nat) (v1 : Int32) (v2 : Int32) (v3 : Int32) (h : AH) : sr_T (X := Int32) G 1 RX9 cX9_readAttribute 8 (some .int) false (sr_M G jI) 62 [(0, vR v0), (1, vI v1), (2, vI v2), (3, vI v3)] [] h (fX9_readAttribute_62 r4 v0 v1 v2 v3 h) := by
  unfold fX9_readAttribute_62
  refine tq_iload_n 2 2 dX9_readAttribute_62 rfl rfl ?_
  refine tq_bipush (nI 8) dX9_readAttribute_63 (by decide) ?_
  refine tq_icmp_ge 87 dX9_readAttribute_65 (by decide) (fun _ => ?_) (fun _ => ?_)
  · exact tX9_readAttribute_87 G hr4 v0 v1 v2 v3 h
  · refine tq_aload_n 0 0 dX9_readAttribute_68 rfl rfl ?_
    refine tq_getR 43 dX9_readAttribute_69 cfX9 (by decide) wd_915 rfl rfl (fun x1 => ?_)
    refine tq_iload_n 2 2 dX9_readAttribute_72 rfl rfl ?_
    refine tq_aload_n 0 0 dX9_readAttribute_73 rfl rfl ?_
    refine tq_getR 31 dX9_readAttribute_74 cfX9 (by decide) wd_903 rfl rfl (fun x2 => ?_)
    refine tq_iload_n 3 3 dX9_readAttribute_77 rfl rfl ?_
    refine tq_bald dX9_readAttribute_78 (fun x3 => ?_)
    refine tq_cSI [vI x3] [vI v2, vR x1] dX9_readAttribute_79 (eX9_small G x3 h) (by decide) mbX9_small wd_1110 wd_1111 rfl rfl (Nat.le_of_ble_eq_true rfl) (fun x5 h4 => ?_)
    refine tq_i2b dX9_readAttribute_82 ?_
    refine tq_bast dX9_readAttribute_83 (fun h6 => ?_)
    refine tq_iinc 2 (nI 1) (L' := [(2, vI (v2 + (nI 1))), (0, vR v0), (1, vI v1), (3, vI v3)]) dX9_readAttribute_84 rfl (by decide) (by decide) rfl ?_
    exact tq_sub [1, 2, 0, 3] rfl (tX9_readAttribute_87 G hr4 v0 v1 (v2 + (nI 1)) v3 h6)
noncomputable def fX9_readAttribute_4  : Nat → Option Nat → Int32 → Int32 → Int32 → AH → Option (Int32 × AH)
  | 0, _, _, _, _, _ => none
  | n + 1, v0, v1, v2, v3, h => cGI h 9 482 v0 fun x1 => if x1 ≤ v3 then (fX9_readAttribute_93 v0 v1 v2 v3 h) else (if v3 = v1 then (fX9_readAttribute_62 (fX9_readAttribute_4 n) v0 v1 v2 v3 h) else (cGR h 9 481 v0 fun x2 => cAL h 1 x2 v3 fun x3 => if x3 = (nI 61) then (fX9_readAttribute_93 v0 v1 v2 v3 h) else (cGR h 9 481 v0 fun x4 => cAL h 1 x4 v3 fun x5 => cCL (fX9_isBlank x5 h) fun x7 h6 => if x7 = 0 then (cGR h6 9 481 v0 fun x8 => cAL h6 1 x8 v3 fun x9 => if x9 = (nI 47) then (fX9_readAttribute_93 v0 v1 v2 v3 h6) else (cGR h6 9 481 v0 fun x10 => cAL h6 1 x10 v3 fun x11 => if x11 = (nI 62) then (fX9_readAttribute_93 v0 v1 v2 v3 h6) else (fX9_readAttribute_62 (fX9_readAttribute_4 n) v0 v1 v2 v3 h6))) else (fX9_readAttribute_93 v0 v1 v2 v3 h6))))
theorem tX9_readAttribute_4 (G : sr_G) : ∀ (n : Nat) (v0 : Option Nat) (v1 : Int32) (v2 : Int32) (v3 : Int32) (h : AH), sr_T (X := Int32) G 1 RX9 cX9_readAttribute 8 (some .int) false (sr_M G jI) 4 [(0, vR v0), (1, vI v1), (2, vI v2), (3, vI v3)] [] h (fX9_readAttribute_4  n v0 v1 v2 v3 h) := by
  intro n
  induction n with
  | zero => intro v0 v1 v2 v3 h; exact tq_none
  | succ n ih =>
    intro v0 v1 v2 v3 h
    unfold fX9_readAttribute_4
    refine tq_iload_n 3 3 dX9_readAttribute_4 rfl rfl ?_
    refine tq_aload_n 0 0 dX9_readAttribute_5 rfl rfl ?_
    refine tq_getI 32 dX9_readAttribute_6 cfX9 (by decide) wd_904 rfl rfl (fun x1 => ?_)
    refine tq_icmp_ge 93 dX9_readAttribute_9 (by decide) (fun _ => ?_) (fun _ => ?_)
    · exact tX9_readAttribute_93 G v0 v1 v2 v3 h
    · refine tq_iload_n 3 3 dX9_readAttribute_12 rfl rfl ?_
      refine tq_iload_n 1 1 dX9_readAttribute_13 rfl rfl ?_
      refine tq_icmp_eq 62 dX9_readAttribute_14 (by decide) (fun _ => ?_) (fun _ => ?_)
      · exact tX9_readAttribute_62 G ih v0 v1 v2 v3 h
      · refine tq_aload_n 0 0 dX9_readAttribute_17 rfl rfl ?_
        refine tq_getR 31 dX9_readAttribute_18 cfX9 (by decide) wd_903 rfl rfl (fun x2 => ?_)
        refine tq_iload_n 3 3 dX9_readAttribute_21 rfl rfl ?_
        refine tq_bald dX9_readAttribute_22 (fun x3 => ?_)
        refine tq_bipush (nI 61) dX9_readAttribute_23 (by decide) ?_
        refine tq_icmp_eq 93 dX9_readAttribute_25 (by decide) (fun _ => ?_) (fun _ => ?_)
        · exact tX9_readAttribute_93 G v0 v1 v2 v3 h
        · refine tq_aload_n 0 0 dX9_readAttribute_28 rfl rfl ?_
          refine tq_getR 31 dX9_readAttribute_29 cfX9 (by decide) wd_903 rfl rfl (fun x4 => ?_)
          refine tq_iload_n 3 3 dX9_readAttribute_32 rfl rfl ?_
          refine tq_bald dX9_readAttribute_33 (fun x5 => ?_)
          refine tq_cSI [vI x5] [] dX9_readAttribute_34 (eX9_isBlank G x5 h) (by decide) mbX9_isBlank wd_1074 wd_1075 rfl rfl (Nat.le_of_ble_eq_true rfl) (fun x7 h6 => ?_)
          refine tq_if_ne 93 dX9_readAttribute_37 (by decide) (fun _ => ?_) (fun _ => ?_)
          · exact tX9_readAttribute_93 G v0 v1 v2 v3 h6
          · refine tq_aload_n 0 0 dX9_readAttribute_40 rfl rfl ?_
            refine tq_getR 31 dX9_readAttribute_41 cfX9 (by decide) wd_903 rfl rfl (fun x8 => ?_)
            refine tq_iload_n 3 3 dX9_readAttribute_44 rfl rfl ?_
            refine tq_bald dX9_readAttribute_45 (fun x9 => ?_)
            refine tq_bipush (nI 47) dX9_readAttribute_46 (by decide) ?_
            refine tq_icmp_eq 93 dX9_readAttribute_48 (by decide) (fun _ => ?_) (fun _ => ?_)
            · exact tX9_readAttribute_93 G v0 v1 v2 v3 h6
            · refine tq_aload_n 0 0 dX9_readAttribute_51 rfl rfl ?_
              refine tq_getR 31 dX9_readAttribute_52 cfX9 (by decide) wd_903 rfl rfl (fun x10 => ?_)
              refine tq_iload_n 3 3 dX9_readAttribute_55 rfl rfl ?_
              refine tq_bald dX9_readAttribute_56 (fun x11 => ?_)
              refine tq_bipush (nI 62) dX9_readAttribute_57 (by decide) ?_
              refine tq_icmp_eq 93 dX9_readAttribute_59 (by decide) (fun _ => ?_) (fun _ => ?_)
              · exact tX9_readAttribute_93 G v0 v1 v2 v3 h6
              · exact tX9_readAttribute_62 G ih v0 v1 v2 v3 h6
noncomputable def fX9_readAttribute_0  (v0 : Option Nat) (v1 : Int32) (h : AH) : Option (Int32 × AH) := fX9_readAttribute_4 FU v0 v1 (nI 0) v1 h
theorem tX9_readAttribute_0 (G : sr_G) (v0 : Option Nat) (v1 : Int32) (h : AH) : sr_T (X := Int32) G 1 RX9 cX9_readAttribute 8 (some .int) false (sr_M G jI) 0 [(0, vR v0), (1, vI v1)] [] h (fX9_readAttribute_0  v0 v1 h) := by
  unfold fX9_readAttribute_0
  refine tq_iconst (nI 0) dX9_readAttribute_0 (by decide) ?_
  refine tq_istore_n 2 (L' := [(2, vI (nI 0)), (0, vR v0), (1, vI v1)]) dX9_readAttribute_1 rfl (by decide) rfl ?_
  refine tq_iload_n 1 2 dX9_readAttribute_2 rfl rfl ?_
  refine tq_istore_n 3 (L' := [(3, vI v1), (2, vI (nI 0)), (0, vR v0), (1, vI v1)]) dX9_readAttribute_3 rfl (by decide) rfl ?_
  exact tq_sub [2, 3, 1, 0] rfl (tX9_readAttribute_4 G FU v0 v1 (nI 0) v1 h)
noncomputable def fX9_readAttribute (v0 : Option Nat) (v1 : Int32) (h : AH) : Option (Int32 × AH) := fX9_readAttribute_0 v0 v1 h
theorem eX9_readAttribute (G : sr_G) (v0 : Option Nat) (v1 : Int32) (h : AH) : sr_E G 1 yX9_readAttribute cX9_readAttribute 8 (some .int) jI [vR v0, vI v1] h (fX9_readAttribute v0 v1 h) := sr_E.of (own := RX9) (ini := false) (by decide) rfl (fun q => by first | rfl | cases q) rfl (Nat.le_of_ble_eq_true rfl) (tX9_readAttribute_0 G v0 v1 h)

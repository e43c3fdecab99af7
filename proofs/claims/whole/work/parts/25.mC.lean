noncomputable def fX8_faults_0  (v0 : Option Nat) (h : AH) : Option (Int32 × AH) := cGR h 8 402 v0 fun x1 => cGI h 2 102 x1 fun x2 => some (x2, h)
theorem tX8_faults_0 (G : sr_G) (v0 : Option Nat) (h : AH) : sr_T (X := Int32) G 0 RX8 cX8_faults 1 (some .int) false (sr_M G jI) 0 [(0, vR v0)] [] h (fX8_faults_0  v0 h) := by
  unfold fX8_faults_0
  refine tq_aload_n 0 0 dX8_faults_0 rfl rfl ?_
  refine tq_getR 2 dX8_faults_1 cfX8 (by decide) wd_290 rfl rfl (fun x1 => ?_)
  refine tq_getI 2 dX8_faults_4 cfX2 (by decide) wd_133 rfl rfl (fun x2 => ?_)
  exact tq_iret rfl dX8_faults_7
noncomputable def fX8_faults (v0 : Option Nat) (h : AH) : Option (Int32 × AH) := fX8_faults_0 v0 h
theorem eX8_faults (G : sr_G) (v0 : Option Nat) (h : AH) : sr_E G 0 yX8_faults cX8_faults 1 (some .int) jI [vR v0] h (fX8_faults v0 h) := sr_E.of (own := RX8) (ini := false) (by decide) rfl (fun q => by first | rfl | cases q) rfl (Nat.le_of_ble_eq_true rfl) (tX8_faults_0 G v0 h)
noncomputable def fX8_addElement_37   (h : AH) : Option (Int32 × AH) := some ((-1), h)
theorem tX8_addElement_37 (G : sr_G)  (h : AH) : sr_T (X := Int32) G 6 RX8 cX8_addElement 7 (some .int) false (sr_M G jI) 37 [] [] h (fX8_addElement_37  h) := by
  unfold fX8_addElement_37
  refine tq_iconst (-1) dX8_addElement_37 (by decide) ?_
  exact tq_iret rfl dX8_addElement_38
noncomputable def fX8_addElement_86  (s0 : Int32) (h : AH) : Option (Int32 × AH) := some (s0, h)
theorem tX8_addElement_86 (G : sr_G) (s0 : Int32) (h : AH) : sr_T (X := Int32) G 6 RX8 cX8_addElement 7 (some .int) false (sr_M G jI) 86 [] [vI s0] h (fX8_addElement_86  s0 h) := by
  unfold fX8_addElement_86
  exact tq_iret rfl dX8_addElement_86
noncomputable def fX8_addElement_0  (v0 : Option Nat) (v1 : Int32) (h : AH) : Option (Int32 × AH) := cGR h 8 400 v0 fun x1 => cCV h 6 x1 (fX6_wrongAsName x1 h) fun x3 h2 => if x3 = 0 then (cGR h2 8 403 v0 fun x4 => cCV h2 7 x4 (fX7_elementAt x4 v1 h2) fun x6 h5 => if x6 = none then (fX8_addElement_37 h5) else (cGI h5 3 153 x6 fun x7 => cCL (fX8_isEmptyTag x7 h5) fun x9 h8 => if x9 = 0 then (cGR h8 8 400 v0 fun x10 => cGR h8 8 400 v0 fun x11 => cGI h8 6 301 x11 fun x12 => cCV h8 6 x10 (fX6_packed x10 x12 h8) fun x14 h13 => cGR h13 8 403 v0 fun x15 => cCL (fX8_tagOf x14 h13) fun x17 h16 => cCV h16 7 x15 (fX7_grow x15 x6 x17 x14 h16) fun x19 h18 => if x19 = none then (fX8_addElement_86 (-1) h18) else (cGI h18 3 150 x19 fun x20 => fX8_addElement_86 x20 h18)) else (fX8_addElement_37 h8))) else (some (x3, h2))
theorem tX8_addElement_0 (G : sr_G) (v0 : Option Nat) (v1 : Int32) (h : AH) : sr_T (X := Int32) G 6 RX8 cX8_addElement 7 (some .int) false (sr_M G jI) 0 [(0, vR v0), (1, vI v1)] [] h (fX8_addElement_0  v0 v1 h) := by
  unfold fX8_addElement_0
  refine tq_aload_n 0 0 dX8_addElement_0 rfl rfl ?_
  refine tq_getR 0 dX8_addElement_1 cfX8 (by decide) wd_288 rfl rfl (fun x1 => ?_)
  refine tq_cVI [] [] dX8_addElement_4 (eX6_wrongAsName G x1 h) (by decide) mbX6_wrongAsName cfX6 rfl wd_669 wd_670 wd_671 rfl rfl (Nat.le_of_ble_eq_true rfl) (fun x3 h2 => ?_)
  refine tq_istore_n 2 (L' := [(2, vI x3), (0, vR v0), (1, vI v1)]) dX8_addElement_7 rfl (by decide) rfl ?_
  refine tq_iload_n 2 0 dX8_addElement_8 rfl rfl ?_
  refine tq_if_eq 14 dX8_addElement_9 (by decide) (fun _ => ?_) (fun _ => ?_)
  · refine tq_aload_n 0 1 dX8_addElement_14 rfl rfl ?_
    refine tq_getR 3 dX8_addElement_15 cfX8 (by decide) wd_291 rfl rfl (fun x4 => ?_)
    refine tq_iload_n 1 2 dX8_addElement_18 rfl rfl ?_
    refine tq_cVR [vI v1] [] dX8_addElement_19 (eX7_elementAt G x4 v1 h2) (by decide) mbX7_elementAt cfX7 rfl wd_683 wd_684 wd_685 rfl rfl (Nat.le_of_ble_eq_true rfl) (fun x6 h5 => ?_)
    refine tq_astore_n 3 (L' := [(3, vR x6), (2, vI x3), (0, vR v0), (1, vI v1)]) dX8_addElement_22 rfl (by decide) rfl ?_
    refine tq_aload_n 3 0 dX8_addElement_23 rfl rfl ?_
    refine tq_ifnull 37 dX8_addElement_24 (by decide) (fun _ => ?_) (fun _ => ?_)
    · exact tq_sub [] rfl (tX8_addElement_37 G h5)
    · refine tq_aload_n 3 0 dX8_addElement_27 rfl rfl ?_
      refine tq_getI 3 dX8_addElement_28 cfX3 (by decide) wd_182 rfl rfl (fun x7 => ?_)
      refine tq_cSI [vI x7] [] dX8_addElement_31 (eX8_isEmptyTag G x7 h5) (by decide) mbX8_isEmptyTag wd_726 wd_582 rfl rfl (Nat.le_of_ble_eq_true rfl) (fun x9 h8 => ?_)
      refine tq_if_eq 39 dX8_addElement_34 (by decide) (fun _ => ?_) (fun _ => ?_)
      · refine tq_aload_n 0 2 dX8_addElement_39 rfl rfl ?_
        refine tq_getR 0 dX8_addElement_40 cfX8 (by decide) wd_288 rfl rfl (fun x10 => ?_)
        refine tq_aload_n 0 2 dX8_addElement_43 rfl rfl ?_
        refine tq_getR 0 dX8_addElement_44 cfX8 (by decide) wd_288 rfl rfl (fun x11 => ?_)
        refine tq_getI 1 dX8_addElement_47 cfX6 (by decide) wd_100 rfl rfl (fun x12 => ?_)
        refine tq_cVL [vI x12] [] dX8_addElement_50 (eX6_packed G x10 x12 h8) (by decide) mbX6_packed cfX6 rfl wd_688 wd_689 wd_690 rfl rfl (Nat.le_of_ble_eq_true rfl) (fun x14 h13 => ?_)
        refine tq_lstore (L' := [(4, vL x14), (3, vR x6), (2, vI x3), (0, vR v0), (1, vI v1)]) dX8_addElement_53 (by decide) rfl ?_
        refine tq_aload_n 0 3 dX8_addElement_55 rfl rfl ?_
        refine tq_getR 3 dX8_addElement_56 cfX8 (by decide) wd_291 rfl rfl (fun x15 => ?_)
        refine tq_aload_n 3 1 dX8_addElement_59 rfl rfl ?_
        refine tq_lload 0 dX8_addElement_60 rfl ?_
        refine tq_cSI [vL x14] [vR x6, vR x15] dX8_addElement_62 (eX8_tagOf G x14 h13) (by decide) mbX8_tagOf wd_751 wd_575 rfl rfl (Nat.le_of_ble_eq_true rfl) (fun x17 h16 => ?_)
        refine tq_lload 0 dX8_addElement_65 rfl ?_
        refine tq_cVR [vR x6, vI x17, vL x14] [] dX8_addElement_67 (eX7_grow G x15 x6 x17 x14 h16) (by decide) mbX7_grow cfX7 rfl wd_752 wd_449 wd_450 rfl rfl (Nat.le_of_ble_eq_true rfl) (fun x19 h18 => ?_)
        refine tq_astore (L' := [(6, vR x19), (4, vL x14), (3, vR x6), (2, vI x3), (0, vR v0), (1, vI v1)]) dX8_addElement_70 (by decide) rfl ?_
        refine tq_aload 0 dX8_addElement_72 rfl ?_
        refine tq_ifnonnull 81 dX8_addElement_74 (by decide) (fun _ => ?_) (fun _ => ?_)
        · refine tq_aload 0 dX8_addElement_81 rfl ?_
          refine tq_getI 0 dX8_addElement_83 cfX3 (by decide) wd_174 rfl rfl (fun x20 => ?_)
          exact tq_sub [] rfl (tX8_addElement_86 G x20 h18)
        · refine tq_iconst (-1) dX8_addElement_77 (by decide) ?_
          refine tq_goto 86 dX8_addElement_78 (by decide) ?_
          exact tq_sub [] rfl (tX8_addElement_86 G (-1) h18)
      · exact tq_sub [] rfl (tX8_addElement_37 G h8)
  · refine tq_iload_n 2 0 dX8_addElement_12 rfl rfl ?_
    exact tq_iret rfl dX8_addElement_13
noncomputable def fX8_addElement (v0 : Option Nat) (v1 : Int32) (h : AH) : Option (Int32 × AH) := fX8_addElement_0 v0 v1 h
theorem eX8_addElement (G : sr_G) (v0 : Option Nat) (v1 : Int32) (h : AH) : sr_E G 6 yX8_addElement cX8_addElement 7 (some .int) jI [vR v0, vI v1] h (fX8_addElement v0 v1 h) := sr_E.of (own := RX8) (ini := false) (by decide) rfl (fun q => by first | rfl | cases q) rfl (Nat.le_of_ble_eq_true rfl) (tX8_addElement_0 G v0 v1 h)
noncomputable def fX8_add_0  (v0 : Option Nat) (v1 : Int32) (h : AH) : Option (Int32 × AH) := cCV h 8 v0 (fX8_addElement v0 v1 h) fun x2 h1 => cGR h1 8 400 v0 fun x3 => cPI h1 6 301 x3 (nI 0) fun h4 => some (x2, h4)
theorem tX8_add_0 (G : sr_G) (v0 : Option Nat) (v1 : Int32) (h : AH) : sr_T (X := Int32) G 7 RX8 cX8_add 3 (some .int) false (sr_M G jI) 0 [(0, vR v0), (1, vI v1)] [] h (fX8_add_0  v0 v1 h) := by
  unfold fX8_add_0
  refine tq_aload_n 0 0 dX8_add_0 rfl rfl ?_
  refine tq_iload_n 1 1 dX8_add_1 rfl rfl ?_
  refine tq_cVI [vI v1] [] dX8_add_2 (eX8_addElement G v0 v1 h) (by decide) mbX8_addElement cfX8 rfl wd_747 wd_749 wd_32 rfl rfl (Nat.le_of_ble_eq_true rfl) (fun x2 h1 => ?_)
  refine tq_istore_n 2 (L' := [(2, vI x2), (0, vR v0), (1, vI v1)]) dX8_add_5 rfl (by decide) rfl ?_
  refine tq_aload_n 0 1 dX8_add_6 rfl rfl ?_
  refine tq_getR 0 dX8_add_7 cfX8 (by decide) wd_288 rfl rfl (fun x3 => ?_)
  refine tq_iconst (nI 0) dX8_add_10 (by decide) ?_
  refine tq_putI 1 dX8_add_11 cfX6 (by decide) wd_100 rfl rfl (Or.inl rfl) (fun h4 => ?_)
  refine tq_iload_n 2 0 dX8_add_14 rfl rfl ?_
  exact tq_iret rfl dX8_add_15
noncomputable def fX8_add (v0 : Option Nat) (v1 : Int32) (h : AH) : Option (Int32 × AH) := fX8_add_0 v0 v1 h
theorem eX8_add (G : sr_G) (v0 : Option Nat) (v1 : Int32) (h : AH) : sr_E G 7 yX8_add cX8_add 3 (some .int) jI [vR v0, vI v1] h (fX8_add v0 v1 h) := sr_E.of (own := RX8) (ini := false) (by decide) rfl (fun q => by first | rfl | cases q) rfl (Nat.le_of_ble_eq_true rfl) (tX8_add_0 G v0 v1 h)
noncomputable def fX8_replaceByText_51   (h : AH) : Option (Int32 × AH) := some ((-1), h)
theorem tX8_replaceByText_51 (G : sr_G)  (h : AH) : sr_T (X := Int32) G 27 RX8 cX8_replaceByText 5 (some .int) false (sr_M G jI) 51 [] [] h (fX8_replaceByText_51  h) := by
  unfold fX8_replaceByText_51
  refine tq_iconst (-1) dX8_replaceByText_51 (by decide) ?_
  exact tq_iret rfl dX8_replaceByText_52
noncomputable def fX8_replaceByText_139  (v0 : Option Nat) (h : AH) : Option (Int32 × AH) := cGR h 8 403 v0 fun x1 => cGI h 7 352 x1 fun x2 => some (x2, h)
theorem tX8_replaceByText_139 (G : sr_G) (v0 : Option Nat) (h : AH) : sr_T (X := Int32) G 27 RX8 cX8_replaceByText 5 (some .int) false (sr_M G jI) 139 [(0, vR v0)] [] h (fX8_replaceByText_139  v0 h) := by
  unfold fX8_replaceByText_139
  refine tq_aload_n 0 0 dX8_replaceByText_139 rfl rfl ?_
  refine tq_getR 3 dX8_replaceByText_140 cfX8 (by decide) wd_291 rfl rfl (fun x1 => ?_)
  refine tq_getI 2 dX8_replaceByText_143 cfX7 (by decide) wd_246 rfl rfl (fun x2 => ?_)
  exact tq_iret rfl dX8_replaceByText_146
noncomputable def fX8_replaceByText_84  (v0 : Option Nat) (v3 : Option Nat) (h : AH) : Option (Int32 × AH) := cGR h 8 403 v0 fun x1 => cCV h 7 x1 (fX7_dropAllIn x1 v3 h) fun _ h2 => cGR h2 8 400 v0 fun x3 => cGI h2 6 301 x3 fun x4 => if x4 ≤ 0 then (fX8_replaceByText_139 v0 h2) else (cGR h2 8 403 v0 fun x5 => cCV h2 7 x5 (fX7_grow x5 v3 (nI 17) 0 h2) fun x7 h6 => if x7 = none then (fX8_replaceByText_139 v0 h6) else (cGR h6 8 400 v0 fun x8 => cGR h6 6 300 x8 fun x9 => cGR h6 8 400 v0 fun x10 => cGI h6 6 301 x10 fun x11 => cCV h6 3 x7 (fX3_takeBytes x7 x9 x11 h6) fun _ h12 => fX8_replaceByText_139 v0 h12))
theorem tX8_replaceByText_84 (G : sr_G) (v0 : Option Nat) (v3 : Option Nat) (h : AH) : sr_T (X := Int32) G 27 RX8 cX8_replaceByText 5 (some .int) false (sr_M G jI) 84 [(0, vR v0), (3, vR v3)] [] h (fX8_replaceByText_84  v0 v3 h) := by
  unfold fX8_replaceByText_84
  refine tq_aload_n 0 0 dX8_replaceByText_84 rfl rfl ?_
  refine tq_getR 3 dX8_replaceByText_85 cfX8 (by decide) wd_291 rfl rfl (fun x1 => ?_)
  refine tq_aload_n 3 1 dX8_replaceByText_88 rfl rfl ?_
  refine tq_cVV [vR v3] [] dX8_replaceByText_89 (eX7_dropAllIn G x1 v3 h) (by decide) mbX7_dropAllIn cfX7 rfl wd_761 wd_762 wd_763 rfl rfl (Nat.le_of_ble_eq_true rfl) (fun _ h2 => ?_)
  refine tq_aload_n 0 0 dX8_replaceByText_92 rfl rfl ?_
  refine tq_getR 0 dX8_replaceByText_93 cfX8 (by decide) wd_288 rfl rfl (fun x3 => ?_)
  refine tq_getI 1 dX8_replaceByText_96 cfX6 (by decide) wd_100 rfl rfl (fun x4 => ?_)
  refine tq_if_le 139 dX8_replaceByText_99 (by decide) (fun _ => ?_) (fun _ => ?_)
  · exact tq_sub [0] rfl (tX8_replaceByText_139 G v0 h2)
  · refine tq_aload_n 0 0 dX8_replaceByText_102 rfl rfl ?_
    refine tq_getR 3 dX8_replaceByText_103 cfX8 (by decide) wd_291 rfl rfl (fun x5 => ?_)
    refine tq_aload_n 3 1 dX8_replaceByText_106 rfl rfl ?_
    refine tq_bipush (nI 17) dX8_replaceByText_107 (by decide) ?_
    refine tq_lconst 0 dX8_replaceByText_109 (by decide) ?_
    refine tq_cVR [vR v3, vI (nI 17), vL 0] [] dX8_replaceByText_110 (eX7_grow G x5 v3 (nI 17) 0 h2) (by decide) mbX7_grow cfX7 rfl wd_752 wd_449 wd_450 rfl rfl (Nat.le_of_ble_eq_true rfl) (fun x7 h6 => ?_)
    refine tq_astore (L' := [(4, vR x7), (0, vR v0), (3, vR v3)]) dX8_replaceByText_113 (by decide) rfl ?_
    refine tq_aload 0 dX8_replaceByText_115 rfl ?_
    refine tq_ifnull 139 dX8_replaceByText_117 (by decide) (fun _ => ?_) (fun _ => ?_)
    · exact tq_sub [1] rfl (tX8_replaceByText_139 G v0 h6)
    · refine tq_aload 0 dX8_replaceByText_120 rfl ?_
      refine tq_aload_n 0 1 dX8_replaceByText_122 rfl rfl ?_
      refine tq_getR 0 dX8_replaceByText_123 cfX8 (by decide) wd_288 rfl rfl (fun x8 => ?_)
      refine tq_getR 0 dX8_replaceByText_126 cfX6 (by decide) wd_99 rfl rfl (fun x9 => ?_)
      refine tq_aload_n 0 1 dX8_replaceByText_129 rfl rfl ?_
      refine tq_getR 0 dX8_replaceByText_130 cfX8 (by decide) wd_288 rfl rfl (fun x10 => ?_)
      refine tq_getI 1 dX8_replaceByText_133 cfX6 (by decide) wd_100 rfl rfl (fun x11 => ?_)
      refine tq_cVV [vR x9, vI x11] [] dX8_replaceByText_136 (eX3_takeBytes G x7 x9 x11 h6) (by decide) mbX3_takeBytes cfX3 rfl wd_769 wd_770 wd_771 rfl rfl (Nat.le_of_ble_eq_true rfl) (fun _ h12 => ?_)
      exact tq_sub [1] rfl (tX8_replaceByText_139 G v0 h12)
noncomputable def fX8_replaceByText_0  (v0 : Option Nat) (v1 : Int32) (h : AH) : Option (Int32 × AH) := cGR h 8 400 v0 fun x1 => cCV h 6 x1 (fX6_badPlace x1 h) fun x3 h2 => if x3 = (-1) then (cGR h2 8 403 v0 fun x4 => cCV h2 7 x4 (fX7_elementAt x4 v1 h2) fun x6 h5 => if x6 = none then (fX8_replaceByText_51 h5) else (cGI h5 3 153 x6 fun x7 => cCL (fX8_isEmptyTag x7 h5) fun x9 h8 => if x9 = 0 then (cGI h8 3 155 x6 fun x10 => if x10 < (nI 20) then (cGR h8 8 400 v0 fun x11 => cGI h8 6 301 x11 fun x12 => if x12 ≤ 0 then (fX8_replaceByText_84 v0 x6 h8) else (cGR h8 3 159 x6 fun x13 => if x13 = none then (cGR h8 8 403 v0 fun x14 => cGI h8 7 352 x14 fun x15 => if x15 < (nI 120) then (fX8_replaceByText_84 v0 x6 h8) else (some ((-1), h8))) else (fX8_replaceByText_84 v0 x6 h8))) else (fX8_replaceByText_51 h8)) else (fX8_replaceByText_51 h8))) else (some (((-1000) - x3), h2))
theorem tX8_replaceByText_0 (G : sr_G) (v0 : Option Nat) (v1 : Int32) (h : AH) : sr_T (X := Int32) G 27 RX8 cX8_replaceByText 5 (some .int) false (sr_M G jI) 0 [(0, vR v0), (1, vI v1)] [] h (fX8_replaceByText_0  v0 v1 h) := by
  unfold fX8_replaceByText_0
  refine tq_aload_n 0 0 dX8_replaceByText_0 rfl rfl ?_
  refine tq_getR 0 dX8_replaceByText_1 cfX8 (by decide) wd_288 rfl rfl (fun x1 => ?_)
  refine tq_cVI [] [] dX8_replaceByText_4 (eX6_badPlace G x1 h) (by decide) mbX6_badPlace cfX6 rfl wd_332 wd_333 wd_334 rfl rfl (Nat.le_of_ble_eq_true rfl) (fun x3 h2 => ?_)
  refine tq_istore_n 2 (L' := [(2, vI x3), (0, vR v0), (1, vI v1)]) dX8_replaceByText_7 rfl (by decide) rfl ?_
  refine tq_iload_n 2 0 dX8_replaceByText_8 rfl rfl ?_
  refine tq_iconst (-1) dX8_replaceByText_9 (by decide) ?_
  refine tq_icmp_eq 19 dX8_replaceByText_10 (by decide) (fun _ => ?_) (fun _ => ?_)
  · refine tq_aload_n 0 1 dX8_replaceByText_19 rfl rfl ?_
    refine tq_getR 3 dX8_replaceByText_20 cfX8 (by decide) wd_291 rfl rfl (fun x4 => ?_)
    refine tq_iload_n 1 2 dX8_replaceByText_23 rfl rfl ?_
    refine tq_cVR [vI v1] [] dX8_replaceByText_24 (eX7_elementAt G x4 v1 h2) (by decide) mbX7_elementAt cfX7 rfl wd_683 wd_684 wd_685 rfl rfl (Nat.le_of_ble_eq_true rfl) (fun x6 h5 => ?_)
    refine tq_astore_n 3 (L' := [(3, vR x6), (2, vI x3), (0, vR v0), (1, vI v1)]) dX8_replaceByText_27 rfl (by decide) rfl ?_
    refine tq_aload_n 3 0 dX8_replaceByText_28 rfl rfl ?_
    refine tq_ifnull 51 dX8_replaceByText_29 (by decide) (fun _ => ?_) (fun _ => ?_)
    · exact tq_sub [] rfl (tX8_replaceByText_51 G h5)
    · refine tq_aload_n 3 0 dX8_replaceByText_32 rfl rfl ?_
      refine tq_getI 3 dX8_replaceByText_33 cfX3 (by decide) wd_182 rfl rfl (fun x7 => ?_)
      refine tq_cSI [vI x7] [] dX8_replaceByText_36 (eX8_isEmptyTag G x7 h5) (by decide) mbX8_isEmptyTag wd_726 wd_582 rfl rfl (Nat.le_of_ble_eq_true rfl) (fun x9 h8 => ?_)
      refine tq_if_ne 51 dX8_replaceByText_39 (by decide) (fun _ => ?_) (fun _ => ?_)
      · exact tq_sub [] rfl (tX8_replaceByText_51 G h8)
      · refine tq_aload_n 3 0 dX8_replaceByText_42 rfl rfl ?_
        refine tq_getI 5 dX8_replaceByText_43 cfX3 (by decide) wd_189 rfl rfl (fun x10 => ?_)
        refine tq_bipush (nI 20) dX8_replaceByText_46 (by decide) ?_
        refine tq_icmp_lt 53 dX8_replaceByText_48 (by decide) (fun _ => ?_) (fun _ => ?_)
        · refine tq_aload_n 0 2 dX8_replaceByText_53 rfl rfl ?_
          refine tq_getR 0 dX8_replaceByText_54 cfX8 (by decide) wd_288 rfl rfl (fun x11 => ?_)
          refine tq_getI 1 dX8_replaceByText_57 cfX6 (by decide) wd_100 rfl rfl (fun x12 => ?_)
          refine tq_if_le 84 dX8_replaceByText_60 (by decide) (fun _ => ?_) (fun _ => ?_)
          · exact tq_sub [2, 0] rfl (tX8_replaceByText_84 G v0 x6 h8)
          · refine tq_aload_n 3 0 dX8_replaceByText_63 rfl rfl ?_
            refine tq_getR 9 dX8_replaceByText_64 cfX3 (by decide) wd_197 rfl rfl (fun x13 => ?_)
            refine tq_ifnonnull 84 dX8_replaceByText_67 (by decide) (fun _ => ?_) (fun _ => ?_)
            · exact tq_sub [2, 0] rfl (tX8_replaceByText_84 G v0 x6 h8)
            · refine tq_aload_n 0 2 dX8_replaceByText_70 rfl rfl ?_
              refine tq_getR 3 dX8_replaceByText_71 cfX8 (by decide) wd_291 rfl rfl (fun x14 => ?_)
              refine tq_getI 2 dX8_replaceByText_74 cfX7 (by decide) wd_246 rfl rfl (fun x15 => ?_)
              refine tq_bipush (nI 120) dX8_replaceByText_77 (by decide) ?_
              refine tq_icmp_lt 84 dX8_replaceByText_79 (by decide) (fun _ => ?_) (fun _ => ?_)
              · exact tq_sub [2, 0] rfl (tX8_replaceByText_84 G v0 x6 h8)
              · refine tq_iconst (-1) dX8_replaceByText_82 (by decide) ?_
                exact tq_iret rfl dX8_replaceByText_83
        · exact tq_sub [] rfl (tX8_replaceByText_51 G h8)
  · refine tq_sipush (-1000) dX8_replaceByText_13 (by decide) ?_
    refine tq_iload_n 2 0 dX8_replaceByText_16 rfl rfl ?_
    refine tq_isub dX8_replaceByText_17 ?_
    exact tq_iret rfl dX8_replaceByText_18
noncomputable def fX8_replaceByText (v0 : Option Nat) (v1 : Int32) (h : AH) : Option (Int32 × AH) := fX8_replaceByText_0 v0 v1 h
theorem eX8_replaceByText (G : sr_G) (v0 : Option Nat) (v1 : Int32) (h : AH) : sr_E G 27 yX8_replaceByText cX8_replaceByText 5 (some .int) jI [vR v0, vI v1] h (fX8_replaceByText v0 v1 h) := sr_E.of (own := RX8) (ini := false) (by decide) rfl (fun q => by first | rfl | cases q) rfl (Nat.le_of_ble_eq_true rfl) (tX8_replaceByText_0 G v0 v1 h)
noncomputable def fX8_text_0  (v0 : Option Nat) (v1 : Int32) (h : AH) : Option (Int32 × AH) := cCV h 8 v0 (fX8_replaceByText v0 v1 h) fun x2 h1 => cGR h1 8 400 v0 fun x3 => cPI h1 6 301 x3 (nI 0) fun h4 => some (x2, h4)
theorem tX8_text_0 (G : sr_G) (v0 : Option Nat) (v1 : Int32) (h : AH) : sr_T (X := Int32) G 28 RX8 cX8_text 3 (some .int) false (sr_M G jI) 0 [(0, vR v0), (1, vI v1)] [] h (fX8_text_0  v0 v1 h) := by
  unfold fX8_text_0
  refine tq_aload_n 0 0 dX8_text_0 rfl rfl ?_
  refine tq_iload_n 1 1 dX8_text_1 rfl rfl ?_
  refine tq_cVI [vI v1] [] dX8_text_2 (eX8_replaceByText G v0 v1 h) (by decide) mbX8_replaceByText cfX8 rfl wd_757 wd_759 wd_33 rfl rfl (Nat.le_of_ble_eq_true rfl) (fun x2 h1 => ?_)
  refine tq_istore_n 2 (L' := [(2, vI x2), (0, vR v0), (1, vI v1)]) dX8_text_5 rfl (by decide) rfl ?_
  refine tq_aload_n 0 1 dX8_text_6 rfl rfl ?_
  refine tq_getR 0 dX8_text_7 cfX8 (by decide) wd_288 rfl rfl (fun x3 => ?_)
  refine tq_iconst (nI 0) dX8_text_10 (by decide) ?_
  refine tq_putI 1 dX8_text_11 cfX6 (by decide) wd_100 rfl rfl (Or.inl rfl) (fun h4 => ?_)
  refine tq_iload_n 2 0 dX8_text_14 rfl rfl ?_
  exact tq_iret rfl dX8_text_15
noncomputable def fX8_text (v0 : Option Nat) (v1 : Int32) (h : AH) : Option (Int32 × AH) := fX8_text_0 v0 v1 h
theorem eX8_text (G : sr_G) (v0 : Option Nat) (v1 : Int32) (h : AH) : sr_E G 28 yX8_text cX8_text 3 (some .int) jI [vR v0, vI v1] h (fX8_text v0 v1 h) := sr_E.of (own := RX8) (ini := false) (by decide) rfl (fun q => by first | rfl | cases q) rfl (Nat.le_of_ble_eq_true rfl) (tX8_text_0 G v0 v1 h)
noncomputable def fX8_setAttribute_127  (v3 : Option Nat) (h : AH) : Option (Int32 × AH) := cGR h 3 151 v3 fun x1 => cGI h 1 51 x1 fun x2 => some (x2, h)
theorem tX8_setAttribute_127 (G : sr_G) (v3 : Option Nat) (h : AH) : sr_T (X := Int32) G 4 RX8 cX8_setAttribute 9 (some .int) false (sr_M G jI) 127 [(3, vR v3)] [] h (fX8_setAttribute_127  v3 h) := by
  unfold fX8_setAttribute_127
  refine tq_aload_n 3 0 dX8_setAttribute_127 rfl rfl ?_
  refine tq_getR 1 dX8_setAttribute_128 cfX3 (by decide) wd_176 rfl rfl (fun x1 => ?_)
  refine tq_getI 1 dX8_setAttribute_131 cfX1 (by decide) wd_166 rfl rfl (fun x2 => ?_)
  exact tq_iret rfl dX8_setAttribute_134
noncomputable def fX8_setAttribute_95  : Nat → Option Nat → Option Nat → Option Nat → Int32 → AH → Option (Int32 × AH)
  | 0, _, _, _, _, _ => none
  | n + 1, v0, v3, v7, v8, h => cGR h 8 400 v0 fun x1 => cGI h 6 301 x1 fun x2 => if x2 ≤ v8 then (fX8_setAttribute_127 v3 h) else (cGR h 8 400 v0 fun x3 => cCV h 6 x3 (fX6_byteAt x3 v8 h) fun x5 h4 => cCV h4 0 v7 (fX0_put v7 x5 h4) fun _ h6 => fX8_setAttribute_95 n v0 v3 v7 (v8 + (nI 1)) h6)
theorem tX8_setAttribute_95 (G : sr_G) : ∀ (n : Nat) (v0 : Option Nat) (v3 : Option Nat) (v7 : Option Nat) (v8 : Int32) (h : AH), sr_T (X := Int32) G 4 RX8 cX8_setAttribute 9 (some .int) false (sr_M G jI) 95 [(0, vR v0), (3, vR v3), (7, vR v7), (8, vI v8)] [] h (fX8_setAttribute_95  n v0 v3 v7 v8 h) := by
  intro n
  induction n with
  | zero => intro v0 v3 v7 v8 h; exact tq_none
  | succ n ih =>
    intro v0 v3 v7 v8 h
    unfold fX8_setAttribute_95
    refine tq_iload 3 dX8_setAttribute_95 rfl ?_
    refine tq_aload_n 0 0 dX8_setAttribute_97 rfl rfl ?_
    refine tq_getR 0 dX8_setAttribute_98 cfX8 (by decide) wd_288 rfl rfl (fun x1 => ?_)
    refine tq_getI 1 dX8_setAttribute_101 cfX6 (by decide) wd_100 rfl rfl (fun x2 => ?_)
    refine tq_icmp_ge 127 dX8_setAttribute_104 (by decide) (fun _ => ?_) (fun _ => ?_)
    · exact tq_sub [1] rfl (tX8_setAttribute_127 G v3 h)
    · refine tq_aload 2 dX8_setAttribute_107 rfl ?_
      refine tq_aload_n 0 0 dX8_setAttribute_109 rfl rfl ?_
      refine tq_getR 0 dX8_setAttribute_110 cfX8 (by decide) wd_288 rfl rfl (fun x3 => ?_)
      refine tq_iload 3 dX8_setAttribute_113 rfl ?_
      refine tq_cVI [vI v8] [vR v7] dX8_setAttribute_115 (eX6_byteAt G x3 v8 h) (by decide) mbX6_byteAt cfX6 rfl wd_788 wd_337 wd_338 rfl rfl (Nat.le_of_ble_eq_true rfl) (fun x5 h4 => ?_)
      refine tq_cVV [vI x5] [] dX8_setAttribute_118 (eX0_put G v7 x5 h4) (by decide) mbX0_put cfX0 rfl wd_789 wd_567 wd_568 rfl rfl (Nat.le_of_ble_eq_true rfl) (fun _ h6 => ?_)
      refine tq_iinc 3 (nI 1) (L' := [(8, vI (v8 + (nI 1))), (0, vR v0), (3, vR v3), (7, vR v7)]) dX8_setAttribute_121 rfl (by decide) (by decide) rfl ?_
      refine tq_goto 95 dX8_setAttribute_124 (by decide) ?_
      exact tq_sub [1, 2, 3, 0] rfl (ih v0 v3 v7 (v8 + (nI 1)) h6)
noncomputable def fX8_setAttribute_76  (v0 : Option Nat) (v3 : Option Nat) (v4 : Int32) (v7 : Option Nat) (h : AH) : Option (Int32 × AH) := if v7 = none then (some ((-1), h)) else (cPI h 0 2 v7 (nI 0) fun h1 => fX8_setAttribute_95 FU v0 v3 v7 (v4 + (nI 1)) h1)
theorem tX8_setAttribute_76 (G : sr_G) (v0 : Option Nat) (v3 : Option Nat) (v4 : Int32) (v7 : Option Nat) (h : AH) : sr_T (X := Int32) G 4 RX8 cX8_setAttribute 9 (some .int) false (sr_M G jI) 76 [(0, vR v0), (3, vR v3), (4, vI v4), (7, vR v7)] [] h (fX8_setAttribute_76  v0 v3 v4 v7 h) := by
  unfold fX8_setAttribute_76
  refine tq_aload 3 dX8_setAttribute_76 rfl ?_
  refine tq_ifnonnull 83 dX8_setAttribute_78 (by decide) (fun _ => ?_) (fun _ => ?_)
  · refine tq_aload 3 dX8_setAttribute_83 rfl ?_
    refine tq_iconst (nI 0) dX8_setAttribute_85 (by decide) ?_
    refine tq_putI 2 dX8_setAttribute_86 cfX0 (by decide) wd_547 rfl rfl (Or.inl rfl) (fun h1 => ?_)
    refine tq_iload 2 dX8_setAttribute_89 rfl ?_
    refine tq_iconst (nI 1) dX8_setAttribute_91 (by decide) ?_
    refine tq_iadd dX8_setAttribute_92 ?_
    refine tq_istore (L' := [(8, vI (v4 + (nI 1))), (0, vR v0), (3, vR v3), (4, vI v4), (7, vR v7)]) dX8_setAttribute_93 (by decide) rfl ?_
    exact tq_sub [1, 2, 4, 0] rfl (tX8_setAttribute_95 G FU v0 v3 v7 (v4 + (nI 1)) h1)
  · refine tq_iconst (-1) dX8_setAttribute_81 (by decide) ?_
    exact tq_iret rfl dX8_setAttribute_82
noncomputable def fX8_setAttribute_0  (v0 : Option Nat) (v1 : Int32) (h : AH) : Option (Int32 × AH) := cGR h 8 400 v0 fun x1 => cCV h 6 x1 (fX6_wrongAsSetting x1 h) fun x3 h2 => if x3 = 0 then (cGR h2 8 403 v0 fun x4 => cCV h2 7 x4 (fX7_elementAt x4 v1 h2) fun x6 h5 => if x6 = none then (some ((-1), h5)) else (cGR h5 8 400 v0 fun x7 => cCV h5 6 x7 (fX6_nameLength x7 h5) fun x9 h8 => cGR h8 8 400 v0 fun x10 => cCV h8 6 x10 (fX6_packed x10 x9 h8) fun x12 h11 => cGR h11 3 151 x6 fun x13 => cCV h11 1 x13 (fX1_named x13 x12 h11) fun x15 h14 => if x15 = none then (cGR h14 3 151 x6 fun x16 => cCV h14 1 x16 (fX1_grow x16 x12 h14) fun x18 h17 => fX8_setAttribute_76 v0 x6 x9 x18 h17) else (fX8_setAttribute_76 v0 x6 x9 x15 h14))) else (some (x3, h2))
theorem tX8_setAttribute_0 (G : sr_G) (v0 : Option Nat) (v1 : Int32) (h : AH) : sr_T (X := Int32) G 4 RX8 cX8_setAttribute 9 (some .int) false (sr_M G jI) 0 [(0, vR v0), (1, vI v1)] [] h (fX8_setAttribute_0  v0 v1 h) := by
  unfold fX8_setAttribute_0
  refine tq_aload_n 0 0 dX8_setAttribute_0 rfl rfl ?_
  refine tq_getR 0 dX8_setAttribute_1 cfX8 (by decide) wd_288 rfl rfl (fun x1 => ?_)
  refine tq_cVI [] [] dX8_setAttribute_4 (eX6_wrongAsSetting G x1 h) (by decide) mbX6_wrongAsSetting cfX6 rfl wd_782 wd_783 wd_784 rfl rfl (Nat.le_of_ble_eq_true rfl) (fun x3 h2 => ?_)
  refine tq_istore_n 2 (L' := [(2, vI x3), (0, vR v0), (1, vI v1)]) dX8_setAttribute_7 rfl (by decide) rfl ?_
  refine tq_iload_n 2 0 dX8_setAttribute_8 rfl rfl ?_
  refine tq_if_eq 14 dX8_setAttribute_9 (by decide) (fun _ => ?_) (fun _ => ?_)
  · refine tq_aload_n 0 1 dX8_setAttribute_14 rfl rfl ?_
    refine tq_getR 3 dX8_setAttribute_15 cfX8 (by decide) wd_291 rfl rfl (fun x4 => ?_)
    refine tq_iload_n 1 2 dX8_setAttribute_18 rfl rfl ?_
    refine tq_cVR [vI v1] [] dX8_setAttribute_19 (eX7_elementAt G x4 v1 h2) (by decide) mbX7_elementAt cfX7 rfl wd_683 wd_684 wd_685 rfl rfl (Nat.le_of_ble_eq_true rfl) (fun x6 h5 => ?_)
    refine tq_astore_n 3 (L' := [(3, vR x6), (2, vI x3), (0, vR v0), (1, vI v1)]) dX8_setAttribute_22 rfl (by decide) rfl ?_
    refine tq_aload_n 3 0 dX8_setAttribute_23 rfl rfl ?_
    refine tq_ifnonnull 29 dX8_setAttribute_24 (by decide) (fun _ => ?_) (fun _ => ?_)
    · refine tq_aload_n 0 2 dX8_setAttribute_29 rfl rfl ?_
      refine tq_getR 0 dX8_setAttribute_30 cfX8 (by decide) wd_288 rfl rfl (fun x7 => ?_)
      refine tq_cVI [] [] dX8_setAttribute_33 (eX6_nameLength G x7 h5) (by decide) mbX6_nameLength cfX6 rfl wd_786 wd_675 wd_676 rfl rfl (Nat.le_of_ble_eq_true rfl) (fun x9 h8 => ?_)
      refine tq_istore (L' := [(4, vI x9), (3, vR x6), (2, vI x3), (0, vR v0), (1, vI v1)]) dX8_setAttribute_36 (by decide) rfl ?_
      refine tq_aload_n 0 3 dX8_setAttribute_38 rfl rfl ?_
      refine tq_getR 0 dX8_setAttribute_39 cfX8 (by decide) wd_288 rfl rfl (fun x10 => ?_)
      refine tq_iload 0 dX8_setAttribute_42 rfl ?_
      refine tq_cVL [vI x9] [] dX8_setAttribute_44 (eX6_packed G x10 x9 h8) (by decide) mbX6_packed cfX6 rfl wd_688 wd_689 wd_690 rfl rfl (Nat.le_of_ble_eq_true rfl) (fun x12 h11 => ?_)
      refine tq_lstore (L' := [(5, vL x12), (4, vI x9), (3, vR x6), (2, vI x3), (0, vR v0), (1, vI v1)]) dX8_setAttribute_47 (by decide) rfl ?_
      refine tq_aload_n 3 2 dX8_setAttribute_49 rfl rfl ?_
      refine tq_getR 1 dX8_setAttribute_50 cfX3 (by decide) wd_176 rfl rfl (fun x13 => ?_)
      refine tq_lload 0 dX8_setAttribute_53 rfl ?_
      refine tq_cVR [vL x12] [] dX8_setAttribute_55 (eX1_named G x13 x12 h11) (by decide) mbX1_named cfX1 rfl wd_693 wd_525 wd_526 rfl rfl (Nat.le_of_ble_eq_true rfl) (fun x15 h14 => ?_)
      refine tq_astore (L' := [(7, vR x15), (5, vL x12), (4, vI x9), (3, vR x6), (2, vI x3), (0, vR v0), (1, vI v1)]) dX8_setAttribute_58 (by decide) rfl ?_
      refine tq_aload 0 dX8_setAttribute_60 rfl ?_
      refine tq_ifnonnull 76 dX8_setAttribute_62 (by decide) (fun _ => ?_) (fun _ => ?_)
      · exact tq_sub [5, 3, 2, 0] rfl (tX8_setAttribute_76 G v0 x6 x9 x15 h14)
      · refine tq_aload_n 3 3 dX8_setAttribute_65 rfl rfl ?_
        refine tq_getR 1 dX8_setAttribute_66 cfX3 (by decide) wd_176 rfl rfl (fun x16 => ?_)
        refine tq_lload 1 dX8_setAttribute_69 rfl ?_
        refine tq_cVR [vL x12] [] dX8_setAttribute_71 (eX1_grow G x16 x12 h14) (by decide) mbX1_grow cfX1 rfl wd_787 wd_533 wd_534 rfl rfl (Nat.le_of_ble_eq_true rfl) (fun x18 h17 => ?_)
        refine tq_astore (L' := [(7, vR x18), (5, vL x12), (4, vI x9), (3, vR x6), (2, vI x3), (0, vR v0), (1, vI v1)]) dX8_setAttribute_74 (by decide) rfl ?_
        exact tq_sub [5, 3, 2, 0] rfl (tX8_setAttribute_76 G v0 x6 x9 x18 h17)
    · refine tq_iconst (-1) dX8_setAttribute_27 (by decide) ?_
      exact tq_iret rfl dX8_setAttribute_28
  · refine tq_iload_n 2 0 dX8_setAttribute_12 rfl rfl ?_
    exact tq_iret rfl dX8_setAttribute_13
noncomputable def fX8_setAttribute (v0 : Option Nat) (v1 : Int32) (h : AH) : Option (Int32 × AH) := fX8_setAttribute_0 v0 v1 h
theorem eX8_setAttribute (G : sr_G) (v0 : Option Nat) (v1 : Int32) (h : AH) : sr_E G 4 yX8_setAttribute cX8_setAttribute 9 (some .int) jI [vR v0, vI v1] h (fX8_setAttribute v0 v1 h) := sr_E.of (own := RX8) (ini := false) (by decide) rfl (fun q => by first | rfl | cases q) rfl (Nat.le_of_ble_eq_true rfl) (tX8_setAttribute_0 G v0 v1 h)
noncomputable def fX8_set_0  (v0 : Option Nat) (v1 : Int32) (h : AH) : Option (Int32 × AH) := cCV h 8 v0 (fX8_setAttribute v0 v1 h) fun x2 h1 => cGR h1 8 400 v0 fun x3 => cPI h1 6 301 x3 (nI 0) fun h4 => some (x2, h4)
theorem tX8_set_0 (G : sr_G) (v0 : Option Nat) (v1 : Int32) (h : AH) : sr_T (X := Int32) G 5 RX8 cX8_set 3 (some .int) false (sr_M G jI) 0 [(0, vR v0), (1, vI v1)] [] h (fX8_set_0  v0 v1 h) := by
  unfold fX8_set_0
  refine tq_aload_n 0 0 dX8_set_0 rfl rfl ?_
  refine tq_iload_n 1 1 dX8_set_1 rfl rfl ?_
  refine tq_cVI [vI v1] [] dX8_set_2 (eX8_setAttribute G v0 v1 h) (by decide) mbX8_setAttribute cfX8 rfl wd_778 wd_780 wd_35 rfl rfl (Nat.le_of_ble_eq_true rfl) (fun x2 h1 => ?_)
  refine tq_istore_n 2 (L' := [(2, vI x2), (0, vR v0), (1, vI v1)]) dX8_set_5 rfl (by decide) rfl ?_
  refine tq_aload_n 0 1 dX8_set_6 rfl rfl ?_
  refine tq_getR 0 dX8_set_7 cfX8 (by decide) wd_288 rfl rfl (fun x3 => ?_)
  refine tq_iconst (nI 0) dX8_set_10 (by decide) ?_
  refine tq_putI 1 dX8_set_11 cfX6 (by decide) wd_100 rfl rfl (Or.inl rfl) (fun h4 => ?_)
  refine tq_iload_n 2 0 dX8_set_14 rfl rfl ?_
  exact tq_iret rfl dX8_set_15
noncomputable def fX8_set (v0 : Option Nat) (v1 : Int32) (h : AH) : Option (Int32 × AH) := fX8_set_0 v0 v1 h
theorem eX8_set (G : sr_G) (v0 : Option Nat) (v1 : Int32) (h : AH) : sr_E G 5 yX8_set cX8_set 3 (some .int) jI [vR v0, vI v1] h (fX8_set v0 v1 h) := sr_E.of (own := RX8) (ini := false) (by decide) rfl (fun q => by first | rfl | cases q) rfl (Nat.le_of_ble_eq_true rfl) (tX8_set_0 G v0 v1 h)
noncomputable def fX8_remove_20   (h : AH) : Option (Int32 × AH) := some ((-1), h)
theorem tX8_remove_20 (G : sr_G)  (h : AH) : sr_T (X := Int32) G 27 RX8 cX8_remove 3 (some .int) false (sr_M G jI) 20 [] [] h (fX8_remove_20  h) := by
  unfold fX8_remove_20
  refine tq_iconst (-1) dX8_remove_20 (by decide) ?_
  exact tq_iret rfl dX8_remove_21
noncomputable def fX8_remove_0  (v0 : Option Nat) (v1 : Int32) (h : AH) : Option (Int32 × AH) := cGR h 8 403 v0 fun x1 => cCV h 7 x1 (fX7_nodeAt x1 v1 h) fun x3 h2 => if x3 = none then (fX8_remove_20 h2) else (cGR h2 3 156 x3 fun x4 => if x4 = none then (fX8_remove_20 h2) else (cGR h2 8 403 v0 fun x5 => cCV h2 7 x5 (fX7_drop x5 x3 h2) fun _ h6 => cGR h6 8 403 v0 fun x7 => cGI h6 7 352 x7 fun x8 => some (x8, h6)))
theorem tX8_remove_0 (G : sr_G) (v0 : Option Nat) (v1 : Int32) (h : AH) : sr_T (X := Int32) G 27 RX8 cX8_remove 3 (some .int) false (sr_M G jI) 0 [(0, vR v0), (1, vI v1)] [] h (fX8_remove_0  v0 v1 h) := by
  unfold fX8_remove_0
  refine tq_aload_n 0 0 dX8_remove_0 rfl rfl ?_
  refine tq_getR 3 dX8_remove_1 cfX8 (by decide) wd_291 rfl rfl (fun x1 => ?_)
  refine tq_iload_n 1 1 dX8_remove_4 rfl rfl ?_
  refine tq_cVR [vI v1] [] dX8_remove_5 (eX7_nodeAt G x1 v1 h) (by decide) mbX7_nodeAt cfX7 rfl wd_629 wd_630 wd_631 rfl rfl (Nat.le_of_ble_eq_true rfl) (fun x3 h2 => ?_)
  refine tq_astore_n 2 (L' := [(2, vR x3), (0, vR v0), (1, vI v1)]) dX8_remove_8 rfl (by decide) rfl ?_
  refine tq_aload_n 2 0 dX8_remove_9 rfl rfl ?_
  refine tq_ifnull 20 dX8_remove_10 (by decide) (fun _ => ?_) (fun _ => ?_)
  · exact tq_sub [] rfl (tX8_remove_20 G h2)
  · refine tq_aload_n 2 0 dX8_remove_13 rfl rfl ?_
    refine tq_getR 6 dX8_remove_14 cfX3 (by decide) wd_191 rfl rfl (fun x4 => ?_)
    refine tq_ifnonnull 22 dX8_remove_17 (by decide) (fun _ => ?_) (fun _ => ?_)
    · refine tq_aload_n 0 1 dX8_remove_22 rfl rfl ?_
      refine tq_getR 3 dX8_remove_23 cfX8 (by decide) wd_291 rfl rfl (fun x5 => ?_)
      refine tq_aload_n 2 0 dX8_remove_26 rfl rfl ?_
      refine tq_cVV [vR x3] [] dX8_remove_27 (eX7_drop G x5 x3 h2) (by decide) mbX7_drop cfX7 rfl wd_794 wd_795 wd_796 rfl rfl (Nat.le_of_ble_eq_true rfl) (fun _ h6 => ?_)
      refine tq_aload_n 0 1 dX8_remove_30 rfl rfl ?_
      refine tq_getR 3 dX8_remove_31 cfX8 (by decide) wd_291 rfl rfl (fun x7 => ?_)
      refine tq_getI 2 dX8_remove_34 cfX7 (by decide) wd_246 rfl rfl (fun x8 => ?_)
      exact tq_iret rfl dX8_remove_37
    · exact tq_sub [] rfl (tX8_remove_20 G h2)
noncomputable def fX8_remove (v0 : Option Nat) (v1 : Int32) (h : AH) : Option (Int32 × AH) := fX8_remove_0 v0 v1 h
theorem eX8_remove (G : sr_G) (v0 : Option Nat) (v1 : Int32) (h : AH) : sr_E G 27 yX8_remove cX8_remove 3 (some .int) jI [vR v0, vI v1] h (fX8_remove v0 v1 h) := sr_E.of (own := RX8) (ini := false) (by decide) rfl (fun q => by first | rfl | cases q) rfl (Nat.le_of_ble_eq_true rfl) (tX8_remove_0 G v0 v1 h)
noncomputable def fX8_findElement_118   (h : AH) : Option (Int32 × AH) := some ((-1), h)
theorem tX8_findElement_118 (G : sr_G)  (h : AH) : sr_T (X := Int32) G 4 RX8 cX8_findElement 7 (some .int) false (sr_M G jI) 118 [] [] h (fX8_findElement_118  h) := by
  unfold fX8_findElement_118
  refine tq_iconst (-1) dX8_findElement_118 (by decide) ?_
  exact tq_iret rfl dX8_findElement_119
noncomputable def fX8_findElement_107 (r72 : Option Nat → Int64 → Int32 → AH → Option (Int32 × AH)) (v3 : Option Nat) (v4 : Int64) (v6 : Int32) (h : AH) : Option (Int32 × AH) := cCV h 3 v3 (fX3_nextInTree v3 h) fun x2 h1 => r72 x2 v4 (v6 + (nI 1)) h1
theorem tX8_findElement_107 (G : sr_G) {r72 : Option Nat → Int64 → Int32 → AH → Option (Int32 × AH)} (hr72 : ∀ (v3 : Option Nat) (v4 : Int64) (v6 : Int32) (h : AH), sr_T (X := Int32) G 4 RX8 cX8_findElement 7 (some .int) false (sr_M G jI) 72 [(3, vR v3), (4, vL v4), (6, vI v6)] [] h (r72 v3 v4 v6 h)) (v3 : Option Nat) (v4 : Int64) (v6 : Int32) (h : AH) : sr_T (X := Int32) G 4 RX8 cX8_findElement 7 (some .int) false (sr_M G jI) 107 [(3, vR v3), (4, vL v4), (6, vI v6)] [] h (fX8_findElement_107 r72 v3 v4 v6 h) := by
  unfold fX8_findElement_107
  refine tq_aload_n 3 0 dX8_findElement_107 rfl rfl ?_
  refine tq_cVR [] [] dX8_findElement_108 (eX3_nextInTree G v3 h) (by decide) mbX3_nextInTree cfX3 rfl wd_810 wd_811 wd_812 rfl rfl (Nat.le_of_ble_eq_true rfl) (fun x2 h1 => ?_)
  refine tq_astore_n 3 (L' := [(3, vR x2), (4, vL v4), (6, vI v6)]) dX8_findElement_111 rfl (by decide) rfl ?_
  refine tq_iinc 2 (nI 1) (L' := [(6, vI (v6 + (nI 1))), (3, vR x2), (4, vL v4)]) dX8_findElement_112 rfl (by decide) (by decide) rfl ?_
  refine tq_goto 72 dX8_findElement_115 (by decide) ?_
  exact tq_sub [1, 2, 0] rfl (hr72 x2 v4 (v6 + (nI 1)) h1)
noncomputable def fX8_findElement_102  (v3 : Option Nat) (h : AH) : Option (Int32 × AH) := cGI h 3 150 v3 fun x1 => some (x1, h)
theorem tX8_findElement_102 (G : sr_G) (v3 : Option Nat) (h : AH) : sr_T (X := Int32) G 4 RX8 cX8_findElement 7 (some .int) false (sr_M G jI) 102 [(3, vR v3)] [] h (fX8_findElement_102  v3 h) := by
  unfold fX8_findElement_102
  refine tq_aload_n 3 0 dX8_findElement_102 rfl rfl ?_
  refine tq_getI 0 dX8_findElement_103 cfX3 (by decide) wd_174 rfl rfl (fun x1 => ?_)
  exact tq_iret rfl dX8_findElement_106
noncomputable def fX8_findElement_72  : Nat → Option Nat → Int64 → Int32 → AH → Option (Int32 × AH)
  | 0, _, _, _, _ => none
  | n + 1, v3, v4, v6, h => if (nI 120) ≤ v6 then (fX8_findElement_118 h) else (if v3 = none then (fX8_findElement_118 h) else (cGI h 3 153 v3 fun x1 => if x1 = (nI 17) then (fX8_findElement_107 (fX8_findElement_72 n) v3 v4 v6 h) else (cGL h 3 154 v3 fun x2 => if (lg_cmp x2 v4) = 0 then (fX8_findElement_102 v3 h) else (fX8_findElement_107 (fX8_findElement_72 n) v3 v4 v6 h))))
theorem tX8_findElement_72 (G : sr_G) : ∀ (n : Nat) (v3 : Option Nat) (v4 : Int64) (v6 : Int32) (h : AH), sr_T (X := Int32) G 4 RX8 cX8_findElement 7 (some .int) false (sr_M G jI) 72 [(3, vR v3), (4, vL v4), (6, vI v6)] [] h (fX8_findElement_72  n v3 v4 v6 h) := by
  intro n
  induction n with
  | zero => intro v3 v4 v6 h; exact tq_none
  | succ n ih =>
    intro v3 v4 v6 h
    unfold fX8_findElement_72
    refine tq_iload 2 dX8_findElement_72 rfl ?_
    refine tq_bipush (nI 120) dX8_findElement_74 (by decide) ?_
    refine tq_icmp_ge 118 dX8_findElement_76 (by decide) (fun _ => ?_) (fun _ => ?_)
    · exact tq_sub [] rfl (tX8_findElement_118 G h)
    · refine tq_aload_n 3 0 dX8_findElement_79 rfl rfl ?_
      refine tq_ifnull 118 dX8_findElement_80 (by decide) (fun _ => ?_) (fun _ => ?_)
      · exact tq_sub [] rfl (tX8_findElement_118 G h)
      · refine tq_aload_n 3 0 dX8_findElement_83 rfl rfl ?_
        refine tq_getI 3 dX8_findElement_84 cfX3 (by decide) wd_182 rfl rfl (fun x1 => ?_)
        refine tq_bipush (nI 17) dX8_findElement_87 (by decide) ?_
        refine tq_icmp_eq 107 dX8_findElement_89 (by decide) (fun _ => ?_) (fun _ => ?_)
        · exact tX8_findElement_107 G ih v3 v4 v6 h
        · refine tq_aload_n 3 0 dX8_findElement_92 rfl rfl ?_
          refine tq_getL 4 dX8_findElement_93 cfX3 (by decide) wd_185 rfl rfl (fun x2 => ?_)
          refine tq_lload 1 dX8_findElement_96 rfl ?_
          refine tq_lcmp dX8_findElement_98 ?_
          refine tq_if_ne 107 dX8_findElement_99 (by decide) (fun _ => ?_) (fun _ => ?_)
          · exact tX8_findElement_107 G ih v3 v4 v6 h
          · exact tq_sub [0] rfl (tX8_findElement_102 G v3 h)
noncomputable def fX8_findElement_53  (v0 : Option Nat) (v3 : Option Nat) (h : AH) : Option (Int32 × AH) := cGR h 8 400 v0 fun x1 => cGR h 8 400 v0 fun x2 => cGI h 6 301 x2 fun x3 => cCV h 6 x1 (fX6_packed x1 x3 h) fun x5 h4 => fX8_findElement_72 FU v3 x5 (nI 0) h4
theorem tX8_findElement_53 (G : sr_G) (v0 : Option Nat) (v3 : Option Nat) (h : AH) : sr_T (X := Int32) G 4 RX8 cX8_findElement 7 (some .int) false (sr_M G jI) 53 [(0, vR v0), (3, vR v3)] [] h (fX8_findElement_53  v0 v3 h) := by
  unfold fX8_findElement_53
  refine tq_aload_n 0 0 dX8_findElement_53 rfl rfl ?_
  refine tq_getR 0 dX8_findElement_54 cfX8 (by decide) wd_288 rfl rfl (fun x1 => ?_)
  refine tq_aload_n 0 0 dX8_findElement_57 rfl rfl ?_
  refine tq_getR 0 dX8_findElement_58 cfX8 (by decide) wd_288 rfl rfl (fun x2 => ?_)
  refine tq_getI 1 dX8_findElement_61 cfX6 (by decide) wd_100 rfl rfl (fun x3 => ?_)
  refine tq_cVL [vI x3] [] dX8_findElement_64 (eX6_packed G x1 x3 h) (by decide) mbX6_packed cfX6 rfl wd_688 wd_689 wd_690 rfl rfl (Nat.le_of_ble_eq_true rfl) (fun x5 h4 => ?_)
  refine tq_lstore (L' := [(4, vL x5), (0, vR v0), (3, vR v3)]) dX8_findElement_67 (by decide) rfl ?_
  refine tq_iconst (nI 0) dX8_findElement_69 (by decide) ?_
  refine tq_istore (L' := [(6, vI (nI 0)), (4, vL x5), (0, vR v0), (3, vR v3)]) dX8_findElement_70 (by decide) rfl ?_
  exact tq_sub [3, 1, 0] rfl (tX8_findElement_72 G FU v3 x5 (nI 0) h4)
noncomputable def fX8_findElement_52  (v0 : Option Nat) (s0 : Option Nat) (h : AH) : Option (Int32 × AH) := fX8_findElement_53 v0 s0 h
theorem tX8_findElement_52 (G : sr_G) (v0 : Option Nat) (s0 : Option Nat) (h : AH) : sr_T (X := Int32) G 4 RX8 cX8_findElement 7 (some .int) false (sr_M G jI) 52 [(0, vR v0)] [vR s0] h (fX8_findElement_52  v0 s0 h) := by
  unfold fX8_findElement_52
  refine tq_astore_n 3 (L' := [(3, vR s0), (0, vR v0)]) dX8_findElement_52 rfl (by decide) rfl ?_
  exact tq_sub [1, 0] rfl (tX8_findElement_53 G v0 s0 h)
noncomputable def fX8_findElement_0  (v0 : Option Nat) (v1 : Int32) (h : AH) : Option (Int32 × AH) := cGR h 8 400 v0 fun x1 => cCV h 6 x1 (fX6_wrongAsName x1 h) fun x3 h2 => if x3 = 0 then (cGR h2 8 403 v0 fun x4 => cCV h2 7 x4 (fX7_nodeAt x4 (nI 0) h2) fun x6 h5 => if v1 = (-1) then (fX8_findElement_53 v0 x6 h5) else (cGR h5 8 403 v0 fun x7 => cCV h5 7 x7 (fX7_nodeAt x7 v1 h5) fun x9 h8 => if x9 = none then (fX8_findElement_52 v0 none h8) else (cCV h8 3 x9 (fX3_nextInTree x9 h8) fun x11 h10 => fX8_findElement_52 v0 x11 h10))) else (some (x3, h2))
theorem tX8_findElement_0 (G : sr_G) (v0 : Option Nat) (v1 : Int32) (h : AH) : sr_T (X := Int32) G 4 RX8 cX8_findElement 7 (some .int) false (sr_M G jI) 0 [(0, vR v0), (1, vI v1)] [] h (fX8_findElement_0  v0 v1 h) := by
  unfold fX8_findElement_0
  refine tq_aload_n 0 0 dX8_findElement_0 rfl rfl ?_
  refine tq_getR 0 dX8_findElement_1 cfX8 (by decide) wd_288 rfl rfl (fun x1 => ?_)
  refine tq_cVI [] [] dX8_findElement_4 (eX6_wrongAsName G x1 h) (by decide) mbX6_wrongAsName cfX6 rfl wd_669 wd_670 wd_671 rfl rfl (Nat.le_of_ble_eq_true rfl) (fun x3 h2 => ?_)
  refine tq_istore_n 2 (L' := [(2, vI x3), (0, vR v0), (1, vI v1)]) dX8_findElement_7 rfl (by decide) rfl ?_
  refine tq_iload_n 2 0 dX8_findElement_8 rfl rfl ?_
  refine tq_if_eq 14 dX8_findElement_9 (by decide) (fun _ => ?_) (fun _ => ?_)
  · refine tq_aload_n 0 1 dX8_findElement_14 rfl rfl ?_
    refine tq_getR 3 dX8_findElement_15 cfX8 (by decide) wd_291 rfl rfl (fun x4 => ?_)
    refine tq_iconst (nI 0) dX8_findElement_18 (by decide) ?_
    refine tq_cVR [vI (nI 0)] [] dX8_findElement_19 (eX7_nodeAt G x4 (nI 0) h2) (by decide) mbX7_nodeAt cfX7 rfl wd_629 wd_630 wd_631 rfl rfl (Nat.le_of_ble_eq_true rfl) (fun x6 h5 => ?_)
    refine tq_astore_n 3 (L' := [(3, vR x6), (2, vI x3), (0, vR v0), (1, vI v1)]) dX8_findElement_22 rfl (by decide) rfl ?_
    refine tq_iload_n 1 3 dX8_findElement_23 rfl rfl ?_
    refine tq_iconst (-1) dX8_findElement_24 (by decide) ?_
    refine tq_icmp_eq 53 dX8_findElement_25 (by decide) (fun _ => ?_) (fun _ => ?_)
    · exact tq_sub [2, 0] rfl (tX8_findElement_53 G v0 x6 h5)
    · refine tq_aload_n 0 2 dX8_findElement_28 rfl rfl ?_
      refine tq_getR 3 dX8_findElement_29 cfX8 (by decide) wd_291 rfl rfl (fun x7 => ?_)
      refine tq_iload_n 1 3 dX8_findElement_32 rfl rfl ?_
      refine tq_cVR [vI v1] [] dX8_findElement_33 (eX7_nodeAt G x7 v1 h5) (by decide) mbX7_nodeAt cfX7 rfl wd_629 wd_630 wd_631 rfl rfl (Nat.le_of_ble_eq_true rfl) (fun x9 h8 => ?_)
      refine tq_astore (L' := [(4, vR x9), (3, vR x6), (2, vI x3), (0, vR v0), (1, vI v1)]) dX8_findElement_36 (by decide) rfl ?_
      refine tq_aload 0 dX8_findElement_38 rfl ?_
      refine tq_ifnonnull 47 dX8_findElement_40 (by decide) (fun _ => ?_) (fun _ => ?_)
      · refine tq_aload 0 dX8_findElement_47 rfl ?_
        refine tq_cVR [] [] dX8_findElement_49 (eX3_nextInTree G x9 h8) (by decide) mbX3_nextInTree cfX3 rfl wd_810 wd_811 wd_812 rfl rfl (Nat.le_of_ble_eq_true rfl) (fun x11 h10 => ?_)
        exact tq_sub [3] rfl (tX8_findElement_52 G v0 x11 h10)
      · refine tq_null dX8_findElement_43 ?_
        refine tq_goto 52 dX8_findElement_44 (by decide) ?_
        exact tq_sub [3] rfl (tX8_findElement_52 G v0 none h8)
  · refine tq_iload_n 2 0 dX8_findElement_12 rfl rfl ?_
    exact tq_iret rfl dX8_findElement_13
noncomputable def fX8_findElement (v0 : Option Nat) (v1 : Int32) (h : AH) : Option (Int32 × AH) := fX8_findElement_0 v0 v1 h
theorem eX8_findElement (G : sr_G) (v0 : Option Nat) (v1 : Int32) (h : AH) : sr_E G 4 yX8_findElement cX8_findElement 7 (some .int) jI [vR v0, vI v1] h (fX8_findElement v0 v1 h) := sr_E.of (own := RX8) (ini := false) (by decide) rfl (fun q => by first | rfl | cases q) rfl (Nat.le_of_ble_eq_true rfl) (tX8_findElement_0 G v0 v1 h)
noncomputable def fX8_find_0  (v0 : Option Nat) (v1 : Int32) (h : AH) : Option (Int32 × AH) := cCV h 8 v0 (fX8_findElement v0 v1 h) fun x2 h1 => cGR h1 8 400 v0 fun x3 => cPI h1 6 301 x3 (nI 0) fun h4 => some (x2, h4)
theorem tX8_find_0 (G : sr_G) (v0 : Option Nat) (v1 : Int32) (h : AH) : sr_T (X := Int32) G 5 RX8 cX8_find 3 (some .int) false (sr_M G jI) 0 [(0, vR v0), (1, vI v1)] [] h (fX8_find_0  v0 v1 h) := by
  unfold fX8_find_0
  refine tq_aload_n 0 0 dX8_find_0 rfl rfl ?_
  refine tq_iload_n 1 1 dX8_find_1 rfl rfl ?_
  refine tq_cVI [vI v1] [] dX8_find_2 (eX8_findElement G v0 v1 h) (by decide) mbX8_findElement cfX8 rfl wd_806 wd_808 wd_36 rfl rfl (Nat.le_of_ble_eq_true rfl) (fun x2 h1 => ?_)
  refine tq_istore_n 2 (L' := [(2, vI x2), (0, vR v0), (1, vI v1)]) dX8_find_5 rfl (by decide) rfl ?_
  refine tq_aload_n 0 1 dX8_find_6 rfl rfl ?_
  refine tq_getR 0 dX8_find_7 cfX8 (by decide) wd_288 rfl rfl (fun x3 => ?_)
  refine tq_iconst (nI 0) dX8_find_10 (by decide) ?_
  refine tq_putI 1 dX8_find_11 cfX6 (by decide) wd_100 rfl rfl (Or.inl rfl) (fun h4 => ?_)
  refine tq_iload_n 2 0 dX8_find_14 rfl rfl ?_
  exact tq_iret rfl dX8_find_15
noncomputable def fX8_find (v0 : Option Nat) (v1 : Int32) (h : AH) : Option (Int32 × AH) := fX8_find_0 v0 v1 h
theorem eX8_find (G : sr_G) (v0 : Option Nat) (v1 : Int32) (h : AH) : sr_E G 5 yX8_find cX8_find 3 (some .int) jI [vR v0, vI v1] h (fX8_find v0 v1 h) := sr_E.of (own := RX8) (ini := false) (by decide) rfl (fun q => by first | rfl | cases q) rfl (Nat.le_of_ble_eq_true rfl) (tX8_find_0 G v0 v1 h)

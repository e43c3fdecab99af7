noncomputable def fX5_innermost_0  (v0 : Option Nat) (h : AH) : Option (Option Nat × AH) := cGI h 5 256 v0 fun x1 => cCV h 5 v0 (fX5_openAt v0 (x1 - (nI 1)) h) fun x3 h2 => some (x3, h2)
theorem tX5_innermost_0 (G : sr_G) (v0 : Option Nat) (h : AH) : sr_T (X := Option Nat) G 1 RX5 cX5_innermost 1 (some (.object "SoupReader$Node")) false (sr_M G jR) 0 [(0, vR v0)] [] h (fX5_innermost_0  v0 h) := by
  unfold fX5_innermost_0
  refine tq_aload_n 0 0 dX5_innermost_0 rfl rfl ?_
  refine tq_aload_n 0 0 dX5_innermost_1 rfl rfl ?_
  refine tq_getI 6 dX5_innermost_2 cfX5 (by decide) wd_269 rfl rfl (fun x1 => ?_)
  refine tq_iconst (nI 1) dX5_innermost_5 (by decide) ?_
  refine tq_isub dX5_innermost_6 ?_
  refine tq_cVR [vI (x1 - (nI 1))] [] dX5_innermost_7 (eX5_openAt G v0 (x1 - (nI 1)) h) (by decide) mbX5_openAt cfX5 rfl wd_352 wd_354 wd_2 rfl rfl (Nat.le_of_ble_eq_true rfl) (fun x3 h2 => ?_)
  exact tq_aret rfl dX5_innermost_10
noncomputable def fX5_innermost (v0 : Option Nat) (h : AH) : Option (Option Nat × AH) := fX5_innermost_0 v0 h
theorem eX5_innermost (G : sr_G) (v0 : Option Nat) (h : AH) : sr_E G 1 yX5_innermost cX5_innermost 1 (some (.object "SoupReader$Node")) jR [vR v0] h (fX5_innermost v0 h) := sr_E.of (own := RX5) (ini := false) (by decide) rfl (fun q => by first | rfl | cases q) rfl (Nat.le_of_ble_eq_true rfl) (tX5_innermost_0 G v0 h)
noncomputable def fX5_push_61   (h : AH) : Option (Unit × AH) := some ((), h)
theorem tX5_push_61 (G : sr_G)  (h : AH) : sr_T (X := Unit) G 0 RX5 cX5_push 3 none false (sr_M G jV) 61 [] [] h (fX5_push_61  h) := by
  unfold fX5_push_61
  exact tq_vret rfl dX5_push_61
noncomputable def fX5_push_0  (v0 : Option Nat) (v1 : Option Nat) (v2 : Int32) (h : AH) : Option (Unit × AH) := cGI h 5 256 v0 fun x1 => if x1 < 0 then (fX5_push_61 h) else (cGI h 5 256 v0 fun x2 => cGR h 5 254 v0 fun x3 => cAN h 3 x3 fun x4 => if x4 ≤ x2 then (fX5_push_61 h) else (cGI h 5 256 v0 fun x5 => cGR h 5 255 v0 fun x6 => cAN h 0 x6 fun x7 => if x7 ≤ x5 then (fX5_push_61 h) else (cGR h 5 254 v0 fun x8 => cGI h 5 256 v0 fun x9 => cQS h 3 3 x8 x9 v1 fun h10 => cGR h10 5 255 v0 fun x11 => cGI h10 5 256 v0 fun x12 => cAS h10 0 x11 x12 v2 fun h13 => cGI h13 5 256 v0 fun x14 => cPI h13 5 256 v0 (x14 + (nI 1)) fun h15 => fX5_push_61 h15)))
theorem tX5_push_0 (G : sr_G) (v0 : Option Nat) (v1 : Option Nat) (v2 : Int32) (h : AH) : sr_T (X := Unit) G 0 RX5 cX5_push 3 none false (sr_M G jV) 0 [(0, vR v0), (1, vR v1), (2, vI v2)] [] h (fX5_push_0  v0 v1 v2 h) := by
  unfold fX5_push_0
  refine tq_aload_n 0 0 dX5_push_0 rfl rfl ?_
  refine tq_getI 6 dX5_push_1 cfX5 (by decide) wd_269 rfl rfl (fun x1 => ?_)
  refine tq_if_lt 61 dX5_push_4 (by decide) (fun _ => ?_) (fun _ => ?_)
  · exact tq_sub [] rfl (tX5_push_61 G h)
  · refine tq_aload_n 0 0 dX5_push_7 rfl rfl ?_
    refine tq_getI 6 dX5_push_8 cfX5 (by decide) wd_269 rfl rfl (fun x2 => ?_)
    refine tq_aload_n 0 0 dX5_push_11 rfl rfl ?_
    refine tq_getR 4 dX5_push_12 cfX5 (by decide) wd_267 rfl rfl (fun x3 => ?_)
    refine tq_alen (by decide) dX5_push_15 (fun x4 => ?_)
    refine tq_icmp_ge 61 dX5_push_16 (by decide) (fun _ => ?_) (fun _ => ?_)
    · exact tq_sub [] rfl (tX5_push_61 G h)
    · refine tq_aload_n 0 0 dX5_push_19 rfl rfl ?_
      refine tq_getI 6 dX5_push_20 cfX5 (by decide) wd_269 rfl rfl (fun x5 => ?_)
      refine tq_aload_n 0 0 dX5_push_23 rfl rfl ?_
      refine tq_getR 5 dX5_push_24 cfX5 (by decide) wd_268 rfl rfl (fun x6 => ?_)
      refine tq_alen (by decide) dX5_push_27 (fun x7 => ?_)
      refine tq_icmp_ge 61 dX5_push_28 (by decide) (fun _ => ?_) (fun _ => ?_)
      · exact tq_sub [] rfl (tX5_push_61 G h)
      · refine tq_aload_n 0 0 dX5_push_31 rfl rfl ?_
        refine tq_getR 4 dX5_push_32 cfX5 (by decide) wd_267 rfl rfl (fun x8 => ?_)
        refine tq_aload_n 0 0 dX5_push_35 rfl rfl ?_
        refine tq_getI 6 dX5_push_36 cfX5 (by decide) wd_269 rfl rfl (fun x9 => ?_)
        refine tq_aload_n 1 1 dX5_push_39 rfl rfl ?_
        refine tq_aast (by decide) cfX3 rfl dX5_push_40 (fun h10 => ?_)
        refine tq_aload_n 0 0 dX5_push_41 rfl rfl ?_
        refine tq_getR 5 dX5_push_42 cfX5 (by decide) wd_268 rfl rfl (fun x11 => ?_)
        refine tq_aload_n 0 0 dX5_push_45 rfl rfl ?_
        refine tq_getI 6 dX5_push_46 cfX5 (by decide) wd_269 rfl rfl (fun x12 => ?_)
        refine tq_iload_n 2 2 dX5_push_49 rfl rfl ?_
        refine tq_iast dX5_push_50 (fun h13 => ?_)
        refine tq_aload_n 0 0 dX5_push_51 rfl rfl ?_
        refine tq_dupR dX5_push_52 ?_
        refine tq_getI 6 dX5_push_53 cfX5 (by decide) wd_269 rfl rfl (fun x14 => ?_)
        refine tq_iconst (nI 1) dX5_push_56 (by decide) ?_
        refine tq_iadd dX5_push_57 ?_
        refine tq_putI 6 dX5_push_58 cfX5 (by decide) wd_269 rfl rfl (Or.inl rfl) (fun h15 => ?_)
        exact tq_sub [] rfl (tX5_push_61 G h15)
noncomputable def fX5_push (v0 : Option Nat) (v1 : Option Nat) (v2 : Int32) (h : AH) : Option (Unit × AH) := fX5_push_0 v0 v1 v2 h
theorem eX5_push (G : sr_G) (v0 : Option Nat) (v1 : Option Nat) (v2 : Int32) (h : AH) : sr_E G 0 yX5_push cX5_push 3 none jV [vR v0, vR v1, vI v2] h (fX5_push v0 v1 v2 h) := sr_E.of (own := RX5) (ini := false) (by decide) rfl (fun q => by first | rfl | cases q) rfl (Nat.le_of_ble_eq_true rfl) (tX5_push_0 G v0 v1 v2 h)
noncomputable def fX7_leastFree_40   (h : AH) : Option (Int32 × AH) := some ((-1), h)
theorem tX7_leastFree_40 (G : sr_G)  (h : AH) : sr_T (X := Int32) G 0 RX7 cX7_leastFree 2 (some .int) false (sr_M G jI) 40 [] [] h (fX7_leastFree_40  h) := by
  unfold fX7_leastFree_40
  refine tq_iconst (-1) dX7_leastFree_40 (by decide) ?_
  exact tq_iret rfl dX7_leastFree_41
noncomputable def fX7_leastFree_32  (v1 : Int32) (h : AH) : Option (Int32 × AH) := some (v1, h)
theorem tX7_leastFree_32 (G : sr_G) (v1 : Int32) (h : AH) : sr_T (X := Int32) G 0 RX7 cX7_leastFree 2 (some .int) false (sr_M G jI) 32 [(1, vI v1)] [] h (fX7_leastFree_32  v1 h) := by
  unfold fX7_leastFree_32
  refine tq_iload_n 1 0 dX7_leastFree_32 rfl rfl ?_
  exact tq_iret rfl dX7_leastFree_33
noncomputable def fX7_leastFree_2  : Nat → Option Nat → Int32 → AH → Option (Int32 × AH)
  | 0, _, _, _ => none
  | n + 1, v0, v1, h => cGR h 7 350 v0 fun x1 => cAN h 3 x1 fun x2 => if x2 ≤ v1 then (fX7_leastFree_40 h) else (cGR h 7 350 v0 fun x3 => cQL h 3 x3 v1 fun x4 => if x4 = none then (fX7_leastFree_32 v1 h) else (cGR h 7 350 v0 fun x5 => cQL h 3 x5 v1 fun x6 => cGI h 3 152 x6 fun x7 => if x7 = 0 then (fX7_leastFree_32 v1 h) else (fX7_leastFree_2 n v0 (v1 + (nI 1)) h)))
theorem tX7_leastFree_2 (G : sr_G) : ∀ (n : Nat) (v0 : Option Nat) (v1 : Int32) (h : AH), sr_T (X := Int32) G 0 RX7 cX7_leastFree 2 (some .int) false (sr_M G jI) 2 [(0, vR v0), (1, vI v1)] [] h (fX7_leastFree_2  n v0 v1 h) := by
  intro n
  induction n with
  | zero => intro v0 v1 h; exact tq_none
  | succ n ih =>
    intro v0 v1 h
    unfold fX7_leastFree_2
    refine tq_iload_n 1 1 dX7_leastFree_2 rfl rfl ?_
    refine tq_aload_n 0 0 dX7_leastFree_3 rfl rfl ?_
    refine tq_getR 0 dX7_leastFree_4 cfX7 (by decide) wd_242 rfl rfl (fun x1 => ?_)
    refine tq_alen (by decide) dX7_leastFree_7 (fun x2 => ?_)
    refine tq_icmp_ge 40 dX7_leastFree_8 (by decide) (fun _ => ?_) (fun _ => ?_)
    · exact tq_sub [] rfl (tX7_leastFree_40 G h)
    · refine tq_aload_n 0 0 dX7_leastFree_11 rfl rfl ?_
      refine tq_getR 0 dX7_leastFree_12 cfX7 (by decide) wd_242 rfl rfl (fun x3 => ?_)
      refine tq_iload_n 1 1 dX7_leastFree_15 rfl rfl ?_
      refine tq_aald (by decide) dX7_leastFree_16 (fun x4 => ?_)
      refine tq_ifnull 32 dX7_leastFree_17 (by decide) (fun _ => ?_) (fun _ => ?_)
      · exact tq_sub [1] rfl (tX7_leastFree_32 G v1 h)
      · refine tq_aload_n 0 0 dX7_leastFree_20 rfl rfl ?_
        refine tq_getR 0 dX7_leastFree_21 cfX7 (by decide) wd_242 rfl rfl (fun x5 => ?_)
        refine tq_iload_n 1 1 dX7_leastFree_24 rfl rfl ?_
        refine tq_aald (by decide) dX7_leastFree_25 (fun x6 => ?_)
        refine tq_getI 2 dX7_leastFree_26 cfX3 (by decide) wd_179 rfl rfl (fun x7 => ?_)
        refine tq_if_ne 34 dX7_leastFree_29 (by decide) (fun _ => ?_) (fun _ => ?_)
        · refine tq_iinc 1 (nI 1) (L' := [(1, vI (v1 + (nI 1))), (0, vR v0)]) dX7_leastFree_34 rfl (by decide) (by decide) rfl ?_
          refine tq_goto 2 dX7_leastFree_37 (by decide) ?_
          exact tq_sub [1, 0] rfl (ih v0 (v1 + (nI 1)) h)
        · exact tq_sub [1] rfl (tX7_leastFree_32 G v1 h)
noncomputable def fX7_leastFree_0  (v0 : Option Nat) (h : AH) : Option (Int32 × AH) := fX7_leastFree_2 FU v0 (nI 0) h
theorem tX7_leastFree_0 (G : sr_G) (v0 : Option Nat) (h : AH) : sr_T (X := Int32) G 0 RX7 cX7_leastFree 2 (some .int) false (sr_M G jI) 0 [(0, vR v0)] [] h (fX7_leastFree_0  v0 h) := by
  unfold fX7_leastFree_0
  refine tq_iconst (nI 0) dX7_leastFree_0 (by decide) ?_
  refine tq_istore_n 1 (L' := [(1, vI (nI 0)), (0, vR v0)]) dX7_leastFree_1 rfl (by decide) rfl ?_
  exact tq_sub [1, 0] rfl (tX7_leastFree_2 G FU v0 (nI 0) h)
noncomputable def fX7_leastFree (v0 : Option Nat) (h : AH) : Option (Int32 × AH) := fX7_leastFree_0 v0 h
theorem eX7_leastFree (G : sr_G) (v0 : Option Nat) (h : AH) : sr_E G 0 yX7_leastFree cX7_leastFree 2 (some .int) jI [vR v0] h (fX7_leastFree v0 h) := sr_E.of (own := RX7) (ini := false) (by decide) rfl (fun q => by first | rfl | cases q) rfl (Nat.le_of_ble_eq_true rfl) (tX7_leastFree_0 G v0 h)
noncomputable def fX7_grow_13   (h : AH) : Option (Option Nat × AH) := some (none, h)
theorem tX7_grow_13 (G : sr_G)  (h : AH) : sr_T (X := Option Nat) G 3 RX7 cX7_grow 7 (some (.object "SoupReader$Node")) false (sr_M G jR) 13 [] [] h (fX7_grow_13  h) := by
  unfold fX7_grow_13
  refine tq_null dX7_grow_13 ?_
  exact tq_aret rfl dX7_grow_14
noncomputable def fX7_grow_36   (h : AH) : Option (Option Nat × AH) := some (none, h)
theorem tX7_grow_36 (G : sr_G)  (h : AH) : sr_T (X := Option Nat) G 3 RX7 cX7_grow 7 (some (.object "SoupReader$Node")) false (sr_M G jR) 36 [] [] h (fX7_grow_36  h) := by
  unfold fX7_grow_36
  refine tq_null dX7_grow_36 ?_
  exact tq_aret rfl dX7_grow_37
noncomputable def fX7_grow_64  (v0 : Option Nat) (v1 : Option Nat) (v2 : Int32) (v3 : Int64) (v5 : Int32) (h : AH) : Option (Option Nat × AH) := cGR h 7 350 v0 fun x1 => cQL h 3 x1 v5 fun x2 => cCV h 3 x2 (fX3_begin x2 v2 v3 h) fun _ h3 => cCV h3 3 v1 (fX3_linkLast v1 x2 h3) fun _ h4 => cGI h4 7 352 v0 fun x5 => cPI h4 7 352 v0 (x5 + (nI 1)) fun h6 => some (x2, h6)
theorem tX7_grow_64 (G : sr_G) (v0 : Option Nat) (v1 : Option Nat) (v2 : Int32) (v3 : Int64) (v5 : Int32) (h : AH) : sr_T (X := Option Nat) G 3 RX7 cX7_grow 7 (some (.object "SoupReader$Node")) false (sr_M G jR) 64 [(0, vR v0), (1, vR v1), (2, vI v2), (3, vL v3), (5, vI v5)] [] h (fX7_grow_64  v0 v1 v2 v3 v5 h) := by
  unfold fX7_grow_64
  refine tq_aload_n 0 0 dX7_grow_64 rfl rfl ?_
  refine tq_getR 0 dX7_grow_65 cfX7 (by decide) wd_242 rfl rfl (fun x1 => ?_)
  refine tq_iload 4 dX7_grow_68 rfl ?_
  refine tq_aald (by decide) dX7_grow_70 (fun x2 => ?_)
  refine tq_astore (L' := [(6, vR x2), (0, vR v0), (1, vR v1), (2, vI v2), (3, vL v3), (5, vI v5)]) dX7_grow_71 (by decide) rfl ?_
  refine tq_aload 0 dX7_grow_73 rfl ?_
  refine tq_iload_n 2 3 dX7_grow_75 rfl rfl ?_
  refine tq_lload_n 3 4 dX7_grow_76 rfl rfl ?_
  refine tq_cVV [vI v2, vL v3] [] dX7_grow_77 (eX3_begin G x2 v2 v3 h) (by decide) mbX3_begin cfX3 rfl wd_238 wd_239 wd_240 rfl rfl (Nat.le_of_ble_eq_true rfl) (fun _ h3 => ?_)
  refine tq_aload_n 1 2 dX7_grow_80 rfl rfl ?_
  refine tq_aload 0 dX7_grow_81 rfl ?_
  refine tq_cVV [vR x2] [] dX7_grow_83 (eX3_linkLast G v1 x2 h3) (by decide) mbX3_linkLast cfX3 rfl wd_456 wd_457 wd_458 rfl rfl (Nat.le_of_ble_eq_true rfl) (fun _ h4 => ?_)
  refine tq_aload_n 0 1 dX7_grow_86 rfl rfl ?_
  refine tq_dupR dX7_grow_87 ?_
  refine tq_getI 2 dX7_grow_88 cfX7 (by decide) wd_245 rfl rfl (fun x5 => ?_)
  refine tq_iconst (nI 1) dX7_grow_91 (by decide) ?_
  refine tq_iadd dX7_grow_92 ?_
  refine tq_putI 2 dX7_grow_93 cfX7 (by decide) wd_245 rfl rfl (Or.inl rfl) (fun h6 => ?_)
  refine tq_aload 0 dX7_grow_96 rfl ?_
  exact tq_aret rfl dX7_grow_98
noncomputable def fX7_grow_0  (v0 : Option Nat) (v1 : Option Nat) (v2 : Int32) (v3 : Int64) (h : AH) : Option (Option Nat × AH) := if v1 = none then (fX7_grow_13 h) else (cGI h 3 155 v1 fun x1 => if x1 < (nI 20) then (cCV h 7 v0 (fX7_leastFree v0 h) fun x3 h2 => if x3 < 0 then (fX7_grow_36 h2) else (cGR h2 7 350 v0 fun x4 => cAN h2 3 x4 fun x5 => if x3 < x5 then (cGR h2 7 350 v0 fun x6 => cQL h2 3 x6 x3 fun x7 => if x7 = none then (cGR h2 7 350 v0 fun x8 => cNO h2 3 14 fun x9 h10 => cCV h10 3 x9 (fX3_init x9 x3 h10) fun _ h11 => cQS h11 3 3 x8 x3 x9 fun h12 => fX7_grow_64 v0 v1 v2 v3 x3 h12) else (fX7_grow_64 v0 v1 v2 v3 x3 h2)) else (fX7_grow_36 h2))) else (fX7_grow_13 h))
theorem tX7_grow_0 (G : sr_G) (v0 : Option Nat) (v1 : Option Nat) (v2 : Int32) (v3 : Int64) (h : AH) : sr_T (X := Option Nat) G 3 RX7 cX7_grow 7 (some (.object "SoupReader$Node")) false (sr_M G jR) 0 [(0, vR v0), (1, vR v1), (2, vI v2), (3, vL v3)] [] h (fX7_grow_0  v0 v1 v2 v3 h) := by
  unfold fX7_grow_0
  refine tq_aload_n 1 1 dX7_grow_0 rfl rfl ?_
  refine tq_ifnull 13 dX7_grow_1 (by decide) (fun _ => ?_) (fun _ => ?_)
  · exact tq_sub [] rfl (tX7_grow_13 G h)
  · refine tq_aload_n 1 1 dX7_grow_4 rfl rfl ?_
    refine tq_getI 5 dX7_grow_5 cfX3 (by decide) wd_188 rfl rfl (fun x1 => ?_)
    refine tq_bipush (nI 20) dX7_grow_8 (by decide) ?_
    refine tq_icmp_lt 15 dX7_grow_10 (by decide) (fun _ => ?_) (fun _ => ?_)
    · refine tq_aload_n 0 0 dX7_grow_15 rfl rfl ?_
      refine tq_cVI [] [] dX7_grow_16 (eX7_leastFree G v0 h) (by decide) mbX7_leastFree cfX7 rfl wd_452 wd_454 wd_10 rfl rfl (Nat.le_of_ble_eq_true rfl) (fun x3 h2 => ?_)
      refine tq_istore (L' := [(5, vI x3), (0, vR v0), (1, vR v1), (2, vI v2), (3, vL v3)]) dX7_grow_19 (by decide) rfl ?_
      refine tq_iload 0 dX7_grow_21 rfl ?_
      refine tq_if_lt 36 dX7_grow_23 (by decide) (fun _ => ?_) (fun _ => ?_)
      · exact tq_sub [] rfl (tX7_grow_36 G h2)
      · refine tq_iload 0 dX7_grow_26 rfl ?_
        refine tq_aload_n 0 1 dX7_grow_28 rfl rfl ?_
        refine tq_getR 0 dX7_grow_29 cfX7 (by decide) wd_242 rfl rfl (fun x4 => ?_)
        refine tq_alen (by decide) dX7_grow_32 (fun x5 => ?_)
        refine tq_icmp_lt 38 dX7_grow_33 (by decide) (fun _ => ?_) (fun _ => ?_)
        · refine tq_aload_n 0 1 dX7_grow_38 rfl rfl ?_
          refine tq_getR 0 dX7_grow_39 cfX7 (by decide) wd_242 rfl rfl (fun x6 => ?_)
          refine tq_iload 0 dX7_grow_42 rfl ?_
          refine tq_aald (by decide) dX7_grow_44 (fun x7 => ?_)
          refine tq_ifnonnull 64 dX7_grow_45 (by decide) (fun _ => ?_) (fun _ => ?_)
          · exact tq_sub [1, 2, 3, 4, 0] rfl (tX7_grow_64 G v0 v1 v2 v3 x3 h2)
          · refine tq_aload_n 0 1 dX7_grow_48 rfl rfl ?_
            refine tq_getR 0 dX7_grow_49 cfX7 (by decide) wd_242 rfl rfl (fun x8 => ?_)
            refine tq_iload 0 dX7_grow_52 rfl ?_
            refine tq_new dX7_grow_54 cfX3 dvX3 wd_148 wd_150 wd_75 (fun x9 h10 => ?_)
            refine tq_dupR dX7_grow_57 ?_
            refine tq_iload 0 dX7_grow_58 rfl ?_
            refine tq_callI [vI x3] [vR x9, vI x3, vR x8] dX7_grow_60 (eX3_init G x9 x3 h10) (by decide) mbX3_init wd_151 wd_152 rfl rfl rfl (Nat.le_of_ble_eq_true rfl) (fun _ h11 => ?_)
            refine tq_aast (by decide) cfX3 rfl dX7_grow_63 (fun h12 => ?_)
            exact tq_sub [1, 2, 3, 4, 0] rfl (tX7_grow_64 G v0 v1 v2 v3 x3 h12)
        · exact tq_sub [] rfl (tX7_grow_36 G h2)
    · exact tq_sub [] rfl (tX7_grow_13 G h)
noncomputable def fX7_grow (v0 : Option Nat) (v1 : Option Nat) (v2 : Int32) (v3 : Int64) (h : AH) : Option (Option Nat × AH) := fX7_grow_0 v0 v1 v2 v3 h
theorem eX7_grow (G : sr_G) (v0 : Option Nat) (v1 : Option Nat) (v2 : Int32) (v3 : Int64) (h : AH) : sr_E G 3 yX7_grow cX7_grow 7 (some (.object "SoupReader$Node")) jR [vR v0, vR v1, vI v2, vL v3] h (fX7_grow v0 v1 v2 v3 h) := sr_E.of (own := RX7) (ini := false) (by decide) rfl (fun q => by first | rfl | cases q) rfl (Nat.le_of_ble_eq_true rfl) (tX7_grow_0 G v0 v1 v2 v3 h)
noncomputable def fX5_takeStartTag_72   (h : AH) : Option (Unit × AH) := some ((), h)
theorem tX5_takeStartTag_72 (G : sr_G)  (h : AH) : sr_T (X := Unit) G 6 RX5 cX5_takeStartTag 6 none false (sr_M G jV) 72 [] [] h (fX5_takeStartTag_72  h) := by
  unfold fX5_takeStartTag_72
  exact tq_vret rfl dX5_takeStartTag_72
noncomputable def fX5_takeStartTag_0  (v0 : Option Nat) (v1 : Int64) (v3 : Int32) (h : AH) : Option (Unit × AH) := cCL (fX8_tagOf v1 h) fun x2 h1 => cCV h1 5 v0 (fX5_closeBefore v0 x2 v3 h1) fun _ h3 => cGR h3 5 251 v0 fun x4 => cCV h3 5 v0 (fX5_innermost v0 h3) fun x6 h5 => cCV h5 7 x4 (fX7_grow x4 x6 x2 v1 h5) fun x8 h7 => if x8 = none then (cGR h7 5 252 v0 fun x15 => cCV h7 2 x15 (fX2_tell x15 (nI 6) v3 h7) fun _ h16 => some ((), h16)) else (cGR h7 3 151 x8 fun x9 => cGR h7 5 253 v0 fun x10 => cCV h7 1 x9 (fX1_copyFrom x9 x10 h7) fun _ h11 => cCL (fX8_isEmptyTag x2 h11) fun x13 h12 => if x13 = 0 then (cCV h12 5 v0 (fX5_push v0 x8 v3 h12) fun _ h14 => fX5_takeStartTag_72 h14) else (fX5_takeStartTag_72 h12))
theorem tX5_takeStartTag_0 (G : sr_G) (v0 : Option Nat) (v1 : Int64) (v3 : Int32) (h : AH) : sr_T (X := Unit) G 6 RX5 cX5_takeStartTag 6 none false (sr_M G jV) 0 [(0, vR v0), (1, vL v1), (3, vI v3)] [] h (fX5_takeStartTag_0  v0 v1 v3 h) := by
  unfold fX5_takeStartTag_0
  refine tq_lload_n 1 1 dX5_takeStartTag_0 rfl rfl ?_
  refine tq_cNI [vL v1] [] dX5_takeStartTag_1 (eX8_tagOf G v1 h) (by decide) mbX8_tagOf (host := "SoupReader") (by decide) wd_575 rfl rfl (Nat.le_of_ble_eq_true rfl) (fun x2 h1 => ?_)
  refine tq_istore (L' := [(4, vI x2), (0, vR v0), (1, vL v1), (3, vI v3)]) dX5_takeStartTag_4 (by decide) rfl ?_
  refine tq_aload_n 0 1 dX5_takeStartTag_6 rfl rfl ?_
  refine tq_iload 0 dX5_takeStartTag_7 rfl ?_
  refine tq_iload_n 3 3 dX5_takeStartTag_9 rfl rfl ?_
  refine tq_cVV [vI x2, vI v3] [] dX5_takeStartTag_10 (eX5_closeBefore G v0 x2 v3 h1) (by decide) mbX5_closeBefore cfX5 rfl wd_600 wd_602 wd_25 rfl rfl (Nat.le_of_ble_eq_true rfl) (fun _ h3 => ?_)
  refine tq_aload_n 0 1 dX5_takeStartTag_13 rfl rfl ?_
  refine tq_getR 1 dX5_takeStartTag_14 cfX5 (by decide) wd_264 rfl rfl (fun x4 => ?_)
  refine tq_aload_n 0 1 dX5_takeStartTag_17 rfl rfl ?_
  refine tq_cVR [] [vR x4] dX5_takeStartTag_18 (eX5_innermost G v0 h3) (by decide) mbX5_innermost cfX5 rfl wd_437 wd_439 wd_8 rfl rfl (Nat.le_of_ble_eq_true rfl) (fun x6 h5 => ?_)
  refine tq_iload 0 dX5_takeStartTag_21 rfl ?_
  refine tq_lload_n 1 2 dX5_takeStartTag_23 rfl rfl ?_
  refine tq_cVR [vR x6, vI x2, vL v1] [] dX5_takeStartTag_24 (eX7_grow G x4 x6 x2 v1 h5) (by decide) mbX7_grow cfX7 rfl wd_448 wd_449 wd_450 rfl rfl (Nat.le_of_ble_eq_true rfl) (fun x8 h7 => ?_)
  refine tq_astore (L' := [(5, vR x8), (4, vI x2), (0, vR v0), (1, vL v1), (3, vI v3)]) dX5_takeStartTag_27 (by decide) rfl ?_
  refine tq_aload 0 dX5_takeStartTag_29 rfl ?_
  refine tq_ifnonnull 45 dX5_takeStartTag_31 (by decide) (fun _ => ?_) (fun _ => ?_)
  · refine tq_aload 0 dX5_takeStartTag_45 rfl ?_
    refine tq_getR 1 dX5_takeStartTag_47 cfX3 (by decide) wd_177 rfl rfl (fun x9 => ?_)
    refine tq_aload_n 0 2 dX5_takeStartTag_50 rfl rfl ?_
    refine tq_getR 3 dX5_takeStartTag_51 cfX5 (by decide) wd_266 rfl rfl (fun x10 => ?_)
    refine tq_cVV [vR x10] [] dX5_takeStartTag_54 (eX1_copyFrom G x9 x10 h7) (by decide) mbX1_copyFrom cfX1 rfl wd_611 wd_612 wd_613 rfl rfl (Nat.le_of_ble_eq_true rfl) (fun _ h11 => ?_)
    refine tq_iload 1 dX5_takeStartTag_57 rfl ?_
    refine tq_cNI [vI x2] [] dX5_takeStartTag_59 (eX8_isEmptyTag G x2 h11) (by decide) mbX8_isEmptyTag (host := "SoupReader") (by decide) wd_582 rfl rfl (Nat.le_of_ble_eq_true rfl) (fun x13 h12 => ?_)
    refine tq_if_ne 72 dX5_takeStartTag_62 (by decide) (fun _ => ?_) (fun _ => ?_)
    · exact tq_sub [] rfl (tX5_takeStartTag_72 G h12)
    · refine tq_aload_n 0 2 dX5_takeStartTag_65 rfl rfl ?_
      refine tq_aload 0 dX5_takeStartTag_66 rfl ?_
      refine tq_iload_n 3 4 dX5_takeStartTag_68 rfl rfl ?_
      refine tq_cVV [vR x8, vI v3] [] dX5_takeStartTag_69 (eX5_push G v0 x8 v3 h12) (by decide) mbX5_push cfX5 rfl wd_621 wd_623 wd_27 rfl rfl (Nat.le_of_ble_eq_true rfl) (fun _ h14 => ?_)
      exact tq_sub [] rfl (tX5_takeStartTag_72 G h14)
  · refine tq_aload_n 0 2 dX5_takeStartTag_34 rfl rfl ?_
    refine tq_getR 2 dX5_takeStartTag_35 cfX5 (by decide) wd_265 rfl rfl (fun x15 => ?_)
    refine tq_bipush (nI 6) dX5_takeStartTag_38 (by decide) ?_
    refine tq_iload_n 3 4 dX5_takeStartTag_40 rfl rfl ?_
    refine tq_cVV [vI (nI 6), vI v3] [] dX5_takeStartTag_41 (eX2_tell G x15 (nI 6) v3 h7) (by decide) mbX2_tell cfX2 rfl wd_460 wd_461 wd_462 rfl rfl (Nat.le_of_ble_eq_true rfl) (fun _ h16 => ?_)
    exact tq_vret rfl dX5_takeStartTag_44
noncomputable def fX5_takeStartTag (v0 : Option Nat) (v1 : Int64) (v3 : Int32) (h : AH) : Option (Unit × AH) := fX5_takeStartTag_0 v0 v1 v3 h
theorem eX5_takeStartTag (G : sr_G) (v0 : Option Nat) (v1 : Int64) (v3 : Int32) (h : AH) : sr_E G 6 yX5_takeStartTag cX5_takeStartTag 6 none jV [vR v0, vL v1, vI v3] h (fX5_takeStartTag v0 v1 v3 h) := sr_E.of (own := RX5) (ini := false) (by decide) rfl (fun q => by first | rfl | cases q) rfl (Nat.le_of_ble_eq_true rfl) (tX5_takeStartTag_0 G v0 v1 v3 h)
noncomputable def fX5_readTag_214   (h : AH) : Option (Unit × AH) := some ((), h)
theorem tX5_readTag_214 (G : sr_G)  (h : AH) : sr_T (X := Unit) G 9 RX5 cX5_readTag 7 none false (sr_M G jV) 214 [] [] h (fX5_readTag_214  h) := by
  unfold fX5_readTag_214
  exact tq_vret rfl dX5_readTag_214
noncomputable def fX5_readTag_151  (v0 : Option Nat) (v1 : Int32) (v2 : Int32) (v3 : Int32) (v4 : Int64) (h : AH) : Option (Unit × AH) := cGI h 5 257 v0 fun x1 => cGR h 5 250 v0 fun x2 => cGI h 6 301 x2 fun x3 => if x1 < x3 then (cGI h 5 257 v0 fun x4 => cPI h 5 257 v0 (x4 + (nI 1)) fun h5 => if v3 = 0 then (cCV h5 5 v0 (fX5_takeStartTag v0 v4 v1 h5) fun _ h6 => fX5_readTag_214 h6) else (cCV h5 5 v0 (fX5_takeEndTag v0 v4 v1 h5) fun _ h7 => fX5_readTag_214 h7)) else (cGR h 5 252 v0 fun x8 => cPI h 2 102 x8 v2 fun h9 => cGR h9 5 252 v0 fun x10 => cCV h9 2 x10 (fX2_tell x10 (nI 1) v1 h9) fun _ h11 => some ((), h11))
theorem tX5_readTag_151 (G : sr_G) (v0 : Option Nat) (v1 : Int32) (v2 : Int32) (v3 : Int32) (v4 : Int64) (h : AH) : sr_T (X := Unit) G 9 RX5 cX5_readTag 7 none false (sr_M G jV) 151 [(0, vR v0), (1, vI v1), (2, vI v2), (3, vI v3), (4, vL v4)] [] h (fX5_readTag_151  v0 v1 v2 v3 v4 h) := by
  unfold fX5_readTag_151
  refine tq_aload_n 0 0 dX5_readTag_151 rfl rfl ?_
  refine tq_getI 7 dX5_readTag_152 cfX5 (by decide) wd_270 rfl rfl (fun x1 => ?_)
  refine tq_aload_n 0 0 dX5_readTag_155 rfl rfl ?_
  refine tq_getR 0 dX5_readTag_156 cfX5 (by decide) wd_263 rfl rfl (fun x2 => ?_)
  refine tq_getI 1 dX5_readTag_159 cfX6 (by decide) wd_101 rfl rfl (fun x3 => ?_)
  refine tq_icmp_lt 183 dX5_readTag_162 (by decide) (fun _ => ?_) (fun _ => ?_)
  · refine tq_aload_n 0 0 dX5_readTag_183 rfl rfl ?_
    refine tq_dupR dX5_readTag_184 ?_
    refine tq_getI 7 dX5_readTag_185 cfX5 (by decide) wd_270 rfl rfl (fun x4 => ?_)
    refine tq_iconst (nI 1) dX5_readTag_188 (by decide) ?_
    refine tq_iadd dX5_readTag_189 ?_
    refine tq_putI 7 dX5_readTag_190 cfX5 (by decide) wd_270 rfl rfl (Or.inl rfl) (fun h5 => ?_)
    refine tq_iload_n 3 3 dX5_readTag_193 rfl rfl ?_
    refine tq_if_eq 207 dX5_readTag_194 (by decide) (fun _ => ?_) (fun _ => ?_)
    · refine tq_aload_n 0 0 dX5_readTag_207 rfl rfl ?_
      refine tq_lload 4 dX5_readTag_208 rfl ?_
      refine tq_iload_n 1 1 dX5_readTag_210 rfl rfl ?_
      refine tq_cVV [vL v4, vI v1] [] dX5_readTag_211 (eX5_takeStartTag G v0 v4 v1 h5) (by decide) mbX5_takeStartTag cfX5 rfl wd_596 wd_598 wd_24 rfl rfl (Nat.le_of_ble_eq_true rfl) (fun _ h6 => ?_)
      exact tq_sub [] rfl (tX5_readTag_214 G h6)
    · refine tq_aload_n 0 0 dX5_readTag_197 rfl rfl ?_
      refine tq_lload 4 dX5_readTag_198 rfl ?_
      refine tq_iload_n 1 1 dX5_readTag_200 rfl rfl ?_
      refine tq_cVV [vL v4, vI v1] [] dX5_readTag_201 (eX5_takeEndTag G v0 v4 v1 h5) (by decide) mbX5_takeEndTag cfX5 rfl wd_570 wd_572 wd_20 rfl rfl (Nat.le_of_ble_eq_true rfl) (fun _ h7 => ?_)
      refine tq_goto 214 dX5_readTag_204 (by decide) ?_
      exact tq_sub [] rfl (tX5_readTag_214 G h7)
  · refine tq_aload_n 0 0 dX5_readTag_165 rfl rfl ?_
    refine tq_getR 2 dX5_readTag_166 cfX5 (by decide) wd_265 rfl rfl (fun x8 => ?_)
    refine tq_iload_n 2 2 dX5_readTag_169 rfl rfl ?_
    refine tq_putI 2 dX5_readTag_170 cfX2 (by decide) wd_132 rfl rfl (Or.inl rfl) (fun h9 => ?_)
    refine tq_aload_n 0 0 dX5_readTag_173 rfl rfl ?_
    refine tq_getR 2 dX5_readTag_174 cfX5 (by decide) wd_265 rfl rfl (fun x10 => ?_)
    refine tq_iconst (nI 1) dX5_readTag_177 (by decide) ?_
    refine tq_iload_n 1 1 dX5_readTag_178 rfl rfl ?_
    refine tq_cVV [vI (nI 1), vI v1] [] dX5_readTag_179 (eX2_tell G x10 (nI 1) v1 h9) (by decide) mbX2_tell cfX2 rfl wd_460 wd_461 wd_462 rfl rfl (Nat.le_of_ble_eq_true rfl) (fun _ h11 => ?_)
    exact tq_vret rfl dX5_readTag_182
noncomputable def fX5_readTag_145 (r68 : Option Nat → Int32 → Int32 → Int32 → Int64 → Int32 → AH → Option (Unit × AH)) (v0 : Option Nat) (v1 : Int32) (v2 : Int32) (v3 : Int32) (v4 : Int64) (v6 : Int32) (h : AH) : Option (Unit × AH) := r68 v0 v1 v2 v3 v4 (v6 + (nI 1)) h
theorem tX5_readTag_145 (G : sr_G) {r68 : Option Nat → Int32 → Int32 → Int32 → Int64 → Int32 → AH → Option (Unit × AH)} (hr68 : ∀ (v0 : Option Nat) (v1 : Int32) (v2 : Int32) (v3 : Int32) (v4 : Int64) (v6 : Int32) (h : AH), sr_T (X := Unit) G 9 RX5 cX5_readTag 7 none false (sr_M G jV) 68 [(0, vR v0), (1, vI v1), (2, vI v2), (3, vI v3), (4, vL v4), (6, vI v6)] [] h (r68 v0 v1 v2 v3 v4 v6 h)) (v0 : Option Nat) (v1 : Int32) (v2 : Int32) (v3 : Int32) (v4 : Int64) (v6 : Int32) (h : AH) : sr_T (X := Unit) G 9 RX5 cX5_readTag 7 none false (sr_M G jV) 145 [(0, vR v0), (1, vI v1), (2, vI v2), (3, vI v3), (4, vL v4), (6, vI v6)] [] h (fX5_readTag_145 r68 v0 v1 v2 v3 v4 v6 h) := by
  unfold fX5_readTag_145
  refine tq_iinc 5 (nI 1) (L' := [(6, vI (v6 + (nI 1))), (0, vR v0), (1, vI v1), (2, vI v2), (3, vI v3), (4, vL v4)]) dX5_readTag_145 rfl (by decide) (by decide) rfl ?_
  refine tq_goto 68 dX5_readTag_148 (by decide) ?_
  exact tq_sub [1, 2, 3, 4, 5, 0] rfl (hr68 v0 v1 v2 v3 v4 (v6 + (nI 1)) h)
noncomputable def fX5_readTag_68  : Nat → Option Nat → Int32 → Int32 → Int32 → Int64 → Int32 → AH → Option (Unit × AH)
  | 0, _, _, _, _, _, _, _ => none
  | n + 1, v0, v1, v2, v3, v4, v6, h => cGR h 5 250 v0 fun x1 => cGI h 6 301 x1 fun x2 => if x2 ≤ v6 then (fX5_readTag_151 v0 v1 v2 v3 v4 h) else (cGI h 5 257 v0 fun x3 => cGR h 5 250 v0 fun x4 => cGI h 6 301 x4 fun x5 => if x5 ≤ x3 then (fX5_readTag_151 v0 v1 v2 v3 v4 h) else (cGR h 5 250 v0 fun x6 => cGI h 5 257 v0 fun x7 => cCV h 6 x6 (fX6_byteAt x6 x7 h) fun x9 h8 => if x9 = (nI 62) then (fX5_readTag_151 v0 v1 v2 v3 v4 h8) else (cGR h8 5 250 v0 fun x10 => cGI h8 5 257 v0 fun x11 => cCV h8 6 x10 (fX6_byteAt x10 x11 h8) fun x13 h12 => cCL (fX5_partsAttributes x13 h12) fun x15 h14 => if x15 = 0 then (cCV h14 5 v0 (fX5_readAttribute v0 v3 h14) fun _ h16 => fX5_readTag_145 (fX5_readTag_68 n) v0 v1 v2 v3 v4 v6 h16) else (cGI h14 5 257 v0 fun x17 => cPI h14 5 257 v0 (x17 + (nI 1)) fun h18 => fX5_readTag_145 (fX5_readTag_68 n) v0 v1 v2 v3 v4 v6 h18))))
theorem tX5_readTag_68 (G : sr_G) : ∀ (n : Nat) (v0 : Option Nat) (v1 : Int32) (v2 : Int32) (v3 : Int32) (v4 : Int64) (v6 : Int32) (h : AH), sr_T (X := Unit) G 9 RX5 cX5_readTag 7 none false (sr_M G jV) 68 [(0, vR v0), (1, vI v1), (2, vI v2), (3, vI v3), (4, vL v4), (6, vI v6)] [] h (fX5_readTag_68  n v0 v1 v2 v3 v4 v6 h) := by
  intro n
  induction n with
  | zero => intro v0 v1 v2 v3 v4 v6 h; exact tq_none
  | succ n ih =>
    intro v0 v1 v2 v3 v4 v6 h
    unfold fX5_readTag_68
    refine tq_iload 5 dX5_readTag_68 rfl ?_
    refine tq_aload_n 0 0 dX5_readTag_70 rfl rfl ?_
    refine tq_getR 0 dX5_readTag_71 cfX5 (by decide) wd_263 rfl rfl (fun x1 => ?_)
    refine tq_getI 1 dX5_readTag_74 cfX6 (by decide) wd_101 rfl rfl (fun x2 => ?_)
    refine tq_icmp_ge 151 dX5_readTag_77 (by decide) (fun _ => ?_) (fun _ => ?_)
    · exact tq_sub [0, 1, 2, 3, 4] rfl (tX5_readTag_151 G v0 v1 v2 v3 v4 h)
    · refine tq_aload_n 0 0 dX5_readTag_80 rfl rfl ?_
      refine tq_getI 7 dX5_readTag_81 cfX5 (by decide) wd_270 rfl rfl (fun x3 => ?_)
      refine tq_aload_n 0 0 dX5_readTag_84 rfl rfl ?_
      refine tq_getR 0 dX5_readTag_85 cfX5 (by decide) wd_263 rfl rfl (fun x4 => ?_)
      refine tq_getI 1 dX5_readTag_88 cfX6 (by decide) wd_101 rfl rfl (fun x5 => ?_)
      refine tq_icmp_ge 151 dX5_readTag_91 (by decide) (fun _ => ?_) (fun _ => ?_)
      · exact tq_sub [0, 1, 2, 3, 4] rfl (tX5_readTag_151 G v0 v1 v2 v3 v4 h)
      · refine tq_aload_n 0 0 dX5_readTag_94 rfl rfl ?_
        refine tq_getR 0 dX5_readTag_95 cfX5 (by decide) wd_263 rfl rfl (fun x6 => ?_)
        refine tq_aload_n 0 0 dX5_readTag_98 rfl rfl ?_
        refine tq_getI 7 dX5_readTag_99 cfX5 (by decide) wd_270 rfl rfl (fun x7 => ?_)
        refine tq_cVI [vI x7] [] dX5_readTag_102 (eX6_byteAt G x6 x7 h) (by decide) mbX6_byteAt cfX6 rfl wd_417 wd_337 wd_338 rfl rfl (Nat.le_of_ble_eq_true rfl) (fun x9 h8 => ?_)
        refine tq_bipush (nI 62) dX5_readTag_105 (by decide) ?_
        refine tq_icmp_eq 151 dX5_readTag_107 (by decide) (fun _ => ?_) (fun _ => ?_)
        · exact tq_sub [0, 1, 2, 3, 4] rfl (tX5_readTag_151 G v0 v1 v2 v3 v4 h8)
        · refine tq_aload_n 0 0 dX5_readTag_110 rfl rfl ?_
          refine tq_getR 0 dX5_readTag_111 cfX5 (by decide) wd_263 rfl rfl (fun x10 => ?_)
          refine tq_aload_n 0 0 dX5_readTag_114 rfl rfl ?_
          refine tq_getI 7 dX5_readTag_115 cfX5 (by decide) wd_270 rfl rfl (fun x11 => ?_)
          refine tq_cVI [vI x11] [] dX5_readTag_118 (eX6_byteAt G x10 x11 h8) (by decide) mbX6_byteAt cfX6 rfl wd_417 wd_337 wd_338 rfl rfl (Nat.le_of_ble_eq_true rfl) (fun x13 h12 => ?_)
          refine tq_cSI [vI x13] [] dX5_readTag_121 (eX5_partsAttributes G x13 h12) (by decide) mbX5_partsAttributes wd_506 wd_507 rfl rfl (Nat.le_of_ble_eq_true rfl) (fun x15 h14 => ?_)
          refine tq_if_eq 140 dX5_readTag_124 (by decide) (fun _ => ?_) (fun _ => ?_)
          · refine tq_aload_n 0 0 dX5_readTag_140 rfl rfl ?_
            refine tq_iload_n 3 3 dX5_readTag_141 rfl rfl ?_
            refine tq_cVV [vI v3] [] dX5_readTag_142 (eX5_readAttribute G v0 v3 h14) (by decide) mbX5_readAttribute cfX5 rfl wd_509 wd_511 wd_16 rfl rfl (Nat.le_of_ble_eq_true rfl) (fun _ h16 => ?_)
            exact tX5_readTag_145 G ih v0 v1 v2 v3 v4 v6 h16
          · refine tq_aload_n 0 0 dX5_readTag_127 rfl rfl ?_
            refine tq_dupR dX5_readTag_128 ?_
            refine tq_getI 7 dX5_readTag_129 cfX5 (by decide) wd_270 rfl rfl (fun x17 => ?_)
            refine tq_iconst (nI 1) dX5_readTag_132 (by decide) ?_
            refine tq_iadd dX5_readTag_133 ?_
            refine tq_putI 7 dX5_readTag_134 cfX5 (by decide) wd_270 rfl rfl (Or.inl rfl) (fun h18 => ?_)
            refine tq_goto 145 dX5_readTag_137 (by decide) ?_
            exact tX5_readTag_145 G ih v0 v1 v2 v3 v4 v6 h18
noncomputable def fX5_readTag_48  (v0 : Option Nat) (v1 : Int32) (v2 : Int32) (v3 : Int32) (s0 : Int32) (s1 : Option Nat) (h : AH) : Option (Unit × AH) := cPI h 5 257 s1 s0 fun h1 => cCV h1 5 v0 (fX5_readTagName v0 h1) fun x3 h2 => cGR h2 5 253 v0 fun x4 => cPI h2 1 51 x4 (nI 0) fun h5 => fX5_readTag_68 FU v0 v1 v2 v3 x3 v1 h5
theorem tX5_readTag_48 (G : sr_G) (v0 : Option Nat) (v1 : Int32) (v2 : Int32) (v3 : Int32) (s0 : Int32) (s1 : Option Nat) (h : AH) : sr_T (X := Unit) G 9 RX5 cX5_readTag 7 none false (sr_M G jV) 48 [(0, vR v0), (1, vI v1), (2, vI v2), (3, vI v3)] [vI s0, vR s1] h (fX5_readTag_48  v0 v1 v2 v3 s0 s1 h) := by
  unfold fX5_readTag_48
  refine tq_putI 7 dX5_readTag_48 cfX5 (by decide) wd_270 rfl rfl (Or.inl rfl) (fun h1 => ?_)
  refine tq_aload_n 0 0 dX5_readTag_51 rfl rfl ?_
  refine tq_cVL [] [] dX5_readTag_52 (eX5_readTagName G v0 h1) (by decide) mbX5_readTagName cfX5 rfl wd_496 wd_498 wd_15 rfl rfl (Nat.le_of_ble_eq_true rfl) (fun x3 h2 => ?_)
  refine tq_lstore (L' := [(4, vL x3), (0, vR v0), (1, vI v1), (2, vI v2), (3, vI v3)]) dX5_readTag_55 (by decide) rfl ?_
  refine tq_aload_n 0 1 dX5_readTag_57 rfl rfl ?_
  refine tq_getR 3 dX5_readTag_58 cfX5 (by decide) wd_266 rfl rfl (fun x4 => ?_)
  refine tq_iconst (nI 0) dX5_readTag_61 (by decide) ?_
  refine tq_putI 1 dX5_readTag_62 cfX1 (by decide) wd_167 rfl rfl (Or.inl rfl) (fun h5 => ?_)
  refine tq_iload_n 1 2 dX5_readTag_65 rfl rfl ?_
  refine tq_istore (L' := [(6, vI v1), (4, vL x3), (0, vR v0), (1, vI v1), (2, vI v2), (3, vI v3)]) dX5_readTag_66 (by decide) rfl ?_
  exact tq_sub [2, 3, 4, 5, 1, 0] rfl (tX5_readTag_68 G FU v0 v1 v2 v3 x3 v1 h5)
noncomputable def fX5_readTag_33  (v0 : Option Nat) (v1 : Int32) (v2 : Int32) (s0 : Int32) (h : AH) : Option (Unit × AH) := if s0 = 0 then (fX5_readTag_48 v0 v1 v2 s0 (v1 + (nI 1)) v0 h) else (fX5_readTag_48 v0 v1 v2 s0 (v1 + (nI 2)) v0 h)
theorem tX5_readTag_33 (G : sr_G) (v0 : Option Nat) (v1 : Int32) (v2 : Int32) (s0 : Int32) (h : AH) : sr_T (X := Unit) G 9 RX5 cX5_readTag 7 none false (sr_M G jV) 33 [(0, vR v0), (1, vI v1), (2, vI v2)] [vI s0] h (fX5_readTag_33  v0 v1 v2 s0 h) := by
  unfold fX5_readTag_33
  refine tq_istore_n 3 (L' := [(3, vI s0), (0, vR v0), (1, vI v1), (2, vI v2)]) dX5_readTag_33 rfl (by decide) rfl ?_
  refine tq_aload_n 0 1 dX5_readTag_34 rfl rfl ?_
  refine tq_iload_n 3 0 dX5_readTag_35 rfl rfl ?_
  refine tq_if_eq 45 dX5_readTag_36 (by decide) (fun _ => ?_) (fun _ => ?_)
  · refine tq_iload_n 1 2 dX5_readTag_45 rfl rfl ?_
    refine tq_iconst (nI 1) dX5_readTag_46 (by decide) ?_
    refine tq_iadd dX5_readTag_47 ?_
    exact tq_sub [1, 2, 3, 0] rfl (tX5_readTag_48 G v0 v1 v2 s0 (v1 + (nI 1)) v0 h)
  · refine tq_iload_n 1 2 dX5_readTag_39 rfl rfl ?_
    refine tq_iconst (nI 2) dX5_readTag_40 (by decide) ?_
    refine tq_iadd dX5_readTag_41 ?_
    refine tq_goto 48 dX5_readTag_42 (by decide) ?_
    exact tq_sub [1, 2, 3, 0] rfl (tX5_readTag_48 G v0 v1 v2 s0 (v1 + (nI 2)) v0 h)
noncomputable def fX5_readTag_0  (v0 : Option Nat) (h : AH) : Option (Unit × AH) := cGI h 5 257 v0 fun x1 => cGR h 5 252 v0 fun x2 => cGI h 2 102 x2 fun x3 => cGR h 5 250 v0 fun x4 => cCV h 6 x4 (fX6_byteAt x4 (x1 + (nI 1)) h) fun x6 h5 => if x6 = (nI 47) then (fX5_readTag_33 v0 x1 x3 (nI 1) h5) else (fX5_readTag_33 v0 x1 x3 (nI 0) h5)
theorem tX5_readTag_0 (G : sr_G) (v0 : Option Nat) (h : AH) : sr_T (X := Unit) G 9 RX5 cX5_readTag 7 none false (sr_M G jV) 0 [(0, vR v0)] [] h (fX5_readTag_0  v0 h) := by
  unfold fX5_readTag_0
  refine tq_aload_n 0 0 dX5_readTag_0 rfl rfl ?_
  refine tq_getI 7 dX5_readTag_1 cfX5 (by decide) wd_270 rfl rfl (fun x1 => ?_)
  refine tq_istore_n 1 (L' := [(1, vI x1), (0, vR v0)]) dX5_readTag_4 rfl (by decide) rfl ?_
  refine tq_aload_n 0 1 dX5_readTag_5 rfl rfl ?_
  refine tq_getR 2 dX5_readTag_6 cfX5 (by decide) wd_265 rfl rfl (fun x2 => ?_)
  refine tq_getI 2 dX5_readTag_9 cfX2 (by decide) wd_132 rfl rfl (fun x3 => ?_)
  refine tq_istore_n 2 (L' := [(2, vI x3), (1, vI x1), (0, vR v0)]) dX5_readTag_12 rfl (by decide) rfl ?_
  refine tq_aload_n 0 2 dX5_readTag_13 rfl rfl ?_
  refine tq_getR 0 dX5_readTag_14 cfX5 (by decide) wd_263 rfl rfl (fun x4 => ?_)
  refine tq_iload_n 1 1 dX5_readTag_17 rfl rfl ?_
  refine tq_iconst (nI 1) dX5_readTag_18 (by decide) ?_
  refine tq_iadd dX5_readTag_19 ?_
  refine tq_cVI [vI (x1 + (nI 1))] [] dX5_readTag_20 (eX6_byteAt G x4 (x1 + (nI 1)) h) (by decide) mbX6_byteAt cfX6 rfl wd_417 wd_337 wd_338 rfl rfl (Nat.le_of_ble_eq_true rfl) (fun x6 h5 => ?_)
  refine tq_bipush (nI 47) dX5_readTag_23 (by decide) ?_
  refine tq_icmp_ne 32 dX5_readTag_25 (by decide) (fun _ => ?_) (fun _ => ?_)
  · refine tq_iconst (nI 0) dX5_readTag_32 (by decide) ?_
    exact tq_sub [2, 1, 0] rfl (tX5_readTag_33 G v0 x1 x3 (nI 0) h5)
  · refine tq_iconst (nI 1) dX5_readTag_28 (by decide) ?_
    refine tq_goto 33 dX5_readTag_29 (by decide) ?_
    exact tq_sub [2, 1, 0] rfl (tX5_readTag_33 G v0 x1 x3 (nI 1) h5)
noncomputable def fX5_readTag (v0 : Option Nat) (h : AH) : Option (Unit × AH) := fX5_readTag_0 v0 h
theorem eX5_readTag (G : sr_G) (v0 : Option Nat) (h : AH) : sr_E G 9 yX5_readTag cX5_readTag 7 none jV [vR v0] h (fX5_readTag v0 h) := sr_E.of (own := RX5) (ini := false) (by decide) rfl (fun q => by first | rfl | cases q) rfl (Nat.le_of_ble_eq_true rfl) (tX5_readTag_0 G v0 h)
noncomputable def fX5_startsTag_24  (v0 : Option Nat) (s0 : Int32) (h : AH) : Option (Int32 × AH) := cGR h 5 250 v0 fun x1 => cCV h 6 x1 (fX6_byteAt x1 s0 h) fun x3 h2 => cCL (fX8_asSmall x3 h2) fun x5 h4 => cCL (fX8_isSmallLetter x5 h4) fun x7 h6 => cZ x7 (some (x7, h6))
theorem tX5_startsTag_24 (G : sr_G) (v0 : Option Nat) (s0 : Int32) (h : AH) : sr_T (X := Int32) G 1 RX5 cX5_startsTag 3 (some .boolean) false (sr_M G jI) 24 [(0, vR v0)] [vI s0] h (fX5_startsTag_24  v0 s0 h) := by
  unfold fX5_startsTag_24
  refine tq_istore_n 2 (L' := [(2, vI s0), (0, vR v0)]) dX5_startsTag_24 rfl (by decide) rfl ?_
  refine tq_aload_n 0 1 dX5_startsTag_25 rfl rfl ?_
  refine tq_getR 0 dX5_startsTag_26 cfX5 (by decide) wd_263 rfl rfl (fun x1 => ?_)
  refine tq_iload_n 2 0 dX5_startsTag_29 rfl rfl ?_
  refine tq_cVI [vI s0] [] dX5_startsTag_30 (eX6_byteAt G x1 s0 h) (by decide) mbX6_byteAt cfX6 rfl wd_417 wd_337 wd_338 rfl rfl (Nat.le_of_ble_eq_true rfl) (fun x3 h2 => ?_)
  refine tq_cNI [vI x3] [] dX5_startsTag_33 (eX8_asSmall G x3 h2) (by decide) mbX8_asSmall (host := "SoupReader") (by decide) wd_423 rfl rfl (Nat.le_of_ble_eq_true rfl) (fun x5 h4 => ?_)
  refine tq_cNI [vI x5] [] dX5_startsTag_36 (eX8_isSmallLetter G x5 h4) (by decide) mbX8_isSmallLetter (host := "SoupReader") (by decide) wd_426 rfl rfl (Nat.le_of_ble_eq_true rfl) (fun x7 h6 => ?_)
  exact tq_zret rfl dX5_startsTag_39
noncomputable def fX5_startsTag_0  (v0 : Option Nat) (v1 : Int32) (h : AH) : Option (Int32 × AH) := cGR h 5 250 v0 fun x1 => cCV h 6 x1 (fX6_byteAt x1 (v1 + (nI 1)) h) fun x3 h2 => if x3 = (nI 47) then (fX5_startsTag_24 v0 (v1 + (nI 2)) h2) else (fX5_startsTag_24 v0 (v1 + (nI 1)) h2)
theorem tX5_startsTag_0 (G : sr_G) (v0 : Option Nat) (v1 : Int32) (h : AH) : sr_T (X := Int32) G 1 RX5 cX5_startsTag 3 (some .boolean) false (sr_M G jI) 0 [(0, vR v0), (1, vI v1)] [] h (fX5_startsTag_0  v0 v1 h) := by
  unfold fX5_startsTag_0
  refine tq_aload_n 0 0 dX5_startsTag_0 rfl rfl ?_
  refine tq_getR 0 dX5_startsTag_1 cfX5 (by decide) wd_263 rfl rfl (fun x1 => ?_)
  refine tq_iload_n 1 1 dX5_startsTag_4 rfl rfl ?_
  refine tq_iconst (nI 1) dX5_startsTag_5 (by decide) ?_
  refine tq_iadd dX5_startsTag_6 ?_
  refine tq_cVI [vI (v1 + (nI 1))] [] dX5_startsTag_7 (eX6_byteAt G x1 (v1 + (nI 1)) h) (by decide) mbX6_byteAt cfX6 rfl wd_417 wd_337 wd_338 rfl rfl (Nat.le_of_ble_eq_true rfl) (fun x3 h2 => ?_)
  refine tq_bipush (nI 47) dX5_startsTag_10 (by decide) ?_
  refine tq_icmp_ne 21 dX5_startsTag_12 (by decide) (fun _ => ?_) (fun _ => ?_)
  · refine tq_iload_n 1 1 dX5_startsTag_21 rfl rfl ?_
    refine tq_iconst (nI 1) dX5_startsTag_22 (by decide) ?_
    refine tq_iadd dX5_startsTag_23 ?_
    exact tq_sub [0] rfl (tX5_startsTag_24 G v0 (v1 + (nI 1)) h2)
  · refine tq_iload_n 1 1 dX5_startsTag_15 rfl rfl ?_
    refine tq_iconst (nI 2) dX5_startsTag_16 (by decide) ?_
    refine tq_iadd dX5_startsTag_17 ?_
    refine tq_goto 24 dX5_startsTag_18 (by decide) ?_
    exact tq_sub [0] rfl (tX5_startsTag_24 G v0 (v1 + (nI 2)) h2)
noncomputable def fX5_startsTag (v0 : Option Nat) (v1 : Int32) (h : AH) : Option (Int32 × AH) := fX5_startsTag_0 v0 v1 h
theorem eX5_startsTag (G : sr_G) (v0 : Option Nat) (v1 : Int32) (h : AH) : sr_E G 1 yX5_startsTag cX5_startsTag 3 (some .boolean) jI [vR v0, vI v1] h (fX5_startsTag v0 v1 h) := sr_E.of (own := RX5) (ini := false) (by decide) rfl (fun q => by first | rfl | cases q) rfl (Nat.le_of_ble_eq_true rfl) (tX5_startsTag_0 G v0 v1 h)
noncomputable def fX5_endsRun_54  (s0 : Int32) (h : AH) : Option (Int32 × AH) := cZ s0 (some (s0, h))
theorem tX5_endsRun_54 (G : sr_G) (s0 : Int32) (h : AH) : sr_T (X := Int32) G 6 RX5 cX5_endsRun 3 (some .boolean) false (sr_M G jI) 54 [] [vI s0] h (fX5_endsRun_54  s0 h) := by
  unfold fX5_endsRun_54
  exact tq_zret rfl dX5_endsRun_54
noncomputable def fX5_endsRun_53   (h : AH) : Option (Int32 × AH) := fX5_endsRun_54 (nI 0) h
theorem tX5_endsRun_53 (G : sr_G)  (h : AH) : sr_T (X := Int32) G 6 RX5 cX5_endsRun 3 (some .boolean) false (sr_M G jI) 53 [] [] h (fX5_endsRun_53  h) := by
  unfold fX5_endsRun_53
  refine tq_iconst (nI 0) dX5_endsRun_53 (by decide) ?_
  exact tX5_endsRun_54 G (nI 0) h
noncomputable def fX5_endsRun_49   (h : AH) : Option (Int32 × AH) := fX5_endsRun_54 (nI 1) h
theorem tX5_endsRun_49 (G : sr_G)  (h : AH) : sr_T (X := Int32) G 6 RX5 cX5_endsRun 3 (some .boolean) false (sr_M G jI) 49 [] [] h (fX5_endsRun_49  h) := by
  unfold fX5_endsRun_49
  refine tq_iconst (nI 1) dX5_endsRun_49 (by decide) ?_
  refine tq_goto 54 dX5_endsRun_50 (by decide) ?_
  exact tX5_endsRun_54 G (nI 1) h
noncomputable def fX5_endsRun_0  (v0 : Option Nat) (v1 : Int32) (v2 : Int32) (h : AH) : Option (Int32 × AH) := if v2 = 0 then (cGR h 5 250 v0 fun x1 => cCV h 6 x1 (fX6_byteAt x1 v1 h) fun x3 h2 => if x3 = (nI 60) then (cCV h2 5 v0 (fX5_startsTag v0 v1 h2) fun x5 h4 => if x5 = 0 then (cGR h4 5 250 v0 fun x6 => cCV h4 6 x6 (fX6_holds x6 5 v1 h4) fun x8 h7 => if x8 = 0 then (fX5_endsRun_53 h7) else (fX5_endsRun_49 h7)) else (fX5_endsRun_49 h4)) else (fX5_endsRun_53 h2)) else (cGR h 5 250 v0 fun x9 => cCV h 6 x9 (fX6_holds x9 7 v1 h) fun x11 h10 => cZ x11 (some (x11, h10)))
theorem tX5_endsRun_0 (G : sr_G) (v0 : Option Nat) (v1 : Int32) (v2 : Int32) (h : AH) : sr_T (X := Int32) G 6 RX5 cX5_endsRun 3 (some .boolean) false (sr_M G jI) 0 [(0, vR v0), (1, vI v1), (2, vI v2)] [] h (fX5_endsRun_0  v0 v1 v2 h) := by
  unfold fX5_endsRun_0
  refine tq_iload_n 2 2 dX5_endsRun_0 rfl rfl ?_
  refine tq_if_eq 15 dX5_endsRun_1 (by decide) (fun _ => ?_) (fun _ => ?_)
  · refine tq_aload_n 0 0 dX5_endsRun_15 rfl rfl ?_
    refine tq_getR 0 dX5_endsRun_16 cfX5 (by decide) wd_263 rfl rfl (fun x1 => ?_)
    refine tq_iload_n 1 1 dX5_endsRun_19 rfl rfl ?_
    refine tq_cVI [vI v1] [] dX5_endsRun_20 (eX6_byteAt G x1 v1 h) (by decide) mbX6_byteAt cfX6 rfl wd_417 wd_337 wd_338 rfl rfl (Nat.le_of_ble_eq_true rfl) (fun x3 h2 => ?_)
    refine tq_bipush (nI 60) dX5_endsRun_23 (by decide) ?_
    refine tq_icmp_ne 53 dX5_endsRun_25 (by decide) (fun _ => ?_) (fun _ => ?_)
    · exact tq_sub [] rfl (tX5_endsRun_53 G h2)
    · refine tq_aload_n 0 0 dX5_endsRun_28 rfl rfl ?_
      refine tq_iload_n 1 1 dX5_endsRun_29 rfl rfl ?_
      refine tq_cVI [vI v1] [] dX5_endsRun_30 (eX5_startsTag G v0 v1 h2) (by decide) mbX5_startsTag cfX5 rfl wd_418 wd_420 wd_5 rfl rfl (Nat.le_of_ble_eq_true rfl) (fun x5 h4 => ?_)
      refine tq_if_ne 49 dX5_endsRun_33 (by decide) (fun _ => ?_) (fun _ => ?_)
      · exact tq_sub [] rfl (tX5_endsRun_49 G h4)
      · refine tq_aload_n 0 0 dX5_endsRun_36 rfl rfl ?_
        refine tq_getR 0 dX5_endsRun_37 cfX5 (by decide) wd_263 rfl rfl (fun x6 => ?_)
        refine tq_ldcS (tx := "<!--") 5 dX5_endsRun_40 (by decide) ?_
        refine tq_iload_n 1 1 dX5_endsRun_42 rfl rfl ?_
        refine tq_cVI [vR (some (G.2.2.2.1 5)), vI v1] [] dX5_endsRun_43 (eX6_holds G x6 5 v1 h4) (by decide) mbX6_holds cfX6 rfl wd_365 wd_366 wd_367 rfl rfl (Nat.le_of_ble_eq_true rfl) (fun x8 h7 => ?_)
        refine tq_if_eq 53 dX5_endsRun_46 (by decide) (fun _ => ?_) (fun _ => ?_)
        · exact tq_sub [] rfl (tX5_endsRun_53 G h7)
        · exact tq_sub [] rfl (tX5_endsRun_49 G h7)
  · refine tq_aload_n 0 0 dX5_endsRun_4 rfl rfl ?_
    refine tq_getR 0 dX5_endsRun_5 cfX5 (by decide) wd_263 rfl rfl (fun x9 => ?_)
    refine tq_ldcS (tx := "</style") 7 dX5_endsRun_8 (by decide) ?_
    refine tq_iload_n 1 1 dX5_endsRun_10 rfl rfl ?_
    refine tq_cVI [vR (some (G.2.2.2.1 7)), vI v1] [] dX5_endsRun_11 (eX6_holds G x9 7 v1 h) (by decide) mbX6_holds cfX6 rfl wd_365 wd_366 wd_367 rfl rfl (Nat.le_of_ble_eq_true rfl) (fun x11 h10 => ?_)
    exact tq_zret rfl dX5_endsRun_14
noncomputable def fX5_endsRun (v0 : Option Nat) (v1 : Int32) (v2 : Int32) (h : AH) : Option (Int32 × AH) := fX5_endsRun_0 v0 v1 v2 h
theorem eX5_endsRun (G : sr_G) (v0 : Option Nat) (v1 : Int32) (v2 : Int32) (h : AH) : sr_E G 6 yX5_endsRun cX5_endsRun 3 (some .boolean) jI [vR v0, vI v1, vI v2] h (fX5_endsRun v0 v1 v2 h) := sr_E.of (own := RX5) (ini := false) (by decide) rfl (fun q => by first | rfl | cases q) rfl (Nat.le_of_ble_eq_true rfl) (tX5_endsRun_0 G v0 v1 v2 h)
noncomputable def fX5_skipRun_39   (h : AH) : Option (Unit × AH) := some ((), h)
theorem tX5_skipRun_39 (G : sr_G)  (h : AH) : sr_T (X := Unit) G 7 RX5 cX5_skipRun 2 none false (sr_M G jV) 39 [] [] h (fX5_skipRun_39  h) := by
  unfold fX5_skipRun_39
  exact tq_vret rfl dX5_skipRun_39
noncomputable def fX5_skipRun_0  : Nat → Option Nat → Int32 → AH → Option (Unit × AH)
  | 0, _, _, _ => none
  | n + 1, v0, v1, h => cGI h 5 257 v0 fun x1 => cGR h 5 250 v0 fun x2 => cGI h 6 301 x2 fun x3 => if x3 ≤ x1 then (fX5_skipRun_39 h) else (cGI h 5 257 v0 fun x4 => cCV h 5 v0 (fX5_endsRun v0 x4 v1 h) fun x6 h5 => if x6 = 0 then (cGI h5 5 257 v0 fun x7 => cPI h5 5 257 v0 (x7 + (nI 1)) fun h8 => fX5_skipRun_0 n v0 v1 h8) else (fX5_skipRun_39 h5))
theorem tX5_skipRun_0 (G : sr_G) : ∀ (n : Nat) (v0 : Option Nat) (v1 : Int32) (h : AH), sr_T (X := Unit) G 7 RX5 cX5_skipRun 2 none false (sr_M G jV) 0 [(0, vR v0), (1, vI v1)] [] h (fX5_skipRun_0  n v0 v1 h) := by
  intro n
  induction n with
  | zero => intro v0 v1 h; exact tq_none
  | succ n ih =>
    intro v0 v1 h
    unfold fX5_skipRun_0
    refine tq_aload_n 0 0 dX5_skipRun_0 rfl rfl ?_
    refine tq_getI 7 dX5_skipRun_1 cfX5 (by decide) wd_270 rfl rfl (fun x1 => ?_)
    refine tq_aload_n 0 0 dX5_skipRun_4 rfl rfl ?_
    refine tq_getR 0 dX5_skipRun_5 cfX5 (by decide) wd_263 rfl rfl (fun x2 => ?_)
    refine tq_getI 1 dX5_skipRun_8 cfX6 (by decide) wd_101 rfl rfl (fun x3 => ?_)
    refine tq_icmp_ge 39 dX5_skipRun_11 (by decide) (fun _ => ?_) (fun _ => ?_)
    · exact tq_sub [] rfl (tX5_skipRun_39 G h)
    · refine tq_aload_n 0 0 dX5_skipRun_14 rfl rfl ?_
      refine tq_aload_n 0 0 dX5_skipRun_15 rfl rfl ?_
      refine tq_getI 7 dX5_skipRun_16 cfX5 (by decide) wd_270 rfl rfl (fun x4 => ?_)
      refine tq_iload_n 1 1 dX5_skipRun_19 rfl rfl ?_
      refine tq_cVI [vI x4, vI v1] [] dX5_skipRun_20 (eX5_endsRun G v0 x4 v1 h) (by decide) mbX5_endsRun cfX5 rfl wd_360 wd_362 wd_4 rfl rfl (Nat.le_of_ble_eq_true rfl) (fun x6 h5 => ?_)
      refine tq_if_ne 39 dX5_skipRun_23 (by decide) (fun _ => ?_) (fun _ => ?_)
      · exact tq_sub [] rfl (tX5_skipRun_39 G h5)
      · refine tq_aload_n 0 0 dX5_skipRun_26 rfl rfl ?_
        refine tq_dupR dX5_skipRun_27 ?_
        refine tq_getI 7 dX5_skipRun_28 cfX5 (by decide) wd_270 rfl rfl (fun x7 => ?_)
        refine tq_iconst (nI 1) dX5_skipRun_31 (by decide) ?_
        refine tq_iadd dX5_skipRun_32 ?_
        refine tq_putI 7 dX5_skipRun_33 cfX5 (by decide) wd_270 rfl rfl (Or.inl rfl) (fun h8 => ?_)
        refine tq_goto 0 dX5_skipRun_36 (by decide) ?_
        exact ih v0 v1 h8
noncomputable def fX5_skipRun (v0 : Option Nat) (v1 : Int32) (h : AH) : Option (Unit × AH) := fX5_skipRun_0 FU v0 v1 h
theorem eX5_skipRun (G : sr_G) (v0 : Option Nat) (v1 : Int32) (h : AH) : sr_E G 7 yX5_skipRun cX5_skipRun 2 none jV [vR v0, vI v1] h (fX5_skipRun v0 v1 h) := sr_E.of (own := RX5) (ini := false) (by decide) rfl (fun q => by first | rfl | cases q) rfl (Nat.le_of_ble_eq_true rfl) (tX5_skipRun_0 G FU v0 v1 h)
noncomputable def fX5_tellTooLong_22   (h : AH) : Option (Unit × AH) := some ((), h)
theorem tX5_tellTooLong_22 (G : sr_G)  (h : AH) : sr_T (X := Unit) G 2 RX5 cX5_tellTooLong 3 none false (sr_M G jV) 22 [] [] h (fX5_tellTooLong_22  h) := by
  unfold fX5_tellTooLong_22
  exact tq_vret rfl dX5_tellTooLong_22
noncomputable def fX5_tellTooLong_0  (v0 : Option Nat) (v1 : Option Nat) (v2 : Int32) (h : AH) : Option (Unit × AH) := cGI h 3 163 v1 fun x1 => if x1 = 0 then (cPI h 3 163 v1 (nI 1) fun h2 => cGR h2 5 252 v0 fun x3 => cCV h2 2 x3 (fX2_tell x3 (nI 7) v2 h2) fun _ h4 => fX5_tellTooLong_22 h4) else (fX5_tellTooLong_22 h)
theorem tX5_tellTooLong_0 (G : sr_G) (v0 : Option Nat) (v1 : Option Nat) (v2 : Int32) (h : AH) : sr_T (X := Unit) G 2 RX5 cX5_tellTooLong 3 none false (sr_M G jV) 0 [(0, vR v0), (1, vR v1), (2, vI v2)] [] h (fX5_tellTooLong_0  v0 v1 v2 h) := by
  unfold fX5_tellTooLong_0
  refine tq_aload_n 1 1 dX5_tellTooLong_0 rfl rfl ?_
  refine tq_getI 13 dX5_tellTooLong_1 cfX3 (by decide) wd_207 rfl rfl (fun x1 => ?_)
  refine tq_if_ne 22 dX5_tellTooLong_4 (by decide) (fun _ => ?_) (fun _ => ?_)
  · exact tq_sub [] rfl (tX5_tellTooLong_22 G h)
  · refine tq_aload_n 1 1 dX5_tellTooLong_7 rfl rfl ?_
    refine tq_iconst (nI 1) dX5_tellTooLong_8 (by decide) ?_
    refine tq_putZ 13 dX5_tellTooLong_9 cfX3 (by decide) wd_207 rfl rfl (Or.inl rfl) (by decide) (fun h2 => ?_)
    refine tq_aload_n 0 0 dX5_tellTooLong_12 rfl rfl ?_
    refine tq_getR 2 dX5_tellTooLong_13 cfX5 (by decide) wd_265 rfl rfl (fun x3 => ?_)
    refine tq_bipush (nI 7) dX5_tellTooLong_16 (by decide) ?_
    refine tq_iload_n 2 2 dX5_tellTooLong_18 rfl rfl ?_
    refine tq_cVV [vI (nI 7), vI v2] [] dX5_tellTooLong_19 (eX2_tell G x3 (nI 7) v2 h2) (by decide) mbX2_tell cfX2 rfl wd_460 wd_461 wd_462 rfl rfl (Nat.le_of_ble_eq_true rfl) (fun _ h4 => ?_)
    exact tq_sub [] rfl (tX5_tellTooLong_22 G h4)
noncomputable def fX5_tellTooLong (v0 : Option Nat) (v1 : Option Nat) (v2 : Int32) (h : AH) : Option (Unit × AH) := fX5_tellTooLong_0 v0 v1 v2 h
theorem eX5_tellTooLong (G : sr_G) (v0 : Option Nat) (v1 : Option Nat) (v2 : Int32) (h : AH) : sr_E G 2 yX5_tellTooLong cX5_tellTooLong 3 none jV [vR v0, vR v1, vI v2] h (fX5_tellTooLong v0 v1 v2 h) := sr_E.of (own := RX5) (ini := false) (by decide) rfl (fun q => by first | rfl | cases q) rfl (Nat.le_of_ble_eq_true rfl) (tX5_tellTooLong_0 G v0 v1 v2 h)
noncomputable def fX5_isAllBlank_29   (h : AH) : Option (Int32 × AH) := cZ (nI 1) (some ((nI 1), h))
theorem tX5_isAllBlank_29 (G : sr_G)  (h : AH) : sr_T (X := Int32) G 1 RX5 cX5_isAllBlank 4 (some .boolean) false (sr_M G jI) 29 [] [] h (fX5_isAllBlank_29  h) := by
  unfold fX5_isAllBlank_29
  refine tq_iconst (nI 1) dX5_isAllBlank_29 (by decide) ?_
  exact tq_zret rfl dX5_isAllBlank_30
noncomputable def fX5_isAllBlank_21   (h : AH) : Option (Int32 × AH) := cZ (nI 0) (some ((nI 0), h))
theorem tX5_isAllBlank_21 (G : sr_G)  (h : AH) : sr_T (X := Int32) G 1 RX5 cX5_isAllBlank 4 (some .boolean) false (sr_M G jI) 21 [] [] h (fX5_isAllBlank_21  h) := by
  unfold fX5_isAllBlank_21
  refine tq_iconst (nI 0) dX5_isAllBlank_21 (by decide) ?_
  exact tq_zret rfl dX5_isAllBlank_22
noncomputable def fX5_isAllBlank_2  : Nat → Option Nat → Int32 → Int32 → AH → Option (Int32 × AH)
  | 0, _, _, _, _ => none
  | n + 1, v0, v2, v3, h => if v2 ≤ v3 then (fX5_isAllBlank_29 h) else (cGR h 5 250 v0 fun x1 => cCV h 6 x1 (fX6_byteAt x1 v3 h) fun x3 h2 => cCL (fX8_isBlank x3 h2) fun x5 h4 => if x5 = 0 then (fX5_isAllBlank_21 h4) else (fX5_isAllBlank_2 n v0 v2 (v3 + (nI 1)) h4))
theorem tX5_isAllBlank_2 (G : sr_G) : ∀ (n : Nat) (v0 : Option Nat) (v2 : Int32) (v3 : Int32) (h : AH), sr_T (X := Int32) G 1 RX5 cX5_isAllBlank 4 (some .boolean) false (sr_M G jI) 2 [(0, vR v0), (2, vI v2), (3, vI v3)] [] h (fX5_isAllBlank_2  n v0 v2 v3 h) := by
  intro n
  induction n with
  | zero => intro v0 v2 v3 h; exact tq_none
  | succ n ih =>
    intro v0 v2 v3 h
    unfold fX5_isAllBlank_2
    refine tq_iload_n 3 2 dX5_isAllBlank_2 rfl rfl ?_
    refine tq_iload_n 2 1 dX5_isAllBlank_3 rfl rfl ?_
    refine tq_icmp_ge 29 dX5_isAllBlank_4 (by decide) (fun _ => ?_) (fun _ => ?_)
    · exact tq_sub [] rfl (tX5_isAllBlank_29 G h)
    · refine tq_aload_n 0 0 dX5_isAllBlank_7 rfl rfl ?_
      refine tq_getR 0 dX5_isAllBlank_8 cfX5 (by decide) wd_263 rfl rfl (fun x1 => ?_)
      refine tq_iload_n 3 2 dX5_isAllBlank_11 rfl rfl ?_
      refine tq_cVI [vI v3] [] dX5_isAllBlank_12 (eX6_byteAt G x1 v3 h) (by decide) mbX6_byteAt cfX6 rfl wd_417 wd_337 wd_338 rfl rfl (Nat.le_of_ble_eq_true rfl) (fun x3 h2 => ?_)
      refine tq_cNI [vI x3] [] dX5_isAllBlank_15 (eX8_isBlank G x3 h2) (by decide) mbX8_isBlank (host := "SoupReader") (by decide) wd_446 rfl rfl (Nat.le_of_ble_eq_true rfl) (fun x5 h4 => ?_)
      refine tq_if_ne 23 dX5_isAllBlank_18 (by decide) (fun _ => ?_) (fun _ => ?_)
      · refine tq_iinc 2 (nI 1) (L' := [(3, vI (v3 + (nI 1))), (0, vR v0), (2, vI v2)]) dX5_isAllBlank_23 rfl (by decide) (by decide) rfl ?_
        refine tq_goto 2 dX5_isAllBlank_26 (by decide) ?_
        exact tq_sub [1, 2, 0] rfl (ih v0 v2 (v3 + (nI 1)) h4)
      · exact tq_sub [] rfl (tX5_isAllBlank_21 G h4)
noncomputable def fX5_isAllBlank_0  (v0 : Option Nat) (v1 : Int32) (v2 : Int32) (h : AH) : Option (Int32 × AH) := fX5_isAllBlank_2 FU v0 v2 v1 h
theorem tX5_isAllBlank_0 (G : sr_G) (v0 : Option Nat) (v1 : Int32) (v2 : Int32) (h : AH) : sr_T (X := Int32) G 1 RX5 cX5_isAllBlank 4 (some .boolean) false (sr_M G jI) 0 [(0, vR v0), (1, vI v1), (2, vI v2)] [] h (fX5_isAllBlank_0  v0 v1 v2 h) := by
  unfold fX5_isAllBlank_0
  refine tq_iload_n 1 1 dX5_isAllBlank_0 rfl rfl ?_
  refine tq_istore_n 3 (L' := [(3, vI v1), (0, vR v0), (1, vI v1), (2, vI v2)]) dX5_isAllBlank_1 rfl (by decide) rfl ?_
  exact tq_sub [1, 3, 0] rfl (tX5_isAllBlank_2 G FU v0 v2 v1 h)
noncomputable def fX5_isAllBlank (v0 : Option Nat) (v1 : Int32) (v2 : Int32) (h : AH) : Option (Int32 × AH) := fX5_isAllBlank_0 v0 v1 v2 h
theorem eX5_isAllBlank (G : sr_G) (v0 : Option Nat) (v1 : Int32) (v2 : Int32) (h : AH) : sr_E G 1 yX5_isAllBlank cX5_isAllBlank 4 (some .boolean) jI [vR v0, vI v1, vI v2] h (fX5_isAllBlank v0 v1 v2 h) := sr_E.of (own := RX5) (ini := false) (by decide) rfl (fun q => by first | rfl | cases q) rfl (Nat.le_of_ble_eq_true rfl) (tX5_isAllBlank_0 G v0 v1 v2 h)
noncomputable def fX5_textFor_72  (v4 : Option Nat) (h : AH) : Option (Option Nat × AH) := some (v4, h)
theorem tX5_textFor_72 (G : sr_G) (v4 : Option Nat) (h : AH) : sr_T (X := Option Nat) G 4 RX5 cX5_textFor 5 (some (.object "SoupReader$Node")) false (sr_M G jR) 72 [(4, vR v4)] [] h (fX5_textFor_72  v4 h) := by
  unfold fX5_textFor_72
  refine tq_aload 0 dX5_textFor_72 rfl ?_
  exact tq_aret rfl dX5_textFor_74
noncomputable def fX5_textFor_33  (v0 : Option Nat) (v1 : Int32) (v2 : Int32) (v3 : Option Nat) (h : AH) : Option (Option Nat × AH) := cCV h 5 v0 (fX5_isAllBlank v0 v1 v2 h) fun x2 h1 => if x2 = 0 then (cGR h1 5 251 v0 fun x3 => cCV h1 7 x3 (fX7_grow x3 v3 (nI 17) 0 h1) fun x5 h4 => if x5 = none then (cGR h4 5 252 v0 fun x6 => cCV h4 2 x6 (fX2_tell x6 (nI 6) v1 h4) fun _ h7 => fX5_textFor_72 x5 h7) else (fX5_textFor_72 x5 h4)) else (some (none, h1))
theorem tX5_textFor_33 (G : sr_G) (v0 : Option Nat) (v1 : Int32) (v2 : Int32) (v3 : Option Nat) (h : AH) : sr_T (X := Option Nat) G 4 RX5 cX5_textFor 5 (some (.object "SoupReader$Node")) false (sr_M G jR) 33 [(0, vR v0), (1, vI v1), (2, vI v2), (3, vR v3)] [] h (fX5_textFor_33  v0 v1 v2 v3 h) := by
  unfold fX5_textFor_33
  refine tq_aload_n 0 0 dX5_textFor_33 rfl rfl ?_
  refine tq_iload_n 1 1 dX5_textFor_34 rfl rfl ?_
  refine tq_iload_n 2 2 dX5_textFor_35 rfl rfl ?_
  refine tq_cVI [vI v1, vI v2] [] dX5_textFor_36 (eX5_isAllBlank G v0 v1 v2 h) (by decide) mbX5_isAllBlank cfX5 rfl wd_441 wd_443 wd_9 rfl rfl (Nat.le_of_ble_eq_true rfl) (fun x2 h1 => ?_)
  refine tq_if_eq 44 dX5_textFor_39 (by decide) (fun _ => ?_) (fun _ => ?_)
  · refine tq_aload_n 0 0 dX5_textFor_44 rfl rfl ?_
    refine tq_getR 1 dX5_textFor_45 cfX5 (by decide) wd_264 rfl rfl (fun x3 => ?_)
    refine tq_aload_n 3 3 dX5_textFor_48 rfl rfl ?_
    refine tq_bipush (nI 17) dX5_textFor_49 (by decide) ?_
    refine tq_lconst 0 dX5_textFor_51 (by decide) ?_
    refine tq_cVR [vR v3, vI (nI 17), vL 0] [] dX5_textFor_52 (eX7_grow G x3 v3 (nI 17) 0 h1) (by decide) mbX7_grow cfX7 rfl wd_448 wd_449 wd_450 rfl rfl (Nat.le_of_ble_eq_true rfl) (fun x5 h4 => ?_)
    refine tq_astore (L' := [(4, vR x5), (0, vR v0), (1, vI v1), (2, vI v2), (3, vR v3)]) dX5_textFor_55 (by decide) rfl ?_
    refine tq_aload 0 dX5_textFor_57 rfl ?_
    refine tq_ifnonnull 72 dX5_textFor_59 (by decide) (fun _ => ?_) (fun _ => ?_)
    · exact tq_sub [0] rfl (tX5_textFor_72 G x5 h4)
    · refine tq_aload_n 0 1 dX5_textFor_62 rfl rfl ?_
      refine tq_getR 2 dX5_textFor_63 cfX5 (by decide) wd_265 rfl rfl (fun x6 => ?_)
      refine tq_bipush (nI 6) dX5_textFor_66 (by decide) ?_
      refine tq_iload_n 1 2 dX5_textFor_68 rfl rfl ?_
      refine tq_cVV [vI (nI 6), vI v1] [] dX5_textFor_69 (eX2_tell G x6 (nI 6) v1 h4) (by decide) mbX2_tell cfX2 rfl wd_460 wd_461 wd_462 rfl rfl (Nat.le_of_ble_eq_true rfl) (fun _ h7 => ?_)
      exact tq_sub [0] rfl (tX5_textFor_72 G x5 h7)
  · refine tq_null dX5_textFor_42 ?_
    exact tq_aret rfl dX5_textFor_43
noncomputable def fX5_textFor_0  (v0 : Option Nat) (v1 : Int32) (v2 : Int32) (h : AH) : Option (Option Nat × AH) := cCV h 5 v0 (fX5_innermost v0 h) fun x2 h1 => if x2 = none then (fX5_textFor_33 v0 v1 v2 x2 h1) else (cGR h1 3 160 x2 fun x3 => if x3 = none then (fX5_textFor_33 v0 v1 v2 x2 h1) else (cGR h1 3 160 x2 fun x4 => cGI h1 3 153 x4 fun x5 => if x5 = (nI 17) then (cGR h1 3 160 x2 fun x6 => some (x6, h1)) else (fX5_textFor_33 v0 v1 v2 x2 h1)))
theorem tX5_textFor_0 (G : sr_G) (v0 : Option Nat) (v1 : Int32) (v2 : Int32) (h : AH) : sr_T (X := Option Nat) G 4 RX5 cX5_textFor 5 (some (.object "SoupReader$Node")) false (sr_M G jR) 0 [(0, vR v0), (1, vI v1), (2, vI v2)] [] h (fX5_textFor_0  v0 v1 v2 h) := by
  unfold fX5_textFor_0
  refine tq_aload_n 0 0 dX5_textFor_0 rfl rfl ?_
  refine tq_cVR [] [] dX5_textFor_1 (eX5_innermost G v0 h) (by decide) mbX5_innermost cfX5 rfl wd_437 wd_439 wd_8 rfl rfl (Nat.le_of_ble_eq_true rfl) (fun x2 h1 => ?_)
  refine tq_astore_n 3 (L' := [(3, vR x2), (0, vR v0), (1, vI v1), (2, vI v2)]) dX5_textFor_4 rfl (by decide) rfl ?_
  refine tq_aload_n 3 0 dX5_textFor_5 rfl rfl ?_
  refine tq_ifnull 33 dX5_textFor_6 (by decide) (fun _ => ?_) (fun _ => ?_)
  · exact tq_sub [1, 2, 3, 0] rfl (tX5_textFor_33 G v0 v1 v2 x2 h1)
  · refine tq_aload_n 3 0 dX5_textFor_9 rfl rfl ?_
    refine tq_getR 10 dX5_textFor_10 cfX3 (by decide) wd_200 rfl rfl (fun x3 => ?_)
    refine tq_ifnull 33 dX5_textFor_13 (by decide) (fun _ => ?_) (fun _ => ?_)
    · exact tq_sub [1, 2, 3, 0] rfl (tX5_textFor_33 G v0 v1 v2 x2 h1)
    · refine tq_aload_n 3 0 dX5_textFor_16 rfl rfl ?_
      refine tq_getR 10 dX5_textFor_17 cfX3 (by decide) wd_200 rfl rfl (fun x4 => ?_)
      refine tq_getI 3 dX5_textFor_20 cfX3 (by decide) wd_183 rfl rfl (fun x5 => ?_)
      refine tq_bipush (nI 17) dX5_textFor_23 (by decide) ?_
      refine tq_icmp_ne 33 dX5_textFor_25 (by decide) (fun _ => ?_) (fun _ => ?_)
      · exact tq_sub [1, 2, 3, 0] rfl (tX5_textFor_33 G v0 v1 v2 x2 h1)
      · refine tq_aload_n 3 0 dX5_textFor_28 rfl rfl ?_
        refine tq_getR 10 dX5_textFor_29 cfX3 (by decide) wd_200 rfl rfl (fun x6 => ?_)
        exact tq_aret rfl dX5_textFor_32
noncomputable def fX5_textFor (v0 : Option Nat) (v1 : Int32) (v2 : Int32) (h : AH) : Option (Option Nat × AH) := fX5_textFor_0 v0 v1 v2 h
theorem eX5_textFor (G : sr_G) (v0 : Option Nat) (v1 : Int32) (v2 : Int32) (h : AH) : sr_E G 4 yX5_textFor cX5_textFor 5 (some (.object "SoupReader$Node")) jR [vR v0, vI v1, vI v2] h (fX5_textFor v0 v1 v2 h) := sr_E.of (own := RX5) (ini := false) (by decide) rfl (fun q => by first | rfl | cases q) rfl (Nat.le_of_ble_eq_true rfl) (tX5_textFor_0 G v0 v1 v2 h)
noncomputable def fX5_takeRun_89   (h : AH) : Option (Unit × AH) := some ((), h)
theorem tX5_takeRun_89 (G : sr_G)  (h : AH) : sr_T (X := Unit) G 7 RX5 cX5_takeRun 7 none false (sr_M G jV) 89 [] [] h (fX5_takeRun_89  h) := by
  unfold fX5_takeRun_89
  exact tq_vret rfl dX5_takeRun_89
noncomputable def fX5_takeRun_67  (v0 : Option Nat) (v4 : Option Nat) (v5 : Int32) (h : AH) : Option (Unit × AH) := cCV h 5 v0 (fX5_tellTooLong v0 v4 v5 h) fun _ h1 => some ((), h1)
theorem tX5_takeRun_67 (G : sr_G) (v0 : Option Nat) (v4 : Option Nat) (v5 : Int32) (h : AH) : sr_T (X := Unit) G 7 RX5 cX5_takeRun 7 none false (sr_M G jV) 67 [(0, vR v0), (4, vR v4), (5, vI v5)] [] h (fX5_takeRun_67  v0 v4 v5 h) := by
  unfold fX5_takeRun_67
  refine tq_aload_n 0 0 dX5_takeRun_67 rfl rfl ?_
  refine tq_aload 1 dX5_takeRun_68 rfl ?_
  refine tq_iload 2 dX5_takeRun_70 rfl ?_
  refine tq_cVV [vR v4, vI v5] [] dX5_takeRun_72 (eX5_tellTooLong G v0 v4 v5 h) (by decide) mbX5_tellTooLong cfX5 rfl wd_479 wd_481 wd_12 rfl rfl (Nat.le_of_ble_eq_true rfl) (fun _ h1 => ?_)
  exact tq_vret rfl dX5_takeRun_75
noncomputable def fX5_takeRun_61 (r17 : Option Nat → Int32 → Int32 → Option Nat → Int32 → AH → Option (Unit × AH)) (v0 : Option Nat) (v2 : Int32) (v3 : Int32) (v4 : Option Nat) (v5 : Int32) (v6 : Int32) (s0 : Int32) (s1 : Option Nat) (h : AH) : Option (Unit × AH) := cCV h 3 s1 (fX3_putByte s1 s0 h) fun x2 h1 => if x2 = 0 then (fX5_takeRun_67 v0 v4 v5 h1) else (cCL (fX5_widthOf v6 h1) fun x4 h3 => r17 v0 v2 v3 v4 (v5 + x4) h3)
theorem tX5_takeRun_61 (G : sr_G) {r17 : Option Nat → Int32 → Int32 → Option Nat → Int32 → AH → Option (Unit × AH)} (hr17 : ∀ (v0 : Option Nat) (v2 : Int32) (v3 : Int32) (v4 : Option Nat) (v5 : Int32) (h : AH), sr_T (X := Unit) G 7 RX5 cX5_takeRun 7 none false (sr_M G jV) 17 [(0, vR v0), (2, vI v2), (3, vI v3), (4, vR v4), (5, vI v5)] [] h (r17 v0 v2 v3 v4 v5 h)) (v0 : Option Nat) (v2 : Int32) (v3 : Int32) (v4 : Option Nat) (v5 : Int32) (v6 : Int32) (s0 : Int32) (s1 : Option Nat) (h : AH) : sr_T (X := Unit) G 7 RX5 cX5_takeRun 7 none false (sr_M G jV) 61 [(0, vR v0), (2, vI v2), (3, vI v3), (4, vR v4), (5, vI v5), (6, vI v6)] [vI s0, vR s1] h (fX5_takeRun_61 r17 v0 v2 v3 v4 v5 v6 s0 s1 h) := by
  unfold fX5_takeRun_61
  refine tq_cVI [vI s0] [] dX5_takeRun_61 (eX3_putByte G s1 s0 h) (by decide) mbX3_putByte cfX3 rfl wd_475 wd_476 wd_477 rfl rfl (Nat.le_of_ble_eq_true rfl) (fun x2 h1 => ?_)
  refine tq_if_ne 76 dX5_takeRun_64 (by decide) (fun _ => ?_) (fun _ => ?_)
  · refine tq_iload 4 dX5_takeRun_76 rfl ?_
    refine tq_iload 5 dX5_takeRun_78 rfl ?_
    refine tq_cSI [vI v6] [vI v5] dX5_takeRun_80 (eX5_widthOf G v6 h1) (by decide) mbX5_widthOf wd_483 wd_484 rfl rfl (Nat.le_of_ble_eq_true rfl) (fun x4 h3 => ?_)
    refine tq_iadd dX5_takeRun_83 ?_
    refine tq_istore (L' := [(5, vI (v5 + x4)), (0, vR v0), (2, vI v2), (3, vI v3), (4, vR v4), (6, vI v6)]) dX5_takeRun_84 (by decide) rfl ?_
    refine tq_goto 17 dX5_takeRun_86 (by decide) ?_
    exact tq_sub [1, 2, 3, 4, 0] rfl (hr17 v0 v2 v3 v4 (v5 + x4) h3)
  · exact tq_sub [0, 3, 4] rfl (tX5_takeRun_67 G v0 v4 v5 h1)
noncomputable def fX5_takeRun_37 (r17 : Option Nat → Int32 → Int32 → Option Nat → Int32 → AH → Option (Unit × AH)) (v0 : Option Nat) (v2 : Int32) (v3 : Int32) (v4 : Option Nat) (v5 : Int32) (s0 : Int32) (h : AH) : Option (Unit × AH) := if s0 = (-1) then (cGR h 5 250 v0 fun x1 => cCV h 6 x1 (fX6_byteAt x1 v5 h) fun x3 h2 => fX5_takeRun_61 r17 v0 v2 v3 v4 v5 s0 x3 v4 h2) else (fX5_takeRun_61 r17 v0 v2 v3 v4 v5 s0 s0 v4 h)
theorem tX5_takeRun_37 (G : sr_G) {r17 : Option Nat → Int32 → Int32 → Option Nat → Int32 → AH → Option (Unit × AH)} (hr17 : ∀ (v0 : Option Nat) (v2 : Int32) (v3 : Int32) (v4 : Option Nat) (v5 : Int32) (h : AH), sr_T (X := Unit) G 7 RX5 cX5_takeRun 7 none false (sr_M G jV) 17 [(0, vR v0), (2, vI v2), (3, vI v3), (4, vR v4), (5, vI v5)] [] h (r17 v0 v2 v3 v4 v5 h)) (v0 : Option Nat) (v2 : Int32) (v3 : Int32) (v4 : Option Nat) (v5 : Int32) (s0 : Int32) (h : AH) : sr_T (X := Unit) G 7 RX5 cX5_takeRun 7 none false (sr_M G jV) 37 [(0, vR v0), (2, vI v2), (3, vI v3), (4, vR v4), (5, vI v5)] [vI s0] h (fX5_takeRun_37 r17 v0 v2 v3 v4 v5 s0 h) := by
  unfold fX5_takeRun_37
  refine tq_istore (L' := [(6, vI s0), (0, vR v0), (2, vI v2), (3, vI v3), (4, vR v4), (5, vI v5)]) dX5_takeRun_37 (by decide) rfl ?_
  refine tq_aload 4 dX5_takeRun_39 rfl ?_
  refine tq_iload 0 dX5_takeRun_41 rfl ?_
  refine tq_iconst (-1) dX5_takeRun_43 (by decide) ?_
  refine tq_icmp_ne 59 dX5_takeRun_44 (by decide) (fun _ => ?_) (fun _ => ?_)
  · refine tq_iload 0 dX5_takeRun_59 rfl ?_
    exact tq_sub [1, 2, 3, 4, 5, 0] rfl (tX5_takeRun_61 G hr17 v0 v2 v3 v4 v5 s0 s0 v4 h)
  · refine tq_aload_n 0 1 dX5_takeRun_47 rfl rfl ?_
    refine tq_getR 0 dX5_takeRun_48 cfX5 (by decide) wd_263 rfl rfl (fun x1 => ?_)
    refine tq_iload 5 dX5_takeRun_51 rfl ?_
    refine tq_cVI [vI v5] [vR v4] dX5_takeRun_53 (eX6_byteAt G x1 v5 h) (by decide) mbX6_byteAt cfX6 rfl wd_417 wd_337 wd_338 rfl rfl (Nat.le_of_ble_eq_true rfl) (fun x3 h2 => ?_)
    refine tq_goto 61 dX5_takeRun_56 (by decide) ?_
    exact tq_sub [1, 2, 3, 4, 5, 0] rfl (tX5_takeRun_61 G hr17 v0 v2 v3 v4 v5 s0 x3 v4 h2)
noncomputable def fX5_takeRun_17  : Nat → Option Nat → Int32 → Int32 → Option Nat → Int32 → AH → Option (Unit × AH)
  | 0, _, _, _, _, _, _ => none
  | n + 1, v0, v2, v3, v4, v5, h => if v2 ≤ v5 then (fX5_takeRun_89 h) else (if v3 = 0 then (fX5_takeRun_37 (fX5_takeRun_17 n) v0 v2 v3 v4 v5 (-1) h) else (cCV h 5 v0 (fX5_entityAt v0 v5 h) fun x2 h1 => fX5_takeRun_37 (fX5_takeRun_17 n) v0 v2 v3 v4 v5 x2 h1))
theorem tX5_takeRun_17 (G : sr_G) : ∀ (n : Nat) (v0 : Option Nat) (v2 : Int32) (v3 : Int32) (v4 : Option Nat) (v5 : Int32) (h : AH), sr_T (X := Unit) G 7 RX5 cX5_takeRun 7 none false (sr_M G jV) 17 [(0, vR v0), (2, vI v2), (3, vI v3), (4, vR v4), (5, vI v5)] [] h (fX5_takeRun_17  n v0 v2 v3 v4 v5 h) := by
  intro n
  induction n with
  | zero => intro v0 v2 v3 v4 v5 h; exact tq_none
  | succ n ih =>
    intro v0 v2 v3 v4 v5 h
    unfold fX5_takeRun_17
    refine tq_iload 4 dX5_takeRun_17 rfl ?_
    refine tq_iload_n 2 1 dX5_takeRun_19 rfl rfl ?_
    refine tq_icmp_ge 89 dX5_takeRun_20 (by decide) (fun _ => ?_) (fun _ => ?_)
    · exact tq_sub [] rfl (tX5_takeRun_89 G h)
    · refine tq_iload_n 3 2 dX5_takeRun_23 rfl rfl ?_
      refine tq_if_eq 36 dX5_takeRun_24 (by decide) (fun _ => ?_) (fun _ => ?_)
      · refine tq_iconst (-1) dX5_takeRun_36 (by decide) ?_
        exact tX5_takeRun_37 G ih v0 v2 v3 v4 v5 (-1) h
      · refine tq_aload_n 0 0 dX5_takeRun_27 rfl rfl ?_
        refine tq_iload 4 dX5_takeRun_28 rfl ?_
        refine tq_cVI [vI v5] [] dX5_takeRun_30 (eX5_entityAt G v0 v5 h) (by decide) mbX5_entityAt cfX5 rfl wd_467 wd_469 wd_11 rfl rfl (Nat.le_of_ble_eq_true rfl) (fun x2 h1 => ?_)
        refine tq_goto 37 dX5_takeRun_33 (by decide) ?_
        exact tX5_takeRun_37 G ih v0 v2 v3 v4 v5 x2 h1
noncomputable def fX5_takeRun_0  (v0 : Option Nat) (v1 : Int32) (v2 : Int32) (v3 : Int32) (h : AH) : Option (Unit × AH) := cCV h 5 v0 (fX5_textFor v0 v1 v2 h) fun x2 h1 => if x2 = none then (some ((), h1)) else (fX5_takeRun_17 FU v0 v2 v3 x2 v1 h1)
theorem tX5_takeRun_0 (G : sr_G) (v0 : Option Nat) (v1 : Int32) (v2 : Int32) (v3 : Int32) (h : AH) : sr_T (X := Unit) G 7 RX5 cX5_takeRun 7 none false (sr_M G jV) 0 [(0, vR v0), (1, vI v1), (2, vI v2), (3, vI v3)] [] h (fX5_takeRun_0  v0 v1 v2 v3 h) := by
  unfold fX5_takeRun_0
  refine tq_aload_n 0 0 dX5_takeRun_0 rfl rfl ?_
  refine tq_iload_n 1 1 dX5_takeRun_1 rfl rfl ?_
  refine tq_iload_n 2 2 dX5_takeRun_2 rfl rfl ?_
  refine tq_cVR [vI v1, vI v2] [] dX5_takeRun_3 (eX5_textFor G v0 v1 v2 h) (by decide) mbX5_textFor cfX5 rfl wd_433 wd_435 wd_7 rfl rfl (Nat.le_of_ble_eq_true rfl) (fun x2 h1 => ?_)
  refine tq_astore (L' := [(4, vR x2), (0, vR v0), (1, vI v1), (2, vI v2), (3, vI v3)]) dX5_takeRun_6 (by decide) rfl ?_
  refine tq_aload 0 dX5_takeRun_8 rfl ?_
  refine tq_ifnonnull 14 dX5_takeRun_10 (by decide) (fun _ => ?_) (fun _ => ?_)
  · refine tq_iload_n 1 2 dX5_takeRun_14 rfl rfl ?_
    refine tq_istore (L' := [(5, vI v1), (4, vR x2), (0, vR v0), (1, vI v1), (2, vI v2), (3, vI v3)]) dX5_takeRun_15 (by decide) rfl ?_
    exact tq_sub [2, 4, 5, 1, 0] rfl (tX5_takeRun_17 G FU v0 v2 v3 x2 v1 h1)
  · exact tq_vret rfl dX5_takeRun_13
noncomputable def fX5_takeRun (v0 : Option Nat) (v1 : Int32) (v2 : Int32) (v3 : Int32) (h : AH) : Option (Unit × AH) := fX5_takeRun_0 v0 v1 v2 v3 h
theorem eX5_takeRun (G : sr_G) (v0 : Option Nat) (v1 : Int32) (v2 : Int32) (v3 : Int32) (h : AH) : sr_E G 7 yX5_takeRun cX5_takeRun 7 none jV [vR v0, vI v1, vI v2, vI v3] h (fX5_takeRun v0 v1 v2 v3 h) := sr_E.of (own := RX5) (ini := false) (by decide) rfl (fun q => by first | rfl | cases q) rfl (Nat.le_of_ble_eq_true rfl) (tX5_takeRun_0 G v0 v1 v2 v3 h)
noncomputable def fX7_restart_36  (v0 : Option Nat) (h : AH) : Option (Unit × AH) := cGR h 7 351 v0 fun x1 => cCV h 3 x1 (fX3_begin x1 (nI 0) 6580598 h) fun _ h2 => cPI h2 7 352 v0 (nI 1) fun h3 => some ((), h3)
theorem tX7_restart_36 (G : sr_G) (v0 : Option Nat) (h : AH) : sr_T (X := Unit) G 1 RX7 cX7_restart 2 none false (sr_M G jV) 36 [(0, vR v0)] [] h (fX7_restart_36  v0 h) := by
  unfold fX7_restart_36
  refine tq_aload_n 0 0 dX7_restart_36 rfl rfl ?_
  refine tq_getR 1 dX7_restart_37 cfX7 (by decide) wd_243 rfl rfl (fun x1 => ?_)
  refine tq_iconst (nI 0) dX7_restart_40 (by decide) ?_
  refine tq_ldc2 6580598 dX7_restart_41 wd_237 ?_
  refine tq_cVV [vI (nI 0), vL 6580598] [] dX7_restart_44 (eX3_begin G x1 (nI 0) 6580598 h) (by decide) mbX3_begin cfX3 rfl wd_238 wd_239 wd_240 rfl rfl (Nat.le_of_ble_eq_true rfl) (fun _ h2 => ?_)
  refine tq_aload_n 0 0 dX7_restart_47 rfl rfl ?_
  refine tq_iconst (nI 1) dX7_restart_48 (by decide) ?_
  refine tq_putI 2 dX7_restart_49 cfX7 (by decide) wd_245 rfl rfl (Or.inl rfl) (fun h3 => ?_)
  exact tq_vret rfl dX7_restart_52
noncomputable def fX7_restart_30 (r2 : Option Nat → Int32 → AH → Option (Unit × AH)) (v0 : Option Nat) (v1 : Int32) (h : AH) : Option (Unit × AH) := r2 v0 (v1 + (nI 1)) h
theorem tX7_restart_30 (G : sr_G) {r2 : Option Nat → Int32 → AH → Option (Unit × AH)} (hr2 : ∀ (v0 : Option Nat) (v1 : Int32) (h : AH), sr_T (X := Unit) G 1 RX7 cX7_restart 2 none false (sr_M G jV) 2 [(0, vR v0), (1, vI v1)] [] h (r2 v0 v1 h)) (v0 : Option Nat) (v1 : Int32) (h : AH) : sr_T (X := Unit) G 1 RX7 cX7_restart 2 none false (sr_M G jV) 30 [(0, vR v0), (1, vI v1)] [] h (fX7_restart_30 r2 v0 v1 h) := by
  unfold fX7_restart_30
  refine tq_iinc 1 (nI 1) (L' := [(1, vI (v1 + (nI 1))), (0, vR v0)]) dX7_restart_30 rfl (by decide) (by decide) rfl ?_
  refine tq_goto 2 dX7_restart_33 (by decide) ?_
  exact tq_sub [1, 0] rfl (hr2 v0 (v1 + (nI 1)) h)
noncomputable def fX7_restart_2  : Nat → Option Nat → Int32 → AH → Option (Unit × AH)
  | 0, _, _, _ => none
  | n + 1, v0, v1, h => cGR h 7 350 v0 fun x1 => cAN h 3 x1 fun x2 => if x2 ≤ v1 then (fX7_restart_36 v0 h) else (cGR h 7 350 v0 fun x3 => cQL h 3 x3 v1 fun x4 => if x4 = none then (fX7_restart_30 (fX7_restart_2 n) v0 v1 h) else (cGR h 7 350 v0 fun x5 => cQL h 3 x5 v1 fun x6 => cPI h 3 152 x6 (nI 0) fun h7 => fX7_restart_30 (fX7_restart_2 n) v0 v1 h7))
theorem tX7_restart_2 (G : sr_G) : ∀ (n : Nat) (v0 : Option Nat) (v1 : Int32) (h : AH), sr_T (X := Unit) G 1 RX7 cX7_restart 2 none false (sr_M G jV) 2 [(0, vR v0), (1, vI v1)] [] h (fX7_restart_2  n v0 v1 h) := by
  intro n
  induction n with
  | zero => intro v0 v1 h; exact tq_none
  | succ n ih =>
    intro v0 v1 h
    unfold fX7_restart_2
    refine tq_iload_n 1 1 dX7_restart_2 rfl rfl ?_
    refine tq_aload_n 0 0 dX7_restart_3 rfl rfl ?_
    refine tq_getR 0 dX7_restart_4 cfX7 (by decide) wd_242 rfl rfl (fun x1 => ?_)
    refine tq_alen (by decide) dX7_restart_7 (fun x2 => ?_)
    refine tq_icmp_ge 36 dX7_restart_8 (by decide) (fun _ => ?_) (fun _ => ?_)
    · exact tq_sub [0] rfl (tX7_restart_36 G v0 h)
    · refine tq_aload_n 0 0 dX7_restart_11 rfl rfl ?_
      refine tq_getR 0 dX7_restart_12 cfX7 (by decide) wd_242 rfl rfl (fun x3 => ?_)
      refine tq_iload_n 1 1 dX7_restart_15 rfl rfl ?_
      refine tq_aald (by decide) dX7_restart_16 (fun x4 => ?_)
      refine tq_ifnull 30 dX7_restart_17 (by decide) (fun _ => ?_) (fun _ => ?_)
      · exact tX7_restart_30 G ih v0 v1 h
      · refine tq_aload_n 0 0 dX7_restart_20 rfl rfl ?_
        refine tq_getR 0 dX7_restart_21 cfX7 (by decide) wd_242 rfl rfl (fun x5 => ?_)
        refine tq_iload_n 1 1 dX7_restart_24 rfl rfl ?_
        refine tq_aald (by decide) dX7_restart_25 (fun x6 => ?_)
        refine tq_iconst (nI 0) dX7_restart_26 (by decide) ?_
        refine tq_putZ 2 dX7_restart_27 cfX3 (by decide) wd_179 rfl rfl (Or.inl rfl) (by decide) (fun h7 => ?_)
        exact tX7_restart_30 G ih v0 v1 h7
noncomputable def fX7_restart_0  (v0 : Option Nat) (h : AH) : Option (Unit × AH) := fX7_restart_2 FU v0 (nI 0) h
theorem tX7_restart_0 (G : sr_G) (v0 : Option Nat) (h : AH) : sr_T (X := Unit) G 1 RX7 cX7_restart 2 none false (sr_M G jV) 0 [(0, vR v0)] [] h (fX7_restart_0  v0 h) := by
  unfold fX7_restart_0
  refine tq_iconst (nI 0) dX7_restart_0 (by decide) ?_
  refine tq_istore_n 1 (L' := [(1, vI (nI 0)), (0, vR v0)]) dX7_restart_1 rfl (by decide) rfl ?_
  exact tq_sub [1, 0] rfl (tX7_restart_2 G FU v0 (nI 0) h)
noncomputable def fX7_restart (v0 : Option Nat) (h : AH) : Option (Unit × AH) := fX7_restart_0 v0 h
theorem eX7_restart (G : sr_G) (v0 : Option Nat) (h : AH) : sr_E G 1 yX7_restart cX7_restart 2 none jV [vR v0] h (fX7_restart v0 h) := sr_E.of (own := RX7) (ini := false) (by decide) rfl (fun q => by first | rfl | cases q) rfl (Nat.le_of_ble_eq_true rfl) (tX7_restart_0 G v0 h)
noncomputable def fX5_readAll_169  (v0 : Option Nat) (h : AH) : Option (Unit × AH) := cCV h 5 v0 (fX5_closeDownTo v0 (nI 1) h) fun _ h1 => some ((), h1)
theorem tX5_readAll_169 (G : sr_G) (v0 : Option Nat) (h : AH) : sr_T (X := Unit) G 10 RX5 cX5_readAll 4 none false (sr_M G jV) 169 [(0, vR v0)] [] h (fX5_readAll_169  v0 h) := by
  unfold fX5_readAll_169
  refine tq_aload_n 0 0 dX5_readAll_169 rfl rfl ?_
  refine tq_iconst (nI 1) dX5_readAll_170 (by decide) ?_
  refine tq_cVV [vI (nI 1)] [] dX5_readAll_171 (eX5_closeDownTo G v0 (nI 1) h) (by decide) mbX5_closeDownTo cfX5 rfl wd_588 wd_590 wd_22 rfl rfl (Nat.le_of_ble_eq_true rfl) (fun _ h1 => ?_)
  exact tq_vret rfl dX5_readAll_174
noncomputable def fX5_readAll_163 (r40 : Option Nat → Int32 → AH → Option (Unit × AH)) (v0 : Option Nat) (v1 : Int32) (h : AH) : Option (Unit × AH) := r40 v0 (v1 + (nI 1)) h
theorem tX5_readAll_163 (G : sr_G) {r40 : Option Nat → Int32 → AH → Option (Unit × AH)} (hr40 : ∀ (v0 : Option Nat) (v1 : Int32) (h : AH), sr_T (X := Unit) G 10 RX5 cX5_readAll 4 none false (sr_M G jV) 40 [(0, vR v0), (1, vI v1)] [] h (r40 v0 v1 h)) (v0 : Option Nat) (v1 : Int32) (h : AH) : sr_T (X := Unit) G 10 RX5 cX5_readAll 4 none false (sr_M G jV) 163 [(0, vR v0), (1, vI v1)] [] h (fX5_readAll_163 r40 v0 v1 h) := by
  unfold fX5_readAll_163
  refine tq_iinc 1 (nI 1) (L' := [(1, vI (v1 + (nI 1))), (0, vR v0)]) dX5_readAll_163 rfl (by decide) (by decide) rfl ?_
  refine tq_goto 40 dX5_readAll_166 (by decide) ?_
  exact tq_sub [1, 0] rfl (hr40 v0 (v1 + (nI 1)) h)
noncomputable def fX5_readAll_122 (r40 : Option Nat → Int32 → AH → Option (Unit × AH)) (v0 : Option Nat) (v1 : Int32) (h : AH) : Option (Unit × AH) := cGR h 5 250 v0 fun x1 => cGI h 5 257 v0 fun x2 => cCV h 6 x1 (fX6_holds x1 5 x2 h) fun x4 h3 => if x4 = 0 then (cGI h3 5 257 v0 fun x5 => cGR h3 5 250 v0 fun x6 => cGI h3 6 301 x6 fun x7 => if x7 ≤ x5 then (fX5_readAll_163 r40 v0 v1 h3) else (cCV h3 5 v0 (fX5_readTag v0 h3) fun _ h8 => fX5_readAll_163 r40 v0 v1 h8)) else (cCV h3 5 v0 (fX5_readComment v0 h3) fun _ h9 => fX5_readAll_163 r40 v0 v1 h9)
theorem tX5_readAll_122 (G : sr_G) {r40 : Option Nat → Int32 → AH → Option (Unit × AH)} (hr40 : ∀ (v0 : Option Nat) (v1 : Int32) (h : AH), sr_T (X := Unit) G 10 RX5 cX5_readAll 4 none false (sr_M G jV) 40 [(0, vR v0), (1, vI v1)] [] h (r40 v0 v1 h)) (v0 : Option Nat) (v1 : Int32) (h : AH) : sr_T (X := Unit) G 10 RX5 cX5_readAll 4 none false (sr_M G jV) 122 [(0, vR v0), (1, vI v1)] [] h (fX5_readAll_122 r40 v0 v1 h) := by
  unfold fX5_readAll_122
  refine tq_aload_n 0 0 dX5_readAll_122 rfl rfl ?_
  refine tq_getR 0 dX5_readAll_123 cfX5 (by decide) wd_263 rfl rfl (fun x1 => ?_)
  refine tq_ldcS (tx := "<!--") 5 dX5_readAll_126 (by decide) ?_
  refine tq_aload_n 0 0 dX5_readAll_128 rfl rfl ?_
  refine tq_getI 7 dX5_readAll_129 cfX5 (by decide) wd_270 rfl rfl (fun x2 => ?_)
  refine tq_cVI [vR (some (G.2.2.2.1 5)), vI x2] [] dX5_readAll_132 (eX6_holds G x1 5 x2 h) (by decide) mbX6_holds cfX6 rfl wd_365 wd_366 wd_367 rfl rfl (Nat.le_of_ble_eq_true rfl) (fun x4 h3 => ?_)
  refine tq_if_eq 145 dX5_readAll_135 (by decide) (fun _ => ?_) (fun _ => ?_)
  · refine tq_aload_n 0 0 dX5_readAll_145 rfl rfl ?_
    refine tq_getI 7 dX5_readAll_146 cfX5 (by decide) wd_270 rfl rfl (fun x5 => ?_)
    refine tq_aload_n 0 0 dX5_readAll_149 rfl rfl ?_
    refine tq_getR 0 dX5_readAll_150 cfX5 (by decide) wd_263 rfl rfl (fun x6 => ?_)
    refine tq_getI 1 dX5_readAll_153 cfX6 (by decide) wd_101 rfl rfl (fun x7 => ?_)
    refine tq_icmp_ge 163 dX5_readAll_156 (by decide) (fun _ => ?_) (fun _ => ?_)
    · exact tX5_readAll_163 G hr40 v0 v1 h3
    · refine tq_aload_n 0 0 dX5_readAll_159 rfl rfl ?_
      refine tq_cVV [] [] dX5_readAll_160 (eX5_readTag G v0 h3) (by decide) mbX5_readTag cfX5 rfl wd_492 wd_494 wd_14 rfl rfl (Nat.le_of_ble_eq_true rfl) (fun _ h8 => ?_)
      exact tX5_readAll_163 G hr40 v0 v1 h8
  · refine tq_aload_n 0 0 dX5_readAll_138 rfl rfl ?_
    refine tq_cVV [] [] dX5_readAll_139 (eX5_readComment G v0 h3) (by decide) mbX5_readComment cfX5 rfl wd_487 wd_489 wd_13 rfl rfl (Nat.le_of_ble_eq_true rfl) (fun _ h9 => ?_)
    refine tq_goto 163 dX5_readAll_142 (by decide) ?_
    exact tX5_readAll_163 G hr40 v0 v1 h9
noncomputable def fX5_readAll_119 (r40 : Option Nat → Int32 → AH → Option (Unit × AH)) (v0 : Option Nat) (v1 : Int32) (s0 : Int32) (s1 : Int32) (s2 : Int32) (s3 : Option Nat) (h : AH) : Option (Unit × AH) := cCV h 5 s3 (fX5_takeRun s3 s2 s1 s0 h) fun _ h1 => fX5_readAll_122 r40 v0 v1 h1
theorem tX5_readAll_119 (G : sr_G) {r40 : Option Nat → Int32 → AH → Option (Unit × AH)} (hr40 : ∀ (v0 : Option Nat) (v1 : Int32) (h : AH), sr_T (X := Unit) G 10 RX5 cX5_readAll 4 none false (sr_M G jV) 40 [(0, vR v0), (1, vI v1)] [] h (r40 v0 v1 h)) (v0 : Option Nat) (v1 : Int32) (s0 : Int32) (s1 : Int32) (s2 : Int32) (s3 : Option Nat) (h : AH) : sr_T (X := Unit) G 10 RX5 cX5_readAll 4 none false (sr_M G jV) 119 [(0, vR v0), (1, vI v1)] [vI s0, vI s1, vI s2, vR s3] h (fX5_readAll_119 r40 v0 v1 s0 s1 s2 s3 h) := by
  unfold fX5_readAll_119
  refine tq_cVV [vI s2, vI s1, vI s0] [] dX5_readAll_119 (eX5_takeRun G s3 s2 s1 s0 h) (by decide) mbX5_takeRun cfX5 rfl wd_429 wd_431 wd_6 rfl rfl (Nat.le_of_ble_eq_true rfl) (fun _ h1 => ?_)
  exact tX5_readAll_122 G hr40 v0 v1 h1
noncomputable def fX5_readAll_90 (r40 : Option Nat → Int32 → AH → Option (Unit × AH)) (v0 : Option Nat) (v1 : Int32) (v2 : Int32) (s0 : Int32) (h : AH) : Option (Unit × AH) := cCV h 5 v0 (fX5_skipRun v0 s0 h) fun _ h1 => cGI h1 5 257 v0 fun x2 => if x2 ≤ v2 then (fX5_readAll_122 r40 v0 v1 h1) else (cGI h1 5 257 v0 fun x3 => if s0 = 0 then (fX5_readAll_119 r40 v0 v1 (nI 1) x3 v2 v0 h1) else (fX5_readAll_119 r40 v0 v1 (nI 0) x3 v2 v0 h1))
theorem tX5_readAll_90 (G : sr_G) {r40 : Option Nat → Int32 → AH → Option (Unit × AH)} (hr40 : ∀ (v0 : Option Nat) (v1 : Int32) (h : AH), sr_T (X := Unit) G 10 RX5 cX5_readAll 4 none false (sr_M G jV) 40 [(0, vR v0), (1, vI v1)] [] h (r40 v0 v1 h)) (v0 : Option Nat) (v1 : Int32) (v2 : Int32) (s0 : Int32) (h : AH) : sr_T (X := Unit) G 10 RX5 cX5_readAll 4 none false (sr_M G jV) 90 [(0, vR v0), (1, vI v1), (2, vI v2)] [vI s0] h (fX5_readAll_90 r40 v0 v1 v2 s0 h) := by
  unfold fX5_readAll_90
  refine tq_istore_n 3 (L' := [(3, vI s0), (0, vR v0), (1, vI v1), (2, vI v2)]) dX5_readAll_90 rfl (by decide) rfl ?_
  refine tq_aload_n 0 1 dX5_readAll_91 rfl rfl ?_
  refine tq_iload_n 3 0 dX5_readAll_92 rfl rfl ?_
  refine tq_cVV [vI s0] [] dX5_readAll_93 (eX5_skipRun G v0 s0 h) (by decide) mbX5_skipRun cfX5 rfl wd_356 wd_358 wd_3 rfl rfl (Nat.le_of_ble_eq_true rfl) (fun _ h1 => ?_)
  refine tq_aload_n 0 1 dX5_readAll_96 rfl rfl ?_
  refine tq_getI 7 dX5_readAll_97 cfX5 (by decide) wd_270 rfl rfl (fun x2 => ?_)
  refine tq_iload_n 2 3 dX5_readAll_100 rfl rfl ?_
  refine tq_icmp_le 122 dX5_readAll_101 (by decide) (fun _ => ?_) (fun _ => ?_)
  · exact tq_sub [1, 2] rfl (tX5_readAll_122 G hr40 v0 v1 h1)
  · refine tq_aload_n 0 1 dX5_readAll_104 rfl rfl ?_
    refine tq_iload_n 2 3 dX5_readAll_105 rfl rfl ?_
    refine tq_aload_n 0 1 dX5_readAll_106 rfl rfl ?_
    refine tq_getI 7 dX5_readAll_107 cfX5 (by decide) wd_270 rfl rfl (fun x3 => ?_)
    refine tq_iload_n 3 0 dX5_readAll_110 rfl rfl ?_
    refine tq_if_ne 118 dX5_readAll_111 (by decide) (fun _ => ?_) (fun _ => ?_)
    · refine tq_iconst (nI 0) dX5_readAll_118 (by decide) ?_
      exact tq_sub [1, 2] rfl (tX5_readAll_119 G hr40 v0 v1 (nI 0) x3 v2 v0 h1)
    · refine tq_iconst (nI 1) dX5_readAll_114 (by decide) ?_
      refine tq_goto 119 dX5_readAll_115 (by decide) ?_
      exact tq_sub [1, 2] rfl (tX5_readAll_119 G hr40 v0 v1 (nI 1) x3 v2 v0 h1)
noncomputable def fX5_readAll_40  : Nat → Option Nat → Int32 → AH → Option (Unit × AH)
  | 0, _, _, _ => none
  | n + 1, v0, v1, h => cGR h 5 250 v0 fun x1 => cGI h 6 301 x1 fun x2 => if x2 < v1 then (fX5_readAll_169 v0 h) else (cGI h 5 257 v0 fun x3 => cGR h 5 250 v0 fun x4 => cGI h 6 301 x4 fun x5 => if x5 ≤ x3 then (fX5_readAll_169 v0 h) else (cGI h 5 257 v0 fun x6 => cGI h 5 256 v0 fun x7 => cCV h 5 v0 (fX5_tagOpenAt v0 (x7 - (nI 1)) h) fun x9 h8 => if x9 = (nI 15) then (fX5_readAll_90 (fX5_readAll_40 n) v0 v1 x6 (nI 1) h8) else (fX5_readAll_90 (fX5_readAll_40 n) v0 v1 x6 (nI 0) h8)))
theorem tX5_readAll_40 (G : sr_G) : ∀ (n : Nat) (v0 : Option Nat) (v1 : Int32) (h : AH), sr_T (X := Unit) G 10 RX5 cX5_readAll 4 none false (sr_M G jV) 40 [(0, vR v0), (1, vI v1)] [] h (fX5_readAll_40  n v0 v1 h) := by
  intro n
  induction n with
  | zero => intro v0 v1 h; exact tq_none
  | succ n ih =>
    intro v0 v1 h
    unfold fX5_readAll_40
    refine tq_iload_n 1 1 dX5_readAll_40 rfl rfl ?_
    refine tq_aload_n 0 0 dX5_readAll_41 rfl rfl ?_
    refine tq_getR 0 dX5_readAll_42 cfX5 (by decide) wd_263 rfl rfl (fun x1 => ?_)
    refine tq_getI 1 dX5_readAll_45 cfX6 (by decide) wd_101 rfl rfl (fun x2 => ?_)
    refine tq_icmp_gt 169 dX5_readAll_48 (by decide) (fun _ => ?_) (fun _ => ?_)
    · exact tq_sub [0] rfl (tX5_readAll_169 G v0 h)
    · refine tq_aload_n 0 0 dX5_readAll_51 rfl rfl ?_
      refine tq_getI 7 dX5_readAll_52 cfX5 (by decide) wd_270 rfl rfl (fun x3 => ?_)
      refine tq_aload_n 0 0 dX5_readAll_55 rfl rfl ?_
      refine tq_getR 0 dX5_readAll_56 cfX5 (by decide) wd_263 rfl rfl (fun x4 => ?_)
      refine tq_getI 1 dX5_readAll_59 cfX6 (by decide) wd_101 rfl rfl (fun x5 => ?_)
      refine tq_icmp_ge 169 dX5_readAll_62 (by decide) (fun _ => ?_) (fun _ => ?_)
      · exact tq_sub [0] rfl (tX5_readAll_169 G v0 h)
      · refine tq_aload_n 0 0 dX5_readAll_65 rfl rfl ?_
        refine tq_getI 7 dX5_readAll_66 cfX5 (by decide) wd_270 rfl rfl (fun x6 => ?_)
        refine tq_istore_n 2 (L' := [(2, vI x6), (0, vR v0), (1, vI v1)]) dX5_readAll_69 rfl (by decide) rfl ?_
        refine tq_aload_n 0 1 dX5_readAll_70 rfl rfl ?_
        refine tq_aload_n 0 1 dX5_readAll_71 rfl rfl ?_
        refine tq_getI 6 dX5_readAll_72 cfX5 (by decide) wd_269 rfl rfl (fun x7 => ?_)
        refine tq_iconst (nI 1) dX5_readAll_75 (by decide) ?_
        refine tq_isub dX5_readAll_76 ?_
        refine tq_cVI [vI (x7 - (nI 1))] [] dX5_readAll_77 (eX5_tagOpenAt G v0 (x7 - (nI 1)) h) (by decide) mbX5_tagOpenAt cfX5 rfl wd_348 wd_350 wd_1 rfl rfl (Nat.le_of_ble_eq_true rfl) (fun x9 h8 => ?_)
        refine tq_bipush (nI 15) dX5_readAll_80 (by decide) ?_
        refine tq_icmp_ne 89 dX5_readAll_82 (by decide) (fun _ => ?_) (fun _ => ?_)
        · refine tq_iconst (nI 0) dX5_readAll_89 (by decide) ?_
          exact tq_sub [1, 2, 0] rfl (tX5_readAll_90 G ih v0 v1 x6 (nI 0) h8)
        · refine tq_iconst (nI 1) dX5_readAll_85 (by decide) ?_
          refine tq_goto 90 dX5_readAll_86 (by decide) ?_
          exact tq_sub [1, 2, 0] rfl (tX5_readAll_90 G ih v0 v1 x6 (nI 1) h8)
noncomputable def fX5_readAll_0  (v0 : Option Nat) (h : AH) : Option (Unit × AH) := cGR h 5 251 v0 fun x1 => cCV h 7 x1 (fX7_restart x1 h) fun _ h2 => cGR h2 5 252 v0 fun x3 => cPI h2 2 102 x3 (nI 0) fun h4 => cGR h4 5 254 v0 fun x5 => cGR h4 5 251 v0 fun x6 => cGR h4 7 351 x6 fun x7 => cQS h4 3 3 x5 (nI 0) x7 fun h8 => cPI h8 5 256 v0 (nI 1) fun h9 => cPI h9 5 257 v0 (nI 0) fun h10 => fX5_readAll_40 FU v0 (nI 0) h10
theorem tX5_readAll_0 (G : sr_G) (v0 : Option Nat) (h : AH) : sr_T (X := Unit) G 10 RX5 cX5_readAll 4 none false (sr_M G jV) 0 [(0, vR v0)] [] h (fX5_readAll_0  v0 h) := by
  unfold fX5_readAll_0
  refine tq_aload_n 0 0 dX5_readAll_0 rfl rfl ?_
  refine tq_getR 1 dX5_readAll_1 cfX5 (by decide) wd_264 rfl rfl (fun x1 => ?_)
  refine tq_cVV [] [] dX5_readAll_4 (eX7_restart G x1 h) (by decide) mbX7_restart cfX7 rfl wd_344 wd_345 wd_346 rfl rfl (Nat.le_of_ble_eq_true rfl) (fun _ h2 => ?_)
  refine tq_aload_n 0 0 dX5_readAll_7 rfl rfl ?_
  refine tq_getR 2 dX5_readAll_8 cfX5 (by decide) wd_265 rfl rfl (fun x3 => ?_)
  refine tq_iconst (nI 0) dX5_readAll_11 (by decide) ?_
  refine tq_putI 2 dX5_readAll_12 cfX2 (by decide) wd_132 rfl rfl (Or.inl rfl) (fun h4 => ?_)
  refine tq_aload_n 0 0 dX5_readAll_15 rfl rfl ?_
  refine tq_getR 4 dX5_readAll_16 cfX5 (by decide) wd_267 rfl rfl (fun x5 => ?_)
  refine tq_iconst (nI 0) dX5_readAll_19 (by decide) ?_
  refine tq_aload_n 0 0 dX5_readAll_20 rfl rfl ?_
  refine tq_getR 1 dX5_readAll_21 cfX5 (by decide) wd_264 rfl rfl (fun x6 => ?_)
  refine tq_getR 1 dX5_readAll_24 cfX7 (by decide) wd_244 rfl rfl (fun x7 => ?_)
  refine tq_aast (by decide) cfX3 rfl dX5_readAll_27 (fun h8 => ?_)
  refine tq_aload_n 0 0 dX5_readAll_28 rfl rfl ?_
  refine tq_iconst (nI 1) dX5_readAll_29 (by decide) ?_
  refine tq_putI 6 dX5_readAll_30 cfX5 (by decide) wd_269 rfl rfl (Or.inl rfl) (fun h9 => ?_)
  refine tq_aload_n 0 0 dX5_readAll_33 rfl rfl ?_
  refine tq_iconst (nI 0) dX5_readAll_34 (by decide) ?_
  refine tq_putI 7 dX5_readAll_35 cfX5 (by decide) wd_270 rfl rfl (Or.inl rfl) (fun h10 => ?_)
  refine tq_iconst (nI 0) dX5_readAll_38 (by decide) ?_
  refine tq_istore_n 1 (L' := [(1, vI (nI 0)), (0, vR v0)]) dX5_readAll_39 rfl (by decide) rfl ?_
  exact tq_sub [1, 0] rfl (tX5_readAll_40 G FU v0 (nI 0) h10)
noncomputable def fX5_readAll (v0 : Option Nat) (h : AH) : Option (Unit × AH) := fX5_readAll_0 v0 h
theorem eX5_readAll (G : sr_G) (v0 : Option Nat) (h : AH) : sr_E G 10 yX5_readAll cX5_readAll 4 none jV [vR v0] h (fX5_readAll v0 h) := sr_E.of (own := RX5) (ini := false) (by decide) rfl (fun q => by first | rfl | cases q) rfl (Nat.le_of_ble_eq_true rfl) (tX5_readAll_0 G v0 h)
noncomputable def fX6_init_0  (v0 : Option Nat) (h : AH) : Option (Unit × AH) := cNN v0 <| cNA h 1 (nI 2000) fun x1 h2 => cPR h2 6 300 v0 x1 fun h3 => some ((), h3)
theorem tX6_init_0 (G : sr_G) (v0 : Option Nat) (h : AH) : sr_T (X := Unit) G 1 RX6 cX6_init 1 none true (sr_M G jV) 0 [(0, vR v0)] [] h (fX6_init_0  v0 h) := by
  unfold fX6_init_0
  refine tq_aload_n 0 0 dX6_init_0 rfl rfl ?_
  refine tq_objI dX6_init_1 (by decide) wd_97 wd_90 wd_91 (Nat.le_of_ble_eq_true rfl) ?_
  refine tq_aload_n 0 0 dX6_init_4 rfl rfl ?_
  refine tq_sipush (nI 2000) dX6_init_5 (by decide) ?_
  refine tq_newa dX6_init_8 (by decide) rfl wd_108 (fun x1 h2 => ?_)
  refine tq_putR 0 dX6_init_10 cfX6 (by decide) wd_98 rfl rfl (Or.inr ⟨rfl, rfl, rfl⟩) (fun h3 => ?_)
  exact tq_vret rfl dX6_init_13
noncomputable def fX6_init (v0 : Option Nat) (h : AH) : Option (Unit × AH) := fX6_init_0 v0 h
theorem eX6_init (G : sr_G) (v0 : Option Nat) (h : AH) : sr_E G 1 yX6_init cX6_init 1 none jV [vR v0] h (fX6_init v0 h) := sr_E.of (own := RX6) (ini := true) (by decide) rfl (fun q => by first | rfl | cases q) rfl (Nat.le_of_ble_eq_true rfl) (tX6_init_0 G v0 h)
noncomputable def fX6_pushByte_40   (h : AH) : Option (Unit × AH) := some ((), h)
theorem tX6_pushByte_40 (G : sr_G)  (h : AH) : sr_T (X := Unit) G 0 RX6 cX6_pushByte 2 none false (sr_M G jV) 40 [] [] h (fX6_pushByte_40  h) := by
  unfold fX6_pushByte_40
  exact tq_vret rfl dX6_pushByte_40
noncomputable def fX6_pushByte_0  (v0 : Option Nat) (v1 : Int32) (h : AH) : Option (Unit × AH) := cGI h 6 301 v0 fun x1 => if x1 < 0 then (fX6_pushByte_40 h) else (cGI h 6 301 v0 fun x2 => cGR h 6 300 v0 fun x3 => cAN h 1 x3 fun x4 => if x4 ≤ x2 then (fX6_pushByte_40 h) else (cGR h 6 300 v0 fun x5 => cGI h 6 301 v0 fun x6 => cAS h 1 x5 x6 (Int8.toInt32 (Int32.toInt8 v1)) fun h7 => cGI h7 6 301 v0 fun x8 => cPI h7 6 301 v0 (x8 + (nI 1)) fun h9 => fX6_pushByte_40 h9))
theorem tX6_pushByte_0 (G : sr_G) (v0 : Option Nat) (v1 : Int32) (h : AH) : sr_T (X := Unit) G 0 RX6 cX6_pushByte 2 none false (sr_M G jV) 0 [(0, vR v0), (1, vI v1)] [] h (fX6_pushByte_0  v0 v1 h) := by
  unfold fX6_pushByte_0
  refine tq_aload_n 0 0 dX6_pushByte_0 rfl rfl ?_
  refine tq_getI 1 dX6_pushByte_1 cfX6 (by decide) wd_102 rfl rfl (fun x1 => ?_)
  refine tq_if_lt 40 dX6_pushByte_4 (by decide) (fun _ => ?_) (fun _ => ?_)
  · exact tq_sub [] rfl (tX6_pushByte_40 G h)
  · refine tq_aload_n 0 0 dX6_pushByte_7 rfl rfl ?_
    refine tq_getI 1 dX6_pushByte_8 cfX6 (by decide) wd_102 rfl rfl (fun x2 => ?_)
    refine tq_aload_n 0 0 dX6_pushByte_11 rfl rfl ?_
    refine tq_getR 0 dX6_pushByte_12 cfX6 (by decide) wd_98 rfl rfl (fun x3 => ?_)
    refine tq_alen (by decide) dX6_pushByte_15 (fun x4 => ?_)
    refine tq_icmp_ge 40 dX6_pushByte_16 (by decide) (fun _ => ?_) (fun _ => ?_)
    · exact tq_sub [] rfl (tX6_pushByte_40 G h)
    · refine tq_aload_n 0 0 dX6_pushByte_19 rfl rfl ?_
      refine tq_getR 0 dX6_pushByte_20 cfX6 (by decide) wd_98 rfl rfl (fun x5 => ?_)
      refine tq_aload_n 0 0 dX6_pushByte_23 rfl rfl ?_
      refine tq_getI 1 dX6_pushByte_24 cfX6 (by decide) wd_102 rfl rfl (fun x6 => ?_)
      refine tq_iload_n 1 1 dX6_pushByte_27 rfl rfl ?_
      refine tq_i2b dX6_pushByte_28 ?_
      refine tq_bast dX6_pushByte_29 (fun h7 => ?_)
      refine tq_aload_n 0 0 dX6_pushByte_30 rfl rfl ?_
      refine tq_dupR dX6_pushByte_31 ?_
      refine tq_getI 1 dX6_pushByte_32 cfX6 (by decide) wd_102 rfl rfl (fun x8 => ?_)
      refine tq_iconst (nI 1) dX6_pushByte_35 (by decide) ?_
      refine tq_iadd dX6_pushByte_36 ?_
      refine tq_putI 1 dX6_pushByte_37 cfX6 (by decide) wd_102 rfl rfl (Or.inl rfl) (fun h9 => ?_)
      exact tq_sub [] rfl (tX6_pushByte_40 G h9)
noncomputable def fX6_pushByte (v0 : Option Nat) (v1 : Int32) (h : AH) : Option (Unit × AH) := fX6_pushByte_0 v0 v1 h
theorem eX6_pushByte (G : sr_G) (v0 : Option Nat) (v1 : Int32) (h : AH) : sr_E G 0 yX6_pushByte cX6_pushByte 2 none jV [vR v0, vI v1] h (fX6_pushByte v0 v1 h) := sr_E.of (own := RX6) (ini := false) (by decide) rfl (fun q => by first | rfl | cases q) rfl (Nat.le_of_ble_eq_true rfl) (tX6_pushByte_0 G v0 v1 h)
noncomputable def fX6_pushInt_0  (v0 : Option Nat) (v1 : Int32) (h : AH) : Option (Unit × AH) := cCV h 6 v0 (fX6_pushByte v0 ((Int32.toUInt32 v1 >>> (Int32.toUInt32 (nI 24) &&& Int32.toUInt32 31)).toInt32) h) fun _ h1 => cCV h1 6 v0 (fX6_pushByte v0 ((Int32.toUInt32 v1 >>> (Int32.toUInt32 (nI 16) &&& Int32.toUInt32 31)).toInt32) h1) fun _ h2 => cCV h2 6 v0 (fX6_pushByte v0 ((Int32.toUInt32 v1 >>> (Int32.toUInt32 (nI 8) &&& Int32.toUInt32 31)).toInt32) h2) fun _ h3 => cCV h3 6 v0 (fX6_pushByte v0 v1 h3) fun _ h4 => some ((), h4)
theorem tX6_pushInt_0 (G : sr_G) (v0 : Option Nat) (v1 : Int32) (h : AH) : sr_T (X := Unit) G 1 RX6 cX6_pushInt 2 none false (sr_M G jV) 0 [(0, vR v0), (1, vI v1)] [] h (fX6_pushInt_0  v0 v1 h) := by
  unfold fX6_pushInt_0
  refine tq_aload_n 0 0 dX6_pushInt_0 rfl rfl ?_
  refine tq_iload_n 1 1 dX6_pushInt_1 rfl rfl ?_
  refine tq_bipush (nI 24) dX6_pushInt_2 (by decide) ?_
  refine tq_iushr dX6_pushInt_4 ?_
  refine tq_cVV [vI ((Int32.toUInt32 v1 >>> (Int32.toUInt32 (nI 24) &&& Int32.toUInt32 31)).toInt32)] [] dX6_pushInt_5 (eX6_pushByte G v0 ((Int32.toUInt32 v1 >>> (Int32.toUInt32 (nI 24) &&& Int32.toUInt32 31)).toInt32) h) (by decide) mbX6_pushByte cfX6 rfl wd_312 wd_314 wd_0 rfl rfl (Nat.le_of_ble_eq_true rfl) (fun _ h1 => ?_)
  refine tq_aload_n 0 0 dX6_pushInt_8 rfl rfl ?_
  refine tq_iload_n 1 1 dX6_pushInt_9 rfl rfl ?_
  refine tq_bipush (nI 16) dX6_pushInt_10 (by decide) ?_
  refine tq_iushr dX6_pushInt_12 ?_
  refine tq_cVV [vI ((Int32.toUInt32 v1 >>> (Int32.toUInt32 (nI 16) &&& Int32.toUInt32 31)).toInt32)] [] dX6_pushInt_13 (eX6_pushByte G v0 ((Int32.toUInt32 v1 >>> (Int32.toUInt32 (nI 16) &&& Int32.toUInt32 31)).toInt32) h1) (by decide) mbX6_pushByte cfX6 rfl wd_312 wd_314 wd_0 rfl rfl (Nat.le_of_ble_eq_true rfl) (fun _ h2 => ?_)
  refine tq_aload_n 0 0 dX6_pushInt_16 rfl rfl ?_
  refine tq_iload_n 1 1 dX6_pushInt_17 rfl rfl ?_
  refine tq_bipush (nI 8) dX6_pushInt_18 (by decide) ?_
  refine tq_iushr dX6_pushInt_20 ?_
  refine tq_cVV [vI ((Int32.toUInt32 v1 >>> (Int32.toUInt32 (nI 8) &&& Int32.toUInt32 31)).toInt32)] [] dX6_pushInt_21 (eX6_pushByte G v0 ((Int32.toUInt32 v1 >>> (Int32.toUInt32 (nI 8) &&& Int32.toUInt32 31)).toInt32) h2) (by decide) mbX6_pushByte cfX6 rfl wd_312 wd_314 wd_0 rfl rfl (Nat.le_of_ble_eq_true rfl) (fun _ h3 => ?_)
  refine tq_aload_n 0 0 dX6_pushInt_24 rfl rfl ?_
  refine tq_iload_n 1 1 dX6_pushInt_25 rfl rfl ?_
  refine tq_cVV [vI v1] [] dX6_pushInt_26 (eX6_pushByte G v0 v1 h3) (by decide) mbX6_pushByte cfX6 rfl wd_312 wd_314 wd_0 rfl rfl (Nat.le_of_ble_eq_true rfl) (fun _ h4 => ?_)
  exact tq_vret rfl dX6_pushInt_29
noncomputable def fX6_pushInt (v0 : Option Nat) (v1 : Int32) (h : AH) : Option (Unit × AH) := fX6_pushInt_0 v0 v1 h
theorem eX6_pushInt (G : sr_G) (v0 : Option Nat) (v1 : Int32) (h : AH) : sr_E G 1 yX6_pushInt cX6_pushInt 2 none jV [vR v0, vI v1] h (fX6_pushInt v0 v1 h) := sr_E.of (own := RX6) (ini := false) (by decide) rfl (fun q => by first | rfl | cases q) rfl (Nat.le_of_ble_eq_true rfl) (tX6_pushInt_0 G v0 v1 h)
noncomputable def fX6_badPlace_42   (h : AH) : Option (Int32 × AH) := some ((-1), h)
theorem tX6_badPlace_42 (G : sr_G)  (h : AH) : sr_T (X := Int32) G 1 RX6 cX6_badPlace 3 (some .int) false (sr_M G jI) 42 [] [] h (fX6_badPlace_42  h) := by
  unfold fX6_badPlace_42
  refine tq_iconst (-1) dX6_badPlace_42 (by decide) ?_
  exact tq_iret rfl dX6_badPlace_43
noncomputable def fX6_badPlace_36 (r2 : Option Nat → Int32 → AH → Option (Int32 × AH)) (v0 : Option Nat) (v1 : Int32) (h : AH) : Option (Int32 × AH) := r2 v0 (v1 + (nI 1)) h
theorem tX6_badPlace_36 (G : sr_G) {r2 : Option Nat → Int32 → AH → Option (Int32 × AH)} (hr2 : ∀ (v0 : Option Nat) (v1 : Int32) (h : AH), sr_T (X := Int32) G 1 RX6 cX6_badPlace 3 (some .int) false (sr_M G jI) 2 [(0, vR v0), (1, vI v1)] [] h (r2 v0 v1 h)) (v0 : Option Nat) (v1 : Int32) (h : AH) : sr_T (X := Int32) G 1 RX6 cX6_badPlace 3 (some .int) false (sr_M G jI) 36 [(0, vR v0), (1, vI v1)] [] h (fX6_badPlace_36 r2 v0 v1 h) := by
  unfold fX6_badPlace_36
  refine tq_iinc 1 (nI 1) (L' := [(1, vI (v1 + (nI 1))), (0, vR v0)]) dX6_badPlace_36 rfl (by decide) (by decide) rfl ?_
  refine tq_goto 2 dX6_badPlace_39 (by decide) ?_
  exact tq_sub [1, 0] rfl (hr2 v0 (v1 + (nI 1)) h)
noncomputable def fX6_badPlace_34  (v1 : Int32) (h : AH) : Option (Int32 × AH) := some (v1, h)
theorem tX6_badPlace_34 (G : sr_G) (v1 : Int32) (h : AH) : sr_T (X := Int32) G 1 RX6 cX6_badPlace 3 (some .int) false (sr_M G jI) 34 [(1, vI v1)] [] h (fX6_badPlace_34  v1 h) := by
  unfold fX6_badPlace_34
  refine tq_iload_n 1 0 dX6_badPlace_34 rfl rfl ?_
  exact tq_iret rfl dX6_badPlace_35
noncomputable def fX6_badPlace_2  : Nat → Option Nat → Int32 → AH → Option (Int32 × AH)
  | 0, _, _, _ => none
  | n + 1, v0, v1, h => cGI h 6 301 v0 fun x1 => if x1 ≤ v1 then (fX6_badPlace_42 h) else (cCV h 6 v0 (fX6_byteAt v0 v1 h) fun x3 h2 => if x3 = (nI 10) then (fX6_badPlace_36 (fX6_badPlace_2 n) v0 v1 h2) else (if x3 < (nI 32) then (fX6_badPlace_34 v1 h2) else (if x3 ≤ (nI 126) then (fX6_badPlace_36 (fX6_badPlace_2 n) v0 v1 h2) else (fX6_badPlace_34 v1 h2))))
theorem tX6_badPlace_2 (G : sr_G) : ∀ (n : Nat) (v0 : Option Nat) (v1 : Int32) (h : AH), sr_T (X := Int32) G 1 RX6 cX6_badPlace 3 (some .int) false (sr_M G jI) 2 [(0, vR v0), (1, vI v1)] [] h (fX6_badPlace_2  n v0 v1 h) := by
  intro n
  induction n with
  | zero => intro v0 v1 h; exact tq_none
  | succ n ih =>
    intro v0 v1 h
    unfold fX6_badPlace_2
    refine tq_iload_n 1 1 dX6_badPlace_2 rfl rfl ?_
    refine tq_aload_n 0 0 dX6_badPlace_3 rfl rfl ?_
    refine tq_getI 1 dX6_badPlace_4 cfX6 (by decide) wd_102 rfl rfl (fun x1 => ?_)
    refine tq_icmp_ge 42 dX6_badPlace_7 (by decide) (fun _ => ?_) (fun _ => ?_)
    · exact tq_sub [] rfl (tX6_badPlace_42 G h)
    · refine tq_aload_n 0 0 dX6_badPlace_10 rfl rfl ?_
      refine tq_iload_n 1 1 dX6_badPlace_11 rfl rfl ?_
      refine tq_cVI [vI v1] [] dX6_badPlace_12 (eX6_byteAt G v0 v1 h) (by decide) mbX6_byteAt cfX6 rfl wd_336 wd_337 wd_338 rfl rfl (Nat.le_of_ble_eq_true rfl) (fun x3 h2 => ?_)
      refine tq_istore_n 2 (L' := [(2, vI x3), (0, vR v0), (1, vI v1)]) dX6_badPlace_15 rfl (by decide) rfl ?_
      refine tq_iload_n 2 0 dX6_badPlace_16 rfl rfl ?_
      refine tq_bipush (nI 10) dX6_badPlace_17 (by decide) ?_
      refine tq_icmp_eq 36 dX6_badPlace_19 (by decide) (fun _ => ?_) (fun _ => ?_)
      · exact tq_sub [1, 2] rfl (tX6_badPlace_36 G ih v0 v1 h2)
      · refine tq_iload_n 2 0 dX6_badPlace_22 rfl rfl ?_
        refine tq_bipush (nI 32) dX6_badPlace_23 (by decide) ?_
        refine tq_icmp_lt 34 dX6_badPlace_25 (by decide) (fun _ => ?_) (fun _ => ?_)
        · exact tq_sub [2] rfl (tX6_badPlace_34 G v1 h2)
        · refine tq_iload_n 2 0 dX6_badPlace_28 rfl rfl ?_
          refine tq_bipush (nI 126) dX6_badPlace_29 (by decide) ?_
          refine tq_icmp_le 36 dX6_badPlace_31 (by decide) (fun _ => ?_) (fun _ => ?_)
          · exact tq_sub [1, 2] rfl (tX6_badPlace_36 G ih v0 v1 h2)
          · exact tq_sub [2] rfl (tX6_badPlace_34 G v1 h2)
noncomputable def fX6_badPlace_0  (v0 : Option Nat) (h : AH) : Option (Int32 × AH) := fX6_badPlace_2 FU v0 (nI 0) h
theorem tX6_badPlace_0 (G : sr_G) (v0 : Option Nat) (h : AH) : sr_T (X := Int32) G 1 RX6 cX6_badPlace 3 (some .int) false (sr_M G jI) 0 [(0, vR v0)] [] h (fX6_badPlace_0  v0 h) := by
  unfold fX6_badPlace_0
  refine tq_iconst (nI 0) dX6_badPlace_0 (by decide) ?_
  refine tq_istore_n 1 (L' := [(1, vI (nI 0)), (0, vR v0)]) dX6_badPlace_1 rfl (by decide) rfl ?_
  exact tq_sub [1, 0] rfl (tX6_badPlace_2 G FU v0 (nI 0) h)
noncomputable def fX6_badPlace (v0 : Option Nat) (h : AH) : Option (Int32 × AH) := fX6_badPlace_0 v0 h
theorem eX6_badPlace (G : sr_G) (v0 : Option Nat) (h : AH) : sr_E G 1 yX6_badPlace cX6_badPlace 3 (some .int) jI [vR v0] h (fX6_badPlace v0 h) := sr_E.of (own := RX6) (ini := false) (by decide) rfl (fun q => by first | rfl | cases q) rfl (Nat.le_of_ble_eq_true rfl) (tX6_badPlace_0 G v0 h)
noncomputable def fX6_canBeInName_23  (s0 : Int32) (h : AH) : Option (Int32 × AH) := cZ s0 (some (s0, h))
theorem tX6_canBeInName_23 (G : sr_G) (s0 : Int32) (h : AH) : sr_T (X := Int32) G 1 RX6 cX6_canBeInName 2 (some .boolean) false (sr_M G jI) 23 [] [vI s0] h (fX6_canBeInName_23  s0 h) := by
  unfold fX6_canBeInName_23
  exact tq_zret rfl dX6_canBeInName_23
noncomputable def fX6_canBeInName_18   (h : AH) : Option (Int32 × AH) := fX6_canBeInName_23 (nI 1) h
theorem tX6_canBeInName_18 (G : sr_G)  (h : AH) : sr_T (X := Int32) G 1 RX6 cX6_canBeInName 2 (some .boolean) false (sr_M G jI) 18 [] [] h (fX6_canBeInName_18  h) := by
  unfold fX6_canBeInName_18
  refine tq_iconst (nI 1) dX6_canBeInName_18 (by decide) ?_
  refine tq_goto 23 dX6_canBeInName_19 (by decide) ?_
  exact tX6_canBeInName_23 G (nI 1) h
noncomputable def fX6_canBeInName_22   (h : AH) : Option (Int32 × AH) := fX6_canBeInName_23 (nI 0) h
theorem tX6_canBeInName_22 (G : sr_G)  (h : AH) : sr_T (X := Int32) G 1 RX6 cX6_canBeInName 2 (some .boolean) false (sr_M G jI) 22 [] [] h (fX6_canBeInName_22  h) := by
  unfold fX6_canBeInName_22
  refine tq_iconst (nI 0) dX6_canBeInName_22 (by decide) ?_
  exact tX6_canBeInName_23 G (nI 0) h
noncomputable def fX6_canBeInName_0  (v0 : Int32) (v1 : Int32) (h : AH) : Option (Int32 × AH) := cCL (fX8_isSmallLetter v0 h) fun x2 h1 => if x2 = 0 then (if v1 ≤ 0 then (fX6_canBeInName_22 h1) else (cCL (fX8_isDigit v0 h1) fun x4 h3 => if x4 = 0 then (fX6_canBeInName_22 h3) else (fX6_canBeInName_18 h3))) else (fX6_canBeInName_18 h1)
theorem tX6_canBeInName_0 (G : sr_G) (v0 : Int32) (v1 : Int32) (h : AH) : sr_T (X := Int32) G 1 RX6 cX6_canBeInName 2 (some .boolean) false (sr_M G jI) 0 [(0, vI v0), (1, vI v1)] [] h (fX6_canBeInName_0  v0 v1 h) := by
  unfold fX6_canBeInName_0
  refine tq_iload_n 0 0 dX6_canBeInName_0 rfl rfl ?_
  refine tq_cNI [vI v0] [] dX6_canBeInName_1 (eX8_isSmallLetter G v0 h) (by decide) mbX8_isSmallLetter (host := "SoupReader") (by decide) wd_426 rfl rfl (Nat.le_of_ble_eq_true rfl) (fun x2 h1 => ?_)
  refine tq_if_ne 18 dX6_canBeInName_4 (by decide) (fun _ => ?_) (fun _ => ?_)
  · exact tq_sub [] rfl (tX6_canBeInName_18 G h1)
  · refine tq_iload_n 1 1 dX6_canBeInName_7 rfl rfl ?_
    refine tq_if_le 22 dX6_canBeInName_8 (by decide) (fun _ => ?_) (fun _ => ?_)
    · exact tq_sub [] rfl (tX6_canBeInName_22 G h1)
    · refine tq_iload_n 0 0 dX6_canBeInName_11 rfl rfl ?_
      refine tq_cNI [vI v0] [] dX6_canBeInName_12 (eX8_isDigit G v0 h1) (by decide) mbX8_isDigit (host := "SoupReader") (by decide) wd_501 rfl rfl (Nat.le_of_ble_eq_true rfl) (fun x4 h3 => ?_)
      refine tq_if_eq 22 dX6_canBeInName_15 (by decide) (fun _ => ?_) (fun _ => ?_)
      · exact tq_sub [] rfl (tX6_canBeInName_22 G h3)
      · exact tq_sub [] rfl (tX6_canBeInName_18 G h3)
noncomputable def fX6_canBeInName (v0 : Int32) (v1 : Int32) (h : AH) : Option (Int32 × AH) := fX6_canBeInName_0 v0 v1 h
theorem eX6_canBeInName (G : sr_G) (v0 : Int32) (v1 : Int32) (h : AH) : sr_E G 1 yX6_canBeInName cX6_canBeInName 2 (some .boolean) jI [vI v0, vI v1] h (fX6_canBeInName v0 v1 h) := sr_E.of (own := RX6) (ini := false) (by decide) rfl (fun q => by first | rfl | cases q) rfl (Nat.le_of_ble_eq_true rfl) (tX6_canBeInName_0 G v0 v1 h)

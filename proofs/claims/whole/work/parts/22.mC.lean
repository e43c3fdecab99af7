noncomputable def fX5_openAt_31  (s0 : Option Nat) (h : AH) : Option (Option Nat × AH) := some (s0, h)
theorem tX5_openAt_31 (G : sr_G) (s0 : Option Nat) (h : AH) : sr_T (X := Option Nat) G 0 RX5 cX5_openAt 2 (some (.object "SoupReader$Node")) false (sr_M G jR) 31 [] [vR s0] h (fX5_openAt_31  s0 h) := by
  unfold fX5_openAt_31
  exact tq_aret rfl dX5_openAt_31
noncomputable def fX5_openAt_30   (h : AH) : Option (Option Nat × AH) := fX5_openAt_31 none h
theorem tX5_openAt_30 (G : sr_G)  (h : AH) : sr_T (X := Option Nat) G 0 RX5 cX5_openAt 2 (some (.object "SoupReader$Node")) false (sr_M G jR) 30 [] [] h (fX5_openAt_30  h) := by
  unfold fX5_openAt_30
  refine tq_null dX5_openAt_30 ?_
  exact tX5_openAt_31 G none h
noncomputable def fX5_openAt_0  (v0 : Option Nat) (v1 : Int32) (h : AH) : Option (Option Nat × AH) := if v1 < 0 then (fX5_openAt_30 h) else (cGI h 5 256 v0 fun x1 => if x1 ≤ v1 then (fX5_openAt_30 h) else (cGR h 5 254 v0 fun x2 => cAN h 3 x2 fun x3 => if x3 ≤ v1 then (fX5_openAt_30 h) else (cGR h 5 254 v0 fun x4 => cQL h 3 x4 v1 fun x5 => fX5_openAt_31 x5 h)))
theorem tX5_openAt_0 (G : sr_G) (v0 : Option Nat) (v1 : Int32) (h : AH) : sr_T (X := Option Nat) G 0 RX5 cX5_openAt 2 (some (.object "SoupReader$Node")) false (sr_M G jR) 0 [(0, vR v0), (1, vI v1)] [] h (fX5_openAt_0  v0 v1 h) := by
  unfold fX5_openAt_0
  refine tq_iload_n 1 1 dX5_openAt_0 rfl rfl ?_
  refine tq_if_lt 30 dX5_openAt_1 (by decide) (fun _ => ?_) (fun _ => ?_)
  · exact tq_sub [] rfl (tX5_openAt_30 G h)
  · refine tq_iload_n 1 1 dX5_openAt_4 rfl rfl ?_
    refine tq_aload_n 0 0 dX5_openAt_5 rfl rfl ?_
    refine tq_getI 6 dX5_openAt_6 cfX5 (by decide) wd_269 rfl rfl (fun x1 => ?_)
    refine tq_icmp_ge 30 dX5_openAt_9 (by decide) (fun _ => ?_) (fun _ => ?_)
    · exact tq_sub [] rfl (tX5_openAt_30 G h)
    · refine tq_iload_n 1 1 dX5_openAt_12 rfl rfl ?_
      refine tq_aload_n 0 0 dX5_openAt_13 rfl rfl ?_
      refine tq_getR 4 dX5_openAt_14 cfX5 (by decide) wd_267 rfl rfl (fun x2 => ?_)
      refine tq_alen (by decide) dX5_openAt_17 (fun x3 => ?_)
      refine tq_icmp_ge 30 dX5_openAt_18 (by decide) (fun _ => ?_) (fun _ => ?_)
      · exact tq_sub [] rfl (tX5_openAt_30 G h)
      · refine tq_aload_n 0 0 dX5_openAt_21 rfl rfl ?_
        refine tq_getR 4 dX5_openAt_22 cfX5 (by decide) wd_267 rfl rfl (fun x4 => ?_)
        refine tq_iload_n 1 1 dX5_openAt_25 rfl rfl ?_
        refine tq_aald (by decide) dX5_openAt_26 (fun x5 => ?_)
        refine tq_goto 31 dX5_openAt_27 (by decide) ?_
        exact tq_sub [] rfl (tX5_openAt_31 G x5 h)
noncomputable def fX5_openAt (v0 : Option Nat) (v1 : Int32) (h : AH) : Option (Option Nat × AH) := fX5_openAt_0 v0 v1 h
theorem eX5_openAt (G : sr_G) (v0 : Option Nat) (v1 : Int32) (h : AH) : sr_E G 0 yX5_openAt cX5_openAt 2 (some (.object "SoupReader$Node")) jR [vR v0, vI v1] h (fX5_openAt v0 v1 h) := sr_E.of (own := RX5) (ini := false) (by decide) rfl (fun q => by first | rfl | cases q) rfl (Nat.le_of_ble_eq_true rfl) (tX5_openAt_0 G v0 v1 h)
noncomputable def fX5_tagOpenAt_18  (s0 : Int32) (h : AH) : Option (Int32 × AH) := some (s0, h)
theorem tX5_tagOpenAt_18 (G : sr_G) (s0 : Int32) (h : AH) : sr_T (X := Int32) G 1 RX5 cX5_tagOpenAt 3 (some .int) false (sr_M G jI) 18 [] [vI s0] h (fX5_tagOpenAt_18  s0 h) := by
  unfold fX5_tagOpenAt_18
  exact tq_iret rfl dX5_tagOpenAt_18
noncomputable def fX5_tagOpenAt_0  (v0 : Option Nat) (v1 : Int32) (h : AH) : Option (Int32 × AH) := cCV h 5 v0 (fX5_openAt v0 v1 h) fun x2 h1 => if x2 = none then (fX5_tagOpenAt_18 (-1) h1) else (cGI h1 3 153 x2 fun x3 => fX5_tagOpenAt_18 x3 h1)
theorem tX5_tagOpenAt_0 (G : sr_G) (v0 : Option Nat) (v1 : Int32) (h : AH) : sr_T (X := Int32) G 1 RX5 cX5_tagOpenAt 3 (some .int) false (sr_M G jI) 0 [(0, vR v0), (1, vI v1)] [] h (fX5_tagOpenAt_0  v0 v1 h) := by
  unfold fX5_tagOpenAt_0
  refine tq_aload_n 0 0 dX5_tagOpenAt_0 rfl rfl ?_
  refine tq_iload_n 1 1 dX5_tagOpenAt_1 rfl rfl ?_
  refine tq_cVR [vI v1] [] dX5_tagOpenAt_2 (eX5_openAt G v0 v1 h) (by decide) mbX5_openAt cfX5 rfl wd_352 wd_354 wd_2 rfl rfl (Nat.le_of_ble_eq_true rfl) (fun x2 h1 => ?_)
  refine tq_astore_n 2 (L' := [(2, vR x2), (0, vR v0), (1, vI v1)]) dX5_tagOpenAt_5 rfl (by decide) rfl ?_
  refine tq_aload_n 2 0 dX5_tagOpenAt_6 rfl rfl ?_
  refine tq_ifnonnull 14 dX5_tagOpenAt_7 (by decide) (fun _ => ?_) (fun _ => ?_)
  · refine tq_aload_n 2 0 dX5_tagOpenAt_14 rfl rfl ?_
    refine tq_getI 3 dX5_tagOpenAt_15 cfX3 (by decide) wd_183 rfl rfl (fun x3 => ?_)
    exact tq_sub [] rfl (tX5_tagOpenAt_18 G x3 h1)
  · refine tq_iconst (-1) dX5_tagOpenAt_10 (by decide) ?_
    refine tq_goto 18 dX5_tagOpenAt_11 (by decide) ?_
    exact tq_sub [] rfl (tX5_tagOpenAt_18 G (-1) h1)
noncomputable def fX5_tagOpenAt (v0 : Option Nat) (v1 : Int32) (h : AH) : Option (Int32 × AH) := fX5_tagOpenAt_0 v0 v1 h
theorem eX5_tagOpenAt (G : sr_G) (v0 : Option Nat) (v1 : Int32) (h : AH) : sr_E G 1 yX5_tagOpenAt cX5_tagOpenAt 3 (some .int) jI [vR v0, vI v1] h (fX5_tagOpenAt v0 v1 h) := sr_E.of (own := RX5) (ini := false) (by decide) rfl (fun q => by first | rfl | cases q) rfl (Nat.le_of_ble_eq_true rfl) (tX5_tagOpenAt_0 G v0 v1 h)
noncomputable def fX5_closeDownTo_52   (h : AH) : Option (Unit × AH) := some ((), h)
theorem tX5_closeDownTo_52 (G : sr_G)  (h : AH) : sr_T (X := Unit) G 2 RX5 cX5_closeDownTo 4 none false (sr_M G jV) 52 [] [] h (fX5_closeDownTo_52  h) := by
  unfold fX5_closeDownTo_52
  exact tq_vret rfl dX5_closeDownTo_52
noncomputable def fX5_closeDownTo_41 (r7 : Option Nat → Int32 → Int32 → AH → Option (Unit × AH)) (v0 : Option Nat) (v1 : Int32) (v2 : Int32) (h : AH) : Option (Unit × AH) := cPI h 5 256 v0 v2 fun h1 => r7 v0 v1 (v2 + (-1)) h1
theorem tX5_closeDownTo_41 (G : sr_G) {r7 : Option Nat → Int32 → Int32 → AH → Option (Unit × AH)} (hr7 : ∀ (v0 : Option Nat) (v1 : Int32) (v2 : Int32) (h : AH), sr_T (X := Unit) G 2 RX5 cX5_closeDownTo 4 none false (sr_M G jV) 7 [(0, vR v0), (1, vI v1), (2, vI v2)] [] h (r7 v0 v1 v2 h)) (v0 : Option Nat) (v1 : Int32) (v2 : Int32) (h : AH) : sr_T (X := Unit) G 2 RX5 cX5_closeDownTo 4 none false (sr_M G jV) 41 [(0, vR v0), (1, vI v1), (2, vI v2)] [] h (fX5_closeDownTo_41 r7 v0 v1 v2 h) := by
  unfold fX5_closeDownTo_41
  refine tq_aload_n 0 0 dX5_closeDownTo_41 rfl rfl ?_
  refine tq_iload_n 2 2 dX5_closeDownTo_42 rfl rfl ?_
  refine tq_putI 6 dX5_closeDownTo_43 cfX5 (by decide) wd_269 rfl rfl (Or.inl rfl) (fun h1 => ?_)
  refine tq_iinc 2 (-1) (L' := [(2, vI (v2 + (-1))), (0, vR v0), (1, vI v1)]) dX5_closeDownTo_46 rfl (by decide) (by decide) rfl ?_
  refine tq_goto 7 dX5_closeDownTo_49 (by decide) ?_
  exact tq_sub [1, 2, 0] rfl (hr7 v0 v1 (v2 + (-1)) h1)
noncomputable def fX5_closeDownTo_7  : Nat → Option Nat → Int32 → Int32 → AH → Option (Unit × AH)
  | 0, _, _, _, _ => none
  | n + 1, v0, v1, v2, h => if v2 < v1 then (fX5_closeDownTo_52 h) else (cCV h 5 v0 (fX5_tagOpenAt v0 v2 h) fun x2 h1 => if x2 = (nI 1) then (fX5_closeDownTo_41 (fX5_closeDownTo_7 n) v0 v1 v2 h1) else (if x2 = (nI 4) then (fX5_closeDownTo_41 (fX5_closeDownTo_7 n) v0 v1 v2 h1) else (cGR h1 5 252 v0 fun x3 => cCV h1 5 v0 (fX5_placeOpenAt v0 v2 h1) fun x5 h4 => cCV h4 2 x3 (fX2_tell x3 (nI 4) x5 h4) fun _ h6 => fX5_closeDownTo_41 (fX5_closeDownTo_7 n) v0 v1 v2 h6)))
theorem tX5_closeDownTo_7 (G : sr_G) : ∀ (n : Nat) (v0 : Option Nat) (v1 : Int32) (v2 : Int32) (h : AH), sr_T (X := Unit) G 2 RX5 cX5_closeDownTo 4 none false (sr_M G jV) 7 [(0, vR v0), (1, vI v1), (2, vI v2)] [] h (fX5_closeDownTo_7  n v0 v1 v2 h) := by
  intro n
  induction n with
  | zero => intro v0 v1 v2 h; exact tq_none
  | succ n ih =>
    intro v0 v1 v2 h
    unfold fX5_closeDownTo_7
    refine tq_iload_n 2 2 dX5_closeDownTo_7 rfl rfl ?_
    refine tq_iload_n 1 1 dX5_closeDownTo_8 rfl rfl ?_
    refine tq_icmp_lt 52 dX5_closeDownTo_9 (by decide) (fun _ => ?_) (fun _ => ?_)
    · exact tq_sub [] rfl (tX5_closeDownTo_52 G h)
    · refine tq_aload_n 0 0 dX5_closeDownTo_12 rfl rfl ?_
      refine tq_iload_n 2 2 dX5_closeDownTo_13 rfl rfl ?_
      refine tq_cVI [vI v2] [] dX5_closeDownTo_14 (eX5_tagOpenAt G v0 v2 h) (by decide) mbX5_tagOpenAt cfX5 rfl wd_348 wd_350 wd_1 rfl rfl (Nat.le_of_ble_eq_true rfl) (fun x2 h1 => ?_)
      refine tq_istore_n 3 (L' := [(3, vI x2), (0, vR v0), (1, vI v1), (2, vI v2)]) dX5_closeDownTo_17 rfl (by decide) rfl ?_
      refine tq_iload_n 3 0 dX5_closeDownTo_18 rfl rfl ?_
      refine tq_iconst (nI 1) dX5_closeDownTo_19 (by decide) ?_
      refine tq_icmp_eq 41 dX5_closeDownTo_20 (by decide) (fun _ => ?_) (fun _ => ?_)
      · exact tq_sub [1, 2, 3] rfl (tX5_closeDownTo_41 G ih v0 v1 v2 h1)
      · refine tq_iload_n 3 0 dX5_closeDownTo_23 rfl rfl ?_
        refine tq_iconst (nI 4) dX5_closeDownTo_24 (by decide) ?_
        refine tq_icmp_eq 41 dX5_closeDownTo_25 (by decide) (fun _ => ?_) (fun _ => ?_)
        · exact tq_sub [1, 2, 3] rfl (tX5_closeDownTo_41 G ih v0 v1 v2 h1)
        · refine tq_aload_n 0 1 dX5_closeDownTo_28 rfl rfl ?_
          refine tq_getR 2 dX5_closeDownTo_29 cfX5 (by decide) wd_265 rfl rfl (fun x3 => ?_)
          refine tq_iconst (nI 4) dX5_closeDownTo_32 (by decide) ?_
          refine tq_aload_n 0 1 dX5_closeDownTo_33 rfl rfl ?_
          refine tq_iload_n 2 3 dX5_closeDownTo_34 rfl rfl ?_
          refine tq_cVI [vI v2] [vI (nI 4), vR x3] dX5_closeDownTo_35 (eX5_placeOpenAt G v0 v2 h1) (by decide) mbX5_placeOpenAt cfX5 rfl wd_592 wd_594 wd_23 rfl rfl (Nat.le_of_ble_eq_true rfl) (fun x5 h4 => ?_)
          refine tq_cVV [vI (nI 4), vI x5] [] dX5_closeDownTo_38 (eX2_tell G x3 (nI 4) x5 h4) (by decide) mbX2_tell cfX2 rfl wd_460 wd_461 wd_462 rfl rfl (Nat.le_of_ble_eq_true rfl) (fun _ h6 => ?_)
          exact tq_sub [1, 2, 3] rfl (tX5_closeDownTo_41 G ih v0 v1 v2 h6)
noncomputable def fX5_closeDownTo_0  (v0 : Option Nat) (v1 : Int32) (h : AH) : Option (Unit × AH) := cGI h 5 256 v0 fun x1 => fX5_closeDownTo_7 FU v0 v1 (x1 - (nI 1)) h
theorem tX5_closeDownTo_0 (G : sr_G) (v0 : Option Nat) (v1 : Int32) (h : AH) : sr_T (X := Unit) G 2 RX5 cX5_closeDownTo 4 none false (sr_M G jV) 0 [(0, vR v0), (1, vI v1)] [] h (fX5_closeDownTo_0  v0 v1 h) := by
  unfold fX5_closeDownTo_0
  refine tq_aload_n 0 0 dX5_closeDownTo_0 rfl rfl ?_
  refine tq_getI 6 dX5_closeDownTo_1 cfX5 (by decide) wd_269 rfl rfl (fun x1 => ?_)
  refine tq_iconst (nI 1) dX5_closeDownTo_4 (by decide) ?_
  refine tq_isub dX5_closeDownTo_5 ?_
  refine tq_istore_n 2 (L' := [(2, vI (x1 - (nI 1))), (0, vR v0), (1, vI v1)]) dX5_closeDownTo_6 rfl (by decide) rfl ?_
  exact tq_sub [1, 2, 0] rfl (tX5_closeDownTo_7 G FU v0 v1 (x1 - (nI 1)) h)
noncomputable def fX5_closeDownTo (v0 : Option Nat) (v1 : Int32) (h : AH) : Option (Unit × AH) := fX5_closeDownTo_0 v0 v1 h
theorem eX5_closeDownTo (G : sr_G) (v0 : Option Nat) (v1 : Int32) (h : AH) : sr_E G 2 yX5_closeDownTo cX5_closeDownTo 4 none jV [vR v0, vI v1] h (fX5_closeDownTo v0 v1 h) := sr_E.of (own := RX5) (ini := false) (by decide) rfl (fun q => by first | rfl | cases q) rfl (Nat.le_of_ble_eq_true rfl) (tX5_closeDownTo_0 G v0 v1 h)
noncomputable def fX6_byteAt_35  (s0 : Int32) (h : AH) : Option (Int32 × AH) := some (s0, h)
theorem tX6_byteAt_35 (G : sr_G) (s0 : Int32) (h : AH) : sr_T (X := Int32) G 0 RX6 cX6_byteAt 2 (some .int) false (sr_M G jI) 35 [] [vI s0] h (fX6_byteAt_35  s0 h) := by
  unfold fX6_byteAt_35
  exact tq_iret rfl dX6_byteAt_35
noncomputable def fX6_byteAt_34   (h : AH) : Option (Int32 × AH) := fX6_byteAt_35 (-1) h
theorem tX6_byteAt_34 (G : sr_G)  (h : AH) : sr_T (X := Int32) G 0 RX6 cX6_byteAt 2 (some .int) false (sr_M G jI) 34 [] [] h (fX6_byteAt_34  h) := by
  unfold fX6_byteAt_34
  refine tq_iconst (-1) dX6_byteAt_34 (by decide) ?_
  exact tX6_byteAt_35 G (-1) h
noncomputable def fX6_byteAt_0  (v0 : Option Nat) (v1 : Int32) (h : AH) : Option (Int32 × AH) := if v1 < 0 then (fX6_byteAt_34 h) else (cGI h 6 301 v0 fun x1 => if x1 ≤ v1 then (fX6_byteAt_34 h) else (cGR h 6 300 v0 fun x2 => cAN h 1 x2 fun x3 => if x3 ≤ v1 then (fX6_byteAt_34 h) else (cGR h 6 300 v0 fun x4 => cAL h 1 x4 v1 fun x5 => fX6_byteAt_35 (x5 &&& (nI 255)) h)))
theorem tX6_byteAt_0 (G : sr_G) (v0 : Option Nat) (v1 : Int32) (h : AH) : sr_T (X := Int32) G 0 RX6 cX6_byteAt 2 (some .int) false (sr_M G jI) 0 [(0, vR v0), (1, vI v1)] [] h (fX6_byteAt_0  v0 v1 h) := by
  unfold fX6_byteAt_0
  refine tq_iload_n 1 1 dX6_byteAt_0 rfl rfl ?_
  refine tq_if_lt 34 dX6_byteAt_1 (by decide) (fun _ => ?_) (fun _ => ?_)
  · exact tq_sub [] rfl (tX6_byteAt_34 G h)
  · refine tq_iload_n 1 1 dX6_byteAt_4 rfl rfl ?_
    refine tq_aload_n 0 0 dX6_byteAt_5 rfl rfl ?_
    refine tq_getI 1 dX6_byteAt_6 cfX6 (by decide) wd_102 rfl rfl (fun x1 => ?_)
    refine tq_icmp_ge 34 dX6_byteAt_9 (by decide) (fun _ => ?_) (fun _ => ?_)
    · exact tq_sub [] rfl (tX6_byteAt_34 G h)
    · refine tq_iload_n 1 1 dX6_byteAt_12 rfl rfl ?_
      refine tq_aload_n 0 0 dX6_byteAt_13 rfl rfl ?_
      refine tq_getR 0 dX6_byteAt_14 cfX6 (by decide) wd_98 rfl rfl (fun x2 => ?_)
      refine tq_alen (by decide) dX6_byteAt_17 (fun x3 => ?_)
      refine tq_icmp_ge 34 dX6_byteAt_18 (by decide) (fun _ => ?_) (fun _ => ?_)
      · exact tq_sub [] rfl (tX6_byteAt_34 G h)
      · refine tq_aload_n 0 0 dX6_byteAt_21 rfl rfl ?_
        refine tq_getR 0 dX6_byteAt_22 cfX6 (by decide) wd_98 rfl rfl (fun x4 => ?_)
        refine tq_iload_n 1 1 dX6_byteAt_25 rfl rfl ?_
        refine tq_bald dX6_byteAt_26 (fun x5 => ?_)
        refine tq_sipush (nI 255) dX6_byteAt_27 (by decide) ?_
        refine tq_iand dX6_byteAt_30 ?_
        refine tq_goto 35 dX6_byteAt_31 (by decide) ?_
        exact tq_sub [] rfl (tX6_byteAt_35 G (x5 &&& (nI 255)) h)
noncomputable def fX6_byteAt (v0 : Option Nat) (v1 : Int32) (h : AH) : Option (Int32 × AH) := fX6_byteAt_0 v0 v1 h
theorem eX6_byteAt (G : sr_G) (v0 : Option Nat) (v1 : Int32) (h : AH) : sr_E G 0 yX6_byteAt cX6_byteAt 2 (some .int) jI [vR v0, vI v1] h (fX6_byteAt v0 v1 h) := sr_E.of (own := RX6) (ini := false) (by decide) rfl (fun q => by first | rfl | cases q) rfl (Nat.le_of_ble_eq_true rfl) (tX6_byteAt_0 G v0 v1 h)
noncomputable def fX6_holds_33   (h : AH) : Option (Int32 × AH) := cZ (nI 1) (some ((nI 1), h))
theorem tX6_holds_33 (G : sr_G)  (h : AH) : sr_T (X := Int32) G 5 RX6 cX6_holds 4 (some .boolean) false (sr_M G jI) 33 [] [] h (fX6_holds_33  h) := by
  unfold fX6_holds_33
  refine tq_iconst (nI 1) dX6_holds_33 (by decide) ?_
  exact tq_zret rfl dX6_holds_34
noncomputable def fX6_holds_25   (h : AH) : Option (Int32 × AH) := cZ (nI 0) (some ((nI 0), h))
theorem tX6_holds_25 (G : sr_G)  (h : AH) : sr_T (X := Int32) G 5 RX6 cX6_holds 4 (some .boolean) false (sr_M G jI) 25 [] [] h (fX6_holds_25  h) := by
  unfold fX6_holds_25
  refine tq_iconst (nI 0) dX6_holds_25 (by decide) ?_
  exact tq_zret rfl dX6_holds_26
noncomputable def fX6_holds_2  : Nat → Option Nat → Nat → Int32 → Int32 → AH → Option (Int32 × AH)
  | 0, _, _, _, _, _ => none
  | n + 1, v0, v1, v2, v3, h => cSN h v1 fun x1 h2 => if x1 ≤ v3 then (fX6_holds_33 h2) else (cCV h2 6 v0 (fX6_byteAt v0 (v2 + v3) h2) fun x4 h3 => cSC h3 v1 v3 fun x5 h6 => if x4 = x5 then (fX6_holds_2 n v0 v1 v2 (v3 + (nI 1)) h6) else (fX6_holds_25 h6))
theorem tX6_holds_2 (G : sr_G) : ∀ (n : Nat) (v0 : Option Nat) (v1 : Nat) (v2 : Int32) (v3 : Int32) (h : AH), sr_T (X := Int32) G 5 RX6 cX6_holds 4 (some .boolean) false (sr_M G jI) 2 [(0, vR v0), (1, vR (some (G.2.2.2.1 v1))), (2, vI v2), (3, vI v3)] [] h (fX6_holds_2  n v0 v1 v2 v3 h) := by
  intro n
  induction n with
  | zero => intro v0 v1 v2 v3 h; exact tq_none
  | succ n ih =>
    intro v0 v1 v2 v3 h
    unfold fX6_holds_2
    refine tq_iload_n 3 3 dX6_holds_2 rfl rfl ?_
    refine tq_aload_n 1 1 dX6_holds_3 rfl rfl ?_
    refine tq_sN dX6_holds_4 (by decide) wd_369 (Nat.le_of_ble_eq_true rfl) (fun x1 h2 => ?_)
    refine tq_icmp_ge 33 dX6_holds_7 (by decide) (fun _ => ?_) (fun _ => ?_)
    · exact tq_sub [] rfl (tX6_holds_33 G h2)
    · refine tq_aload_n 0 0 dX6_holds_10 rfl rfl ?_
      refine tq_iload_n 2 2 dX6_holds_11 rfl rfl ?_
      refine tq_iload_n 3 3 dX6_holds_12 rfl rfl ?_
      refine tq_iadd dX6_holds_13 ?_
      refine tq_cVI [vI (v2 + v3)] [] dX6_holds_14 (eX6_byteAt G v0 (v2 + v3) h2) (by decide) mbX6_byteAt cfX6 rfl wd_336 wd_337 wd_338 rfl rfl (Nat.le_of_ble_eq_true rfl) (fun x4 h3 => ?_)
      refine tq_aload_n 1 1 dX6_holds_17 rfl rfl ?_
      refine tq_iload_n 3 3 dX6_holds_18 rfl rfl ?_
      refine tq_sC dX6_holds_19 (by decide) wd_379 (Nat.le_of_ble_eq_true rfl) (fun x5 h6 => ?_)
      refine tq_icmp_eq 27 dX6_holds_22 (by decide) (fun _ => ?_) (fun _ => ?_)
      · refine tq_iinc 3 (nI 1) (L' := [(3, vI (v3 + (nI 1))), (0, vR v0), (1, vR (some (G.2.2.2.1 v1))), (2, vI v2)]) dX6_holds_27 rfl (by decide) (by decide) rfl ?_
        refine tq_goto 2 dX6_holds_30 (by decide) ?_
        exact tq_sub [1, 2, 3, 0] rfl (ih v0 v1 v2 (v3 + (nI 1)) h6)
      · exact tq_sub [] rfl (tX6_holds_25 G h6)
noncomputable def fX6_holds_0  (v0 : Option Nat) (v1 : Nat) (v2 : Int32) (h : AH) : Option (Int32 × AH) := fX6_holds_2 FU v0 v1 v2 (nI 0) h
theorem tX6_holds_0 (G : sr_G) (v0 : Option Nat) (v1 : Nat) (v2 : Int32) (h : AH) : sr_T (X := Int32) G 5 RX6 cX6_holds 4 (some .boolean) false (sr_M G jI) 0 [(0, vR v0), (1, vR (some (G.2.2.2.1 v1))), (2, vI v2)] [] h (fX6_holds_0  v0 v1 v2 h) := by
  unfold fX6_holds_0
  refine tq_iconst (nI 0) dX6_holds_0 (by decide) ?_
  refine tq_istore_n 3 (L' := [(3, vI (nI 0)), (0, vR v0), (1, vR (some (G.2.2.2.1 v1))), (2, vI v2)]) dX6_holds_1 rfl (by decide) rfl ?_
  exact tq_sub [1, 2, 3, 0] rfl (tX6_holds_2 G FU v0 v1 v2 (nI 0) h)
noncomputable def fX6_holds (v0 : Option Nat) (v1 : Nat) (v2 : Int32) (h : AH) : Option (Int32 × AH) := fX6_holds_0 v0 v1 v2 h
theorem eX6_holds (G : sr_G) (v0 : Option Nat) (v1 : Nat) (v2 : Int32) (h : AH) : sr_E G 5 yX6_holds cX6_holds 4 (some .boolean) jI [vR v0, vR (some (G.2.2.2.1 v1)), vI v2] h (fX6_holds v0 v1 v2 h) := sr_E.of (own := RX6) (ini := false) (by decide) rfl (fun q => by first | rfl | cases q) rfl (Nat.le_of_ble_eq_true rfl) (tX6_holds_0 G v0 v1 v2 h)
noncomputable def fX5_readComment_53  (v0 : Option Nat) (h : AH) : Option (Unit × AH) := cGR h 5 252 v0 fun x1 => cGI h 5 257 v0 fun x2 => cCV h 2 x1 (fX2_tell x1 (nI 1) x2 h) fun _ h3 => cGR h3 5 250 v0 fun x4 => cGI h3 6 301 x4 fun x5 => cPI h3 5 257 v0 x5 fun h6 => some ((), h6)
theorem tX5_readComment_53 (G : sr_G) (v0 : Option Nat) (h : AH) : sr_T (X := Unit) G 6 RX5 cX5_readComment 2 none false (sr_M G jV) 53 [(0, vR v0)] [] h (fX5_readComment_53  v0 h) := by
  unfold fX5_readComment_53
  refine tq_aload_n 0 0 dX5_readComment_53 rfl rfl ?_
  refine tq_getR 2 dX5_readComment_54 cfX5 (by decide) wd_265 rfl rfl (fun x1 => ?_)
  refine tq_iconst (nI 1) dX5_readComment_57 (by decide) ?_
  refine tq_aload_n 0 0 dX5_readComment_58 rfl rfl ?_
  refine tq_getI 7 dX5_readComment_59 cfX5 (by decide) wd_270 rfl rfl (fun x2 => ?_)
  refine tq_cVV [vI (nI 1), vI x2] [] dX5_readComment_62 (eX2_tell G x1 (nI 1) x2 h) (by decide) mbX2_tell cfX2 rfl wd_460 wd_461 wd_462 rfl rfl (Nat.le_of_ble_eq_true rfl) (fun _ h3 => ?_)
  refine tq_aload_n 0 0 dX5_readComment_65 rfl rfl ?_
  refine tq_aload_n 0 0 dX5_readComment_66 rfl rfl ?_
  refine tq_getR 0 dX5_readComment_67 cfX5 (by decide) wd_263 rfl rfl (fun x4 => ?_)
  refine tq_getI 1 dX5_readComment_70 cfX6 (by decide) wd_101 rfl rfl (fun x5 => ?_)
  refine tq_putI 7 dX5_readComment_73 cfX5 (by decide) wd_270 rfl rfl (Or.inl rfl) (fun h6 => ?_)
  exact tq_vret rfl dX5_readComment_76
noncomputable def fX5_readComment_35  (v0 : Option Nat) (v1 : Int32) (h : AH) : Option (Unit × AH) := cSN h 6 fun x1 h2 => cPI h2 5 257 v0 (v1 + x1) fun h3 => some ((), h3)
theorem tX5_readComment_35 (G : sr_G) (v0 : Option Nat) (v1 : Int32) (h : AH) : sr_T (X := Unit) G 6 RX5 cX5_readComment 2 none false (sr_M G jV) 35 [(0, vR v0), (1, vI v1)] [] h (fX5_readComment_35  v0 v1 h) := by
  unfold fX5_readComment_35
  refine tq_aload_n 0 0 dX5_readComment_35 rfl rfl ?_
  refine tq_iload_n 1 1 dX5_readComment_36 rfl rfl ?_
  refine tq_ldcS (tx := "-->") 6 dX5_readComment_37 (by decide) ?_
  refine tq_sN dX5_readComment_39 (by decide) wd_486 (Nat.le_of_ble_eq_true rfl) (fun x1 h2 => ?_)
  refine tq_iadd dX5_readComment_42 ?_
  refine tq_putI 7 dX5_readComment_43 cfX5 (by decide) wd_270 rfl rfl (Or.inl rfl) (fun h3 => ?_)
  exact tq_vret rfl dX5_readComment_46
noncomputable def fX5_readComment_11  : Nat → Option Nat → Int32 → AH → Option (Unit × AH)
  | 0, _, _, _ => none
  | n + 1, v0, v1, h => cGR h 5 250 v0 fun x1 => cGI h 6 301 x1 fun x2 => if x2 ≤ v1 then (fX5_readComment_53 v0 h) else (cGR h 5 250 v0 fun x3 => cCV h 6 x3 (fX6_holds x3 6 v1 h) fun x5 h4 => if x5 = 0 then (fX5_readComment_11 n v0 (v1 + (nI 1)) h4) else (fX5_readComment_35 v0 v1 h4))
theorem tX5_readComment_11 (G : sr_G) : ∀ (n : Nat) (v0 : Option Nat) (v1 : Int32) (h : AH), sr_T (X := Unit) G 6 RX5 cX5_readComment 2 none false (sr_M G jV) 11 [(0, vR v0), (1, vI v1)] [] h (fX5_readComment_11  n v0 v1 h) := by
  intro n
  induction n with
  | zero => intro v0 v1 h; exact tq_none
  | succ n ih =>
    intro v0 v1 h
    unfold fX5_readComment_11
    refine tq_iload_n 1 1 dX5_readComment_11 rfl rfl ?_
    refine tq_aload_n 0 0 dX5_readComment_12 rfl rfl ?_
    refine tq_getR 0 dX5_readComment_13 cfX5 (by decide) wd_263 rfl rfl (fun x1 => ?_)
    refine tq_getI 1 dX5_readComment_16 cfX6 (by decide) wd_101 rfl rfl (fun x2 => ?_)
    refine tq_icmp_ge 53 dX5_readComment_19 (by decide) (fun _ => ?_) (fun _ => ?_)
    · exact tq_sub [0] rfl (tX5_readComment_53 G v0 h)
    · refine tq_aload_n 0 0 dX5_readComment_22 rfl rfl ?_
      refine tq_getR 0 dX5_readComment_23 cfX5 (by decide) wd_263 rfl rfl (fun x3 => ?_)
      refine tq_ldcS (tx := "-->") 6 dX5_readComment_26 (by decide) ?_
      refine tq_iload_n 1 1 dX5_readComment_28 rfl rfl ?_
      refine tq_cVI [vR (some (G.2.2.2.1 6)), vI v1] [] dX5_readComment_29 (eX6_holds G x3 6 v1 h) (by decide) mbX6_holds cfX6 rfl wd_365 wd_366 wd_367 rfl rfl (Nat.le_of_ble_eq_true rfl) (fun x5 h4 => ?_)
      refine tq_if_eq 47 dX5_readComment_32 (by decide) (fun _ => ?_) (fun _ => ?_)
      · refine tq_iinc 1 (nI 1) (L' := [(1, vI (v1 + (nI 1))), (0, vR v0)]) dX5_readComment_47 rfl (by decide) (by decide) rfl ?_
        refine tq_goto 11 dX5_readComment_50 (by decide) ?_
        exact tq_sub [1, 0] rfl (ih v0 (v1 + (nI 1)) h4)
      · exact tX5_readComment_35 G v0 v1 h4
noncomputable def fX5_readComment_0  (v0 : Option Nat) (h : AH) : Option (Unit × AH) := cGI h 5 257 v0 fun x1 => cSN h 5 fun x2 h3 => fX5_readComment_11 FU v0 (x1 + x2) h3
theorem tX5_readComment_0 (G : sr_G) (v0 : Option Nat) (h : AH) : sr_T (X := Unit) G 6 RX5 cX5_readComment 2 none false (sr_M G jV) 0 [(0, vR v0)] [] h (fX5_readComment_0  v0 h) := by
  unfold fX5_readComment_0
  refine tq_aload_n 0 0 dX5_readComment_0 rfl rfl ?_
  refine tq_getI 7 dX5_readComment_1 cfX5 (by decide) wd_270 rfl rfl (fun x1 => ?_)
  refine tq_ldcS (tx := "<!--") 5 dX5_readComment_4 (by decide) ?_
  refine tq_sN dX5_readComment_6 (by decide) wd_486 (Nat.le_of_ble_eq_true rfl) (fun x2 h3 => ?_)
  refine tq_iadd dX5_readComment_9 ?_
  refine tq_istore_n 1 (L' := [(1, vI (x1 + x2)), (0, vR v0)]) dX5_readComment_10 rfl (by decide) rfl ?_
  exact tq_sub [1, 0] rfl (tX5_readComment_11 G FU v0 (x1 + x2) h3)
noncomputable def fX5_readComment (v0 : Option Nat) (h : AH) : Option (Unit × AH) := fX5_readComment_0 v0 h
theorem eX5_readComment (G : sr_G) (v0 : Option Nat) (h : AH) : sr_E G 6 yX5_readComment cX5_readComment 2 none jV [vR v0] h (fX5_readComment v0 h) := sr_E.of (own := RX5) (ini := false) (by decide) rfl (fun q => by first | rfl | cases q) rfl (Nat.le_of_ble_eq_true rfl) (tX5_readComment_0 G v0 h)
noncomputable def fX8_isBlank_17  (s0 : Int32) (h : AH) : Option (Int32 × AH) := cZ s0 (some (s0, h))
theorem tX8_isBlank_17 (G : sr_G) (s0 : Int32) (h : AH) : sr_T (X := Int32) G 0 RX8 cX8_isBlank 1 (some .boolean) false (sr_M G jI) 17 [] [vI s0] h (fX8_isBlank_17  s0 h) := by
  unfold fX8_isBlank_17
  exact tq_zret rfl dX8_isBlank_17
noncomputable def fX8_isBlank_12   (h : AH) : Option (Int32 × AH) := fX8_isBlank_17 (nI 1) h
theorem tX8_isBlank_12 (G : sr_G)  (h : AH) : sr_T (X := Int32) G 0 RX8 cX8_isBlank 1 (some .boolean) false (sr_M G jI) 12 [] [] h (fX8_isBlank_12  h) := by
  unfold fX8_isBlank_12
  refine tq_iconst (nI 1) dX8_isBlank_12 (by decide) ?_
  refine tq_goto 17 dX8_isBlank_13 (by decide) ?_
  exact tX8_isBlank_17 G (nI 1) h
noncomputable def fX8_isBlank_0  (v0 : Int32) (h : AH) : Option (Int32 × AH) := if v0 = (nI 10) then (fX8_isBlank_12 h) else (if v0 = (nI 32) then (fX8_isBlank_12 h) else (fX8_isBlank_17 (nI 0) h))
theorem tX8_isBlank_0 (G : sr_G) (v0 : Int32) (h : AH) : sr_T (X := Int32) G 0 RX8 cX8_isBlank 1 (some .boolean) false (sr_M G jI) 0 [(0, vI v0)] [] h (fX8_isBlank_0  v0 h) := by
  unfold fX8_isBlank_0
  refine tq_iload_n 0 0 dX8_isBlank_0 rfl rfl ?_
  refine tq_bipush (nI 10) dX8_isBlank_1 (by decide) ?_
  refine tq_icmp_eq 12 dX8_isBlank_3 (by decide) (fun _ => ?_) (fun _ => ?_)
  · exact tq_sub [] rfl (tX8_isBlank_12 G h)
  · refine tq_iload_n 0 0 dX8_isBlank_6 rfl rfl ?_
    refine tq_bipush (nI 32) dX8_isBlank_7 (by decide) ?_
    refine tq_icmp_ne 16 dX8_isBlank_9 (by decide) (fun _ => ?_) (fun _ => ?_)
    · refine tq_iconst (nI 0) dX8_isBlank_16 (by decide) ?_
      exact tq_sub [] rfl (tX8_isBlank_17 G (nI 0) h)
    · exact tq_sub [] rfl (tX8_isBlank_12 G h)
noncomputable def fX8_isBlank (v0 : Int32) (h : AH) : Option (Int32 × AH) := fX8_isBlank_0 v0 h
theorem eX8_isBlank (G : sr_G) (v0 : Int32) (h : AH) : sr_E G 0 yX8_isBlank cX8_isBlank 1 (some .boolean) jI [vI v0] h (fX8_isBlank v0 h) := sr_E.of (own := RX8) (ini := false) (by decide) rfl (fun q => by first | rfl | cases q) rfl (Nat.le_of_ble_eq_true rfl) (tX8_isBlank_0 G v0 h)
noncomputable def fX5_partsAttributes_18  (s0 : Int32) (h : AH) : Option (Int32 × AH) := cZ s0 (some (s0, h))
theorem tX5_partsAttributes_18 (G : sr_G) (s0 : Int32) (h : AH) : sr_T (X := Int32) G 1 RX5 cX5_partsAttributes 1 (some .boolean) false (sr_M G jI) 18 [] [vI s0] h (fX5_partsAttributes_18  s0 h) := by
  unfold fX5_partsAttributes_18
  exact tq_zret rfl dX5_partsAttributes_18
noncomputable def fX5_partsAttributes_13   (h : AH) : Option (Int32 × AH) := fX5_partsAttributes_18 (nI 1) h
theorem tX5_partsAttributes_13 (G : sr_G)  (h : AH) : sr_T (X := Int32) G 1 RX5 cX5_partsAttributes 1 (some .boolean) false (sr_M G jI) 13 [] [] h (fX5_partsAttributes_13  h) := by
  unfold fX5_partsAttributes_13
  refine tq_iconst (nI 1) dX5_partsAttributes_13 (by decide) ?_
  refine tq_goto 18 dX5_partsAttributes_14 (by decide) ?_
  exact tX5_partsAttributes_18 G (nI 1) h
noncomputable def fX5_partsAttributes_0  (v0 : Int32) (h : AH) : Option (Int32 × AH) := cCL (fX8_isBlank v0 h) fun x2 h1 => if x2 = 0 then (if v0 = (nI 47) then (fX5_partsAttributes_13 h1) else (fX5_partsAttributes_18 (nI 0) h1)) else (fX5_partsAttributes_13 h1)
theorem tX5_partsAttributes_0 (G : sr_G) (v0 : Int32) (h : AH) : sr_T (X := Int32) G 1 RX5 cX5_partsAttributes 1 (some .boolean) false (sr_M G jI) 0 [(0, vI v0)] [] h (fX5_partsAttributes_0  v0 h) := by
  unfold fX5_partsAttributes_0
  refine tq_iload_n 0 0 dX5_partsAttributes_0 rfl rfl ?_
  refine tq_cNI [vI v0] [] dX5_partsAttributes_1 (eX8_isBlank G v0 h) (by decide) mbX8_isBlank (host := "SoupReader") (by decide) wd_446 rfl rfl (Nat.le_of_ble_eq_true rfl) (fun x2 h1 => ?_)
  refine tq_if_ne 13 dX5_partsAttributes_4 (by decide) (fun _ => ?_) (fun _ => ?_)
  · exact tq_sub [] rfl (tX5_partsAttributes_13 G h1)
  · refine tq_iload_n 0 0 dX5_partsAttributes_7 rfl rfl ?_
    refine tq_bipush (nI 47) dX5_partsAttributes_8 (by decide) ?_
    refine tq_icmp_ne 17 dX5_partsAttributes_10 (by decide) (fun _ => ?_) (fun _ => ?_)
    · refine tq_iconst (nI 0) dX5_partsAttributes_17 (by decide) ?_
      exact tq_sub [] rfl (tX5_partsAttributes_18 G (nI 0) h1)
    · exact tq_sub [] rfl (tX5_partsAttributes_13 G h1)
noncomputable def fX5_partsAttributes (v0 : Int32) (h : AH) : Option (Int32 × AH) := fX5_partsAttributes_0 v0 h
theorem eX5_partsAttributes (G : sr_G) (v0 : Int32) (h : AH) : sr_E G 1 yX5_partsAttributes cX5_partsAttributes 1 (some .boolean) jI [vI v0] h (fX5_partsAttributes v0 h) := sr_E.of (own := RX5) (ini := false) (by decide) rfl (fun q => by first | rfl | cases q) rfl (Nat.le_of_ble_eq_true rfl) (tX5_partsAttributes_0 G v0 h)
noncomputable def fX8_asSmall_20  (s0 : Int32) (h : AH) : Option (Int32 × AH) := some (s0, h)
theorem tX8_asSmall_20 (G : sr_G) (s0 : Int32) (h : AH) : sr_T (X := Int32) G 0 RX8 cX8_asSmall 1 (some .int) false (sr_M G jI) 20 [] [vI s0] h (fX8_asSmall_20  s0 h) := by
  unfold fX8_asSmall_20
  exact tq_iret rfl dX8_asSmall_20
noncomputable def fX8_asSmall_19  (v0 : Int32) (h : AH) : Option (Int32 × AH) := fX8_asSmall_20 v0 h
theorem tX8_asSmall_19 (G : sr_G) (v0 : Int32) (h : AH) : sr_T (X := Int32) G 0 RX8 cX8_asSmall 1 (some .int) false (sr_M G jI) 19 [(0, vI v0)] [] h (fX8_asSmall_19  v0 h) := by
  unfold fX8_asSmall_19
  refine tq_iload_n 0 0 dX8_asSmall_19 rfl rfl ?_
  exact tq_sub [] rfl (tX8_asSmall_20 G v0 h)
noncomputable def fX8_asSmall_0  (v0 : Int32) (h : AH) : Option (Int32 × AH) := if v0 < (nI 65) then (fX8_asSmall_19 v0 h) else (if (nI 90) < v0 then (fX8_asSmall_19 v0 h) else (fX8_asSmall_20 (v0 + (nI 32)) h))
theorem tX8_asSmall_0 (G : sr_G) (v0 : Int32) (h : AH) : sr_T (X := Int32) G 0 RX8 cX8_asSmall 1 (some .int) false (sr_M G jI) 0 [(0, vI v0)] [] h (fX8_asSmall_0  v0 h) := by
  unfold fX8_asSmall_0
  refine tq_iload_n 0 0 dX8_asSmall_0 rfl rfl ?_
  refine tq_bipush (nI 65) dX8_asSmall_1 (by decide) ?_
  refine tq_icmp_lt 19 dX8_asSmall_3 (by decide) (fun _ => ?_) (fun _ => ?_)
  · exact tX8_asSmall_19 G v0 h
  · refine tq_iload_n 0 0 dX8_asSmall_6 rfl rfl ?_
    refine tq_bipush (nI 90) dX8_asSmall_7 (by decide) ?_
    refine tq_icmp_gt 19 dX8_asSmall_9 (by decide) (fun _ => ?_) (fun _ => ?_)
    · exact tX8_asSmall_19 G v0 h
    · refine tq_iload_n 0 0 dX8_asSmall_12 rfl rfl ?_
      refine tq_bipush (nI 32) dX8_asSmall_13 (by decide) ?_
      refine tq_iadd dX8_asSmall_15 ?_
      refine tq_goto 20 dX8_asSmall_16 (by decide) ?_
      exact tq_sub [] rfl (tX8_asSmall_20 G (v0 + (nI 32)) h)
noncomputable def fX8_asSmall (v0 : Int32) (h : AH) : Option (Int32 × AH) := fX8_asSmall_0 v0 h
theorem eX8_asSmall (G : sr_G) (v0 : Int32) (h : AH) : sr_E G 0 yX8_asSmall cX8_asSmall 1 (some .int) jI [vI v0] h (fX8_asSmall v0 h) := sr_E.of (own := RX8) (ini := false) (by decide) rfl (fun q => by first | rfl | cases q) rfl (Nat.le_of_ble_eq_true rfl) (tX8_asSmall_0 G v0 h)
noncomputable def fX8_longer_30  (s0 : Int64) (h : AH) : Option (Int64 × AH) := some (s0, h)
theorem tX8_longer_30 (G : sr_G) (s0 : Int64) (h : AH) : sr_T (X := Int64) G 0 RX8 cX8_longer 4 (some .long) false (sr_M G jL) 30 [] [vL s0] h (fX8_longer_30  s0 h) := by
  unfold fX8_longer_30
  exact tq_lret rfl dX8_longer_30
noncomputable def fX8_longer_14  (v0 : Int64) (v2 : Int32) (s0 : Int32) (h : AH) : Option (Int64 × AH) := if s0 = 0 then (fX8_longer_30 ((v0 <<< (Int32.toInt64 (nI 8) &&& 63)) ||| (Int32.toInt64 v2)) h) else (fX8_longer_30 v0 h)
theorem tX8_longer_14 (G : sr_G) (v0 : Int64) (v2 : Int32) (s0 : Int32) (h : AH) : sr_T (X := Int64) G 0 RX8 cX8_longer 4 (some .long) false (sr_M G jL) 14 [(0, vL v0), (2, vI v2)] [vI s0] h (fX8_longer_14  v0 v2 s0 h) := by
  unfold fX8_longer_14
  refine tq_istore_n 3 (L' := [(3, vI s0), (0, vL v0), (2, vI v2)]) dX8_longer_14 rfl (by decide) rfl ?_
  refine tq_iload_n 3 0 dX8_longer_15 rfl rfl ?_
  refine tq_if_eq 23 dX8_longer_16 (by decide) (fun _ => ?_) (fun _ => ?_)
  · refine tq_lload_n 0 1 dX8_longer_23 rfl rfl ?_
    refine tq_bipush (nI 8) dX8_longer_24 (by decide) ?_
    refine tq_lshl dX8_longer_26 ?_
    refine tq_iload_n 2 2 dX8_longer_27 rfl rfl ?_
    refine tq_i2l dX8_longer_28 ?_
    refine tq_lor dX8_longer_29 ?_
    exact tq_sub [] rfl (tX8_longer_30 G ((v0 <<< (Int32.toInt64 (nI 8) &&& 63)) ||| (Int32.toInt64 v2)) h)
  · refine tq_lload_n 0 1 dX8_longer_19 rfl rfl ?_
    refine tq_goto 30 dX8_longer_20 (by decide) ?_
    exact tq_sub [] rfl (tX8_longer_30 G v0 h)
noncomputable def fX8_longer_0  (v0 : Int64) (v2 : Int32) (h : AH) : Option (Int64 × AH) := if (lg_cmp ((Int64.toUInt64 v0 >>> ((Int32.toInt64 (nI 56)).toUInt64 &&& Int64.toUInt64 63)).toInt64) 0) = 0 then (fX8_longer_14 v0 v2 (nI 0) h) else (fX8_longer_14 v0 v2 (nI 1) h)
theorem tX8_longer_0 (G : sr_G) (v0 : Int64) (v2 : Int32) (h : AH) : sr_T (X := Int64) G 0 RX8 cX8_longer 4 (some .long) false (sr_M G jL) 0 [(0, vL v0), (2, vI v2)] [] h (fX8_longer_0  v0 v2 h) := by
  unfold fX8_longer_0
  refine tq_lload_n 0 0 dX8_longer_0 rfl rfl ?_
  refine tq_bipush (nI 56) dX8_longer_1 (by decide) ?_
  refine tq_lushr dX8_longer_3 ?_
  refine tq_lconst 0 dX8_longer_4 (by decide) ?_
  refine tq_lcmp dX8_longer_5 ?_
  refine tq_if_eq 13 dX8_longer_6 (by decide) (fun _ => ?_) (fun _ => ?_)
  · refine tq_iconst (nI 0) dX8_longer_13 (by decide) ?_
    exact tX8_longer_14 G v0 v2 (nI 0) h
  · refine tq_iconst (nI 1) dX8_longer_9 (by decide) ?_
    refine tq_goto 14 dX8_longer_10 (by decide) ?_
    exact tX8_longer_14 G v0 v2 (nI 1) h
noncomputable def fX8_longer (v0 : Int64) (v2 : Int32) (h : AH) : Option (Int64 × AH) := fX8_longer_0 v0 v2 h
theorem eX8_longer (G : sr_G) (v0 : Int64) (v2 : Int32) (h : AH) : sr_E G 0 yX8_longer cX8_longer 4 (some .long) jL [vL v0, vI v2] h (fX8_longer v0 v2 h) := sr_E.of (own := RX8) (ini := false) (by decide) rfl (fun q => by first | rfl | cases q) rfl (Nat.le_of_ble_eq_true rfl) (tX8_longer_0 G v0 v2 h)
noncomputable def fX5_endsAttributeName_24  (s0 : Int32) (h : AH) : Option (Int32 × AH) := cZ s0 (some (s0, h))
theorem tX5_endsAttributeName_24 (G : sr_G) (s0 : Int32) (h : AH) : sr_T (X := Int32) G 2 RX5 cX5_endsAttributeName 1 (some .boolean) false (sr_M G jI) 24 [] [vI s0] h (fX5_endsAttributeName_24  s0 h) := by
  unfold fX5_endsAttributeName_24
  exact tq_zret rfl dX5_endsAttributeName_24
noncomputable def fX5_endsAttributeName_19   (h : AH) : Option (Int32 × AH) := fX5_endsAttributeName_24 (nI 1) h
theorem tX5_endsAttributeName_19 (G : sr_G)  (h : AH) : sr_T (X := Int32) G 2 RX5 cX5_endsAttributeName 1 (some .boolean) false (sr_M G jI) 19 [] [] h (fX5_endsAttributeName_19  h) := by
  unfold fX5_endsAttributeName_19
  refine tq_iconst (nI 1) dX5_endsAttributeName_19 (by decide) ?_
  refine tq_goto 24 dX5_endsAttributeName_20 (by decide) ?_
  exact tX5_endsAttributeName_24 G (nI 1) h
noncomputable def fX5_endsAttributeName_0  (v0 : Int32) (h : AH) : Option (Int32 × AH) := if v0 = (nI 61) then (fX5_endsAttributeName_19 h) else (if v0 = (nI 62) then (fX5_endsAttributeName_19 h) else (cCL (fX5_partsAttributes v0 h) fun x2 h1 => if x2 = 0 then (fX5_endsAttributeName_24 (nI 0) h1) else (fX5_endsAttributeName_19 h1)))
theorem tX5_endsAttributeName_0 (G : sr_G) (v0 : Int32) (h : AH) : sr_T (X := Int32) G 2 RX5 cX5_endsAttributeName 1 (some .boolean) false (sr_M G jI) 0 [(0, vI v0)] [] h (fX5_endsAttributeName_0  v0 h) := by
  unfold fX5_endsAttributeName_0
  refine tq_iload_n 0 0 dX5_endsAttributeName_0 rfl rfl ?_
  refine tq_bipush (nI 61) dX5_endsAttributeName_1 (by decide) ?_
  refine tq_icmp_eq 19 dX5_endsAttributeName_3 (by decide) (fun _ => ?_) (fun _ => ?_)
  · exact tq_sub [] rfl (tX5_endsAttributeName_19 G h)
  · refine tq_iload_n 0 0 dX5_endsAttributeName_6 rfl rfl ?_
    refine tq_bipush (nI 62) dX5_endsAttributeName_7 (by decide) ?_
    refine tq_icmp_eq 19 dX5_endsAttributeName_9 (by decide) (fun _ => ?_) (fun _ => ?_)
    · exact tq_sub [] rfl (tX5_endsAttributeName_19 G h)
    · refine tq_iload_n 0 0 dX5_endsAttributeName_12 rfl rfl ?_
      refine tq_cSI [vI v0] [] dX5_endsAttributeName_13 (eX5_partsAttributes G v0 h) (by decide) mbX5_partsAttributes wd_506 wd_507 rfl rfl (Nat.le_of_ble_eq_true rfl) (fun x2 h1 => ?_)
      refine tq_if_eq 23 dX5_endsAttributeName_16 (by decide) (fun _ => ?_) (fun _ => ?_)
      · refine tq_iconst (nI 0) dX5_endsAttributeName_23 (by decide) ?_
        exact tq_sub [] rfl (tX5_endsAttributeName_24 G (nI 0) h1)
      · exact tq_sub [] rfl (tX5_endsAttributeName_19 G h1)
noncomputable def fX5_endsAttributeName (v0 : Int32) (h : AH) : Option (Int32 × AH) := fX5_endsAttributeName_0 v0 h
theorem eX5_endsAttributeName (G : sr_G) (v0 : Int32) (h : AH) : sr_E G 2 yX5_endsAttributeName cX5_endsAttributeName 1 (some .boolean) jI [vI v0] h (fX5_endsAttributeName v0 h) := sr_E.of (own := RX5) (ini := false) (by decide) rfl (fun q => by first | rfl | cases q) rfl (Nat.le_of_ble_eq_true rfl) (tX5_endsAttributeName_0 G v0 h)
noncomputable def fX5_readAttributeName_92  (v1 : Int64) (h : AH) : Option (Int64 × AH) := some (v1, h)
theorem tX5_readAttributeName_92 (G : sr_G) (v1 : Int64) (h : AH) : sr_T (X := Int64) G 3 RX5 cX5_readAttributeName 3 (some .long) false (sr_M G jL) 92 [(1, vL v1)] [] h (fX5_readAttributeName_92  v1 h) := by
  unfold fX5_readAttributeName_92
  refine tq_lload_n 1 0 dX5_readAttributeName_92 rfl rfl ?_
  exact tq_lret rfl dX5_readAttributeName_93
noncomputable def fX5_readAttributeName_29  : Nat → Option Nat → Int64 → AH → Option (Int64 × AH)
  | 0, _, _, _ => none
  | n + 1, v0, v1, h => cGI h 5 257 v0 fun x1 => cGR h 5 250 v0 fun x2 => cGI h 6 301 x2 fun x3 => if x3 ≤ x1 then (fX5_readAttributeName_92 v1 h) else (cGR h 5 250 v0 fun x4 => cGI h 5 257 v0 fun x5 => cCV h 6 x4 (fX6_byteAt x4 x5 h) fun x7 h6 => cCL (fX5_endsAttributeName x7 h6) fun x9 h8 => if x9 = 0 then (cGR h8 5 250 v0 fun x10 => cGI h8 5 257 v0 fun x11 => cCV h8 6 x10 (fX6_byteAt x10 x11 h8) fun x13 h12 => cCL (fX8_asSmall x13 h12) fun x15 h14 => cCL (fX8_longer v1 x15 h14) fun x17 h16 => cGI h16 5 257 v0 fun x18 => cPI h16 5 257 v0 (x18 + (nI 1)) fun h19 => fX5_readAttributeName_29 n v0 x17 h19) else (fX5_readAttributeName_92 v1 h8))
theorem tX5_readAttributeName_29 (G : sr_G) : ∀ (n : Nat) (v0 : Option Nat) (v1 : Int64) (h : AH), sr_T (X := Int64) G 3 RX5 cX5_readAttributeName 3 (some .long) false (sr_M G jL) 29 [(0, vR v0), (1, vL v1)] [] h (fX5_readAttributeName_29  n v0 v1 h) := by
  intro n
  induction n with
  | zero => intro v0 v1 h; exact tq_none
  | succ n ih =>
    intro v0 v1 h
    unfold fX5_readAttributeName_29
    refine tq_aload_n 0 0 dX5_readAttributeName_29 rfl rfl ?_
    refine tq_getI 7 dX5_readAttributeName_30 cfX5 (by decide) wd_270 rfl rfl (fun x1 => ?_)
    refine tq_aload_n 0 0 dX5_readAttributeName_33 rfl rfl ?_
    refine tq_getR 0 dX5_readAttributeName_34 cfX5 (by decide) wd_263 rfl rfl (fun x2 => ?_)
    refine tq_getI 1 dX5_readAttributeName_37 cfX6 (by decide) wd_101 rfl rfl (fun x3 => ?_)
    refine tq_icmp_ge 92 dX5_readAttributeName_40 (by decide) (fun _ => ?_) (fun _ => ?_)
    · exact tq_sub [1] rfl (tX5_readAttributeName_92 G v1 h)
    · refine tq_aload_n 0 0 dX5_readAttributeName_43 rfl rfl ?_
      refine tq_getR 0 dX5_readAttributeName_44 cfX5 (by decide) wd_263 rfl rfl (fun x4 => ?_)
      refine tq_aload_n 0 0 dX5_readAttributeName_47 rfl rfl ?_
      refine tq_getI 7 dX5_readAttributeName_48 cfX5 (by decide) wd_270 rfl rfl (fun x5 => ?_)
      refine tq_cVI [vI x5] [] dX5_readAttributeName_51 (eX6_byteAt G x4 x5 h) (by decide) mbX6_byteAt cfX6 rfl wd_417 wd_337 wd_338 rfl rfl (Nat.le_of_ble_eq_true rfl) (fun x7 h6 => ?_)
      refine tq_cSI [vI x7] [] dX5_readAttributeName_54 (eX5_endsAttributeName G x7 h6) (by decide) mbX5_endsAttributeName wd_517 wd_518 rfl rfl (Nat.le_of_ble_eq_true rfl) (fun x9 h8 => ?_)
      refine tq_if_ne 92 dX5_readAttributeName_57 (by decide) (fun _ => ?_) (fun _ => ?_)
      · exact tq_sub [1] rfl (tX5_readAttributeName_92 G v1 h8)
      · refine tq_lload_n 1 1 dX5_readAttributeName_60 rfl rfl ?_
        refine tq_aload_n 0 0 dX5_readAttributeName_61 rfl rfl ?_
        refine tq_getR 0 dX5_readAttributeName_62 cfX5 (by decide) wd_263 rfl rfl (fun x10 => ?_)
        refine tq_aload_n 0 0 dX5_readAttributeName_65 rfl rfl ?_
        refine tq_getI 7 dX5_readAttributeName_66 cfX5 (by decide) wd_270 rfl rfl (fun x11 => ?_)
        refine tq_cVI [vI x11] [vL v1] dX5_readAttributeName_69 (eX6_byteAt G x10 x11 h8) (by decide) mbX6_byteAt cfX6 rfl wd_417 wd_337 wd_338 rfl rfl (Nat.le_of_ble_eq_true rfl) (fun x13 h12 => ?_)
        refine tq_cNI [vI x13] [vL v1] dX5_readAttributeName_72 (eX8_asSmall G x13 h12) (by decide) mbX8_asSmall (host := "SoupReader") (by decide) wd_423 rfl rfl (Nat.le_of_ble_eq_true rfl) (fun x15 h14 => ?_)
        refine tq_cNL [vL v1, vI x15] [] dX5_readAttributeName_75 (eX8_longer G v1 x15 h14) (by decide) mbX8_longer (host := "SoupReader") (by decide) wd_504 rfl rfl (Nat.le_of_ble_eq_true rfl) (fun x17 h16 => ?_)
        refine tq_lstore_n 1 (L' := [(1, vL x17), (0, vR v0)]) dX5_readAttributeName_78 rfl (by decide) rfl ?_
        refine tq_aload_n 0 1 dX5_readAttributeName_79 rfl rfl ?_
        refine tq_dupR dX5_readAttributeName_80 ?_
        refine tq_getI 7 dX5_readAttributeName_81 cfX5 (by decide) wd_270 rfl rfl (fun x18 => ?_)
        refine tq_iconst (nI 1) dX5_readAttributeName_84 (by decide) ?_
        refine tq_iadd dX5_readAttributeName_85 ?_
        refine tq_putI 7 dX5_readAttributeName_86 cfX5 (by decide) wd_270 rfl rfl (Or.inl rfl) (fun h19 => ?_)
        refine tq_goto 29 dX5_readAttributeName_89 (by decide) ?_
        exact tq_sub [1, 0] rfl (ih v0 x17 h19)
noncomputable def fX5_readAttributeName_0  (v0 : Option Nat) (h : AH) : Option (Int64 × AH) := cGR h 5 250 v0 fun x1 => cGI h 5 257 v0 fun x2 => cCV h 6 x1 (fX6_byteAt x1 x2 h) fun x4 h3 => cCL (fX8_asSmall x4 h3) fun x6 h5 => cCL (fX8_longer 0 x6 h5) fun x8 h7 => cGI h7 5 257 v0 fun x9 => cPI h7 5 257 v0 (x9 + (nI 1)) fun h10 => fX5_readAttributeName_29 FU v0 x8 h10
theorem tX5_readAttributeName_0 (G : sr_G) (v0 : Option Nat) (h : AH) : sr_T (X := Int64) G 3 RX5 cX5_readAttributeName 3 (some .long) false (sr_M G jL) 0 [(0, vR v0)] [] h (fX5_readAttributeName_0  v0 h) := by
  unfold fX5_readAttributeName_0
  refine tq_lconst 0 dX5_readAttributeName_0 (by decide) ?_
  refine tq_aload_n 0 0 dX5_readAttributeName_1 rfl rfl ?_
  refine tq_getR 0 dX5_readAttributeName_2 cfX5 (by decide) wd_263 rfl rfl (fun x1 => ?_)
  refine tq_aload_n 0 0 dX5_readAttributeName_5 rfl rfl ?_
  refine tq_getI 7 dX5_readAttributeName_6 cfX5 (by decide) wd_270 rfl rfl (fun x2 => ?_)
  refine tq_cVI [vI x2] [vL 0] dX5_readAttributeName_9 (eX6_byteAt G x1 x2 h) (by decide) mbX6_byteAt cfX6 rfl wd_417 wd_337 wd_338 rfl rfl (Nat.le_of_ble_eq_true rfl) (fun x4 h3 => ?_)
  refine tq_cNI [vI x4] [vL 0] dX5_readAttributeName_12 (eX8_asSmall G x4 h3) (by decide) mbX8_asSmall (host := "SoupReader") (by decide) wd_423 rfl rfl (Nat.le_of_ble_eq_true rfl) (fun x6 h5 => ?_)
  refine tq_cNL [vL 0, vI x6] [] dX5_readAttributeName_15 (eX8_longer G 0 x6 h5) (by decide) mbX8_longer (host := "SoupReader") (by decide) wd_504 rfl rfl (Nat.le_of_ble_eq_true rfl) (fun x8 h7 => ?_)
  refine tq_lstore_n 1 (L' := [(1, vL x8), (0, vR v0)]) dX5_readAttributeName_18 rfl (by decide) rfl ?_
  refine tq_aload_n 0 1 dX5_readAttributeName_19 rfl rfl ?_
  refine tq_dupR dX5_readAttributeName_20 ?_
  refine tq_getI 7 dX5_readAttributeName_21 cfX5 (by decide) wd_270 rfl rfl (fun x9 => ?_)
  refine tq_iconst (nI 1) dX5_readAttributeName_24 (by decide) ?_
  refine tq_iadd dX5_readAttributeName_25 ?_
  refine tq_putI 7 dX5_readAttributeName_26 cfX5 (by decide) wd_270 rfl rfl (Or.inl rfl) (fun h10 => ?_)
  exact tq_sub [1, 0] rfl (tX5_readAttributeName_29 G FU v0 x8 h10)
noncomputable def fX5_readAttributeName (v0 : Option Nat) (h : AH) : Option (Int64 × AH) := fX5_readAttributeName_0 v0 h
theorem eX5_readAttributeName (G : sr_G) (v0 : Option Nat) (h : AH) : sr_E G 3 yX5_readAttributeName cX5_readAttributeName 3 (some .long) jL [vR v0] h (fX5_readAttributeName v0 h) := sr_E.of (own := RX5) (ini := false) (by decide) rfl (fun q => by first | rfl | cases q) rfl (Nat.le_of_ble_eq_true rfl) (tX5_readAttributeName_0 G v0 h)
noncomputable def fX5_endsValue_35  (s0 : Int32) (h : AH) : Option (Int32 × AH) := cZ s0 (some (s0, h))
theorem tX5_endsValue_35 (G : sr_G) (s0 : Int32) (h : AH) : sr_T (X := Int32) G 1 RX5 cX5_endsValue 3 (some .boolean) false (sr_M G jI) 35 [] [vI s0] h (fX5_endsValue_35  s0 h) := by
  unfold fX5_endsValue_35
  exact tq_zret rfl dX5_endsValue_35
noncomputable def fX5_endsValue_30   (h : AH) : Option (Int32 × AH) := fX5_endsValue_35 (nI 1) h
theorem tX5_endsValue_30 (G : sr_G)  (h : AH) : sr_T (X := Int32) G 1 RX5 cX5_endsValue 3 (some .boolean) false (sr_M G jI) 30 [] [] h (fX5_endsValue_30  h) := by
  unfold fX5_endsValue_30
  refine tq_iconst (nI 1) dX5_endsValue_30 (by decide) ?_
  refine tq_goto 35 dX5_endsValue_31 (by decide) ?_
  exact tX5_endsValue_35 G (nI 1) h
noncomputable def fX5_endsValue_0  (v0 : Int32) (v1 : Int32) (v2 : Int32) (h : AH) : Option (Int32 × AH) := if v1 = 0 then (cCL (fX8_isBlank v0 h) fun x2 h1 => if x2 = 0 then (if v0 = (nI 62) then (fX5_endsValue_30 h1) else (fX5_endsValue_35 (nI 0) h1)) else (fX5_endsValue_30 h1)) else (if v0 = v2 then (fX5_endsValue_35 (nI 1) h) else (fX5_endsValue_35 (nI 0) h))
theorem tX5_endsValue_0 (G : sr_G) (v0 : Int32) (v1 : Int32) (v2 : Int32) (h : AH) : sr_T (X := Int32) G 1 RX5 cX5_endsValue 3 (some .boolean) false (sr_M G jI) 0 [(0, vI v0), (1, vI v1), (2, vI v2)] [] h (fX5_endsValue_0  v0 v1 v2 h) := by
  unfold fX5_endsValue_0
  refine tq_iload_n 1 1 dX5_endsValue_0 rfl rfl ?_
  refine tq_if_eq 17 dX5_endsValue_1 (by decide) (fun _ => ?_) (fun _ => ?_)
  · refine tq_iload_n 0 0 dX5_endsValue_17 rfl rfl ?_
    refine tq_cNI [vI v0] [] dX5_endsValue_18 (eX8_isBlank G v0 h) (by decide) mbX8_isBlank (host := "SoupReader") (by decide) wd_446 rfl rfl (Nat.le_of_ble_eq_true rfl) (fun x2 h1 => ?_)
    refine tq_if_ne 30 dX5_endsValue_21 (by decide) (fun _ => ?_) (fun _ => ?_)
    · exact tq_sub [] rfl (tX5_endsValue_30 G h1)
    · refine tq_iload_n 0 0 dX5_endsValue_24 rfl rfl ?_
      refine tq_bipush (nI 62) dX5_endsValue_25 (by decide) ?_
      refine tq_icmp_ne 34 dX5_endsValue_27 (by decide) (fun _ => ?_) (fun _ => ?_)
      · refine tq_iconst (nI 0) dX5_endsValue_34 (by decide) ?_
        exact tq_sub [] rfl (tX5_endsValue_35 G (nI 0) h1)
      · exact tq_sub [] rfl (tX5_endsValue_30 G h1)
  · refine tq_iload_n 0 0 dX5_endsValue_4 rfl rfl ?_
    refine tq_iload_n 2 2 dX5_endsValue_5 rfl rfl ?_
    refine tq_icmp_ne 13 dX5_endsValue_6 (by decide) (fun _ => ?_) (fun _ => ?_)
    · refine tq_iconst (nI 0) dX5_endsValue_13 (by decide) ?_
      refine tq_goto 35 dX5_endsValue_14 (by decide) ?_
      exact tq_sub [] rfl (tX5_endsValue_35 G (nI 0) h)
    · refine tq_iconst (nI 1) dX5_endsValue_9 (by decide) ?_
      refine tq_goto 35 dX5_endsValue_10 (by decide) ?_
      exact tq_sub [] rfl (tX5_endsValue_35 G (nI 1) h)
noncomputable def fX5_endsValue (v0 : Int32) (v1 : Int32) (v2 : Int32) (h : AH) : Option (Int32 × AH) := fX5_endsValue_0 v0 v1 v2 h
theorem eX5_endsValue (G : sr_G) (v0 : Int32) (v1 : Int32) (v2 : Int32) (h : AH) : sr_E G 1 yX5_endsValue cX5_endsValue 3 (some .boolean) jI [vI v0, vI v1, vI v2] h (fX5_endsValue v0 v1 v2 h) := sr_E.of (own := RX5) (ini := false) (by decide) rfl (fun q => by first | rfl | cases q) rfl (Nat.le_of_ble_eq_true rfl) (tX5_endsValue_0 G v0 v1 v2 h)
noncomputable def fX5_entityAt_82  (s0 : Int32) (h : AH) : Option (Int32 × AH) := some (s0, h)
theorem tX5_entityAt_82 (G : sr_G) (s0 : Int32) (h : AH) : sr_T (X := Int32) G 6 RX5 cX5_entityAt 2 (some .int) false (sr_M G jI) 82 [] [vI s0] h (fX5_entityAt_82  s0 h) := by
  unfold fX5_entityAt_82
  exact tq_iret rfl dX5_entityAt_82
noncomputable def fX5_entityAt_0  (v0 : Option Nat) (v1 : Int32) (h : AH) : Option (Int32 × AH) := cGR h 5 250 v0 fun x1 => cCV h 6 x1 (fX6_byteAt x1 v1 h) fun x3 h2 => if x3 = (nI 38) then (cGR h2 5 250 v0 fun x4 => cCV h2 6 x4 (fX6_holds x4 1 v1 h2) fun x6 h5 => if x6 = 0 then (cGR h5 5 250 v0 fun x7 => cCV h5 6 x7 (fX6_holds x7 2 v1 h5) fun x9 h8 => if x9 = 0 then (cGR h8 5 250 v0 fun x10 => cCV h8 6 x10 (fX6_holds x10 3 v1 h8) fun x12 h11 => if x12 = 0 then (cGR h11 5 250 v0 fun x13 => cCV h11 6 x13 (fX6_holds x13 4 v1 h11) fun x15 h14 => if x15 = 0 then (fX5_entityAt_82 (-1) h14) else (fX5_entityAt_82 (nI 34) h14)) else (some ((nI 38), h11))) else (some ((nI 62), h8))) else (some ((nI 60), h5))) else (some ((-1), h2))
theorem tX5_entityAt_0 (G : sr_G) (v0 : Option Nat) (v1 : Int32) (h : AH) : sr_T (X := Int32) G 6 RX5 cX5_entityAt 2 (some .int) false (sr_M G jI) 0 [(0, vR v0), (1, vI v1)] [] h (fX5_entityAt_0  v0 v1 h) := by
  unfold fX5_entityAt_0
  refine tq_aload_n 0 0 dX5_entityAt_0 rfl rfl ?_
  refine tq_getR 0 dX5_entityAt_1 cfX5 (by decide) wd_263 rfl rfl (fun x1 => ?_)
  refine tq_iload_n 1 1 dX5_entityAt_4 rfl rfl ?_
  refine tq_cVI [vI v1] [] dX5_entityAt_5 (eX6_byteAt G x1 v1 h) (by decide) mbX6_byteAt cfX6 rfl wd_417 wd_337 wd_338 rfl rfl (Nat.le_of_ble_eq_true rfl) (fun x3 h2 => ?_)
  refine tq_bipush (nI 38) dX5_entityAt_8 (by decide) ?_
  refine tq_icmp_eq 15 dX5_entityAt_10 (by decide) (fun _ => ?_) (fun _ => ?_)
  · refine tq_aload_n 0 0 dX5_entityAt_15 rfl rfl ?_
    refine tq_getR 0 dX5_entityAt_16 cfX5 (by decide) wd_263 rfl rfl (fun x4 => ?_)
    refine tq_ldcS (tx := "&lt;") 1 dX5_entityAt_19 (by decide) ?_
    refine tq_iload_n 1 1 dX5_entityAt_21 rfl rfl ?_
    refine tq_cVI [vR (some (G.2.2.2.1 1)), vI v1] [] dX5_entityAt_22 (eX6_holds G x4 1 v1 h2) (by decide) mbX6_holds cfX6 rfl wd_365 wd_366 wd_367 rfl rfl (Nat.le_of_ble_eq_true rfl) (fun x6 h5 => ?_)
    refine tq_if_eq 31 dX5_entityAt_25 (by decide) (fun _ => ?_) (fun _ => ?_)
    · refine tq_aload_n 0 0 dX5_entityAt_31 rfl rfl ?_
      refine tq_getR 0 dX5_entityAt_32 cfX5 (by decide) wd_263 rfl rfl (fun x7 => ?_)
      refine tq_ldcS (tx := "&gt;") 2 dX5_entityAt_35 (by decide) ?_
      refine tq_iload_n 1 1 dX5_entityAt_37 rfl rfl ?_
      refine tq_cVI [vR (some (G.2.2.2.1 2)), vI v1] [] dX5_entityAt_38 (eX6_holds G x7 2 v1 h5) (by decide) mbX6_holds cfX6 rfl wd_365 wd_366 wd_367 rfl rfl (Nat.le_of_ble_eq_true rfl) (fun x9 h8 => ?_)
      refine tq_if_eq 47 dX5_entityAt_41 (by decide) (fun _ => ?_) (fun _ => ?_)
      · refine tq_aload_n 0 0 dX5_entityAt_47 rfl rfl ?_
        refine tq_getR 0 dX5_entityAt_48 cfX5 (by decide) wd_263 rfl rfl (fun x10 => ?_)
        refine tq_ldcS (tx := "&amp;") 3 dX5_entityAt_51 (by decide) ?_
        refine tq_iload_n 1 1 dX5_entityAt_53 rfl rfl ?_
        refine tq_cVI [vR (some (G.2.2.2.1 3)), vI v1] [] dX5_entityAt_54 (eX6_holds G x10 3 v1 h8) (by decide) mbX6_holds cfX6 rfl wd_365 wd_366 wd_367 rfl rfl (Nat.le_of_ble_eq_true rfl) (fun x12 h11 => ?_)
        refine tq_if_eq 63 dX5_entityAt_57 (by decide) (fun _ => ?_) (fun _ => ?_)
        · refine tq_aload_n 0 0 dX5_entityAt_63 rfl rfl ?_
          refine tq_getR 0 dX5_entityAt_64 cfX5 (by decide) wd_263 rfl rfl (fun x13 => ?_)
          refine tq_ldcS (tx := "&quot;") 4 dX5_entityAt_67 (by decide) ?_
          refine tq_iload_n 1 1 dX5_entityAt_69 rfl rfl ?_
          refine tq_cVI [vR (some (G.2.2.2.1 4)), vI v1] [] dX5_entityAt_70 (eX6_holds G x13 4 v1 h11) (by decide) mbX6_holds cfX6 rfl wd_365 wd_366 wd_367 rfl rfl (Nat.le_of_ble_eq_true rfl) (fun x15 h14 => ?_)
          refine tq_if_eq 81 dX5_entityAt_73 (by decide) (fun _ => ?_) (fun _ => ?_)
          · refine tq_iconst (-1) dX5_entityAt_81 (by decide) ?_
            exact tq_sub [] rfl (tX5_entityAt_82 G (-1) h14)
          · refine tq_bipush (nI 34) dX5_entityAt_76 (by decide) ?_
            refine tq_goto 82 dX5_entityAt_78 (by decide) ?_
            exact tq_sub [] rfl (tX5_entityAt_82 G (nI 34) h14)
        · refine tq_bipush (nI 38) dX5_entityAt_60 (by decide) ?_
          exact tq_iret rfl dX5_entityAt_62
      · refine tq_bipush (nI 62) dX5_entityAt_44 (by decide) ?_
        exact tq_iret rfl dX5_entityAt_46
    · refine tq_bipush (nI 60) dX5_entityAt_28 (by decide) ?_
      exact tq_iret rfl dX5_entityAt_30
  · refine tq_iconst (-1) dX5_entityAt_13 (by decide) ?_
    exact tq_iret rfl dX5_entityAt_14
noncomputable def fX5_entityAt (v0 : Option Nat) (v1 : Int32) (h : AH) : Option (Int32 × AH) := fX5_entityAt_0 v0 v1 h
theorem eX5_entityAt (G : sr_G) (v0 : Option Nat) (v1 : Int32) (h : AH) : sr_E G 6 yX5_entityAt cX5_entityAt 2 (some .int) jI [vR v0, vI v1] h (fX5_entityAt v0 v1 h) := sr_E.of (own := RX5) (ini := false) (by decide) rfl (fun q => by first | rfl | cases q) rfl (Nat.le_of_ble_eq_true rfl) (tX5_entityAt_0 G v0 v1 h)
noncomputable def fX5_widthOf_0  (v0 : Int32) (h : AH) : Option (Int32 × AH) := (if v0 = 34 then (cSN h 4 fun x1 h2 => some (x1, h2)) else (if v0 = 38 then (cSN h 3 fun x3 h4 => some (x3, h4)) else (if v0 = 60 then (cSN h 1 fun x5 h6 => some (x5, h6)) else (if v0 = 62 then (cSN h 2 fun x7 h8 => some (x7, h8)) else (some ((nI 1), h))))))
theorem tX5_widthOf_0 (G : sr_G) (v0 : Int32) (h : AH) : sr_T (X := Int32) G 3 RX5 cX5_widthOf 1 (some .int) false (sr_M G jI) 0 [(0, vI v0)] [] h (fX5_widthOf_0  v0 h) := by
  unfold fX5_widthOf_0
  refine tq_iload_n 0 0 dX5_widthOf_0 rfl rfl ?_
  refine tq_ite _ (fun hc => ?_) (fun hn34 => ?_)
  · refine tq_lookup 62 dX5_widthOf_1 (by decide) (off := 61) (by rw [hc]; rfl) (by decide) ?_
    refine tq_ldcS (tx := "&quot;") 4 dX5_widthOf_62 (by decide) ?_
    refine tq_sN dX5_widthOf_64 (by decide) wd_486 (Nat.le_of_ble_eq_true rfl) (fun x1 h2 => ?_)
    exact tq_iret rfl dX5_widthOf_67
  · refine tq_ite _ (fun hc => ?_) (fun hn38 => ?_)
    · refine tq_lookup 56 dX5_widthOf_1 (by decide) (off := 55) (by rw [hc]; rfl) (by decide) ?_
      refine tq_ldcS (tx := "&amp;") 3 dX5_widthOf_56 (by decide) ?_
      refine tq_sN dX5_widthOf_58 (by decide) wd_486 (Nat.le_of_ble_eq_true rfl) (fun x3 h4 => ?_)
      exact tq_iret rfl dX5_widthOf_61
    · refine tq_ite _ (fun hc => ?_) (fun hn60 => ?_)
      · refine tq_lookup 44 dX5_widthOf_1 (by decide) (off := 43) (by rw [hc]; rfl) (by decide) ?_
        refine tq_ldcS (tx := "&lt;") 1 dX5_widthOf_44 (by decide) ?_
        refine tq_sN dX5_widthOf_46 (by decide) wd_486 (Nat.le_of_ble_eq_true rfl) (fun x5 h6 => ?_)
        exact tq_iret rfl dX5_widthOf_49
      · refine tq_ite _ (fun hc => ?_) (fun hn62 => ?_)
        · refine tq_lookup 50 dX5_widthOf_1 (by decide) (off := 49) (by rw [hc]; rfl) (by decide) ?_
          refine tq_ldcS (tx := "&gt;") 2 dX5_widthOf_50 (by decide) ?_
          refine tq_sN dX5_widthOf_52 (by decide) wd_486 (Nat.le_of_ble_eq_true rfl) (fun x7 h8 => ?_)
          exact tq_iret rfl dX5_widthOf_55
        · refine tq_lookup 68 dX5_widthOf_1 (by decide) (off := 67) ((lv_osw hn34 (show (34 : Int32).toInt = 34 by decide)).trans ((lv_osw hn38 (show (38 : Int32).toInt = 38 by decide)).trans ((lv_osw hn60 (show (60 : Int32).toInt = 60 by decide)).trans ((lv_osw hn62 (show (62 : Int32).toInt = 62 by decide)).trans rfl)))) (by decide) ?_
          refine tq_iconst (nI 1) dX5_widthOf_68 (by decide) ?_
          exact tq_iret rfl dX5_widthOf_69
noncomputable def fX5_widthOf (v0 : Int32) (h : AH) : Option (Int32 × AH) := fX5_widthOf_0 v0 h
theorem eX5_widthOf (G : sr_G) (v0 : Int32) (h : AH) : sr_E G 3 yX5_widthOf cX5_widthOf 1 (some .int) jI [vI v0] h (fX5_widthOf v0 h) := sr_E.of (own := RX5) (ini := false) (by decide) rfl (fun q => by first | rfl | cases q) rfl (Nat.le_of_ble_eq_true rfl) (tX5_widthOf_0 G v0 h)
noncomputable def fX5_readValue_162   (h : AH) : Option (Unit × AH) := some ((), h)
theorem tX5_readValue_162 (G : sr_G)  (h : AH) : sr_T (X := Unit) G 7 RX5 cX5_readValue 5 none false (sr_M G jV) 162 [] [] h (fX5_readValue_162  h) := by
  unfold fX5_readValue_162
  exact tq_vret rfl dX5_readValue_162
noncomputable def fX5_readValue_134  (v0 : Option Nat) (v3 : Int32) (h : AH) : Option (Unit × AH) := if v3 = 0 then (fX5_readValue_162 h) else (cGI h 5 257 v0 fun x1 => cGR h 5 250 v0 fun x2 => cGI h 6 301 x2 fun x3 => if x3 ≤ x1 then (fX5_readValue_162 h) else (cGI h 5 257 v0 fun x4 => cPI h 5 257 v0 (x4 + (nI 1)) fun h5 => fX5_readValue_162 h5))
theorem tX5_readValue_134 (G : sr_G) (v0 : Option Nat) (v3 : Int32) (h : AH) : sr_T (X := Unit) G 7 RX5 cX5_readValue 5 none false (sr_M G jV) 134 [(0, vR v0), (3, vI v3)] [] h (fX5_readValue_134  v0 v3 h) := by
  unfold fX5_readValue_134
  refine tq_iload_n 3 1 dX5_readValue_134 rfl rfl ?_
  refine tq_if_eq 162 dX5_readValue_135 (by decide) (fun _ => ?_) (fun _ => ?_)
  · exact tq_sub [] rfl (tX5_readValue_162 G h)
  · refine tq_aload_n 0 0 dX5_readValue_138 rfl rfl ?_
    refine tq_getI 7 dX5_readValue_139 cfX5 (by decide) wd_270 rfl rfl (fun x1 => ?_)
    refine tq_aload_n 0 0 dX5_readValue_142 rfl rfl ?_
    refine tq_getR 0 dX5_readValue_143 cfX5 (by decide) wd_263 rfl rfl (fun x2 => ?_)
    refine tq_getI 1 dX5_readValue_146 cfX6 (by decide) wd_101 rfl rfl (fun x3 => ?_)
    refine tq_icmp_ge 162 dX5_readValue_149 (by decide) (fun _ => ?_) (fun _ => ?_)
    · exact tq_sub [] rfl (tX5_readValue_162 G h)
    · refine tq_aload_n 0 0 dX5_readValue_152 rfl rfl ?_
      refine tq_dupR dX5_readValue_153 ?_
      refine tq_getI 7 dX5_readValue_154 cfX5 (by decide) wd_270 rfl rfl (fun x4 => ?_)
      refine tq_iconst (nI 1) dX5_readValue_157 (by decide) ?_
      refine tq_iadd dX5_readValue_158 ?_
      refine tq_putI 7 dX5_readValue_159 cfX5 (by decide) wd_270 rfl rfl (Or.inl rfl) (fun h5 => ?_)
      exact tq_sub [] rfl (tX5_readValue_162 G h5)
noncomputable def fX5_readValue_117 (r44 : Option Nat → Option Nat → Int32 → Int32 → AH → Option (Unit × AH)) (v0 : Option Nat) (v1 : Option Nat) (v2 : Int32) (v3 : Int32) (v4 : Int32) (h : AH) : Option (Unit × AH) := cGI h 5 257 v0 fun x1 => cCL (fX5_widthOf v4 h) fun x3 h2 => cPI h2 5 257 v0 (x1 + x3) fun h4 => r44 v0 v1 v2 v3 h4
theorem tX5_readValue_117 (G : sr_G) {r44 : Option Nat → Option Nat → Int32 → Int32 → AH → Option (Unit × AH)} (hr44 : ∀ (v0 : Option Nat) (v1 : Option Nat) (v2 : Int32) (v3 : Int32) (h : AH), sr_T (X := Unit) G 7 RX5 cX5_readValue 5 none false (sr_M G jV) 44 [(0, vR v0), (1, vR v1), (2, vI v2), (3, vI v3)] [] h (r44 v0 v1 v2 v3 h)) (v0 : Option Nat) (v1 : Option Nat) (v2 : Int32) (v3 : Int32) (v4 : Int32) (h : AH) : sr_T (X := Unit) G 7 RX5 cX5_readValue 5 none false (sr_M G jV) 117 [(0, vR v0), (1, vR v1), (2, vI v2), (3, vI v3), (4, vI v4)] [] h (fX5_readValue_117 r44 v0 v1 v2 v3 v4 h) := by
  unfold fX5_readValue_117
  refine tq_aload_n 0 0 dX5_readValue_117 rfl rfl ?_
  refine tq_dupR dX5_readValue_118 ?_
  refine tq_getI 7 dX5_readValue_119 cfX5 (by decide) wd_270 rfl rfl (fun x1 => ?_)
  refine tq_iload 4 dX5_readValue_122 rfl ?_
  refine tq_cSI [vI v4] [vI x1, vR v0] dX5_readValue_124 (eX5_widthOf G v4 h) (by decide) mbX5_widthOf wd_483 wd_484 rfl rfl (Nat.le_of_ble_eq_true rfl) (fun x3 h2 => ?_)
  refine tq_iadd dX5_readValue_127 ?_
  refine tq_putI 7 dX5_readValue_128 cfX5 (by decide) wd_270 rfl rfl (Or.inl rfl) (fun h4 => ?_)
  refine tq_goto 44 dX5_readValue_131 (by decide) ?_
  exact tq_sub [0, 1, 2, 3] rfl (hr44 v0 v1 v2 v3 h4)
noncomputable def fX5_readValue_114 (r44 : Option Nat → Option Nat → Int32 → Int32 → AH → Option (Unit × AH)) (v0 : Option Nat) (v1 : Option Nat) (v2 : Int32) (v3 : Int32) (v4 : Int32) (s0 : Int32) (s1 : Option Nat) (h : AH) : Option (Unit × AH) := cCV h 0 s1 (fX0_put s1 s0 h) fun _ h1 => fX5_readValue_117 r44 v0 v1 v2 v3 v4 h1
theorem tX5_readValue_114 (G : sr_G) {r44 : Option Nat → Option Nat → Int32 → Int32 → AH → Option (Unit × AH)} (hr44 : ∀ (v0 : Option Nat) (v1 : Option Nat) (v2 : Int32) (v3 : Int32) (h : AH), sr_T (X := Unit) G 7 RX5 cX5_readValue 5 none false (sr_M G jV) 44 [(0, vR v0), (1, vR v1), (2, vI v2), (3, vI v3)] [] h (r44 v0 v1 v2 v3 h)) (v0 : Option Nat) (v1 : Option Nat) (v2 : Int32) (v3 : Int32) (v4 : Int32) (s0 : Int32) (s1 : Option Nat) (h : AH) : sr_T (X := Unit) G 7 RX5 cX5_readValue 5 none false (sr_M G jV) 114 [(0, vR v0), (1, vR v1), (2, vI v2), (3, vI v3), (4, vI v4)] [vI s0, vR s1] h (fX5_readValue_114 r44 v0 v1 v2 v3 v4 s0 s1 h) := by
  unfold fX5_readValue_114
  refine tq_cVV [vI s0] [] dX5_readValue_114 (eX0_put G s1 s0 h) (by decide) mbX0_put cfX0 rfl wd_566 wd_567 wd_568 rfl rfl (Nat.le_of_ble_eq_true rfl) (fun _ h1 => ?_)
  exact tX5_readValue_117 G hr44 v0 v1 v2 v3 v4 h1
noncomputable def fX5_readValue_44  : Nat → Option Nat → Option Nat → Int32 → Int32 → AH → Option (Unit × AH)
  | 0, _, _, _, _, _ => none
  | n + 1, v0, v1, v2, v3, h => cGI h 5 257 v0 fun x1 => cGR h 5 250 v0 fun x2 => cGI h 6 301 x2 fun x3 => if x3 ≤ x1 then (fX5_readValue_134 v0 v3 h) else (cGR h 5 250 v0 fun x4 => cGI h 5 257 v0 fun x5 => cCV h 6 x4 (fX6_byteAt x4 x5 h) fun x7 h6 => cCL (fX5_endsValue x7 v3 v2 h6) fun x9 h8 => if x9 = 0 then (cGI h8 5 257 v0 fun x10 => cCV h8 5 v0 (fX5_entityAt v0 x10 h8) fun x12 h11 => if v1 = none then (fX5_readValue_117 (fX5_readValue_44 n) v0 v1 v2 v3 x12 h11) else (if x12 = (-1) then (cGR h11 5 250 v0 fun x13 => cGI h11 5 257 v0 fun x14 => cCV h11 6 x13 (fX6_byteAt x13 x14 h11) fun x16 h15 => fX5_readValue_114 (fX5_readValue_44 n) v0 v1 v2 v3 x12 x16 v1 h15) else (fX5_readValue_114 (fX5_readValue_44 n) v0 v1 v2 v3 x12 x12 v1 h11))) else (fX5_readValue_134 v0 v3 h8))
theorem tX5_readValue_44 (G : sr_G) : ∀ (n : Nat) (v0 : Option Nat) (v1 : Option Nat) (v2 : Int32) (v3 : Int32) (h : AH), sr_T (X := Unit) G 7 RX5 cX5_readValue 5 none false (sr_M G jV) 44 [(0, vR v0), (1, vR v1), (2, vI v2), (3, vI v3)] [] h (fX5_readValue_44  n v0 v1 v2 v3 h) := by
  intro n
  induction n with
  | zero => intro v0 v1 v2 v3 h; exact tq_none
  | succ n ih =>
    intro v0 v1 v2 v3 h
    unfold fX5_readValue_44
    refine tq_aload_n 0 0 dX5_readValue_44 rfl rfl ?_
    refine tq_getI 7 dX5_readValue_45 cfX5 (by decide) wd_270 rfl rfl (fun x1 => ?_)
    refine tq_aload_n 0 0 dX5_readValue_48 rfl rfl ?_
    refine tq_getR 0 dX5_readValue_49 cfX5 (by decide) wd_263 rfl rfl (fun x2 => ?_)
    refine tq_getI 1 dX5_readValue_52 cfX6 (by decide) wd_101 rfl rfl (fun x3 => ?_)
    refine tq_icmp_ge 134 dX5_readValue_55 (by decide) (fun _ => ?_) (fun _ => ?_)
    · exact tq_sub [0, 3] rfl (tX5_readValue_134 G v0 v3 h)
    · refine tq_aload_n 0 0 dX5_readValue_58 rfl rfl ?_
      refine tq_getR 0 dX5_readValue_59 cfX5 (by decide) wd_263 rfl rfl (fun x4 => ?_)
      refine tq_aload_n 0 0 dX5_readValue_62 rfl rfl ?_
      refine tq_getI 7 dX5_readValue_63 cfX5 (by decide) wd_270 rfl rfl (fun x5 => ?_)
      refine tq_cVI [vI x5] [] dX5_readValue_66 (eX6_byteAt G x4 x5 h) (by decide) mbX6_byteAt cfX6 rfl wd_417 wd_337 wd_338 rfl rfl (Nat.le_of_ble_eq_true rfl) (fun x7 h6 => ?_)
      refine tq_iload_n 3 3 dX5_readValue_69 rfl rfl ?_
      refine tq_iload_n 2 2 dX5_readValue_70 rfl rfl ?_
      refine tq_cSI [vI x7, vI v3, vI v2] [] dX5_readValue_71 (eX5_endsValue G x7 v3 v2 h6) (by decide) mbX5_endsValue wd_563 wd_564 rfl rfl (Nat.le_of_ble_eq_true rfl) (fun x9 h8 => ?_)
      refine tq_if_ne 134 dX5_readValue_74 (by decide) (fun _ => ?_) (fun _ => ?_)
      · exact tq_sub [0, 3] rfl (tX5_readValue_134 G v0 v3 h8)
      · refine tq_aload_n 0 0 dX5_readValue_77 rfl rfl ?_
        refine tq_aload_n 0 0 dX5_readValue_78 rfl rfl ?_
        refine tq_getI 7 dX5_readValue_79 cfX5 (by decide) wd_270 rfl rfl (fun x10 => ?_)
        refine tq_cVI [vI x10] [] dX5_readValue_82 (eX5_entityAt G v0 x10 h8) (by decide) mbX5_entityAt cfX5 rfl wd_467 wd_469 wd_11 rfl rfl (Nat.le_of_ble_eq_true rfl) (fun x12 h11 => ?_)
        refine tq_istore (L' := [(4, vI x12), (0, vR v0), (1, vR v1), (2, vI v2), (3, vI v3)]) dX5_readValue_85 (by decide) rfl ?_
        refine tq_aload_n 1 2 dX5_readValue_87 rfl rfl ?_
        refine tq_ifnull 117 dX5_readValue_88 (by decide) (fun _ => ?_) (fun _ => ?_)
        · exact tq_sub [1, 2, 3, 4, 0] rfl (tX5_readValue_117 G ih v0 v1 v2 v3 x12 h11)
        · refine tq_aload_n 1 2 dX5_readValue_91 rfl rfl ?_
          refine tq_iload 0 dX5_readValue_92 rfl ?_
          refine tq_iconst (-1) dX5_readValue_94 (by decide) ?_
          refine tq_icmp_ne 112 dX5_readValue_95 (by decide) (fun _ => ?_) (fun _ => ?_)
          · refine tq_iload 0 dX5_readValue_112 rfl ?_
            exact tq_sub [1, 2, 3, 4, 0] rfl (tX5_readValue_114 G ih v0 v1 v2 v3 x12 x12 v1 h11)
          · refine tq_aload_n 0 1 dX5_readValue_98 rfl rfl ?_
            refine tq_getR 0 dX5_readValue_99 cfX5 (by decide) wd_263 rfl rfl (fun x13 => ?_)
            refine tq_aload_n 0 1 dX5_readValue_102 rfl rfl ?_
            refine tq_getI 7 dX5_readValue_103 cfX5 (by decide) wd_270 rfl rfl (fun x14 => ?_)
            refine tq_cVI [vI x14] [vR v1] dX5_readValue_106 (eX6_byteAt G x13 x14 h11) (by decide) mbX6_byteAt cfX6 rfl wd_417 wd_337 wd_338 rfl rfl (Nat.le_of_ble_eq_true rfl) (fun x16 h15 => ?_)
            refine tq_goto 114 dX5_readValue_109 (by decide) ?_
            exact tq_sub [1, 2, 3, 4, 0] rfl (tX5_readValue_114 G ih v0 v1 v2 v3 x12 x16 v1 h15)
noncomputable def fX5_readValue_29  (v0 : Option Nat) (v1 : Option Nat) (v2 : Int32) (s0 : Int32) (h : AH) : Option (Unit × AH) := if s0 = 0 then (fX5_readValue_44 FU v0 v1 v2 s0 h) else (cGI h 5 257 v0 fun x1 => cPI h 5 257 v0 (x1 + (nI 1)) fun h2 => fX5_readValue_44 FU v0 v1 v2 s0 h2)
theorem tX5_readValue_29 (G : sr_G) (v0 : Option Nat) (v1 : Option Nat) (v2 : Int32) (s0 : Int32) (h : AH) : sr_T (X := Unit) G 7 RX5 cX5_readValue 5 none false (sr_M G jV) 29 [(0, vR v0), (1, vR v1), (2, vI v2)] [vI s0] h (fX5_readValue_29  v0 v1 v2 s0 h) := by
  unfold fX5_readValue_29
  refine tq_istore_n 3 (L' := [(3, vI s0), (0, vR v0), (1, vR v1), (2, vI v2)]) dX5_readValue_29 rfl (by decide) rfl ?_
  refine tq_iload_n 3 0 dX5_readValue_30 rfl rfl ?_
  refine tq_if_eq 44 dX5_readValue_31 (by decide) (fun _ => ?_) (fun _ => ?_)
  · exact tq_sub [1, 2, 3, 0] rfl (tX5_readValue_44 G FU v0 v1 v2 s0 h)
  · refine tq_aload_n 0 1 dX5_readValue_34 rfl rfl ?_
    refine tq_dupR dX5_readValue_35 ?_
    refine tq_getI 7 dX5_readValue_36 cfX5 (by decide) wd_270 rfl rfl (fun x1 => ?_)
    refine tq_iconst (nI 1) dX5_readValue_39 (by decide) ?_
    refine tq_iadd dX5_readValue_40 ?_
    refine tq_putI 7 dX5_readValue_41 cfX5 (by decide) wd_270 rfl rfl (Or.inl rfl) (fun h2 => ?_)
    exact tq_sub [1, 2, 3, 0] rfl (tX5_readValue_44 G FU v0 v1 v2 s0 h2)
noncomputable def fX5_readValue_24  (v0 : Option Nat) (v1 : Option Nat) (v2 : Int32) (h : AH) : Option (Unit × AH) := fX5_readValue_29 v0 v1 v2 (nI 1) h
theorem tX5_readValue_24 (G : sr_G) (v0 : Option Nat) (v1 : Option Nat) (v2 : Int32) (h : AH) : sr_T (X := Unit) G 7 RX5 cX5_readValue 5 none false (sr_M G jV) 24 [(0, vR v0), (1, vR v1), (2, vI v2)] [] h (fX5_readValue_24  v0 v1 v2 h) := by
  unfold fX5_readValue_24
  refine tq_iconst (nI 1) dX5_readValue_24 (by decide) ?_
  refine tq_goto 29 dX5_readValue_25 (by decide) ?_
  exact tX5_readValue_29 G v0 v1 v2 (nI 1) h
noncomputable def fX5_readValue_0  (v0 : Option Nat) (v1 : Option Nat) (h : AH) : Option (Unit × AH) := cGR h 5 250 v0 fun x1 => cGI h 5 257 v0 fun x2 => cCV h 6 x1 (fX6_byteAt x1 x2 h) fun x4 h3 => if x4 = (nI 34) then (fX5_readValue_24 v0 v1 x4 h3) else (if x4 = (nI 39) then (fX5_readValue_24 v0 v1 x4 h3) else (fX5_readValue_29 v0 v1 x4 (nI 0) h3))
theorem tX5_readValue_0 (G : sr_G) (v0 : Option Nat) (v1 : Option Nat) (h : AH) : sr_T (X := Unit) G 7 RX5 cX5_readValue 5 none false (sr_M G jV) 0 [(0, vR v0), (1, vR v1)] [] h (fX5_readValue_0  v0 v1 h) := by
  unfold fX5_readValue_0
  refine tq_aload_n 0 0 dX5_readValue_0 rfl rfl ?_
  refine tq_getR 0 dX5_readValue_1 cfX5 (by decide) wd_263 rfl rfl (fun x1 => ?_)
  refine tq_aload_n 0 0 dX5_readValue_4 rfl rfl ?_
  refine tq_getI 7 dX5_readValue_5 cfX5 (by decide) wd_270 rfl rfl (fun x2 => ?_)
  refine tq_cVI [vI x2] [] dX5_readValue_8 (eX6_byteAt G x1 x2 h) (by decide) mbX6_byteAt cfX6 rfl wd_417 wd_337 wd_338 rfl rfl (Nat.le_of_ble_eq_true rfl) (fun x4 h3 => ?_)
  refine tq_istore_n 2 (L' := [(2, vI x4), (0, vR v0), (1, vR v1)]) dX5_readValue_11 rfl (by decide) rfl ?_
  refine tq_iload_n 2 0 dX5_readValue_12 rfl rfl ?_
  refine tq_bipush (nI 34) dX5_readValue_13 (by decide) ?_
  refine tq_icmp_eq 24 dX5_readValue_15 (by decide) (fun _ => ?_) (fun _ => ?_)
  · exact tq_sub [1, 2, 0] rfl (tX5_readValue_24 G v0 v1 x4 h3)
  · refine tq_iload_n 2 0 dX5_readValue_18 rfl rfl ?_
    refine tq_bipush (nI 39) dX5_readValue_19 (by decide) ?_
    refine tq_icmp_ne 28 dX5_readValue_21 (by decide) (fun _ => ?_) (fun _ => ?_)
    · refine tq_iconst (nI 0) dX5_readValue_28 (by decide) ?_
      exact tq_sub [1, 2, 0] rfl (tX5_readValue_29 G v0 v1 x4 (nI 0) h3)
    · exact tq_sub [1, 2, 0] rfl (tX5_readValue_24 G v0 v1 x4 h3)
noncomputable def fX5_readValue (v0 : Option Nat) (v1 : Option Nat) (h : AH) : Option (Unit × AH) := fX5_readValue_0 v0 v1 h
theorem eX5_readValue (G : sr_G) (v0 : Option Nat) (v1 : Option Nat) (h : AH) : sr_E G 7 yX5_readValue cX5_readValue 5 none jV [vR v0, vR v1] h (fX5_readValue v0 v1 h) := sr_E.of (own := RX5) (ini := false) (by decide) rfl (fun q => by first | rfl | cases q) rfl (Nat.le_of_ble_eq_true rfl) (tX5_readValue_0 G v0 v1 h)
noncomputable def fX5_takeAttribute_39  (v4 : Option Nat) (h : AH) : Option (Option Nat × AH) := some (v4, h)
theorem tX5_takeAttribute_39 (G : sr_G) (v4 : Option Nat) (h : AH) : sr_T (X := Option Nat) G 3 RX5 cX5_takeAttribute 5 (some (.object "SoupReader$Attribute")) false (sr_M G jR) 39 [(4, vR v4)] [] h (fX5_takeAttribute_39  v4 h) := by
  unfold fX5_takeAttribute_39
  refine tq_aload 0 dX5_takeAttribute_39 rfl ?_
  exact tq_aret rfl dX5_takeAttribute_41
noncomputable def fX5_takeAttribute_23  (v0 : Option Nat) (v3 : Int32) (s0 : Option Nat) (h : AH) : Option (Option Nat × AH) := if s0 = none then (cGR h 5 252 v0 fun x1 => cCV h 2 x1 (fX2_tell x1 (nI 2) v3 h) fun _ h2 => fX5_takeAttribute_39 s0 h2) else (fX5_takeAttribute_39 s0 h)
theorem tX5_takeAttribute_23 (G : sr_G) (v0 : Option Nat) (v3 : Int32) (s0 : Option Nat) (h : AH) : sr_T (X := Option Nat) G 3 RX5 cX5_takeAttribute 5 (some (.object "SoupReader$Attribute")) false (sr_M G jR) 23 [(0, vR v0), (3, vI v3)] [vR s0] h (fX5_takeAttribute_23  v0 v3 s0 h) := by
  unfold fX5_takeAttribute_23
  refine tq_astore (L' := [(4, vR s0), (0, vR v0), (3, vI v3)]) dX5_takeAttribute_23 (by decide) rfl ?_
  refine tq_aload 0 dX5_takeAttribute_25 rfl ?_
  refine tq_ifnonnull 39 dX5_takeAttribute_27 (by decide) (fun _ => ?_) (fun _ => ?_)
  · exact tq_sub [0] rfl (tX5_takeAttribute_39 G s0 h)
  · refine tq_aload_n 0 1 dX5_takeAttribute_30 rfl rfl ?_
    refine tq_getR 2 dX5_takeAttribute_31 cfX5 (by decide) wd_265 rfl rfl (fun x1 => ?_)
    refine tq_iconst (nI 2) dX5_takeAttribute_34 (by decide) ?_
    refine tq_iload_n 3 2 dX5_takeAttribute_35 rfl rfl ?_
    refine tq_cVV [vI (nI 2), vI v3] [] dX5_takeAttribute_36 (eX2_tell G x1 (nI 2) v3 h) (by decide) mbX2_tell cfX2 rfl wd_460 wd_461 wd_462 rfl rfl (Nat.le_of_ble_eq_true rfl) (fun _ h2 => ?_)
    exact tq_sub [0] rfl (tX5_takeAttribute_39 G s0 h2)
noncomputable def fX5_takeAttribute_0  (v0 : Option Nat) (v1 : Int64) (v3 : Int32) (h : AH) : Option (Option Nat × AH) := cGR h 5 253 v0 fun x1 => cCV h 1 x1 (fX1_named x1 v1 h) fun x3 h2 => if x3 = none then (cGR h2 5 253 v0 fun x4 => cCV h2 1 x4 (fX1_grow x4 v1 h2) fun x6 h5 => fX5_takeAttribute_23 v0 v3 x6 h5) else (fX5_takeAttribute_23 v0 v3 none h2)
theorem tX5_takeAttribute_0 (G : sr_G) (v0 : Option Nat) (v1 : Int64) (v3 : Int32) (h : AH) : sr_T (X := Option Nat) G 3 RX5 cX5_takeAttribute 5 (some (.object "SoupReader$Attribute")) false (sr_M G jR) 0 [(0, vR v0), (1, vL v1), (3, vI v3)] [] h (fX5_takeAttribute_0  v0 v1 v3 h) := by
  unfold fX5_takeAttribute_0
  refine tq_aload_n 0 0 dX5_takeAttribute_0 rfl rfl ?_
  refine tq_getR 3 dX5_takeAttribute_1 cfX5 (by decide) wd_266 rfl rfl (fun x1 => ?_)
  refine tq_lload_n 1 1 dX5_takeAttribute_4 rfl rfl ?_
  refine tq_cVR [vL v1] [] dX5_takeAttribute_5 (eX1_named G x1 v1 h) (by decide) mbX1_named cfX1 rfl wd_524 wd_525 wd_526 rfl rfl (Nat.le_of_ble_eq_true rfl) (fun x3 h2 => ?_)
  refine tq_ifnonnull 22 dX5_takeAttribute_8 (by decide) (fun _ => ?_) (fun _ => ?_)
  · refine tq_null dX5_takeAttribute_22 ?_
    exact tq_sub [0, 2] rfl (tX5_takeAttribute_23 G v0 v3 none h2)
  · refine tq_aload_n 0 0 dX5_takeAttribute_11 rfl rfl ?_
    refine tq_getR 3 dX5_takeAttribute_12 cfX5 (by decide) wd_266 rfl rfl (fun x4 => ?_)
    refine tq_lload_n 1 1 dX5_takeAttribute_15 rfl rfl ?_
    refine tq_cVR [vL v1] [] dX5_takeAttribute_16 (eX1_grow G x4 v1 h2) (by decide) mbX1_grow cfX1 rfl wd_532 wd_533 wd_534 rfl rfl (Nat.le_of_ble_eq_true rfl) (fun x6 h5 => ?_)
    refine tq_goto 23 dX5_takeAttribute_19 (by decide) ?_
    exact tq_sub [0, 2] rfl (tX5_takeAttribute_23 G v0 v3 x6 h5)
noncomputable def fX5_takeAttribute (v0 : Option Nat) (v1 : Int64) (v3 : Int32) (h : AH) : Option (Option Nat × AH) := fX5_takeAttribute_0 v0 v1 v3 h
theorem eX5_takeAttribute (G : sr_G) (v0 : Option Nat) (v1 : Int64) (v3 : Int32) (h : AH) : sr_E G 3 yX5_takeAttribute cX5_takeAttribute 5 (some (.object "SoupReader$Attribute")) jR [vR v0, vL v1, vI v3] h (fX5_takeAttribute v0 v1 v3 h) := sr_E.of (own := RX5) (ini := false) (by decide) rfl (fun q => by first | rfl | cases q) rfl (Nat.le_of_ble_eq_true rfl) (tX5_takeAttribute_0 G v0 v1 v3 h)
noncomputable def fX5_readAttribute_58   (h : AH) : Option (Unit × AH) := some ((), h)
theorem tX5_readAttribute_58 (G : sr_G)  (h : AH) : sr_T (X := Unit) G 8 RX5 cX5_readAttribute 6 none false (sr_M G jV) 58 [] [] h (fX5_readAttribute_58  h) := by
  unfold fX5_readAttribute_58
  exact tq_vret rfl dX5_readAttribute_58
noncomputable def fX5_readAttribute_24  (v0 : Option Nat) (s0 : Option Nat) (h : AH) : Option (Unit × AH) := cGR h 5 250 v0 fun x1 => cGI h 5 257 v0 fun x2 => cCV h 6 x1 (fX6_byteAt x1 x2 h) fun x4 h3 => if x4 = (nI 61) then (cGI h3 5 257 v0 fun x5 => cPI h3 5 257 v0 (x5 + (nI 1)) fun h6 => cCV h6 5 v0 (fX5_readValue v0 s0 h6) fun _ h7 => fX5_readAttribute_58 h7) else (fX5_readAttribute_58 h3)
theorem tX5_readAttribute_24 (G : sr_G) (v0 : Option Nat) (s0 : Option Nat) (h : AH) : sr_T (X := Unit) G 8 RX5 cX5_readAttribute 6 none false (sr_M G jV) 24 [(0, vR v0)] [vR s0] h (fX5_readAttribute_24  v0 s0 h) := by
  unfold fX5_readAttribute_24
  refine tq_astore (L' := [(5, vR s0), (0, vR v0)]) dX5_readAttribute_24 (by decide) rfl ?_
  refine tq_aload_n 0 1 dX5_readAttribute_26 rfl rfl ?_
  refine tq_getR 0 dX5_readAttribute_27 cfX5 (by decide) wd_263 rfl rfl (fun x1 => ?_)
  refine tq_aload_n 0 1 dX5_readAttribute_30 rfl rfl ?_
  refine tq_getI 7 dX5_readAttribute_31 cfX5 (by decide) wd_270 rfl rfl (fun x2 => ?_)
  refine tq_cVI [vI x2] [] dX5_readAttribute_34 (eX6_byteAt G x1 x2 h) (by decide) mbX6_byteAt cfX6 rfl wd_417 wd_337 wd_338 rfl rfl (Nat.le_of_ble_eq_true rfl) (fun x4 h3 => ?_)
  refine tq_bipush (nI 61) dX5_readAttribute_37 (by decide) ?_
  refine tq_icmp_ne 58 dX5_readAttribute_39 (by decide) (fun _ => ?_) (fun _ => ?_)
  · exact tq_sub [] rfl (tX5_readAttribute_58 G h3)
  · refine tq_aload_n 0 1 dX5_readAttribute_42 rfl rfl ?_
    refine tq_dupR dX5_readAttribute_43 ?_
    refine tq_getI 7 dX5_readAttribute_44 cfX5 (by decide) wd_270 rfl rfl (fun x5 => ?_)
    refine tq_iconst (nI 1) dX5_readAttribute_47 (by decide) ?_
    refine tq_iadd dX5_readAttribute_48 ?_
    refine tq_putI 7 dX5_readAttribute_49 cfX5 (by decide) wd_270 rfl rfl (Or.inl rfl) (fun h6 => ?_)
    refine tq_aload_n 0 1 dX5_readAttribute_52 rfl rfl ?_
    refine tq_aload 0 dX5_readAttribute_53 rfl ?_
    refine tq_cVV [vR s0] [] dX5_readAttribute_55 (eX5_readValue G v0 s0 h6) (by decide) mbX5_readValue cfX5 rfl wd_559 wd_561 wd_19 rfl rfl (Nat.le_of_ble_eq_true rfl) (fun _ h7 => ?_)
    exact tq_sub [] rfl (tX5_readAttribute_58 G h7)
noncomputable def fX5_readAttribute_0  (v0 : Option Nat) (v1 : Int32) (h : AH) : Option (Unit × AH) := cGI h 5 257 v0 fun x1 => cCV h 5 v0 (fX5_readAttributeName v0 h) fun x3 h2 => if v1 = 0 then (cCV h2 5 v0 (fX5_takeAttribute v0 x3 x1 h2) fun x5 h4 => fX5_readAttribute_24 v0 x5 h4) else (fX5_readAttribute_24 v0 none h2)
theorem tX5_readAttribute_0 (G : sr_G) (v0 : Option Nat) (v1 : Int32) (h : AH) : sr_T (X := Unit) G 8 RX5 cX5_readAttribute 6 none false (sr_M G jV) 0 [(0, vR v0), (1, vI v1)] [] h (fX5_readAttribute_0  v0 v1 h) := by
  unfold fX5_readAttribute_0
  refine tq_aload_n 0 0 dX5_readAttribute_0 rfl rfl ?_
  refine tq_getI 7 dX5_readAttribute_1 cfX5 (by decide) wd_270 rfl rfl (fun x1 => ?_)
  refine tq_istore_n 2 (L' := [(2, vI x1), (0, vR v0), (1, vI v1)]) dX5_readAttribute_4 rfl (by decide) rfl ?_
  refine tq_aload_n 0 1 dX5_readAttribute_5 rfl rfl ?_
  refine tq_cVL [] [] dX5_readAttribute_6 (eX5_readAttributeName G v0 h) (by decide) mbX5_readAttributeName cfX5 rfl wd_513 wd_515 wd_17 rfl rfl (Nat.le_of_ble_eq_true rfl) (fun x3 h2 => ?_)
  refine tq_lstore_n 3 (L' := [(3, vL x3), (2, vI x1), (0, vR v0), (1, vI v1)]) dX5_readAttribute_9 rfl (by decide) rfl ?_
  refine tq_iload_n 1 3 dX5_readAttribute_10 rfl rfl ?_
  refine tq_if_eq 18 dX5_readAttribute_11 (by decide) (fun _ => ?_) (fun _ => ?_)
  · refine tq_aload_n 0 2 dX5_readAttribute_18 rfl rfl ?_
    refine tq_lload_n 3 0 dX5_readAttribute_19 rfl rfl ?_
    refine tq_iload_n 2 1 dX5_readAttribute_20 rfl rfl ?_
    refine tq_cVR [vL x3, vI x1] [] dX5_readAttribute_21 (eX5_takeAttribute G v0 x3 x1 h2) (by decide) mbX5_takeAttribute cfX5 rfl wd_520 wd_522 wd_18 rfl rfl (Nat.le_of_ble_eq_true rfl) (fun x5 h4 => ?_)
    exact tq_sub [2] rfl (tX5_readAttribute_24 G v0 x5 h4)
  · refine tq_null dX5_readAttribute_14 ?_
    refine tq_goto 24 dX5_readAttribute_15 (by decide) ?_
    exact tq_sub [2] rfl (tX5_readAttribute_24 G v0 none h2)
noncomputable def fX5_readAttribute (v0 : Option Nat) (v1 : Int32) (h : AH) : Option (Unit × AH) := fX5_readAttribute_0 v0 v1 h
theorem eX5_readAttribute (G : sr_G) (v0 : Option Nat) (v1 : Int32) (h : AH) : sr_E G 8 yX5_readAttribute cX5_readAttribute 6 none jV [vR v0, vI v1] h (fX5_readAttribute v0 v1 h) := sr_E.of (own := RX5) (ini := false) (by decide) rfl (fun q => by first | rfl | cases q) rfl (Nat.le_of_ble_eq_true rfl) (tX5_readAttribute_0 G v0 v1 h)
noncomputable def fX8_isDigit_17  (s0 : Int32) (h : AH) : Option (Int32 × AH) := cZ s0 (some (s0, h))
theorem tX8_isDigit_17 (G : sr_G) (s0 : Int32) (h : AH) : sr_T (X := Int32) G 0 RX8 cX8_isDigit 1 (some .boolean) false (sr_M G jI) 17 [] [vI s0] h (fX8_isDigit_17  s0 h) := by
  unfold fX8_isDigit_17
  exact tq_zret rfl dX8_isDigit_17
noncomputable def fX8_isDigit_16   (h : AH) : Option (Int32 × AH) := fX8_isDigit_17 (nI 0) h
theorem tX8_isDigit_16 (G : sr_G)  (h : AH) : sr_T (X := Int32) G 0 RX8 cX8_isDigit 1 (some .boolean) false (sr_M G jI) 16 [] [] h (fX8_isDigit_16  h) := by
  unfold fX8_isDigit_16
  refine tq_iconst (nI 0) dX8_isDigit_16 (by decide) ?_
  exact tX8_isDigit_17 G (nI 0) h
noncomputable def fX8_isDigit_0  (v0 : Int32) (h : AH) : Option (Int32 × AH) := if v0 < (nI 48) then (fX8_isDigit_16 h) else (if (nI 57) < v0 then (fX8_isDigit_16 h) else (fX8_isDigit_17 (nI 1) h))
theorem tX8_isDigit_0 (G : sr_G) (v0 : Int32) (h : AH) : sr_T (X := Int32) G 0 RX8 cX8_isDigit 1 (some .boolean) false (sr_M G jI) 0 [(0, vI v0)] [] h (fX8_isDigit_0  v0 h) := by
  unfold fX8_isDigit_0
  refine tq_iload_n 0 0 dX8_isDigit_0 rfl rfl ?_
  refine tq_bipush (nI 48) dX8_isDigit_1 (by decide) ?_
  refine tq_icmp_lt 16 dX8_isDigit_3 (by decide) (fun _ => ?_) (fun _ => ?_)
  · exact tq_sub [] rfl (tX8_isDigit_16 G h)
  · refine tq_iload_n 0 0 dX8_isDigit_6 rfl rfl ?_
    refine tq_bipush (nI 57) dX8_isDigit_7 (by decide) ?_
    refine tq_icmp_gt 16 dX8_isDigit_9 (by decide) (fun _ => ?_) (fun _ => ?_)
    · exact tq_sub [] rfl (tX8_isDigit_16 G h)
    · refine tq_iconst (nI 1) dX8_isDigit_12 (by decide) ?_
      refine tq_goto 17 dX8_isDigit_13 (by decide) ?_
      exact tq_sub [] rfl (tX8_isDigit_17 G (nI 1) h)
noncomputable def fX8_isDigit (v0 : Int32) (h : AH) : Option (Int32 × AH) := fX8_isDigit_0 v0 h
theorem eX8_isDigit (G : sr_G) (v0 : Int32) (h : AH) : sr_E G 0 yX8_isDigit cX8_isDigit 1 (some .boolean) jI [vI v0] h (fX8_isDigit v0 h) := sr_E.of (own := RX8) (ini := false) (by decide) rfl (fun q => by first | rfl | cases q) rfl (Nat.le_of_ble_eq_true rfl) (tX8_isDigit_0 G v0 h)
noncomputable def fX8_isSmallLetter_17  (s0 : Int32) (h : AH) : Option (Int32 × AH) := cZ s0 (some (s0, h))
theorem tX8_isSmallLetter_17 (G : sr_G) (s0 : Int32) (h : AH) : sr_T (X := Int32) G 0 RX8 cX8_isSmallLetter 1 (some .boolean) false (sr_M G jI) 17 [] [vI s0] h (fX8_isSmallLetter_17  s0 h) := by
  unfold fX8_isSmallLetter_17
  exact tq_zret rfl dX8_isSmallLetter_17
noncomputable def fX8_isSmallLetter_16   (h : AH) : Option (Int32 × AH) := fX8_isSmallLetter_17 (nI 0) h
theorem tX8_isSmallLetter_16 (G : sr_G)  (h : AH) : sr_T (X := Int32) G 0 RX8 cX8_isSmallLetter 1 (some .boolean) false (sr_M G jI) 16 [] [] h (fX8_isSmallLetter_16  h) := by
  unfold fX8_isSmallLetter_16
  refine tq_iconst (nI 0) dX8_isSmallLetter_16 (by decide) ?_
  exact tX8_isSmallLetter_17 G (nI 0) h
noncomputable def fX8_isSmallLetter_0  (v0 : Int32) (h : AH) : Option (Int32 × AH) := if v0 < (nI 97) then (fX8_isSmallLetter_16 h) else (if (nI 122) < v0 then (fX8_isSmallLetter_16 h) else (fX8_isSmallLetter_17 (nI 1) h))
theorem tX8_isSmallLetter_0 (G : sr_G) (v0 : Int32) (h : AH) : sr_T (X := Int32) G 0 RX8 cX8_isSmallLetter 1 (some .boolean) false (sr_M G jI) 0 [(0, vI v0)] [] h (fX8_isSmallLetter_0  v0 h) := by
  unfold fX8_isSmallLetter_0
  refine tq_iload_n 0 0 dX8_isSmallLetter_0 rfl rfl ?_
  refine tq_bipush (nI 97) dX8_isSmallLetter_1 (by decide) ?_
  refine tq_icmp_lt 16 dX8_isSmallLetter_3 (by decide) (fun _ => ?_) (fun _ => ?_)
  · exact tq_sub [] rfl (tX8_isSmallLetter_16 G h)
  · refine tq_iload_n 0 0 dX8_isSmallLetter_6 rfl rfl ?_
    refine tq_bipush (nI 122) dX8_isSmallLetter_7 (by decide) ?_
    refine tq_icmp_gt 16 dX8_isSmallLetter_9 (by decide) (fun _ => ?_) (fun _ => ?_)
    · exact tq_sub [] rfl (tX8_isSmallLetter_16 G h)
    · refine tq_iconst (nI 1) dX8_isSmallLetter_12 (by decide) ?_
      refine tq_goto 17 dX8_isSmallLetter_13 (by decide) ?_
      exact tq_sub [] rfl (tX8_isSmallLetter_17 G (nI 1) h)
noncomputable def fX8_isSmallLetter (v0 : Int32) (h : AH) : Option (Int32 × AH) := fX8_isSmallLetter_0 v0 h
theorem eX8_isSmallLetter (G : sr_G) (v0 : Int32) (h : AH) : sr_E G 0 yX8_isSmallLetter cX8_isSmallLetter 1 (some .boolean) jI [vI v0] h (fX8_isSmallLetter v0 h) := sr_E.of (own := RX8) (ini := false) (by decide) rfl (fun q => by first | rfl | cases q) rfl (Nat.le_of_ble_eq_true rfl) (tX8_isSmallLetter_0 G v0 h)
noncomputable def fX5_readTagName_67  (v1 : Int64) (h : AH) : Option (Int64 × AH) := some (v1, h)
theorem tX5_readTagName_67 (G : sr_G) (v1 : Int64) (h : AH) : sr_T (X := Int64) G 1 RX5 cX5_readTagName 4 (some .long) false (sr_M G jL) 67 [(1, vL v1)] [] h (fX5_readTagName_67  v1 h) := by
  unfold fX5_readTagName_67
  refine tq_lload_n 1 0 dX5_readTagName_67 rfl rfl ?_
  exact tq_lret rfl dX5_readTagName_68
noncomputable def fX5_readTagName_48 (r2 : Option Nat → Int64 → AH → Option (Int64 × AH)) (v0 : Option Nat) (v1 : Int64) (v3 : Int32) (h : AH) : Option (Int64 × AH) := cCL (fX8_longer v1 v3 h) fun x2 h1 => cGI h1 5 257 v0 fun x3 => cPI h1 5 257 v0 (x3 + (nI 1)) fun h4 => r2 v0 x2 h4
theorem tX5_readTagName_48 (G : sr_G) {r2 : Option Nat → Int64 → AH → Option (Int64 × AH)} (hr2 : ∀ (v0 : Option Nat) (v1 : Int64) (h : AH), sr_T (X := Int64) G 1 RX5 cX5_readTagName 4 (some .long) false (sr_M G jL) 2 [(0, vR v0), (1, vL v1)] [] h (r2 v0 v1 h)) (v0 : Option Nat) (v1 : Int64) (v3 : Int32) (h : AH) : sr_T (X := Int64) G 1 RX5 cX5_readTagName 4 (some .long) false (sr_M G jL) 48 [(0, vR v0), (1, vL v1), (3, vI v3)] [] h (fX5_readTagName_48 r2 v0 v1 v3 h) := by
  unfold fX5_readTagName_48
  refine tq_lload_n 1 1 dX5_readTagName_48 rfl rfl ?_
  refine tq_iload_n 3 2 dX5_readTagName_49 rfl rfl ?_
  refine tq_cNL [vL v1, vI v3] [] dX5_readTagName_50 (eX8_longer G v1 v3 h) (by decide) mbX8_longer (host := "SoupReader") (by decide) wd_504 rfl rfl (Nat.le_of_ble_eq_true rfl) (fun x2 h1 => ?_)
  refine tq_lstore_n 1 (L' := [(1, vL x2), (0, vR v0), (3, vI v3)]) dX5_readTagName_53 rfl (by decide) rfl ?_
  refine tq_aload_n 0 1 dX5_readTagName_54 rfl rfl ?_
  refine tq_dupR dX5_readTagName_55 ?_
  refine tq_getI 7 dX5_readTagName_56 cfX5 (by decide) wd_270 rfl rfl (fun x3 => ?_)
  refine tq_iconst (nI 1) dX5_readTagName_59 (by decide) ?_
  refine tq_iadd dX5_readTagName_60 ?_
  refine tq_putI 7 dX5_readTagName_61 cfX5 (by decide) wd_270 rfl rfl (Or.inl rfl) (fun h4 => ?_)
  refine tq_goto 2 dX5_readTagName_64 (by decide) ?_
  exact tq_sub [1, 0] rfl (hr2 v0 x2 h4)
noncomputable def fX5_readTagName_45  (v1 : Int64) (h : AH) : Option (Int64 × AH) := fX5_readTagName_67 v1 h
theorem tX5_readTagName_45 (G : sr_G) (v1 : Int64) (h : AH) : sr_T (X := Int64) G 1 RX5 cX5_readTagName 4 (some .long) false (sr_M G jL) 45 [(1, vL v1)] [] h (fX5_readTagName_45  v1 h) := by
  unfold fX5_readTagName_45
  refine tq_goto 67 dX5_readTagName_45 (by decide) ?_
  exact tX5_readTagName_67 G v1 h
noncomputable def fX5_readTagName_2  : Nat → Option Nat → Int64 → AH → Option (Int64 × AH)
  | 0, _, _, _ => none
  | n + 1, v0, v1, h => cGI h 5 257 v0 fun x1 => cGR h 5 250 v0 fun x2 => cGI h 6 301 x2 fun x3 => if x3 ≤ x1 then (fX5_readTagName_67 v1 h) else (cGR h 5 250 v0 fun x4 => cGI h 5 257 v0 fun x5 => cCV h 6 x4 (fX6_byteAt x4 x5 h) fun x7 h6 => cCL (fX8_asSmall x7 h6) fun x9 h8 => cCL (fX8_isSmallLetter x9 h8) fun x11 h10 => if x11 = 0 then (cCL (fX8_isDigit x9 h10) fun x13 h12 => if x13 = 0 then (fX5_readTagName_45 v1 h12) else (fX5_readTagName_48 (fX5_readTagName_2 n) v0 v1 x9 h12)) else (fX5_readTagName_48 (fX5_readTagName_2 n) v0 v1 x9 h10))
theorem tX5_readTagName_2 (G : sr_G) : ∀ (n : Nat) (v0 : Option Nat) (v1 : Int64) (h : AH), sr_T (X := Int64) G 1 RX5 cX5_readTagName 4 (some .long) false (sr_M G jL) 2 [(0, vR v0), (1, vL v1)] [] h (fX5_readTagName_2  n v0 v1 h) := by
  intro n
  induction n with
  | zero => intro v0 v1 h; exact tq_none
  | succ n ih =>
    intro v0 v1 h
    unfold fX5_readTagName_2
    refine tq_aload_n 0 0 dX5_readTagName_2 rfl rfl ?_
    refine tq_getI 7 dX5_readTagName_3 cfX5 (by decide) wd_270 rfl rfl (fun x1 => ?_)
    refine tq_aload_n 0 0 dX5_readTagName_6 rfl rfl ?_
    refine tq_getR 0 dX5_readTagName_7 cfX5 (by decide) wd_263 rfl rfl (fun x2 => ?_)
    refine tq_getI 1 dX5_readTagName_10 cfX6 (by decide) wd_101 rfl rfl (fun x3 => ?_)
    refine tq_icmp_ge 67 dX5_readTagName_13 (by decide) (fun _ => ?_) (fun _ => ?_)
    · exact tq_sub [1] rfl (tX5_readTagName_67 G v1 h)
    · refine tq_aload_n 0 0 dX5_readTagName_16 rfl rfl ?_
      refine tq_getR 0 dX5_readTagName_17 cfX5 (by decide) wd_263 rfl rfl (fun x4 => ?_)
      refine tq_aload_n 0 0 dX5_readTagName_20 rfl rfl ?_
      refine tq_getI 7 dX5_readTagName_21 cfX5 (by decide) wd_270 rfl rfl (fun x5 => ?_)
      refine tq_cVI [vI x5] [] dX5_readTagName_24 (eX6_byteAt G x4 x5 h) (by decide) mbX6_byteAt cfX6 rfl wd_417 wd_337 wd_338 rfl rfl (Nat.le_of_ble_eq_true rfl) (fun x7 h6 => ?_)
      refine tq_cNI [vI x7] [] dX5_readTagName_27 (eX8_asSmall G x7 h6) (by decide) mbX8_asSmall (host := "SoupReader") (by decide) wd_423 rfl rfl (Nat.le_of_ble_eq_true rfl) (fun x9 h8 => ?_)
      refine tq_istore_n 3 (L' := [(3, vI x9), (0, vR v0), (1, vL v1)]) dX5_readTagName_30 rfl (by decide) rfl ?_
      refine tq_iload_n 3 0 dX5_readTagName_31 rfl rfl ?_
      refine tq_cNI [vI x9] [] dX5_readTagName_32 (eX8_isSmallLetter G x9 h8) (by decide) mbX8_isSmallLetter (host := "SoupReader") (by decide) wd_426 rfl rfl (Nat.le_of_ble_eq_true rfl) (fun x11 h10 => ?_)
      refine tq_if_ne 48 dX5_readTagName_35 (by decide) (fun _ => ?_) (fun _ => ?_)
      · exact tq_sub [1, 2, 0] rfl (tX5_readTagName_48 G ih v0 v1 x9 h10)
      · refine tq_iload_n 3 0 dX5_readTagName_38 rfl rfl ?_
        refine tq_cNI [vI x9] [] dX5_readTagName_39 (eX8_isDigit G x9 h10) (by decide) mbX8_isDigit (host := "SoupReader") (by decide) wd_501 rfl rfl (Nat.le_of_ble_eq_true rfl) (fun x13 h12 => ?_)
        refine tq_if_ne 48 dX5_readTagName_42 (by decide) (fun _ => ?_) (fun _ => ?_)
        · exact tq_sub [1, 2, 0] rfl (tX5_readTagName_48 G ih v0 v1 x9 h12)
        · exact tq_sub [2] rfl (tX5_readTagName_45 G v1 h12)
noncomputable def fX5_readTagName_0  (v0 : Option Nat) (h : AH) : Option (Int64 × AH) := fX5_readTagName_2 FU v0 0 h
theorem tX5_readTagName_0 (G : sr_G) (v0 : Option Nat) (h : AH) : sr_T (X := Int64) G 1 RX5 cX5_readTagName 4 (some .long) false (sr_M G jL) 0 [(0, vR v0)] [] h (fX5_readTagName_0  v0 h) := by
  unfold fX5_readTagName_0
  refine tq_lconst 0 dX5_readTagName_0 (by decide) ?_
  refine tq_lstore_n 1 (L' := [(1, vL 0), (0, vR v0)]) dX5_readTagName_1 rfl (by decide) rfl ?_
  exact tq_sub [1, 0] rfl (tX5_readTagName_2 G FU v0 0 h)
noncomputable def fX5_readTagName (v0 : Option Nat) (h : AH) : Option (Int64 × AH) := fX5_readTagName_0 v0 h
theorem eX5_readTagName (G : sr_G) (v0 : Option Nat) (h : AH) : sr_E G 1 yX5_readTagName cX5_readTagName 4 (some .long) jL [vR v0] h (fX5_readTagName v0 h) := sr_E.of (own := RX5) (ini := false) (by decide) rfl (fun q => by first | rfl | cases q) rfl (Nat.le_of_ble_eq_true rfl) (tX5_readTagName_0 G v0 h)
noncomputable def fX8_isEmptyTag_17  (s0 : Int32) (h : AH) : Option (Int32 × AH) := cZ s0 (some (s0, h))
theorem tX8_isEmptyTag_17 (G : sr_G) (s0 : Int32) (h : AH) : sr_T (X := Int32) G 0 RX8 cX8_isEmptyTag 1 (some .boolean) false (sr_M G jI) 17 [] [vI s0] h (fX8_isEmptyTag_17  s0 h) := by
  unfold fX8_isEmptyTag_17
  exact tq_zret rfl dX8_isEmptyTag_17
noncomputable def fX8_isEmptyTag_16   (h : AH) : Option (Int32 × AH) := fX8_isEmptyTag_17 (nI 0) h
theorem tX8_isEmptyTag_16 (G : sr_G)  (h : AH) : sr_T (X := Int32) G 0 RX8 cX8_isEmptyTag 1 (some .boolean) false (sr_M G jI) 16 [] [] h (fX8_isEmptyTag_16  h) := by
  unfold fX8_isEmptyTag_16
  refine tq_iconst (nI 0) dX8_isEmptyTag_16 (by decide) ?_
  exact tX8_isEmptyTag_17 G (nI 0) h
noncomputable def fX8_isEmptyTag_0  (v0 : Int32) (h : AH) : Option (Int32 × AH) := if v0 < (nI 10) then (fX8_isEmptyTag_16 h) else (if (nI 13) < v0 then (fX8_isEmptyTag_16 h) else (fX8_isEmptyTag_17 (nI 1) h))
theorem tX8_isEmptyTag_0 (G : sr_G) (v0 : Int32) (h : AH) : sr_T (X := Int32) G 0 RX8 cX8_isEmptyTag 1 (some .boolean) false (sr_M G jI) 0 [(0, vI v0)] [] h (fX8_isEmptyTag_0  v0 h) := by
  unfold fX8_isEmptyTag_0
  refine tq_iload_n 0 0 dX8_isEmptyTag_0 rfl rfl ?_
  refine tq_bipush (nI 10) dX8_isEmptyTag_1 (by decide) ?_
  refine tq_icmp_lt 16 dX8_isEmptyTag_3 (by decide) (fun _ => ?_) (fun _ => ?_)
  · exact tq_sub [] rfl (tX8_isEmptyTag_16 G h)
  · refine tq_iload_n 0 0 dX8_isEmptyTag_6 rfl rfl ?_
    refine tq_bipush (nI 13) dX8_isEmptyTag_7 (by decide) ?_
    refine tq_icmp_gt 16 dX8_isEmptyTag_9 (by decide) (fun _ => ?_) (fun _ => ?_)
    · exact tq_sub [] rfl (tX8_isEmptyTag_16 G h)
    · refine tq_iconst (nI 1) dX8_isEmptyTag_12 (by decide) ?_
      refine tq_goto 17 dX8_isEmptyTag_13 (by decide) ?_
      exact tq_sub [] rfl (tX8_isEmptyTag_17 G (nI 1) h)
noncomputable def fX8_isEmptyTag (v0 : Int32) (h : AH) : Option (Int32 × AH) := fX8_isEmptyTag_0 v0 h
theorem eX8_isEmptyTag (G : sr_G) (v0 : Int32) (h : AH) : sr_E G 0 yX8_isEmptyTag cX8_isEmptyTag 1 (some .boolean) jI [vI v0] h (fX8_isEmptyTag v0 h) := sr_E.of (own := RX8) (ini := false) (by decide) rfl (fun q => by first | rfl | cases q) rfl (Nat.le_of_ble_eq_true rfl) (tX8_isEmptyTag_0 G v0 h)
noncomputable def fX8_tagOf_62   (h : AH) : Option (Int32 × AH) := some ((nI 16), h)
theorem tX8_tagOf_62 (G : sr_G)  (h : AH) : sr_T (X := Int32) G 5 RX8 cX8_tagOf 7 (some .int) false (sr_M G jI) 62 [] [] h (fX8_tagOf_62  h) := by
  unfold fX8_tagOf_62
  refine tq_bipush (nI 16) dX8_tagOf_62 (by decide) ?_
  exact tq_iret rfl dX8_tagOf_64
noncomputable def fX8_tagOf_56 (r7 : Int64 → Int32 → Int64 → Int32 → AH → Option (Int32 × AH)) (v0 : Int64) (v2 : Int32) (v3 : Int64) (v5 : Int32) (h : AH) : Option (Int32 × AH) := r7 v0 v2 v3 (v5 + (nI 1)) h
theorem tX8_tagOf_56 (G : sr_G) {r7 : Int64 → Int32 → Int64 → Int32 → AH → Option (Int32 × AH)} (hr7 : ∀ (v0 : Int64) (v2 : Int32) (v3 : Int64) (v5 : Int32) (h : AH), sr_T (X := Int32) G 5 RX8 cX8_tagOf 7 (some .int) false (sr_M G jI) 7 [(0, vL v0), (2, vI v2), (3, vL v3), (5, vI v5)] [] h (r7 v0 v2 v3 v5 h)) (v0 : Int64) (v2 : Int32) (v3 : Int64) (v5 : Int32) (h : AH) : sr_T (X := Int32) G 5 RX8 cX8_tagOf 7 (some .int) false (sr_M G jI) 56 [(0, vL v0), (2, vI v2), (3, vL v3), (5, vI v5)] [] h (fX8_tagOf_56 r7 v0 v2 v3 v5 h) := by
  unfold fX8_tagOf_56
  refine tq_iinc 3 (nI 1) (L' := [(5, vI (v5 + (nI 1))), (0, vL v0), (2, vI v2), (3, vL v3)]) dX8_tagOf_56 rfl (by decide) (by decide) rfl ?_
  refine tq_goto 7 dX8_tagOf_59 (by decide) ?_
  exact tq_sub [1, 2, 3, 0] rfl (hr7 v0 v2 v3 (v5 + (nI 1)) h)
noncomputable def fX8_tagOf_49  (v2 : Int32) (h : AH) : Option (Int32 × AH) := some (v2, h)
theorem tX8_tagOf_49 (G : sr_G) (v2 : Int32) (h : AH) : sr_T (X := Int32) G 5 RX8 cX8_tagOf 7 (some .int) false (sr_M G jI) 49 [(2, vI v2)] [] h (fX8_tagOf_49  v2 h) := by
  unfold fX8_tagOf_49
  refine tq_iload_n 2 0 dX8_tagOf_49 rfl rfl ?_
  exact tq_iret rfl dX8_tagOf_50
noncomputable def fX8_tagOf_7  : Nat → Int64 → Int32 → Int64 → Int32 → AH → Option (Int32 × AH)
  | 0, _, _, _, _, _ => none
  | n + 1, v0, v2, v3, v5, h => cSN h 0 fun x1 h2 => if x1 ≤ v5 then (fX8_tagOf_62 h2) else (cSC h2 0 v5 fun x3 h4 => if x3 = (nI 32) then (if (lg_cmp v3 v0) = 0 then (fX8_tagOf_49 v2 h4) else (fX8_tagOf_56 (fX8_tagOf_7 n) v0 (v2 + (nI 1)) 0 v5 h4)) else (cCL (fX8_longer v3 x3 h4) fun x6 h5 => fX8_tagOf_56 (fX8_tagOf_7 n) v0 v2 x6 v5 h5))
theorem tX8_tagOf_7 (G : sr_G) : ∀ (n : Nat) (v0 : Int64) (v2 : Int32) (v3 : Int64) (v5 : Int32) (h : AH), sr_T (X := Int32) G 5 RX8 cX8_tagOf 7 (some .int) false (sr_M G jI) 7 [(0, vL v0), (2, vI v2), (3, vL v3), (5, vI v5)] [] h (fX8_tagOf_7  n v0 v2 v3 v5 h) := by
  intro n
  induction n with
  | zero => intro v0 v2 v3 v5 h; exact tq_none
  | succ n ih =>
    intro v0 v2 v3 v5 h
    unfold fX8_tagOf_7
    refine tq_iload 3 dX8_tagOf_7 rfl ?_
    refine tq_ldcS (tx := "div p h1 ul li form span a b i br hr img input button style ") 0 dX8_tagOf_9 (by decide) ?_
    refine tq_sN dX8_tagOf_11 (by decide) wd_578 (Nat.le_of_ble_eq_true rfl) (fun x1 h2 => ?_)
    refine tq_icmp_ge 62 dX8_tagOf_14 (by decide) (fun _ => ?_) (fun _ => ?_)
    · exact tq_sub [] rfl (tX8_tagOf_62 G h2)
    · refine tq_ldcS (tx := "div p h1 ul li form span a b i br hr img input button style ") 0 dX8_tagOf_17 (by decide) ?_
      refine tq_iload 3 dX8_tagOf_19 rfl ?_
      refine tq_sC dX8_tagOf_21 (by decide) wd_579 (Nat.le_of_ble_eq_true rfl) (fun x3 h4 => ?_)
      refine tq_istore (L' := [(6, vI x3), (0, vL v0), (2, vI v2), (3, vL v3), (5, vI v5)]) dX8_tagOf_24 (by decide) rfl ?_
      refine tq_iload 0 dX8_tagOf_26 rfl ?_
      refine tq_bipush (nI 32) dX8_tagOf_28 (by decide) ?_
      refine tq_icmp_eq 43 dX8_tagOf_30 (by decide) (fun _ => ?_) (fun _ => ?_)
      · refine tq_lload_n 3 3 dX8_tagOf_43 rfl rfl ?_
        refine tq_lload_n 0 1 dX8_tagOf_44 rfl rfl ?_
        refine tq_lcmp dX8_tagOf_45 ?_
        refine tq_if_ne 51 dX8_tagOf_46 (by decide) (fun _ => ?_) (fun _ => ?_)
        · refine tq_iinc 2 (nI 1) (L' := [(2, vI (v2 + (nI 1))), (6, vI x3), (0, vL v0), (3, vL v3), (5, vI v5)]) dX8_tagOf_51 rfl (by decide) (by decide) rfl ?_
          refine tq_lconst 0 dX8_tagOf_54 (by decide) ?_
          refine tq_lstore_n 3 (L' := [(3, vL 0), (2, vI (v2 + (nI 1))), (6, vI x3), (0, vL v0), (5, vI v5)]) dX8_tagOf_55 rfl (by decide) rfl ?_
          exact tq_sub [3, 1, 0, 4] rfl (tX8_tagOf_56 G ih v0 (v2 + (nI 1)) 0 v5 h4)
        · exact tq_sub [2] rfl (tX8_tagOf_49 G v2 h4)
      · refine tq_lload_n 3 3 dX8_tagOf_33 rfl rfl ?_
        refine tq_iload 0 dX8_tagOf_34 rfl ?_
        refine tq_cSL [vL v3, vI x3] [] dX8_tagOf_36 (eX8_longer G v3 x3 h4) (by decide) mbX8_longer wd_580 wd_504 rfl rfl (Nat.le_of_ble_eq_true rfl) (fun x6 h5 => ?_)
        refine tq_lstore_n 3 (L' := [(3, vL x6), (6, vI x3), (0, vL v0), (2, vI v2), (5, vI v5)]) dX8_tagOf_39 rfl (by decide) rfl ?_
        refine tq_goto 56 dX8_tagOf_40 (by decide) ?_
        exact tq_sub [2, 3, 0, 4] rfl (tX8_tagOf_56 G ih v0 v2 x6 v5 h5)
noncomputable def fX8_tagOf_0  (v0 : Int64) (h : AH) : Option (Int32 × AH) := fX8_tagOf_7 FU v0 (nI 0) 0 (nI 0) h
theorem tX8_tagOf_0 (G : sr_G) (v0 : Int64) (h : AH) : sr_T (X := Int32) G 5 RX8 cX8_tagOf 7 (some .int) false (sr_M G jI) 0 [(0, vL v0)] [] h (fX8_tagOf_0  v0 h) := by
  unfold fX8_tagOf_0
  refine tq_iconst (nI 0) dX8_tagOf_0 (by decide) ?_
  refine tq_istore_n 2 (L' := [(2, vI (nI 0)), (0, vL v0)]) dX8_tagOf_1 rfl (by decide) rfl ?_
  refine tq_lconst 0 dX8_tagOf_2 (by decide) ?_
  refine tq_lstore_n 3 (L' := [(3, vL 0), (2, vI (nI 0)), (0, vL v0)]) dX8_tagOf_3 rfl (by decide) rfl ?_
  refine tq_iconst (nI 0) dX8_tagOf_4 (by decide) ?_
  refine tq_istore (L' := [(5, vI (nI 0)), (3, vL 0), (2, vI (nI 0)), (0, vL v0)]) dX8_tagOf_5 (by decide) rfl ?_
  exact tq_sub [3, 2, 1, 0] rfl (tX8_tagOf_7 G FU v0 (nI 0) 0 (nI 0) h)
noncomputable def fX8_tagOf (v0 : Int64) (h : AH) : Option (Int32 × AH) := fX8_tagOf_0 v0 h
theorem eX8_tagOf (G : sr_G) (v0 : Int64) (h : AH) : sr_E G 5 yX8_tagOf cX8_tagOf 7 (some .int) jI [vL v0] h (fX8_tagOf v0 h) := sr_E.of (own := RX8) (ini := false) (by decide) rfl (fun q => by first | rfl | cases q) rfl (Nat.le_of_ble_eq_true rfl) (tX8_tagOf_0 G v0 h)
noncomputable def fX5_innermostNamed_41   (h : AH) : Option (Int32 × AH) := some ((nI 0), h)
theorem tX5_innermostNamed_41 (G : sr_G)  (h : AH) : sr_T (X := Int32) G 1 RX5 cX5_innermostNamed 5 (some .int) false (sr_M G jI) 41 [] [] h (fX5_innermostNamed_41  h) := by
  unfold fX5_innermostNamed_41
  refine tq_iconst (nI 0) dX5_innermostNamed_41 (by decide) ?_
  exact tq_iret rfl dX5_innermostNamed_42
noncomputable def fX5_innermostNamed_35 (r7 : Option Nat → Int64 → Int32 → AH → Option (Int32 × AH)) (v0 : Option Nat) (v1 : Int64) (v3 : Int32) (h : AH) : Option (Int32 × AH) := r7 v0 v1 (v3 + (-1)) h
theorem tX5_innermostNamed_35 (G : sr_G) {r7 : Option Nat → Int64 → Int32 → AH → Option (Int32 × AH)} (hr7 : ∀ (v0 : Option Nat) (v1 : Int64) (v3 : Int32) (h : AH), sr_T (X := Int32) G 1 RX5 cX5_innermostNamed 5 (some .int) false (sr_M G jI) 7 [(0, vR v0), (1, vL v1), (3, vI v3)] [] h (r7 v0 v1 v3 h)) (v0 : Option Nat) (v1 : Int64) (v3 : Int32) (h : AH) : sr_T (X := Int32) G 1 RX5 cX5_innermostNamed 5 (some .int) false (sr_M G jI) 35 [(0, vR v0), (1, vL v1), (3, vI v3)] [] h (fX5_innermostNamed_35 r7 v0 v1 v3 h) := by
  unfold fX5_innermostNamed_35
  refine tq_iinc 2 (-1) (L' := [(3, vI (v3 + (-1))), (0, vR v0), (1, vL v1)]) dX5_innermostNamed_35 rfl (by decide) (by decide) rfl ?_
  refine tq_goto 7 dX5_innermostNamed_38 (by decide) ?_
  exact tq_sub [1, 2, 0] rfl (hr7 v0 v1 (v3 + (-1)) h)
noncomputable def fX5_innermostNamed_33  (v3 : Int32) (h : AH) : Option (Int32 × AH) := some (v3, h)
theorem tX5_innermostNamed_33 (G : sr_G) (v3 : Int32) (h : AH) : sr_T (X := Int32) G 1 RX5 cX5_innermostNamed 5 (some .int) false (sr_M G jI) 33 [(3, vI v3)] [] h (fX5_innermostNamed_33  v3 h) := by
  unfold fX5_innermostNamed_33
  refine tq_iload_n 3 0 dX5_innermostNamed_33 rfl rfl ?_
  exact tq_iret rfl dX5_innermostNamed_34
noncomputable def fX5_innermostNamed_7  : Nat → Option Nat → Int64 → Int32 → AH → Option (Int32 × AH)
  | 0, _, _, _, _ => none
  | n + 1, v0, v1, v3, h => if v3 ≤ 0 then (fX5_innermostNamed_41 h) else (cCV h 5 v0 (fX5_openAt v0 v3 h) fun x2 h1 => if x2 = none then (fX5_innermostNamed_35 (fX5_innermostNamed_7 n) v0 v1 v3 h1) else (cGL h1 3 154 x2 fun x3 => if (lg_cmp x3 v1) = 0 then (fX5_innermostNamed_33 v3 h1) else (fX5_innermostNamed_35 (fX5_innermostNamed_7 n) v0 v1 v3 h1)))
theorem tX5_innermostNamed_7 (G : sr_G) : ∀ (n : Nat) (v0 : Option Nat) (v1 : Int64) (v3 : Int32) (h : AH), sr_T (X := Int32) G 1 RX5 cX5_innermostNamed 5 (some .int) false (sr_M G jI) 7 [(0, vR v0), (1, vL v1), (3, vI v3)] [] h (fX5_innermostNamed_7  n v0 v1 v3 h) := by
  intro n
  induction n with
  | zero => intro v0 v1 v3 h; exact tq_none
  | succ n ih =>
    intro v0 v1 v3 h
    unfold fX5_innermostNamed_7
    refine tq_iload_n 3 2 dX5_innermostNamed_7 rfl rfl ?_
    refine tq_if_le 41 dX5_innermostNamed_8 (by decide) (fun _ => ?_) (fun _ => ?_)
    · exact tq_sub [] rfl (tX5_innermostNamed_41 G h)
    · refine tq_aload_n 0 0 dX5_innermostNamed_11 rfl rfl ?_
      refine tq_iload_n 3 2 dX5_innermostNamed_12 rfl rfl ?_
      refine tq_cVR [vI v3] [] dX5_innermostNamed_13 (eX5_openAt G v0 v3 h) (by decide) mbX5_openAt cfX5 rfl wd_352 wd_354 wd_2 rfl rfl (Nat.le_of_ble_eq_true rfl) (fun x2 h1 => ?_)
      refine tq_astore (L' := [(4, vR x2), (0, vR v0), (1, vL v1), (3, vI v3)]) dX5_innermostNamed_16 (by decide) rfl ?_
      refine tq_aload 0 dX5_innermostNamed_18 rfl ?_
      refine tq_ifnull 35 dX5_innermostNamed_20 (by decide) (fun _ => ?_) (fun _ => ?_)
      · exact tq_sub [1, 2, 3] rfl (tX5_innermostNamed_35 G ih v0 v1 v3 h1)
      · refine tq_aload 0 dX5_innermostNamed_23 rfl ?_
        refine tq_getL 4 dX5_innermostNamed_25 cfX3 (by decide) wd_186 rfl rfl (fun x3 => ?_)
        refine tq_lload_n 1 2 dX5_innermostNamed_28 rfl rfl ?_
        refine tq_lcmp dX5_innermostNamed_29 ?_
        refine tq_if_ne 35 dX5_innermostNamed_30 (by decide) (fun _ => ?_) (fun _ => ?_)
        · exact tq_sub [1, 2, 3] rfl (tX5_innermostNamed_35 G ih v0 v1 v3 h1)
        · exact tq_sub [3] rfl (tX5_innermostNamed_33 G v3 h1)
noncomputable def fX5_innermostNamed_0  (v0 : Option Nat) (v1 : Int64) (h : AH) : Option (Int32 × AH) := cGI h 5 256 v0 fun x1 => fX5_innermostNamed_7 FU v0 v1 (x1 - (nI 1)) h
theorem tX5_innermostNamed_0 (G : sr_G) (v0 : Option Nat) (v1 : Int64) (h : AH) : sr_T (X := Int32) G 1 RX5 cX5_innermostNamed 5 (some .int) false (sr_M G jI) 0 [(0, vR v0), (1, vL v1)] [] h (fX5_innermostNamed_0  v0 v1 h) := by
  unfold fX5_innermostNamed_0
  refine tq_aload_n 0 0 dX5_innermostNamed_0 rfl rfl ?_
  refine tq_getI 6 dX5_innermostNamed_1 cfX5 (by decide) wd_269 rfl rfl (fun x1 => ?_)
  refine tq_iconst (nI 1) dX5_innermostNamed_4 (by decide) ?_
  refine tq_isub dX5_innermostNamed_5 ?_
  refine tq_istore_n 3 (L' := [(3, vI (x1 - (nI 1))), (0, vR v0), (1, vL v1)]) dX5_innermostNamed_6 rfl (by decide) rfl ?_
  exact tq_sub [1, 2, 0] rfl (tX5_innermostNamed_7 G FU v0 v1 (x1 - (nI 1)) h)
noncomputable def fX5_innermostNamed (v0 : Option Nat) (v1 : Int64) (h : AH) : Option (Int32 × AH) := fX5_innermostNamed_0 v0 v1 h
theorem eX5_innermostNamed (G : sr_G) (v0 : Option Nat) (v1 : Int64) (h : AH) : sr_E G 1 yX5_innermostNamed cX5_innermostNamed 5 (some .int) jI [vR v0, vL v1] h (fX5_innermostNamed v0 v1 h) := sr_E.of (own := RX5) (ini := false) (by decide) rfl (fun q => by first | rfl | cases q) rfl (Nat.le_of_ble_eq_true rfl) (tX5_innermostNamed_0 G v0 v1 h)
noncomputable def fX5_takeEndTag_19  (v0 : Option Nat) (v3 : Int32) (s0 : Int32) (h : AH) : Option (Unit × AH) := if s0 = 0 then (cGR h 5 252 v0 fun x3 => cCV h 2 x3 (fX2_tell x3 (nI 3) v3 h) fun _ h4 => some ((), h4)) else (cCV h 5 v0 (fX5_closeDownTo v0 (s0 + (nI 1)) h) fun _ h1 => cPI h1 5 256 v0 s0 fun h2 => some ((), h2))
theorem tX5_takeEndTag_19 (G : sr_G) (v0 : Option Nat) (v3 : Int32) (s0 : Int32) (h : AH) : sr_T (X := Unit) G 6 RX5 cX5_takeEndTag 5 none false (sr_M G jV) 19 [(0, vR v0), (3, vI v3)] [vI s0] h (fX5_takeEndTag_19  v0 v3 s0 h) := by
  unfold fX5_takeEndTag_19
  refine tq_istore (L' := [(4, vI s0), (0, vR v0), (3, vI v3)]) dX5_takeEndTag_19 (by decide) rfl ?_
  refine tq_iload 0 dX5_takeEndTag_21 rfl ?_
  refine tq_if_ne 36 dX5_takeEndTag_23 (by decide) (fun _ => ?_) (fun _ => ?_)
  · refine tq_aload_n 0 1 dX5_takeEndTag_36 rfl rfl ?_
    refine tq_iload 0 dX5_takeEndTag_37 rfl ?_
    refine tq_iconst (nI 1) dX5_takeEndTag_39 (by decide) ?_
    refine tq_iadd dX5_takeEndTag_40 ?_
    refine tq_cVV [vI (s0 + (nI 1))] [] dX5_takeEndTag_41 (eX5_closeDownTo G v0 (s0 + (nI 1)) h) (by decide) mbX5_closeDownTo cfX5 rfl wd_588 wd_590 wd_22 rfl rfl (Nat.le_of_ble_eq_true rfl) (fun _ h1 => ?_)
    refine tq_aload_n 0 1 dX5_takeEndTag_44 rfl rfl ?_
    refine tq_iload 0 dX5_takeEndTag_45 rfl ?_
    refine tq_putI 6 dX5_takeEndTag_47 cfX5 (by decide) wd_269 rfl rfl (Or.inl rfl) (fun h2 => ?_)
    exact tq_vret rfl dX5_takeEndTag_50
  · refine tq_aload_n 0 1 dX5_takeEndTag_26 rfl rfl ?_
    refine tq_getR 2 dX5_takeEndTag_27 cfX5 (by decide) wd_265 rfl rfl (fun x3 => ?_)
    refine tq_iconst (nI 3) dX5_takeEndTag_30 (by decide) ?_
    refine tq_iload_n 3 2 dX5_takeEndTag_31 rfl rfl ?_
    refine tq_cVV [vI (nI 3), vI v3] [] dX5_takeEndTag_32 (eX2_tell G x3 (nI 3) v3 h) (by decide) mbX2_tell cfX2 rfl wd_460 wd_461 wd_462 rfl rfl (Nat.le_of_ble_eq_true rfl) (fun _ h4 => ?_)
    exact tq_vret rfl dX5_takeEndTag_35
noncomputable def fX5_takeEndTag_0  (v0 : Option Nat) (v1 : Int64) (v3 : Int32) (h : AH) : Option (Unit × AH) := cCL (fX8_tagOf v1 h) fun x2 h1 => cCL (fX8_isEmptyTag x2 h1) fun x4 h3 => if x4 = 0 then (cCV h3 5 v0 (fX5_innermostNamed v0 v1 h3) fun x6 h5 => fX5_takeEndTag_19 v0 v3 x6 h5) else (fX5_takeEndTag_19 v0 v3 (nI 0) h3)
theorem tX5_takeEndTag_0 (G : sr_G) (v0 : Option Nat) (v1 : Int64) (v3 : Int32) (h : AH) : sr_T (X := Unit) G 6 RX5 cX5_takeEndTag 5 none false (sr_M G jV) 0 [(0, vR v0), (1, vL v1), (3, vI v3)] [] h (fX5_takeEndTag_0  v0 v1 v3 h) := by
  unfold fX5_takeEndTag_0
  refine tq_lload_n 1 1 dX5_takeEndTag_0 rfl rfl ?_
  refine tq_cNI [vL v1] [] dX5_takeEndTag_1 (eX8_tagOf G v1 h) (by decide) mbX8_tagOf (host := "SoupReader") (by decide) wd_575 rfl rfl (Nat.le_of_ble_eq_true rfl) (fun x2 h1 => ?_)
  refine tq_cNI [vI x2] [] dX5_takeEndTag_4 (eX8_isEmptyTag G x2 h1) (by decide) mbX8_isEmptyTag (host := "SoupReader") (by decide) wd_582 rfl rfl (Nat.le_of_ble_eq_true rfl) (fun x4 h3 => ?_)
  refine tq_if_eq 14 dX5_takeEndTag_7 (by decide) (fun _ => ?_) (fun _ => ?_)
  · refine tq_aload_n 0 0 dX5_takeEndTag_14 rfl rfl ?_
    refine tq_lload_n 1 1 dX5_takeEndTag_15 rfl rfl ?_
    refine tq_cVI [vL v1] [] dX5_takeEndTag_16 (eX5_innermostNamed G v0 v1 h3) (by decide) mbX5_innermostNamed cfX5 rfl wd_584 wd_586 wd_21 rfl rfl (Nat.le_of_ble_eq_true rfl) (fun x6 h5 => ?_)
    exact tq_sub [0, 2] rfl (tX5_takeEndTag_19 G v0 v3 x6 h5)
  · refine tq_iconst (nI 0) dX5_takeEndTag_10 (by decide) ?_
    refine tq_goto 19 dX5_takeEndTag_11 (by decide) ?_
    exact tq_sub [0, 2] rfl (tX5_takeEndTag_19 G v0 v3 (nI 0) h3)
noncomputable def fX5_takeEndTag (v0 : Option Nat) (v1 : Int64) (v3 : Int32) (h : AH) : Option (Unit × AH) := fX5_takeEndTag_0 v0 v1 v3 h
theorem eX5_takeEndTag (G : sr_G) (v0 : Option Nat) (v1 : Int64) (v3 : Int32) (h : AH) : sr_E G 6 yX5_takeEndTag cX5_takeEndTag 5 none jV [vR v0, vL v1, vI v3] h (fX5_takeEndTag v0 v1 v3 h) := sr_E.of (own := RX5) (ini := false) (by decide) rfl (fun q => by first | rfl | cases q) rfl (Nat.le_of_ble_eq_true rfl) (tX5_takeEndTag_0 G v0 v1 v3 h)
noncomputable def fX8_isBlockTag_20  (s0 : Int32) (h : AH) : Option (Int32 × AH) := cZ s0 (some (s0, h))
theorem tX8_isBlockTag_20 (G : sr_G) (s0 : Int32) (h : AH) : sr_T (X := Int32) G 0 RX8 cX8_isBlockTag 1 (some .boolean) false (sr_M G jI) 20 [] [vI s0] h (fX8_isBlockTag_20  s0 h) := by
  unfold fX8_isBlockTag_20
  exact tq_zret rfl dX8_isBlockTag_20
noncomputable def fX8_isBlockTag_15   (h : AH) : Option (Int32 × AH) := fX8_isBlockTag_20 (nI 1) h
theorem tX8_isBlockTag_15 (G : sr_G)  (h : AH) : sr_T (X := Int32) G 0 RX8 cX8_isBlockTag 1 (some .boolean) false (sr_M G jI) 15 [] [] h (fX8_isBlockTag_15  h) := by
  unfold fX8_isBlockTag_15
  refine tq_iconst (nI 1) dX8_isBlockTag_15 (by decide) ?_
  refine tq_goto 20 dX8_isBlockTag_16 (by decide) ?_
  exact tX8_isBlockTag_20 G (nI 1) h
noncomputable def fX8_isBlockTag_9  (v0 : Int32) (h : AH) : Option (Int32 × AH) := if v0 = (nI 11) then (fX8_isBlockTag_15 h) else (fX8_isBlockTag_20 (nI 0) h)
theorem tX8_isBlockTag_9 (G : sr_G) (v0 : Int32) (h : AH) : sr_T (X := Int32) G 0 RX8 cX8_isBlockTag 1 (some .boolean) false (sr_M G jI) 9 [(0, vI v0)] [] h (fX8_isBlockTag_9  v0 h) := by
  unfold fX8_isBlockTag_9
  refine tq_iload_n 0 0 dX8_isBlockTag_9 rfl rfl ?_
  refine tq_bipush (nI 11) dX8_isBlockTag_10 (by decide) ?_
  refine tq_icmp_ne 19 dX8_isBlockTag_12 (by decide) (fun _ => ?_) (fun _ => ?_)
  · refine tq_iconst (nI 0) dX8_isBlockTag_19 (by decide) ?_
    exact tq_sub [] rfl (tX8_isBlockTag_20 G (nI 0) h)
  · exact tq_sub [] rfl (tX8_isBlockTag_15 G h)
noncomputable def fX8_isBlockTag_0  (v0 : Int32) (h : AH) : Option (Int32 × AH) := if v0 < 0 then (fX8_isBlockTag_9 v0 h) else (if v0 ≤ (nI 5) then (fX8_isBlockTag_15 h) else (fX8_isBlockTag_9 v0 h))
theorem tX8_isBlockTag_0 (G : sr_G) (v0 : Int32) (h : AH) : sr_T (X := Int32) G 0 RX8 cX8_isBlockTag 1 (some .boolean) false (sr_M G jI) 0 [(0, vI v0)] [] h (fX8_isBlockTag_0  v0 h) := by
  unfold fX8_isBlockTag_0
  refine tq_iload_n 0 0 dX8_isBlockTag_0 rfl rfl ?_
  refine tq_if_lt 9 dX8_isBlockTag_1 (by decide) (fun _ => ?_) (fun _ => ?_)
  · exact tX8_isBlockTag_9 G v0 h
  · refine tq_iload_n 0 0 dX8_isBlockTag_4 rfl rfl ?_
    refine tq_iconst (nI 5) dX8_isBlockTag_5 (by decide) ?_
    refine tq_icmp_le 15 dX8_isBlockTag_6 (by decide) (fun _ => ?_) (fun _ => ?_)
    · exact tq_sub [] rfl (tX8_isBlockTag_15 G h)
    · exact tX8_isBlockTag_9 G v0 h
noncomputable def fX8_isBlockTag (v0 : Int32) (h : AH) : Option (Int32 × AH) := fX8_isBlockTag_0 v0 h
theorem eX8_isBlockTag (G : sr_G) (v0 : Int32) (h : AH) : sr_E G 0 yX8_isBlockTag cX8_isBlockTag 1 (some .boolean) jI [vI v0] h (fX8_isBlockTag v0 h) := sr_E.of (own := RX8) (ini := false) (by decide) rfl (fun q => by first | rfl | cases q) rfl (Nat.le_of_ble_eq_true rfl) (tX8_isBlockTag_0 G v0 h)
noncomputable def fX5_innermostOf_26  (v2 : Int32) (h : AH) : Option (Int32 × AH) := some (v2, h)
theorem tX5_innermostOf_26 (G : sr_G) (v2 : Int32) (h : AH) : sr_T (X := Int32) G 2 RX5 cX5_innermostOf 3 (some .int) false (sr_M G jI) 26 [(2, vI v2)] [] h (fX5_innermostOf_26  v2 h) := by
  unfold fX5_innermostOf_26
  refine tq_iload_n 2 0 dX5_innermostOf_26 rfl rfl ?_
  exact tq_iret rfl dX5_innermostOf_27
noncomputable def fX5_innermostOf_7  : Nat → Option Nat → Int32 → Int32 → AH → Option (Int32 × AH)
  | 0, _, _, _, _ => none
  | n + 1, v0, v1, v2, h => if v2 ≤ 0 then (fX5_innermostOf_26 v2 h) else (cCV h 5 v0 (fX5_tagOpenAt v0 v2 h) fun x2 h1 => if x2 = v1 then (fX5_innermostOf_26 v2 h1) else (fX5_innermostOf_7 n v0 v1 (v2 + (-1)) h1))
theorem tX5_innermostOf_7 (G : sr_G) : ∀ (n : Nat) (v0 : Option Nat) (v1 : Int32) (v2 : Int32) (h : AH), sr_T (X := Int32) G 2 RX5 cX5_innermostOf 3 (some .int) false (sr_M G jI) 7 [(0, vR v0), (1, vI v1), (2, vI v2)] [] h (fX5_innermostOf_7  n v0 v1 v2 h) := by
  intro n
  induction n with
  | zero => intro v0 v1 v2 h; exact tq_none
  | succ n ih =>
    intro v0 v1 v2 h
    unfold fX5_innermostOf_7
    refine tq_iload_n 2 2 dX5_innermostOf_7 rfl rfl ?_
    refine tq_if_le 26 dX5_innermostOf_8 (by decide) (fun _ => ?_) (fun _ => ?_)
    · exact tq_sub [2] rfl (tX5_innermostOf_26 G v2 h)
    · refine tq_aload_n 0 0 dX5_innermostOf_11 rfl rfl ?_
      refine tq_iload_n 2 2 dX5_innermostOf_12 rfl rfl ?_
      refine tq_cVI [vI v2] [] dX5_innermostOf_13 (eX5_tagOpenAt G v0 v2 h) (by decide) mbX5_tagOpenAt cfX5 rfl wd_348 wd_350 wd_1 rfl rfl (Nat.le_of_ble_eq_true rfl) (fun x2 h1 => ?_)
      refine tq_iload_n 1 1 dX5_innermostOf_16 rfl rfl ?_
      refine tq_icmp_eq 26 dX5_innermostOf_17 (by decide) (fun _ => ?_) (fun _ => ?_)
      · exact tq_sub [2] rfl (tX5_innermostOf_26 G v2 h1)
      · refine tq_iinc 2 (-1) (L' := [(2, vI (v2 + (-1))), (0, vR v0), (1, vI v1)]) dX5_innermostOf_20 rfl (by decide) (by decide) rfl ?_
        refine tq_goto 7 dX5_innermostOf_23 (by decide) ?_
        exact tq_sub [1, 2, 0] rfl (ih v0 v1 (v2 + (-1)) h1)
noncomputable def fX5_innermostOf_0  (v0 : Option Nat) (v1 : Int32) (h : AH) : Option (Int32 × AH) := cGI h 5 256 v0 fun x1 => fX5_innermostOf_7 FU v0 v1 (x1 - (nI 1)) h
theorem tX5_innermostOf_0 (G : sr_G) (v0 : Option Nat) (v1 : Int32) (h : AH) : sr_T (X := Int32) G 2 RX5 cX5_innermostOf 3 (some .int) false (sr_M G jI) 0 [(0, vR v0), (1, vI v1)] [] h (fX5_innermostOf_0  v0 v1 h) := by
  unfold fX5_innermostOf_0
  refine tq_aload_n 0 0 dX5_innermostOf_0 rfl rfl ?_
  refine tq_getI 6 dX5_innermostOf_1 cfX5 (by decide) wd_269 rfl rfl (fun x1 => ?_)
  refine tq_iconst (nI 1) dX5_innermostOf_4 (by decide) ?_
  refine tq_isub dX5_innermostOf_5 ?_
  refine tq_istore_n 2 (L' := [(2, vI (x1 - (nI 1))), (0, vR v0), (1, vI v1)]) dX5_innermostOf_6 rfl (by decide) rfl ?_
  exact tq_sub [1, 2, 0] rfl (tX5_innermostOf_7 G FU v0 v1 (x1 - (nI 1)) h)
noncomputable def fX5_innermostOf (v0 : Option Nat) (v1 : Int32) (h : AH) : Option (Int32 × AH) := fX5_innermostOf_0 v0 v1 h
theorem eX5_innermostOf (G : sr_G) (v0 : Option Nat) (v1 : Int32) (h : AH) : sr_E G 2 yX5_innermostOf cX5_innermostOf 3 (some .int) jI [vR v0, vI v1] h (fX5_innermostOf v0 v1 h) := sr_E.of (own := RX5) (ini := false) (by decide) rfl (fun q => by first | rfl | cases q) rfl (Nat.le_of_ble_eq_true rfl) (tX5_innermostOf_0 G v0 v1 h)
noncomputable def fX5_closeBefore_93   (h : AH) : Option (Unit × AH) := some ((), h)
theorem tX5_closeBefore_93 (G : sr_G)  (h : AH) : sr_T (X := Unit) G 3 RX5 cX5_closeBefore 4 none false (sr_M G jV) 93 [] [] h (fX5_closeBefore_93  h) := by
  unfold fX5_closeBefore_93
  exact tq_vret rfl dX5_closeBefore_93
noncomputable def fX5_closeBefore_67  (v0 : Option Nat) (v2 : Int32) (s0 : Int32) (h : AH) : Option (Unit × AH) := if s0 ≤ 0 then (fX5_closeBefore_93 h) else (cCV h 5 v0 (fX5_closeDownTo v0 (s0 + (nI 1)) h) fun _ h1 => cPI h1 5 256 v0 s0 fun h2 => cGR h2 5 252 v0 fun x3 => cCV h2 2 x3 (fX2_tell x3 (nI 5) v2 h2) fun _ h4 => fX5_closeBefore_93 h4)
theorem tX5_closeBefore_67 (G : sr_G) (v0 : Option Nat) (v2 : Int32) (s0 : Int32) (h : AH) : sr_T (X := Unit) G 3 RX5 cX5_closeBefore 4 none false (sr_M G jV) 67 [(0, vR v0), (2, vI v2)] [vI s0] h (fX5_closeBefore_67  v0 v2 s0 h) := by
  unfold fX5_closeBefore_67
  refine tq_istore_n 3 (L' := [(3, vI s0), (0, vR v0), (2, vI v2)]) dX5_closeBefore_67 rfl (by decide) rfl ?_
  refine tq_iload_n 3 0 dX5_closeBefore_68 rfl rfl ?_
  refine tq_if_le 93 dX5_closeBefore_69 (by decide) (fun _ => ?_) (fun _ => ?_)
  · exact tq_sub [] rfl (tX5_closeBefore_93 G h)
  · refine tq_aload_n 0 1 dX5_closeBefore_72 rfl rfl ?_
    refine tq_iload_n 3 0 dX5_closeBefore_73 rfl rfl ?_
    refine tq_iconst (nI 1) dX5_closeBefore_74 (by decide) ?_
    refine tq_iadd dX5_closeBefore_75 ?_
    refine tq_cVV [vI (s0 + (nI 1))] [] dX5_closeBefore_76 (eX5_closeDownTo G v0 (s0 + (nI 1)) h) (by decide) mbX5_closeDownTo cfX5 rfl wd_588 wd_590 wd_22 rfl rfl (Nat.le_of_ble_eq_true rfl) (fun _ h1 => ?_)
    refine tq_aload_n 0 1 dX5_closeBefore_79 rfl rfl ?_
    refine tq_iload_n 3 0 dX5_closeBefore_80 rfl rfl ?_
    refine tq_putI 6 dX5_closeBefore_81 cfX5 (by decide) wd_269 rfl rfl (Or.inl rfl) (fun h2 => ?_)
    refine tq_aload_n 0 1 dX5_closeBefore_84 rfl rfl ?_
    refine tq_getR 2 dX5_closeBefore_85 cfX5 (by decide) wd_265 rfl rfl (fun x3 => ?_)
    refine tq_iconst (nI 5) dX5_closeBefore_88 (by decide) ?_
    refine tq_iload_n 2 2 dX5_closeBefore_89 rfl rfl ?_
    refine tq_cVV [vI (nI 5), vI v2] [] dX5_closeBefore_90 (eX2_tell G x3 (nI 5) v2 h2) (by decide) mbX2_tell cfX2 rfl wd_460 wd_461 wd_462 rfl rfl (Nat.le_of_ble_eq_true rfl) (fun _ h4 => ?_)
    exact tq_sub [] rfl (tX5_closeBefore_93 G h4)
noncomputable def fX5_closeBefore_51  (v0 : Option Nat) (v1 : Int32) (v2 : Int32) (h : AH) : Option (Unit × AH) := if v1 = (nI 7) then (cCV h 5 v0 (fX5_innermostOf v0 (nI 7) h) fun x2 h1 => fX5_closeBefore_67 v0 v2 x2 h1) else (fX5_closeBefore_67 v0 v2 (nI 0) h)
theorem tX5_closeBefore_51 (G : sr_G) (v0 : Option Nat) (v1 : Int32) (v2 : Int32) (h : AH) : sr_T (X := Unit) G 3 RX5 cX5_closeBefore 4 none false (sr_M G jV) 51 [(0, vR v0), (1, vI v1), (2, vI v2)] [] h (fX5_closeBefore_51  v0 v1 v2 h) := by
  unfold fX5_closeBefore_51
  refine tq_iload_n 1 1 dX5_closeBefore_51 rfl rfl ?_
  refine tq_bipush (nI 7) dX5_closeBefore_52 (by decide) ?_
  refine tq_icmp_ne 66 dX5_closeBefore_54 (by decide) (fun _ => ?_) (fun _ => ?_)
  · refine tq_iconst (nI 0) dX5_closeBefore_66 (by decide) ?_
    exact tq_sub [0, 2] rfl (tX5_closeBefore_67 G v0 v2 (nI 0) h)
  · refine tq_aload_n 0 0 dX5_closeBefore_57 rfl rfl ?_
    refine tq_bipush (nI 7) dX5_closeBefore_58 (by decide) ?_
    refine tq_cVI [vI (nI 7)] [] dX5_closeBefore_60 (eX5_innermostOf G v0 (nI 7) h) (by decide) mbX5_innermostOf cfX5 rfl wd_607 wd_609 wd_26 rfl rfl (Nat.le_of_ble_eq_true rfl) (fun x2 h1 => ?_)
    refine tq_goto 67 dX5_closeBefore_63 (by decide) ?_
    exact tq_sub [0, 2] rfl (tX5_closeBefore_67 G v0 v2 x2 h1)
noncomputable def fX5_closeBefore_24  (v0 : Option Nat) (v1 : Int32) (v2 : Int32) (h : AH) : Option (Unit × AH) := if v1 = (nI 4) then (cCV h 5 v0 (fX5_innermostOf v0 (nI 4) h) fun x2 h1 => cCV h1 5 v0 (fX5_innermostOf v0 (nI 3) h1) fun x4 h3 => if x2 ≤ x4 then (fX5_closeBefore_51 v0 v1 v2 h3) else (cCV h3 5 v0 (fX5_innermostOf v0 (nI 4) h3) fun x6 h5 => cCV h5 5 v0 (fX5_closeDownTo v0 x6 h5) fun _ h7 => fX5_closeBefore_51 v0 v1 v2 h7)) else (fX5_closeBefore_51 v0 v1 v2 h)
theorem tX5_closeBefore_24 (G : sr_G) (v0 : Option Nat) (v1 : Int32) (v2 : Int32) (h : AH) : sr_T (X := Unit) G 3 RX5 cX5_closeBefore 4 none false (sr_M G jV) 24 [(0, vR v0), (1, vI v1), (2, vI v2)] [] h (fX5_closeBefore_24  v0 v1 v2 h) := by
  unfold fX5_closeBefore_24
  refine tq_iload_n 1 1 dX5_closeBefore_24 rfl rfl ?_
  refine tq_iconst (nI 4) dX5_closeBefore_25 (by decide) ?_
  refine tq_icmp_ne 51 dX5_closeBefore_26 (by decide) (fun _ => ?_) (fun _ => ?_)
  · exact tX5_closeBefore_51 G v0 v1 v2 h
  · refine tq_aload_n 0 0 dX5_closeBefore_29 rfl rfl ?_
    refine tq_iconst (nI 4) dX5_closeBefore_30 (by decide) ?_
    refine tq_cVI [vI (nI 4)] [] dX5_closeBefore_31 (eX5_innermostOf G v0 (nI 4) h) (by decide) mbX5_innermostOf cfX5 rfl wd_607 wd_609 wd_26 rfl rfl (Nat.le_of_ble_eq_true rfl) (fun x2 h1 => ?_)
    refine tq_aload_n 0 0 dX5_closeBefore_34 rfl rfl ?_
    refine tq_iconst (nI 3) dX5_closeBefore_35 (by decide) ?_
    refine tq_cVI [vI (nI 3)] [vI x2] dX5_closeBefore_36 (eX5_innermostOf G v0 (nI 3) h1) (by decide) mbX5_innermostOf cfX5 rfl wd_607 wd_609 wd_26 rfl rfl (Nat.le_of_ble_eq_true rfl) (fun x4 h3 => ?_)
    refine tq_icmp_le 51 dX5_closeBefore_39 (by decide) (fun _ => ?_) (fun _ => ?_)
    · exact tX5_closeBefore_51 G v0 v1 v2 h3
    · refine tq_aload_n 0 0 dX5_closeBefore_42 rfl rfl ?_
      refine tq_aload_n 0 0 dX5_closeBefore_43 rfl rfl ?_
      refine tq_iconst (nI 4) dX5_closeBefore_44 (by decide) ?_
      refine tq_cVI [vI (nI 4)] [vR v0] dX5_closeBefore_45 (eX5_innermostOf G v0 (nI 4) h3) (by decide) mbX5_innermostOf cfX5 rfl wd_607 wd_609 wd_26 rfl rfl (Nat.le_of_ble_eq_true rfl) (fun x6 h5 => ?_)
      refine tq_cVV [vI x6] [] dX5_closeBefore_48 (eX5_closeDownTo G v0 x6 h5) (by decide) mbX5_closeDownTo cfX5 rfl wd_588 wd_590 wd_22 rfl rfl (Nat.le_of_ble_eq_true rfl) (fun _ h7 => ?_)
      exact tX5_closeBefore_51 G v0 v1 v2 h7
noncomputable def fX5_closeBefore_0  (v0 : Option Nat) (v1 : Int32) (v2 : Int32) (h : AH) : Option (Unit × AH) := cCL (fX8_isBlockTag v1 h) fun x2 h1 => if x2 = 0 then (fX5_closeBefore_24 v0 v1 v2 h1) else (cCV h1 5 v0 (fX5_innermostOf v0 (nI 1) h1) fun x4 h3 => if x4 ≤ 0 then (fX5_closeBefore_24 v0 v1 v2 h3) else (cCV h3 5 v0 (fX5_innermostOf v0 (nI 1) h3) fun x6 h5 => cCV h5 5 v0 (fX5_closeDownTo v0 x6 h5) fun _ h7 => fX5_closeBefore_24 v0 v1 v2 h7))
theorem tX5_closeBefore_0 (G : sr_G) (v0 : Option Nat) (v1 : Int32) (v2 : Int32) (h : AH) : sr_T (X := Unit) G 3 RX5 cX5_closeBefore 4 none false (sr_M G jV) 0 [(0, vR v0), (1, vI v1), (2, vI v2)] [] h (fX5_closeBefore_0  v0 v1 v2 h) := by
  unfold fX5_closeBefore_0
  refine tq_iload_n 1 1 dX5_closeBefore_0 rfl rfl ?_
  refine tq_cNI [vI v1] [] dX5_closeBefore_1 (eX8_isBlockTag G v1 h) (by decide) mbX8_isBlockTag (host := "SoupReader") (by decide) wd_605 rfl rfl (Nat.le_of_ble_eq_true rfl) (fun x2 h1 => ?_)
  refine tq_if_eq 24 dX5_closeBefore_4 (by decide) (fun _ => ?_) (fun _ => ?_)
  · exact tX5_closeBefore_24 G v0 v1 v2 h1
  · refine tq_aload_n 0 0 dX5_closeBefore_7 rfl rfl ?_
    refine tq_iconst (nI 1) dX5_closeBefore_8 (by decide) ?_
    refine tq_cVI [vI (nI 1)] [] dX5_closeBefore_9 (eX5_innermostOf G v0 (nI 1) h1) (by decide) mbX5_innermostOf cfX5 rfl wd_607 wd_609 wd_26 rfl rfl (Nat.le_of_ble_eq_true rfl) (fun x4 h3 => ?_)
    refine tq_if_le 24 dX5_closeBefore_12 (by decide) (fun _ => ?_) (fun _ => ?_)
    · exact tX5_closeBefore_24 G v0 v1 v2 h3
    · refine tq_aload_n 0 0 dX5_closeBefore_15 rfl rfl ?_
      refine tq_aload_n 0 0 dX5_closeBefore_16 rfl rfl ?_
      refine tq_iconst (nI 1) dX5_closeBefore_17 (by decide) ?_
      refine tq_cVI [vI (nI 1)] [vR v0] dX5_closeBefore_18 (eX5_innermostOf G v0 (nI 1) h3) (by decide) mbX5_innermostOf cfX5 rfl wd_607 wd_609 wd_26 rfl rfl (Nat.le_of_ble_eq_true rfl) (fun x6 h5 => ?_)
      refine tq_cVV [vI x6] [] dX5_closeBefore_21 (eX5_closeDownTo G v0 x6 h5) (by decide) mbX5_closeDownTo cfX5 rfl wd_588 wd_590 wd_22 rfl rfl (Nat.le_of_ble_eq_true rfl) (fun _ h7 => ?_)
      exact tX5_closeBefore_24 G v0 v1 v2 h7
noncomputable def fX5_closeBefore (v0 : Option Nat) (v1 : Int32) (v2 : Int32) (h : AH) : Option (Unit × AH) := fX5_closeBefore_0 v0 v1 v2 h
theorem eX5_closeBefore (G : sr_G) (v0 : Option Nat) (v1 : Int32) (v2 : Int32) (h : AH) : sr_E G 3 yX5_closeBefore cX5_closeBefore 4 none jV [vR v0, vI v1, vI v2] h (fX5_closeBefore v0 v1 v2 h) := sr_E.of (own := RX5) (ini := false) (by decide) rfl (fun q => by first | rfl | cases q) rfl (Nat.le_of_ble_eq_true rfl) (tX5_closeBefore_0 G v0 v1 v2 h)

noncomputable def fX0_init_0  (v0 : Option Nat) (h : AH) : Option (Unit × AH) := cNN v0 <| cNA h 1 (nI 60) fun x1 h2 => cPR h2 0 1 v0 x1 fun h3 => some ((), h3)
theorem tX0_init_0 (G : sr_G) (v0 : Option Nat) (h : AH) : sr_T (X := Unit) G 1 RX0 cX0_init 1 none true (sr_M G jV) 0 [(0, vR v0)] [] h (fX0_init_0  v0 h) := by
  unfold fX0_init_0
  refine tq_aload_n 0 0 dX0_init_0 rfl rfl ?_
  refine tq_objI dX0_init_1 (by decide) wd_540 wd_90 wd_91 (Nat.le_of_ble_eq_true rfl) ?_
  refine tq_aload_n 0 0 dX0_init_4 rfl rfl ?_
  refine tq_bipush (nI 60) dX0_init_5 (by decide) ?_
  refine tq_newa dX0_init_7 (by decide) rfl wd_108 (fun x1 h2 => ?_)
  refine tq_putR 1 dX0_init_9 cfX0 (by decide) wd_544 rfl rfl (Or.inr ⟨rfl, rfl, rfl⟩) (fun h3 => ?_)
  exact tq_vret rfl dX0_init_12
noncomputable def fX0_init (v0 : Option Nat) (h : AH) : Option (Unit × AH) := fX0_init_0 v0 h
theorem eX0_init (G : sr_G) (v0 : Option Nat) (h : AH) : sr_E G 1 yX0_init cX0_init 1 none jV [vR v0] h (fX0_init v0 h) := sr_E.of (own := RX0) (ini := true) (by decide) rfl (fun q => by first | rfl | cases q) rfl (Nat.le_of_ble_eq_true rfl) (tX0_init_0 G v0 h)
noncomputable def fX0_begin_0  (v0 : Option Nat) (v1 : Int64) (h : AH) : Option (Unit × AH) := cPL h 0 0 v0 v1 fun h1 => cPI h1 0 2 v0 (nI 0) fun h2 => some ((), h2)
theorem tX0_begin_0 (G : sr_G) (v0 : Option Nat) (v1 : Int64) (h : AH) : sr_T (X := Unit) G 0 RX0 cX0_begin 3 none false (sr_M G jV) 0 [(0, vR v0), (1, vL v1)] [] h (fX0_begin_0  v0 v1 h) := by
  unfold fX0_begin_0
  refine tq_aload_n 0 0 dX0_begin_0 rfl rfl ?_
  refine tq_lload_n 1 1 dX0_begin_1 rfl rfl ?_
  refine tq_putL 0 dX0_begin_2 cfX0 (by decide) wd_541 rfl rfl (Or.inl rfl) (fun h1 => ?_)
  refine tq_aload_n 0 0 dX0_begin_5 rfl rfl ?_
  refine tq_iconst (nI 0) dX0_begin_6 (by decide) ?_
  refine tq_putI 2 dX0_begin_7 cfX0 (by decide) wd_546 rfl rfl (Or.inl rfl) (fun h2 => ?_)
  exact tq_vret rfl dX0_begin_10
noncomputable def fX0_begin (v0 : Option Nat) (v1 : Int64) (h : AH) : Option (Unit × AH) := fX0_begin_0 v0 v1 h
theorem eX0_begin (G : sr_G) (v0 : Option Nat) (v1 : Int64) (h : AH) : sr_E G 0 yX0_begin cX0_begin 3 none jV [vR v0, vL v1] h (fX0_begin v0 v1 h) := sr_E.of (own := RX0) (ini := false) (by decide) rfl (fun q => by first | rfl | cases q) rfl (Nat.le_of_ble_eq_true rfl) (tX0_begin_0 G v0 v1 h)
noncomputable def fX0_put_40   (h : AH) : Option (Unit × AH) := some ((), h)
theorem tX0_put_40 (G : sr_G)  (h : AH) : sr_T (X := Unit) G 0 RX0 cX0_put 2 none false (sr_M G jV) 40 [] [] h (fX0_put_40  h) := by
  unfold fX0_put_40
  exact tq_vret rfl dX0_put_40
noncomputable def fX0_put_0  (v0 : Option Nat) (v1 : Int32) (h : AH) : Option (Unit × AH) := cGI h 0 2 v0 fun x1 => if x1 < 0 then (fX0_put_40 h) else (cGI h 0 2 v0 fun x2 => cGR h 0 1 v0 fun x3 => cAN h 1 x3 fun x4 => if x4 ≤ x2 then (fX0_put_40 h) else (cGR h 0 1 v0 fun x5 => cGI h 0 2 v0 fun x6 => cAS h 1 x5 x6 (Int8.toInt32 (Int32.toInt8 v1)) fun h7 => cGI h7 0 2 v0 fun x8 => cPI h7 0 2 v0 (x8 + (nI 1)) fun h9 => fX0_put_40 h9))
theorem tX0_put_0 (G : sr_G) (v0 : Option Nat) (v1 : Int32) (h : AH) : sr_T (X := Unit) G 0 RX0 cX0_put 2 none false (sr_M G jV) 0 [(0, vR v0), (1, vI v1)] [] h (fX0_put_0  v0 v1 h) := by
  unfold fX0_put_0
  refine tq_aload_n 0 0 dX0_put_0 rfl rfl ?_
  refine tq_getI 2 dX0_put_1 cfX0 (by decide) wd_546 rfl rfl (fun x1 => ?_)
  refine tq_if_lt 40 dX0_put_4 (by decide) (fun _ => ?_) (fun _ => ?_)
  · exact tq_sub [] rfl (tX0_put_40 G h)
  · refine tq_aload_n 0 0 dX0_put_7 rfl rfl ?_
    refine tq_getI 2 dX0_put_8 cfX0 (by decide) wd_546 rfl rfl (fun x2 => ?_)
    refine tq_aload_n 0 0 dX0_put_11 rfl rfl ?_
    refine tq_getR 1 dX0_put_12 cfX0 (by decide) wd_544 rfl rfl (fun x3 => ?_)
    refine tq_alen (by decide) dX0_put_15 (fun x4 => ?_)
    refine tq_icmp_ge 40 dX0_put_16 (by decide) (fun _ => ?_) (fun _ => ?_)
    · exact tq_sub [] rfl (tX0_put_40 G h)
    · refine tq_aload_n 0 0 dX0_put_19 rfl rfl ?_
      refine tq_getR 1 dX0_put_20 cfX0 (by decide) wd_544 rfl rfl (fun x5 => ?_)
      refine tq_aload_n 0 0 dX0_put_23 rfl rfl ?_
      refine tq_getI 2 dX0_put_24 cfX0 (by decide) wd_546 rfl rfl (fun x6 => ?_)
      refine tq_iload_n 1 1 dX0_put_27 rfl rfl ?_
      refine tq_i2b dX0_put_28 ?_
      refine tq_bast dX0_put_29 (fun h7 => ?_)
      refine tq_aload_n 0 0 dX0_put_30 rfl rfl ?_
      refine tq_dupR dX0_put_31 ?_
      refine tq_getI 2 dX0_put_32 cfX0 (by decide) wd_546 rfl rfl (fun x8 => ?_)
      refine tq_iconst (nI 1) dX0_put_35 (by decide) ?_
      refine tq_iadd dX0_put_36 ?_
      refine tq_putI 2 dX0_put_37 cfX0 (by decide) wd_546 rfl rfl (Or.inl rfl) (fun h9 => ?_)
      exact tq_sub [] rfl (tX0_put_40 G h9)
noncomputable def fX0_put (v0 : Option Nat) (v1 : Int32) (h : AH) : Option (Unit × AH) := fX0_put_0 v0 v1 h
theorem eX0_put (G : sr_G) (v0 : Option Nat) (v1 : Int32) (h : AH) : sr_E G 0 yX0_put cX0_put 2 none jV [vR v0, vI v1] h (fX0_put v0 v1 h) := sr_E.of (own := RX0) (ini := false) (by decide) rfl (fun q => by first | rfl | cases q) rfl (Nat.le_of_ble_eq_true rfl) (tX0_put_0 G v0 v1 h)
noncomputable def fX0_takeValueOf_40   (h : AH) : Option (Unit × AH) := some ((), h)
theorem tX0_takeValueOf_40 (G : sr_G)  (h : AH) : sr_T (X := Unit) G 1 RX0 cX0_takeValueOf 3 none false (sr_M G jV) 40 [] [] h (fX0_takeValueOf_40  h) := by
  unfold fX0_takeValueOf_40
  exact tq_vret rfl dX0_takeValueOf_40
noncomputable def fX0_takeValueOf_7  : Nat → Option Nat → Option Nat → Int32 → AH → Option (Unit × AH)
  | 0, _, _, _, _ => none
  | n + 1, v0, v1, v2, h => cGI h 0 2 v1 fun x1 => if x1 ≤ v2 then (fX0_takeValueOf_40 h) else (cGR h 0 1 v1 fun x2 => cAN h 1 x2 fun x3 => if x3 ≤ v2 then (fX0_takeValueOf_40 h) else (cGR h 0 1 v1 fun x4 => cAL h 1 x4 v2 fun x5 => cCV h 0 v0 (fX0_put v0 x5 h) fun _ h6 => fX0_takeValueOf_7 n v0 v1 (v2 + (nI 1)) h6))
theorem tX0_takeValueOf_7 (G : sr_G) : ∀ (n : Nat) (v0 : Option Nat) (v1 : Option Nat) (v2 : Int32) (h : AH), sr_T (X := Unit) G 1 RX0 cX0_takeValueOf 3 none false (sr_M G jV) 7 [(0, vR v0), (1, vR v1), (2, vI v2)] [] h (fX0_takeValueOf_7  n v0 v1 v2 h) := by
  intro n
  induction n with
  | zero => intro v0 v1 v2 h; exact tq_none
  | succ n ih =>
    intro v0 v1 v2 h
    unfold fX0_takeValueOf_7
    refine tq_iload_n 2 2 dX0_takeValueOf_7 rfl rfl ?_
    refine tq_aload_n 1 1 dX0_takeValueOf_8 rfl rfl ?_
    refine tq_getI 2 dX0_takeValueOf_9 cfX0 (by decide) wd_546 rfl rfl (fun x1 => ?_)
    refine tq_icmp_ge 40 dX0_takeValueOf_12 (by decide) (fun _ => ?_) (fun _ => ?_)
    · exact tq_sub [] rfl (tX0_takeValueOf_40 G h)
    · refine tq_iload_n 2 2 dX0_takeValueOf_15 rfl rfl ?_
      refine tq_aload_n 1 1 dX0_takeValueOf_16 rfl rfl ?_
      refine tq_getR 1 dX0_takeValueOf_17 cfX0 (by decide) wd_544 rfl rfl (fun x2 => ?_)
      refine tq_alen (by decide) dX0_takeValueOf_20 (fun x3 => ?_)
      refine tq_icmp_ge 40 dX0_takeValueOf_21 (by decide) (fun _ => ?_) (fun _ => ?_)
      · exact tq_sub [] rfl (tX0_takeValueOf_40 G h)
      · refine tq_aload_n 0 0 dX0_takeValueOf_24 rfl rfl ?_
        refine tq_aload_n 1 1 dX0_takeValueOf_25 rfl rfl ?_
        refine tq_getR 1 dX0_takeValueOf_26 cfX0 (by decide) wd_544 rfl rfl (fun x4 => ?_)
        refine tq_iload_n 2 2 dX0_takeValueOf_29 rfl rfl ?_
        refine tq_bald dX0_takeValueOf_30 (fun x5 => ?_)
        refine tq_cVV [vI x5] [] dX0_takeValueOf_31 (eX0_put G v0 x5 h) (by decide) mbX0_put cfX0 rfl wd_620 wd_567 wd_568 rfl rfl (Nat.le_of_ble_eq_true rfl) (fun _ h6 => ?_)
        refine tq_iinc 2 (nI 1) (L' := [(2, vI (v2 + (nI 1))), (0, vR v0), (1, vR v1)]) dX0_takeValueOf_34 rfl (by decide) (by decide) rfl ?_
        refine tq_goto 7 dX0_takeValueOf_37 (by decide) ?_
        exact tq_sub [1, 2, 0] rfl (ih v0 v1 (v2 + (nI 1)) h6)
noncomputable def fX0_takeValueOf_0  (v0 : Option Nat) (v1 : Option Nat) (h : AH) : Option (Unit × AH) := cPI h 0 2 v0 (nI 0) fun h1 => fX0_takeValueOf_7 FU v0 v1 (nI 0) h1
theorem tX0_takeValueOf_0 (G : sr_G) (v0 : Option Nat) (v1 : Option Nat) (h : AH) : sr_T (X := Unit) G 1 RX0 cX0_takeValueOf 3 none false (sr_M G jV) 0 [(0, vR v0), (1, vR v1)] [] h (fX0_takeValueOf_0  v0 v1 h) := by
  unfold fX0_takeValueOf_0
  refine tq_aload_n 0 0 dX0_takeValueOf_0 rfl rfl ?_
  refine tq_iconst (nI 0) dX0_takeValueOf_1 (by decide) ?_
  refine tq_putI 2 dX0_takeValueOf_2 cfX0 (by decide) wd_546 rfl rfl (Or.inl rfl) (fun h1 => ?_)
  refine tq_iconst (nI 0) dX0_takeValueOf_5 (by decide) ?_
  refine tq_istore_n 2 (L' := [(2, vI (nI 0)), (0, vR v0), (1, vR v1)]) dX0_takeValueOf_6 rfl (by decide) rfl ?_
  exact tq_sub [1, 2, 0] rfl (tX0_takeValueOf_7 G FU v0 v1 (nI 0) h1)
noncomputable def fX0_takeValueOf (v0 : Option Nat) (v1 : Option Nat) (h : AH) : Option (Unit × AH) := fX0_takeValueOf_0 v0 v1 h
theorem eX0_takeValueOf (G : sr_G) (v0 : Option Nat) (v1 : Option Nat) (h : AH) : sr_E G 1 yX0_takeValueOf cX0_takeValueOf 3 none jV [vR v0, vR v1] h (fX0_takeValueOf v0 v1 h) := sr_E.of (own := RX0) (ini := false) (by decide) rfl (fun q => by first | rfl | cases q) rfl (Nat.le_of_ble_eq_true rfl) (tX0_takeValueOf_0 G v0 v1 h)
noncomputable def fX1_init_0  (v0 : Option Nat) (h : AH) : Option (Unit × AH) := cNN v0 <| cNA h 4 (nI 4) fun x1 h2 => cPR h2 1 50 v0 x1 fun h3 => some ((), h3)
theorem tX1_init_0 (G : sr_G) (v0 : Option Nat) (h : AH) : sr_T (X := Unit) G 1 RX1 cX1_init 1 none true (sr_M G jV) 0 [(0, vR v0)] [] h (fX1_init_0  v0 h) := by
  unfold fX1_init_0
  refine tq_aload_n 0 0 dX1_init_0 rfl rfl ?_
  refine tq_objI dX1_init_1 (by decide) wd_160 wd_90 wd_91 (Nat.le_of_ble_eq_true rfl) ?_
  refine tq_aload_n 0 0 dX1_init_4 rfl rfl ?_
  refine tq_iconst (nI 4) dX1_init_5 (by decide) ?_
  refine tq_anew dX1_init_6 (by decide) rfl wd_161 (fun x1 h2 => ?_)
  refine tq_putR 0 dX1_init_9 cfX1 (by decide) wd_163 rfl rfl (Or.inr ⟨rfl, rfl, rfl⟩) (fun h3 => ?_)
  exact tq_vret rfl dX1_init_12
noncomputable def fX1_init (v0 : Option Nat) (h : AH) : Option (Unit × AH) := fX1_init_0 v0 h
theorem eX1_init (G : sr_G) (v0 : Option Nat) (h : AH) : sr_E G 1 yX1_init cX1_init 1 none jV [vR v0] h (fX1_init v0 h) := sr_E.of (own := RX1) (ini := true) (by decide) rfl (fun q => by first | rfl | cases q) rfl (Nat.le_of_ble_eq_true rfl) (tX1_init_0 G v0 h)
noncomputable def fX1_itemAt_31  (s0 : Option Nat) (h : AH) : Option (Option Nat × AH) := some (s0, h)
theorem tX1_itemAt_31 (G : sr_G) (s0 : Option Nat) (h : AH) : sr_T (X := Option Nat) G 0 RX1 cX1_itemAt 2 (some (.object "SoupReader$Attribute")) false (sr_M G jR) 31 [] [vR s0] h (fX1_itemAt_31  s0 h) := by
  unfold fX1_itemAt_31
  exact tq_aret rfl dX1_itemAt_31
noncomputable def fX1_itemAt_30   (h : AH) : Option (Option Nat × AH) := fX1_itemAt_31 none h
theorem tX1_itemAt_30 (G : sr_G)  (h : AH) : sr_T (X := Option Nat) G 0 RX1 cX1_itemAt 2 (some (.object "SoupReader$Attribute")) false (sr_M G jR) 30 [] [] h (fX1_itemAt_30  h) := by
  unfold fX1_itemAt_30
  refine tq_null dX1_itemAt_30 ?_
  exact tX1_itemAt_31 G none h
noncomputable def fX1_itemAt_0  (v0 : Option Nat) (v1 : Int32) (h : AH) : Option (Option Nat × AH) := if v1 < 0 then (fX1_itemAt_30 h) else (cGI h 1 51 v0 fun x1 => if x1 ≤ v1 then (fX1_itemAt_30 h) else (cGR h 1 50 v0 fun x2 => cAN h 4 x2 fun x3 => if x3 ≤ v1 then (fX1_itemAt_30 h) else (cGR h 1 50 v0 fun x4 => cQL h 4 x4 v1 fun x5 => fX1_itemAt_31 x5 h)))
theorem tX1_itemAt_0 (G : sr_G) (v0 : Option Nat) (v1 : Int32) (h : AH) : sr_T (X := Option Nat) G 0 RX1 cX1_itemAt 2 (some (.object "SoupReader$Attribute")) false (sr_M G jR) 0 [(0, vR v0), (1, vI v1)] [] h (fX1_itemAt_0  v0 v1 h) := by
  unfold fX1_itemAt_0
  refine tq_iload_n 1 1 dX1_itemAt_0 rfl rfl ?_
  refine tq_if_lt 30 dX1_itemAt_1 (by decide) (fun _ => ?_) (fun _ => ?_)
  · exact tq_sub [] rfl (tX1_itemAt_30 G h)
  · refine tq_iload_n 1 1 dX1_itemAt_4 rfl rfl ?_
    refine tq_aload_n 0 0 dX1_itemAt_5 rfl rfl ?_
    refine tq_getI 1 dX1_itemAt_6 cfX1 (by decide) wd_164 rfl rfl (fun x1 => ?_)
    refine tq_icmp_ge 30 dX1_itemAt_9 (by decide) (fun _ => ?_) (fun _ => ?_)
    · exact tq_sub [] rfl (tX1_itemAt_30 G h)
    · refine tq_iload_n 1 1 dX1_itemAt_12 rfl rfl ?_
      refine tq_aload_n 0 0 dX1_itemAt_13 rfl rfl ?_
      refine tq_getR 0 dX1_itemAt_14 cfX1 (by decide) wd_163 rfl rfl (fun x2 => ?_)
      refine tq_alen (by decide) dX1_itemAt_17 (fun x3 => ?_)
      refine tq_icmp_ge 30 dX1_itemAt_18 (by decide) (fun _ => ?_) (fun _ => ?_)
      · exact tq_sub [] rfl (tX1_itemAt_30 G h)
      · refine tq_aload_n 0 0 dX1_itemAt_21 rfl rfl ?_
        refine tq_getR 0 dX1_itemAt_22 cfX1 (by decide) wd_163 rfl rfl (fun x4 => ?_)
        refine tq_iload_n 1 1 dX1_itemAt_25 rfl rfl ?_
        refine tq_aald (by decide) dX1_itemAt_26 (fun x5 => ?_)
        refine tq_goto 31 dX1_itemAt_27 (by decide) ?_
        exact tq_sub [] rfl (tX1_itemAt_31 G x5 h)
noncomputable def fX1_itemAt (v0 : Option Nat) (v1 : Int32) (h : AH) : Option (Option Nat × AH) := fX1_itemAt_0 v0 v1 h
theorem eX1_itemAt (G : sr_G) (v0 : Option Nat) (v1 : Int32) (h : AH) : sr_E G 0 yX1_itemAt cX1_itemAt 2 (some (.object "SoupReader$Attribute")) jR [vR v0, vI v1] h (fX1_itemAt v0 v1 h) := sr_E.of (own := RX1) (ini := false) (by decide) rfl (fun q => by first | rfl | cases q) rfl (Nat.le_of_ble_eq_true rfl) (tX1_itemAt_0 G v0 v1 h)
noncomputable def fX1_named_41   (h : AH) : Option (Option Nat × AH) := some (none, h)
theorem tX1_named_41 (G : sr_G)  (h : AH) : sr_T (X := Option Nat) G 1 RX1 cX1_named 5 (some (.object "SoupReader$Attribute")) false (sr_M G jR) 41 [] [] h (fX1_named_41  h) := by
  unfold fX1_named_41
  refine tq_null dX1_named_41 ?_
  exact tq_aret rfl dX1_named_42
noncomputable def fX1_named_35 (r2 : Option Nat → Int64 → Int32 → AH → Option (Option Nat × AH)) (v0 : Option Nat) (v1 : Int64) (v3 : Int32) (h : AH) : Option (Option Nat × AH) := r2 v0 v1 (v3 + (nI 1)) h
theorem tX1_named_35 (G : sr_G) {r2 : Option Nat → Int64 → Int32 → AH → Option (Option Nat × AH)} (hr2 : ∀ (v0 : Option Nat) (v1 : Int64) (v3 : Int32) (h : AH), sr_T (X := Option Nat) G 1 RX1 cX1_named 5 (some (.object "SoupReader$Attribute")) false (sr_M G jR) 2 [(0, vR v0), (1, vL v1), (3, vI v3)] [] h (r2 v0 v1 v3 h)) (v0 : Option Nat) (v1 : Int64) (v3 : Int32) (h : AH) : sr_T (X := Option Nat) G 1 RX1 cX1_named 5 (some (.object "SoupReader$Attribute")) false (sr_M G jR) 35 [(0, vR v0), (1, vL v1), (3, vI v3)] [] h (fX1_named_35 r2 v0 v1 v3 h) := by
  unfold fX1_named_35
  refine tq_iinc 2 (nI 1) (L' := [(3, vI (v3 + (nI 1))), (0, vR v0), (1, vL v1)]) dX1_named_35 rfl (by decide) (by decide) rfl ?_
  refine tq_goto 2 dX1_named_38 (by decide) ?_
  exact tq_sub [1, 2, 0] rfl (hr2 v0 v1 (v3 + (nI 1)) h)
noncomputable def fX1_named_32  (v4 : Option Nat) (h : AH) : Option (Option Nat × AH) := some (v4, h)
theorem tX1_named_32 (G : sr_G) (v4 : Option Nat) (h : AH) : sr_T (X := Option Nat) G 1 RX1 cX1_named 5 (some (.object "SoupReader$Attribute")) false (sr_M G jR) 32 [(4, vR v4)] [] h (fX1_named_32  v4 h) := by
  unfold fX1_named_32
  refine tq_aload 0 dX1_named_32 rfl ?_
  exact tq_aret rfl dX1_named_34
noncomputable def fX1_named_2  : Nat → Option Nat → Int64 → Int32 → AH → Option (Option Nat × AH)
  | 0, _, _, _, _ => none
  | n + 1, v0, v1, v3, h => cGI h 1 51 v0 fun x1 => if x1 ≤ v3 then (fX1_named_41 h) else (cCV h 1 v0 (fX1_itemAt v0 v3 h) fun x3 h2 => if x3 = none then (fX1_named_35 (fX1_named_2 n) v0 v1 v3 h2) else (cGL h2 0 0 x3 fun x4 => if (lg_cmp x4 v1) = 0 then (fX1_named_32 x3 h2) else (fX1_named_35 (fX1_named_2 n) v0 v1 v3 h2)))
theorem tX1_named_2 (G : sr_G) : ∀ (n : Nat) (v0 : Option Nat) (v1 : Int64) (v3 : Int32) (h : AH), sr_T (X := Option Nat) G 1 RX1 cX1_named 5 (some (.object "SoupReader$Attribute")) false (sr_M G jR) 2 [(0, vR v0), (1, vL v1), (3, vI v3)] [] h (fX1_named_2  n v0 v1 v3 h) := by
  intro n
  induction n with
  | zero => intro v0 v1 v3 h; exact tq_none
  | succ n ih =>
    intro v0 v1 v3 h
    unfold fX1_named_2
    refine tq_iload_n 3 2 dX1_named_2 rfl rfl ?_
    refine tq_aload_n 0 0 dX1_named_3 rfl rfl ?_
    refine tq_getI 1 dX1_named_4 cfX1 (by decide) wd_164 rfl rfl (fun x1 => ?_)
    refine tq_icmp_ge 41 dX1_named_7 (by decide) (fun _ => ?_) (fun _ => ?_)
    · exact tq_sub [] rfl (tX1_named_41 G h)
    · refine tq_aload_n 0 0 dX1_named_10 rfl rfl ?_
      refine tq_iload_n 3 2 dX1_named_11 rfl rfl ?_
      refine tq_cVR [vI v3] [] dX1_named_12 (eX1_itemAt G v0 v3 h) (by decide) mbX1_itemAt cfX1 rfl wd_528 wd_529 wd_530 rfl rfl (Nat.le_of_ble_eq_true rfl) (fun x3 h2 => ?_)
      refine tq_astore (L' := [(4, vR x3), (0, vR v0), (1, vL v1), (3, vI v3)]) dX1_named_15 (by decide) rfl ?_
      refine tq_aload 0 dX1_named_17 rfl ?_
      refine tq_ifnull 35 dX1_named_19 (by decide) (fun _ => ?_) (fun _ => ?_)
      · exact tq_sub [1, 2, 3] rfl (tX1_named_35 G ih v0 v1 v3 h2)
      · refine tq_aload 0 dX1_named_22 rfl ?_
        refine tq_getL 0 dX1_named_24 cfX0 (by decide) wd_542 rfl rfl (fun x4 => ?_)
        refine tq_lload_n 1 2 dX1_named_27 rfl rfl ?_
        refine tq_lcmp dX1_named_28 ?_
        refine tq_if_ne 35 dX1_named_29 (by decide) (fun _ => ?_) (fun _ => ?_)
        · exact tq_sub [1, 2, 3] rfl (tX1_named_35 G ih v0 v1 v3 h2)
        · exact tq_sub [0] rfl (tX1_named_32 G x3 h2)
noncomputable def fX1_named_0  (v0 : Option Nat) (v1 : Int64) (h : AH) : Option (Option Nat × AH) := fX1_named_2 FU v0 v1 (nI 0) h
theorem tX1_named_0 (G : sr_G) (v0 : Option Nat) (v1 : Int64) (h : AH) : sr_T (X := Option Nat) G 1 RX1 cX1_named 5 (some (.object "SoupReader$Attribute")) false (sr_M G jR) 0 [(0, vR v0), (1, vL v1)] [] h (fX1_named_0  v0 v1 h) := by
  unfold fX1_named_0
  refine tq_iconst (nI 0) dX1_named_0 (by decide) ?_
  refine tq_istore_n 3 (L' := [(3, vI (nI 0)), (0, vR v0), (1, vL v1)]) dX1_named_1 rfl (by decide) rfl ?_
  exact tq_sub [1, 2, 0] rfl (tX1_named_2 G FU v0 v1 (nI 0) h)
noncomputable def fX1_named (v0 : Option Nat) (v1 : Int64) (h : AH) : Option (Option Nat × AH) := fX1_named_0 v0 v1 h
theorem eX1_named (G : sr_G) (v0 : Option Nat) (v1 : Int64) (h : AH) : sr_E G 1 yX1_named cX1_named 5 (some (.object "SoupReader$Attribute")) jR [vR v0, vL v1] h (fX1_named v0 v1 h) := sr_E.of (own := RX1) (ini := false) (by decide) rfl (fun q => by first | rfl | cases q) rfl (Nat.le_of_ble_eq_true rfl) (tX1_named_0 G v0 v1 h)
noncomputable def fX1_grow_19   (h : AH) : Option (Option Nat × AH) := some (none, h)
theorem tX1_grow_19 (G : sr_G)  (h : AH) : sr_T (X := Option Nat) G 2 RX1 cX1_grow 4 (some (.object "SoupReader$Attribute")) false (sr_M G jR) 19 [] [] h (fX1_grow_19  h) := by
  unfold fX1_grow_19
  refine tq_null dX1_grow_19 ?_
  exact tq_aret rfl dX1_grow_20
noncomputable def fX1_grow_49  (v0 : Option Nat) (v1 : Int64) (h : AH) : Option (Option Nat × AH) := cGR h 1 50 v0 fun x1 => cGI h 1 51 v0 fun x2 => cQL h 4 x1 x2 fun x3 => cCV h 0 x3 (fX0_begin x3 v1 h) fun _ h4 => cGI h4 1 51 v0 fun x5 => cPI h4 1 51 v0 (x5 + (nI 1)) fun h6 => some (x3, h6)
theorem tX1_grow_49 (G : sr_G) (v0 : Option Nat) (v1 : Int64) (h : AH) : sr_T (X := Option Nat) G 2 RX1 cX1_grow 4 (some (.object "SoupReader$Attribute")) false (sr_M G jR) 49 [(0, vR v0), (1, vL v1)] [] h (fX1_grow_49  v0 v1 h) := by
  unfold fX1_grow_49
  refine tq_aload_n 0 0 dX1_grow_49 rfl rfl ?_
  refine tq_getR 0 dX1_grow_50 cfX1 (by decide) wd_163 rfl rfl (fun x1 => ?_)
  refine tq_aload_n 0 0 dX1_grow_53 rfl rfl ?_
  refine tq_getI 1 dX1_grow_54 cfX1 (by decide) wd_164 rfl rfl (fun x2 => ?_)
  refine tq_aald (by decide) dX1_grow_57 (fun x3 => ?_)
  refine tq_astore_n 3 (L' := [(3, vR x3), (0, vR v0), (1, vL v1)]) dX1_grow_58 rfl (by decide) rfl ?_
  refine tq_aload_n 3 0 dX1_grow_59 rfl rfl ?_
  refine tq_lload_n 1 2 dX1_grow_60 rfl rfl ?_
  refine tq_cVV [vL v1] [] dX1_grow_61 (eX0_begin G x3 v1 h) (by decide) mbX0_begin cfX0 rfl wd_555 wd_556 wd_557 rfl rfl (Nat.le_of_ble_eq_true rfl) (fun _ h4 => ?_)
  refine tq_aload_n 0 1 dX1_grow_64 rfl rfl ?_
  refine tq_dupR dX1_grow_65 ?_
  refine tq_getI 1 dX1_grow_66 cfX1 (by decide) wd_164 rfl rfl (fun x5 => ?_)
  refine tq_iconst (nI 1) dX1_grow_69 (by decide) ?_
  refine tq_iadd dX1_grow_70 ?_
  refine tq_putI 1 dX1_grow_71 cfX1 (by decide) wd_164 rfl rfl (Or.inl rfl) (fun h6 => ?_)
  refine tq_aload_n 3 0 dX1_grow_74 rfl rfl ?_
  exact tq_aret rfl dX1_grow_75
noncomputable def fX1_grow_0  (v0 : Option Nat) (v1 : Int64) (h : AH) : Option (Option Nat × AH) := cGI h 1 51 v0 fun x1 => if x1 < 0 then (fX1_grow_19 h) else (cGI h 1 51 v0 fun x2 => cGR h 1 50 v0 fun x3 => cAN h 4 x3 fun x4 => if x2 < x4 then (cGR h 1 50 v0 fun x5 => cGI h 1 51 v0 fun x6 => cQL h 4 x5 x6 fun x7 => if x7 = none then (cGR h 1 50 v0 fun x8 => cGI h 1 51 v0 fun x9 => cNO h 0 3 fun x10 h11 => cCV h11 0 x10 (fX0_init x10 h11) fun _ h12 => cQS h12 4 0 x8 x9 x10 fun h13 => fX1_grow_49 v0 v1 h13) else (fX1_grow_49 v0 v1 h)) else (fX1_grow_19 h))
theorem tX1_grow_0 (G : sr_G) (v0 : Option Nat) (v1 : Int64) (h : AH) : sr_T (X := Option Nat) G 2 RX1 cX1_grow 4 (some (.object "SoupReader$Attribute")) false (sr_M G jR) 0 [(0, vR v0), (1, vL v1)] [] h (fX1_grow_0  v0 v1 h) := by
  unfold fX1_grow_0
  refine tq_aload_n 0 0 dX1_grow_0 rfl rfl ?_
  refine tq_getI 1 dX1_grow_1 cfX1 (by decide) wd_164 rfl rfl (fun x1 => ?_)
  refine tq_if_lt 19 dX1_grow_4 (by decide) (fun _ => ?_) (fun _ => ?_)
  · exact tq_sub [] rfl (tX1_grow_19 G h)
  · refine tq_aload_n 0 0 dX1_grow_7 rfl rfl ?_
    refine tq_getI 1 dX1_grow_8 cfX1 (by decide) wd_164 rfl rfl (fun x2 => ?_)
    refine tq_aload_n 0 0 dX1_grow_11 rfl rfl ?_
    refine tq_getR 0 dX1_grow_12 cfX1 (by decide) wd_163 rfl rfl (fun x3 => ?_)
    refine tq_alen (by decide) dX1_grow_15 (fun x4 => ?_)
    refine tq_icmp_lt 21 dX1_grow_16 (by decide) (fun _ => ?_) (fun _ => ?_)
    · refine tq_aload_n 0 0 dX1_grow_21 rfl rfl ?_
      refine tq_getR 0 dX1_grow_22 cfX1 (by decide) wd_163 rfl rfl (fun x5 => ?_)
      refine tq_aload_n 0 0 dX1_grow_25 rfl rfl ?_
      refine tq_getI 1 dX1_grow_26 cfX1 (by decide) wd_164 rfl rfl (fun x6 => ?_)
      refine tq_aald (by decide) dX1_grow_29 (fun x7 => ?_)
      refine tq_ifnonnull 49 dX1_grow_30 (by decide) (fun _ => ?_) (fun _ => ?_)
      · exact tX1_grow_49 G v0 v1 h
      · refine tq_aload_n 0 0 dX1_grow_33 rfl rfl ?_
        refine tq_getR 0 dX1_grow_34 cfX1 (by decide) wd_163 rfl rfl (fun x8 => ?_)
        refine tq_aload_n 0 0 dX1_grow_37 rfl rfl ?_
        refine tq_getI 1 dX1_grow_38 cfX1 (by decide) wd_164 rfl rfl (fun x9 => ?_)
        refine tq_new dX1_grow_41 cfX0 dvX0 wd_161 wd_536 wd_83 (fun x10 h11 => ?_)
        refine tq_dupR dX1_grow_44 ?_
        refine tq_callIN [] [vR x10, vI x9, vR x8] dX1_grow_45 (eX0_init G x10 h11) (by decide) mbX0_init (host := "SoupReader") (by decide) wd_538 rfl rfl rfl (Nat.le_of_ble_eq_true rfl) (fun _ h12 => ?_)
        refine tq_aast (by decide) cfX0 rfl dX1_grow_48 (fun h13 => ?_)
        exact tX1_grow_49 G v0 v1 h13
    · exact tq_sub [] rfl (tX1_grow_19 G h)
noncomputable def fX1_grow (v0 : Option Nat) (v1 : Int64) (h : AH) : Option (Option Nat × AH) := fX1_grow_0 v0 v1 h
theorem eX1_grow (G : sr_G) (v0 : Option Nat) (v1 : Int64) (h : AH) : sr_E G 2 yX1_grow cX1_grow 4 (some (.object "SoupReader$Attribute")) jR [vR v0, vL v1] h (fX1_grow v0 v1 h) := sr_E.of (own := RX1) (ini := false) (by decide) rfl (fun q => by first | rfl | cases q) rfl (Nat.le_of_ble_eq_true rfl) (tX1_grow_0 G v0 v1 h)
noncomputable def fX1_copyFrom_56   (h : AH) : Option (Unit × AH) := some ((), h)
theorem tX1_copyFrom_56 (G : sr_G)  (h : AH) : sr_T (X := Unit) G 3 RX1 cX1_copyFrom 5 none false (sr_M G jV) 56 [] [] h (fX1_copyFrom_56  h) := by
  unfold fX1_copyFrom_56
  exact tq_vret rfl dX1_copyFrom_56
noncomputable def fX1_copyFrom_50 (r7 : Option Nat → Option Nat → Int32 → AH → Option (Unit × AH)) (v0 : Option Nat) (v1 : Option Nat) (v2 : Int32) (h : AH) : Option (Unit × AH) := r7 v0 v1 (v2 + (nI 1)) h
theorem tX1_copyFrom_50 (G : sr_G) {r7 : Option Nat → Option Nat → Int32 → AH → Option (Unit × AH)} (hr7 : ∀ (v0 : Option Nat) (v1 : Option Nat) (v2 : Int32) (h : AH), sr_T (X := Unit) G 3 RX1 cX1_copyFrom 5 none false (sr_M G jV) 7 [(0, vR v0), (1, vR v1), (2, vI v2)] [] h (r7 v0 v1 v2 h)) (v0 : Option Nat) (v1 : Option Nat) (v2 : Int32) (h : AH) : sr_T (X := Unit) G 3 RX1 cX1_copyFrom 5 none false (sr_M G jV) 50 [(0, vR v0), (1, vR v1), (2, vI v2)] [] h (fX1_copyFrom_50 r7 v0 v1 v2 h) := by
  unfold fX1_copyFrom_50
  refine tq_iinc 2 (nI 1) (L' := [(2, vI (v2 + (nI 1))), (0, vR v0), (1, vR v1)]) dX1_copyFrom_50 rfl (by decide) (by decide) rfl ?_
  refine tq_goto 7 dX1_copyFrom_53 (by decide) ?_
  exact tq_sub [1, 2, 0] rfl (hr7 v0 v1 (v2 + (nI 1)) h)
noncomputable def fX1_copyFrom_37 (r7 : Option Nat → Option Nat → Int32 → AH → Option (Unit × AH)) (v0 : Option Nat) (v1 : Option Nat) (v2 : Int32) (v3 : Option Nat) (s0 : Option Nat) (h : AH) : Option (Unit × AH) := if s0 = none then (fX1_copyFrom_50 r7 v0 v1 v2 h) else (cCV h 0 s0 (fX0_takeValueOf s0 v3 h) fun _ h1 => fX1_copyFrom_50 r7 v0 v1 v2 h1)
theorem tX1_copyFrom_37 (G : sr_G) {r7 : Option Nat → Option Nat → Int32 → AH → Option (Unit × AH)} (hr7 : ∀ (v0 : Option Nat) (v1 : Option Nat) (v2 : Int32) (h : AH), sr_T (X := Unit) G 3 RX1 cX1_copyFrom 5 none false (sr_M G jV) 7 [(0, vR v0), (1, vR v1), (2, vI v2)] [] h (r7 v0 v1 v2 h)) (v0 : Option Nat) (v1 : Option Nat) (v2 : Int32) (v3 : Option Nat) (s0 : Option Nat) (h : AH) : sr_T (X := Unit) G 3 RX1 cX1_copyFrom 5 none false (sr_M G jV) 37 [(0, vR v0), (1, vR v1), (2, vI v2), (3, vR v3)] [vR s0] h (fX1_copyFrom_37 r7 v0 v1 v2 v3 s0 h) := by
  unfold fX1_copyFrom_37
  refine tq_astore (L' := [(4, vR s0), (0, vR v0), (1, vR v1), (2, vI v2), (3, vR v3)]) dX1_copyFrom_37 (by decide) rfl ?_
  refine tq_aload 0 dX1_copyFrom_39 rfl ?_
  refine tq_ifnull 50 dX1_copyFrom_41 (by decide) (fun _ => ?_) (fun _ => ?_)
  · exact tq_sub [1, 2, 3] rfl (tX1_copyFrom_50 G hr7 v0 v1 v2 h)
  · refine tq_aload 0 dX1_copyFrom_44 rfl ?_
    refine tq_aload_n 3 4 dX1_copyFrom_46 rfl rfl ?_
    refine tq_cVV [vR v3] [] dX1_copyFrom_47 (eX0_takeValueOf G s0 v3 h) (by decide) mbX0_takeValueOf cfX0 rfl wd_616 wd_617 wd_618 rfl rfl (Nat.le_of_ble_eq_true rfl) (fun _ h1 => ?_)
    exact tq_sub [1, 2, 3] rfl (tX1_copyFrom_50 G hr7 v0 v1 v2 h1)
noncomputable def fX1_copyFrom_7  : Nat → Option Nat → Option Nat → Int32 → AH → Option (Unit × AH)
  | 0, _, _, _, _ => none
  | n + 1, v0, v1, v2, h => cGI h 1 51 v1 fun x1 => if x1 ≤ v2 then (fX1_copyFrom_56 h) else (cCV h 1 v1 (fX1_itemAt v1 v2 h) fun x3 h2 => if x3 = none then (fX1_copyFrom_37 (fX1_copyFrom_7 n) v0 v1 v2 x3 none h2) else (cGL h2 0 0 x3 fun x4 => cCV h2 1 v0 (fX1_grow v0 x4 h2) fun x6 h5 => fX1_copyFrom_37 (fX1_copyFrom_7 n) v0 v1 v2 x3 x6 h5))
theorem tX1_copyFrom_7 (G : sr_G) : ∀ (n : Nat) (v0 : Option Nat) (v1 : Option Nat) (v2 : Int32) (h : AH), sr_T (X := Unit) G 3 RX1 cX1_copyFrom 5 none false (sr_M G jV) 7 [(0, vR v0), (1, vR v1), (2, vI v2)] [] h (fX1_copyFrom_7  n v0 v1 v2 h) := by
  intro n
  induction n with
  | zero => intro v0 v1 v2 h; exact tq_none
  | succ n ih =>
    intro v0 v1 v2 h
    unfold fX1_copyFrom_7
    refine tq_iload_n 2 2 dX1_copyFrom_7 rfl rfl ?_
    refine tq_aload_n 1 1 dX1_copyFrom_8 rfl rfl ?_
    refine tq_getI 1 dX1_copyFrom_9 cfX1 (by decide) wd_164 rfl rfl (fun x1 => ?_)
    refine tq_icmp_ge 56 dX1_copyFrom_12 (by decide) (fun _ => ?_) (fun _ => ?_)
    · exact tq_sub [] rfl (tX1_copyFrom_56 G h)
    · refine tq_aload_n 1 1 dX1_copyFrom_15 rfl rfl ?_
      refine tq_iload_n 2 2 dX1_copyFrom_16 rfl rfl ?_
      refine tq_cVR [vI v2] [] dX1_copyFrom_17 (eX1_itemAt G v1 v2 h) (by decide) mbX1_itemAt cfX1 rfl wd_528 wd_529 wd_530 rfl rfl (Nat.le_of_ble_eq_true rfl) (fun x3 h2 => ?_)
      refine tq_astore_n 3 (L' := [(3, vR x3), (0, vR v0), (1, vR v1), (2, vI v2)]) dX1_copyFrom_20 rfl (by decide) rfl ?_
      refine tq_aload_n 3 0 dX1_copyFrom_21 rfl rfl ?_
      refine tq_ifnonnull 29 dX1_copyFrom_22 (by decide) (fun _ => ?_) (fun _ => ?_)
      · refine tq_aload_n 0 1 dX1_copyFrom_29 rfl rfl ?_
        refine tq_aload_n 3 0 dX1_copyFrom_30 rfl rfl ?_
        refine tq_getL 0 dX1_copyFrom_31 cfX0 (by decide) wd_542 rfl rfl (fun x4 => ?_)
        refine tq_cVR [vL x4] [] dX1_copyFrom_34 (eX1_grow G v0 x4 h2) (by decide) mbX1_grow cfX1 rfl wd_615 wd_533 wd_534 rfl rfl (Nat.le_of_ble_eq_true rfl) (fun x6 h5 => ?_)
        exact tq_sub [1, 2, 3, 0] rfl (tX1_copyFrom_37 G ih v0 v1 v2 x3 x6 h5)
      · refine tq_null dX1_copyFrom_25 ?_
        refine tq_goto 37 dX1_copyFrom_26 (by decide) ?_
        exact tq_sub [1, 2, 3, 0] rfl (tX1_copyFrom_37 G ih v0 v1 v2 x3 none h2)
noncomputable def fX1_copyFrom_0  (v0 : Option Nat) (v1 : Option Nat) (h : AH) : Option (Unit × AH) := cPI h 1 51 v0 (nI 0) fun h1 => fX1_copyFrom_7 FU v0 v1 (nI 0) h1
theorem tX1_copyFrom_0 (G : sr_G) (v0 : Option Nat) (v1 : Option Nat) (h : AH) : sr_T (X := Unit) G 3 RX1 cX1_copyFrom 5 none false (sr_M G jV) 0 [(0, vR v0), (1, vR v1)] [] h (fX1_copyFrom_0  v0 v1 h) := by
  unfold fX1_copyFrom_0
  refine tq_aload_n 0 0 dX1_copyFrom_0 rfl rfl ?_
  refine tq_iconst (nI 0) dX1_copyFrom_1 (by decide) ?_
  refine tq_putI 1 dX1_copyFrom_2 cfX1 (by decide) wd_164 rfl rfl (Or.inl rfl) (fun h1 => ?_)
  refine tq_iconst (nI 0) dX1_copyFrom_5 (by decide) ?_
  refine tq_istore_n 2 (L' := [(2, vI (nI 0)), (0, vR v0), (1, vR v1)]) dX1_copyFrom_6 rfl (by decide) rfl ?_
  exact tq_sub [1, 2, 0] rfl (tX1_copyFrom_7 G FU v0 v1 (nI 0) h1)
noncomputable def fX1_copyFrom (v0 : Option Nat) (v1 : Option Nat) (h : AH) : Option (Unit × AH) := fX1_copyFrom_0 v0 v1 h
theorem eX1_copyFrom (G : sr_G) (v0 : Option Nat) (v1 : Option Nat) (h : AH) : sr_E G 3 yX1_copyFrom cX1_copyFrom 5 none jV [vR v0, vR v1] h (fX1_copyFrom v0 v1 h) := sr_E.of (own := RX1) (ini := false) (by decide) rfl (fun q => by first | rfl | cases q) rfl (Nat.le_of_ble_eq_true rfl) (tX1_copyFrom_0 G v0 v1 h)
noncomputable def fX2_init_0  (v0 : Option Nat) (h : AH) : Option (Unit × AH) := cNN v0 <| cNA h 0 (nI 40) fun x1 h2 => cPR h2 2 100 v0 x1 fun h3 => cNA h3 0 (nI 40) fun x4 h5 => cPR h5 2 101 v0 x4 fun h6 => some ((), h6)
theorem tX2_init_0 (G : sr_G) (v0 : Option Nat) (h : AH) : sr_T (X := Unit) G 1 RX2 cX2_init 1 none true (sr_M G jV) 0 [(0, vR v0)] [] h (fX2_init_0  v0 h) := by
  unfold fX2_init_0
  refine tq_aload_n 0 0 dX2_init_0 rfl rfl ?_
  refine tq_objI dX2_init_1 (by decide) wd_128 wd_90 wd_91 (Nat.le_of_ble_eq_true rfl) ?_
  refine tq_aload_n 0 0 dX2_init_4 rfl rfl ?_
  refine tq_bipush (nI 40) dX2_init_5 (by decide) ?_
  refine tq_newa dX2_init_7 (by decide) rfl wd_141 (fun x1 h2 => ?_)
  refine tq_putR 0 dX2_init_9 cfX2 (by decide) wd_129 rfl rfl (Or.inr ⟨rfl, rfl, rfl⟩) (fun h3 => ?_)
  refine tq_aload_n 0 0 dX2_init_12 rfl rfl ?_
  refine tq_bipush (nI 40) dX2_init_13 (by decide) ?_
  refine tq_newa dX2_init_15 (by decide) rfl wd_141 (fun x4 h5 => ?_)
  refine tq_putR 1 dX2_init_17 cfX2 (by decide) wd_130 rfl rfl (Or.inr ⟨rfl, rfl, rfl⟩) (fun h6 => ?_)
  exact tq_vret rfl dX2_init_20
noncomputable def fX2_init (v0 : Option Nat) (h : AH) : Option (Unit × AH) := fX2_init_0 v0 h
theorem eX2_init (G : sr_G) (v0 : Option Nat) (h : AH) : sr_E G 1 yX2_init cX2_init 1 none jV [vR v0] h (fX2_init v0 h) := sr_E.of (own := RX2) (ini := true) (by decide) rfl (fun q => by first | rfl | cases q) rfl (Nat.le_of_ble_eq_true rfl) (tX2_init_0 G v0 h)
noncomputable def fX2_isKept_15  (s0 : Int32) (h : AH) : Option (Int32 × AH) := cZ s0 (some (s0, h))
theorem tX2_isKept_15 (G : sr_G) (s0 : Int32) (h : AH) : sr_T (X := Int32) G 0 RX2 cX2_isKept 1 (some .boolean) false (sr_M G jI) 15 [] [vI s0] h (fX2_isKept_15  s0 h) := by
  unfold fX2_isKept_15
  exact tq_zret rfl dX2_isKept_15
noncomputable def fX2_isKept_14   (h : AH) : Option (Int32 × AH) := fX2_isKept_15 (nI 0) h
theorem tX2_isKept_14 (G : sr_G)  (h : AH) : sr_T (X := Int32) G 0 RX2 cX2_isKept 1 (some .boolean) false (sr_M G jI) 14 [] [] h (fX2_isKept_14  h) := by
  unfold fX2_isKept_14
  refine tq_iconst (nI 0) dX2_isKept_14 (by decide) ?_
  exact tX2_isKept_15 G (nI 0) h
noncomputable def fX2_isKept_0  (v0 : Int32) (h : AH) : Option (Int32 × AH) := if v0 < 0 then (fX2_isKept_14 h) else (if (nI 40) ≤ v0 then (fX2_isKept_14 h) else (fX2_isKept_15 (nI 1) h))
theorem tX2_isKept_0 (G : sr_G) (v0 : Int32) (h : AH) : sr_T (X := Int32) G 0 RX2 cX2_isKept 1 (some .boolean) false (sr_M G jI) 0 [(0, vI v0)] [] h (fX2_isKept_0  v0 h) := by
  unfold fX2_isKept_0
  refine tq_iload_n 0 0 dX2_isKept_0 rfl rfl ?_
  refine tq_if_lt 14 dX2_isKept_1 (by decide) (fun _ => ?_) (fun _ => ?_)
  · exact tq_sub [] rfl (tX2_isKept_14 G h)
  · refine tq_iload_n 0 0 dX2_isKept_4 rfl rfl ?_
    refine tq_bipush (nI 40) dX2_isKept_5 (by decide) ?_
    refine tq_icmp_ge 14 dX2_isKept_7 (by decide) (fun _ => ?_) (fun _ => ?_)
    · exact tq_sub [] rfl (tX2_isKept_14 G h)
    · refine tq_iconst (nI 1) dX2_isKept_10 (by decide) ?_
      refine tq_goto 15 dX2_isKept_11 (by decide) ?_
      exact tq_sub [] rfl (tX2_isKept_15 G (nI 1) h)
noncomputable def fX2_isKept (v0 : Int32) (h : AH) : Option (Int32 × AH) := fX2_isKept_0 v0 h
theorem eX2_isKept (G : sr_G) (v0 : Int32) (h : AH) : sr_E G 0 yX2_isKept cX2_isKept 1 (some .boolean) jI [vI v0] h (fX2_isKept v0 h) := sr_E.of (own := RX2) (ini := false) (by decide) rfl (fun q => by first | rfl | cases q) rfl (Nat.le_of_ble_eq_true rfl) (tX2_isKept_0 G v0 h)
noncomputable def fX2_tell_30  (v0 : Option Nat) (h : AH) : Option (Unit × AH) := cGI h 2 102 v0 fun x1 => cPI h 2 102 v0 (x1 + (nI 1)) fun h2 => some ((), h2)
theorem tX2_tell_30 (G : sr_G) (v0 : Option Nat) (h : AH) : sr_T (X := Unit) G 1 RX2 cX2_tell 3 none false (sr_M G jV) 30 [(0, vR v0)] [] h (fX2_tell_30  v0 h) := by
  unfold fX2_tell_30
  refine tq_aload_n 0 0 dX2_tell_30 rfl rfl ?_
  refine tq_dupR dX2_tell_31 ?_
  refine tq_getI 2 dX2_tell_32 cfX2 (by decide) wd_131 rfl rfl (fun x1 => ?_)
  refine tq_iconst (nI 1) dX2_tell_35 (by decide) ?_
  refine tq_iadd dX2_tell_36 ?_
  refine tq_putI 2 dX2_tell_37 cfX2 (by decide) wd_131 rfl rfl (Or.inl rfl) (fun h2 => ?_)
  exact tq_vret rfl dX2_tell_40
noncomputable def fX2_tell_0  (v0 : Option Nat) (v1 : Int32) (v2 : Int32) (h : AH) : Option (Unit × AH) := cGI h 2 102 v0 fun x1 => cCL (fX2_isKept x1 h) fun x3 h2 => if x3 = 0 then (fX2_tell_30 v0 h2) else (cGR h2 2 100 v0 fun x4 => cGI h2 2 102 v0 fun x5 => cAS h2 0 x4 x5 v1 fun h6 => cGR h6 2 101 v0 fun x7 => cGI h6 2 102 v0 fun x8 => cAS h6 0 x7 x8 v2 fun h9 => fX2_tell_30 v0 h9)
theorem tX2_tell_0 (G : sr_G) (v0 : Option Nat) (v1 : Int32) (v2 : Int32) (h : AH) : sr_T (X := Unit) G 1 RX2 cX2_tell 3 none false (sr_M G jV) 0 [(0, vR v0), (1, vI v1), (2, vI v2)] [] h (fX2_tell_0  v0 v1 v2 h) := by
  unfold fX2_tell_0
  refine tq_aload_n 0 0 dX2_tell_0 rfl rfl ?_
  refine tq_getI 2 dX2_tell_1 cfX2 (by decide) wd_131 rfl rfl (fun x1 => ?_)
  refine tq_cSI [vI x1] [] dX2_tell_4 (eX2_isKept G x1 h) (by decide) mbX2_isKept wd_464 wd_465 rfl rfl (Nat.le_of_ble_eq_true rfl) (fun x3 h2 => ?_)
  refine tq_if_eq 30 dX2_tell_7 (by decide) (fun _ => ?_) (fun _ => ?_)
  · exact tq_sub [0] rfl (tX2_tell_30 G v0 h2)
  · refine tq_aload_n 0 0 dX2_tell_10 rfl rfl ?_
    refine tq_getR 0 dX2_tell_11 cfX2 (by decide) wd_129 rfl rfl (fun x4 => ?_)
    refine tq_aload_n 0 0 dX2_tell_14 rfl rfl ?_
    refine tq_getI 2 dX2_tell_15 cfX2 (by decide) wd_131 rfl rfl (fun x5 => ?_)
    refine tq_iload_n 1 1 dX2_tell_18 rfl rfl ?_
    refine tq_iast dX2_tell_19 (fun h6 => ?_)
    refine tq_aload_n 0 0 dX2_tell_20 rfl rfl ?_
    refine tq_getR 1 dX2_tell_21 cfX2 (by decide) wd_130 rfl rfl (fun x7 => ?_)
    refine tq_aload_n 0 0 dX2_tell_24 rfl rfl ?_
    refine tq_getI 2 dX2_tell_25 cfX2 (by decide) wd_131 rfl rfl (fun x8 => ?_)
    refine tq_iload_n 2 2 dX2_tell_28 rfl rfl ?_
    refine tq_iast dX2_tell_29 (fun h9 => ?_)
    exact tq_sub [0] rfl (tX2_tell_30 G v0 h9)
noncomputable def fX2_tell (v0 : Option Nat) (v1 : Int32) (v2 : Int32) (h : AH) : Option (Unit × AH) := fX2_tell_0 v0 v1 v2 h
theorem eX2_tell (G : sr_G) (v0 : Option Nat) (v1 : Int32) (v2 : Int32) (h : AH) : sr_E G 1 yX2_tell cX2_tell 3 none jV [vR v0, vI v1, vI v2] h (fX2_tell v0 v1 v2 h) := sr_E.of (own := RX2) (ini := false) (by decide) rfl (fun q => by first | rfl | cases q) rfl (Nat.le_of_ble_eq_true rfl) (tX2_tell_0 G v0 v1 v2 h)
noncomputable def fX2_kindOf_25  (s0 : Int32) (h : AH) : Option (Int32 × AH) := some (s0, h)
theorem tX2_kindOf_25 (G : sr_G) (s0 : Int32) (h : AH) : sr_T (X := Int32) G 1 RX2 cX2_kindOf 2 (some .int) false (sr_M G jI) 25 [] [vI s0] h (fX2_kindOf_25  s0 h) := by
  unfold fX2_kindOf_25
  exact tq_iret rfl dX2_kindOf_25
noncomputable def fX2_kindOf_24   (h : AH) : Option (Int32 × AH) := fX2_kindOf_25 (-1) h
theorem tX2_kindOf_24 (G : sr_G)  (h : AH) : sr_T (X := Int32) G 1 RX2 cX2_kindOf 2 (some .int) false (sr_M G jI) 24 [] [] h (fX2_kindOf_24  h) := by
  unfold fX2_kindOf_24
  refine tq_iconst (-1) dX2_kindOf_24 (by decide) ?_
  exact tX2_kindOf_25 G (-1) h
noncomputable def fX2_kindOf_0  (v0 : Option Nat) (v1 : Int32) (h : AH) : Option (Int32 × AH) := cCL (fX2_isKept v1 h) fun x2 h1 => if x2 = 0 then (fX2_kindOf_24 h1) else (cGI h1 2 102 v0 fun x3 => if x3 ≤ v1 then (fX2_kindOf_24 h1) else (cGR h1 2 100 v0 fun x4 => cAL h1 0 x4 v1 fun x5 => fX2_kindOf_25 x5 h1))
theorem tX2_kindOf_0 (G : sr_G) (v0 : Option Nat) (v1 : Int32) (h : AH) : sr_T (X := Int32) G 1 RX2 cX2_kindOf 2 (some .int) false (sr_M G jI) 0 [(0, vR v0), (1, vI v1)] [] h (fX2_kindOf_0  v0 v1 h) := by
  unfold fX2_kindOf_0
  refine tq_iload_n 1 1 dX2_kindOf_0 rfl rfl ?_
  refine tq_cSI [vI v1] [] dX2_kindOf_1 (eX2_isKept G v1 h) (by decide) mbX2_isKept wd_464 wd_465 rfl rfl (Nat.le_of_ble_eq_true rfl) (fun x2 h1 => ?_)
  refine tq_if_eq 24 dX2_kindOf_4 (by decide) (fun _ => ?_) (fun _ => ?_)
  · exact tq_sub [] rfl (tX2_kindOf_24 G h1)
  · refine tq_iload_n 1 1 dX2_kindOf_7 rfl rfl ?_
    refine tq_aload_n 0 0 dX2_kindOf_8 rfl rfl ?_
    refine tq_getI 2 dX2_kindOf_9 cfX2 (by decide) wd_131 rfl rfl (fun x3 => ?_)
    refine tq_icmp_ge 24 dX2_kindOf_12 (by decide) (fun _ => ?_) (fun _ => ?_)
    · exact tq_sub [] rfl (tX2_kindOf_24 G h1)
    · refine tq_aload_n 0 0 dX2_kindOf_15 rfl rfl ?_
      refine tq_getR 0 dX2_kindOf_16 cfX2 (by decide) wd_129 rfl rfl (fun x4 => ?_)
      refine tq_iload_n 1 1 dX2_kindOf_19 rfl rfl ?_
      refine tq_iald dX2_kindOf_20 (fun x5 => ?_)
      refine tq_goto 25 dX2_kindOf_21 (by decide) ?_
      exact tq_sub [] rfl (tX2_kindOf_25 G x5 h1)
noncomputable def fX2_kindOf (v0 : Option Nat) (v1 : Int32) (h : AH) : Option (Int32 × AH) := fX2_kindOf_0 v0 v1 h
theorem eX2_kindOf (G : sr_G) (v0 : Option Nat) (v1 : Int32) (h : AH) : sr_E G 1 yX2_kindOf cX2_kindOf 2 (some .int) jI [vR v0, vI v1] h (fX2_kindOf v0 v1 h) := sr_E.of (own := RX2) (ini := false) (by decide) rfl (fun q => by first | rfl | cases q) rfl (Nat.le_of_ble_eq_true rfl) (tX2_kindOf_0 G v0 v1 h)
noncomputable def fX2_placeOf_25  (s0 : Int32) (h : AH) : Option (Int32 × AH) := some (s0, h)
theorem tX2_placeOf_25 (G : sr_G) (s0 : Int32) (h : AH) : sr_T (X := Int32) G 1 RX2 cX2_placeOf 2 (some .int) false (sr_M G jI) 25 [] [vI s0] h (fX2_placeOf_25  s0 h) := by
  unfold fX2_placeOf_25
  exact tq_iret rfl dX2_placeOf_25
noncomputable def fX2_placeOf_24   (h : AH) : Option (Int32 × AH) := fX2_placeOf_25 (-1) h
theorem tX2_placeOf_24 (G : sr_G)  (h : AH) : sr_T (X := Int32) G 1 RX2 cX2_placeOf 2 (some .int) false (sr_M G jI) 24 [] [] h (fX2_placeOf_24  h) := by
  unfold fX2_placeOf_24
  refine tq_iconst (-1) dX2_placeOf_24 (by decide) ?_
  exact tX2_placeOf_25 G (-1) h
noncomputable def fX2_placeOf_0  (v0 : Option Nat) (v1 : Int32) (h : AH) : Option (Int32 × AH) := cCL (fX2_isKept v1 h) fun x2 h1 => if x2 = 0 then (fX2_placeOf_24 h1) else (cGI h1 2 102 v0 fun x3 => if x3 ≤ v1 then (fX2_placeOf_24 h1) else (cGR h1 2 101 v0 fun x4 => cAL h1 0 x4 v1 fun x5 => fX2_placeOf_25 x5 h1))
theorem tX2_placeOf_0 (G : sr_G) (v0 : Option Nat) (v1 : Int32) (h : AH) : sr_T (X := Int32) G 1 RX2 cX2_placeOf 2 (some .int) false (sr_M G jI) 0 [(0, vR v0), (1, vI v1)] [] h (fX2_placeOf_0  v0 v1 h) := by
  unfold fX2_placeOf_0
  refine tq_iload_n 1 1 dX2_placeOf_0 rfl rfl ?_
  refine tq_cSI [vI v1] [] dX2_placeOf_1 (eX2_isKept G v1 h) (by decide) mbX2_isKept wd_464 wd_465 rfl rfl (Nat.le_of_ble_eq_true rfl) (fun x2 h1 => ?_)
  refine tq_if_eq 24 dX2_placeOf_4 (by decide) (fun _ => ?_) (fun _ => ?_)
  · exact tq_sub [] rfl (tX2_placeOf_24 G h1)
  · refine tq_iload_n 1 1 dX2_placeOf_7 rfl rfl ?_
    refine tq_aload_n 0 0 dX2_placeOf_8 rfl rfl ?_
    refine tq_getI 2 dX2_placeOf_9 cfX2 (by decide) wd_131 rfl rfl (fun x3 => ?_)
    refine tq_icmp_ge 24 dX2_placeOf_12 (by decide) (fun _ => ?_) (fun _ => ?_)
    · exact tq_sub [] rfl (tX2_placeOf_24 G h1)
    · refine tq_aload_n 0 0 dX2_placeOf_15 rfl rfl ?_
      refine tq_getR 1 dX2_placeOf_16 cfX2 (by decide) wd_130 rfl rfl (fun x4 => ?_)
      refine tq_iload_n 1 1 dX2_placeOf_19 rfl rfl ?_
      refine tq_iald dX2_placeOf_20 (fun x5 => ?_)
      refine tq_goto 25 dX2_placeOf_21 (by decide) ?_
      exact tq_sub [] rfl (tX2_placeOf_25 G x5 h1)
noncomputable def fX2_placeOf (v0 : Option Nat) (v1 : Int32) (h : AH) : Option (Int32 × AH) := fX2_placeOf_0 v0 v1 h
theorem eX2_placeOf (G : sr_G) (v0 : Option Nat) (v1 : Int32) (h : AH) : sr_E G 1 yX2_placeOf cX2_placeOf 2 (some .int) jI [vR v0, vI v1] h (fX2_placeOf v0 v1 h) := sr_E.of (own := RX2) (ini := false) (by decide) rfl (fun q => by first | rfl | cases q) rfl (Nat.le_of_ble_eq_true rfl) (tX2_placeOf_0 G v0 v1 h)
noncomputable def fX3_init_0  (v0 : Option Nat) (v1 : Int32) (h : AH) : Option (Unit × AH) := cNN v0 <| cNO h 1 2 fun x1 h2 => cCV h2 1 x1 (fX1_init x1 h2) fun _ h3 => cPR h3 3 151 v0 x1 fun h4 => cPI h4 3 150 v0 v1 fun h5 => some ((), h5)
theorem tX3_init_0 (G : sr_G) (v0 : Option Nat) (v1 : Int32) (h : AH) : sr_T (X := Unit) G 2 RX3 cX3_init 2 none true (sr_M G jV) 0 [(0, vR v0), (1, vI v1)] [] h (fX3_init_0  v0 v1 h) := by
  unfold fX3_init_0
  refine tq_aload_n 0 0 dX3_init_0 rfl rfl ?_
  refine tq_objI dX3_init_1 (by decide) wd_154 wd_90 wd_91 (Nat.le_of_ble_eq_true rfl) ?_
  refine tq_aload_n 0 0 dX3_init_4 rfl rfl ?_
  refine tq_new dX3_init_5 cfX1 dvX1 wd_155 wd_156 wd_76 (fun x1 h2 => ?_)
  refine tq_dupR dX3_init_8 ?_
  refine tq_callIN [] [vR x1, vR v0] dX3_init_9 (eX1_init G x1 h2) (by decide) mbX1_init (host := "SoupReader") (by decide) wd_158 rfl rfl rfl (Nat.le_of_ble_eq_true rfl) (fun _ h3 => ?_)
  refine tq_putR 1 dX3_init_12 cfX3 (by decide) wd_175 rfl rfl (Or.inr ⟨rfl, rfl, rfl⟩) (fun h4 => ?_)
  refine tq_aload_n 0 0 dX3_init_15 rfl rfl ?_
  refine tq_iload_n 1 1 dX3_init_16 rfl rfl ?_
  refine tq_putI 0 dX3_init_17 cfX3 (by decide) wd_173 rfl rfl (Or.inr ⟨rfl, rfl, rfl⟩) (fun h5 => ?_)
  exact tq_vret rfl dX3_init_20
noncomputable def fX3_init (v0 : Option Nat) (v1 : Int32) (h : AH) : Option (Unit × AH) := fX3_init_0 v0 v1 h
theorem eX3_init (G : sr_G) (v0 : Option Nat) (v1 : Int32) (h : AH) : sr_E G 2 yX3_init cX3_init 2 none jV [vR v0, vI v1] h (fX3_init v0 v1 h) := sr_E.of (own := RX3) (ini := true) (by decide) rfl (fun q => by first | rfl | cases q) rfl (Nat.le_of_ble_eq_true rfl) (tX3_init_0 G v0 v1 h)
noncomputable def fX3_begin_88   (h : AH) : Option (Unit × AH) := some ((), h)
theorem tX3_begin_88 (G : sr_G)  (h : AH) : sr_T (X := Unit) G 0 RX3 cX3_begin 4 none false (sr_M G jV) 88 [] [] h (fX3_begin_88  h) := by
  unfold fX3_begin_88
  exact tq_vret rfl dX3_begin_88
noncomputable def fX3_begin_0  (v0 : Option Nat) (v1 : Int32) (v2 : Int64) (h : AH) : Option (Unit × AH) := cPI h 3 152 v0 (nI 1) fun h1 => cPI h1 3 153 v0 v1 fun h2 => cPL h2 3 154 v0 v2 fun h3 => cPI h3 3 155 v0 (nI 0) fun h4 => cPR h4 3 156 v0 none fun h5 => cPR h5 3 157 v0 none fun h6 => cPR h6 3 158 v0 none fun h7 => cPR h7 3 159 v0 none fun h8 => cPR h8 3 160 v0 none fun h9 => cGR h9 3 151 v0 fun x10 => cPI h9 1 51 x10 (nI 0) fun h11 => cPI h11 3 162 v0 (nI 0) fun h12 => cPI h12 3 163 v0 (nI 0) fun h13 => cGI h13 3 153 v0 fun x14 => if x14 = (nI 17) then (cGR h13 3 161 v0 fun x15 => if x15 = none then (cNA h13 1 (nI 400) fun x16 h17 => cPR h17 3 161 v0 x16 fun h18 => fX3_begin_88 h18) else (fX3_begin_88 h13)) else (fX3_begin_88 h13)
theorem tX3_begin_0 (G : sr_G) (v0 : Option Nat) (v1 : Int32) (v2 : Int64) (h : AH) : sr_T (X := Unit) G 0 RX3 cX3_begin 4 none false (sr_M G jV) 0 [(0, vR v0), (1, vI v1), (2, vL v2)] [] h (fX3_begin_0  v0 v1 v2 h) := by
  unfold fX3_begin_0
  refine tq_aload_n 0 0 dX3_begin_0 rfl rfl ?_
  refine tq_iconst (nI 1) dX3_begin_1 (by decide) ?_
  refine tq_putZ 2 dX3_begin_2 cfX3 (by decide) wd_178 rfl rfl (Or.inl rfl) (by decide) (fun h1 => ?_)
  refine tq_aload_n 0 0 dX3_begin_5 rfl rfl ?_
  refine tq_iload_n 1 1 dX3_begin_6 rfl rfl ?_
  refine tq_putI 3 dX3_begin_7 cfX3 (by decide) wd_180 rfl rfl (Or.inl rfl) (fun h2 => ?_)
  refine tq_aload_n 0 0 dX3_begin_10 rfl rfl ?_
  refine tq_lload_n 2 2 dX3_begin_11 rfl rfl ?_
  refine tq_putL 4 dX3_begin_12 cfX3 (by decide) wd_184 rfl rfl (Or.inl rfl) (fun h3 => ?_)
  refine tq_aload_n 0 0 dX3_begin_15 rfl rfl ?_
  refine tq_iconst (nI 0) dX3_begin_16 (by decide) ?_
  refine tq_putI 5 dX3_begin_17 cfX3 (by decide) wd_187 rfl rfl (Or.inl rfl) (fun h4 => ?_)
  refine tq_aload_n 0 0 dX3_begin_20 rfl rfl ?_
  refine tq_null dX3_begin_21 ?_
  refine tq_putR 6 dX3_begin_22 cfX3 (by decide) wd_190 rfl rfl (Or.inl rfl) (fun h5 => ?_)
  refine tq_aload_n 0 0 dX3_begin_25 rfl rfl ?_
  refine tq_null dX3_begin_26 ?_
  refine tq_putR 7 dX3_begin_27 cfX3 (by decide) wd_192 rfl rfl (Or.inl rfl) (fun h6 => ?_)
  refine tq_aload_n 0 0 dX3_begin_30 rfl rfl ?_
  refine tq_null dX3_begin_31 ?_
  refine tq_putR 8 dX3_begin_32 cfX3 (by decide) wd_193 rfl rfl (Or.inl rfl) (fun h7 => ?_)
  refine tq_aload_n 0 0 dX3_begin_35 rfl rfl ?_
  refine tq_null dX3_begin_36 ?_
  refine tq_putR 9 dX3_begin_37 cfX3 (by decide) wd_196 rfl rfl (Or.inl rfl) (fun h8 => ?_)
  refine tq_aload_n 0 0 dX3_begin_40 rfl rfl ?_
  refine tq_null dX3_begin_41 ?_
  refine tq_putR 10 dX3_begin_42 cfX3 (by decide) wd_199 rfl rfl (Or.inl rfl) (fun h9 => ?_)
  refine tq_aload_n 0 0 dX3_begin_45 rfl rfl ?_
  refine tq_getR 1 dX3_begin_46 cfX3 (by decide) wd_175 rfl rfl (fun x10 => ?_)
  refine tq_iconst (nI 0) dX3_begin_49 (by decide) ?_
  refine tq_putI 1 dX3_begin_50 cfX1 (by decide) wd_165 rfl rfl (Or.inl rfl) (fun h11 => ?_)
  refine tq_aload_n 0 0 dX3_begin_53 rfl rfl ?_
  refine tq_iconst (nI 0) dX3_begin_54 (by decide) ?_
  refine tq_putI 12 dX3_begin_55 cfX3 (by decide) wd_204 rfl rfl (Or.inl rfl) (fun h12 => ?_)
  refine tq_aload_n 0 0 dX3_begin_58 rfl rfl ?_
  refine tq_iconst (nI 0) dX3_begin_59 (by decide) ?_
  refine tq_putZ 13 dX3_begin_60 cfX3 (by decide) wd_206 rfl rfl (Or.inl rfl) (by decide) (fun h13 => ?_)
  refine tq_aload_n 0 0 dX3_begin_63 rfl rfl ?_
  refine tq_getI 3 dX3_begin_64 cfX3 (by decide) wd_180 rfl rfl (fun x14 => ?_)
  refine tq_bipush (nI 17) dX3_begin_67 (by decide) ?_
  refine tq_icmp_ne 88 dX3_begin_69 (by decide) (fun _ => ?_) (fun _ => ?_)
  · exact tq_sub [] rfl (tX3_begin_88 G h13)
  · refine tq_aload_n 0 0 dX3_begin_72 rfl rfl ?_
    refine tq_getR 11 dX3_begin_73 cfX3 (by decide) wd_202 rfl rfl (fun x15 => ?_)
    refine tq_ifnonnull 88 dX3_begin_76 (by decide) (fun _ => ?_) (fun _ => ?_)
    · exact tq_sub [] rfl (tX3_begin_88 G h13)
    · refine tq_aload_n 0 0 dX3_begin_79 rfl rfl ?_
      refine tq_sipush (nI 400) dX3_begin_80 (by decide) ?_
      refine tq_newa dX3_begin_83 (by decide) rfl wd_108 (fun x16 h17 => ?_)
      refine tq_putR 11 dX3_begin_85 cfX3 (by decide) wd_202 rfl rfl (Or.inl rfl) (fun h18 => ?_)
      exact tq_sub [] rfl (tX3_begin_88 G h18)
noncomputable def fX3_begin (v0 : Option Nat) (v1 : Int32) (v2 : Int64) (h : AH) : Option (Unit × AH) := fX3_begin_0 v0 v1 v2 h
theorem eX3_begin (G : sr_G) (v0 : Option Nat) (v1 : Int32) (v2 : Int64) (h : AH) : sr_E G 0 yX3_begin cX3_begin 4 none jV [vR v0, vI v1, vL v2] h (fX3_begin v0 v1 v2 h) := sr_E.of (own := RX3) (ini := false) (by decide) rfl (fun q => by first | rfl | cases q) rfl (Nat.le_of_ble_eq_true rfl) (tX3_begin_0 G v0 v1 v2 h)
noncomputable def fX3_putByte_26   (h : AH) : Option (Int32 × AH) := cZ (nI 0) (some ((nI 0), h))
theorem tX3_putByte_26 (G : sr_G)  (h : AH) : sr_T (X := Int32) G 0 RX3 cX3_putByte 2 (some .boolean) false (sr_M G jI) 26 [] [] h (fX3_putByte_26  h) := by
  unfold fX3_putByte_26
  refine tq_iconst (nI 0) dX3_putByte_26 (by decide) ?_
  exact tq_zret rfl dX3_putByte_27
noncomputable def fX3_putByte_0  (v0 : Option Nat) (v1 : Int32) (h : AH) : Option (Int32 × AH) := cGR h 3 161 v0 fun x1 => if x1 = none then (fX3_putByte_26 h) else (cGI h 3 162 v0 fun x2 => if x2 < 0 then (fX3_putByte_26 h) else (cGI h 3 162 v0 fun x3 => cGR h 3 161 v0 fun x4 => cAN h 1 x4 fun x5 => if x3 < x5 then (cGR h 3 161 v0 fun x6 => cGI h 3 162 v0 fun x7 => cAS h 1 x6 x7 (Int8.toInt32 (Int32.toInt8 v1)) fun h8 => cGI h8 3 162 v0 fun x9 => cPI h8 3 162 v0 (x9 + (nI 1)) fun h10 => cZ (nI 1) (some ((nI 1), h10))) else (fX3_putByte_26 h)))
theorem tX3_putByte_0 (G : sr_G) (v0 : Option Nat) (v1 : Int32) (h : AH) : sr_T (X := Int32) G 0 RX3 cX3_putByte 2 (some .boolean) false (sr_M G jI) 0 [(0, vR v0), (1, vI v1)] [] h (fX3_putByte_0  v0 v1 h) := by
  unfold fX3_putByte_0
  refine tq_aload_n 0 0 dX3_putByte_0 rfl rfl ?_
  refine tq_getR 11 dX3_putByte_1 cfX3 (by decide) wd_202 rfl rfl (fun x1 => ?_)
  refine tq_ifnull 26 dX3_putByte_4 (by decide) (fun _ => ?_) (fun _ => ?_)
  · exact tq_sub [] rfl (tX3_putByte_26 G h)
  · refine tq_aload_n 0 0 dX3_putByte_7 rfl rfl ?_
    refine tq_getI 12 dX3_putByte_8 cfX3 (by decide) wd_204 rfl rfl (fun x2 => ?_)
    refine tq_if_lt 26 dX3_putByte_11 (by decide) (fun _ => ?_) (fun _ => ?_)
    · exact tq_sub [] rfl (tX3_putByte_26 G h)
    · refine tq_aload_n 0 0 dX3_putByte_14 rfl rfl ?_
      refine tq_getI 12 dX3_putByte_15 cfX3 (by decide) wd_204 rfl rfl (fun x3 => ?_)
      refine tq_aload_n 0 0 dX3_putByte_18 rfl rfl ?_
      refine tq_getR 11 dX3_putByte_19 cfX3 (by decide) wd_202 rfl rfl (fun x4 => ?_)
      refine tq_alen (by decide) dX3_putByte_22 (fun x5 => ?_)
      refine tq_icmp_lt 28 dX3_putByte_23 (by decide) (fun _ => ?_) (fun _ => ?_)
      · refine tq_aload_n 0 0 dX3_putByte_28 rfl rfl ?_
        refine tq_getR 11 dX3_putByte_29 cfX3 (by decide) wd_202 rfl rfl (fun x6 => ?_)
        refine tq_aload_n 0 0 dX3_putByte_32 rfl rfl ?_
        refine tq_getI 12 dX3_putByte_33 cfX3 (by decide) wd_204 rfl rfl (fun x7 => ?_)
        refine tq_iload_n 1 1 dX3_putByte_36 rfl rfl ?_
        refine tq_i2b dX3_putByte_37 ?_
        refine tq_bast dX3_putByte_38 (fun h8 => ?_)
        refine tq_aload_n 0 0 dX3_putByte_39 rfl rfl ?_
        refine tq_dupR dX3_putByte_40 ?_
        refine tq_getI 12 dX3_putByte_41 cfX3 (by decide) wd_204 rfl rfl (fun x9 => ?_)
        refine tq_iconst (nI 1) dX3_putByte_44 (by decide) ?_
        refine tq_iadd dX3_putByte_45 ?_
        refine tq_putI 12 dX3_putByte_46 cfX3 (by decide) wd_204 rfl rfl (Or.inl rfl) (fun h10 => ?_)
        refine tq_iconst (nI 1) dX3_putByte_49 (by decide) ?_
        exact tq_zret rfl dX3_putByte_50
      · exact tq_sub [] rfl (tX3_putByte_26 G h)
noncomputable def fX3_putByte (v0 : Option Nat) (v1 : Int32) (h : AH) : Option (Int32 × AH) := fX3_putByte_0 v0 v1 h
theorem eX3_putByte (G : sr_G) (v0 : Option Nat) (v1 : Int32) (h : AH) : sr_E G 0 yX3_putByte cX3_putByte 2 (some .boolean) jI [vR v0, vI v1] h (fX3_putByte v0 v1 h) := sr_E.of (own := RX3) (ini := false) (by decide) rfl (fun q => by first | rfl | cases q) rfl (Nat.le_of_ble_eq_true rfl) (tX3_putByte_0 G v0 v1 h)
noncomputable def fX3_takeBytes_27   (h : AH) : Option (Unit × AH) := some ((), h)
theorem tX3_takeBytes_27 (G : sr_G)  (h : AH) : sr_T (X := Unit) G 1 RX3 cX3_takeBytes 4 none false (sr_M G jV) 27 [] [] h (fX3_takeBytes_27  h) := by
  unfold fX3_takeBytes_27
  exact tq_vret rfl dX3_takeBytes_27
noncomputable def fX3_takeBytes_2  : Nat → Option Nat → Option Nat → Int32 → Int32 → AH → Option (Unit × AH)
  | 0, _, _, _, _, _ => none
  | n + 1, v0, v1, v2, v3, h => if v2 ≤ v3 then (fX3_takeBytes_27 h) else (cAN h 1 v1 fun x1 => if x1 ≤ v3 then (fX3_takeBytes_27 h) else (cAL h 1 v1 v3 fun x2 => cCV h 3 v0 (fX3_putByte v0 x2 h) fun x4 h3 => fX3_takeBytes_2 n v0 v1 v2 (v3 + (nI 1)) h3))
theorem tX3_takeBytes_2 (G : sr_G) : ∀ (n : Nat) (v0 : Option Nat) (v1 : Option Nat) (v2 : Int32) (v3 : Int32) (h : AH), sr_T (X := Unit) G 1 RX3 cX3_takeBytes 4 none false (sr_M G jV) 2 [(0, vR v0), (1, vR v1), (2, vI v2), (3, vI v3)] [] h (fX3_takeBytes_2  n v0 v1 v2 v3 h) := by
  intro n
  induction n with
  | zero => intro v0 v1 v2 v3 h; exact tq_none
  | succ n ih =>
    intro v0 v1 v2 v3 h
    unfold fX3_takeBytes_2
    refine tq_iload_n 3 3 dX3_takeBytes_2 rfl rfl ?_
    refine tq_iload_n 2 2 dX3_takeBytes_3 rfl rfl ?_
    refine tq_icmp_ge 27 dX3_takeBytes_4 (by decide) (fun _ => ?_) (fun _ => ?_)
    · exact tq_sub [] rfl (tX3_takeBytes_27 G h)
    · refine tq_iload_n 3 3 dX3_takeBytes_7 rfl rfl ?_
      refine tq_aload_n 1 1 dX3_takeBytes_8 rfl rfl ?_
      refine tq_alen (by decide) dX3_takeBytes_9 (fun x1 => ?_)
      refine tq_icmp_ge 27 dX3_takeBytes_10 (by decide) (fun _ => ?_) (fun _ => ?_)
      · exact tq_sub [] rfl (tX3_takeBytes_27 G h)
      · refine tq_aload_n 0 0 dX3_takeBytes_13 rfl rfl ?_
        refine tq_aload_n 1 1 dX3_takeBytes_14 rfl rfl ?_
        refine tq_iload_n 3 3 dX3_takeBytes_15 rfl rfl ?_
        refine tq_bald dX3_takeBytes_16 (fun x2 => ?_)
        refine tq_cVI [vI x2] [] dX3_takeBytes_17 (eX3_putByte G v0 x2 h) (by decide) mbX3_putByte cfX3 rfl wd_773 wd_476 wd_477 rfl rfl (Nat.le_of_ble_eq_true rfl) (fun x4 h3 => ?_)
        refine tq_popI dX3_takeBytes_20 ?_
        refine tq_iinc 3 (nI 1) (L' := [(3, vI (v3 + (nI 1))), (0, vR v0), (1, vR v1), (2, vI v2)]) dX3_takeBytes_21 rfl (by decide) (by decide) rfl ?_
        refine tq_goto 2 dX3_takeBytes_24 (by decide) ?_
        exact tq_sub [1, 2, 3, 0] rfl (ih v0 v1 v2 (v3 + (nI 1)) h3)
noncomputable def fX3_takeBytes_0  (v0 : Option Nat) (v1 : Option Nat) (v2 : Int32) (h : AH) : Option (Unit × AH) := fX3_takeBytes_2 FU v0 v1 v2 (nI 0) h
theorem tX3_takeBytes_0 (G : sr_G) (v0 : Option Nat) (v1 : Option Nat) (v2 : Int32) (h : AH) : sr_T (X := Unit) G 1 RX3 cX3_takeBytes 4 none false (sr_M G jV) 0 [(0, vR v0), (1, vR v1), (2, vI v2)] [] h (fX3_takeBytes_0  v0 v1 v2 h) := by
  unfold fX3_takeBytes_0
  refine tq_iconst (nI 0) dX3_takeBytes_0 (by decide) ?_
  refine tq_istore_n 3 (L' := [(3, vI (nI 0)), (0, vR v0), (1, vR v1), (2, vI v2)]) dX3_takeBytes_1 rfl (by decide) rfl ?_
  exact tq_sub [1, 2, 3, 0] rfl (tX3_takeBytes_2 G FU v0 v1 v2 (nI 0) h)
noncomputable def fX3_takeBytes (v0 : Option Nat) (v1 : Option Nat) (v2 : Int32) (h : AH) : Option (Unit × AH) := fX3_takeBytes_0 v0 v1 v2 h
theorem eX3_takeBytes (G : sr_G) (v0 : Option Nat) (v1 : Option Nat) (v2 : Int32) (h : AH) : sr_E G 1 yX3_takeBytes cX3_takeBytes 4 none jV [vR v0, vR v1, vI v2] h (fX3_takeBytes v0 v1 v2 h) := sr_E.of (own := RX3) (ini := false) (by decide) rfl (fun q => by first | rfl | cases q) rfl (Nat.le_of_ble_eq_true rfl) (tX3_takeBytes_0 G v0 v1 v2 h)
noncomputable def fX3_linkLast_46  (v0 : Option Nat) (v1 : Option Nat) (h : AH) : Option (Unit × AH) := cPR h 3 160 v0 v1 fun h1 => some ((), h1)
theorem tX3_linkLast_46 (G : sr_G) (v0 : Option Nat) (v1 : Option Nat) (h : AH) : sr_T (X := Unit) G 0 RX3 cX3_linkLast 2 none false (sr_M G jV) 46 [(0, vR v0), (1, vR v1)] [] h (fX3_linkLast_46  v0 v1 h) := by
  unfold fX3_linkLast_46
  refine tq_aload_n 0 0 dX3_linkLast_46 rfl rfl ?_
  refine tq_aload_n 1 1 dX3_linkLast_47 rfl rfl ?_
  refine tq_putR 10 dX3_linkLast_48 cfX3 (by decide) wd_199 rfl rfl (Or.inl rfl) (fun h1 => ?_)
  exact tq_vret rfl dX3_linkLast_51
noncomputable def fX3_linkLast_0  (v0 : Option Nat) (v1 : Option Nat) (h : AH) : Option (Unit × AH) := cPR h 3 156 v1 v0 fun h1 => cGI h1 3 155 v0 fun x2 => cPI h1 3 155 v1 (x2 + (nI 1)) fun h3 => cGR h3 3 160 v0 fun x4 => cPR h3 3 157 v1 x4 fun h5 => cGR h5 3 160 v0 fun x6 => if x6 = none then (cPR h5 3 159 v0 v1 fun h9 => fX3_linkLast_46 v0 v1 h9) else (cGR h5 3 160 v0 fun x7 => cPR h5 3 158 x7 v1 fun h8 => fX3_linkLast_46 v0 v1 h8)
theorem tX3_linkLast_0 (G : sr_G) (v0 : Option Nat) (v1 : Option Nat) (h : AH) : sr_T (X := Unit) G 0 RX3 cX3_linkLast 2 none false (sr_M G jV) 0 [(0, vR v0), (1, vR v1)] [] h (fX3_linkLast_0  v0 v1 h) := by
  unfold fX3_linkLast_0
  refine tq_aload_n 1 1 dX3_linkLast_0 rfl rfl ?_
  refine tq_aload_n 0 0 dX3_linkLast_1 rfl rfl ?_
  refine tq_putR 6 dX3_linkLast_2 cfX3 (by decide) wd_190 rfl rfl (Or.inl rfl) (fun h1 => ?_)
  refine tq_aload_n 1 1 dX3_linkLast_5 rfl rfl ?_
  refine tq_aload_n 0 0 dX3_linkLast_6 rfl rfl ?_
  refine tq_getI 5 dX3_linkLast_7 cfX3 (by decide) wd_187 rfl rfl (fun x2 => ?_)
  refine tq_iconst (nI 1) dX3_linkLast_10 (by decide) ?_
  refine tq_iadd dX3_linkLast_11 ?_
  refine tq_putI 5 dX3_linkLast_12 cfX3 (by decide) wd_187 rfl rfl (Or.inl rfl) (fun h3 => ?_)
  refine tq_aload_n 1 1 dX3_linkLast_15 rfl rfl ?_
  refine tq_aload_n 0 0 dX3_linkLast_16 rfl rfl ?_
  refine tq_getR 10 dX3_linkLast_17 cfX3 (by decide) wd_199 rfl rfl (fun x4 => ?_)
  refine tq_putR 7 dX3_linkLast_20 cfX3 (by decide) wd_192 rfl rfl (Or.inl rfl) (fun h5 => ?_)
  refine tq_aload_n 0 0 dX3_linkLast_23 rfl rfl ?_
  refine tq_getR 10 dX3_linkLast_24 cfX3 (by decide) wd_199 rfl rfl (fun x6 => ?_)
  refine tq_ifnonnull 38 dX3_linkLast_27 (by decide) (fun _ => ?_) (fun _ => ?_)
  · refine tq_aload_n 0 0 dX3_linkLast_38 rfl rfl ?_
    refine tq_getR 10 dX3_linkLast_39 cfX3 (by decide) wd_199 rfl rfl (fun x7 => ?_)
    refine tq_aload_n 1 1 dX3_linkLast_42 rfl rfl ?_
    refine tq_putR 8 dX3_linkLast_43 cfX3 (by decide) wd_193 rfl rfl (Or.inl rfl) (fun h8 => ?_)
    exact tX3_linkLast_46 G v0 v1 h8
  · refine tq_aload_n 0 0 dX3_linkLast_30 rfl rfl ?_
    refine tq_aload_n 1 1 dX3_linkLast_31 rfl rfl ?_
    refine tq_putR 9 dX3_linkLast_32 cfX3 (by decide) wd_196 rfl rfl (Or.inl rfl) (fun h9 => ?_)
    refine tq_goto 46 dX3_linkLast_35 (by decide) ?_
    exact tX3_linkLast_46 G v0 v1 h9
noncomputable def fX3_linkLast (v0 : Option Nat) (v1 : Option Nat) (h : AH) : Option (Unit × AH) := fX3_linkLast_0 v0 v1 h
theorem eX3_linkLast (G : sr_G) (v0 : Option Nat) (v1 : Option Nat) (h : AH) : sr_E G 0 yX3_linkLast cX3_linkLast 2 none jV [vR v0, vR v1] h (fX3_linkLast v0 v1 h) := sr_E.of (own := RX3) (ini := false) (by decide) rfl (fun q => by first | rfl | cases q) rfl (Nat.le_of_ble_eq_true rfl) (tX3_linkLast_0 G v0 v1 h)
noncomputable def fX3_unlink_78   (h : AH) : Option (Unit × AH) := some ((), h)
theorem tX3_unlink_78 (G : sr_G)  (h : AH) : sr_T (X := Unit) G 0 RX3 cX3_unlink 1 none false (sr_M G jV) 78 [] [] h (fX3_unlink_78  h) := by
  unfold fX3_unlink_78
  exact tq_vret rfl dX3_unlink_78
noncomputable def fX3_unlink_39  (v0 : Option Nat) (h : AH) : Option (Unit × AH) := cGR h 3 158 v0 fun x1 => if x1 = none then (cGR h 3 156 v0 fun x2 => if x2 = none then (fX3_unlink_78 h) else (cGR h 3 156 v0 fun x3 => cGR h 3 157 v0 fun x4 => cPR h 3 160 x3 x4 fun h5 => fX3_unlink_78 h5)) else (cGR h 3 158 v0 fun x6 => cGR h 3 157 v0 fun x7 => cPR h 3 157 x6 x7 fun h8 => fX3_unlink_78 h8)
theorem tX3_unlink_39 (G : sr_G) (v0 : Option Nat) (h : AH) : sr_T (X := Unit) G 0 RX3 cX3_unlink 1 none false (sr_M G jV) 39 [(0, vR v0)] [] h (fX3_unlink_39  v0 h) := by
  unfold fX3_unlink_39
  refine tq_aload_n 0 0 dX3_unlink_39 rfl rfl ?_
  refine tq_getR 8 dX3_unlink_40 cfX3 (by decide) wd_193 rfl rfl (fun x1 => ?_)
  refine tq_ifnull 60 dX3_unlink_43 (by decide) (fun _ => ?_) (fun _ => ?_)
  · refine tq_aload_n 0 0 dX3_unlink_60 rfl rfl ?_
    refine tq_getR 6 dX3_unlink_61 cfX3 (by decide) wd_190 rfl rfl (fun x2 => ?_)
    refine tq_ifnull 78 dX3_unlink_64 (by decide) (fun _ => ?_) (fun _ => ?_)
    · exact tq_sub [] rfl (tX3_unlink_78 G h)
    · refine tq_aload_n 0 0 dX3_unlink_67 rfl rfl ?_
      refine tq_getR 6 dX3_unlink_68 cfX3 (by decide) wd_190 rfl rfl (fun x3 => ?_)
      refine tq_aload_n 0 0 dX3_unlink_71 rfl rfl ?_
      refine tq_getR 7 dX3_unlink_72 cfX3 (by decide) wd_192 rfl rfl (fun x4 => ?_)
      refine tq_putR 10 dX3_unlink_75 cfX3 (by decide) wd_199 rfl rfl (Or.inl rfl) (fun h5 => ?_)
      exact tq_sub [] rfl (tX3_unlink_78 G h5)
  · refine tq_aload_n 0 0 dX3_unlink_46 rfl rfl ?_
    refine tq_getR 8 dX3_unlink_47 cfX3 (by decide) wd_193 rfl rfl (fun x6 => ?_)
    refine tq_aload_n 0 0 dX3_unlink_50 rfl rfl ?_
    refine tq_getR 7 dX3_unlink_51 cfX3 (by decide) wd_192 rfl rfl (fun x7 => ?_)
    refine tq_putR 7 dX3_unlink_54 cfX3 (by decide) wd_192 rfl rfl (Or.inl rfl) (fun h8 => ?_)
    refine tq_goto 78 dX3_unlink_57 (by decide) ?_
    exact tq_sub [] rfl (tX3_unlink_78 G h8)
noncomputable def fX3_unlink_0  (v0 : Option Nat) (h : AH) : Option (Unit × AH) := cGR h 3 157 v0 fun x1 => if x1 = none then (cGR h 3 156 v0 fun x2 => if x2 = none then (fX3_unlink_39 v0 h) else (cGR h 3 156 v0 fun x3 => cGR h 3 158 v0 fun x4 => cPR h 3 159 x3 x4 fun h5 => fX3_unlink_39 v0 h5)) else (cGR h 3 157 v0 fun x6 => cGR h 3 158 v0 fun x7 => cPR h 3 158 x6 x7 fun h8 => fX3_unlink_39 v0 h8)
theorem tX3_unlink_0 (G : sr_G) (v0 : Option Nat) (h : AH) : sr_T (X := Unit) G 0 RX3 cX3_unlink 1 none false (sr_M G jV) 0 [(0, vR v0)] [] h (fX3_unlink_0  v0 h) := by
  unfold fX3_unlink_0
  refine tq_aload_n 0 0 dX3_unlink_0 rfl rfl ?_
  refine tq_getR 7 dX3_unlink_1 cfX3 (by decide) wd_192 rfl rfl (fun x1 => ?_)
  refine tq_ifnull 21 dX3_unlink_4 (by decide) (fun _ => ?_) (fun _ => ?_)
  · refine tq_aload_n 0 0 dX3_unlink_21 rfl rfl ?_
    refine tq_getR 6 dX3_unlink_22 cfX3 (by decide) wd_190 rfl rfl (fun x2 => ?_)
    refine tq_ifnull 39 dX3_unlink_25 (by decide) (fun _ => ?_) (fun _ => ?_)
    · exact tX3_unlink_39 G v0 h
    · refine tq_aload_n 0 0 dX3_unlink_28 rfl rfl ?_
      refine tq_getR 6 dX3_unlink_29 cfX3 (by decide) wd_190 rfl rfl (fun x3 => ?_)
      refine tq_aload_n 0 0 dX3_unlink_32 rfl rfl ?_
      refine tq_getR 8 dX3_unlink_33 cfX3 (by decide) wd_193 rfl rfl (fun x4 => ?_)
      refine tq_putR 9 dX3_unlink_36 cfX3 (by decide) wd_196 rfl rfl (Or.inl rfl) (fun h5 => ?_)
      exact tX3_unlink_39 G v0 h5
  · refine tq_aload_n 0 0 dX3_unlink_7 rfl rfl ?_
    refine tq_getR 7 dX3_unlink_8 cfX3 (by decide) wd_192 rfl rfl (fun x6 => ?_)
    refine tq_aload_n 0 0 dX3_unlink_11 rfl rfl ?_
    refine tq_getR 8 dX3_unlink_12 cfX3 (by decide) wd_193 rfl rfl (fun x7 => ?_)
    refine tq_putR 8 dX3_unlink_15 cfX3 (by decide) wd_193 rfl rfl (Or.inl rfl) (fun h8 => ?_)
    refine tq_goto 39 dX3_unlink_18 (by decide) ?_
    exact tX3_unlink_39 G v0 h8
noncomputable def fX3_unlink (v0 : Option Nat) (h : AH) : Option (Unit × AH) := fX3_unlink_0 v0 h
theorem eX3_unlink (G : sr_G) (v0 : Option Nat) (h : AH) : sr_E G 0 yX3_unlink cX3_unlink 1 none jV [vR v0] h (fX3_unlink v0 h) := sr_E.of (own := RX3) (ini := false) (by decide) rfl (fun q => by first | rfl | cases q) rfl (Nat.le_of_ble_eq_true rfl) (tX3_unlink_0 G v0 h)
noncomputable def fX3_kidCount_22  (v1 : Int32) (h : AH) : Option (Int32 × AH) := some (v1, h)
theorem tX3_kidCount_22 (G : sr_G) (v1 : Int32) (h : AH) : sr_T (X := Int32) G 0 RX3 cX3_kidCount 3 (some .int) false (sr_M G jI) 22 [(1, vI v1)] [] h (fX3_kidCount_22  v1 h) := by
  unfold fX3_kidCount_22
  refine tq_iload_n 1 0 dX3_kidCount_22 rfl rfl ?_
  exact tq_iret rfl dX3_kidCount_23
noncomputable def fX3_kidCount_7  : Nat → Int32 → Option Nat → AH → Option (Int32 × AH)
  | 0, _, _, _ => none
  | n + 1, v1, v2, h => if v2 = none then (fX3_kidCount_22 v1 h) else (cGR h 3 158 v2 fun x1 => fX3_kidCount_7 n (v1 + (nI 1)) x1 h)
theorem tX3_kidCount_7 (G : sr_G) : ∀ (n : Nat) (v1 : Int32) (v2 : Option Nat) (h : AH), sr_T (X := Int32) G 0 RX3 cX3_kidCount 3 (some .int) false (sr_M G jI) 7 [(1, vI v1), (2, vR v2)] [] h (fX3_kidCount_7  n v1 v2 h) := by
  intro n
  induction n with
  | zero => intro v1 v2 h; exact tq_none
  | succ n ih =>
    intro v1 v2 h
    unfold fX3_kidCount_7
    refine tq_aload_n 2 1 dX3_kidCount_7 rfl rfl ?_
    refine tq_ifnull 22 dX3_kidCount_8 (by decide) (fun _ => ?_) (fun _ => ?_)
    · exact tq_sub [0] rfl (tX3_kidCount_22 G v1 h)
    · refine tq_iinc 0 (nI 1) (L' := [(1, vI (v1 + (nI 1))), (2, vR v2)]) dX3_kidCount_11 rfl (by decide) (by decide) rfl ?_
      refine tq_aload_n 2 1 dX3_kidCount_14 rfl rfl ?_
      refine tq_getR 8 dX3_kidCount_15 cfX3 (by decide) wd_193 rfl rfl (fun x1 => ?_)
      refine tq_astore_n 2 (L' := [(2, vR x1), (1, vI (v1 + (nI 1)))]) dX3_kidCount_18 rfl (by decide) rfl ?_
      refine tq_goto 7 dX3_kidCount_19 (by decide) ?_
      exact tq_sub [1, 0] rfl (ih (v1 + (nI 1)) x1 h)
noncomputable def fX3_kidCount_0  (v0 : Option Nat) (h : AH) : Option (Int32 × AH) := cGR h 3 159 v0 fun x1 => fX3_kidCount_7 FU (nI 0) x1 h
theorem tX3_kidCount_0 (G : sr_G) (v0 : Option Nat) (h : AH) : sr_T (X := Int32) G 0 RX3 cX3_kidCount 3 (some .int) false (sr_M G jI) 0 [(0, vR v0)] [] h (fX3_kidCount_0  v0 h) := by
  unfold fX3_kidCount_0
  refine tq_iconst (nI 0) dX3_kidCount_0 (by decide) ?_
  refine tq_istore_n 1 (L' := [(1, vI (nI 0)), (0, vR v0)]) dX3_kidCount_1 rfl (by decide) rfl ?_
  refine tq_aload_n 0 1 dX3_kidCount_2 rfl rfl ?_
  refine tq_getR 9 dX3_kidCount_3 cfX3 (by decide) wd_196 rfl rfl (fun x1 => ?_)
  refine tq_astore_n 2 (L' := [(2, vR x1), (1, vI (nI 0)), (0, vR v0)]) dX3_kidCount_6 rfl (by decide) rfl ?_
  exact tq_sub [1, 0] rfl (tX3_kidCount_7 G FU (nI 0) x1 h)
noncomputable def fX3_kidCount (v0 : Option Nat) (h : AH) : Option (Int32 × AH) := fX3_kidCount_0 v0 h
theorem eX3_kidCount (G : sr_G) (v0 : Option Nat) (h : AH) : sr_E G 0 yX3_kidCount cX3_kidCount 3 (some .int) jI [vR v0] h (fX3_kidCount v0 h) := sr_E.of (own := RX3) (ini := false) (by decide) rfl (fun q => by first | rfl | cases q) rfl (Nat.le_of_ble_eq_true rfl) (tX3_kidCount_0 G v0 h)
noncomputable def fX3_rank_22  (v1 : Int32) (h : AH) : Option (Int32 × AH) := some (v1, h)
theorem tX3_rank_22 (G : sr_G) (v1 : Int32) (h : AH) : sr_T (X := Int32) G 0 RX3 cX3_rank 3 (some .int) false (sr_M G jI) 22 [(1, vI v1)] [] h (fX3_rank_22  v1 h) := by
  unfold fX3_rank_22
  refine tq_iload_n 1 0 dX3_rank_22 rfl rfl ?_
  exact tq_iret rfl dX3_rank_23
noncomputable def fX3_rank_7  : Nat → Int32 → Option Nat → AH → Option (Int32 × AH)
  | 0, _, _, _ => none
  | n + 1, v1, v2, h => if v2 = none then (fX3_rank_22 v1 h) else (cGR h 3 157 v2 fun x1 => fX3_rank_7 n (v1 + (nI 1)) x1 h)
theorem tX3_rank_7 (G : sr_G) : ∀ (n : Nat) (v1 : Int32) (v2 : Option Nat) (h : AH), sr_T (X := Int32) G 0 RX3 cX3_rank 3 (some .int) false (sr_M G jI) 7 [(1, vI v1), (2, vR v2)] [] h (fX3_rank_7  n v1 v2 h) := by
  intro n
  induction n with
  | zero => intro v1 v2 h; exact tq_none
  | succ n ih =>
    intro v1 v2 h
    unfold fX3_rank_7
    refine tq_aload_n 2 1 dX3_rank_7 rfl rfl ?_
    refine tq_ifnull 22 dX3_rank_8 (by decide) (fun _ => ?_) (fun _ => ?_)
    · exact tq_sub [0] rfl (tX3_rank_22 G v1 h)
    · refine tq_iinc 0 (nI 1) (L' := [(1, vI (v1 + (nI 1))), (2, vR v2)]) dX3_rank_11 rfl (by decide) (by decide) rfl ?_
      refine tq_aload_n 2 1 dX3_rank_14 rfl rfl ?_
      refine tq_getR 7 dX3_rank_15 cfX3 (by decide) wd_192 rfl rfl (fun x1 => ?_)
      refine tq_astore_n 2 (L' := [(2, vR x1), (1, vI (v1 + (nI 1)))]) dX3_rank_18 rfl (by decide) rfl ?_
      refine tq_goto 7 dX3_rank_19 (by decide) ?_
      exact tq_sub [1, 0] rfl (ih (v1 + (nI 1)) x1 h)
noncomputable def fX3_rank_0  (v0 : Option Nat) (h : AH) : Option (Int32 × AH) := cGR h 3 157 v0 fun x1 => fX3_rank_7 FU (nI 0) x1 h
theorem tX3_rank_0 (G : sr_G) (v0 : Option Nat) (h : AH) : sr_T (X := Int32) G 0 RX3 cX3_rank 3 (some .int) false (sr_M G jI) 0 [(0, vR v0)] [] h (fX3_rank_0  v0 h) := by
  unfold fX3_rank_0
  refine tq_iconst (nI 0) dX3_rank_0 (by decide) ?_
  refine tq_istore_n 1 (L' := [(1, vI (nI 0)), (0, vR v0)]) dX3_rank_1 rfl (by decide) rfl ?_
  refine tq_aload_n 0 1 dX3_rank_2 rfl rfl ?_
  refine tq_getR 7 dX3_rank_3 cfX3 (by decide) wd_192 rfl rfl (fun x1 => ?_)
  refine tq_astore_n 2 (L' := [(2, vR x1), (1, vI (nI 0)), (0, vR v0)]) dX3_rank_6 rfl (by decide) rfl ?_
  exact tq_sub [1, 0] rfl (tX3_rank_7 G FU (nI 0) x1 h)
noncomputable def fX3_rank (v0 : Option Nat) (h : AH) : Option (Int32 × AH) := fX3_rank_0 v0 h
theorem eX3_rank (G : sr_G) (v0 : Option Nat) (h : AH) : sr_E G 0 yX3_rank cX3_rank 3 (some .int) jI [vR v0] h (fX3_rank v0 h) := sr_E.of (own := RX3) (ini := false) (by decide) rfl (fun q => by first | rfl | cases q) rfl (Nat.le_of_ble_eq_true rfl) (tX3_rank_0 G v0 h)
noncomputable def fX3_nextInTree_38   (h : AH) : Option (Option Nat × AH) := some (none, h)
theorem tX3_nextInTree_38 (G : sr_G)  (h : AH) : sr_T (X := Option Nat) G 0 RX3 cX3_nextInTree 2 (some (.object "SoupReader$Node")) false (sr_M G jR) 38 [] [] h (fX3_nextInTree_38  h) := by
  unfold fX3_nextInTree_38
  refine tq_null dX3_nextInTree_38 ?_
  exact tq_aret rfl dX3_nextInTree_39
noncomputable def fX3_nextInTree_25  (v1 : Option Nat) (h : AH) : Option (Option Nat × AH) := cGR h 3 158 v1 fun x1 => some (x1, h)
theorem tX3_nextInTree_25 (G : sr_G) (v1 : Option Nat) (h : AH) : sr_T (X := Option Nat) G 0 RX3 cX3_nextInTree 2 (some (.object "SoupReader$Node")) false (sr_M G jR) 25 [(1, vR v1)] [] h (fX3_nextInTree_25  v1 h) := by
  unfold fX3_nextInTree_25
  refine tq_aload_n 1 0 dX3_nextInTree_25 rfl rfl ?_
  refine tq_getR 8 dX3_nextInTree_26 cfX3 (by decide) wd_193 rfl rfl (fun x1 => ?_)
  exact tq_aret rfl dX3_nextInTree_29
noncomputable def fX3_nextInTree_14  : Nat → Option Nat → AH → Option (Option Nat × AH)
  | 0, _, _ => none
  | n + 1, v1, h => if v1 = none then (fX3_nextInTree_38 h) else (cGR h 3 158 v1 fun x1 => if x1 = none then (cGR h 3 156 v1 fun x2 => fX3_nextInTree_14 n x2 h) else (fX3_nextInTree_25 v1 h))
theorem tX3_nextInTree_14 (G : sr_G) : ∀ (n : Nat) (v1 : Option Nat) (h : AH), sr_T (X := Option Nat) G 0 RX3 cX3_nextInTree 2 (some (.object "SoupReader$Node")) false (sr_M G jR) 14 [(1, vR v1)] [] h (fX3_nextInTree_14  n v1 h) := by
  intro n
  induction n with
  | zero => intro v1 h; exact tq_none
  | succ n ih =>
    intro v1 h
    unfold fX3_nextInTree_14
    refine tq_aload_n 1 0 dX3_nextInTree_14 rfl rfl ?_
    refine tq_ifnull 38 dX3_nextInTree_15 (by decide) (fun _ => ?_) (fun _ => ?_)
    · exact tq_sub [] rfl (tX3_nextInTree_38 G h)
    · refine tq_aload_n 1 0 dX3_nextInTree_18 rfl rfl ?_
      refine tq_getR 8 dX3_nextInTree_19 cfX3 (by decide) wd_193 rfl rfl (fun x1 => ?_)
      refine tq_ifnull 30 dX3_nextInTree_22 (by decide) (fun _ => ?_) (fun _ => ?_)
      · refine tq_aload_n 1 0 dX3_nextInTree_30 rfl rfl ?_
        refine tq_getR 6 dX3_nextInTree_31 cfX3 (by decide) wd_190 rfl rfl (fun x2 => ?_)
        refine tq_astore_n 1 (L' := [(1, vR x2)]) dX3_nextInTree_34 rfl (by decide) rfl ?_
        refine tq_goto 14 dX3_nextInTree_35 (by decide) ?_
        exact ih x2 h
      · exact tX3_nextInTree_25 G v1 h
noncomputable def fX3_nextInTree_0  (v0 : Option Nat) (h : AH) : Option (Option Nat × AH) := cGR h 3 159 v0 fun x1 => if x1 = none then (fX3_nextInTree_14 FU v0 h) else (cGR h 3 159 v0 fun x2 => some (x2, h))
theorem tX3_nextInTree_0 (G : sr_G) (v0 : Option Nat) (h : AH) : sr_T (X := Option Nat) G 0 RX3 cX3_nextInTree 2 (some (.object "SoupReader$Node")) false (sr_M G jR) 0 [(0, vR v0)] [] h (fX3_nextInTree_0  v0 h) := by
  unfold fX3_nextInTree_0
  refine tq_aload_n 0 0 dX3_nextInTree_0 rfl rfl ?_
  refine tq_getR 9 dX3_nextInTree_1 cfX3 (by decide) wd_196 rfl rfl (fun x1 => ?_)
  refine tq_ifnull 12 dX3_nextInTree_4 (by decide) (fun _ => ?_) (fun _ => ?_)
  · refine tq_aload_n 0 0 dX3_nextInTree_12 rfl rfl ?_
    refine tq_astore_n 1 (L' := [(1, vR v0), (0, vR v0)]) dX3_nextInTree_13 rfl (by decide) rfl ?_
    exact tq_sub [0] rfl (tX3_nextInTree_14 G FU v0 h)
  · refine tq_aload_n 0 0 dX3_nextInTree_7 rfl rfl ?_
    refine tq_getR 9 dX3_nextInTree_8 cfX3 (by decide) wd_196 rfl rfl (fun x2 => ?_)
    exact tq_aret rfl dX3_nextInTree_11
noncomputable def fX3_nextInTree (v0 : Option Nat) (h : AH) : Option (Option Nat × AH) := fX3_nextInTree_0 v0 h
theorem eX3_nextInTree (G : sr_G) (v0 : Option Nat) (h : AH) : sr_E G 0 yX3_nextInTree cX3_nextInTree 2 (some (.object "SoupReader$Node")) jR [vR v0] h (fX3_nextInTree v0 h) := sr_E.of (own := RX3) (ini := false) (by decide) rfl (fun q => by first | rfl | cases q) rfl (Nat.le_of_ble_eq_true rfl) (tX3_nextInTree_0 G v0 h)
noncomputable def fX4_init_0  (v0 : Option Nat) (h : AH) : Option (Unit × AH) := cNN v0 <| cNA h 1 (nI 8000) fun x1 h2 => cPR h2 4 200 v0 x1 fun h3 => some ((), h3)
theorem tX4_init_0 (G : sr_G) (v0 : Option Nat) (h : AH) : sr_T (X := Unit) G 1 RX4 cX4_init 1 none true (sr_M G jV) 0 [(0, vR v0)] [] h (fX4_init_0  v0 h) := by
  unfold fX4_init_0
  refine tq_aload_n 0 0 dX4_init_0 rfl rfl ?_
  refine tq_objI dX4_init_1 (by decide) wd_114 wd_90 wd_91 (Nat.le_of_ble_eq_true rfl) ?_
  refine tq_aload_n 0 0 dX4_init_4 rfl rfl ?_
  refine tq_sipush (nI 8000) dX4_init_5 (by decide) ?_
  refine tq_newa dX4_init_8 (by decide) rfl wd_108 (fun x1 h2 => ?_)
  refine tq_putR 0 dX4_init_10 cfX4 (by decide) wd_115 rfl rfl (Or.inr ⟨rfl, rfl, rfl⟩) (fun h3 => ?_)
  exact tq_vret rfl dX4_init_13
noncomputable def fX4_init (v0 : Option Nat) (h : AH) : Option (Unit × AH) := fX4_init_0 v0 h
theorem eX4_init (G : sr_G) (v0 : Option Nat) (h : AH) : sr_E G 1 yX4_init cX4_init 1 none jV [vR v0] h (fX4_init v0 h) := sr_E.of (own := RX4) (ini := true) (by decide) rfl (fun q => by first | rfl | cases q) rfl (Nat.le_of_ble_eq_true rfl) (tX4_init_0 G v0 h)
noncomputable def fX4_byteAt_35  (s0 : Int32) (h : AH) : Option (Int32 × AH) := some (s0, h)
theorem tX4_byteAt_35 (G : sr_G) (s0 : Int32) (h : AH) : sr_T (X := Int32) G 0 RX4 cX4_byteAt 2 (some .int) false (sr_M G jI) 35 [] [vI s0] h (fX4_byteAt_35  s0 h) := by
  unfold fX4_byteAt_35
  exact tq_iret rfl dX4_byteAt_35
noncomputable def fX4_byteAt_34   (h : AH) : Option (Int32 × AH) := fX4_byteAt_35 (-1) h
theorem tX4_byteAt_34 (G : sr_G)  (h : AH) : sr_T (X := Int32) G 0 RX4 cX4_byteAt 2 (some .int) false (sr_M G jI) 34 [] [] h (fX4_byteAt_34  h) := by
  unfold fX4_byteAt_34
  refine tq_iconst (-1) dX4_byteAt_34 (by decide) ?_
  exact tX4_byteAt_35 G (-1) h
noncomputable def fX4_byteAt_0  (v0 : Option Nat) (v1 : Int32) (h : AH) : Option (Int32 × AH) := if v1 < 0 then (fX4_byteAt_34 h) else (cGI h 4 201 v0 fun x1 => if x1 ≤ v1 then (fX4_byteAt_34 h) else (cGR h 4 200 v0 fun x2 => cAN h 1 x2 fun x3 => if x3 ≤ v1 then (fX4_byteAt_34 h) else (cGR h 4 200 v0 fun x4 => cAL h 1 x4 v1 fun x5 => fX4_byteAt_35 (x5 &&& (nI 255)) h)))
theorem tX4_byteAt_0 (G : sr_G) (v0 : Option Nat) (v1 : Int32) (h : AH) : sr_T (X := Int32) G 0 RX4 cX4_byteAt 2 (some .int) false (sr_M G jI) 0 [(0, vR v0), (1, vI v1)] [] h (fX4_byteAt_0  v0 v1 h) := by
  unfold fX4_byteAt_0
  refine tq_iload_n 1 1 dX4_byteAt_0 rfl rfl ?_
  refine tq_if_lt 34 dX4_byteAt_1 (by decide) (fun _ => ?_) (fun _ => ?_)
  · exact tq_sub [] rfl (tX4_byteAt_34 G h)
  · refine tq_iload_n 1 1 dX4_byteAt_4 rfl rfl ?_
    refine tq_aload_n 0 0 dX4_byteAt_5 rfl rfl ?_
    refine tq_getI 1 dX4_byteAt_6 cfX4 (by decide) wd_116 rfl rfl (fun x1 => ?_)
    refine tq_icmp_ge 34 dX4_byteAt_9 (by decide) (fun _ => ?_) (fun _ => ?_)
    · exact tq_sub [] rfl (tX4_byteAt_34 G h)
    · refine tq_iload_n 1 1 dX4_byteAt_12 rfl rfl ?_
      refine tq_aload_n 0 0 dX4_byteAt_13 rfl rfl ?_
      refine tq_getR 0 dX4_byteAt_14 cfX4 (by decide) wd_115 rfl rfl (fun x2 => ?_)
      refine tq_alen (by decide) dX4_byteAt_17 (fun x3 => ?_)
      refine tq_icmp_ge 34 dX4_byteAt_18 (by decide) (fun _ => ?_) (fun _ => ?_)
      · exact tq_sub [] rfl (tX4_byteAt_34 G h)
      · refine tq_aload_n 0 0 dX4_byteAt_21 rfl rfl ?_
        refine tq_getR 0 dX4_byteAt_22 cfX4 (by decide) wd_115 rfl rfl (fun x4 => ?_)
        refine tq_iload_n 1 1 dX4_byteAt_25 rfl rfl ?_
        refine tq_bald dX4_byteAt_26 (fun x5 => ?_)
        refine tq_sipush (nI 255) dX4_byteAt_27 (by decide) ?_
        refine tq_iand dX4_byteAt_30 ?_
        refine tq_goto 35 dX4_byteAt_31 (by decide) ?_
        exact tq_sub [] rfl (tX4_byteAt_35 G (x5 &&& (nI 255)) h)
noncomputable def fX4_byteAt (v0 : Option Nat) (v1 : Int32) (h : AH) : Option (Int32 × AH) := fX4_byteAt_0 v0 v1 h
theorem eX4_byteAt (G : sr_G) (v0 : Option Nat) (v1 : Int32) (h : AH) : sr_E G 0 yX4_byteAt cX4_byteAt 2 (some .int) jI [vR v0, vI v1] h (fX4_byteAt v0 v1 h) := sr_E.of (own := RX4) (ini := false) (by decide) rfl (fun q => by first | rfl | cases q) rfl (Nat.le_of_ble_eq_true rfl) (tX4_byteAt_0 G v0 v1 h)
noncomputable def fX4_put_40   (h : AH) : Option (Unit × AH) := some ((), h)
theorem tX4_put_40 (G : sr_G)  (h : AH) : sr_T (X := Unit) G 0 RX4 cX4_put 2 none false (sr_M G jV) 40 [] [] h (fX4_put_40  h) := by
  unfold fX4_put_40
  exact tq_vret rfl dX4_put_40
noncomputable def fX4_put_0  (v0 : Option Nat) (v1 : Int32) (h : AH) : Option (Unit × AH) := cGI h 4 201 v0 fun x1 => if x1 < 0 then (fX4_put_40 h) else (cGI h 4 201 v0 fun x2 => cGR h 4 200 v0 fun x3 => cAN h 1 x3 fun x4 => if x4 ≤ x2 then (fX4_put_40 h) else (cGR h 4 200 v0 fun x5 => cGI h 4 201 v0 fun x6 => cAS h 1 x5 x6 (Int8.toInt32 (Int32.toInt8 v1)) fun h7 => cGI h7 4 201 v0 fun x8 => cPI h7 4 201 v0 (x8 + (nI 1)) fun h9 => fX4_put_40 h9))
theorem tX4_put_0 (G : sr_G) (v0 : Option Nat) (v1 : Int32) (h : AH) : sr_T (X := Unit) G 0 RX4 cX4_put 2 none false (sr_M G jV) 0 [(0, vR v0), (1, vI v1)] [] h (fX4_put_0  v0 v1 h) := by
  unfold fX4_put_0
  refine tq_aload_n 0 0 dX4_put_0 rfl rfl ?_
  refine tq_getI 1 dX4_put_1 cfX4 (by decide) wd_116 rfl rfl (fun x1 => ?_)
  refine tq_if_lt 40 dX4_put_4 (by decide) (fun _ => ?_) (fun _ => ?_)
  · exact tq_sub [] rfl (tX4_put_40 G h)
  · refine tq_aload_n 0 0 dX4_put_7 rfl rfl ?_
    refine tq_getI 1 dX4_put_8 cfX4 (by decide) wd_116 rfl rfl (fun x2 => ?_)
    refine tq_aload_n 0 0 dX4_put_11 rfl rfl ?_
    refine tq_getR 0 dX4_put_12 cfX4 (by decide) wd_115 rfl rfl (fun x3 => ?_)
    refine tq_alen (by decide) dX4_put_15 (fun x4 => ?_)
    refine tq_icmp_ge 40 dX4_put_16 (by decide) (fun _ => ?_) (fun _ => ?_)
    · exact tq_sub [] rfl (tX4_put_40 G h)
    · refine tq_aload_n 0 0 dX4_put_19 rfl rfl ?_
      refine tq_getR 0 dX4_put_20 cfX4 (by decide) wd_115 rfl rfl (fun x5 => ?_)
      refine tq_aload_n 0 0 dX4_put_23 rfl rfl ?_
      refine tq_getI 1 dX4_put_24 cfX4 (by decide) wd_116 rfl rfl (fun x6 => ?_)
      refine tq_iload_n 1 1 dX4_put_27 rfl rfl ?_
      refine tq_i2b dX4_put_28 ?_
      refine tq_bast dX4_put_29 (fun h7 => ?_)
      refine tq_aload_n 0 0 dX4_put_30 rfl rfl ?_
      refine tq_dupR dX4_put_31 ?_
      refine tq_getI 1 dX4_put_32 cfX4 (by decide) wd_116 rfl rfl (fun x8 => ?_)
      refine tq_iconst (nI 1) dX4_put_35 (by decide) ?_
      refine tq_iadd dX4_put_36 ?_
      refine tq_putI 1 dX4_put_37 cfX4 (by decide) wd_116 rfl rfl (Or.inl rfl) (fun h9 => ?_)
      exact tq_sub [] rfl (tX4_put_40 G h9)
noncomputable def fX4_put (v0 : Option Nat) (v1 : Int32) (h : AH) : Option (Unit × AH) := fX4_put_0 v0 v1 h
theorem eX4_put (G : sr_G) (v0 : Option Nat) (v1 : Int32) (h : AH) : sr_E G 0 yX4_put cX4_put 2 none jV [vR v0, vI v1] h (fX4_put v0 v1 h) := sr_E.of (own := RX4) (ini := false) (by decide) rfl (fun q => by first | rfl | cases q) rfl (Nat.le_of_ble_eq_true rfl) (tX4_put_0 G v0 v1 h)
noncomputable def fX4_putWord_25   (h : AH) : Option (Unit × AH) := some ((), h)
theorem tX4_putWord_25 (G : sr_G)  (h : AH) : sr_T (X := Unit) G 5 RX4 cX4_putWord 3 none false (sr_M G jV) 25 [] [] h (fX4_putWord_25  h) := by
  unfold fX4_putWord_25
  exact tq_vret rfl dX4_putWord_25
noncomputable def fX4_putWord_2  : Nat → Option Nat → Nat → Int32 → AH → Option (Unit × AH)
  | 0, _, _, _, _ => none
  | n + 1, v0, v1, v2, h => cSN h v1 fun x1 h2 => if x1 ≤ v2 then (fX4_putWord_25 h2) else (cSC h2 v1 v2 fun x3 h4 => cCV h4 4 v0 (fX4_put v0 x3 h4) fun _ h5 => fX4_putWord_2 n v0 v1 (v2 + (nI 1)) h5)
theorem tX4_putWord_2 (G : sr_G) : ∀ (n : Nat) (v0 : Option Nat) (v1 : Nat) (v2 : Int32) (h : AH), sr_T (X := Unit) G 5 RX4 cX4_putWord 3 none false (sr_M G jV) 2 [(0, vR v0), (1, vR (some (G.2.2.2.1 v1))), (2, vI v2)] [] h (fX4_putWord_2  n v0 v1 v2 h) := by
  intro n
  induction n with
  | zero => intro v0 v1 v2 h; exact tq_none
  | succ n ih =>
    intro v0 v1 v2 h
    unfold fX4_putWord_2
    refine tq_iload_n 2 2 dX4_putWord_2 rfl rfl ?_
    refine tq_aload_n 1 1 dX4_putWord_3 rfl rfl ?_
    refine tq_sN dX4_putWord_4 (by decide) wd_715 (Nat.le_of_ble_eq_true rfl) (fun x1 h2 => ?_)
    refine tq_icmp_ge 25 dX4_putWord_7 (by decide) (fun _ => ?_) (fun _ => ?_)
    · exact tq_sub [] rfl (tX4_putWord_25 G h2)
    · refine tq_aload_n 0 0 dX4_putWord_10 rfl rfl ?_
      refine tq_aload_n 1 1 dX4_putWord_11 rfl rfl ?_
      refine tq_iload_n 2 2 dX4_putWord_12 rfl rfl ?_
      refine tq_sC dX4_putWord_13 (by decide) wd_716 (Nat.le_of_ble_eq_true rfl) (fun x3 h4 => ?_)
      refine tq_cVV [vI x3] [] dX4_putWord_16 (eX4_put G v0 x3 h4) (by decide) mbX4_put cfX4 rfl wd_653 wd_654 wd_655 rfl rfl (Nat.le_of_ble_eq_true rfl) (fun _ h5 => ?_)
      refine tq_iinc 2 (nI 1) (L' := [(2, vI (v2 + (nI 1))), (0, vR v0), (1, vR (some (G.2.2.2.1 v1)))]) dX4_putWord_19 rfl (by decide) (by decide) rfl ?_
      refine tq_goto 2 dX4_putWord_22 (by decide) ?_
      exact tq_sub [1, 2, 0] rfl (ih v0 v1 (v2 + (nI 1)) h5)
noncomputable def fX4_putWord_0  (v0 : Option Nat) (v1 : Nat) (h : AH) : Option (Unit × AH) := fX4_putWord_2 FU v0 v1 (nI 0) h
theorem tX4_putWord_0 (G : sr_G) (v0 : Option Nat) (v1 : Nat) (h : AH) : sr_T (X := Unit) G 5 RX4 cX4_putWord 3 none false (sr_M G jV) 0 [(0, vR v0), (1, vR (some (G.2.2.2.1 v1)))] [] h (fX4_putWord_0  v0 v1 h) := by
  unfold fX4_putWord_0
  refine tq_iconst (nI 0) dX4_putWord_0 (by decide) ?_
  refine tq_istore_n 2 (L' := [(2, vI (nI 0)), (0, vR v0), (1, vR (some (G.2.2.2.1 v1)))]) dX4_putWord_1 rfl (by decide) rfl ?_
  exact tq_sub [1, 2, 0] rfl (tX4_putWord_2 G FU v0 v1 (nI 0) h)
noncomputable def fX4_putWord (v0 : Option Nat) (v1 : Nat) (h : AH) : Option (Unit × AH) := fX4_putWord_0 v0 v1 h
theorem eX4_putWord (G : sr_G) (v0 : Option Nat) (v1 : Nat) (h : AH) : sr_E G 5 yX4_putWord cX4_putWord 3 none jV [vR v0, vR (some (G.2.2.2.1 v1))] h (fX4_putWord v0 v1 h) := sr_E.of (own := RX4) (ini := false) (by decide) rfl (fun q => by first | rfl | cases q) rfl (Nat.le_of_ble_eq_true rfl) (tX4_putWord_0 G v0 v1 h)
noncomputable def fX4_putName_34   (h : AH) : Option (Unit × AH) := some ((), h)
theorem tX4_putName_34 (G : sr_G)  (h : AH) : sr_T (X := Unit) G 1 RX4 cX4_putName 5 none false (sr_M G jV) 34 [] [] h (fX4_putName_34  h) := by
  unfold fX4_putName_34
  exact tq_vret rfl dX4_putName_34
noncomputable def fX4_putName_28 (r3 : Option Nat → Int64 → Int32 → AH → Option (Unit × AH)) (v0 : Option Nat) (v1 : Int64) (v3 : Int32) (h : AH) : Option (Unit × AH) := r3 v0 v1 (v3 + (-8)) h
theorem tX4_putName_28 (G : sr_G) {r3 : Option Nat → Int64 → Int32 → AH → Option (Unit × AH)} (hr3 : ∀ (v0 : Option Nat) (v1 : Int64) (v3 : Int32) (h : AH), sr_T (X := Unit) G 1 RX4 cX4_putName 5 none false (sr_M G jV) 3 [(0, vR v0), (1, vL v1), (3, vI v3)] [] h (r3 v0 v1 v3 h)) (v0 : Option Nat) (v1 : Int64) (v3 : Int32) (h : AH) : sr_T (X := Unit) G 1 RX4 cX4_putName 5 none false (sr_M G jV) 28 [(0, vR v0), (1, vL v1), (3, vI v3)] [] h (fX4_putName_28 r3 v0 v1 v3 h) := by
  unfold fX4_putName_28
  refine tq_iinc 2 (-8) (L' := [(3, vI (v3 + (-8))), (0, vR v0), (1, vL v1)]) dX4_putName_28 rfl (by decide) (by decide) rfl ?_
  refine tq_goto 3 dX4_putName_31 (by decide) ?_
  exact tq_sub [1, 2, 0] rfl (hr3 v0 v1 (v3 + (-8)) h)
noncomputable def fX4_putName_3  : Nat → Option Nat → Int64 → Int32 → AH → Option (Unit × AH)
  | 0, _, _, _, _ => none
  | n + 1, v0, v1, v3, h => if v3 < 0 then (fX4_putName_34 h) else (if ((Int64.toInt32 ((Int64.toUInt64 v1 >>> ((Int32.toInt64 v3).toUInt64 &&& Int64.toUInt64 63)).toInt64)) &&& (nI 255)) = 0 then (fX4_putName_28 (fX4_putName_3 n) v0 v1 v3 h) else (cCV h 4 v0 (fX4_put v0 ((Int64.toInt32 ((Int64.toUInt64 v1 >>> ((Int32.toInt64 v3).toUInt64 &&& Int64.toUInt64 63)).toInt64)) &&& (nI 255)) h) fun _ h1 => fX4_putName_28 (fX4_putName_3 n) v0 v1 v3 h1))
theorem tX4_putName_3 (G : sr_G) : ∀ (n : Nat) (v0 : Option Nat) (v1 : Int64) (v3 : Int32) (h : AH), sr_T (X := Unit) G 1 RX4 cX4_putName 5 none false (sr_M G jV) 3 [(0, vR v0), (1, vL v1), (3, vI v3)] [] h (fX4_putName_3  n v0 v1 v3 h) := by
  intro n
  induction n with
  | zero => intro v0 v1 v3 h; exact tq_none
  | succ n ih =>
    intro v0 v1 v3 h
    unfold fX4_putName_3
    refine tq_iload_n 3 2 dX4_putName_3 rfl rfl ?_
    refine tq_if_lt 34 dX4_putName_4 (by decide) (fun _ => ?_) (fun _ => ?_)
    · exact tq_sub [] rfl (tX4_putName_34 G h)
    · refine tq_lload_n 1 1 dX4_putName_7 rfl rfl ?_
      refine tq_iload_n 3 2 dX4_putName_8 rfl rfl ?_
      refine tq_lushr dX4_putName_9 ?_
      refine tq_l2i dX4_putName_10 ?_
      refine tq_sipush (nI 255) dX4_putName_11 (by decide) ?_
      refine tq_iand dX4_putName_14 ?_
      refine tq_istore (L' := [(4, vI ((Int64.toInt32 ((Int64.toUInt64 v1 >>> ((Int32.toInt64 v3).toUInt64 &&& Int64.toUInt64 63)).toInt64)) &&& (nI 255))), (0, vR v0), (1, vL v1), (3, vI v3)]) dX4_putName_15 (by decide) rfl ?_
      refine tq_iload 0 dX4_putName_17 rfl ?_
      refine tq_if_eq 28 dX4_putName_19 (by decide) (fun _ => ?_) (fun _ => ?_)
      · exact tq_sub [1, 2, 3] rfl (tX4_putName_28 G ih v0 v1 v3 h)
      · refine tq_aload_n 0 1 dX4_putName_22 rfl rfl ?_
        refine tq_iload 0 dX4_putName_23 rfl ?_
        refine tq_cVV [vI ((Int64.toInt32 ((Int64.toUInt64 v1 >>> ((Int32.toInt64 v3).toUInt64 &&& Int64.toUInt64 63)).toInt64)) &&& (nI 255))] [] dX4_putName_25 (eX4_put G v0 ((Int64.toInt32 ((Int64.toUInt64 v1 >>> ((Int32.toInt64 v3).toUInt64 &&& Int64.toUInt64 63)).toInt64)) &&& (nI 255)) h) (by decide) mbX4_put cfX4 rfl wd_653 wd_654 wd_655 rfl rfl (Nat.le_of_ble_eq_true rfl) (fun _ h1 => ?_)
        exact tq_sub [1, 2, 3] rfl (tX4_putName_28 G ih v0 v1 v3 h1)
noncomputable def fX4_putName_0  (v0 : Option Nat) (v1 : Int64) (h : AH) : Option (Unit × AH) := fX4_putName_3 FU v0 v1 (nI 56) h
theorem tX4_putName_0 (G : sr_G) (v0 : Option Nat) (v1 : Int64) (h : AH) : sr_T (X := Unit) G 1 RX4 cX4_putName 5 none false (sr_M G jV) 0 [(0, vR v0), (1, vL v1)] [] h (fX4_putName_0  v0 v1 h) := by
  unfold fX4_putName_0
  refine tq_bipush (nI 56) dX4_putName_0 (by decide) ?_
  refine tq_istore_n 3 (L' := [(3, vI (nI 56)), (0, vR v0), (1, vL v1)]) dX4_putName_2 rfl (by decide) rfl ?_
  exact tq_sub [1, 2, 0] rfl (tX4_putName_3 G FU v0 v1 (nI 56) h)
noncomputable def fX4_putName (v0 : Option Nat) (v1 : Int64) (h : AH) : Option (Unit × AH) := fX4_putName_0 v0 v1 h
theorem eX4_putName (G : sr_G) (v0 : Option Nat) (v1 : Int64) (h : AH) : sr_E G 1 yX4_putName cX4_putName 5 none jV [vR v0, vL v1] h (fX4_putName v0 v1 h) := sr_E.of (own := RX4) (ini := false) (by decide) rfl (fun q => by first | rfl | cases q) rfl (Nat.le_of_ble_eq_true rfl) (tX4_putName_0 G v0 v1 h)
noncomputable def fX4_putBytes_31   (h : AH) : Option (Unit × AH) := some ((), h)
theorem tX4_putBytes_31 (G : sr_G)  (h : AH) : sr_T (X := Unit) G 1 RX4 cX4_putBytes 4 none false (sr_M G jV) 31 [] [] h (fX4_putBytes_31  h) := by
  unfold fX4_putBytes_31
  exact tq_vret rfl dX4_putBytes_31
noncomputable def fX4_putBytes_7  : Nat → Option Nat → Option Nat → Int32 → Int32 → AH → Option (Unit × AH)
  | 0, _, _, _, _, _ => none
  | n + 1, v0, v1, v2, v3, h => if v2 ≤ v3 then (fX4_putBytes_31 h) else (cAN h 1 v1 fun x1 => if x1 ≤ v3 then (fX4_putBytes_31 h) else (cAL h 1 v1 v3 fun x2 => cCV h 4 v0 (fX4_put v0 x2 h) fun _ h3 => fX4_putBytes_7 n v0 v1 v2 (v3 + (nI 1)) h3))
theorem tX4_putBytes_7 (G : sr_G) : ∀ (n : Nat) (v0 : Option Nat) (v1 : Option Nat) (v2 : Int32) (v3 : Int32) (h : AH), sr_T (X := Unit) G 1 RX4 cX4_putBytes 4 none false (sr_M G jV) 7 [(0, vR v0), (1, vR v1), (2, vI v2), (3, vI v3)] [] h (fX4_putBytes_7  n v0 v1 v2 v3 h) := by
  intro n
  induction n with
  | zero => intro v0 v1 v2 v3 h; exact tq_none
  | succ n ih =>
    intro v0 v1 v2 v3 h
    unfold fX4_putBytes_7
    refine tq_iload_n 3 3 dX4_putBytes_7 rfl rfl ?_
    refine tq_iload_n 2 2 dX4_putBytes_8 rfl rfl ?_
    refine tq_icmp_ge 31 dX4_putBytes_9 (by decide) (fun _ => ?_) (fun _ => ?_)
    · exact tq_sub [] rfl (tX4_putBytes_31 G h)
    · refine tq_iload_n 3 3 dX4_putBytes_12 rfl rfl ?_
      refine tq_aload_n 1 1 dX4_putBytes_13 rfl rfl ?_
      refine tq_alen (by decide) dX4_putBytes_14 (fun x1 => ?_)
      refine tq_icmp_ge 31 dX4_putBytes_15 (by decide) (fun _ => ?_) (fun _ => ?_)
      · exact tq_sub [] rfl (tX4_putBytes_31 G h)
      · refine tq_aload_n 0 0 dX4_putBytes_18 rfl rfl ?_
        refine tq_aload_n 1 1 dX4_putBytes_19 rfl rfl ?_
        refine tq_iload_n 3 3 dX4_putBytes_20 rfl rfl ?_
        refine tq_bald dX4_putBytes_21 (fun x2 => ?_)
        refine tq_cVV [vI x2] [] dX4_putBytes_22 (eX4_put G v0 x2 h) (by decide) mbX4_put cfX4 rfl wd_653 wd_654 wd_655 rfl rfl (Nat.le_of_ble_eq_true rfl) (fun _ h3 => ?_)
        refine tq_iinc 3 (nI 1) (L' := [(3, vI (v3 + (nI 1))), (0, vR v0), (1, vR v1), (2, vI v2)]) dX4_putBytes_25 rfl (by decide) (by decide) rfl ?_
        refine tq_goto 7 dX4_putBytes_28 (by decide) ?_
        exact tq_sub [1, 2, 3, 0] rfl (ih v0 v1 v2 (v3 + (nI 1)) h3)
noncomputable def fX4_putBytes_0  (v0 : Option Nat) (v1 : Option Nat) (v2 : Int32) (h : AH) : Option (Unit × AH) := if v1 = none then (some ((), h)) else (fX4_putBytes_7 FU v0 v1 v2 (nI 0) h)
theorem tX4_putBytes_0 (G : sr_G) (v0 : Option Nat) (v1 : Option Nat) (v2 : Int32) (h : AH) : sr_T (X := Unit) G 1 RX4 cX4_putBytes 4 none false (sr_M G jV) 0 [(0, vR v0), (1, vR v1), (2, vI v2)] [] h (fX4_putBytes_0  v0 v1 v2 h) := by
  unfold fX4_putBytes_0
  refine tq_aload_n 1 1 dX4_putBytes_0 rfl rfl ?_
  refine tq_ifnonnull 5 dX4_putBytes_1 (by decide) (fun _ => ?_) (fun _ => ?_)
  · refine tq_iconst (nI 0) dX4_putBytes_5 (by decide) ?_
    refine tq_istore_n 3 (L' := [(3, vI (nI 0)), (0, vR v0), (1, vR v1), (2, vI v2)]) dX4_putBytes_6 rfl (by decide) rfl ?_
    exact tq_sub [1, 2, 3, 0] rfl (tX4_putBytes_7 G FU v0 v1 v2 (nI 0) h)
  · exact tq_vret rfl dX4_putBytes_4
noncomputable def fX4_putBytes (v0 : Option Nat) (v1 : Option Nat) (v2 : Int32) (h : AH) : Option (Unit × AH) := fX4_putBytes_0 v0 v1 v2 h
theorem eX4_putBytes (G : sr_G) (v0 : Option Nat) (v1 : Option Nat) (v2 : Int32) (h : AH) : sr_E G 1 yX4_putBytes cX4_putBytes 4 none jV [vR v0, vR v1, vI v2] h (fX4_putBytes v0 v1 v2 h) := sr_E.of (own := RX4) (ini := false) (by decide) rfl (fun q => by first | rfl | cases q) rfl (Nat.le_of_ble_eq_true rfl) (tX4_putBytes_0 G v0 v1 v2 h)
noncomputable def fX4_putEscaped_113   (h : AH) : Option (Unit × AH) := some ((), h)
theorem tX4_putEscaped_113 (G : sr_G)  (h : AH) : sr_T (X := Unit) G 6 RX4 cX4_putEscaped 4 none false (sr_M G jV) 113 [] [] h (fX4_putEscaped_113  h) := by
  unfold fX4_putEscaped_113
  exact tq_vret rfl dX4_putEscaped_113
noncomputable def fX4_putEscaped_107 (r7 : Option Nat → Option Nat → Int32 → Int32 → AH → Option (Unit × AH)) (v0 : Option Nat) (v1 : Option Nat) (v2 : Int32) (v3 : Int32) (h : AH) : Option (Unit × AH) := r7 v0 v1 v2 (v3 + (nI 1)) h
theorem tX4_putEscaped_107 (G : sr_G) {r7 : Option Nat → Option Nat → Int32 → Int32 → AH → Option (Unit × AH)} (hr7 : ∀ (v0 : Option Nat) (v1 : Option Nat) (v2 : Int32) (v3 : Int32) (h : AH), sr_T (X := Unit) G 6 RX4 cX4_putEscaped 4 none false (sr_M G jV) 7 [(0, vR v0), (1, vR v1), (2, vI v2), (3, vI v3)] [] h (r7 v0 v1 v2 v3 h)) (v0 : Option Nat) (v1 : Option Nat) (v2 : Int32) (v3 : Int32) (h : AH) : sr_T (X := Unit) G 6 RX4 cX4_putEscaped 4 none false (sr_M G jV) 107 [(0, vR v0), (1, vR v1), (2, vI v2), (3, vI v3)] [] h (fX4_putEscaped_107 r7 v0 v1 v2 v3 h) := by
  unfold fX4_putEscaped_107
  refine tq_iinc 3 (nI 1) (L' := [(3, vI (v3 + (nI 1))), (0, vR v0), (1, vR v1), (2, vI v2)]) dX4_putEscaped_107 rfl (by decide) (by decide) rfl ?_
  refine tq_goto 7 dX4_putEscaped_110 (by decide) ?_
  exact tq_sub [1, 2, 3, 0] rfl (hr7 v0 v1 v2 (v3 + (nI 1)) h)
noncomputable def fX4_putEscaped_7  : Nat → Option Nat → Option Nat → Int32 → Int32 → AH → Option (Unit × AH)
  | 0, _, _, _, _, _ => none
  | n + 1, v0, v1, v2, v3, h => if v2 ≤ v3 then (fX4_putEscaped_113 h) else (cAN h 1 v1 fun x1 => if x1 ≤ v3 then (fX4_putEscaped_113 h) else (cAL h 1 v1 v3 fun x2 => (if x2 = 34 then (cCV h 4 v0 (fX4_putWord v0 4 h) fun _ h5 => fX4_putEscaped_107 (fX4_putEscaped_7 n) v0 v1 v2 v3 h5) else (if x2 = 38 then (cCV h 4 v0 (fX4_putWord v0 3 h) fun _ h6 => fX4_putEscaped_107 (fX4_putEscaped_7 n) v0 v1 v2 v3 h6) else (if x2 = 60 then (cCV h 4 v0 (fX4_putWord v0 1 h) fun _ h7 => fX4_putEscaped_107 (fX4_putEscaped_7 n) v0 v1 v2 v3 h7) else (if x2 = 62 then (cCV h 4 v0 (fX4_putWord v0 2 h) fun _ h8 => fX4_putEscaped_107 (fX4_putEscaped_7 n) v0 v1 v2 v3 h8) else (cAL h 1 v1 v3 fun x3 => cCV h 4 v0 (fX4_put v0 x3 h) fun _ h4 => fX4_putEscaped_107 (fX4_putEscaped_7 n) v0 v1 v2 v3 h4)))))))
theorem tX4_putEscaped_7 (G : sr_G) : ∀ (n : Nat) (v0 : Option Nat) (v1 : Option Nat) (v2 : Int32) (v3 : Int32) (h : AH), sr_T (X := Unit) G 6 RX4 cX4_putEscaped 4 none false (sr_M G jV) 7 [(0, vR v0), (1, vR v1), (2, vI v2), (3, vI v3)] [] h (fX4_putEscaped_7  n v0 v1 v2 v3 h) := by
  intro n
  induction n with
  | zero => intro v0 v1 v2 v3 h; exact tq_none
  | succ n ih =>
    intro v0 v1 v2 v3 h
    unfold fX4_putEscaped_7
    refine tq_iload_n 3 3 dX4_putEscaped_7 rfl rfl ?_
    refine tq_iload_n 2 2 dX4_putEscaped_8 rfl rfl ?_
    refine tq_icmp_ge 113 dX4_putEscaped_9 (by decide) (fun _ => ?_) (fun _ => ?_)
    · exact tq_sub [] rfl (tX4_putEscaped_113 G h)
    · refine tq_iload_n 3 3 dX4_putEscaped_12 rfl rfl ?_
      refine tq_aload_n 1 1 dX4_putEscaped_13 rfl rfl ?_
      refine tq_alen (by decide) dX4_putEscaped_14 (fun x1 => ?_)
      refine tq_icmp_ge 113 dX4_putEscaped_15 (by decide) (fun _ => ?_) (fun _ => ?_)
      · exact tq_sub [] rfl (tX4_putEscaped_113 G h)
      · refine tq_aload_n 1 1 dX4_putEscaped_18 rfl rfl ?_
        refine tq_iload_n 3 3 dX4_putEscaped_19 rfl rfl ?_
        refine tq_bald dX4_putEscaped_20 (fun x2 => ?_)
        refine tq_ite _ (fun hc => ?_) (fun hn34 => ?_)
        · refine tq_lookup 91 dX4_putEscaped_21 (by decide) (off := 70) (by rw [hc]; rfl) (by decide) ?_
          refine tq_aload_n 0 0 dX4_putEscaped_91 rfl rfl ?_
          refine tq_ldcS (tx := "&quot;") 4 dX4_putEscaped_92 (by decide) ?_
          refine tq_cVV [vR (some (G.2.2.2.1 4))] [] dX4_putEscaped_94 (eX4_putWord G v0 4 h) (by decide) mbX4_putWord cfX4 rfl wd_711 wd_712 wd_713 rfl rfl (Nat.le_of_ble_eq_true rfl) (fun _ h5 => ?_)
          refine tq_goto 107 dX4_putEscaped_97 (by decide) ?_
          exact tX4_putEscaped_107 G ih v0 v1 v2 v3 h5
        · refine tq_ite _ (fun hc => ?_) (fun hn38 => ?_)
          · refine tq_lookup 82 dX4_putEscaped_21 (by decide) (off := 61) (by rw [hc]; rfl) (by decide) ?_
            refine tq_aload_n 0 0 dX4_putEscaped_82 rfl rfl ?_
            refine tq_ldcS (tx := "&amp;") 3 dX4_putEscaped_83 (by decide) ?_
            refine tq_cVV [vR (some (G.2.2.2.1 3))] [] dX4_putEscaped_85 (eX4_putWord G v0 3 h) (by decide) mbX4_putWord cfX4 rfl wd_711 wd_712 wd_713 rfl rfl (Nat.le_of_ble_eq_true rfl) (fun _ h6 => ?_)
            refine tq_goto 107 dX4_putEscaped_88 (by decide) ?_
            exact tX4_putEscaped_107 G ih v0 v1 v2 v3 h6
          · refine tq_ite _ (fun hc => ?_) (fun hn60 => ?_)
            · refine tq_lookup 64 dX4_putEscaped_21 (by decide) (off := 43) (by rw [hc]; rfl) (by decide) ?_
              refine tq_aload_n 0 0 dX4_putEscaped_64 rfl rfl ?_
              refine tq_ldcS (tx := "&lt;") 1 dX4_putEscaped_65 (by decide) ?_
              refine tq_cVV [vR (some (G.2.2.2.1 1))] [] dX4_putEscaped_67 (eX4_putWord G v0 1 h) (by decide) mbX4_putWord cfX4 rfl wd_711 wd_712 wd_713 rfl rfl (Nat.le_of_ble_eq_true rfl) (fun _ h7 => ?_)
              refine tq_goto 107 dX4_putEscaped_70 (by decide) ?_
              exact tX4_putEscaped_107 G ih v0 v1 v2 v3 h7
            · refine tq_ite _ (fun hc => ?_) (fun hn62 => ?_)
              · refine tq_lookup 73 dX4_putEscaped_21 (by decide) (off := 52) (by rw [hc]; rfl) (by decide) ?_
                refine tq_aload_n 0 0 dX4_putEscaped_73 rfl rfl ?_
                refine tq_ldcS (tx := "&gt;") 2 dX4_putEscaped_74 (by decide) ?_
                refine tq_cVV [vR (some (G.2.2.2.1 2))] [] dX4_putEscaped_76 (eX4_putWord G v0 2 h) (by decide) mbX4_putWord cfX4 rfl wd_711 wd_712 wd_713 rfl rfl (Nat.le_of_ble_eq_true rfl) (fun _ h8 => ?_)
                refine tq_goto 107 dX4_putEscaped_79 (by decide) ?_
                exact tX4_putEscaped_107 G ih v0 v1 v2 v3 h8
              · refine tq_lookup 100 dX4_putEscaped_21 (by decide) (off := 79) ((lv_osw hn34 (show (34 : Int32).toInt = 34 by decide)).trans ((lv_osw hn38 (show (38 : Int32).toInt = 38 by decide)).trans ((lv_osw hn60 (show (60 : Int32).toInt = 60 by decide)).trans ((lv_osw hn62 (show (62 : Int32).toInt = 62 by decide)).trans rfl)))) (by decide) ?_
                refine tq_aload_n 0 0 dX4_putEscaped_100 rfl rfl ?_
                refine tq_aload_n 1 1 dX4_putEscaped_101 rfl rfl ?_
                refine tq_iload_n 3 3 dX4_putEscaped_102 rfl rfl ?_
                refine tq_bald dX4_putEscaped_103 (fun x3 => ?_)
                refine tq_cVV [vI x3] [] dX4_putEscaped_104 (eX4_put G v0 x3 h) (by decide) mbX4_put cfX4 rfl wd_653 wd_654 wd_655 rfl rfl (Nat.le_of_ble_eq_true rfl) (fun _ h4 => ?_)
                exact tX4_putEscaped_107 G ih v0 v1 v2 v3 h4
noncomputable def fX4_putEscaped_0  (v0 : Option Nat) (v1 : Option Nat) (v2 : Int32) (h : AH) : Option (Unit × AH) := if v1 = none then (some ((), h)) else (fX4_putEscaped_7 FU v0 v1 v2 (nI 0) h)
theorem tX4_putEscaped_0 (G : sr_G) (v0 : Option Nat) (v1 : Option Nat) (v2 : Int32) (h : AH) : sr_T (X := Unit) G 6 RX4 cX4_putEscaped 4 none false (sr_M G jV) 0 [(0, vR v0), (1, vR v1), (2, vI v2)] [] h (fX4_putEscaped_0  v0 v1 v2 h) := by
  unfold fX4_putEscaped_0
  refine tq_aload_n 1 1 dX4_putEscaped_0 rfl rfl ?_
  refine tq_ifnonnull 5 dX4_putEscaped_1 (by decide) (fun _ => ?_) (fun _ => ?_)
  · refine tq_iconst (nI 0) dX4_putEscaped_5 (by decide) ?_
    refine tq_istore_n 3 (L' := [(3, vI (nI 0)), (0, vR v0), (1, vR v1), (2, vI v2)]) dX4_putEscaped_6 rfl (by decide) rfl ?_
    exact tq_sub [1, 2, 3, 0] rfl (tX4_putEscaped_7 G FU v0 v1 v2 (nI 0) h)
  · exact tq_vret rfl dX4_putEscaped_4
noncomputable def fX4_putEscaped (v0 : Option Nat) (v1 : Option Nat) (v2 : Int32) (h : AH) : Option (Unit × AH) := fX4_putEscaped_0 v0 v1 v2 h
theorem eX4_putEscaped (G : sr_G) (v0 : Option Nat) (v1 : Option Nat) (v2 : Int32) (h : AH) : sr_E G 6 yX4_putEscaped cX4_putEscaped 4 none jV [vR v0, vR v1, vI v2] h (fX4_putEscaped v0 v1 v2 h) := sr_E.of (own := RX4) (ini := false) (by decide) rfl (fun q => by first | rfl | cases q) rfl (Nat.le_of_ble_eq_true rfl) (tX4_putEscaped_0 G v0 v1 v2 h)
noncomputable def fX5_init_0  (v0 : Option Nat) (v1 : Option Nat) (v2 : Option Nat) (v3 : Option Nat) (h : AH) : Option (Unit × AH) := cNN v0 <| cNO h 1 2 fun x1 h2 => cCV h2 1 x1 (fX1_init x1 h2) fun _ h3 => cPR h3 5 253 v0 x1 fun h4 => cNA h4 3 (nI 21) fun x5 h6 => cPR h6 5 254 v0 x5 fun h7 => cNA h7 0 (nI 21) fun x8 h9 => cPR h9 5 255 v0 x8 fun h10 => cPR h10 5 250 v0 v1 fun h11 => cPR h11 5 251 v0 v2 fun h12 => cPR h12 5 252 v0 v3 fun h13 => some ((), h13)
theorem tX5_init_0 (G : sr_G) (v0 : Option Nat) (v1 : Option Nat) (v2 : Option Nat) (v3 : Option Nat) (h : AH) : sr_T (X := Unit) G 2 RX5 cX5_init 4 none true (sr_M G jV) 0 [(0, vR v0), (1, vR v1), (2, vR v2), (3, vR v3)] [] h (fX5_init_0  v0 v1 v2 v3 h) := by
  unfold fX5_init_0
  refine tq_aload_n 0 0 dX5_init_0 rfl rfl ?_
  refine tq_objI dX5_init_1 (by decide) wd_259 wd_90 wd_91 (Nat.le_of_ble_eq_true rfl) ?_
  refine tq_aload_n 0 0 dX5_init_4 rfl rfl ?_
  refine tq_new dX5_init_5 cfX1 dvX1 wd_260 wd_156 wd_76 (fun x1 h2 => ?_)
  refine tq_dupR dX5_init_8 ?_
  refine tq_callIN [] [vR x1, vR v0] dX5_init_9 (eX1_init G x1 h2) (by decide) mbX1_init (host := "SoupReader") (by decide) wd_158 rfl rfl rfl (Nat.le_of_ble_eq_true rfl) (fun _ h3 => ?_)
  refine tq_putR 3 dX5_init_12 cfX5 (by decide) wd_266 rfl rfl (Or.inr ⟨rfl, rfl, rfl⟩) (fun h4 => ?_)
  refine tq_aload_n 0 0 dX5_init_15 rfl rfl ?_
  refine tq_bipush (nI 21) dX5_init_16 (by decide) ?_
  refine tq_anew dX5_init_18 (by decide) rfl wd_262 (fun x5 h6 => ?_)
  refine tq_putR 4 dX5_init_21 cfX5 (by decide) wd_267 rfl rfl (Or.inr ⟨rfl, rfl, rfl⟩) (fun h7 => ?_)
  refine tq_aload_n 0 0 dX5_init_24 rfl rfl ?_
  refine tq_bipush (nI 21) dX5_init_25 (by decide) ?_
  refine tq_newa dX5_init_27 (by decide) rfl wd_141 (fun x8 h9 => ?_)
  refine tq_putR 5 dX5_init_29 cfX5 (by decide) wd_268 rfl rfl (Or.inr ⟨rfl, rfl, rfl⟩) (fun h10 => ?_)
  refine tq_aload_n 0 0 dX5_init_32 rfl rfl ?_
  refine tq_aload_n 1 1 dX5_init_33 rfl rfl ?_
  refine tq_putR 0 dX5_init_34 cfX5 (by decide) wd_263 rfl rfl (Or.inr ⟨rfl, rfl, rfl⟩) (fun h11 => ?_)
  refine tq_aload_n 0 0 dX5_init_37 rfl rfl ?_
  refine tq_aload_n 2 2 dX5_init_38 rfl rfl ?_
  refine tq_putR 1 dX5_init_39 cfX5 (by decide) wd_264 rfl rfl (Or.inr ⟨rfl, rfl, rfl⟩) (fun h12 => ?_)
  refine tq_aload_n 0 0 dX5_init_42 rfl rfl ?_
  refine tq_aload_n 3 3 dX5_init_43 rfl rfl ?_
  refine tq_putR 2 dX5_init_44 cfX5 (by decide) wd_265 rfl rfl (Or.inr ⟨rfl, rfl, rfl⟩) (fun h13 => ?_)
  exact tq_vret rfl dX5_init_47
noncomputable def fX5_init (v0 : Option Nat) (v1 : Option Nat) (v2 : Option Nat) (v3 : Option Nat) (h : AH) : Option (Unit × AH) := fX5_init_0 v0 v1 v2 v3 h
theorem eX5_init (G : sr_G) (v0 : Option Nat) (v1 : Option Nat) (v2 : Option Nat) (v3 : Option Nat) (h : AH) : sr_E G 2 yX5_init cX5_init 4 none jV [vR v0, vR v1, vR v2, vR v3] h (fX5_init v0 v1 v2 v3 h) := sr_E.of (own := RX5) (ini := true) (by decide) rfl (fun q => by first | rfl | cases q) rfl (Nat.le_of_ble_eq_true rfl) (tX5_init_0 G v0 v1 v2 v3 h)
noncomputable def fX5_placeOpenAt_31  (s0 : Int32) (h : AH) : Option (Int32 × AH) := some (s0, h)
theorem tX5_placeOpenAt_31 (G : sr_G) (s0 : Int32) (h : AH) : sr_T (X := Int32) G 0 RX5 cX5_placeOpenAt 2 (some .int) false (sr_M G jI) 31 [] [vI s0] h (fX5_placeOpenAt_31  s0 h) := by
  unfold fX5_placeOpenAt_31
  exact tq_iret rfl dX5_placeOpenAt_31
noncomputable def fX5_placeOpenAt_30   (h : AH) : Option (Int32 × AH) := fX5_placeOpenAt_31 (-1) h
theorem tX5_placeOpenAt_30 (G : sr_G)  (h : AH) : sr_T (X := Int32) G 0 RX5 cX5_placeOpenAt 2 (some .int) false (sr_M G jI) 30 [] [] h (fX5_placeOpenAt_30  h) := by
  unfold fX5_placeOpenAt_30
  refine tq_iconst (-1) dX5_placeOpenAt_30 (by decide) ?_
  exact tX5_placeOpenAt_31 G (-1) h
noncomputable def fX5_placeOpenAt_0  (v0 : Option Nat) (v1 : Int32) (h : AH) : Option (Int32 × AH) := if v1 < 0 then (fX5_placeOpenAt_30 h) else (cGI h 5 256 v0 fun x1 => if x1 ≤ v1 then (fX5_placeOpenAt_30 h) else (cGR h 5 255 v0 fun x2 => cAN h 0 x2 fun x3 => if x3 ≤ v1 then (fX5_placeOpenAt_30 h) else (cGR h 5 255 v0 fun x4 => cAL h 0 x4 v1 fun x5 => fX5_placeOpenAt_31 x5 h)))
theorem tX5_placeOpenAt_0 (G : sr_G) (v0 : Option Nat) (v1 : Int32) (h : AH) : sr_T (X := Int32) G 0 RX5 cX5_placeOpenAt 2 (some .int) false (sr_M G jI) 0 [(0, vR v0), (1, vI v1)] [] h (fX5_placeOpenAt_0  v0 v1 h) := by
  unfold fX5_placeOpenAt_0
  refine tq_iload_n 1 1 dX5_placeOpenAt_0 rfl rfl ?_
  refine tq_if_lt 30 dX5_placeOpenAt_1 (by decide) (fun _ => ?_) (fun _ => ?_)
  · exact tq_sub [] rfl (tX5_placeOpenAt_30 G h)
  · refine tq_iload_n 1 1 dX5_placeOpenAt_4 rfl rfl ?_
    refine tq_aload_n 0 0 dX5_placeOpenAt_5 rfl rfl ?_
    refine tq_getI 6 dX5_placeOpenAt_6 cfX5 (by decide) wd_269 rfl rfl (fun x1 => ?_)
    refine tq_icmp_ge 30 dX5_placeOpenAt_9 (by decide) (fun _ => ?_) (fun _ => ?_)
    · exact tq_sub [] rfl (tX5_placeOpenAt_30 G h)
    · refine tq_iload_n 1 1 dX5_placeOpenAt_12 rfl rfl ?_
      refine tq_aload_n 0 0 dX5_placeOpenAt_13 rfl rfl ?_
      refine tq_getR 5 dX5_placeOpenAt_14 cfX5 (by decide) wd_268 rfl rfl (fun x2 => ?_)
      refine tq_alen (by decide) dX5_placeOpenAt_17 (fun x3 => ?_)
      refine tq_icmp_ge 30 dX5_placeOpenAt_18 (by decide) (fun _ => ?_) (fun _ => ?_)
      · exact tq_sub [] rfl (tX5_placeOpenAt_30 G h)
      · refine tq_aload_n 0 0 dX5_placeOpenAt_21 rfl rfl ?_
        refine tq_getR 5 dX5_placeOpenAt_22 cfX5 (by decide) wd_268 rfl rfl (fun x4 => ?_)
        refine tq_iload_n 1 1 dX5_placeOpenAt_25 rfl rfl ?_
        refine tq_iald dX5_placeOpenAt_26 (fun x5 => ?_)
        refine tq_goto 31 dX5_placeOpenAt_27 (by decide) ?_
        exact tq_sub [] rfl (tX5_placeOpenAt_31 G x5 h)
noncomputable def fX5_placeOpenAt (v0 : Option Nat) (v1 : Int32) (h : AH) : Option (Int32 × AH) := fX5_placeOpenAt_0 v0 v1 h
theorem eX5_placeOpenAt (G : sr_G) (v0 : Option Nat) (v1 : Int32) (h : AH) : sr_E G 0 yX5_placeOpenAt cX5_placeOpenAt 2 (some .int) jI [vR v0, vI v1] h (fX5_placeOpenAt v0 v1 h) := sr_E.of (own := RX5) (ini := false) (by decide) rfl (fun q => by first | rfl | cases q) rfl (Nat.le_of_ble_eq_true rfl) (tX5_placeOpenAt_0 G v0 v1 h)

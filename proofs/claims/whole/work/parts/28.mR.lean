noncomputable def fX9_element_50   (h : AH) : Option (Unit × AH) := some ((), h)
theorem tX9_element_50 (G : sr_G)  (h : AH) : sr_T (X := Unit) G 0 RX9 cX9_element 4 none false (sr_M G jV) 50 [] [] h (fX9_element_50  h) := by
  unfold fX9_element_50
  exact tq_vret rfl dX9_element_50
noncomputable def fX9_element_19  : Nat → Option Nat → Int32 → Int32 → AH → Option (Unit × AH)
  | 0, _, _, _, _ => none
  | n + 1, v0, v1, v3, h => cGI h 9 485 v0 fun x1 => if x1 ≤ v3 then (fX9_element_50 h) else (cGR h 9 458 v0 fun x2 => cGR h 9 484 v0 fun x3 => cAL h 1 x3 v3 fun x4 => cAS h 1 x2 (((nI 8) * v1) + v3) x4 fun h5 => fX9_element_19 n v0 v1 (v3 + (nI 1)) h5)
theorem tX9_element_19 (G : sr_G) : ∀ (n : Nat) (v0 : Option Nat) (v1 : Int32) (v3 : Int32) (h : AH), sr_T (X := Unit) G 0 RX9 cX9_element 4 none false (sr_M G jV) 19 [(0, vR v0), (1, vI v1), (3, vI v3)] [] h (fX9_element_19  n v0 v1 v3 h) := by
  intro n
  induction n with
  | zero => intro v0 v1 v3 h; exact tq_none
  | succ n ih =>
    intro v0 v1 v3 h
    unfold fX9_element_19
    refine tq_iload_n 3 2 dX9_element_19 rfl rfl ?_
    refine tq_aload_n 0 0 dX9_element_20 rfl rfl ?_
    refine tq_getI 35 dX9_element_21 cfX9 (by decide) wd_907 rfl rfl (fun x1 => ?_)
    refine tq_icmp_ge 50 dX9_element_24 (by decide) (fun _ => ?_) (fun _ => ?_)
    · exact tq_sub [] rfl (tX9_element_50 G h)
    · refine tq_aload_n 0 0 dX9_element_27 rfl rfl ?_
      refine tq_getR 8 dX9_element_28 cfX9 (by decide) wd_880 rfl rfl (fun x2 => ?_)
      refine tq_bipush (nI 8) dX9_element_31 (by decide) ?_
      refine tq_iload_n 1 1 dX9_element_33 rfl rfl ?_
      refine tq_imul dX9_element_34 ?_
      refine tq_iload_n 3 2 dX9_element_35 rfl rfl ?_
      refine tq_iadd dX9_element_36 ?_
      refine tq_aload_n 0 0 dX9_element_37 rfl rfl ?_
      refine tq_getR 34 dX9_element_38 cfX9 (by decide) wd_906 rfl rfl (fun x3 => ?_)
      refine tq_iload_n 3 2 dX9_element_41 rfl rfl ?_
      refine tq_bald dX9_element_42 (fun x4 => ?_)
      refine tq_bast dX9_element_43 (fun h5 => ?_)
      refine tq_iinc 2 (nI 1) (L' := [(3, vI (v3 + (nI 1))), (0, vR v0), (1, vI v1)]) dX9_element_44 rfl (by decide) (by decide) rfl ?_
      refine tq_goto 19 dX9_element_47 (by decide) ?_
      exact tq_sub [1, 2, 0] rfl (ih v0 v1 (v3 + (nI 1)) h5)
noncomputable def fX9_element_0  (v0 : Option Nat) (v1 : Int32) (v2 : Int32) (h : AH) : Option (Unit × AH) := cGR h 9 457 v0 fun x1 => cAS h 0 x1 v1 v2 fun h2 => cGR h2 9 459 v0 fun x3 => cGI h2 9 485 v0 fun x4 => cAS h2 0 x3 v1 x4 fun h5 => fX9_element_19 FU v0 v1 (nI 0) h5
theorem tX9_element_0 (G : sr_G) (v0 : Option Nat) (v1 : Int32) (v2 : Int32) (h : AH) : sr_T (X := Unit) G 0 RX9 cX9_element 4 none false (sr_M G jV) 0 [(0, vR v0), (1, vI v1), (2, vI v2)] [] h (fX9_element_0  v0 v1 v2 h) := by
  unfold fX9_element_0
  refine tq_aload_n 0 0 dX9_element_0 rfl rfl ?_
  refine tq_getR 7 dX9_element_1 cfX9 (by decide) wd_879 rfl rfl (fun x1 => ?_)
  refine tq_iload_n 1 1 dX9_element_4 rfl rfl ?_
  refine tq_iload_n 2 2 dX9_element_5 rfl rfl ?_
  refine tq_iast dX9_element_6 (fun h2 => ?_)
  refine tq_aload_n 0 0 dX9_element_7 rfl rfl ?_
  refine tq_getR 9 dX9_element_8 cfX9 (by decide) wd_881 rfl rfl (fun x3 => ?_)
  refine tq_iload_n 1 1 dX9_element_11 rfl rfl ?_
  refine tq_aload_n 0 0 dX9_element_12 rfl rfl ?_
  refine tq_getI 35 dX9_element_13 cfX9 (by decide) wd_907 rfl rfl (fun x4 => ?_)
  refine tq_iast dX9_element_16 (fun h5 => ?_)
  refine tq_iconst (nI 0) dX9_element_17 (by decide) ?_
  refine tq_istore_n 3 (L' := [(3, vI (nI 0)), (0, vR v0), (1, vI v1), (2, vI v2)]) dX9_element_18 rfl (by decide) rfl ?_
  exact tq_sub [1, 2, 0] rfl (tX9_element_19 G FU v0 v1 (nI 0) h5)
noncomputable def fX9_element (v0 : Option Nat) (v1 : Int32) (v2 : Int32) (h : AH) : Option (Unit × AH) := fX9_element_0 v0 v1 v2 h
theorem eX9_element (G : sr_G) (v0 : Option Nat) (v1 : Int32) (v2 : Int32) (h : AH) : sr_E G 0 yX9_element cX9_element 4 none jV [vR v0, vI v1, vI v2] h (fX9_element v0 v1 v2 h) := sr_E.of (own := RX9) (ini := false) (by decide) rfl (fun q => by first | rfl | cases q) rfl (Nat.le_of_ble_eq_true rfl) (tX9_element_0 G v0 v1 v2 h)
noncomputable def fX9_startTag_414   (h : AH) : Option (Unit × AH) := some ((), h)
theorem tX9_startTag_414 (G : sr_G)  (h : AH) : sr_T (X := Unit) G 2 RX9 cX9_startTag 6 none false (sr_M G jV) 414 [] [] h (fX9_startTag_414  h) := by
  unfold fX9_startTag_414
  exact tq_vret rfl dX9_startTag_414
noncomputable def fX9_startTag_387  (v0 : Option Nat) (v2 : Int32) (v3 : Int32) (h : AH) : Option (Unit × AH) := cCL (fX9_isEmptyTag v2 h) fun x2 h1 => if x2 = 0 then (cGR h1 9 479 v0 fun x3 => cGI h1 9 480 v0 fun x4 => cAS h1 0 x3 x4 v3 fun h5 => cGI h5 9 480 v0 fun x6 => cPI h5 9 480 v0 (x6 + (nI 1)) fun h7 => fX9_startTag_414 h7) else (fX9_startTag_414 h1)
theorem tX9_startTag_387 (G : sr_G) (v0 : Option Nat) (v2 : Int32) (v3 : Int32) (h : AH) : sr_T (X := Unit) G 2 RX9 cX9_startTag 6 none false (sr_M G jV) 387 [(0, vR v0), (2, vI v2), (3, vI v3)] [] h (fX9_startTag_387  v0 v2 v3 h) := by
  unfold fX9_startTag_387
  refine tq_iload_n 2 1 dX9_startTag_387 rfl rfl ?_
  refine tq_cSI [vI v2] [] dX9_startTag_388 (eX9_isEmptyTag G v2 h) (by decide) mbX9_isEmptyTag wd_843 wd_844 rfl rfl (Nat.le_of_ble_eq_true rfl) (fun x2 h1 => ?_)
  refine tq_if_ne 414 dX9_startTag_391 (by decide) (fun _ => ?_) (fun _ => ?_)
  · exact tq_sub [] rfl (tX9_startTag_414 G h1)
  · refine tq_aload_n 0 0 dX9_startTag_394 rfl rfl ?_
    refine tq_getR 29 dX9_startTag_395 cfX9 (by decide) wd_901 rfl rfl (fun x3 => ?_)
    refine tq_aload_n 0 0 dX9_startTag_398 rfl rfl ?_
    refine tq_getI 30 dX9_startTag_399 cfX9 (by decide) wd_902 rfl rfl (fun x4 => ?_)
    refine tq_iload_n 3 2 dX9_startTag_402 rfl rfl ?_
    refine tq_iast dX9_startTag_403 (fun h5 => ?_)
    refine tq_aload_n 0 0 dX9_startTag_404 rfl rfl ?_
    refine tq_dupR dX9_startTag_405 ?_
    refine tq_getI 30 dX9_startTag_406 cfX9 (by decide) wd_902 rfl rfl (fun x6 => ?_)
    refine tq_iconst (nI 1) dX9_startTag_409 (by decide) ?_
    refine tq_iadd dX9_startTag_410 ?_
    refine tq_putI 30 dX9_startTag_411 cfX9 (by decide) wd_902 rfl rfl (Or.inl rfl) (fun h7 => ?_)
    exact tq_sub [] rfl (tX9_startTag_414 G h7)
noncomputable def fX9_startTag_381 (r244 : Option Nat → Int32 → Int32 → Int32 → AH → Option (Unit × AH)) (v0 : Option Nat) (v2 : Int32) (v3 : Int32) (v4 : Int32) (h : AH) : Option (Unit × AH) := r244 v0 v2 v3 (v4 + (nI 1)) h
theorem tX9_startTag_381 (G : sr_G) {r244 : Option Nat → Int32 → Int32 → Int32 → AH → Option (Unit × AH)} (hr244 : ∀ (v0 : Option Nat) (v2 : Int32) (v3 : Int32) (v4 : Int32) (h : AH), sr_T (X := Unit) G 2 RX9 cX9_startTag 6 none false (sr_M G jV) 244 [(0, vR v0), (2, vI v2), (3, vI v3), (4, vI v4)] [] h (r244 v0 v2 v3 v4 h)) (v0 : Option Nat) (v2 : Int32) (v3 : Int32) (v4 : Int32) (h : AH) : sr_T (X := Unit) G 2 RX9 cX9_startTag 6 none false (sr_M G jV) 381 [(0, vR v0), (2, vI v2), (3, vI v3), (4, vI v4)] [] h (fX9_startTag_381 r244 v0 v2 v3 v4 h) := by
  unfold fX9_startTag_381
  refine tq_iinc 3 (nI 1) (L' := [(4, vI (v4 + (nI 1))), (0, vR v0), (2, vI v2), (3, vI v3)]) dX9_startTag_381 rfl (by decide) (by decide) rfl ?_
  refine tq_goto 244 dX9_startTag_384 (by decide) ?_
  exact tq_sub [1, 2, 3, 0] rfl (hr244 v0 v2 v3 (v4 + (nI 1)) h)
noncomputable def fX9_startTag_338 (r244 : Option Nat → Int32 → Int32 → Int32 → AH → Option (Unit × AH)) : Nat → Option Nat → Int32 → Int32 → Int32 → Int32 → AH → Option (Unit × AH)
  | 0, _, _, _, _, _, _ => none
  | n + 1, v0, v2, v3, v4, v5, h => if (nI 60) ≤ v5 then (fX9_startTag_381 r244 v0 v2 v3 v4 h) else (cGR h 9 469 v0 fun x1 => cGR h 9 489 v0 fun x2 => cAL h 1 x2 (((nI 60) * v4) + v5) fun x3 => cAS h 1 x1 (((nI 60) * (((nI 4) * v3) + v4)) + v5) x3 fun h4 => fX9_startTag_338 r244 n v0 v2 v3 v4 (v5 + (nI 1)) h4)
theorem tX9_startTag_338 (G : sr_G) {r244 : Option Nat → Int32 → Int32 → Int32 → AH → Option (Unit × AH)} (hr244 : ∀ (v0 : Option Nat) (v2 : Int32) (v3 : Int32) (v4 : Int32) (h : AH), sr_T (X := Unit) G 2 RX9 cX9_startTag 6 none false (sr_M G jV) 244 [(0, vR v0), (2, vI v2), (3, vI v3), (4, vI v4)] [] h (r244 v0 v2 v3 v4 h)) : ∀ (n : Nat) (v0 : Option Nat) (v2 : Int32) (v3 : Int32) (v4 : Int32) (v5 : Int32) (h : AH), sr_T (X := Unit) G 2 RX9 cX9_startTag 6 none false (sr_M G jV) 338 [(0, vR v0), (2, vI v2), (3, vI v3), (4, vI v4), (5, vI v5)] [] h (fX9_startTag_338 r244 n v0 v2 v3 v4 v5 h) := by
  intro n
  induction n with
  | zero => intro v0 v2 v3 v4 v5 h; exact tq_none
  | succ n ih =>
    intro v0 v2 v3 v4 v5 h
    unfold fX9_startTag_338
    refine tq_iload 4 dX9_startTag_338 rfl ?_
    refine tq_bipush (nI 60) dX9_startTag_340 (by decide) ?_
    refine tq_icmp_ge 381 dX9_startTag_342 (by decide) (fun _ => ?_) (fun _ => ?_)
    · exact tq_sub [0, 1, 2, 3] rfl (tX9_startTag_381 G hr244 v0 v2 v3 v4 h)
    · refine tq_aload_n 0 0 dX9_startTag_345 rfl rfl ?_
      refine tq_getR 19 dX9_startTag_346 cfX9 (by decide) wd_891 rfl rfl (fun x1 => ?_)
      refine tq_bipush (nI 60) dX9_startTag_349 (by decide) ?_
      refine tq_iconst (nI 4) dX9_startTag_351 (by decide) ?_
      refine tq_iload_n 3 2 dX9_startTag_352 rfl rfl ?_
      refine tq_imul dX9_startTag_353 ?_
      refine tq_iload 3 dX9_startTag_354 rfl ?_
      refine tq_iadd dX9_startTag_356 ?_
      refine tq_imul dX9_startTag_357 ?_
      refine tq_iload 4 dX9_startTag_358 rfl ?_
      refine tq_iadd dX9_startTag_360 ?_
      refine tq_aload_n 0 0 dX9_startTag_361 rfl rfl ?_
      refine tq_getR 39 dX9_startTag_362 cfX9 (by decide) wd_911 rfl rfl (fun x2 => ?_)
      refine tq_bipush (nI 60) dX9_startTag_365 (by decide) ?_
      refine tq_iload 3 dX9_startTag_367 rfl ?_
      refine tq_imul dX9_startTag_369 ?_
      refine tq_iload 4 dX9_startTag_370 rfl ?_
      refine tq_iadd dX9_startTag_372 ?_
      refine tq_bald dX9_startTag_373 (fun x3 => ?_)
      refine tq_bast dX9_startTag_374 (fun h4 => ?_)
      refine tq_iinc 4 (nI 1) (L' := [(5, vI (v5 + (nI 1))), (0, vR v0), (2, vI v2), (3, vI v3), (4, vI v4)]) dX9_startTag_375 rfl (by decide) (by decide) rfl ?_
      refine tq_goto 338 dX9_startTag_378 (by decide) ?_
      exact tq_sub [1, 2, 3, 4, 0] rfl (ih v0 v2 v3 v4 (v5 + (nI 1)) h4)
noncomputable def fX9_startTag_335 (r244 : Option Nat → Int32 → Int32 → Int32 → AH → Option (Unit × AH)) (v0 : Option Nat) (v2 : Int32) (v3 : Int32) (v4 : Int32) (h : AH) : Option (Unit × AH) := fX9_startTag_338 r244 FU v0 v2 v3 v4 (nI 0) h
theorem tX9_startTag_335 (G : sr_G) {r244 : Option Nat → Int32 → Int32 → Int32 → AH → Option (Unit × AH)} (hr244 : ∀ (v0 : Option Nat) (v2 : Int32) (v3 : Int32) (v4 : Int32) (h : AH), sr_T (X := Unit) G 2 RX9 cX9_startTag 6 none false (sr_M G jV) 244 [(0, vR v0), (2, vI v2), (3, vI v3), (4, vI v4)] [] h (r244 v0 v2 v3 v4 h)) (v0 : Option Nat) (v2 : Int32) (v3 : Int32) (v4 : Int32) (h : AH) : sr_T (X := Unit) G 2 RX9 cX9_startTag 6 none false (sr_M G jV) 335 [(0, vR v0), (2, vI v2), (3, vI v3), (4, vI v4)] [] h (fX9_startTag_335 r244 v0 v2 v3 v4 h) := by
  unfold fX9_startTag_335
  refine tq_iconst (nI 0) dX9_startTag_335 (by decide) ?_
  refine tq_istore (L' := [(5, vI (nI 0)), (0, vR v0), (2, vI v2), (3, vI v3), (4, vI v4)]) dX9_startTag_336 (by decide) rfl ?_
  exact tq_sub [1, 2, 3, 4, 0] rfl (tX9_startTag_338 G hr244 FU v0 v2 v3 v4 (nI 0) h)
noncomputable def fX9_startTag_292 (r244 : Option Nat → Int32 → Int32 → Int32 → AH → Option (Unit × AH)) : Nat → Option Nat → Int32 → Int32 → Int32 → Int32 → AH → Option (Unit × AH)
  | 0, _, _, _, _, _, _ => none
  | n + 1, v0, v2, v3, v4, v5, h => if (nI 8) ≤ v5 then (fX9_startTag_335 r244 v0 v2 v3 v4 h) else (cGR h 9 467 v0 fun x1 => cGR h 9 487 v0 fun x2 => cAL h 1 x2 (((nI 8) * v4) + v5) fun x3 => cAS h 1 x1 (((nI 8) * (((nI 4) * v3) + v4)) + v5) x3 fun h4 => fX9_startTag_292 r244 n v0 v2 v3 v4 (v5 + (nI 1)) h4)
theorem tX9_startTag_292 (G : sr_G) {r244 : Option Nat → Int32 → Int32 → Int32 → AH → Option (Unit × AH)} (hr244 : ∀ (v0 : Option Nat) (v2 : Int32) (v3 : Int32) (v4 : Int32) (h : AH), sr_T (X := Unit) G 2 RX9 cX9_startTag 6 none false (sr_M G jV) 244 [(0, vR v0), (2, vI v2), (3, vI v3), (4, vI v4)] [] h (r244 v0 v2 v3 v4 h)) : ∀ (n : Nat) (v0 : Option Nat) (v2 : Int32) (v3 : Int32) (v4 : Int32) (v5 : Int32) (h : AH), sr_T (X := Unit) G 2 RX9 cX9_startTag 6 none false (sr_M G jV) 292 [(0, vR v0), (2, vI v2), (3, vI v3), (4, vI v4), (5, vI v5)] [] h (fX9_startTag_292 r244 n v0 v2 v3 v4 v5 h) := by
  intro n
  induction n with
  | zero => intro v0 v2 v3 v4 v5 h; exact tq_none
  | succ n ih =>
    intro v0 v2 v3 v4 v5 h
    unfold fX9_startTag_292
    refine tq_iload 4 dX9_startTag_292 rfl ?_
    refine tq_bipush (nI 8) dX9_startTag_294 (by decide) ?_
    refine tq_icmp_ge 335 dX9_startTag_296 (by decide) (fun _ => ?_) (fun _ => ?_)
    · exact tq_sub [0, 1, 2, 3] rfl (tX9_startTag_335 G hr244 v0 v2 v3 v4 h)
    · refine tq_aload_n 0 0 dX9_startTag_299 rfl rfl ?_
      refine tq_getR 17 dX9_startTag_300 cfX9 (by decide) wd_889 rfl rfl (fun x1 => ?_)
      refine tq_bipush (nI 8) dX9_startTag_303 (by decide) ?_
      refine tq_iconst (nI 4) dX9_startTag_305 (by decide) ?_
      refine tq_iload_n 3 2 dX9_startTag_306 rfl rfl ?_
      refine tq_imul dX9_startTag_307 ?_
      refine tq_iload 3 dX9_startTag_308 rfl ?_
      refine tq_iadd dX9_startTag_310 ?_
      refine tq_imul dX9_startTag_311 ?_
      refine tq_iload 4 dX9_startTag_312 rfl ?_
      refine tq_iadd dX9_startTag_314 ?_
      refine tq_aload_n 0 0 dX9_startTag_315 rfl rfl ?_
      refine tq_getR 37 dX9_startTag_316 cfX9 (by decide) wd_909 rfl rfl (fun x2 => ?_)
      refine tq_bipush (nI 8) dX9_startTag_319 (by decide) ?_
      refine tq_iload 3 dX9_startTag_321 rfl ?_
      refine tq_imul dX9_startTag_323 ?_
      refine tq_iload 4 dX9_startTag_324 rfl ?_
      refine tq_iadd dX9_startTag_326 ?_
      refine tq_bald dX9_startTag_327 (fun x3 => ?_)
      refine tq_bast dX9_startTag_328 (fun h4 => ?_)
      refine tq_iinc 4 (nI 1) (L' := [(5, vI (v5 + (nI 1))), (0, vR v0), (2, vI v2), (3, vI v3), (4, vI v4)]) dX9_startTag_329 rfl (by decide) (by decide) rfl ?_
      refine tq_goto 292 dX9_startTag_332 (by decide) ?_
      exact tq_sub [1, 2, 3, 4, 0] rfl (ih v0 v2 v3 v4 (v5 + (nI 1)) h4)
noncomputable def fX9_startTag_244  : Nat → Option Nat → Int32 → Int32 → Int32 → AH → Option (Unit × AH)
  | 0, _, _, _, _, _ => none
  | n + 1, v0, v2, v3, v4, h => cGI h 9 486 v0 fun x1 => if x1 ≤ v4 then (fX9_startTag_387 v0 v2 v3 h) else (cGR h 9 468 v0 fun x2 => cGR h 9 488 v0 fun x3 => cAL h 0 x3 v4 fun x4 => cAS h 0 x2 (((nI 4) * v3) + v4) x4 fun h5 => cGR h5 9 470 v0 fun x6 => cGR h5 9 490 v0 fun x7 => cAL h5 0 x7 v4 fun x8 => cAS h5 0 x6 (((nI 4) * v3) + v4) x8 fun h9 => fX9_startTag_292 (fX9_startTag_244 n) FU v0 v2 v3 v4 (nI 0) h9)
theorem tX9_startTag_244 (G : sr_G) : ∀ (n : Nat) (v0 : Option Nat) (v2 : Int32) (v3 : Int32) (v4 : Int32) (h : AH), sr_T (X := Unit) G 2 RX9 cX9_startTag 6 none false (sr_M G jV) 244 [(0, vR v0), (2, vI v2), (3, vI v3), (4, vI v4)] [] h (fX9_startTag_244  n v0 v2 v3 v4 h) := by
  intro n
  induction n with
  | zero => intro v0 v2 v3 v4 h; exact tq_none
  | succ n ih =>
    intro v0 v2 v3 v4 h
    unfold fX9_startTag_244
    refine tq_iload 3 dX9_startTag_244 rfl ?_
    refine tq_aload_n 0 0 dX9_startTag_246 rfl rfl ?_
    refine tq_getI 36 dX9_startTag_247 cfX9 (by decide) wd_908 rfl rfl (fun x1 => ?_)
    refine tq_icmp_ge 387 dX9_startTag_250 (by decide) (fun _ => ?_) (fun _ => ?_)
    · exact tq_sub [0, 1, 2] rfl (tX9_startTag_387 G v0 v2 v3 h)
    · refine tq_aload_n 0 0 dX9_startTag_253 rfl rfl ?_
      refine tq_getR 18 dX9_startTag_254 cfX9 (by decide) wd_890 rfl rfl (fun x2 => ?_)
      refine tq_iconst (nI 4) dX9_startTag_257 (by decide) ?_
      refine tq_iload_n 3 2 dX9_startTag_258 rfl rfl ?_
      refine tq_imul dX9_startTag_259 ?_
      refine tq_iload 3 dX9_startTag_260 rfl ?_
      refine tq_iadd dX9_startTag_262 ?_
      refine tq_aload_n 0 0 dX9_startTag_263 rfl rfl ?_
      refine tq_getR 38 dX9_startTag_264 cfX9 (by decide) wd_910 rfl rfl (fun x3 => ?_)
      refine tq_iload 3 dX9_startTag_267 rfl ?_
      refine tq_iald dX9_startTag_269 (fun x4 => ?_)
      refine tq_iast dX9_startTag_270 (fun h5 => ?_)
      refine tq_aload_n 0 0 dX9_startTag_271 rfl rfl ?_
      refine tq_getR 20 dX9_startTag_272 cfX9 (by decide) wd_892 rfl rfl (fun x6 => ?_)
      refine tq_iconst (nI 4) dX9_startTag_275 (by decide) ?_
      refine tq_iload_n 3 2 dX9_startTag_276 rfl rfl ?_
      refine tq_imul dX9_startTag_277 ?_
      refine tq_iload 3 dX9_startTag_278 rfl ?_
      refine tq_iadd dX9_startTag_280 ?_
      refine tq_aload_n 0 0 dX9_startTag_281 rfl rfl ?_
      refine tq_getR 40 dX9_startTag_282 cfX9 (by decide) wd_912 rfl rfl (fun x7 => ?_)
      refine tq_iload 3 dX9_startTag_285 rfl ?_
      refine tq_iald dX9_startTag_287 (fun x8 => ?_)
      refine tq_iast dX9_startTag_288 (fun h9 => ?_)
      refine tq_iconst (nI 0) dX9_startTag_289 (by decide) ?_
      refine tq_istore (L' := [(5, vI (nI 0)), (0, vR v0), (2, vI v2), (3, vI v3), (4, vI v4)]) dX9_startTag_290 (by decide) rfl ?_
      exact tq_sub [1, 2, 3, 4, 0] rfl (tX9_startTag_292 G ih FU v0 v2 v3 v4 (nI 0) h9)
noncomputable def fX9_startTag_189  (v0 : Option Nat) (v1 : Int32) (v2 : Int32) (h : AH) : Option (Unit × AH) := cGR h 9 479 v0 fun x1 => cGI h 9 480 v0 fun x2 => cAL h 0 x1 (x2 - (nI 1)) fun x3 => cCV h 9 v0 (fX9_fresh v0 x3 h) fun x5 h4 => if x5 = (-1) then (cCV h4 9 v0 (fX9_tellFault v0 (nI 6) v1 h4) fun _ h12 => some ((), h12)) else (cCV h4 9 v0 (fX9_element v0 x5 v2 h4) fun _ h6 => cGR h6 9 474 v0 fun x7 => cAS h6 0 x7 x5 v1 fun h8 => cGR h8 9 466 v0 fun x9 => cGI h8 9 486 v0 fun x10 => cAS h8 0 x9 x5 x10 fun h11 => fX9_startTag_244 FU v0 v2 x5 (nI 0) h11)
theorem tX9_startTag_189 (G : sr_G) (v0 : Option Nat) (v1 : Int32) (v2 : Int32) (h : AH) : sr_T (X := Unit) G 2 RX9 cX9_startTag 6 none false (sr_M G jV) 189 [(0, vR v0), (1, vI v1), (2, vI v2)] [] h (fX9_startTag_189  v0 v1 v2 h) := by
  unfold fX9_startTag_189
  refine tq_aload_n 0 0 dX9_startTag_189 rfl rfl ?_
  refine tq_aload_n 0 0 dX9_startTag_190 rfl rfl ?_
  refine tq_getR 29 dX9_startTag_191 cfX9 (by decide) wd_901 rfl rfl (fun x1 => ?_)
  refine tq_aload_n 0 0 dX9_startTag_194 rfl rfl ?_
  refine tq_getI 30 dX9_startTag_195 cfX9 (by decide) wd_902 rfl rfl (fun x2 => ?_)
  refine tq_iconst (nI 1) dX9_startTag_198 (by decide) ?_
  refine tq_isub dX9_startTag_199 ?_
  refine tq_iald dX9_startTag_200 (fun x3 => ?_)
  refine tq_cVI [vI x3] [] dX9_startTag_201 (eX9_fresh G v0 x3 h) (by decide) mbX9_fresh cfX9 rfl wd_868 wd_870 wd_44 rfl rfl (Nat.le_of_ble_eq_true rfl) (fun x5 h4 => ?_)
  refine tq_istore_n 3 (L' := [(3, vI x5), (0, vR v0), (1, vI v1), (2, vI v2)]) dX9_startTag_204 rfl (by decide) rfl ?_
  refine tq_iload_n 3 0 dX9_startTag_205 rfl rfl ?_
  refine tq_iconst (-1) dX9_startTag_206 (by decide) ?_
  refine tq_icmp_ne 218 dX9_startTag_207 (by decide) (fun _ => ?_) (fun _ => ?_)
  · refine tq_aload_n 0 1 dX9_startTag_218 rfl rfl ?_
    refine tq_iload_n 3 0 dX9_startTag_219 rfl rfl ?_
    refine tq_iload_n 2 3 dX9_startTag_220 rfl rfl ?_
    refine tq_cVV [vI x5, vI v2] [] dX9_startTag_221 (eX9_element G v0 x5 v2 h4) (by decide) mbX9_element cfX9 rfl wd_1141 wd_1143 wd_61 rfl rfl (Nat.le_of_ble_eq_true rfl) (fun _ h6 => ?_)
    refine tq_aload_n 0 1 dX9_startTag_224 rfl rfl ?_
    refine tq_getR 24 dX9_startTag_225 cfX9 (by decide) wd_896 rfl rfl (fun x7 => ?_)
    refine tq_iload_n 3 0 dX9_startTag_228 rfl rfl ?_
    refine tq_iload_n 1 2 dX9_startTag_229 rfl rfl ?_
    refine tq_iast dX9_startTag_230 (fun h8 => ?_)
    refine tq_aload_n 0 1 dX9_startTag_231 rfl rfl ?_
    refine tq_getR 16 dX9_startTag_232 cfX9 (by decide) wd_888 rfl rfl (fun x9 => ?_)
    refine tq_iload_n 3 0 dX9_startTag_235 rfl rfl ?_
    refine tq_aload_n 0 1 dX9_startTag_236 rfl rfl ?_
    refine tq_getI 36 dX9_startTag_237 cfX9 (by decide) wd_908 rfl rfl (fun x10 => ?_)
    refine tq_iast dX9_startTag_240 (fun h11 => ?_)
    refine tq_iconst (nI 0) dX9_startTag_241 (by decide) ?_
    refine tq_istore (L' := [(4, vI (nI 0)), (3, vI x5), (0, vR v0), (1, vI v1), (2, vI v2)]) dX9_startTag_242 (by decide) rfl ?_
    exact tq_sub [2, 4, 1, 0] rfl (tX9_startTag_244 G FU v0 v2 x5 (nI 0) h11)
  · refine tq_aload_n 0 1 dX9_startTag_210 rfl rfl ?_
    refine tq_bipush (nI 6) dX9_startTag_211 (by decide) ?_
    refine tq_iload_n 1 2 dX9_startTag_213 rfl rfl ?_
    refine tq_cVV [vI (nI 6), vI v1] [] dX9_startTag_214 (eX9_tellFault G v0 (nI 6) v1 h4) (by decide) mbX9_tellFault cfX9 rfl wd_1091 wd_1093 wd_53 rfl rfl (Nat.le_of_ble_eq_true rfl) (fun _ h12 => ?_)
    exact tq_vret rfl dX9_startTag_217
noncomputable def fX9_startTag_167  (v0 : Option Nat) (v1 : Int32) (v2 : Int32) (v3 : Int32) (h : AH) : Option (Unit × AH) := if v3 ≤ 0 then (fX9_startTag_189 v0 v1 v2 h) else (cGR h 9 479 v0 fun x1 => cAL h 0 x1 v3 fun x2 => cCV h 9 v0 (fX9_closeTo v0 v3 (-1) x2 h) fun _ h3 => cCV h3 9 v0 (fX9_tellFault v0 (nI 5) v1 h3) fun _ h4 => fX9_startTag_189 v0 v1 v2 h4)
theorem tX9_startTag_167 (G : sr_G) (v0 : Option Nat) (v1 : Int32) (v2 : Int32) (v3 : Int32) (h : AH) : sr_T (X := Unit) G 2 RX9 cX9_startTag 6 none false (sr_M G jV) 167 [(0, vR v0), (1, vI v1), (2, vI v2), (3, vI v3)] [] h (fX9_startTag_167  v0 v1 v2 v3 h) := by
  unfold fX9_startTag_167
  refine tq_iload_n 3 3 dX9_startTag_167 rfl rfl ?_
  refine tq_if_le 189 dX9_startTag_168 (by decide) (fun _ => ?_) (fun _ => ?_)
  · exact tq_sub [0, 1, 2] rfl (tX9_startTag_189 G v0 v1 v2 h)
  · refine tq_aload_n 0 0 dX9_startTag_171 rfl rfl ?_
    refine tq_iload_n 3 3 dX9_startTag_172 rfl rfl ?_
    refine tq_iconst (-1) dX9_startTag_173 (by decide) ?_
    refine tq_aload_n 0 0 dX9_startTag_174 rfl rfl ?_
    refine tq_getR 29 dX9_startTag_175 cfX9 (by decide) wd_901 rfl rfl (fun x1 => ?_)
    refine tq_iload_n 3 3 dX9_startTag_178 rfl rfl ?_
    refine tq_iald dX9_startTag_179 (fun x2 => ?_)
    refine tq_cVV [vI v3, vI (-1), vI x2] [] dX9_startTag_180 (eX9_closeTo G v0 v3 (-1) x2 h) (by decide) mbX9_closeTo cfX9 rfl wd_1130 wd_1132 wd_59 rfl rfl (Nat.le_of_ble_eq_true rfl) (fun _ h3 => ?_)
    refine tq_aload_n 0 0 dX9_startTag_183 rfl rfl ?_
    refine tq_iconst (nI 5) dX9_startTag_184 (by decide) ?_
    refine tq_iload_n 1 1 dX9_startTag_185 rfl rfl ?_
    refine tq_cVV [vI (nI 5), vI v1] [] dX9_startTag_186 (eX9_tellFault G v0 (nI 5) v1 h3) (by decide) mbX9_tellFault cfX9 rfl wd_1091 wd_1093 wd_53 rfl rfl (Nat.le_of_ble_eq_true rfl) (fun _ h4 => ?_)
    exact tq_sub [0, 1, 2] rfl (tX9_startTag_189 G v0 v1 v2 h4)
noncomputable def fX9_startTag_141  : Nat → Option Nat → Int32 → Int32 → Int32 → AH → Option (Unit × AH)
  | 0, _, _, _, _, _ => none
  | n + 1, v0, v1, v2, v3, h => if v3 ≤ 0 then (fX9_startTag_167 v0 v1 v2 v3 h) else (cGR h 9 457 v0 fun x1 => cGR h 9 479 v0 fun x2 => cAL h 0 x2 v3 fun x3 => cAL h 0 x1 x3 fun x4 => if x4 = (nI 7) then (fX9_startTag_167 v0 v1 v2 v3 h) else (fX9_startTag_141 n v0 v1 v2 (v3 + (-1)) h))
theorem tX9_startTag_141 (G : sr_G) : ∀ (n : Nat) (v0 : Option Nat) (v1 : Int32) (v2 : Int32) (v3 : Int32) (h : AH), sr_T (X := Unit) G 2 RX9 cX9_startTag 6 none false (sr_M G jV) 141 [(0, vR v0), (1, vI v1), (2, vI v2), (3, vI v3)] [] h (fX9_startTag_141  n v0 v1 v2 v3 h) := by
  intro n
  induction n with
  | zero => intro v0 v1 v2 v3 h; exact tq_none
  | succ n ih =>
    intro v0 v1 v2 v3 h
    unfold fX9_startTag_141
    refine tq_iload_n 3 3 dX9_startTag_141 rfl rfl ?_
    refine tq_if_le 167 dX9_startTag_142 (by decide) (fun _ => ?_) (fun _ => ?_)
    · exact tX9_startTag_167 G v0 v1 v2 v3 h
    · refine tq_aload_n 0 0 dX9_startTag_145 rfl rfl ?_
      refine tq_getR 7 dX9_startTag_146 cfX9 (by decide) wd_879 rfl rfl (fun x1 => ?_)
      refine tq_aload_n 0 0 dX9_startTag_149 rfl rfl ?_
      refine tq_getR 29 dX9_startTag_150 cfX9 (by decide) wd_901 rfl rfl (fun x2 => ?_)
      refine tq_iload_n 3 3 dX9_startTag_153 rfl rfl ?_
      refine tq_iald dX9_startTag_154 (fun x3 => ?_)
      refine tq_iald dX9_startTag_155 (fun x4 => ?_)
      refine tq_bipush (nI 7) dX9_startTag_156 (by decide) ?_
      refine tq_icmp_eq 167 dX9_startTag_158 (by decide) (fun _ => ?_) (fun _ => ?_)
      · exact tX9_startTag_167 G v0 v1 v2 v3 h
      · refine tq_iinc 3 (-1) (L' := [(3, vI (v3 + (-1))), (0, vR v0), (1, vI v1), (2, vI v2)]) dX9_startTag_161 rfl (by decide) (by decide) rfl ?_
        refine tq_goto 141 dX9_startTag_164 (by decide) ?_
        exact tq_sub [1, 2, 3, 0] rfl (ih v0 v1 v2 (v3 + (-1)) h)
noncomputable def fX9_startTag_128  (v0 : Option Nat) (v1 : Int32) (v2 : Int32) (h : AH) : Option (Unit × AH) := if v2 = (nI 7) then (cGI h 9 480 v0 fun x1 => fX9_startTag_141 FU v0 v1 v2 (x1 - (nI 1)) h) else (fX9_startTag_189 v0 v1 v2 h)
theorem tX9_startTag_128 (G : sr_G) (v0 : Option Nat) (v1 : Int32) (v2 : Int32) (h : AH) : sr_T (X := Unit) G 2 RX9 cX9_startTag 6 none false (sr_M G jV) 128 [(0, vR v0), (1, vI v1), (2, vI v2)] [] h (fX9_startTag_128  v0 v1 v2 h) := by
  unfold fX9_startTag_128
  refine tq_iload_n 2 2 dX9_startTag_128 rfl rfl ?_
  refine tq_bipush (nI 7) dX9_startTag_129 (by decide) ?_
  refine tq_icmp_ne 189 dX9_startTag_131 (by decide) (fun _ => ?_) (fun _ => ?_)
  · exact tX9_startTag_189 G v0 v1 v2 h
  · refine tq_aload_n 0 0 dX9_startTag_134 rfl rfl ?_
    refine tq_getI 30 dX9_startTag_135 cfX9 (by decide) wd_902 rfl rfl (fun x1 => ?_)
    refine tq_iconst (nI 1) dX9_startTag_138 (by decide) ?_
    refine tq_isub dX9_startTag_139 ?_
    refine tq_istore_n 3 (L' := [(3, vI (x1 - (nI 1))), (0, vR v0), (1, vI v1), (2, vI v2)]) dX9_startTag_140 rfl (by decide) rfl ?_
    exact tq_sub [1, 2, 3, 0] rfl (tX9_startTag_141 G FU v0 v1 v2 (x1 - (nI 1)) h)
noncomputable def fX9_startTag_102  (v0 : Option Nat) (v1 : Int32) (v2 : Int32) (v3 : Int32) (h : AH) : Option (Unit × AH) := if v3 ≤ 0 then (fX9_startTag_128 v0 v1 v2 h) else (cGR h 9 457 v0 fun x1 => cGR h 9 479 v0 fun x2 => cAL h 0 x2 v3 fun x3 => cAL h 0 x1 x3 fun x4 => if x4 = (nI 4) then (cCV h 9 v0 (fX9_closeTo v0 v3 (-1) (-1) h) fun _ h5 => fX9_startTag_128 v0 v1 v2 h5) else (fX9_startTag_128 v0 v1 v2 h))
theorem tX9_startTag_102 (G : sr_G) (v0 : Option Nat) (v1 : Int32) (v2 : Int32) (v3 : Int32) (h : AH) : sr_T (X := Unit) G 2 RX9 cX9_startTag 6 none false (sr_M G jV) 102 [(0, vR v0), (1, vI v1), (2, vI v2), (3, vI v3)] [] h (fX9_startTag_102  v0 v1 v2 v3 h) := by
  unfold fX9_startTag_102
  refine tq_iload_n 3 3 dX9_startTag_102 rfl rfl ?_
  refine tq_if_le 128 dX9_startTag_103 (by decide) (fun _ => ?_) (fun _ => ?_)
  · exact tq_sub [0, 1, 2] rfl (tX9_startTag_128 G v0 v1 v2 h)
  · refine tq_aload_n 0 0 dX9_startTag_106 rfl rfl ?_
    refine tq_getR 7 dX9_startTag_107 cfX9 (by decide) wd_879 rfl rfl (fun x1 => ?_)
    refine tq_aload_n 0 0 dX9_startTag_110 rfl rfl ?_
    refine tq_getR 29 dX9_startTag_111 cfX9 (by decide) wd_901 rfl rfl (fun x2 => ?_)
    refine tq_iload_n 3 3 dX9_startTag_114 rfl rfl ?_
    refine tq_iald dX9_startTag_115 (fun x3 => ?_)
    refine tq_iald dX9_startTag_116 (fun x4 => ?_)
    refine tq_iconst (nI 4) dX9_startTag_117 (by decide) ?_
    refine tq_icmp_ne 128 dX9_startTag_118 (by decide) (fun _ => ?_) (fun _ => ?_)
    · exact tq_sub [0, 1, 2] rfl (tX9_startTag_128 G v0 v1 v2 h)
    · refine tq_aload_n 0 0 dX9_startTag_121 rfl rfl ?_
      refine tq_iload_n 3 3 dX9_startTag_122 rfl rfl ?_
      refine tq_iconst (-1) dX9_startTag_123 (by decide) ?_
      refine tq_iconst (-1) dX9_startTag_124 (by decide) ?_
      refine tq_cVV [vI v3, vI (-1), vI (-1)] [] dX9_startTag_125 (eX9_closeTo G v0 v3 (-1) (-1) h) (by decide) mbX9_closeTo cfX9 rfl wd_1130 wd_1132 wd_59 rfl rfl (Nat.le_of_ble_eq_true rfl) (fun _ h5 => ?_)
      exact tq_sub [0, 1, 2] rfl (tX9_startTag_128 G v0 v1 v2 h5)
noncomputable def fX9_startTag_62  : Nat → Option Nat → Int32 → Int32 → Int32 → AH → Option (Unit × AH)
  | 0, _, _, _, _, _ => none
  | n + 1, v0, v1, v2, v3, h => if v3 ≤ 0 then (fX9_startTag_102 v0 v1 v2 v3 h) else (cGR h 9 457 v0 fun x1 => cGR h 9 479 v0 fun x2 => cAL h 0 x2 v3 fun x3 => cAL h 0 x1 x3 fun x4 => if x4 = (nI 4) then (fX9_startTag_102 v0 v1 v2 v3 h) else (cGR h 9 457 v0 fun x5 => cGR h 9 479 v0 fun x6 => cAL h 0 x6 v3 fun x7 => cAL h 0 x5 x7 fun x8 => if x8 = (nI 3) then (fX9_startTag_102 v0 v1 v2 v3 h) else (fX9_startTag_62 n v0 v1 v2 (v3 + (-1)) h)))
theorem tX9_startTag_62 (G : sr_G) : ∀ (n : Nat) (v0 : Option Nat) (v1 : Int32) (v2 : Int32) (v3 : Int32) (h : AH), sr_T (X := Unit) G 2 RX9 cX9_startTag 6 none false (sr_M G jV) 62 [(0, vR v0), (1, vI v1), (2, vI v2), (3, vI v3)] [] h (fX9_startTag_62  n v0 v1 v2 v3 h) := by
  intro n
  induction n with
  | zero => intro v0 v1 v2 v3 h; exact tq_none
  | succ n ih =>
    intro v0 v1 v2 v3 h
    unfold fX9_startTag_62
    refine tq_iload_n 3 3 dX9_startTag_62 rfl rfl ?_
    refine tq_if_le 102 dX9_startTag_63 (by decide) (fun _ => ?_) (fun _ => ?_)
    · exact tX9_startTag_102 G v0 v1 v2 v3 h
    · refine tq_aload_n 0 0 dX9_startTag_66 rfl rfl ?_
      refine tq_getR 7 dX9_startTag_67 cfX9 (by decide) wd_879 rfl rfl (fun x1 => ?_)
      refine tq_aload_n 0 0 dX9_startTag_70 rfl rfl ?_
      refine tq_getR 29 dX9_startTag_71 cfX9 (by decide) wd_901 rfl rfl (fun x2 => ?_)
      refine tq_iload_n 3 3 dX9_startTag_74 rfl rfl ?_
      refine tq_iald dX9_startTag_75 (fun x3 => ?_)
      refine tq_iald dX9_startTag_76 (fun x4 => ?_)
      refine tq_iconst (nI 4) dX9_startTag_77 (by decide) ?_
      refine tq_icmp_eq 102 dX9_startTag_78 (by decide) (fun _ => ?_) (fun _ => ?_)
      · exact tX9_startTag_102 G v0 v1 v2 v3 h
      · refine tq_aload_n 0 0 dX9_startTag_81 rfl rfl ?_
        refine tq_getR 7 dX9_startTag_82 cfX9 (by decide) wd_879 rfl rfl (fun x5 => ?_)
        refine tq_aload_n 0 0 dX9_startTag_85 rfl rfl ?_
        refine tq_getR 29 dX9_startTag_86 cfX9 (by decide) wd_901 rfl rfl (fun x6 => ?_)
        refine tq_iload_n 3 3 dX9_startTag_89 rfl rfl ?_
        refine tq_iald dX9_startTag_90 (fun x7 => ?_)
        refine tq_iald dX9_startTag_91 (fun x8 => ?_)
        refine tq_iconst (nI 3) dX9_startTag_92 (by decide) ?_
        refine tq_icmp_eq 102 dX9_startTag_93 (by decide) (fun _ => ?_) (fun _ => ?_)
        · exact tX9_startTag_102 G v0 v1 v2 v3 h
        · refine tq_iinc 3 (-1) (L' := [(3, vI (v3 + (-1))), (0, vR v0), (1, vI v1), (2, vI v2)]) dX9_startTag_96 rfl (by decide) (by decide) rfl ?_
          refine tq_goto 62 dX9_startTag_99 (by decide) ?_
          exact tq_sub [1, 2, 3, 0] rfl (ih v0 v1 v2 (v3 + (-1)) h)
noncomputable def fX9_startTag_50  (v0 : Option Nat) (v1 : Int32) (v2 : Int32) (h : AH) : Option (Unit × AH) := if v2 = (nI 4) then (cGI h 9 480 v0 fun x1 => fX9_startTag_62 FU v0 v1 v2 (x1 - (nI 1)) h) else (fX9_startTag_128 v0 v1 v2 h)
theorem tX9_startTag_50 (G : sr_G) (v0 : Option Nat) (v1 : Int32) (v2 : Int32) (h : AH) : sr_T (X := Unit) G 2 RX9 cX9_startTag 6 none false (sr_M G jV) 50 [(0, vR v0), (1, vI v1), (2, vI v2)] [] h (fX9_startTag_50  v0 v1 v2 h) := by
  unfold fX9_startTag_50
  refine tq_iload_n 2 2 dX9_startTag_50 rfl rfl ?_
  refine tq_iconst (nI 4) dX9_startTag_51 (by decide) ?_
  refine tq_icmp_ne 128 dX9_startTag_52 (by decide) (fun _ => ?_) (fun _ => ?_)
  · exact tX9_startTag_128 G v0 v1 v2 h
  · refine tq_aload_n 0 0 dX9_startTag_55 rfl rfl ?_
    refine tq_getI 30 dX9_startTag_56 cfX9 (by decide) wd_902 rfl rfl (fun x1 => ?_)
    refine tq_iconst (nI 1) dX9_startTag_59 (by decide) ?_
    refine tq_isub dX9_startTag_60 ?_
    refine tq_istore_n 3 (L' := [(3, vI (x1 - (nI 1))), (0, vR v0), (1, vI v1), (2, vI v2)]) dX9_startTag_61 rfl (by decide) rfl ?_
    exact tq_sub [1, 2, 3, 0] rfl (tX9_startTag_62 G FU v0 v1 v2 (x1 - (nI 1)) h)
noncomputable def fX9_startTag_39  (v0 : Option Nat) (v1 : Int32) (v2 : Int32) (v3 : Int32) (h : AH) : Option (Unit × AH) := if v3 ≤ 0 then (fX9_startTag_50 v0 v1 v2 h) else (cCV h 9 v0 (fX9_closeTo v0 v3 (-1) (-1) h) fun _ h1 => fX9_startTag_50 v0 v1 v2 h1)
theorem tX9_startTag_39 (G : sr_G) (v0 : Option Nat) (v1 : Int32) (v2 : Int32) (v3 : Int32) (h : AH) : sr_T (X := Unit) G 2 RX9 cX9_startTag 6 none false (sr_M G jV) 39 [(0, vR v0), (1, vI v1), (2, vI v2), (3, vI v3)] [] h (fX9_startTag_39  v0 v1 v2 v3 h) := by
  unfold fX9_startTag_39
  refine tq_iload_n 3 3 dX9_startTag_39 rfl rfl ?_
  refine tq_if_le 50 dX9_startTag_40 (by decide) (fun _ => ?_) (fun _ => ?_)
  · exact tq_sub [0, 1, 2] rfl (tX9_startTag_50 G v0 v1 v2 h)
  · refine tq_aload_n 0 0 dX9_startTag_43 rfl rfl ?_
    refine tq_iload_n 3 3 dX9_startTag_44 rfl rfl ?_
    refine tq_iconst (-1) dX9_startTag_45 (by decide) ?_
    refine tq_iconst (-1) dX9_startTag_46 (by decide) ?_
    refine tq_cVV [vI v3, vI (-1), vI (-1)] [] dX9_startTag_47 (eX9_closeTo G v0 v3 (-1) (-1) h) (by decide) mbX9_closeTo cfX9 rfl wd_1130 wd_1132 wd_59 rfl rfl (Nat.le_of_ble_eq_true rfl) (fun _ h1 => ?_)
    exact tq_sub [0, 1, 2] rfl (tX9_startTag_50 G v0 v1 v2 h1)
noncomputable def fX9_startTag_14  : Nat → Option Nat → Int32 → Int32 → Int32 → AH → Option (Unit × AH)
  | 0, _, _, _, _, _ => none
  | n + 1, v0, v1, v2, v3, h => if v3 ≤ 0 then (fX9_startTag_39 v0 v1 v2 v3 h) else (cGR h 9 457 v0 fun x1 => cGR h 9 479 v0 fun x2 => cAL h 0 x2 v3 fun x3 => cAL h 0 x1 x3 fun x4 => if x4 = (nI 1) then (fX9_startTag_39 v0 v1 v2 v3 h) else (fX9_startTag_14 n v0 v1 v2 (v3 + (-1)) h))
theorem tX9_startTag_14 (G : sr_G) : ∀ (n : Nat) (v0 : Option Nat) (v1 : Int32) (v2 : Int32) (v3 : Int32) (h : AH), sr_T (X := Unit) G 2 RX9 cX9_startTag 6 none false (sr_M G jV) 14 [(0, vR v0), (1, vI v1), (2, vI v2), (3, vI v3)] [] h (fX9_startTag_14  n v0 v1 v2 v3 h) := by
  intro n
  induction n with
  | zero => intro v0 v1 v2 v3 h; exact tq_none
  | succ n ih =>
    intro v0 v1 v2 v3 h
    unfold fX9_startTag_14
    refine tq_iload_n 3 3 dX9_startTag_14 rfl rfl ?_
    refine tq_if_le 39 dX9_startTag_15 (by decide) (fun _ => ?_) (fun _ => ?_)
    · exact tX9_startTag_39 G v0 v1 v2 v3 h
    · refine tq_aload_n 0 0 dX9_startTag_18 rfl rfl ?_
      refine tq_getR 7 dX9_startTag_19 cfX9 (by decide) wd_879 rfl rfl (fun x1 => ?_)
      refine tq_aload_n 0 0 dX9_startTag_22 rfl rfl ?_
      refine tq_getR 29 dX9_startTag_23 cfX9 (by decide) wd_901 rfl rfl (fun x2 => ?_)
      refine tq_iload_n 3 3 dX9_startTag_26 rfl rfl ?_
      refine tq_iald dX9_startTag_27 (fun x3 => ?_)
      refine tq_iald dX9_startTag_28 (fun x4 => ?_)
      refine tq_iconst (nI 1) dX9_startTag_29 (by decide) ?_
      refine tq_icmp_eq 39 dX9_startTag_30 (by decide) (fun _ => ?_) (fun _ => ?_)
      · exact tX9_startTag_39 G v0 v1 v2 v3 h
      · refine tq_iinc 3 (-1) (L' := [(3, vI (v3 + (-1))), (0, vR v0), (1, vI v1), (2, vI v2)]) dX9_startTag_33 rfl (by decide) (by decide) rfl ?_
        refine tq_goto 14 dX9_startTag_36 (by decide) ?_
        exact tq_sub [1, 2, 3, 0] rfl (ih v0 v1 v2 (v3 + (-1)) h)
noncomputable def fX9_startTag_0  (v0 : Option Nat) (v1 : Int32) (v2 : Int32) (h : AH) : Option (Unit × AH) := cCL (fX9_isBlockTag v2 h) fun x2 h1 => if x2 = 0 then (fX9_startTag_50 v0 v1 v2 h1) else (cGI h1 9 480 v0 fun x3 => fX9_startTag_14 FU v0 v1 v2 (x3 - (nI 1)) h1)
theorem tX9_startTag_0 (G : sr_G) (v0 : Option Nat) (v1 : Int32) (v2 : Int32) (h : AH) : sr_T (X := Unit) G 2 RX9 cX9_startTag 6 none false (sr_M G jV) 0 [(0, vR v0), (1, vI v1), (2, vI v2)] [] h (fX9_startTag_0  v0 v1 v2 h) := by
  unfold fX9_startTag_0
  refine tq_iload_n 2 2 dX9_startTag_0 rfl rfl ?_
  refine tq_cSI [vI v2] [] dX9_startTag_1 (eX9_isBlockTag G v2 h) (by decide) mbX9_isBlockTag wd_1138 wd_1139 rfl rfl (Nat.le_of_ble_eq_true rfl) (fun x2 h1 => ?_)
  refine tq_if_eq 50 dX9_startTag_4 (by decide) (fun _ => ?_) (fun _ => ?_)
  · exact tX9_startTag_50 G v0 v1 v2 h1
  · refine tq_aload_n 0 0 dX9_startTag_7 rfl rfl ?_
    refine tq_getI 30 dX9_startTag_8 cfX9 (by decide) wd_902 rfl rfl (fun x3 => ?_)
    refine tq_iconst (nI 1) dX9_startTag_11 (by decide) ?_
    refine tq_isub dX9_startTag_12 ?_
    refine tq_istore_n 3 (L' := [(3, vI (x3 - (nI 1))), (0, vR v0), (1, vI v1), (2, vI v2)]) dX9_startTag_13 rfl (by decide) rfl ?_
    exact tq_sub [1, 2, 3, 0] rfl (tX9_startTag_14 G FU v0 v1 v2 (x3 - (nI 1)) h1)
noncomputable def fX9_startTag (v0 : Option Nat) (v1 : Int32) (v2 : Int32) (h : AH) : Option (Unit × AH) := fX9_startTag_0 v0 v1 v2 h
theorem eX9_startTag (G : sr_G) (v0 : Option Nat) (v1 : Int32) (v2 : Int32) (h : AH) : sr_E G 2 yX9_startTag cX9_startTag 6 none jV [vR v0, vI v1, vI v2] h (fX9_startTag v0 v1 v2 h) := sr_E.of (own := RX9) (ini := false) (by decide) rfl (fun q => by first | rfl | cases q) rfl (Nat.le_of_ble_eq_true rfl) (tX9_startTag_0 G v0 v1 v2 h)
noncomputable def fX9_readTag_293  (v3 : Int32) (h : AH) : Option (Int32 × AH) := some ((v3 + (nI 1)), h)
theorem tX9_readTag_293 (G : sr_G) (v3 : Int32) (h : AH) : sr_T (X := Int32) G 3 RX9 cX9_readTag 7 (some .int) false (sr_M G jI) 293 [(3, vI v3)] [] h (fX9_readTag_293  v3 h) := by
  unfold fX9_readTag_293
  refine tq_iload_n 3 0 dX9_readTag_293 rfl rfl ?_
  refine tq_iconst (nI 1) dX9_readTag_294 (by decide) ?_
  refine tq_iadd dX9_readTag_295 ?_
  exact tq_iret rfl dX9_readTag_296
noncomputable def fX9_readTag_286  (v0 : Option Nat) (v1 : Int32) (v3 : Int32) (v5 : Int32) (h : AH) : Option (Int32 × AH) := cCV h 9 v0 (fX9_startTag v0 v1 v5 h) fun _ h1 => fX9_readTag_293 v3 h1
theorem tX9_readTag_286 (G : sr_G) (v0 : Option Nat) (v1 : Int32) (v3 : Int32) (v5 : Int32) (h : AH) : sr_T (X := Int32) G 3 RX9 cX9_readTag 7 (some .int) false (sr_M G jI) 286 [(0, vR v0), (1, vI v1), (3, vI v3), (5, vI v5)] [] h (fX9_readTag_286  v0 v1 v3 v5 h) := by
  unfold fX9_readTag_286
  refine tq_aload_n 0 0 dX9_readTag_286 rfl rfl ?_
  refine tq_iload_n 1 1 dX9_readTag_287 rfl rfl ?_
  refine tq_iload 3 dX9_readTag_288 rfl ?_
  refine tq_cVV [vI v1, vI v5] [] dX9_readTag_290 (eX9_startTag G v0 v1 v5 h) (by decide) mbX9_startTag cfX9 rfl wd_1134 wd_1136 wd_60 rfl rfl (Nat.le_of_ble_eq_true rfl) (fun _ h1 => ?_)
  exact tq_sub [2] rfl (tX9_readTag_293 G v3 h1)
noncomputable def fX9_readTag_259  : Nat → Option Nat → Int32 → Int32 → Int32 → Int32 → AH → Option (Int32 × AH)
  | 0, _, _, _, _, _, _ => none
  | n + 1, v0, v1, v3, v5, v6, h => cGI h 9 491 v0 fun x1 => if x1 ≤ v6 then (fX9_readTag_286 v0 v1 v3 v5 h) else (cGR h 9 492 v0 fun x2 => cAL h 0 x2 v6 fun x3 => cCV h 9 v0 (fX9_tellFault v0 (nI 2) x3 h) fun _ h4 => fX9_readTag_259 n v0 v1 v3 v5 (v6 + (nI 1)) h4)
theorem tX9_readTag_259 (G : sr_G) : ∀ (n : Nat) (v0 : Option Nat) (v1 : Int32) (v3 : Int32) (v5 : Int32) (v6 : Int32) (h : AH), sr_T (X := Int32) G 3 RX9 cX9_readTag 7 (some .int) false (sr_M G jI) 259 [(0, vR v0), (1, vI v1), (3, vI v3), (5, vI v5), (6, vI v6)] [] h (fX9_readTag_259  n v0 v1 v3 v5 v6 h) := by
  intro n
  induction n with
  | zero => intro v0 v1 v3 v5 v6 h; exact tq_none
  | succ n ih =>
    intro v0 v1 v3 v5 v6 h
    unfold fX9_readTag_259
    refine tq_iload 4 dX9_readTag_259 rfl ?_
    refine tq_aload_n 0 0 dX9_readTag_261 rfl rfl ?_
    refine tq_getI 41 dX9_readTag_262 cfX9 (by decide) wd_913 rfl rfl (fun x1 => ?_)
    refine tq_icmp_ge 286 dX9_readTag_265 (by decide) (fun _ => ?_) (fun _ => ?_)
    · exact tq_sub [0, 1, 2, 3] rfl (tX9_readTag_286 G v0 v1 v3 v5 h)
    · refine tq_aload_n 0 0 dX9_readTag_268 rfl rfl ?_
      refine tq_iconst (nI 2) dX9_readTag_269 (by decide) ?_
      refine tq_aload_n 0 0 dX9_readTag_270 rfl rfl ?_
      refine tq_getR 42 dX9_readTag_271 cfX9 (by decide) wd_914 rfl rfl (fun x2 => ?_)
      refine tq_iload 4 dX9_readTag_274 rfl ?_
      refine tq_iald dX9_readTag_276 (fun x3 => ?_)
      refine tq_cVV [vI (nI 2), vI x3] [] dX9_readTag_277 (eX9_tellFault G v0 (nI 2) x3 h) (by decide) mbX9_tellFault cfX9 rfl wd_1091 wd_1093 wd_53 rfl rfl (Nat.le_of_ble_eq_true rfl) (fun _ h4 => ?_)
      refine tq_iinc 4 (nI 1) (L' := [(6, vI (v6 + (nI 1))), (0, vR v0), (1, vI v1), (3, vI v3), (5, vI v5)]) dX9_readTag_280 rfl (by decide) (by decide) rfl ?_
      refine tq_goto 259 dX9_readTag_283 (by decide) ?_
      exact tq_sub [1, 2, 3, 4, 0] rfl (ih v0 v1 v3 v5 (v6 + (nI 1)) h4)
noncomputable def fX9_readTag_209  (v0 : Option Nat) (v1 : Int32) (v2 : Int32) (v3 : Int32) (h : AH) : Option (Int32 × AH) := cGI h 9 482 v0 fun x1 => if v3 < x1 then (cGR h 9 484 v0 fun x2 => cGI h 9 485 v0 fun x3 => cCL (fX9_tagOf x2 (nI 0) x3 h) fun x5 h4 => if v2 = 0 then (fX9_readTag_259 FU v0 v1 v3 x5 (nI 0) h4) else (cCV h4 9 v0 (fX9_endTag v0 v1 x5 h4) fun _ h6 => fX9_readTag_293 v3 h6)) else (cCV h 9 v0 (fX9_tellFault v0 (nI 1) v1 h) fun _ h7 => cGI h7 9 482 v0 fun x8 => some (x8, h7))
theorem tX9_readTag_209 (G : sr_G) (v0 : Option Nat) (v1 : Int32) (v2 : Int32) (v3 : Int32) (h : AH) : sr_T (X := Int32) G 3 RX9 cX9_readTag 7 (some .int) false (sr_M G jI) 209 [(0, vR v0), (1, vI v1), (2, vI v2), (3, vI v3)] [] h (fX9_readTag_209  v0 v1 v2 v3 h) := by
  unfold fX9_readTag_209
  refine tq_iload_n 3 3 dX9_readTag_209 rfl rfl ?_
  refine tq_aload_n 0 0 dX9_readTag_210 rfl rfl ?_
  refine tq_getI 32 dX9_readTag_211 cfX9 (by decide) wd_904 rfl rfl (fun x1 => ?_)
  refine tq_icmp_lt 228 dX9_readTag_214 (by decide) (fun _ => ?_) (fun _ => ?_)
  · refine tq_aload_n 0 0 dX9_readTag_228 rfl rfl ?_
    refine tq_getR 34 dX9_readTag_229 cfX9 (by decide) wd_906 rfl rfl (fun x2 => ?_)
    refine tq_iconst (nI 0) dX9_readTag_232 (by decide) ?_
    refine tq_aload_n 0 0 dX9_readTag_233 rfl rfl ?_
    refine tq_getI 35 dX9_readTag_234 cfX9 (by decide) wd_907 rfl rfl (fun x3 => ?_)
    refine tq_cSI [vR x2, vI (nI 0), vI x3] [] dX9_readTag_237 (eX9_tagOf G x2 (nI 0) x3 h) (by decide) mbX9_tagOf wd_1120 wd_1121 rfl rfl (Nat.le_of_ble_eq_true rfl) (fun x5 h4 => ?_)
    refine tq_istore (L' := [(5, vI x5), (0, vR v0), (1, vI v1), (2, vI v2), (3, vI v3)]) dX9_readTag_240 (by decide) rfl ?_
    refine tq_iload_n 2 3 dX9_readTag_242 rfl rfl ?_
    refine tq_if_eq 256 dX9_readTag_243 (by decide) (fun _ => ?_) (fun _ => ?_)
    · refine tq_iconst (nI 0) dX9_readTag_256 (by decide) ?_
      refine tq_istore (L' := [(6, vI (nI 0)), (5, vI x5), (0, vR v0), (1, vI v1), (2, vI v2), (3, vI v3)]) dX9_readTag_257 (by decide) rfl ?_
      exact tq_sub [2, 3, 5, 1, 0] rfl (tX9_readTag_259 G FU v0 v1 v3 x5 (nI 0) h4)
    · refine tq_aload_n 0 1 dX9_readTag_246 rfl rfl ?_
      refine tq_iload_n 1 2 dX9_readTag_247 rfl rfl ?_
      refine tq_iload 0 dX9_readTag_248 rfl ?_
      refine tq_cVV [vI v1, vI x5] [] dX9_readTag_250 (eX9_endTag G v0 v1 x5 h4) (by decide) mbX9_endTag cfX9 rfl wd_1126 wd_1128 wd_58 rfl rfl (Nat.le_of_ble_eq_true rfl) (fun _ h6 => ?_)
      refine tq_goto 293 dX9_readTag_253 (by decide) ?_
      exact tq_sub [4] rfl (tX9_readTag_293 G v3 h6)
  · refine tq_aload_n 0 0 dX9_readTag_217 rfl rfl ?_
    refine tq_iconst (nI 1) dX9_readTag_218 (by decide) ?_
    refine tq_iload_n 1 1 dX9_readTag_219 rfl rfl ?_
    refine tq_cVV [vI (nI 1), vI v1] [] dX9_readTag_220 (eX9_tellFault G v0 (nI 1) v1 h) (by decide) mbX9_tellFault cfX9 rfl wd_1091 wd_1093 wd_53 rfl rfl (Nat.le_of_ble_eq_true rfl) (fun _ h7 => ?_)
    refine tq_aload_n 0 0 dX9_readTag_223 rfl rfl ?_
    refine tq_getI 32 dX9_readTag_224 cfX9 (by decide) wd_904 rfl rfl (fun x8 => ?_)
    exact tq_iret rfl dX9_readTag_227
noncomputable def fX9_readTag_193 (r127 : Option Nat → Int32 → Int32 → Int32 → Int32 → AH → Option (Int32 × AH)) (v0 : Option Nat) (v1 : Int32) (v2 : Int32) (v3 : Int32) (s0 : Int32) (h : AH) : Option (Int32 × AH) := if s0 = 0 then (r127 v0 v1 v2 v3 s0 h) else (cCV h 9 v0 (fX9_readAttribute v0 v3 h) fun x2 h1 => r127 v0 v1 v2 x2 s0 h1)
theorem tX9_readTag_193 (G : sr_G) {r127 : Option Nat → Int32 → Int32 → Int32 → Int32 → AH → Option (Int32 × AH)} (hr127 : ∀ (v0 : Option Nat) (v1 : Int32) (v2 : Int32) (v3 : Int32) (v4 : Int32) (h : AH), sr_T (X := Int32) G 3 RX9 cX9_readTag 7 (some .int) false (sr_M G jI) 127 [(0, vR v0), (1, vI v1), (2, vI v2), (3, vI v3), (4, vI v4)] [] h (r127 v0 v1 v2 v3 v4 h)) (v0 : Option Nat) (v1 : Int32) (v2 : Int32) (v3 : Int32) (s0 : Int32) (h : AH) : sr_T (X := Int32) G 3 RX9 cX9_readTag 7 (some .int) false (sr_M G jI) 193 [(0, vR v0), (1, vI v1), (2, vI v2), (3, vI v3)] [vI s0] h (fX9_readTag_193 r127 v0 v1 v2 v3 s0 h) := by
  unfold fX9_readTag_193
  refine tq_istore (L' := [(4, vI s0), (0, vR v0), (1, vI v1), (2, vI v2), (3, vI v3)]) dX9_readTag_193 (by decide) rfl ?_
  refine tq_iload 0 dX9_readTag_195 rfl ?_
  refine tq_if_eq 127 dX9_readTag_197 (by decide) (fun _ => ?_) (fun _ => ?_)
  · exact tq_sub [1, 2, 3, 4, 0] rfl (hr127 v0 v1 v2 v3 s0 h)
  · refine tq_aload_n 0 1 dX9_readTag_200 rfl rfl ?_
    refine tq_iload_n 3 4 dX9_readTag_201 rfl rfl ?_
    refine tq_cVI [vI v3] [] dX9_readTag_202 (eX9_readAttribute G v0 v3 h) (by decide) mbX9_readAttribute cfX9 rfl wd_1113 wd_1115 wd_57 rfl rfl (Nat.le_of_ble_eq_true rfl) (fun x2 h1 => ?_)
    refine tq_istore_n 3 (L' := [(3, vI x2), (4, vI s0), (0, vR v0), (1, vI v1), (2, vI v2)]) dX9_readTag_205 rfl (by decide) rfl ?_
    refine tq_goto 127 dX9_readTag_206 (by decide) ?_
    exact tq_sub [2, 3, 4, 0, 1] rfl (hr127 v0 v1 v2 x2 s0 h1)
noncomputable def fX9_readTag_192 (r127 : Option Nat → Int32 → Int32 → Int32 → Int32 → AH → Option (Int32 × AH)) (v0 : Option Nat) (v1 : Int32) (v2 : Int32) (v3 : Int32) (h : AH) : Option (Int32 × AH) := fX9_readTag_193 r127 v0 v1 v2 v3 (nI 0) h
theorem tX9_readTag_192 (G : sr_G) {r127 : Option Nat → Int32 → Int32 → Int32 → Int32 → AH → Option (Int32 × AH)} (hr127 : ∀ (v0 : Option Nat) (v1 : Int32) (v2 : Int32) (v3 : Int32) (v4 : Int32) (h : AH), sr_T (X := Int32) G 3 RX9 cX9_readTag 7 (some .int) false (sr_M G jI) 127 [(0, vR v0), (1, vI v1), (2, vI v2), (3, vI v3), (4, vI v4)] [] h (r127 v0 v1 v2 v3 v4 h)) (v0 : Option Nat) (v1 : Int32) (v2 : Int32) (v3 : Int32) (h : AH) : sr_T (X := Int32) G 3 RX9 cX9_readTag 7 (some .int) false (sr_M G jI) 192 [(0, vR v0), (1, vI v1), (2, vI v2), (3, vI v3)] [] h (fX9_readTag_192 r127 v0 v1 v2 v3 h) := by
  unfold fX9_readTag_192
  refine tq_iconst (nI 0) dX9_readTag_192 (by decide) ?_
  exact tX9_readTag_193 G hr127 v0 v1 v2 v3 (nI 0) h
noncomputable def fX9_readTag_169 (r127 : Option Nat → Int32 → Int32 → Int32 → Int32 → AH → Option (Int32 × AH)) (v0 : Option Nat) (v1 : Int32) (v2 : Int32) (v3 : Int32) (h : AH) : Option (Int32 × AH) := cGI h 9 482 v0 fun x1 => if x1 ≤ v3 then (fX9_readTag_192 r127 v0 v1 v2 v3 h) else (cGR h 9 481 v0 fun x2 => cAL h 1 x2 v3 fun x3 => if x3 = (nI 62) then (fX9_readTag_192 r127 v0 v1 v2 v3 h) else (fX9_readTag_193 r127 v0 v1 v2 v3 (nI 1) h))
theorem tX9_readTag_169 (G : sr_G) {r127 : Option Nat → Int32 → Int32 → Int32 → Int32 → AH → Option (Int32 × AH)} (hr127 : ∀ (v0 : Option Nat) (v1 : Int32) (v2 : Int32) (v3 : Int32) (v4 : Int32) (h : AH), sr_T (X := Int32) G 3 RX9 cX9_readTag 7 (some .int) false (sr_M G jI) 127 [(0, vR v0), (1, vI v1), (2, vI v2), (3, vI v3), (4, vI v4)] [] h (r127 v0 v1 v2 v3 v4 h)) (v0 : Option Nat) (v1 : Int32) (v2 : Int32) (v3 : Int32) (h : AH) : sr_T (X := Int32) G 3 RX9 cX9_readTag 7 (some .int) false (sr_M G jI) 169 [(0, vR v0), (1, vI v1), (2, vI v2), (3, vI v3)] [] h (fX9_readTag_169 r127 v0 v1 v2 v3 h) := by
  unfold fX9_readTag_169
  refine tq_iload_n 3 3 dX9_readTag_169 rfl rfl ?_
  refine tq_aload_n 0 0 dX9_readTag_170 rfl rfl ?_
  refine tq_getI 32 dX9_readTag_171 cfX9 (by decide) wd_904 rfl rfl (fun x1 => ?_)
  refine tq_icmp_ge 192 dX9_readTag_174 (by decide) (fun _ => ?_) (fun _ => ?_)
  · exact tX9_readTag_192 G hr127 v0 v1 v2 v3 h
  · refine tq_aload_n 0 0 dX9_readTag_177 rfl rfl ?_
    refine tq_getR 31 dX9_readTag_178 cfX9 (by decide) wd_903 rfl rfl (fun x2 => ?_)
    refine tq_iload_n 3 3 dX9_readTag_181 rfl rfl ?_
    refine tq_bald dX9_readTag_182 (fun x3 => ?_)
    refine tq_bipush (nI 62) dX9_readTag_183 (by decide) ?_
    refine tq_icmp_eq 192 dX9_readTag_185 (by decide) (fun _ => ?_) (fun _ => ?_)
    · exact tX9_readTag_192 G hr127 v0 v1 v2 v3 h
    · refine tq_iconst (nI 1) dX9_readTag_188 (by decide) ?_
      refine tq_goto 193 dX9_readTag_189 (by decide) ?_
      exact tX9_readTag_193 G hr127 v0 v1 v2 v3 (nI 1) h
noncomputable def fX9_readTag_163 (r127 : Option Nat → Int32 → Int32 → Int32 → Int32 → AH → Option (Int32 × AH)) (r132 : Option Nat → Int32 → Int32 → Int32 → AH → Option (Int32 × AH)) (v0 : Option Nat) (v1 : Int32) (v2 : Int32) (v3 : Int32) (h : AH) : Option (Int32 × AH) := r132 v0 v1 v2 (v3 + (nI 1)) h
theorem tX9_readTag_163 (G : sr_G) {r127 : Option Nat → Int32 → Int32 → Int32 → Int32 → AH → Option (Int32 × AH)} (hr127 : ∀ (v0 : Option Nat) (v1 : Int32) (v2 : Int32) (v3 : Int32) (v4 : Int32) (h : AH), sr_T (X := Int32) G 3 RX9 cX9_readTag 7 (some .int) false (sr_M G jI) 127 [(0, vR v0), (1, vI v1), (2, vI v2), (3, vI v3), (4, vI v4)] [] h (r127 v0 v1 v2 v3 v4 h)) {r132 : Option Nat → Int32 → Int32 → Int32 → AH → Option (Int32 × AH)} (hr132 : ∀ (v0 : Option Nat) (v1 : Int32) (v2 : Int32) (v3 : Int32) (h : AH), sr_T (X := Int32) G 3 RX9 cX9_readTag 7 (some .int) false (sr_M G jI) 132 [(0, vR v0), (1, vI v1), (2, vI v2), (3, vI v3)] [] h (r132 v0 v1 v2 v3 h)) (v0 : Option Nat) (v1 : Int32) (v2 : Int32) (v3 : Int32) (h : AH) : sr_T (X := Int32) G 3 RX9 cX9_readTag 7 (some .int) false (sr_M G jI) 163 [(0, vR v0), (1, vI v1), (2, vI v2), (3, vI v3)] [] h (fX9_readTag_163 r127 r132 v0 v1 v2 v3 h) := by
  unfold fX9_readTag_163
  refine tq_iinc 3 (nI 1) (L' := [(3, vI (v3 + (nI 1))), (0, vR v0), (1, vI v1), (2, vI v2)]) dX9_readTag_163 rfl (by decide) (by decide) rfl ?_
  refine tq_goto 132 dX9_readTag_166 (by decide) ?_
  exact tq_sub [1, 2, 3, 0] rfl (hr132 v0 v1 v2 (v3 + (nI 1)) h)
noncomputable def fX9_readTag_132 (r127 : Option Nat → Int32 → Int32 → Int32 → Int32 → AH → Option (Int32 × AH)) : Nat → Option Nat → Int32 → Int32 → Int32 → AH → Option (Int32 × AH)
  | 0, _, _, _, _, _ => none
  | n + 1, v0, v1, v2, v3, h => cGI h 9 482 v0 fun x1 => if x1 ≤ v3 then (fX9_readTag_169 r127 v0 v1 v2 v3 h) else (cGR h 9 481 v0 fun x2 => cAL h 1 x2 v3 fun x3 => cCL (fX9_isBlank x3 h) fun x5 h4 => if x5 = 0 then (cGR h4 9 481 v0 fun x6 => cAL h4 1 x6 v3 fun x7 => if x7 = (nI 47) then (fX9_readTag_163 r127 (fX9_readTag_132 r127 n) v0 v1 v2 v3 h4) else (fX9_readTag_169 r127 v0 v1 v2 v3 h4)) else (fX9_readTag_163 r127 (fX9_readTag_132 r127 n) v0 v1 v2 v3 h4))
theorem tX9_readTag_132 (G : sr_G) {r127 : Option Nat → Int32 → Int32 → Int32 → Int32 → AH → Option (Int32 × AH)} (hr127 : ∀ (v0 : Option Nat) (v1 : Int32) (v2 : Int32) (v3 : Int32) (v4 : Int32) (h : AH), sr_T (X := Int32) G 3 RX9 cX9_readTag 7 (some .int) false (sr_M G jI) 127 [(0, vR v0), (1, vI v1), (2, vI v2), (3, vI v3), (4, vI v4)] [] h (r127 v0 v1 v2 v3 v4 h)) : ∀ (n : Nat) (v0 : Option Nat) (v1 : Int32) (v2 : Int32) (v3 : Int32) (h : AH), sr_T (X := Int32) G 3 RX9 cX9_readTag 7 (some .int) false (sr_M G jI) 132 [(0, vR v0), (1, vI v1), (2, vI v2), (3, vI v3)] [] h (fX9_readTag_132 r127 n v0 v1 v2 v3 h) := by
  intro n
  induction n with
  | zero => intro v0 v1 v2 v3 h; exact tq_none
  | succ n ih =>
    intro v0 v1 v2 v3 h
    unfold fX9_readTag_132
    refine tq_iload_n 3 3 dX9_readTag_132 rfl rfl ?_
    refine tq_aload_n 0 0 dX9_readTag_133 rfl rfl ?_
    refine tq_getI 32 dX9_readTag_134 cfX9 (by decide) wd_904 rfl rfl (fun x1 => ?_)
    refine tq_icmp_ge 169 dX9_readTag_137 (by decide) (fun _ => ?_) (fun _ => ?_)
    · exact tX9_readTag_169 G hr127 v0 v1 v2 v3 h
    · refine tq_aload_n 0 0 dX9_readTag_140 rfl rfl ?_
      refine tq_getR 31 dX9_readTag_141 cfX9 (by decide) wd_903 rfl rfl (fun x2 => ?_)
      refine tq_iload_n 3 3 dX9_readTag_144 rfl rfl ?_
      refine tq_bald dX9_readTag_145 (fun x3 => ?_)
      refine tq_cSI [vI x3] [] dX9_readTag_146 (eX9_isBlank G x3 h) (by decide) mbX9_isBlank wd_1074 wd_1075 rfl rfl (Nat.le_of_ble_eq_true rfl) (fun x5 h4 => ?_)
      refine tq_if_ne 163 dX9_readTag_149 (by decide) (fun _ => ?_) (fun _ => ?_)
      · exact tX9_readTag_163 G hr127 ih v0 v1 v2 v3 h4
      · refine tq_aload_n 0 0 dX9_readTag_152 rfl rfl ?_
        refine tq_getR 31 dX9_readTag_153 cfX9 (by decide) wd_903 rfl rfl (fun x6 => ?_)
        refine tq_iload_n 3 3 dX9_readTag_156 rfl rfl ?_
        refine tq_bald dX9_readTag_157 (fun x7 => ?_)
        refine tq_bipush (nI 47) dX9_readTag_158 (by decide) ?_
        refine tq_icmp_ne 169 dX9_readTag_160 (by decide) (fun _ => ?_) (fun _ => ?_)
        · exact tX9_readTag_169 G hr127 v0 v1 v2 v3 h4
        · exact tX9_readTag_163 G hr127 ih v0 v1 v2 v3 h4
noncomputable def fX9_readTag_127  : Nat → Option Nat → Int32 → Int32 → Int32 → Int32 → AH → Option (Int32 × AH)
  | 0, _, _, _, _, _, _ => none
  | n + 1, v0, v1, v2, v3, v4, h => if v4 = 0 then (fX9_readTag_209 v0 v1 v2 v3 h) else (fX9_readTag_132 (fX9_readTag_127 n) FU v0 v1 v2 v3 h)
theorem tX9_readTag_127 (G : sr_G) : ∀ (n : Nat) (v0 : Option Nat) (v1 : Int32) (v2 : Int32) (v3 : Int32) (v4 : Int32) (h : AH), sr_T (X := Int32) G 3 RX9 cX9_readTag 7 (some .int) false (sr_M G jI) 127 [(0, vR v0), (1, vI v1), (2, vI v2), (3, vI v3), (4, vI v4)] [] h (fX9_readTag_127  n v0 v1 v2 v3 v4 h) := by
  intro n
  induction n with
  | zero => intro v0 v1 v2 v3 v4 h; exact tq_none
  | succ n ih =>
    intro v0 v1 v2 v3 v4 h
    unfold fX9_readTag_127
    refine tq_iload 4 dX9_readTag_127 rfl ?_
    refine tq_if_eq 209 dX9_readTag_129 (by decide) (fun _ => ?_) (fun _ => ?_)
    · exact tq_sub [0, 1, 2, 3] rfl (tX9_readTag_209 G v0 v1 v2 v3 h)
    · exact tq_sub [0, 1, 2, 3] rfl (tX9_readTag_132 G ih FU v0 v1 v2 v3 h)
noncomputable def fX9_readTag_114  (v0 : Option Nat) (v1 : Int32) (v2 : Int32) (v3 : Int32) (h : AH) : Option (Int32 × AH) := cPI h 9 486 v0 (nI 0) fun h1 => cPI h1 9 491 v0 (nI 0) fun h2 => fX9_readTag_127 FU v0 v1 v2 v3 (nI 1) h2
theorem tX9_readTag_114 (G : sr_G) (v0 : Option Nat) (v1 : Int32) (v2 : Int32) (v3 : Int32) (h : AH) : sr_T (X := Int32) G 3 RX9 cX9_readTag 7 (some .int) false (sr_M G jI) 114 [(0, vR v0), (1, vI v1), (2, vI v2), (3, vI v3)] [] h (fX9_readTag_114  v0 v1 v2 v3 h) := by
  unfold fX9_readTag_114
  refine tq_aload_n 0 0 dX9_readTag_114 rfl rfl ?_
  refine tq_iconst (nI 0) dX9_readTag_115 (by decide) ?_
  refine tq_putI 36 dX9_readTag_116 cfX9 (by decide) wd_908 rfl rfl (Or.inl rfl) (fun h1 => ?_)
  refine tq_aload_n 0 0 dX9_readTag_119 rfl rfl ?_
  refine tq_iconst (nI 0) dX9_readTag_120 (by decide) ?_
  refine tq_putI 41 dX9_readTag_121 cfX9 (by decide) wd_913 rfl rfl (Or.inl rfl) (fun h2 => ?_)
  refine tq_iconst (nI 1) dX9_readTag_124 (by decide) ?_
  refine tq_istore (L' := [(4, vI (nI 1)), (0, vR v0), (1, vI v1), (2, vI v2), (3, vI v3)]) dX9_readTag_125 (by decide) rfl ?_
  exact tq_sub [1, 2, 3, 4, 0] rfl (tX9_readTag_127 G FU v0 v1 v2 v3 (nI 1) h2)
noncomputable def fX9_readTag_108 (r38 : Option Nat → Int32 → Int32 → Int32 → AH → Option (Int32 × AH)) (v0 : Option Nat) (v1 : Int32) (v2 : Int32) (v3 : Int32) (h : AH) : Option (Int32 × AH) := r38 v0 v1 v2 (v3 + (nI 1)) h
theorem tX9_readTag_108 (G : sr_G) {r38 : Option Nat → Int32 → Int32 → Int32 → AH → Option (Int32 × AH)} (hr38 : ∀ (v0 : Option Nat) (v1 : Int32) (v2 : Int32) (v3 : Int32) (h : AH), sr_T (X := Int32) G 3 RX9 cX9_readTag 7 (some .int) false (sr_M G jI) 38 [(0, vR v0), (1, vI v1), (2, vI v2), (3, vI v3)] [] h (r38 v0 v1 v2 v3 h)) (v0 : Option Nat) (v1 : Int32) (v2 : Int32) (v3 : Int32) (h : AH) : sr_T (X := Int32) G 3 RX9 cX9_readTag 7 (some .int) false (sr_M G jI) 108 [(0, vR v0), (1, vI v1), (2, vI v2), (3, vI v3)] [] h (fX9_readTag_108 r38 v0 v1 v2 v3 h) := by
  unfold fX9_readTag_108
  refine tq_iinc 3 (nI 1) (L' := [(3, vI (v3 + (nI 1))), (0, vR v0), (1, vI v1), (2, vI v2)]) dX9_readTag_108 rfl (by decide) (by decide) rfl ?_
  refine tq_goto 38 dX9_readTag_111 (by decide) ?_
  exact tq_sub [1, 2, 3, 0] rfl (hr38 v0 v1 v2 (v3 + (nI 1)) h)
noncomputable def fX9_readTag_70 (r38 : Option Nat → Int32 → Int32 → Int32 → AH → Option (Int32 × AH)) (v0 : Option Nat) (v1 : Int32) (v2 : Int32) (v3 : Int32) (h : AH) : Option (Int32 × AH) := cGI h 9 485 v0 fun x1 => if (nI 8) ≤ x1 then (fX9_readTag_108 r38 v0 v1 v2 v3 h) else (cGR h 9 484 v0 fun x2 => cGI h 9 485 v0 fun x3 => cGR h 9 481 v0 fun x4 => cAL h 1 x4 v3 fun x5 => cCL (fX9_small x5 h) fun x7 h6 => cAS h6 1 x2 x3 (Int8.toInt32 (Int32.toInt8 x7)) fun h8 => cGI h8 9 485 v0 fun x9 => cPI h8 9 485 v0 (x9 + (nI 1)) fun h10 => fX9_readTag_108 r38 v0 v1 v2 v3 h10)
theorem tX9_readTag_70 (G : sr_G) {r38 : Option Nat → Int32 → Int32 → Int32 → AH → Option (Int32 × AH)} (hr38 : ∀ (v0 : Option Nat) (v1 : Int32) (v2 : Int32) (v3 : Int32) (h : AH), sr_T (X := Int32) G 3 RX9 cX9_readTag 7 (some .int) false (sr_M G jI) 38 [(0, vR v0), (1, vI v1), (2, vI v2), (3, vI v3)] [] h (r38 v0 v1 v2 v3 h)) (v0 : Option Nat) (v1 : Int32) (v2 : Int32) (v3 : Int32) (h : AH) : sr_T (X := Int32) G 3 RX9 cX9_readTag 7 (some .int) false (sr_M G jI) 70 [(0, vR v0), (1, vI v1), (2, vI v2), (3, vI v3)] [] h (fX9_readTag_70 r38 v0 v1 v2 v3 h) := by
  unfold fX9_readTag_70
  refine tq_aload_n 0 0 dX9_readTag_70 rfl rfl ?_
  refine tq_getI 35 dX9_readTag_71 cfX9 (by decide) wd_907 rfl rfl (fun x1 => ?_)
  refine tq_bipush (nI 8) dX9_readTag_74 (by decide) ?_
  refine tq_icmp_ge 108 dX9_readTag_76 (by decide) (fun _ => ?_) (fun _ => ?_)
  · exact tX9_readTag_108 G hr38 v0 v1 v2 v3 h
  · refine tq_aload_n 0 0 dX9_readTag_79 rfl rfl ?_
    refine tq_getR 34 dX9_readTag_80 cfX9 (by decide) wd_906 rfl rfl (fun x2 => ?_)
    refine tq_aload_n 0 0 dX9_readTag_83 rfl rfl ?_
    refine tq_getI 35 dX9_readTag_84 cfX9 (by decide) wd_907 rfl rfl (fun x3 => ?_)
    refine tq_aload_n 0 0 dX9_readTag_87 rfl rfl ?_
    refine tq_getR 31 dX9_readTag_88 cfX9 (by decide) wd_903 rfl rfl (fun x4 => ?_)
    refine tq_iload_n 3 3 dX9_readTag_91 rfl rfl ?_
    refine tq_bald dX9_readTag_92 (fun x5 => ?_)
    refine tq_cSI [vI x5] [vI x3, vR x2] dX9_readTag_93 (eX9_small G x5 h) (by decide) mbX9_small wd_1110 wd_1111 rfl rfl (Nat.le_of_ble_eq_true rfl) (fun x7 h6 => ?_)
    refine tq_i2b dX9_readTag_96 ?_
    refine tq_bast dX9_readTag_97 (fun h8 => ?_)
    refine tq_aload_n 0 0 dX9_readTag_98 rfl rfl ?_
    refine tq_dupR dX9_readTag_99 ?_
    refine tq_getI 35 dX9_readTag_100 cfX9 (by decide) wd_907 rfl rfl (fun x9 => ?_)
    refine tq_iconst (nI 1) dX9_readTag_103 (by decide) ?_
    refine tq_iadd dX9_readTag_104 ?_
    refine tq_putI 35 dX9_readTag_105 cfX9 (by decide) wd_907 rfl rfl (Or.inl rfl) (fun h10 => ?_)
    exact tX9_readTag_108 G hr38 v0 v1 v2 v3 h10
noncomputable def fX9_readTag_38  : Nat → Option Nat → Int32 → Int32 → Int32 → AH → Option (Int32 × AH)
  | 0, _, _, _, _, _ => none
  | n + 1, v0, v1, v2, v3, h => cGI h 9 482 v0 fun x1 => if x1 ≤ v3 then (fX9_readTag_114 v0 v1 v2 v3 h) else (cGR h 9 481 v0 fun x2 => cAL h 1 x2 v3 fun x3 => cCL (fX9_isLetter x3 h) fun x5 h4 => if x5 = 0 then (cGR h4 9 481 v0 fun x6 => cAL h4 1 x6 v3 fun x7 => cCL (fX9_isDigit x7 h4) fun x9 h8 => if x9 = 0 then (fX9_readTag_114 v0 v1 v2 v3 h8) else (fX9_readTag_70 (fX9_readTag_38 n) v0 v1 v2 v3 h8)) else (fX9_readTag_70 (fX9_readTag_38 n) v0 v1 v2 v3 h4))
theorem tX9_readTag_38 (G : sr_G) : ∀ (n : Nat) (v0 : Option Nat) (v1 : Int32) (v2 : Int32) (v3 : Int32) (h : AH), sr_T (X := Int32) G 3 RX9 cX9_readTag 7 (some .int) false (sr_M G jI) 38 [(0, vR v0), (1, vI v1), (2, vI v2), (3, vI v3)] [] h (fX9_readTag_38  n v0 v1 v2 v3 h) := by
  intro n
  induction n with
  | zero => intro v0 v1 v2 v3 h; exact tq_none
  | succ n ih =>
    intro v0 v1 v2 v3 h
    unfold fX9_readTag_38
    refine tq_iload_n 3 3 dX9_readTag_38 rfl rfl ?_
    refine tq_aload_n 0 0 dX9_readTag_39 rfl rfl ?_
    refine tq_getI 32 dX9_readTag_40 cfX9 (by decide) wd_904 rfl rfl (fun x1 => ?_)
    refine tq_icmp_ge 114 dX9_readTag_43 (by decide) (fun _ => ?_) (fun _ => ?_)
    · exact tX9_readTag_114 G v0 v1 v2 v3 h
    · refine tq_aload_n 0 0 dX9_readTag_46 rfl rfl ?_
      refine tq_getR 31 dX9_readTag_47 cfX9 (by decide) wd_903 rfl rfl (fun x2 => ?_)
      refine tq_iload_n 3 3 dX9_readTag_50 rfl rfl ?_
      refine tq_bald dX9_readTag_51 (fun x3 => ?_)
      refine tq_cSI [vI x3] [] dX9_readTag_52 (eX9_isLetter G x3 h) (by decide) mbX9_isLetter wd_1085 wd_1086 rfl rfl (Nat.le_of_ble_eq_true rfl) (fun x5 h4 => ?_)
      refine tq_if_ne 70 dX9_readTag_55 (by decide) (fun _ => ?_) (fun _ => ?_)
      · exact tX9_readTag_70 G ih v0 v1 v2 v3 h4
      · refine tq_aload_n 0 0 dX9_readTag_58 rfl rfl ?_
        refine tq_getR 31 dX9_readTag_59 cfX9 (by decide) wd_903 rfl rfl (fun x6 => ?_)
        refine tq_iload_n 3 3 dX9_readTag_62 rfl rfl ?_
        refine tq_bald dX9_readTag_63 (fun x7 => ?_)
        refine tq_cSI [vI x7] [] dX9_readTag_64 (eX9_isDigit G x7 h4) (by decide) mbX9_isDigit wd_1107 wd_1108 rfl rfl (Nat.le_of_ble_eq_true rfl) (fun x9 h8 => ?_)
        refine tq_if_eq 114 dX9_readTag_67 (by decide) (fun _ => ?_) (fun _ => ?_)
        · exact tX9_readTag_114 G v0 v1 v2 v3 h8
        · exact tX9_readTag_70 G ih v0 v1 v2 v3 h8
noncomputable def fX9_readTag_32  (v0 : Option Nat) (v1 : Int32) (v2 : Int32) (s0 : Int32) (h : AH) : Option (Int32 × AH) := cPI h 9 485 v0 (nI 0) fun h1 => fX9_readTag_38 FU v0 v1 v2 s0 h1
theorem tX9_readTag_32 (G : sr_G) (v0 : Option Nat) (v1 : Int32) (v2 : Int32) (s0 : Int32) (h : AH) : sr_T (X := Int32) G 3 RX9 cX9_readTag 7 (some .int) false (sr_M G jI) 32 [(0, vR v0), (1, vI v1), (2, vI v2)] [vI s0] h (fX9_readTag_32  v0 v1 v2 s0 h) := by
  unfold fX9_readTag_32
  refine tq_istore_n 3 (L' := [(3, vI s0), (0, vR v0), (1, vI v1), (2, vI v2)]) dX9_readTag_32 rfl (by decide) rfl ?_
  refine tq_aload_n 0 1 dX9_readTag_33 rfl rfl ?_
  refine tq_iconst (nI 0) dX9_readTag_34 (by decide) ?_
  refine tq_putI 35 dX9_readTag_35 cfX9 (by decide) wd_907 rfl rfl (Or.inl rfl) (fun h1 => ?_)
  exact tq_sub [1, 2, 3, 0] rfl (tX9_readTag_38 G FU v0 v1 v2 s0 h1)
noncomputable def fX9_readTag_18  (v0 : Option Nat) (v1 : Int32) (s0 : Int32) (h : AH) : Option (Int32 × AH) := if s0 = 0 then (fX9_readTag_32 v0 v1 s0 (v1 + (nI 1)) h) else (fX9_readTag_32 v0 v1 s0 (v1 + (nI 2)) h)
theorem tX9_readTag_18 (G : sr_G) (v0 : Option Nat) (v1 : Int32) (s0 : Int32) (h : AH) : sr_T (X := Int32) G 3 RX9 cX9_readTag 7 (some .int) false (sr_M G jI) 18 [(0, vR v0), (1, vI v1)] [vI s0] h (fX9_readTag_18  v0 v1 s0 h) := by
  unfold fX9_readTag_18
  refine tq_istore_n 2 (L' := [(2, vI s0), (0, vR v0), (1, vI v1)]) dX9_readTag_18 rfl (by decide) rfl ?_
  refine tq_iload_n 2 0 dX9_readTag_19 rfl rfl ?_
  refine tq_if_eq 29 dX9_readTag_20 (by decide) (fun _ => ?_) (fun _ => ?_)
  · refine tq_iload_n 1 2 dX9_readTag_29 rfl rfl ?_
    refine tq_iconst (nI 1) dX9_readTag_30 (by decide) ?_
    refine tq_iadd dX9_readTag_31 ?_
    exact tq_sub [1, 2, 0] rfl (tX9_readTag_32 G v0 v1 s0 (v1 + (nI 1)) h)
  · refine tq_iload_n 1 2 dX9_readTag_23 rfl rfl ?_
    refine tq_iconst (nI 2) dX9_readTag_24 (by decide) ?_
    refine tq_iadd dX9_readTag_25 ?_
    refine tq_goto 32 dX9_readTag_26 (by decide) ?_
    exact tq_sub [1, 2, 0] rfl (tX9_readTag_32 G v0 v1 s0 (v1 + (nI 2)) h)
noncomputable def fX9_readTag_0  (v0 : Option Nat) (v1 : Int32) (h : AH) : Option (Int32 × AH) := cGR h 9 481 v0 fun x1 => cAL h 1 x1 (v1 + (nI 1)) fun x2 => if x2 = (nI 47) then (fX9_readTag_18 v0 v1 (nI 1) h) else (fX9_readTag_18 v0 v1 (nI 0) h)
theorem tX9_readTag_0 (G : sr_G) (v0 : Option Nat) (v1 : Int32) (h : AH) : sr_T (X := Int32) G 3 RX9 cX9_readTag 7 (some .int) false (sr_M G jI) 0 [(0, vR v0), (1, vI v1)] [] h (fX9_readTag_0  v0 v1 h) := by
  unfold fX9_readTag_0
  refine tq_aload_n 0 0 dX9_readTag_0 rfl rfl ?_
  refine tq_getR 31 dX9_readTag_1 cfX9 (by decide) wd_903 rfl rfl (fun x1 => ?_)
  refine tq_iload_n 1 1 dX9_readTag_4 rfl rfl ?_
  refine tq_iconst (nI 1) dX9_readTag_5 (by decide) ?_
  refine tq_iadd dX9_readTag_6 ?_
  refine tq_bald dX9_readTag_7 (fun x2 => ?_)
  refine tq_bipush (nI 47) dX9_readTag_8 (by decide) ?_
  refine tq_icmp_ne 17 dX9_readTag_10 (by decide) (fun _ => ?_) (fun _ => ?_)
  · refine tq_iconst (nI 0) dX9_readTag_17 (by decide) ?_
    exact tX9_readTag_18 G v0 v1 (nI 0) h
  · refine tq_iconst (nI 1) dX9_readTag_13 (by decide) ?_
    refine tq_goto 18 dX9_readTag_14 (by decide) ?_
    exact tX9_readTag_18 G v0 v1 (nI 1) h
noncomputable def fX9_readTag (v0 : Option Nat) (v1 : Int32) (h : AH) : Option (Int32 × AH) := fX9_readTag_0 v0 v1 h
theorem eX9_readTag (G : sr_G) (v0 : Option Nat) (v1 : Int32) (h : AH) : sr_E G 3 yX9_readTag cX9_readTag 7 (some .int) jI [vR v0, vI v1] h (fX9_readTag v0 v1 h) := sr_E.of (own := RX9) (ini := false) (by decide) rfl (fun q => by first | rfl | cases q) rfl (Nat.le_of_ble_eq_true rfl) (tX9_readTag_0 G v0 v1 h)
noncomputable def fX9_run_313  (v3 : Int32) (h : AH) : Option (Int32 × AH) := some (v3, h)
theorem tX9_run_313 (G : sr_G) (v3 : Int32) (h : AH) : sr_T (X := Int32) G 3 RX9 cX9_run 11 (some .int) false (sr_M G jI) 313 [(3, vI v3)] [] h (fX9_run_313  v3 h) := by
  unfold fX9_run_313
  refine tq_iload_n 3 0 dX9_run_313 rfl rfl ?_
  exact tq_iret rfl dX9_run_314
noncomputable def fX9_run_301 (r188 : Option Nat → Int32 → Int32 → Int32 → Int32 → AH → Option (Int32 × AH)) (v0 : Option Nat) (v2 : Int32) (v3 : Int32) (v7 : Int32) (v9 : Int32) (h : AH) : Option (Int32 × AH) := cGI h 9 483 v0 fun x1 => r188 v0 v2 v3 v7 (v9 + x1) h
theorem tX9_run_301 (G : sr_G) {r188 : Option Nat → Int32 → Int32 → Int32 → Int32 → AH → Option (Int32 × AH)} (hr188 : ∀ (v0 : Option Nat) (v2 : Int32) (v3 : Int32) (v7 : Int32) (v9 : Int32) (h : AH), sr_T (X := Int32) G 3 RX9 cX9_run 11 (some .int) false (sr_M G jI) 188 [(0, vR v0), (2, vI v2), (3, vI v3), (7, vI v7), (9, vI v9)] [] h (r188 v0 v2 v3 v7 v9 h)) (v0 : Option Nat) (v2 : Int32) (v3 : Int32) (v7 : Int32) (v9 : Int32) (h : AH) : sr_T (X := Int32) G 3 RX9 cX9_run 11 (some .int) false (sr_M G jI) 301 [(0, vR v0), (2, vI v2), (3, vI v3), (7, vI v7), (9, vI v9)] [] h (fX9_run_301 r188 v0 v2 v3 v7 v9 h) := by
  unfold fX9_run_301
  refine tq_iload 4 dX9_run_301 rfl ?_
  refine tq_aload_n 0 0 dX9_run_303 rfl rfl ?_
  refine tq_getI 33 dX9_run_304 cfX9 (by decide) wd_905 rfl rfl (fun x1 => ?_)
  refine tq_iadd dX9_run_307 ?_
  refine tq_istore (L' := [(9, vI (v9 + x1)), (0, vR v0), (2, vI v2), (3, vI v3), (7, vI v7)]) dX9_run_308 (by decide) rfl ?_
  refine tq_goto 188 dX9_run_310 (by decide) ?_
  exact tq_sub [1, 2, 3, 4, 0] rfl (hr188 v0 v2 v3 v7 (v9 + x1) h)
noncomputable def fX9_run_224 (r188 : Option Nat → Int32 → Int32 → Int32 → Int32 → AH → Option (Int32 × AH)) (v0 : Option Nat) (v2 : Int32) (v3 : Int32) (v7 : Int32) (v9 : Int32) (s0 : Int32) (h : AH) : Option (Int32 × AH) := cGR h 9 472 v0 fun x1 => cAL h 0 x1 v7 fun x2 => if (nI 400) ≤ x2 then (cGR h 9 473 v0 fun x3 => cAL h 2 x3 v7 fun x4 => if x4 = 0 then (cGR h 9 473 v0 fun x5 => cAS h 2 x5 v7 (nI 1) fun h6 => cCV h6 9 v0 (fX9_tellFault v0 (nI 7) v9 h6) fun _ h7 => fX9_run_301 r188 v0 v2 v3 v7 v9 h7) else (fX9_run_301 r188 v0 v2 v3 v7 v9 h)) else (cGR h 9 471 v0 fun x8 => cGR h 9 472 v0 fun x9 => cAL h 0 x9 v7 fun x10 => cAS h 1 x8 (((nI 400) * v7) + x10) (Int8.toInt32 (Int32.toInt8 s0)) fun h11 => cGR h11 9 472 v0 fun x12 => cAL h11 0 x12 v7 fun x13 => cAS h11 0 x12 v7 (x13 + (nI 1)) fun h14 => fX9_run_301 r188 v0 v2 v3 v7 v9 h14)
theorem tX9_run_224 (G : sr_G) {r188 : Option Nat → Int32 → Int32 → Int32 → Int32 → AH → Option (Int32 × AH)} (hr188 : ∀ (v0 : Option Nat) (v2 : Int32) (v3 : Int32) (v7 : Int32) (v9 : Int32) (h : AH), sr_T (X := Int32) G 3 RX9 cX9_run 11 (some .int) false (sr_M G jI) 188 [(0, vR v0), (2, vI v2), (3, vI v3), (7, vI v7), (9, vI v9)] [] h (r188 v0 v2 v3 v7 v9 h)) (v0 : Option Nat) (v2 : Int32) (v3 : Int32) (v7 : Int32) (v9 : Int32) (s0 : Int32) (h : AH) : sr_T (X := Int32) G 3 RX9 cX9_run 11 (some .int) false (sr_M G jI) 224 [(0, vR v0), (2, vI v2), (3, vI v3), (7, vI v7), (9, vI v9)] [vI s0] h (fX9_run_224 r188 v0 v2 v3 v7 v9 s0 h) := by
  unfold fX9_run_224
  refine tq_istore (L' := [(10, vI s0), (0, vR v0), (2, vI v2), (3, vI v3), (7, vI v7), (9, vI v9)]) dX9_run_224 (by decide) rfl ?_
  refine tq_aload_n 0 1 dX9_run_226 rfl rfl ?_
  refine tq_getR 22 dX9_run_227 cfX9 (by decide) wd_894 rfl rfl (fun x1 => ?_)
  refine tq_iload 4 dX9_run_230 rfl ?_
  refine tq_iald dX9_run_232 (fun x2 => ?_)
  refine tq_sipush (nI 400) dX9_run_233 (by decide) ?_
  refine tq_icmp_ge 275 dX9_run_236 (by decide) (fun _ => ?_) (fun _ => ?_)
  · refine tq_aload_n 0 1 dX9_run_275 rfl rfl ?_
    refine tq_getR 23 dX9_run_276 cfX9 (by decide) wd_895 rfl rfl (fun x3 => ?_)
    refine tq_iload 4 dX9_run_279 rfl ?_
    refine tq_zald dX9_run_281 (fun x4 => ?_)
    refine tq_if_ne 301 dX9_run_282 (by decide) (fun _ => ?_) (fun _ => ?_)
    · exact tq_sub [1, 2, 3, 4, 5] rfl (tX9_run_301 G hr188 v0 v2 v3 v7 v9 h)
    · refine tq_aload_n 0 1 dX9_run_285 rfl rfl ?_
      refine tq_getR 23 dX9_run_286 cfX9 (by decide) wd_895 rfl rfl (fun x5 => ?_)
      refine tq_iload 4 dX9_run_289 rfl ?_
      refine tq_iconst (nI 1) dX9_run_291 (by decide) ?_
      refine tq_zast dX9_run_292 (fun h6 => ?_)
      refine tq_aload_n 0 1 dX9_run_293 rfl rfl ?_
      refine tq_bipush (nI 7) dX9_run_294 (by decide) ?_
      refine tq_iload 5 dX9_run_296 rfl ?_
      refine tq_cVV [vI (nI 7), vI v9] [] dX9_run_298 (eX9_tellFault G v0 (nI 7) v9 h6) (by decide) mbX9_tellFault cfX9 rfl wd_1091 wd_1093 wd_53 rfl rfl (Nat.le_of_ble_eq_true rfl) (fun _ h7 => ?_)
      exact tq_sub [1, 2, 3, 4, 5] rfl (tX9_run_301 G hr188 v0 v2 v3 v7 v9 h7)
  · refine tq_aload_n 0 1 dX9_run_239 rfl rfl ?_
    refine tq_getR 21 dX9_run_240 cfX9 (by decide) wd_893 rfl rfl (fun x8 => ?_)
    refine tq_sipush (nI 400) dX9_run_243 (by decide) ?_
    refine tq_iload 4 dX9_run_246 rfl ?_
    refine tq_imul dX9_run_248 ?_
    refine tq_aload_n 0 1 dX9_run_249 rfl rfl ?_
    refine tq_getR 22 dX9_run_250 cfX9 (by decide) wd_894 rfl rfl (fun x9 => ?_)
    refine tq_iload 4 dX9_run_253 rfl ?_
    refine tq_iald dX9_run_255 (fun x10 => ?_)
    refine tq_iadd dX9_run_256 ?_
    refine tq_iload 0 dX9_run_257 rfl ?_
    refine tq_i2b dX9_run_259 ?_
    refine tq_bast dX9_run_260 (fun h11 => ?_)
    refine tq_aload_n 0 1 dX9_run_261 rfl rfl ?_
    refine tq_getR 22 dX9_run_262 cfX9 (by decide) wd_894 rfl rfl (fun x12 => ?_)
    refine tq_iload 4 dX9_run_265 rfl ?_
    refine tq_dup2 dX9_run_267 ?_
    refine tq_iald dX9_run_268 (fun x13 => ?_)
    refine tq_iconst (nI 1) dX9_run_269 (by decide) ?_
    refine tq_iadd dX9_run_270 ?_
    refine tq_iast dX9_run_271 (fun h14 => ?_)
    refine tq_goto 301 dX9_run_272 (by decide) ?_
    exact tq_sub [1, 2, 3, 4, 5] rfl (tX9_run_301 G hr188 v0 v2 v3 v7 v9 h14)
noncomputable def fX9_run_188  : Nat → Option Nat → Int32 → Int32 → Int32 → Int32 → AH → Option (Int32 × AH)
  | 0, _, _, _, _, _, _ => none
  | n + 1, v0, v2, v3, v7, v9, h => if v3 ≤ v9 then (fX9_run_313 v3 h) else (cPI h 9 483 v0 (nI 1) fun h1 => if v2 = 0 then (cGR h1 9 481 v0 fun x2 => cCV h1 9 v0 (fX9_entity v0 x2 v9 v3 h1) fun x4 h3 => fX9_run_224 (fX9_run_188 n) v0 v2 v3 v7 v9 x4 h3) else (cGR h1 9 481 v0 fun x5 => cAL h1 1 x5 v9 fun x6 => fX9_run_224 (fX9_run_188 n) v0 v2 v3 v7 v9 x6 h1))
theorem tX9_run_188 (G : sr_G) : ∀ (n : Nat) (v0 : Option Nat) (v2 : Int32) (v3 : Int32) (v7 : Int32) (v9 : Int32) (h : AH), sr_T (X := Int32) G 3 RX9 cX9_run 11 (some .int) false (sr_M G jI) 188 [(0, vR v0), (2, vI v2), (3, vI v3), (7, vI v7), (9, vI v9)] [] h (fX9_run_188  n v0 v2 v3 v7 v9 h) := by
  intro n
  induction n with
  | zero => intro v0 v2 v3 v7 v9 h; exact tq_none
  | succ n ih =>
    intro v0 v2 v3 v7 v9 h
    unfold fX9_run_188
    refine tq_iload 4 dX9_run_188 rfl ?_
    refine tq_iload_n 3 2 dX9_run_190 rfl rfl ?_
    refine tq_icmp_ge 313 dX9_run_191 (by decide) (fun _ => ?_) (fun _ => ?_)
    · exact tq_sub [2] rfl (tX9_run_313 G v3 h)
    · refine tq_aload_n 0 0 dX9_run_194 rfl rfl ?_
      refine tq_iconst (nI 1) dX9_run_195 (by decide) ?_
      refine tq_putI 33 dX9_run_196 cfX9 (by decide) wd_905 rfl rfl (Or.inl rfl) (fun h1 => ?_)
      refine tq_iload_n 2 1 dX9_run_199 rfl rfl ?_
      refine tq_if_eq 213 dX9_run_200 (by decide) (fun _ => ?_) (fun _ => ?_)
      · refine tq_aload_n 0 0 dX9_run_213 rfl rfl ?_
        refine tq_aload_n 0 0 dX9_run_214 rfl rfl ?_
        refine tq_getR 31 dX9_run_215 cfX9 (by decide) wd_903 rfl rfl (fun x2 => ?_)
        refine tq_iload 4 dX9_run_218 rfl ?_
        refine tq_iload_n 3 2 dX9_run_220 rfl rfl ?_
        refine tq_cVI [vR x2, vI v9, vI v3] [] dX9_run_221 (eX9_entity G v0 x2 v9 v3 h1) (by decide) mbX9_entity cfX9 rfl wd_1095 wd_1097 wd_54 rfl rfl (Nat.le_of_ble_eq_true rfl) (fun x4 h3 => ?_)
        exact tX9_run_224 G ih v0 v2 v3 v7 v9 x4 h3
      · refine tq_aload_n 0 0 dX9_run_203 rfl rfl ?_
        refine tq_getR 31 dX9_run_204 cfX9 (by decide) wd_903 rfl rfl (fun x5 => ?_)
        refine tq_iload 4 dX9_run_207 rfl ?_
        refine tq_bald dX9_run_209 (fun x6 => ?_)
        refine tq_goto 224 dX9_run_210 (by decide) ?_
        exact tX9_run_224 G ih v0 v2 v3 v7 v9 x6 h1
noncomputable def fX9_run_185  (v0 : Option Nat) (v1 : Int32) (v2 : Int32) (v3 : Int32) (v7 : Int32) (h : AH) : Option (Int32 × AH) := fX9_run_188 FU v0 v2 v3 v7 v1 h
theorem tX9_run_185 (G : sr_G) (v0 : Option Nat) (v1 : Int32) (v2 : Int32) (v3 : Int32) (v7 : Int32) (h : AH) : sr_T (X := Int32) G 3 RX9 cX9_run 11 (some .int) false (sr_M G jI) 185 [(0, vR v0), (1, vI v1), (2, vI v2), (3, vI v3), (7, vI v7)] [] h (fX9_run_185  v0 v1 v2 v3 v7 h) := by
  unfold fX9_run_185
  refine tq_iload_n 1 1 dX9_run_185 rfl rfl ?_
  refine tq_istore (L' := [(9, vI v1), (0, vR v0), (1, vI v1), (2, vI v2), (3, vI v3), (7, vI v7)]) dX9_run_186 (by decide) rfl ?_
  exact tq_sub [1, 3, 4, 5, 0] rfl (tX9_run_188 G FU v0 v2 v3 v7 v1 h)
noncomputable def fX9_run_148  (v0 : Option Nat) (v1 : Int32) (v2 : Int32) (v3 : Int32) (v6 : Int32) (v7 : Int32) (v8 : Int32) (h : AH) : Option (Int32 × AH) := if v8 = 0 then (cCV h 9 v0 (fX9_fresh v0 v6 h) fun x2 h1 => if x2 = (-1) then (cCV h1 9 v0 (fX9_tellFault v0 (nI 6) v1 h1) fun _ h5 => some (v3, h5)) else (cGR h1 9 457 v0 fun x3 => cAS h1 0 x3 x2 (nI 17) fun h4 => fX9_run_185 v0 v1 v2 v3 x2 h4)) else (fX9_run_185 v0 v1 v2 v3 v7 h)
theorem tX9_run_148 (G : sr_G) (v0 : Option Nat) (v1 : Int32) (v2 : Int32) (v3 : Int32) (v6 : Int32) (v7 : Int32) (v8 : Int32) (h : AH) : sr_T (X := Int32) G 3 RX9 cX9_run 11 (some .int) false (sr_M G jI) 148 [(0, vR v0), (1, vI v1), (2, vI v2), (3, vI v3), (6, vI v6), (7, vI v7), (8, vI v8)] [] h (fX9_run_148  v0 v1 v2 v3 v6 v7 v8 h) := by
  unfold fX9_run_148
  refine tq_iload 6 dX9_run_148 rfl ?_
  refine tq_if_ne 185 dX9_run_150 (by decide) (fun _ => ?_) (fun _ => ?_)
  · exact tq_sub [0, 1, 2, 3, 5] rfl (tX9_run_185 G v0 v1 v2 v3 v7 h)
  · refine tq_aload_n 0 0 dX9_run_153 rfl rfl ?_
    refine tq_iload 4 dX9_run_154 rfl ?_
    refine tq_cVI [vI v6] [] dX9_run_156 (eX9_fresh G v0 v6 h) (by decide) mbX9_fresh cfX9 rfl wd_868 wd_870 wd_44 rfl rfl (Nat.le_of_ble_eq_true rfl) (fun x2 h1 => ?_)
    refine tq_istore (L' := [(7, vI x2), (0, vR v0), (1, vI v1), (2, vI v2), (3, vI v3), (6, vI v6), (8, vI v8)]) dX9_run_159 (by decide) rfl ?_
    refine tq_iload 0 dX9_run_161 rfl ?_
    refine tq_iconst (-1) dX9_run_163 (by decide) ?_
    refine tq_icmp_ne 176 dX9_run_164 (by decide) (fun _ => ?_) (fun _ => ?_)
    · refine tq_aload_n 0 1 dX9_run_176 rfl rfl ?_
      refine tq_getR 7 dX9_run_177 cfX9 (by decide) wd_879 rfl rfl (fun x3 => ?_)
      refine tq_iload 0 dX9_run_180 rfl ?_
      refine tq_bipush (nI 17) dX9_run_182 (by decide) ?_
      refine tq_iast dX9_run_184 (fun h4 => ?_)
      exact tq_sub [1, 2, 3, 4, 0] rfl (tX9_run_185 G v0 v1 v2 v3 x2 h4)
    · refine tq_aload_n 0 1 dX9_run_167 rfl rfl ?_
      refine tq_bipush (nI 6) dX9_run_168 (by decide) ?_
      refine tq_iload_n 1 2 dX9_run_170 rfl rfl ?_
      refine tq_cVV [vI (nI 6), vI v1] [] dX9_run_171 (eX9_tellFault G v0 (nI 6) v1 h1) (by decide) mbX9_tellFault cfX9 rfl wd_1091 wd_1093 wd_53 rfl rfl (Nat.le_of_ble_eq_true rfl) (fun _ h5 => ?_)
      refine tq_iload_n 3 4 dX9_run_174 rfl rfl ?_
      exact tq_iret rfl dX9_run_175
noncomputable def fX9_run_134  (v0 : Option Nat) (v1 : Int32) (v2 : Int32) (v3 : Int32) (v4 : Int32) (v6 : Int32) (v7 : Int32) (s0 : Int32) (h : AH) : Option (Int32 × AH) := if v4 = 0 then (fX9_run_148 v0 v1 v2 v3 v6 v7 s0 h) else (if s0 = 0 then (some (v3, h)) else (fX9_run_148 v0 v1 v2 v3 v6 v7 s0 h))
theorem tX9_run_134 (G : sr_G) (v0 : Option Nat) (v1 : Int32) (v2 : Int32) (v3 : Int32) (v4 : Int32) (v6 : Int32) (v7 : Int32) (s0 : Int32) (h : AH) : sr_T (X := Int32) G 3 RX9 cX9_run 11 (some .int) false (sr_M G jI) 134 [(0, vR v0), (1, vI v1), (2, vI v2), (3, vI v3), (4, vI v4), (6, vI v6), (7, vI v7)] [vI s0] h (fX9_run_134  v0 v1 v2 v3 v4 v6 v7 s0 h) := by
  unfold fX9_run_134
  refine tq_istore (L' := [(8, vI s0), (0, vR v0), (1, vI v1), (2, vI v2), (3, vI v3), (4, vI v4), (6, vI v6), (7, vI v7)]) dX9_run_134 (by decide) rfl ?_
  refine tq_iload 5 dX9_run_136 rfl ?_
  refine tq_if_eq 148 dX9_run_138 (by decide) (fun _ => ?_) (fun _ => ?_)
  · exact tq_sub [1, 2, 3, 4, 6, 7, 0] rfl (tX9_run_148 G v0 v1 v2 v3 v6 v7 s0 h)
  · refine tq_iload 0 dX9_run_141 rfl ?_
    refine tq_if_ne 148 dX9_run_143 (by decide) (fun _ => ?_) (fun _ => ?_)
    · exact tq_sub [1, 2, 3, 4, 6, 7, 0] rfl (tX9_run_148 G v0 v1 v2 v3 v6 v7 s0 h)
    · refine tq_iload_n 3 4 dX9_run_146 rfl rfl ?_
      exact tq_iret rfl dX9_run_147
noncomputable def fX9_run_133  (v0 : Option Nat) (v1 : Int32) (v2 : Int32) (v3 : Int32) (v4 : Int32) (v6 : Int32) (v7 : Int32) (h : AH) : Option (Int32 × AH) := fX9_run_134 v0 v1 v2 v3 v4 v6 v7 (nI 0) h
theorem tX9_run_133 (G : sr_G) (v0 : Option Nat) (v1 : Int32) (v2 : Int32) (v3 : Int32) (v4 : Int32) (v6 : Int32) (v7 : Int32) (h : AH) : sr_T (X := Int32) G 3 RX9 cX9_run 11 (some .int) false (sr_M G jI) 133 [(0, vR v0), (1, vI v1), (2, vI v2), (3, vI v3), (4, vI v4), (6, vI v6), (7, vI v7)] [] h (fX9_run_133  v0 v1 v2 v3 v4 v6 v7 h) := by
  unfold fX9_run_133
  refine tq_iconst (nI 0) dX9_run_133 (by decide) ?_
  exact tX9_run_134 G v0 v1 v2 v3 v4 v6 v7 (nI 0) h
noncomputable def fX9_run_89  (v0 : Option Nat) (v1 : Int32) (v2 : Int32) (v3 : Int32) (v4 : Int32) (h : AH) : Option (Int32 × AH) := cGR h 9 479 v0 fun x1 => cGI h 9 480 v0 fun x2 => cAL h 0 x1 (x2 - (nI 1)) fun x3 => cGR h 9 462 v0 fun x4 => cAL h 0 x4 x3 fun x5 => if x5 = (-1) then (fX9_run_133 v0 v1 v2 v3 v4 x3 x5 h) else (cGR h 9 457 v0 fun x6 => cAL h 0 x6 x5 fun x7 => if x7 = (nI 17) then (fX9_run_134 v0 v1 v2 v3 v4 x3 x5 (nI 1) h) else (fX9_run_133 v0 v1 v2 v3 v4 x3 x5 h))
theorem tX9_run_89 (G : sr_G) (v0 : Option Nat) (v1 : Int32) (v2 : Int32) (v3 : Int32) (v4 : Int32) (h : AH) : sr_T (X := Int32) G 3 RX9 cX9_run 11 (some .int) false (sr_M G jI) 89 [(0, vR v0), (1, vI v1), (2, vI v2), (3, vI v3), (4, vI v4)] [] h (fX9_run_89  v0 v1 v2 v3 v4 h) := by
  unfold fX9_run_89
  refine tq_aload_n 0 0 dX9_run_89 rfl rfl ?_
  refine tq_getR 29 dX9_run_90 cfX9 (by decide) wd_901 rfl rfl (fun x1 => ?_)
  refine tq_aload_n 0 0 dX9_run_93 rfl rfl ?_
  refine tq_getI 30 dX9_run_94 cfX9 (by decide) wd_902 rfl rfl (fun x2 => ?_)
  refine tq_iconst (nI 1) dX9_run_97 (by decide) ?_
  refine tq_isub dX9_run_98 ?_
  refine tq_iald dX9_run_99 (fun x3 => ?_)
  refine tq_istore (L' := [(6, vI x3), (0, vR v0), (1, vI v1), (2, vI v2), (3, vI v3), (4, vI v4)]) dX9_run_100 (by decide) rfl ?_
  refine tq_aload_n 0 1 dX9_run_102 rfl rfl ?_
  refine tq_getR 12 dX9_run_103 cfX9 (by decide) wd_884 rfl rfl (fun x4 => ?_)
  refine tq_iload 0 dX9_run_106 rfl ?_
  refine tq_iald dX9_run_108 (fun x5 => ?_)
  refine tq_istore (L' := [(7, vI x5), (6, vI x3), (0, vR v0), (1, vI v1), (2, vI v2), (3, vI v3), (4, vI v4)]) dX9_run_109 (by decide) rfl ?_
  refine tq_iload 0 dX9_run_111 rfl ?_
  refine tq_iconst (-1) dX9_run_113 (by decide) ?_
  refine tq_icmp_eq 133 dX9_run_114 (by decide) (fun _ => ?_) (fun _ => ?_)
  · exact tq_sub [2, 3, 4, 5, 6, 1, 0] rfl (tX9_run_133 G v0 v1 v2 v3 v4 x3 x5 h)
  · refine tq_aload_n 0 2 dX9_run_117 rfl rfl ?_
    refine tq_getR 7 dX9_run_118 cfX9 (by decide) wd_879 rfl rfl (fun x6 => ?_)
    refine tq_iload 0 dX9_run_121 rfl ?_
    refine tq_iald dX9_run_123 (fun x7 => ?_)
    refine tq_bipush (nI 17) dX9_run_124 (by decide) ?_
    refine tq_icmp_ne 133 dX9_run_126 (by decide) (fun _ => ?_) (fun _ => ?_)
    · exact tq_sub [2, 3, 4, 5, 6, 1, 0] rfl (tX9_run_133 G v0 v1 v2 v3 v4 x3 x5 h)
    · refine tq_iconst (nI 1) dX9_run_129 (by decide) ?_
      refine tq_goto 134 dX9_run_130 (by decide) ?_
      exact tq_sub [2, 3, 4, 5, 6, 1, 0] rfl (tX9_run_134 G v0 v1 v2 v3 v4 x3 x5 (nI 1) h)
noncomputable def fX9_run_84 (r8 : Option Nat → Int32 → Int32 → Int32 → Int32 → Int32 → AH → Option (Int32 × AH)) (v0 : Option Nat) (v1 : Int32) (v2 : Int32) (v3 : Int32) (v4 : Int32) (s0 : Int32) (h : AH) : Option (Int32 × AH) := r8 v0 v1 v2 v3 v4 s0 h
theorem tX9_run_84 (G : sr_G) {r8 : Option Nat → Int32 → Int32 → Int32 → Int32 → Int32 → AH → Option (Int32 × AH)} (hr8 : ∀ (v0 : Option Nat) (v1 : Int32) (v2 : Int32) (v3 : Int32) (v4 : Int32) (v5 : Int32) (h : AH), sr_T (X := Int32) G 3 RX9 cX9_run 11 (some .int) false (sr_M G jI) 8 [(0, vR v0), (1, vI v1), (2, vI v2), (3, vI v3), (4, vI v4), (5, vI v5)] [] h (r8 v0 v1 v2 v3 v4 v5 h)) (v0 : Option Nat) (v1 : Int32) (v2 : Int32) (v3 : Int32) (v4 : Int32) (s0 : Int32) (h : AH) : sr_T (X := Int32) G 3 RX9 cX9_run 11 (some .int) false (sr_M G jI) 84 [(0, vR v0), (1, vI v1), (2, vI v2), (3, vI v3), (4, vI v4)] [vI s0] h (fX9_run_84 r8 v0 v1 v2 v3 v4 s0 h) := by
  unfold fX9_run_84
  refine tq_istore (L' := [(5, vI s0), (0, vR v0), (1, vI v1), (2, vI v2), (3, vI v3), (4, vI v4)]) dX9_run_84 (by decide) rfl ?_
  refine tq_goto 8 dX9_run_86 (by decide) ?_
  exact tq_sub [1, 2, 3, 4, 5, 0] rfl (hr8 v0 v1 v2 v3 v4 s0 h)
noncomputable def fX9_run_83 (r8 : Option Nat → Int32 → Int32 → Int32 → Int32 → Int32 → AH → Option (Int32 × AH)) (v0 : Option Nat) (v1 : Int32) (v2 : Int32) (v3 : Int32) (v4 : Int32) (h : AH) : Option (Int32 × AH) := fX9_run_84 r8 v0 v1 v2 v3 v4 (nI 0) h
theorem tX9_run_83 (G : sr_G) {r8 : Option Nat → Int32 → Int32 → Int32 → Int32 → Int32 → AH → Option (Int32 × AH)} (hr8 : ∀ (v0 : Option Nat) (v1 : Int32) (v2 : Int32) (v3 : Int32) (v4 : Int32) (v5 : Int32) (h : AH), sr_T (X := Int32) G 3 RX9 cX9_run 11 (some .int) false (sr_M G jI) 8 [(0, vR v0), (1, vI v1), (2, vI v2), (3, vI v3), (4, vI v4), (5, vI v5)] [] h (r8 v0 v1 v2 v3 v4 v5 h)) (v0 : Option Nat) (v1 : Int32) (v2 : Int32) (v3 : Int32) (v4 : Int32) (h : AH) : sr_T (X := Int32) G 3 RX9 cX9_run 11 (some .int) false (sr_M G jI) 83 [(0, vR v0), (1, vI v1), (2, vI v2), (3, vI v3), (4, vI v4)] [] h (fX9_run_83 r8 v0 v1 v2 v3 v4 h) := by
  unfold fX9_run_83
  refine tq_iconst (nI 0) dX9_run_83 (by decide) ?_
  exact tX9_run_84 G hr8 v0 v1 v2 v3 v4 (nI 0) h
noncomputable def fX9_run_79 (r8 : Option Nat → Int32 → Int32 → Int32 → Int32 → Int32 → AH → Option (Int32 × AH)) (v0 : Option Nat) (v1 : Int32) (v2 : Int32) (v3 : Int32) (v4 : Int32) (h : AH) : Option (Int32 × AH) := fX9_run_84 r8 v0 v1 v2 v3 v4 (nI 1) h
theorem tX9_run_79 (G : sr_G) {r8 : Option Nat → Int32 → Int32 → Int32 → Int32 → Int32 → AH → Option (Int32 × AH)} (hr8 : ∀ (v0 : Option Nat) (v1 : Int32) (v2 : Int32) (v3 : Int32) (v4 : Int32) (v5 : Int32) (h : AH), sr_T (X := Int32) G 3 RX9 cX9_run 11 (some .int) false (sr_M G jI) 8 [(0, vR v0), (1, vI v1), (2, vI v2), (3, vI v3), (4, vI v4), (5, vI v5)] [] h (r8 v0 v1 v2 v3 v4 v5 h)) (v0 : Option Nat) (v1 : Int32) (v2 : Int32) (v3 : Int32) (v4 : Int32) (h : AH) : sr_T (X := Int32) G 3 RX9 cX9_run 11 (some .int) false (sr_M G jI) 79 [(0, vR v0), (1, vI v1), (2, vI v2), (3, vI v3), (4, vI v4)] [] h (fX9_run_79 r8 v0 v1 v2 v3 v4 h) := by
  unfold fX9_run_79
  refine tq_iconst (nI 1) dX9_run_79 (by decide) ?_
  refine tq_goto 84 dX9_run_80 (by decide) ?_
  exact tX9_run_84 G hr8 v0 v1 v2 v3 v4 (nI 1) h
noncomputable def fX9_run_35 (r8 : Option Nat → Int32 → Int32 → Int32 → Int32 → Int32 → AH → Option (Int32 × AH)) (v0 : Option Nat) (v1 : Int32) (v2 : Int32) (v3 : Int32) (s0 : Int32) (h : AH) : Option (Int32 × AH) := cGI h 9 482 v0 fun x1 => if x1 ≤ (v3 + (nI 1)) then (fX9_run_83 r8 v0 v1 v2 (v3 + (nI 1)) s0 h) else (if v2 = 0 then (cCV h 9 v0 (fX9_isNote v0 (v3 + (nI 1)) h) fun x3 h2 => if x3 = 0 then (cCV h2 9 v0 (fX9_isTag v0 (v3 + (nI 1)) h2) fun x5 h4 => if x5 = 0 then (fX9_run_79 r8 v0 v1 v2 (v3 + (nI 1)) s0 h4) else (fX9_run_83 r8 v0 v1 v2 (v3 + (nI 1)) s0 h4)) else (fX9_run_83 r8 v0 v1 v2 (v3 + (nI 1)) s0 h2)) else (cCV h 9 v0 (fX9_endsStyle v0 (v3 + (nI 1)) h) fun x7 h6 => if x7 = 0 then (fX9_run_79 r8 v0 v1 v2 (v3 + (nI 1)) s0 h6) else (fX9_run_83 r8 v0 v1 v2 (v3 + (nI 1)) s0 h6)))
theorem tX9_run_35 (G : sr_G) {r8 : Option Nat → Int32 → Int32 → Int32 → Int32 → Int32 → AH → Option (Int32 × AH)} (hr8 : ∀ (v0 : Option Nat) (v1 : Int32) (v2 : Int32) (v3 : Int32) (v4 : Int32) (v5 : Int32) (h : AH), sr_T (X := Int32) G 3 RX9 cX9_run 11 (some .int) false (sr_M G jI) 8 [(0, vR v0), (1, vI v1), (2, vI v2), (3, vI v3), (4, vI v4), (5, vI v5)] [] h (r8 v0 v1 v2 v3 v4 v5 h)) (v0 : Option Nat) (v1 : Int32) (v2 : Int32) (v3 : Int32) (s0 : Int32) (h : AH) : sr_T (X := Int32) G 3 RX9 cX9_run 11 (some .int) false (sr_M G jI) 35 [(0, vR v0), (1, vI v1), (2, vI v2), (3, vI v3)] [vI s0] h (fX9_run_35 r8 v0 v1 v2 v3 s0 h) := by
  unfold fX9_run_35
  refine tq_istore (L' := [(4, vI s0), (0, vR v0), (1, vI v1), (2, vI v2), (3, vI v3)]) dX9_run_35 (by decide) rfl ?_
  refine tq_iinc 4 (nI 1) (L' := [(3, vI (v3 + (nI 1))), (4, vI s0), (0, vR v0), (1, vI v1), (2, vI v2)]) dX9_run_37 rfl (by decide) (by decide) rfl ?_
  refine tq_iload_n 3 0 dX9_run_40 rfl rfl ?_
  refine tq_aload_n 0 2 dX9_run_41 rfl rfl ?_
  refine tq_getI 32 dX9_run_42 cfX9 (by decide) wd_904 rfl rfl (fun x1 => ?_)
  refine tq_icmp_ge 83 dX9_run_45 (by decide) (fun _ => ?_) (fun _ => ?_)
  · exact tq_sub [2, 3, 4, 0, 1] rfl (tX9_run_83 G hr8 v0 v1 v2 (v3 + (nI 1)) s0 h)
  · refine tq_iload_n 2 4 dX9_run_48 rfl rfl ?_
    refine tq_if_eq 63 dX9_run_49 (by decide) (fun _ => ?_) (fun _ => ?_)
    · refine tq_aload_n 0 2 dX9_run_63 rfl rfl ?_
      refine tq_iload_n 3 0 dX9_run_64 rfl rfl ?_
      refine tq_cVI [vI (v3 + (nI 1))] [] dX9_run_65 (eX9_isNote G v0 (v3 + (nI 1)) h) (by decide) mbX9_isNote cfX9 rfl wd_1077 wd_1079 wd_51 rfl rfl (Nat.le_of_ble_eq_true rfl) (fun x3 h2 => ?_)
      refine tq_if_ne 83 dX9_run_68 (by decide) (fun _ => ?_) (fun _ => ?_)
      · exact tq_sub [2, 3, 4, 0, 1] rfl (tX9_run_83 G hr8 v0 v1 v2 (v3 + (nI 1)) s0 h2)
      · refine tq_aload_n 0 2 dX9_run_71 rfl rfl ?_
        refine tq_iload_n 3 0 dX9_run_72 rfl rfl ?_
        refine tq_cVI [vI (v3 + (nI 1))] [] dX9_run_73 (eX9_isTag G v0 (v3 + (nI 1)) h2) (by decide) mbX9_isTag cfX9 rfl wd_1081 wd_1083 wd_52 rfl rfl (Nat.le_of_ble_eq_true rfl) (fun x5 h4 => ?_)
        refine tq_if_ne 83 dX9_run_76 (by decide) (fun _ => ?_) (fun _ => ?_)
        · exact tq_sub [2, 3, 4, 0, 1] rfl (tX9_run_83 G hr8 v0 v1 v2 (v3 + (nI 1)) s0 h4)
        · exact tq_sub [2, 3, 4, 0, 1] rfl (tX9_run_79 G hr8 v0 v1 v2 (v3 + (nI 1)) s0 h4)
    · refine tq_aload_n 0 2 dX9_run_52 rfl rfl ?_
      refine tq_iload_n 3 0 dX9_run_53 rfl rfl ?_
      refine tq_cVI [vI (v3 + (nI 1))] [] dX9_run_54 (eX9_endsStyle G v0 (v3 + (nI 1)) h) (by decide) mbX9_endsStyle cfX9 rfl wd_1040 wd_1042 wd_48 rfl rfl (Nat.le_of_ble_eq_true rfl) (fun x7 h6 => ?_)
      refine tq_if_ne 83 dX9_run_57 (by decide) (fun _ => ?_) (fun _ => ?_)
      · exact tq_sub [2, 3, 4, 0, 1] rfl (tX9_run_83 G hr8 v0 v1 v2 (v3 + (nI 1)) s0 h6)
      · refine tq_goto 79 dX9_run_60 (by decide) ?_
        exact tq_sub [2, 3, 4, 0, 1] rfl (tX9_run_79 G hr8 v0 v1 v2 (v3 + (nI 1)) s0 h6)
noncomputable def fX9_run_34 (r8 : Option Nat → Int32 → Int32 → Int32 → Int32 → Int32 → AH → Option (Int32 × AH)) (v0 : Option Nat) (v1 : Int32) (v2 : Int32) (v3 : Int32) (h : AH) : Option (Int32 × AH) := fX9_run_35 r8 v0 v1 v2 v3 (nI 0) h
theorem tX9_run_34 (G : sr_G) {r8 : Option Nat → Int32 → Int32 → Int32 → Int32 → Int32 → AH → Option (Int32 × AH)} (hr8 : ∀ (v0 : Option Nat) (v1 : Int32) (v2 : Int32) (v3 : Int32) (v4 : Int32) (v5 : Int32) (h : AH), sr_T (X := Int32) G 3 RX9 cX9_run 11 (some .int) false (sr_M G jI) 8 [(0, vR v0), (1, vI v1), (2, vI v2), (3, vI v3), (4, vI v4), (5, vI v5)] [] h (r8 v0 v1 v2 v3 v4 v5 h)) (v0 : Option Nat) (v1 : Int32) (v2 : Int32) (v3 : Int32) (h : AH) : sr_T (X := Int32) G 3 RX9 cX9_run 11 (some .int) false (sr_M G jI) 34 [(0, vR v0), (1, vI v1), (2, vI v2), (3, vI v3)] [] h (fX9_run_34 r8 v0 v1 v2 v3 h) := by
  unfold fX9_run_34
  refine tq_iconst (nI 0) dX9_run_34 (by decide) ?_
  exact tX9_run_35 G hr8 v0 v1 v2 v3 (nI 0) h
noncomputable def fX9_run_8  : Nat → Option Nat → Int32 → Int32 → Int32 → Int32 → Int32 → AH → Option (Int32 × AH)
  | 0, _, _, _, _, _, _, _ => none
  | n + 1, v0, v1, v2, v3, v4, v5, h => if v5 = 0 then (fX9_run_89 v0 v1 v2 v3 v4 h) else (if v4 = 0 then (fX9_run_34 (fX9_run_8 n) v0 v1 v2 v3 h) else (cGR h 9 481 v0 fun x1 => cAL h 1 x1 v3 fun x2 => cCL (fX9_isBlank x2 h) fun x4 h3 => if x4 = 0 then (fX9_run_34 (fX9_run_8 n) v0 v1 v2 v3 h3) else (fX9_run_35 (fX9_run_8 n) v0 v1 v2 v3 (nI 1) h3)))
theorem tX9_run_8 (G : sr_G) : ∀ (n : Nat) (v0 : Option Nat) (v1 : Int32) (v2 : Int32) (v3 : Int32) (v4 : Int32) (v5 : Int32) (h : AH), sr_T (X := Int32) G 3 RX9 cX9_run 11 (some .int) false (sr_M G jI) 8 [(0, vR v0), (1, vI v1), (2, vI v2), (3, vI v3), (4, vI v4), (5, vI v5)] [] h (fX9_run_8  n v0 v1 v2 v3 v4 v5 h) := by
  intro n
  induction n with
  | zero => intro v0 v1 v2 v3 v4 v5 h; exact tq_none
  | succ n ih =>
    intro v0 v1 v2 v3 v4 v5 h
    unfold fX9_run_8
    refine tq_iload 5 dX9_run_8 rfl ?_
    refine tq_if_eq 89 dX9_run_10 (by decide) (fun _ => ?_) (fun _ => ?_)
    · exact tq_sub [0, 1, 2, 3, 4] rfl (tX9_run_89 G v0 v1 v2 v3 v4 h)
    · refine tq_iload 4 dX9_run_13 rfl ?_
      refine tq_if_eq 34 dX9_run_15 (by decide) (fun _ => ?_) (fun _ => ?_)
      · exact tq_sub [0, 1, 2, 3] rfl (tX9_run_34 G ih v0 v1 v2 v3 h)
      · refine tq_aload_n 0 0 dX9_run_18 rfl rfl ?_
        refine tq_getR 31 dX9_run_19 cfX9 (by decide) wd_903 rfl rfl (fun x1 => ?_)
        refine tq_iload_n 3 3 dX9_run_22 rfl rfl ?_
        refine tq_bald dX9_run_23 (fun x2 => ?_)
        refine tq_cSI [vI x2] [] dX9_run_24 (eX9_isBlank G x2 h) (by decide) mbX9_isBlank wd_1074 wd_1075 rfl rfl (Nat.le_of_ble_eq_true rfl) (fun x4 h3 => ?_)
        refine tq_if_eq 34 dX9_run_27 (by decide) (fun _ => ?_) (fun _ => ?_)
        · exact tq_sub [0, 1, 2, 3] rfl (tX9_run_34 G ih v0 v1 v2 v3 h3)
        · refine tq_iconst (nI 1) dX9_run_30 (by decide) ?_
          refine tq_goto 35 dX9_run_31 (by decide) ?_
          exact tq_sub [0, 1, 2, 3] rfl (tX9_run_35 G ih v0 v1 v2 v3 (nI 1) h3)
noncomputable def fX9_run_0  (v0 : Option Nat) (v1 : Int32) (v2 : Int32) (h : AH) : Option (Int32 × AH) := fX9_run_8 FU v0 v1 v2 v1 (nI 1) (nI 1) h
theorem tX9_run_0 (G : sr_G) (v0 : Option Nat) (v1 : Int32) (v2 : Int32) (h : AH) : sr_T (X := Int32) G 3 RX9 cX9_run 11 (some .int) false (sr_M G jI) 0 [(0, vR v0), (1, vI v1), (2, vI v2)] [] h (fX9_run_0  v0 v1 v2 h) := by
  unfold fX9_run_0
  refine tq_iload_n 1 1 dX9_run_0 rfl rfl ?_
  refine tq_istore_n 3 (L' := [(3, vI v1), (0, vR v0), (1, vI v1), (2, vI v2)]) dX9_run_1 rfl (by decide) rfl ?_
  refine tq_iconst (nI 1) dX9_run_2 (by decide) ?_
  refine tq_istore (L' := [(4, vI (nI 1)), (3, vI v1), (0, vR v0), (1, vI v1), (2, vI v2)]) dX9_run_3 (by decide) rfl ?_
  refine tq_iconst (nI 1) dX9_run_5 (by decide) ?_
  refine tq_istore (L' := [(5, vI (nI 1)), (4, vI (nI 1)), (3, vI v1), (0, vR v0), (1, vI v1), (2, vI v2)]) dX9_run_6 (by decide) rfl ?_
  exact tq_sub [3, 4, 5, 2, 1, 0] rfl (tX9_run_8 G FU v0 v1 v2 v1 (nI 1) (nI 1) h)
noncomputable def fX9_run (v0 : Option Nat) (v1 : Int32) (v2 : Int32) (h : AH) : Option (Int32 × AH) := fX9_run_0 v0 v1 v2 h
theorem eX9_run (G : sr_G) (v0 : Option Nat) (v1 : Int32) (v2 : Int32) (h : AH) : sr_E G 3 yX9_run cX9_run 11 (some .int) jI [vR v0, vI v1, vI v2] h (fX9_run v0 v1 v2 h) := sr_E.of (own := RX9) (ini := false) (by decide) rfl (fun q => by first | rfl | cases q) rfl (Nat.le_of_ble_eq_true rfl) (tX9_run_0 G v0 v1 v2 h)
noncomputable def fX9_readPage_114  (v0 : Option Nat) (h : AH) : Option (Unit × AH) := cCV h 9 v0 (fX9_closeTo v0 (nI 1) (-1) (-1) h) fun _ h1 => some ((), h1)
theorem tX9_readPage_114 (G : sr_G) (v0 : Option Nat) (h : AH) : sr_T (X := Unit) G 4 RX9 cX9_readPage 2 none false (sr_M G jV) 114 [(0, vR v0)] [] h (fX9_readPage_114  v0 h) := by
  unfold fX9_readPage_114
  refine tq_aload_n 0 0 dX9_readPage_114 rfl rfl ?_
  refine tq_iconst (nI 1) dX9_readPage_115 (by decide) ?_
  refine tq_iconst (-1) dX9_readPage_116 (by decide) ?_
  refine tq_iconst (-1) dX9_readPage_117 (by decide) ?_
  refine tq_cVV [vI (nI 1), vI (-1), vI (-1)] [] dX9_readPage_118 (eX9_closeTo G v0 (nI 1) (-1) (-1) h) (by decide) mbX9_closeTo cfX9 rfl wd_1130 wd_1132 wd_59 rfl rfl (Nat.le_of_ble_eq_true rfl) (fun _ h1 => ?_)
  exact tq_vret rfl dX9_readPage_121
noncomputable def fX9_readPage_70 (r23 : Option Nat → Int32 → AH → Option (Unit × AH)) (v0 : Option Nat) (v1 : Int32) (h : AH) : Option (Unit × AH) := cCV h 9 v0 (fX9_isNote v0 v1 h) fun x2 h1 => if x2 = 0 then (cCV h1 9 v0 (fX9_isTag v0 v1 h1) fun x4 h3 => if x4 = 0 then (cCV h3 9 v0 (fX9_run v0 v1 (nI 0) h3) fun x6 h5 => r23 v0 x6 h5) else (cCV h3 9 v0 (fX9_readTag v0 v1 h3) fun x8 h7 => r23 v0 x8 h7)) else (cCV h1 9 v0 (fX9_note v0 v1 h1) fun x10 h9 => r23 v0 x10 h9)
theorem tX9_readPage_70 (G : sr_G) {r23 : Option Nat → Int32 → AH → Option (Unit × AH)} (hr23 : ∀ (v0 : Option Nat) (v1 : Int32) (h : AH), sr_T (X := Unit) G 4 RX9 cX9_readPage 2 none false (sr_M G jV) 23 [(0, vR v0), (1, vI v1)] [] h (r23 v0 v1 h)) (v0 : Option Nat) (v1 : Int32) (h : AH) : sr_T (X := Unit) G 4 RX9 cX9_readPage 2 none false (sr_M G jV) 70 [(0, vR v0), (1, vI v1)] [] h (fX9_readPage_70 r23 v0 v1 h) := by
  unfold fX9_readPage_70
  refine tq_aload_n 0 0 dX9_readPage_70 rfl rfl ?_
  refine tq_iload_n 1 1 dX9_readPage_71 rfl rfl ?_
  refine tq_cVI [vI v1] [] dX9_readPage_72 (eX9_isNote G v0 v1 h) (by decide) mbX9_isNote cfX9 rfl wd_1077 wd_1079 wd_51 rfl rfl (Nat.le_of_ble_eq_true rfl) (fun x2 h1 => ?_)
  refine tq_if_eq 87 dX9_readPage_75 (by decide) (fun _ => ?_) (fun _ => ?_)
  · refine tq_aload_n 0 0 dX9_readPage_87 rfl rfl ?_
    refine tq_iload_n 1 1 dX9_readPage_88 rfl rfl ?_
    refine tq_cVI [vI v1] [] dX9_readPage_89 (eX9_isTag G v0 v1 h1) (by decide) mbX9_isTag cfX9 rfl wd_1081 wd_1083 wd_52 rfl rfl (Nat.le_of_ble_eq_true rfl) (fun x4 h3 => ?_)
    refine tq_if_eq 104 dX9_readPage_92 (by decide) (fun _ => ?_) (fun _ => ?_)
    · refine tq_aload_n 0 0 dX9_readPage_104 rfl rfl ?_
      refine tq_iload_n 1 1 dX9_readPage_105 rfl rfl ?_
      refine tq_iconst (nI 0) dX9_readPage_106 (by decide) ?_
      refine tq_cVI [vI v1, vI (nI 0)] [] dX9_readPage_107 (eX9_run G v0 v1 (nI 0) h3) (by decide) mbX9_run cfX9 rfl wd_1070 wd_1072 wd_50 rfl rfl (Nat.le_of_ble_eq_true rfl) (fun x6 h5 => ?_)
      refine tq_istore_n 1 (L' := [(1, vI x6), (0, vR v0)]) dX9_readPage_110 rfl (by decide) rfl ?_
      refine tq_goto 23 dX9_readPage_111 (by decide) ?_
      exact tq_sub [1, 0] rfl (hr23 v0 x6 h5)
    · refine tq_aload_n 0 0 dX9_readPage_95 rfl rfl ?_
      refine tq_iload_n 1 1 dX9_readPage_96 rfl rfl ?_
      refine tq_cVI [vI v1] [] dX9_readPage_97 (eX9_readTag G v0 v1 h3) (by decide) mbX9_readTag cfX9 rfl wd_1103 wd_1105 wd_56 rfl rfl (Nat.le_of_ble_eq_true rfl) (fun x8 h7 => ?_)
      refine tq_istore_n 1 (L' := [(1, vI x8), (0, vR v0)]) dX9_readPage_100 rfl (by decide) rfl ?_
      refine tq_goto 23 dX9_readPage_101 (by decide) ?_
      exact tq_sub [1, 0] rfl (hr23 v0 x8 h7)
  · refine tq_aload_n 0 0 dX9_readPage_78 rfl rfl ?_
    refine tq_iload_n 1 1 dX9_readPage_79 rfl rfl ?_
    refine tq_cVI [vI v1] [] dX9_readPage_80 (eX9_note G v0 v1 h1) (by decide) mbX9_note cfX9 rfl wd_1099 wd_1101 wd_55 rfl rfl (Nat.le_of_ble_eq_true rfl) (fun x10 h9 => ?_)
    refine tq_istore_n 1 (L' := [(1, vI x10), (0, vR v0)]) dX9_readPage_83 rfl (by decide) rfl ?_
    refine tq_goto 23 dX9_readPage_84 (by decide) ?_
    exact tq_sub [1, 0] rfl (hr23 v0 x10 h9)
noncomputable def fX9_readPage_23  : Nat → Option Nat → Int32 → AH → Option (Unit × AH)
  | 0, _, _, _ => none
  | n + 1, v0, v1, h => cGI h 9 482 v0 fun x1 => if x1 ≤ v1 then (fX9_readPage_114 v0 h) else (cGR h 9 457 v0 fun x2 => cGR h 9 479 v0 fun x3 => cGI h 9 480 v0 fun x4 => cAL h 0 x3 (x4 - (nI 1)) fun x5 => cAL h 0 x2 x5 fun x6 => if x6 = (nI 15) then (cCV h 9 v0 (fX9_endsStyle v0 v1 h) fun x8 h7 => if x8 = 0 then (cCV h7 9 v0 (fX9_run v0 v1 (nI 1) h7) fun x10 h9 => fX9_readPage_23 n v0 x10 h9) else (fX9_readPage_70 (fX9_readPage_23 n) v0 v1 h7)) else (fX9_readPage_70 (fX9_readPage_23 n) v0 v1 h))
theorem tX9_readPage_23 (G : sr_G) : ∀ (n : Nat) (v0 : Option Nat) (v1 : Int32) (h : AH), sr_T (X := Unit) G 4 RX9 cX9_readPage 2 none false (sr_M G jV) 23 [(0, vR v0), (1, vI v1)] [] h (fX9_readPage_23  n v0 v1 h) := by
  intro n
  induction n with
  | zero => intro v0 v1 h; exact tq_none
  | succ n ih =>
    intro v0 v1 h
    unfold fX9_readPage_23
    refine tq_iload_n 1 1 dX9_readPage_23 rfl rfl ?_
    refine tq_aload_n 0 0 dX9_readPage_24 rfl rfl ?_
    refine tq_getI 32 dX9_readPage_25 cfX9 (by decide) wd_904 rfl rfl (fun x1 => ?_)
    refine tq_icmp_ge 114 dX9_readPage_28 (by decide) (fun _ => ?_) (fun _ => ?_)
    · exact tq_sub [0] rfl (tX9_readPage_114 G v0 h)
    · refine tq_aload_n 0 0 dX9_readPage_31 rfl rfl ?_
      refine tq_getR 7 dX9_readPage_32 cfX9 (by decide) wd_879 rfl rfl (fun x2 => ?_)
      refine tq_aload_n 0 0 dX9_readPage_35 rfl rfl ?_
      refine tq_getR 29 dX9_readPage_36 cfX9 (by decide) wd_901 rfl rfl (fun x3 => ?_)
      refine tq_aload_n 0 0 dX9_readPage_39 rfl rfl ?_
      refine tq_getI 30 dX9_readPage_40 cfX9 (by decide) wd_902 rfl rfl (fun x4 => ?_)
      refine tq_iconst (nI 1) dX9_readPage_43 (by decide) ?_
      refine tq_isub dX9_readPage_44 ?_
      refine tq_iald dX9_readPage_45 (fun x5 => ?_)
      refine tq_iald dX9_readPage_46 (fun x6 => ?_)
      refine tq_bipush (nI 15) dX9_readPage_47 (by decide) ?_
      refine tq_icmp_ne 70 dX9_readPage_49 (by decide) (fun _ => ?_) (fun _ => ?_)
      · exact tX9_readPage_70 G ih v0 v1 h
      · refine tq_aload_n 0 0 dX9_readPage_52 rfl rfl ?_
        refine tq_iload_n 1 1 dX9_readPage_53 rfl rfl ?_
        refine tq_cVI [vI v1] [] dX9_readPage_54 (eX9_endsStyle G v0 v1 h) (by decide) mbX9_endsStyle cfX9 rfl wd_1040 wd_1042 wd_48 rfl rfl (Nat.le_of_ble_eq_true rfl) (fun x8 h7 => ?_)
        refine tq_if_ne 70 dX9_readPage_57 (by decide) (fun _ => ?_) (fun _ => ?_)
        · exact tX9_readPage_70 G ih v0 v1 h7
        · refine tq_aload_n 0 0 dX9_readPage_60 rfl rfl ?_
          refine tq_iload_n 1 1 dX9_readPage_61 rfl rfl ?_
          refine tq_iconst (nI 1) dX9_readPage_62 (by decide) ?_
          refine tq_cVI [vI v1, vI (nI 1)] [] dX9_readPage_63 (eX9_run G v0 v1 (nI 1) h7) (by decide) mbX9_run cfX9 rfl wd_1070 wd_1072 wd_50 rfl rfl (Nat.le_of_ble_eq_true rfl) (fun x10 h9 => ?_)
          refine tq_istore_n 1 (L' := [(1, vI x10), (0, vR v0)]) dX9_readPage_66 rfl (by decide) rfl ?_
          refine tq_goto 23 dX9_readPage_67 (by decide) ?_
          exact tq_sub [1, 0] rfl (ih v0 x10 h9)
noncomputable def fX9_readPage_0  (v0 : Option Nat) (h : AH) : Option (Unit × AH) := cPI h 9 476 v0 (nI 0) fun h1 => cCV h1 9 v0 (fX9_emptyTree v0 h1) fun _ h2 => cGR h2 9 479 v0 fun x3 => cAS h2 0 x3 (nI 0) (nI 0) fun h4 => cPI h4 9 480 v0 (nI 1) fun h5 => fX9_readPage_23 FU v0 (nI 0) h5
theorem tX9_readPage_0 (G : sr_G) (v0 : Option Nat) (h : AH) : sr_T (X := Unit) G 4 RX9 cX9_readPage 2 none false (sr_M G jV) 0 [(0, vR v0)] [] h (fX9_readPage_0  v0 h) := by
  unfold fX9_readPage_0
  refine tq_aload_n 0 0 dX9_readPage_0 rfl rfl ?_
  refine tq_iconst (nI 0) dX9_readPage_1 (by decide) ?_
  refine tq_putI 26 dX9_readPage_2 cfX9 (by decide) wd_898 rfl rfl (Or.inl rfl) (fun h1 => ?_)
  refine tq_aload_n 0 0 dX9_readPage_5 rfl rfl ?_
  refine tq_cVV [] [] dX9_readPage_6 (eX9_emptyTree G v0 h1) (by decide) mbX9_emptyTree cfX9 rfl wd_864 wd_866 wd_43 rfl rfl (Nat.le_of_ble_eq_true rfl) (fun _ h2 => ?_)
  refine tq_aload_n 0 0 dX9_readPage_9 rfl rfl ?_
  refine tq_getR 29 dX9_readPage_10 cfX9 (by decide) wd_901 rfl rfl (fun x3 => ?_)
  refine tq_iconst (nI 0) dX9_readPage_13 (by decide) ?_
  refine tq_iconst (nI 0) dX9_readPage_14 (by decide) ?_
  refine tq_iast dX9_readPage_15 (fun h4 => ?_)
  refine tq_aload_n 0 0 dX9_readPage_16 rfl rfl ?_
  refine tq_iconst (nI 1) dX9_readPage_17 (by decide) ?_
  refine tq_putI 30 dX9_readPage_18 cfX9 (by decide) wd_902 rfl rfl (Or.inl rfl) (fun h5 => ?_)
  refine tq_iconst (nI 0) dX9_readPage_21 (by decide) ?_
  refine tq_istore_n 1 (L' := [(1, vI (nI 0)), (0, vR v0)]) dX9_readPage_22 rfl (by decide) rfl ?_
  exact tq_sub [1, 0] rfl (tX9_readPage_23 G FU v0 (nI 0) h5)
noncomputable def fX9_readPage (v0 : Option Nat) (h : AH) : Option (Unit × AH) := fX9_readPage_0 v0 h
theorem eX9_readPage (G : sr_G) (v0 : Option Nat) (h : AH) : sr_E G 4 yX9_readPage cX9_readPage 2 none jV [vR v0] h (fX9_readPage v0 h) := sr_E.of (own := RX9) (ini := false) (by decide) rfl (fun q => by first | rfl | cases q) rfl (Nat.le_of_ble_eq_true rfl) (tX9_readPage_0 G v0 h)

noncomputable def fX9_sayEscaped_185   (h : AH) : Option (Unit × AH) := some ((), h)
theorem tX9_sayEscaped_185 (G : sr_G)  (h : AH) : sr_T (X := Unit) G 1 RX9 cX9_sayEscaped 7 none false (sr_M G jV) 185 [] [] h (fX9_sayEscaped_185  h) := by
  unfold fX9_sayEscaped_185
  exact tq_vret rfl dX9_sayEscaped_185
noncomputable def fX9_sayEscaped_179 (r3 : Option Nat → Option Nat → Int32 → Int32 → Int32 → Int32 → AH → Option (Unit × AH)) (v0 : Option Nat) (v1 : Option Nat) (v2 : Int32) (v3 : Int32) (v4 : Int32) (v5 : Int32) (h : AH) : Option (Unit × AH) := r3 v0 v1 v2 v3 v4 (v5 + (nI 1)) h
theorem tX9_sayEscaped_179 (G : sr_G) {r3 : Option Nat → Option Nat → Int32 → Int32 → Int32 → Int32 → AH → Option (Unit × AH)} (hr3 : ∀ (v0 : Option Nat) (v1 : Option Nat) (v2 : Int32) (v3 : Int32) (v4 : Int32) (v5 : Int32) (h : AH), sr_T (X := Unit) G 1 RX9 cX9_sayEscaped 7 none false (sr_M G jV) 3 [(0, vR v0), (1, vR v1), (2, vI v2), (3, vI v3), (4, vI v4), (5, vI v5)] [] h (r3 v0 v1 v2 v3 v4 v5 h)) (v0 : Option Nat) (v1 : Option Nat) (v2 : Int32) (v3 : Int32) (v4 : Int32) (v5 : Int32) (h : AH) : sr_T (X := Unit) G 1 RX9 cX9_sayEscaped 7 none false (sr_M G jV) 179 [(0, vR v0), (1, vR v1), (2, vI v2), (3, vI v3), (4, vI v4), (5, vI v5)] [] h (fX9_sayEscaped_179 r3 v0 v1 v2 v3 v4 v5 h) := by
  unfold fX9_sayEscaped_179
  refine tq_iinc 5 (nI 1) (L' := [(5, vI (v5 + (nI 1))), (0, vR v0), (1, vR v1), (2, vI v2), (3, vI v3), (4, vI v4)]) dX9_sayEscaped_179 rfl (by decide) (by decide) rfl ?_
  refine tq_goto 3 dX9_sayEscaped_182 (by decide) ?_
  exact tq_sub [1, 2, 3, 4, 5, 0] rfl (hr3 v0 v1 v2 v3 v4 (v5 + (nI 1)) h)
noncomputable def fX9_sayEscaped_50 (r3 : Option Nat → Option Nat → Int32 → Int32 → Int32 → Int32 → AH → Option (Unit × AH)) (v0 : Option Nat) (v1 : Option Nat) (v2 : Int32) (v3 : Int32) (v4 : Int32) (v5 : Int32) (v6 : Int32) (h : AH) : Option (Unit × AH) := cCV h 9 v0 (fX9_say v0 v6 h) fun _ h1 => fX9_sayEscaped_179 r3 v0 v1 v2 v3 v4 v5 h1
theorem tX9_sayEscaped_50 (G : sr_G) {r3 : Option Nat → Option Nat → Int32 → Int32 → Int32 → Int32 → AH → Option (Unit × AH)} (hr3 : ∀ (v0 : Option Nat) (v1 : Option Nat) (v2 : Int32) (v3 : Int32) (v4 : Int32) (v5 : Int32) (h : AH), sr_T (X := Unit) G 1 RX9 cX9_sayEscaped 7 none false (sr_M G jV) 3 [(0, vR v0), (1, vR v1), (2, vI v2), (3, vI v3), (4, vI v4), (5, vI v5)] [] h (r3 v0 v1 v2 v3 v4 v5 h)) (v0 : Option Nat) (v1 : Option Nat) (v2 : Int32) (v3 : Int32) (v4 : Int32) (v5 : Int32) (v6 : Int32) (h : AH) : sr_T (X := Unit) G 1 RX9 cX9_sayEscaped 7 none false (sr_M G jV) 50 [(0, vR v0), (1, vR v1), (2, vI v2), (3, vI v3), (4, vI v4), (5, vI v5), (6, vI v6)] [] h (fX9_sayEscaped_50 r3 v0 v1 v2 v3 v4 v5 v6 h) := by
  unfold fX9_sayEscaped_50
  refine tq_aload_n 0 0 dX9_sayEscaped_50 rfl rfl ?_
  refine tq_iload 6 dX9_sayEscaped_51 rfl ?_
  refine tq_cVV [vI v6] [] dX9_sayEscaped_53 (eX9_say G v0 v6 h) (by decide) mbX9_say cfX9 rfl wd_827 wd_829 wd_39 rfl rfl (Nat.le_of_ble_eq_true rfl) (fun _ h1 => ?_)
  refine tq_goto 179 dX9_sayEscaped_56 (by decide) ?_
  exact tq_sub [0, 1, 2, 3, 4, 5] rfl (tX9_sayEscaped_179 G hr3 v0 v1 v2 v3 v4 v5 h1)
noncomputable def fX9_sayEscaped_173 (r3 : Option Nat → Option Nat → Int32 → Int32 → Int32 → Int32 → AH → Option (Unit × AH)) (v0 : Option Nat) (v1 : Option Nat) (v2 : Int32) (v3 : Int32) (v4 : Int32) (v5 : Int32) (h : AH) : Option (Unit × AH) := cCV h 9 v0 (fX9_say v0 (nI 59) h) fun _ h1 => fX9_sayEscaped_179 r3 v0 v1 v2 v3 v4 v5 h1
theorem tX9_sayEscaped_173 (G : sr_G) {r3 : Option Nat → Option Nat → Int32 → Int32 → Int32 → Int32 → AH → Option (Unit × AH)} (hr3 : ∀ (v0 : Option Nat) (v1 : Option Nat) (v2 : Int32) (v3 : Int32) (v4 : Int32) (v5 : Int32) (h : AH), sr_T (X := Unit) G 1 RX9 cX9_sayEscaped 7 none false (sr_M G jV) 3 [(0, vR v0), (1, vR v1), (2, vI v2), (3, vI v3), (4, vI v4), (5, vI v5)] [] h (r3 v0 v1 v2 v3 v4 v5 h)) (v0 : Option Nat) (v1 : Option Nat) (v2 : Int32) (v3 : Int32) (v4 : Int32) (v5 : Int32) (h : AH) : sr_T (X := Unit) G 1 RX9 cX9_sayEscaped 7 none false (sr_M G jV) 173 [(0, vR v0), (1, vR v1), (2, vI v2), (3, vI v3), (4, vI v4), (5, vI v5)] [] h (fX9_sayEscaped_173 r3 v0 v1 v2 v3 v4 v5 h) := by
  unfold fX9_sayEscaped_173
  refine tq_aload_n 0 0 dX9_sayEscaped_173 rfl rfl ?_
  refine tq_bipush (nI 59) dX9_sayEscaped_174 (by decide) ?_
  refine tq_cVV [vI (nI 59)] [] dX9_sayEscaped_176 (eX9_say G v0 (nI 59) h) (by decide) mbX9_say cfX9 rfl wd_827 wd_829 wd_39 rfl rfl (Nat.le_of_ble_eq_true rfl) (fun _ h1 => ?_)
  exact tX9_sayEscaped_179 G hr3 v0 v1 v2 v3 v4 v5 h1
noncomputable def fX9_sayEscaped_130 (r3 : Option Nat → Option Nat → Int32 → Int32 → Int32 → Int32 → AH → Option (Unit × AH)) (v0 : Option Nat) (v1 : Option Nat) (v2 : Int32) (v3 : Int32) (v4 : Int32) (v5 : Int32) (v6 : Int32) (s0 : Int32) (s1 : Option Nat) (h : AH) : Option (Unit × AH) := cCV h 9 s1 (fX9_say s1 s0 h) fun _ h1 => if v6 = (nI 34) then (cCV h1 9 v0 (fX9_say v0 (nI 116) h1) fun _ h2 => fX9_sayEscaped_173 r3 v0 v1 v2 v3 v4 v5 h2) else (fX9_sayEscaped_173 r3 v0 v1 v2 v3 v4 v5 h1)
theorem tX9_sayEscaped_130 (G : sr_G) {r3 : Option Nat → Option Nat → Int32 → Int32 → Int32 → Int32 → AH → Option (Unit × AH)} (hr3 : ∀ (v0 : Option Nat) (v1 : Option Nat) (v2 : Int32) (v3 : Int32) (v4 : Int32) (v5 : Int32) (h : AH), sr_T (X := Unit) G 1 RX9 cX9_sayEscaped 7 none false (sr_M G jV) 3 [(0, vR v0), (1, vR v1), (2, vI v2), (3, vI v3), (4, vI v4), (5, vI v5)] [] h (r3 v0 v1 v2 v3 v4 v5 h)) (v0 : Option Nat) (v1 : Option Nat) (v2 : Int32) (v3 : Int32) (v4 : Int32) (v5 : Int32) (v6 : Int32) (s0 : Int32) (s1 : Option Nat) (h : AH) : sr_T (X := Unit) G 1 RX9 cX9_sayEscaped 7 none false (sr_M G jV) 130 [(0, vR v0), (1, vR v1), (2, vI v2), (3, vI v3), (4, vI v4), (5, vI v5), (6, vI v6)] [vI s0, vR s1] h (fX9_sayEscaped_130 r3 v0 v1 v2 v3 v4 v5 v6 s0 s1 h) := by
  unfold fX9_sayEscaped_130
  refine tq_cVV [vI s0] [] dX9_sayEscaped_130 (eX9_say G s1 s0 h) (by decide) mbX9_say cfX9 rfl wd_827 wd_829 wd_39 rfl rfl (Nat.le_of_ble_eq_true rfl) (fun _ h1 => ?_)
  refine tq_iload 6 dX9_sayEscaped_133 rfl ?_
  refine tq_bipush (nI 34) dX9_sayEscaped_135 (by decide) ?_
  refine tq_icmp_ne 173 dX9_sayEscaped_137 (by decide) (fun _ => ?_) (fun _ => ?_)
  · exact tq_sub [0, 1, 2, 3, 4, 5] rfl (tX9_sayEscaped_173 G hr3 v0 v1 v2 v3 v4 v5 h1)
  · refine tq_aload_n 0 0 dX9_sayEscaped_140 rfl rfl ?_
    refine tq_bipush (nI 116) dX9_sayEscaped_141 (by decide) ?_
    refine tq_cVV [vI (nI 116)] [] dX9_sayEscaped_143 (eX9_say G v0 (nI 116) h1) (by decide) mbX9_say cfX9 rfl wd_827 wd_829 wd_39 rfl rfl (Nat.le_of_ble_eq_true rfl) (fun _ h2 => ?_)
    refine tq_goto 173 dX9_sayEscaped_146 (by decide) ?_
    exact tq_sub [0, 1, 2, 3, 4, 5] rfl (tX9_sayEscaped_173 G hr3 v0 v1 v2 v3 v4 v5 h2)
noncomputable def fX9_sayEscaped_112 (r3 : Option Nat → Option Nat → Int32 → Int32 → Int32 → Int32 → AH → Option (Unit × AH)) (v0 : Option Nat) (v1 : Option Nat) (v2 : Int32) (v3 : Int32) (v4 : Int32) (v5 : Int32) (v6 : Int32) (s0 : Int32) (s1 : Option Nat) (h : AH) : Option (Unit × AH) := cCV h 9 s1 (fX9_say s1 s0 h) fun _ h1 => if v6 = (nI 38) then (fX9_sayEscaped_130 r3 v0 v1 v2 v3 v4 v5 v6 (nI 112) v0 h1) else (fX9_sayEscaped_130 r3 v0 v1 v2 v3 v4 v5 v6 (nI 111) v0 h1)
theorem tX9_sayEscaped_112 (G : sr_G) {r3 : Option Nat → Option Nat → Int32 → Int32 → Int32 → Int32 → AH → Option (Unit × AH)} (hr3 : ∀ (v0 : Option Nat) (v1 : Option Nat) (v2 : Int32) (v3 : Int32) (v4 : Int32) (v5 : Int32) (h : AH), sr_T (X := Unit) G 1 RX9 cX9_sayEscaped 7 none false (sr_M G jV) 3 [(0, vR v0), (1, vR v1), (2, vI v2), (3, vI v3), (4, vI v4), (5, vI v5)] [] h (r3 v0 v1 v2 v3 v4 v5 h)) (v0 : Option Nat) (v1 : Option Nat) (v2 : Int32) (v3 : Int32) (v4 : Int32) (v5 : Int32) (v6 : Int32) (s0 : Int32) (s1 : Option Nat) (h : AH) : sr_T (X := Unit) G 1 RX9 cX9_sayEscaped 7 none false (sr_M G jV) 112 [(0, vR v0), (1, vR v1), (2, vI v2), (3, vI v3), (4, vI v4), (5, vI v5), (6, vI v6)] [vI s0, vR s1] h (fX9_sayEscaped_112 r3 v0 v1 v2 v3 v4 v5 v6 s0 s1 h) := by
  unfold fX9_sayEscaped_112
  refine tq_cVV [vI s0] [] dX9_sayEscaped_112 (eX9_say G s1 s0 h) (by decide) mbX9_say cfX9 rfl wd_827 wd_829 wd_39 rfl rfl (Nat.le_of_ble_eq_true rfl) (fun _ h1 => ?_)
  refine tq_aload_n 0 0 dX9_sayEscaped_115 rfl rfl ?_
  refine tq_iload 6 dX9_sayEscaped_116 rfl ?_
  refine tq_bipush (nI 38) dX9_sayEscaped_118 (by decide) ?_
  refine tq_icmp_ne 128 dX9_sayEscaped_120 (by decide) (fun _ => ?_) (fun _ => ?_)
  · refine tq_bipush (nI 111) dX9_sayEscaped_128 (by decide) ?_
    exact tX9_sayEscaped_130 G hr3 v0 v1 v2 v3 v4 v5 v6 (nI 111) v0 h1
  · refine tq_bipush (nI 112) dX9_sayEscaped_123 (by decide) ?_
    refine tq_goto 130 dX9_sayEscaped_125 (by decide) ?_
    exact tX9_sayEscaped_130 G hr3 v0 v1 v2 v3 v4 v5 v6 (nI 112) v0 h1
noncomputable def fX9_sayEscaped_94 (r3 : Option Nat → Option Nat → Int32 → Int32 → Int32 → Int32 → AH → Option (Unit × AH)) (v0 : Option Nat) (v1 : Option Nat) (v2 : Int32) (v3 : Int32) (v4 : Int32) (v5 : Int32) (v6 : Int32) (s0 : Int32) (s1 : Option Nat) (h : AH) : Option (Unit × AH) := cCV h 9 s1 (fX9_say s1 s0 h) fun _ h1 => if v6 = (nI 38) then (fX9_sayEscaped_112 r3 v0 v1 v2 v3 v4 v5 v6 (nI 109) v0 h1) else (fX9_sayEscaped_112 r3 v0 v1 v2 v3 v4 v5 v6 (nI 117) v0 h1)
theorem tX9_sayEscaped_94 (G : sr_G) {r3 : Option Nat → Option Nat → Int32 → Int32 → Int32 → Int32 → AH → Option (Unit × AH)} (hr3 : ∀ (v0 : Option Nat) (v1 : Option Nat) (v2 : Int32) (v3 : Int32) (v4 : Int32) (v5 : Int32) (h : AH), sr_T (X := Unit) G 1 RX9 cX9_sayEscaped 7 none false (sr_M G jV) 3 [(0, vR v0), (1, vR v1), (2, vI v2), (3, vI v3), (4, vI v4), (5, vI v5)] [] h (r3 v0 v1 v2 v3 v4 v5 h)) (v0 : Option Nat) (v1 : Option Nat) (v2 : Int32) (v3 : Int32) (v4 : Int32) (v5 : Int32) (v6 : Int32) (s0 : Int32) (s1 : Option Nat) (h : AH) : sr_T (X := Unit) G 1 RX9 cX9_sayEscaped 7 none false (sr_M G jV) 94 [(0, vR v0), (1, vR v1), (2, vI v2), (3, vI v3), (4, vI v4), (5, vI v5), (6, vI v6)] [vI s0, vR s1] h (fX9_sayEscaped_94 r3 v0 v1 v2 v3 v4 v5 v6 s0 s1 h) := by
  unfold fX9_sayEscaped_94
  refine tq_cVV [vI s0] [] dX9_sayEscaped_94 (eX9_say G s1 s0 h) (by decide) mbX9_say cfX9 rfl wd_827 wd_829 wd_39 rfl rfl (Nat.le_of_ble_eq_true rfl) (fun _ h1 => ?_)
  refine tq_aload_n 0 0 dX9_sayEscaped_97 rfl rfl ?_
  refine tq_iload 6 dX9_sayEscaped_98 rfl ?_
  refine tq_bipush (nI 38) dX9_sayEscaped_100 (by decide) ?_
  refine tq_icmp_ne 110 dX9_sayEscaped_102 (by decide) (fun _ => ?_) (fun _ => ?_)
  · refine tq_bipush (nI 117) dX9_sayEscaped_110 (by decide) ?_
    exact tX9_sayEscaped_112 G hr3 v0 v1 v2 v3 v4 v5 v6 (nI 117) v0 h1
  · refine tq_bipush (nI 109) dX9_sayEscaped_105 (by decide) ?_
    refine tq_goto 112 dX9_sayEscaped_107 (by decide) ?_
    exact tX9_sayEscaped_112 G hr3 v0 v1 v2 v3 v4 v5 v6 (nI 109) v0 h1
noncomputable def fX9_sayEscaped_79 (r3 : Option Nat → Option Nat → Int32 → Int32 → Int32 → Int32 → AH → Option (Unit × AH)) (v0 : Option Nat) (v1 : Option Nat) (v2 : Int32) (v3 : Int32) (v4 : Int32) (v5 : Int32) (v6 : Int32) (h : AH) : Option (Unit × AH) := if v6 = (nI 38) then (fX9_sayEscaped_94 r3 v0 v1 v2 v3 v4 v5 v6 (nI 97) v0 h) else (fX9_sayEscaped_94 r3 v0 v1 v2 v3 v4 v5 v6 (nI 113) v0 h)
theorem tX9_sayEscaped_79 (G : sr_G) {r3 : Option Nat → Option Nat → Int32 → Int32 → Int32 → Int32 → AH → Option (Unit × AH)} (hr3 : ∀ (v0 : Option Nat) (v1 : Option Nat) (v2 : Int32) (v3 : Int32) (v4 : Int32) (v5 : Int32) (h : AH), sr_T (X := Unit) G 1 RX9 cX9_sayEscaped 7 none false (sr_M G jV) 3 [(0, vR v0), (1, vR v1), (2, vI v2), (3, vI v3), (4, vI v4), (5, vI v5)] [] h (r3 v0 v1 v2 v3 v4 v5 h)) (v0 : Option Nat) (v1 : Option Nat) (v2 : Int32) (v3 : Int32) (v4 : Int32) (v5 : Int32) (v6 : Int32) (h : AH) : sr_T (X := Unit) G 1 RX9 cX9_sayEscaped 7 none false (sr_M G jV) 79 [(0, vR v0), (1, vR v1), (2, vI v2), (3, vI v3), (4, vI v4), (5, vI v5), (6, vI v6)] [] h (fX9_sayEscaped_79 r3 v0 v1 v2 v3 v4 v5 v6 h) := by
  unfold fX9_sayEscaped_79
  refine tq_aload_n 0 0 dX9_sayEscaped_79 rfl rfl ?_
  refine tq_iload 6 dX9_sayEscaped_80 rfl ?_
  refine tq_bipush (nI 38) dX9_sayEscaped_82 (by decide) ?_
  refine tq_icmp_ne 92 dX9_sayEscaped_84 (by decide) (fun _ => ?_) (fun _ => ?_)
  · refine tq_bipush (nI 113) dX9_sayEscaped_92 (by decide) ?_
    exact tX9_sayEscaped_94 G hr3 v0 v1 v2 v3 v4 v5 v6 (nI 113) v0 h
  · refine tq_bipush (nI 97) dX9_sayEscaped_87 (by decide) ?_
    refine tq_goto 94 dX9_sayEscaped_89 (by decide) ?_
    exact tX9_sayEscaped_94 G hr3 v0 v1 v2 v3 v4 v5 v6 (nI 97) v0 h
noncomputable def fX9_sayEscaped_164 (r3 : Option Nat → Option Nat → Int32 → Int32 → Int32 → Int32 → AH → Option (Unit × AH)) (v0 : Option Nat) (v1 : Option Nat) (v2 : Int32) (v3 : Int32) (v4 : Int32) (v5 : Int32) (s0 : Int32) (s1 : Option Nat) (h : AH) : Option (Unit × AH) := cCV h 9 s1 (fX9_say s1 s0 h) fun _ h1 => cCV h1 9 v0 (fX9_say v0 (nI 116) h1) fun _ h2 => fX9_sayEscaped_173 r3 v0 v1 v2 v3 v4 v5 h2
theorem tX9_sayEscaped_164 (G : sr_G) {r3 : Option Nat → Option Nat → Int32 → Int32 → Int32 → Int32 → AH → Option (Unit × AH)} (hr3 : ∀ (v0 : Option Nat) (v1 : Option Nat) (v2 : Int32) (v3 : Int32) (v4 : Int32) (v5 : Int32) (h : AH), sr_T (X := Unit) G 1 RX9 cX9_sayEscaped 7 none false (sr_M G jV) 3 [(0, vR v0), (1, vR v1), (2, vI v2), (3, vI v3), (4, vI v4), (5, vI v5)] [] h (r3 v0 v1 v2 v3 v4 v5 h)) (v0 : Option Nat) (v1 : Option Nat) (v2 : Int32) (v3 : Int32) (v4 : Int32) (v5 : Int32) (s0 : Int32) (s1 : Option Nat) (h : AH) : sr_T (X := Unit) G 1 RX9 cX9_sayEscaped 7 none false (sr_M G jV) 164 [(0, vR v0), (1, vR v1), (2, vI v2), (3, vI v3), (4, vI v4), (5, vI v5)] [vI s0, vR s1] h (fX9_sayEscaped_164 r3 v0 v1 v2 v3 v4 v5 s0 s1 h) := by
  unfold fX9_sayEscaped_164
  refine tq_cVV [vI s0] [] dX9_sayEscaped_164 (eX9_say G s1 s0 h) (by decide) mbX9_say cfX9 rfl wd_827 wd_829 wd_39 rfl rfl (Nat.le_of_ble_eq_true rfl) (fun _ h1 => ?_)
  refine tq_aload_n 0 0 dX9_sayEscaped_167 rfl rfl ?_
  refine tq_bipush (nI 116) dX9_sayEscaped_168 (by decide) ?_
  refine tq_cVV [vI (nI 116)] [] dX9_sayEscaped_170 (eX9_say G v0 (nI 116) h1) (by decide) mbX9_say cfX9 rfl wd_827 wd_829 wd_39 rfl rfl (Nat.le_of_ble_eq_true rfl) (fun _ h2 => ?_)
  exact tX9_sayEscaped_173 G hr3 v0 v1 v2 v3 v4 v5 h2
noncomputable def fX9_sayEscaped_59 (r3 : Option Nat → Option Nat → Int32 → Int32 → Int32 → Int32 → AH → Option (Unit × AH)) (v0 : Option Nat) (v1 : Option Nat) (v2 : Int32) (v3 : Int32) (v4 : Int32) (v5 : Int32) (v6 : Int32) (h : AH) : Option (Unit × AH) := cCV h 9 v0 (fX9_say v0 (nI 38) h) fun _ h1 => if v6 = (nI 38) then (fX9_sayEscaped_79 r3 v0 v1 v2 v3 v4 v5 v6 h1) else (if v6 = (nI 34) then (fX9_sayEscaped_79 r3 v0 v1 v2 v3 v4 v5 v6 h1) else (if v6 = (nI 60) then (fX9_sayEscaped_164 r3 v0 v1 v2 v3 v4 v5 (nI 108) v0 h1) else (fX9_sayEscaped_164 r3 v0 v1 v2 v3 v4 v5 (nI 103) v0 h1)))
theorem tX9_sayEscaped_59 (G : sr_G) {r3 : Option Nat → Option Nat → Int32 → Int32 → Int32 → Int32 → AH → Option (Unit × AH)} (hr3 : ∀ (v0 : Option Nat) (v1 : Option Nat) (v2 : Int32) (v3 : Int32) (v4 : Int32) (v5 : Int32) (h : AH), sr_T (X := Unit) G 1 RX9 cX9_sayEscaped 7 none false (sr_M G jV) 3 [(0, vR v0), (1, vR v1), (2, vI v2), (3, vI v3), (4, vI v4), (5, vI v5)] [] h (r3 v0 v1 v2 v3 v4 v5 h)) (v0 : Option Nat) (v1 : Option Nat) (v2 : Int32) (v3 : Int32) (v4 : Int32) (v5 : Int32) (v6 : Int32) (h : AH) : sr_T (X := Unit) G 1 RX9 cX9_sayEscaped 7 none false (sr_M G jV) 59 [(0, vR v0), (1, vR v1), (2, vI v2), (3, vI v3), (4, vI v4), (5, vI v5), (6, vI v6)] [] h (fX9_sayEscaped_59 r3 v0 v1 v2 v3 v4 v5 v6 h) := by
  unfold fX9_sayEscaped_59
  refine tq_aload_n 0 0 dX9_sayEscaped_59 rfl rfl ?_
  refine tq_bipush (nI 38) dX9_sayEscaped_60 (by decide) ?_
  refine tq_cVV [vI (nI 38)] [] dX9_sayEscaped_62 (eX9_say G v0 (nI 38) h) (by decide) mbX9_say cfX9 rfl wd_827 wd_829 wd_39 rfl rfl (Nat.le_of_ble_eq_true rfl) (fun _ h1 => ?_)
  refine tq_iload 6 dX9_sayEscaped_65 rfl ?_
  refine tq_bipush (nI 38) dX9_sayEscaped_67 (by decide) ?_
  refine tq_icmp_eq 79 dX9_sayEscaped_69 (by decide) (fun _ => ?_) (fun _ => ?_)
  · exact tX9_sayEscaped_79 G hr3 v0 v1 v2 v3 v4 v5 v6 h1
  · refine tq_iload 6 dX9_sayEscaped_72 rfl ?_
    refine tq_bipush (nI 34) dX9_sayEscaped_74 (by decide) ?_
    refine tq_icmp_ne 149 dX9_sayEscaped_76 (by decide) (fun _ => ?_) (fun _ => ?_)
    · refine tq_aload_n 0 0 dX9_sayEscaped_149 rfl rfl ?_
      refine tq_iload 6 dX9_sayEscaped_150 rfl ?_
      refine tq_bipush (nI 60) dX9_sayEscaped_152 (by decide) ?_
      refine tq_icmp_ne 162 dX9_sayEscaped_154 (by decide) (fun _ => ?_) (fun _ => ?_)
      · refine tq_bipush (nI 103) dX9_sayEscaped_162 (by decide) ?_
        exact tq_sub [0, 1, 2, 3, 4, 5] rfl (tX9_sayEscaped_164 G hr3 v0 v1 v2 v3 v4 v5 (nI 103) v0 h1)
      · refine tq_bipush (nI 108) dX9_sayEscaped_157 (by decide) ?_
        refine tq_goto 164 dX9_sayEscaped_159 (by decide) ?_
        exact tq_sub [0, 1, 2, 3, 4, 5] rfl (tX9_sayEscaped_164 G hr3 v0 v1 v2 v3 v4 v5 (nI 108) v0 h1)
    · exact tX9_sayEscaped_79 G hr3 v0 v1 v2 v3 v4 v5 v6 h1
noncomputable def fX9_sayEscaped_3  : Nat → Option Nat → Option Nat → Int32 → Int32 → Int32 → Int32 → AH → Option (Unit × AH)
  | 0, _, _, _, _, _, _, _ => none
  | n + 1, v0, v1, v2, v3, v4, v5, h => if v3 ≤ v5 then (fX9_sayEscaped_185 h) else (cAL h 1 v1 (v2 + v5) fun x1 => if v4 = 0 then (if x1 = (nI 60) then (fX9_sayEscaped_59 (fX9_sayEscaped_3 n) v0 v1 v2 v3 v4 v5 x1 h) else (if x1 = (nI 62) then (fX9_sayEscaped_59 (fX9_sayEscaped_3 n) v0 v1 v2 v3 v4 v5 x1 h) else (if x1 = (nI 38) then (fX9_sayEscaped_59 (fX9_sayEscaped_3 n) v0 v1 v2 v3 v4 v5 x1 h) else (if x1 = (nI 34) then (fX9_sayEscaped_59 (fX9_sayEscaped_3 n) v0 v1 v2 v3 v4 v5 x1 h) else (fX9_sayEscaped_50 (fX9_sayEscaped_3 n) v0 v1 v2 v3 v4 v5 x1 h))))) else (fX9_sayEscaped_50 (fX9_sayEscaped_3 n) v0 v1 v2 v3 v4 v5 x1 h))
theorem tX9_sayEscaped_3 (G : sr_G) : ∀ (n : Nat) (v0 : Option Nat) (v1 : Option Nat) (v2 : Int32) (v3 : Int32) (v4 : Int32) (v5 : Int32) (h : AH), sr_T (X := Unit) G 1 RX9 cX9_sayEscaped 7 none false (sr_M G jV) 3 [(0, vR v0), (1, vR v1), (2, vI v2), (3, vI v3), (4, vI v4), (5, vI v5)] [] h (fX9_sayEscaped_3  n v0 v1 v2 v3 v4 v5 h) := by
  intro n
  induction n with
  | zero => intro v0 v1 v2 v3 v4 v5 h; exact tq_none
  | succ n ih =>
    intro v0 v1 v2 v3 v4 v5 h
    unfold fX9_sayEscaped_3
    refine tq_iload 5 dX9_sayEscaped_3 rfl ?_
    refine tq_iload_n 3 3 dX9_sayEscaped_5 rfl rfl ?_
    refine tq_icmp_ge 185 dX9_sayEscaped_6 (by decide) (fun _ => ?_) (fun _ => ?_)
    · exact tq_sub [] rfl (tX9_sayEscaped_185 G h)
    · refine tq_aload_n 1 1 dX9_sayEscaped_9 rfl rfl ?_
      refine tq_iload_n 2 2 dX9_sayEscaped_10 rfl rfl ?_
      refine tq_iload 5 dX9_sayEscaped_11 rfl ?_
      refine tq_iadd dX9_sayEscaped_13 ?_
      refine tq_bald dX9_sayEscaped_14 (fun x1 => ?_)
      refine tq_istore (L' := [(6, vI x1), (0, vR v0), (1, vR v1), (2, vI v2), (3, vI v3), (4, vI v4), (5, vI v5)]) dX9_sayEscaped_15 (by decide) rfl ?_
      refine tq_iload 5 dX9_sayEscaped_17 rfl ?_
      refine tq_if_ne 50 dX9_sayEscaped_19 (by decide) (fun _ => ?_) (fun _ => ?_)
      · exact tq_sub [1, 2, 3, 4, 5, 6, 0] rfl (tX9_sayEscaped_50 G ih v0 v1 v2 v3 v4 v5 x1 h)
      · refine tq_iload 0 dX9_sayEscaped_22 rfl ?_
        refine tq_bipush (nI 60) dX9_sayEscaped_24 (by decide) ?_
        refine tq_icmp_eq 59 dX9_sayEscaped_26 (by decide) (fun _ => ?_) (fun _ => ?_)
        · exact tq_sub [1, 2, 3, 4, 5, 6, 0] rfl (tX9_sayEscaped_59 G ih v0 v1 v2 v3 v4 v5 x1 h)
        · refine tq_iload 0 dX9_sayEscaped_29 rfl ?_
          refine tq_bipush (nI 62) dX9_sayEscaped_31 (by decide) ?_
          refine tq_icmp_eq 59 dX9_sayEscaped_33 (by decide) (fun _ => ?_) (fun _ => ?_)
          · exact tq_sub [1, 2, 3, 4, 5, 6, 0] rfl (tX9_sayEscaped_59 G ih v0 v1 v2 v3 v4 v5 x1 h)
          · refine tq_iload 0 dX9_sayEscaped_36 rfl ?_
            refine tq_bipush (nI 38) dX9_sayEscaped_38 (by decide) ?_
            refine tq_icmp_eq 59 dX9_sayEscaped_40 (by decide) (fun _ => ?_) (fun _ => ?_)
            · exact tq_sub [1, 2, 3, 4, 5, 6, 0] rfl (tX9_sayEscaped_59 G ih v0 v1 v2 v3 v4 v5 x1 h)
            · refine tq_iload 0 dX9_sayEscaped_43 rfl ?_
              refine tq_bipush (nI 34) dX9_sayEscaped_45 (by decide) ?_
              refine tq_icmp_eq 59 dX9_sayEscaped_47 (by decide) (fun _ => ?_) (fun _ => ?_)
              · exact tq_sub [1, 2, 3, 4, 5, 6, 0] rfl (tX9_sayEscaped_59 G ih v0 v1 v2 v3 v4 v5 x1 h)
              · exact tq_sub [1, 2, 3, 4, 5, 6, 0] rfl (tX9_sayEscaped_50 G ih v0 v1 v2 v3 v4 v5 x1 h)
noncomputable def fX9_sayEscaped_0  (v0 : Option Nat) (v1 : Option Nat) (v2 : Int32) (v3 : Int32) (v4 : Int32) (h : AH) : Option (Unit × AH) := fX9_sayEscaped_3 FU v0 v1 v2 v3 v4 (nI 0) h
theorem tX9_sayEscaped_0 (G : sr_G) (v0 : Option Nat) (v1 : Option Nat) (v2 : Int32) (v3 : Int32) (v4 : Int32) (h : AH) : sr_T (X := Unit) G 1 RX9 cX9_sayEscaped 7 none false (sr_M G jV) 0 [(0, vR v0), (1, vR v1), (2, vI v2), (3, vI v3), (4, vI v4)] [] h (fX9_sayEscaped_0  v0 v1 v2 v3 v4 h) := by
  unfold fX9_sayEscaped_0
  refine tq_iconst (nI 0) dX9_sayEscaped_0 (by decide) ?_
  refine tq_istore (L' := [(5, vI (nI 0)), (0, vR v0), (1, vR v1), (2, vI v2), (3, vI v3), (4, vI v4)]) dX9_sayEscaped_1 (by decide) rfl ?_
  exact tq_sub [1, 2, 3, 4, 5, 0] rfl (tX9_sayEscaped_3 G FU v0 v1 v2 v3 v4 (nI 0) h)
noncomputable def fX9_sayEscaped (v0 : Option Nat) (v1 : Option Nat) (v2 : Int32) (v3 : Int32) (v4 : Int32) (h : AH) : Option (Unit × AH) := fX9_sayEscaped_0 v0 v1 v2 v3 v4 h
theorem eX9_sayEscaped (G : sr_G) (v0 : Option Nat) (v1 : Option Nat) (v2 : Int32) (v3 : Int32) (v4 : Int32) (h : AH) : sr_E G 1 yX9_sayEscaped cX9_sayEscaped 7 none jV [vR v0, vR v1, vI v2, vI v3, vI v4] h (fX9_sayEscaped v0 v1 v2 v3 v4 h) := sr_E.of (own := RX9) (ini := false) (by decide) rfl (fun q => by first | rfl | cases q) rfl (Nat.le_of_ble_eq_true rfl) (tX9_sayEscaped_0 G v0 v1 v2 v3 v4 h)
noncomputable def fX9_sayBegin_109  (v0 : Option Nat) (h : AH) : Option (Unit × AH) := cCV h 9 v0 (fX9_say v0 (nI 62) h) fun _ h1 => some ((), h1)
theorem tX9_sayBegin_109 (G : sr_G) (v0 : Option Nat) (h : AH) : sr_T (X := Unit) G 2 RX9 cX9_sayBegin 3 none false (sr_M G jV) 109 [(0, vR v0)] [] h (fX9_sayBegin_109  v0 h) := by
  unfold fX9_sayBegin_109
  refine tq_aload_n 0 0 dX9_sayBegin_109 rfl rfl ?_
  refine tq_bipush (nI 62) dX9_sayBegin_110 (by decide) ?_
  refine tq_cVV [vI (nI 62)] [] dX9_sayBegin_112 (eX9_say G v0 (nI 62) h) (by decide) mbX9_say cfX9 rfl wd_827 wd_829 wd_39 rfl rfl (Nat.le_of_ble_eq_true rfl) (fun _ h1 => ?_)
  exact tq_vret rfl dX9_sayBegin_115
noncomputable def fX9_sayBegin_28  : Nat → Option Nat → Int32 → Int32 → AH → Option (Unit × AH)
  | 0, _, _, _, _ => none
  | n + 1, v0, v1, v2, h => cGR h 9 466 v0 fun x1 => cAL h 0 x1 v1 fun x2 => if (((nI 4) * v1) + x2) ≤ v2 then (fX9_sayBegin_109 v0 h) else (cCV h 9 v0 (fX9_say v0 (nI 32) h) fun _ h3 => cGR h3 9 467 v0 fun x4 => cGR h3 9 468 v0 fun x5 => cAL h3 0 x5 v2 fun x6 => cCV h3 9 v0 (fX9_sayAll v0 x4 ((nI 8) * v2) x6 h3) fun _ h7 => cCV h7 9 v0 (fX9_say v0 (nI 61) h7) fun _ h8 => cCV h8 9 v0 (fX9_say v0 (nI 34) h8) fun _ h9 => cGR h9 9 469 v0 fun x10 => cGR h9 9 470 v0 fun x11 => cAL h9 0 x11 v2 fun x12 => cCV h9 9 v0 (fX9_sayEscaped v0 x10 ((nI 60) * v2) x12 (nI 0) h9) fun _ h13 => cCV h13 9 v0 (fX9_say v0 (nI 34) h13) fun _ h14 => fX9_sayBegin_28 n v0 v1 (v2 + (nI 1)) h14)
theorem tX9_sayBegin_28 (G : sr_G) : ∀ (n : Nat) (v0 : Option Nat) (v1 : Int32) (v2 : Int32) (h : AH), sr_T (X := Unit) G 2 RX9 cX9_sayBegin 3 none false (sr_M G jV) 28 [(0, vR v0), (1, vI v1), (2, vI v2)] [] h (fX9_sayBegin_28  n v0 v1 v2 h) := by
  intro n
  induction n with
  | zero => intro v0 v1 v2 h; exact tq_none
  | succ n ih =>
    intro v0 v1 v2 h
    unfold fX9_sayBegin_28
    refine tq_iload_n 2 2 dX9_sayBegin_28 rfl rfl ?_
    refine tq_iconst (nI 4) dX9_sayBegin_29 (by decide) ?_
    refine tq_iload_n 1 1 dX9_sayBegin_30 rfl rfl ?_
    refine tq_imul dX9_sayBegin_31 ?_
    refine tq_aload_n 0 0 dX9_sayBegin_32 rfl rfl ?_
    refine tq_getR 16 dX9_sayBegin_33 cfX9 (by decide) wd_888 rfl rfl (fun x1 => ?_)
    refine tq_iload_n 1 1 dX9_sayBegin_36 rfl rfl ?_
    refine tq_iald dX9_sayBegin_37 (fun x2 => ?_)
    refine tq_iadd dX9_sayBegin_38 ?_
    refine tq_icmp_ge 109 dX9_sayBegin_39 (by decide) (fun _ => ?_) (fun _ => ?_)
    · exact tq_sub [0] rfl (tX9_sayBegin_109 G v0 h)
    · refine tq_aload_n 0 0 dX9_sayBegin_42 rfl rfl ?_
      refine tq_bipush (nI 32) dX9_sayBegin_43 (by decide) ?_
      refine tq_cVV [vI (nI 32)] [] dX9_sayBegin_45 (eX9_say G v0 (nI 32) h) (by decide) mbX9_say cfX9 rfl wd_827 wd_829 wd_39 rfl rfl (Nat.le_of_ble_eq_true rfl) (fun _ h3 => ?_)
      refine tq_aload_n 0 0 dX9_sayBegin_48 rfl rfl ?_
      refine tq_aload_n 0 0 dX9_sayBegin_49 rfl rfl ?_
      refine tq_getR 17 dX9_sayBegin_50 cfX9 (by decide) wd_889 rfl rfl (fun x4 => ?_)
      refine tq_bipush (nI 8) dX9_sayBegin_53 (by decide) ?_
      refine tq_iload_n 2 2 dX9_sayBegin_55 rfl rfl ?_
      refine tq_imul dX9_sayBegin_56 ?_
      refine tq_aload_n 0 0 dX9_sayBegin_57 rfl rfl ?_
      refine tq_getR 18 dX9_sayBegin_58 cfX9 (by decide) wd_890 rfl rfl (fun x5 => ?_)
      refine tq_iload_n 2 2 dX9_sayBegin_61 rfl rfl ?_
      refine tq_iald dX9_sayBegin_62 (fun x6 => ?_)
      refine tq_cVV [vR x4, vI ((nI 8) * v2), vI x6] [] dX9_sayBegin_63 (eX9_sayAll G v0 x4 ((nI 8) * v2) x6 h3) (by decide) mbX9_sayAll cfX9 rfl wd_835 wd_837 wd_41 rfl rfl (Nat.le_of_ble_eq_true rfl) (fun _ h7 => ?_)
      refine tq_aload_n 0 0 dX9_sayBegin_66 rfl rfl ?_
      refine tq_bipush (nI 61) dX9_sayBegin_67 (by decide) ?_
      refine tq_cVV [vI (nI 61)] [] dX9_sayBegin_69 (eX9_say G v0 (nI 61) h7) (by decide) mbX9_say cfX9 rfl wd_827 wd_829 wd_39 rfl rfl (Nat.le_of_ble_eq_true rfl) (fun _ h8 => ?_)
      refine tq_aload_n 0 0 dX9_sayBegin_72 rfl rfl ?_
      refine tq_bipush (nI 34) dX9_sayBegin_73 (by decide) ?_
      refine tq_cVV [vI (nI 34)] [] dX9_sayBegin_75 (eX9_say G v0 (nI 34) h8) (by decide) mbX9_say cfX9 rfl wd_827 wd_829 wd_39 rfl rfl (Nat.le_of_ble_eq_true rfl) (fun _ h9 => ?_)
      refine tq_aload_n 0 0 dX9_sayBegin_78 rfl rfl ?_
      refine tq_aload_n 0 0 dX9_sayBegin_79 rfl rfl ?_
      refine tq_getR 19 dX9_sayBegin_80 cfX9 (by decide) wd_891 rfl rfl (fun x10 => ?_)
      refine tq_bipush (nI 60) dX9_sayBegin_83 (by decide) ?_
      refine tq_iload_n 2 2 dX9_sayBegin_85 rfl rfl ?_
      refine tq_imul dX9_sayBegin_86 ?_
      refine tq_aload_n 0 0 dX9_sayBegin_87 rfl rfl ?_
      refine tq_getR 20 dX9_sayBegin_88 cfX9 (by decide) wd_892 rfl rfl (fun x11 => ?_)
      refine tq_iload_n 2 2 dX9_sayBegin_91 rfl rfl ?_
      refine tq_iald dX9_sayBegin_92 (fun x12 => ?_)
      refine tq_iconst (nI 0) dX9_sayBegin_93 (by decide) ?_
      refine tq_cVV [vR x10, vI ((nI 60) * v2), vI x12, vI (nI 0)] [] dX9_sayBegin_94 (eX9_sayEscaped G v0 x10 ((nI 60) * v2) x12 (nI 0) h9) (by decide) mbX9_sayEscaped cfX9 rfl wd_823 wd_825 wd_38 rfl rfl (Nat.le_of_ble_eq_true rfl) (fun _ h13 => ?_)
      refine tq_aload_n 0 0 dX9_sayBegin_97 rfl rfl ?_
      refine tq_bipush (nI 34) dX9_sayBegin_98 (by decide) ?_
      refine tq_cVV [vI (nI 34)] [] dX9_sayBegin_100 (eX9_say G v0 (nI 34) h13) (by decide) mbX9_say cfX9 rfl wd_827 wd_829 wd_39 rfl rfl (Nat.le_of_ble_eq_true rfl) (fun _ h14 => ?_)
      refine tq_iinc 2 (nI 1) (L' := [(2, vI (v2 + (nI 1))), (0, vR v0), (1, vI v1)]) dX9_sayBegin_103 rfl (by decide) (by decide) rfl ?_
      refine tq_goto 28 dX9_sayBegin_106 (by decide) ?_
      exact tq_sub [1, 2, 0] rfl (ih v0 v1 (v2 + (nI 1)) h14)
noncomputable def fX9_sayBegin_0  (v0 : Option Nat) (v1 : Int32) (h : AH) : Option (Unit × AH) := cCV h 9 v0 (fX9_say v0 (nI 60) h) fun _ h1 => cGR h1 9 458 v0 fun x2 => cGR h1 9 459 v0 fun x3 => cAL h1 0 x3 v1 fun x4 => cCV h1 9 v0 (fX9_sayAll v0 x2 ((nI 8) * v1) x4 h1) fun _ h5 => fX9_sayBegin_28 FU v0 v1 ((nI 4) * v1) h5
theorem tX9_sayBegin_0 (G : sr_G) (v0 : Option Nat) (v1 : Int32) (h : AH) : sr_T (X := Unit) G 2 RX9 cX9_sayBegin 3 none false (sr_M G jV) 0 [(0, vR v0), (1, vI v1)] [] h (fX9_sayBegin_0  v0 v1 h) := by
  unfold fX9_sayBegin_0
  refine tq_aload_n 0 0 dX9_sayBegin_0 rfl rfl ?_
  refine tq_bipush (nI 60) dX9_sayBegin_1 (by decide) ?_
  refine tq_cVV [vI (nI 60)] [] dX9_sayBegin_3 (eX9_say G v0 (nI 60) h) (by decide) mbX9_say cfX9 rfl wd_827 wd_829 wd_39 rfl rfl (Nat.le_of_ble_eq_true rfl) (fun _ h1 => ?_)
  refine tq_aload_n 0 0 dX9_sayBegin_6 rfl rfl ?_
  refine tq_aload_n 0 0 dX9_sayBegin_7 rfl rfl ?_
  refine tq_getR 8 dX9_sayBegin_8 cfX9 (by decide) wd_880 rfl rfl (fun x2 => ?_)
  refine tq_bipush (nI 8) dX9_sayBegin_11 (by decide) ?_
  refine tq_iload_n 1 1 dX9_sayBegin_13 rfl rfl ?_
  refine tq_imul dX9_sayBegin_14 ?_
  refine tq_aload_n 0 0 dX9_sayBegin_15 rfl rfl ?_
  refine tq_getR 9 dX9_sayBegin_16 cfX9 (by decide) wd_881 rfl rfl (fun x3 => ?_)
  refine tq_iload_n 1 1 dX9_sayBegin_19 rfl rfl ?_
  refine tq_iald dX9_sayBegin_20 (fun x4 => ?_)
  refine tq_cVV [vR x2, vI ((nI 8) * v1), vI x4] [] dX9_sayBegin_21 (eX9_sayAll G v0 x2 ((nI 8) * v1) x4 h1) (by decide) mbX9_sayAll cfX9 rfl wd_835 wd_837 wd_41 rfl rfl (Nat.le_of_ble_eq_true rfl) (fun _ h5 => ?_)
  refine tq_iconst (nI 4) dX9_sayBegin_24 (by decide) ?_
  refine tq_iload_n 1 1 dX9_sayBegin_25 rfl rfl ?_
  refine tq_imul dX9_sayBegin_26 ?_
  refine tq_istore_n 2 (L' := [(2, vI ((nI 4) * v1)), (0, vR v0), (1, vI v1)]) dX9_sayBegin_27 rfl (by decide) rfl ?_
  exact tq_sub [1, 2, 0] rfl (tX9_sayBegin_28 G FU v0 v1 ((nI 4) * v1) h5)
noncomputable def fX9_sayBegin (v0 : Option Nat) (v1 : Int32) (h : AH) : Option (Unit × AH) := fX9_sayBegin_0 v0 v1 h
theorem eX9_sayBegin (G : sr_G) (v0 : Option Nat) (v1 : Int32) (h : AH) : sr_E G 2 yX9_sayBegin cX9_sayBegin 3 none jV [vR v0, vI v1] h (fX9_sayBegin v0 v1 h) := sr_E.of (own := RX9) (ini := false) (by decide) rfl (fun q => by first | rfl | cases q) rfl (Nat.le_of_ble_eq_true rfl) (tX9_sayBegin_0 G v0 v1 h)
noncomputable def fX9_sayEnd_0  (v0 : Option Nat) (v1 : Int32) (h : AH) : Option (Unit × AH) := cGR h 9 457 v0 fun x1 => cAL h 0 x1 v1 fun x2 => cCL (fX9_isEmptyTag x2 h) fun x4 h3 => if x4 = 0 then (cCV h3 9 v0 (fX9_say v0 (nI 60) h3) fun _ h5 => cCV h5 9 v0 (fX9_say v0 (nI 47) h5) fun _ h6 => cGR h6 9 458 v0 fun x7 => cGR h6 9 459 v0 fun x8 => cAL h6 0 x8 v1 fun x9 => cCV h6 9 v0 (fX9_sayAll v0 x7 ((nI 8) * v1) x9 h6) fun _ h10 => cCV h10 9 v0 (fX9_say v0 (nI 62) h10) fun _ h11 => some ((), h11)) else (some ((), h3))
theorem tX9_sayEnd_0 (G : sr_G) (v0 : Option Nat) (v1 : Int32) (h : AH) : sr_T (X := Unit) G 2 RX9 cX9_sayEnd 2 none false (sr_M G jV) 0 [(0, vR v0), (1, vI v1)] [] h (fX9_sayEnd_0  v0 v1 h) := by
  unfold fX9_sayEnd_0
  refine tq_aload_n 0 0 dX9_sayEnd_0 rfl rfl ?_
  refine tq_getR 7 dX9_sayEnd_1 cfX9 (by decide) wd_879 rfl rfl (fun x1 => ?_)
  refine tq_iload_n 1 1 dX9_sayEnd_4 rfl rfl ?_
  refine tq_iald dX9_sayEnd_5 (fun x2 => ?_)
  refine tq_cSI [vI x2] [] dX9_sayEnd_6 (eX9_isEmptyTag G x2 h) (by decide) mbX9_isEmptyTag wd_843 wd_844 rfl rfl (Nat.le_of_ble_eq_true rfl) (fun x4 h3 => ?_)
  refine tq_if_eq 13 dX9_sayEnd_9 (by decide) (fun _ => ?_) (fun _ => ?_)
  · refine tq_aload_n 0 0 dX9_sayEnd_13 rfl rfl ?_
    refine tq_bipush (nI 60) dX9_sayEnd_14 (by decide) ?_
    refine tq_cVV [vI (nI 60)] [] dX9_sayEnd_16 (eX9_say G v0 (nI 60) h3) (by decide) mbX9_say cfX9 rfl wd_827 wd_829 wd_39 rfl rfl (Nat.le_of_ble_eq_true rfl) (fun _ h5 => ?_)
    refine tq_aload_n 0 0 dX9_sayEnd_19 rfl rfl ?_
    refine tq_bipush (nI 47) dX9_sayEnd_20 (by decide) ?_
    refine tq_cVV [vI (nI 47)] [] dX9_sayEnd_22 (eX9_say G v0 (nI 47) h5) (by decide) mbX9_say cfX9 rfl wd_827 wd_829 wd_39 rfl rfl (Nat.le_of_ble_eq_true rfl) (fun _ h6 => ?_)
    refine tq_aload_n 0 0 dX9_sayEnd_25 rfl rfl ?_
    refine tq_aload_n 0 0 dX9_sayEnd_26 rfl rfl ?_
    refine tq_getR 8 dX9_sayEnd_27 cfX9 (by decide) wd_880 rfl rfl (fun x7 => ?_)
    refine tq_bipush (nI 8) dX9_sayEnd_30 (by decide) ?_
    refine tq_iload_n 1 1 dX9_sayEnd_32 rfl rfl ?_
    refine tq_imul dX9_sayEnd_33 ?_
    refine tq_aload_n 0 0 dX9_sayEnd_34 rfl rfl ?_
    refine tq_getR 9 dX9_sayEnd_35 cfX9 (by decide) wd_881 rfl rfl (fun x8 => ?_)
    refine tq_iload_n 1 1 dX9_sayEnd_38 rfl rfl ?_
    refine tq_iald dX9_sayEnd_39 (fun x9 => ?_)
    refine tq_cVV [vR x7, vI ((nI 8) * v1), vI x9] [] dX9_sayEnd_40 (eX9_sayAll G v0 x7 ((nI 8) * v1) x9 h6) (by decide) mbX9_sayAll cfX9 rfl wd_835 wd_837 wd_41 rfl rfl (Nat.le_of_ble_eq_true rfl) (fun _ h10 => ?_)
    refine tq_aload_n 0 0 dX9_sayEnd_43 rfl rfl ?_
    refine tq_bipush (nI 62) dX9_sayEnd_44 (by decide) ?_
    refine tq_cVV [vI (nI 62)] [] dX9_sayEnd_46 (eX9_say G v0 (nI 62) h10) (by decide) mbX9_say cfX9 rfl wd_827 wd_829 wd_39 rfl rfl (Nat.le_of_ble_eq_true rfl) (fun _ h11 => ?_)
    exact tq_vret rfl dX9_sayEnd_49
  · exact tq_vret rfl dX9_sayEnd_12
noncomputable def fX9_sayEnd (v0 : Option Nat) (v1 : Int32) (h : AH) : Option (Unit × AH) := fX9_sayEnd_0 v0 v1 h
theorem eX9_sayEnd (G : sr_G) (v0 : Option Nat) (v1 : Int32) (h : AH) : sr_E G 2 yX9_sayEnd cX9_sayEnd 2 none jV [vR v0, vI v1] h (fX9_sayEnd v0 v1 h) := sr_E.of (own := RX9) (ini := false) (by decide) rfl (fun q => by first | rfl | cases q) rfl (Nat.le_of_ble_eq_true rfl) (tX9_sayEnd_0 G v0 v1 h)
noncomputable def fX9_there_24  (s0 : Int32) (h : AH) : Option (Int32 × AH) := cZ s0 (some (s0, h))
theorem tX9_there_24 (G : sr_G) (s0 : Int32) (h : AH) : sr_T (X := Int32) G 0 RX9 cX9_there 2 (some .boolean) false (sr_M G jI) 24 [] [vI s0] h (fX9_there_24  s0 h) := by
  unfold fX9_there_24
  exact tq_zret rfl dX9_there_24
noncomputable def fX9_there_23   (h : AH) : Option (Int32 × AH) := fX9_there_24 (nI 0) h
theorem tX9_there_23 (G : sr_G)  (h : AH) : sr_T (X := Int32) G 0 RX9 cX9_there 2 (some .boolean) false (sr_M G jI) 23 [] [] h (fX9_there_23  h) := by
  unfold fX9_there_23
  refine tq_iconst (nI 0) dX9_there_23 (by decide) ?_
  exact tX9_there_24 G (nI 0) h
noncomputable def fX9_there_0  (v0 : Option Nat) (v1 : Int32) (h : AH) : Option (Int32 × AH) := if v1 < 0 then (fX9_there_23 h) else (if (nI 120) ≤ v1 then (fX9_there_23 h) else (cGR h 9 456 v0 fun x1 => cAL h 2 x1 v1 fun x2 => if x2 = 0 then (fX9_there_23 h) else (fX9_there_24 (nI 1) h)))
theorem tX9_there_0 (G : sr_G) (v0 : Option Nat) (v1 : Int32) (h : AH) : sr_T (X := Int32) G 0 RX9 cX9_there 2 (some .boolean) false (sr_M G jI) 0 [(0, vR v0), (1, vI v1)] [] h (fX9_there_0  v0 v1 h) := by
  unfold fX9_there_0
  refine tq_iload_n 1 1 dX9_there_0 rfl rfl ?_
  refine tq_if_lt 23 dX9_there_1 (by decide) (fun _ => ?_) (fun _ => ?_)
  · exact tq_sub [] rfl (tX9_there_23 G h)
  · refine tq_iload_n 1 1 dX9_there_4 rfl rfl ?_
    refine tq_bipush (nI 120) dX9_there_5 (by decide) ?_
    refine tq_icmp_ge 23 dX9_there_7 (by decide) (fun _ => ?_) (fun _ => ?_)
    · exact tq_sub [] rfl (tX9_there_23 G h)
    · refine tq_aload_n 0 0 dX9_there_10 rfl rfl ?_
      refine tq_getR 6 dX9_there_11 cfX9 (by decide) wd_878 rfl rfl (fun x1 => ?_)
      refine tq_iload_n 1 1 dX9_there_14 rfl rfl ?_
      refine tq_zald dX9_there_15 (fun x2 => ?_)
      refine tq_if_eq 23 dX9_there_16 (by decide) (fun _ => ?_) (fun _ => ?_)
      · exact tq_sub [] rfl (tX9_there_23 G h)
      · refine tq_iconst (nI 1) dX9_there_19 (by decide) ?_
        refine tq_goto 24 dX9_there_20 (by decide) ?_
        exact tq_sub [] rfl (tX9_there_24 G (nI 1) h)
noncomputable def fX9_there (v0 : Option Nat) (v1 : Int32) (h : AH) : Option (Int32 × AH) := fX9_there_0 v0 v1 h
theorem eX9_there (G : sr_G) (v0 : Option Nat) (v1 : Int32) (h : AH) : sr_E G 0 yX9_there cX9_there 2 (some .boolean) jI [vR v0, vI v1] h (fX9_there v0 v1 h) := sr_E.of (own := RX9) (ini := false) (by decide) rfl (fun q => by first | rfl | cases q) rfl (Nat.le_of_ble_eq_true rfl) (tX9_there_0 G v0 v1 h)
noncomputable def fX9_serialise_187  (v0 : Option Nat) (h : AH) : Option (Int32 × AH) := cGI h 9 455 v0 fun x1 => some (x1, h)
theorem tX9_serialise_187 (G : sr_G) (v0 : Option Nat) (h : AH) : sr_T (X := Int32) G 3 RX9 cX9_serialise 4 (some .int) false (sr_M G jI) 187 [(0, vR v0)] [] h (fX9_serialise_187  v0 h) := by
  unfold fX9_serialise_187
  refine tq_aload_n 0 0 dX9_serialise_187 rfl rfl ?_
  refine tq_getI 5 dX9_serialise_188 cfX9 (by decide) wd_877 rfl rfl (fun x1 => ?_)
  exact tq_iret rfl dX9_serialise_191
noncomputable def fX9_serialise_183 (r19 : Option Nat → Int32 → Int32 → Int32 → AH → Option (Int32 × AH)) (v0 : Option Nat) (v1 : Int32) (v3 : Int32) (s0 : Int32) (h : AH) : Option (Int32 × AH) := r19 v0 v1 s0 v3 h
theorem tX9_serialise_183 (G : sr_G) {r19 : Option Nat → Int32 → Int32 → Int32 → AH → Option (Int32 × AH)} (hr19 : ∀ (v0 : Option Nat) (v1 : Int32) (v2 : Int32) (v3 : Int32) (h : AH), sr_T (X := Int32) G 3 RX9 cX9_serialise 4 (some .int) false (sr_M G jI) 19 [(0, vR v0), (1, vI v1), (2, vI v2), (3, vI v3)] [] h (r19 v0 v1 v2 v3 h)) (v0 : Option Nat) (v1 : Int32) (v3 : Int32) (s0 : Int32) (h : AH) : sr_T (X := Int32) G 3 RX9 cX9_serialise 4 (some .int) false (sr_M G jI) 183 [(0, vR v0), (1, vI v1), (3, vI v3)] [vI s0] h (fX9_serialise_183 r19 v0 v1 v3 s0 h) := by
  unfold fX9_serialise_183
  refine tq_istore_n 2 (L' := [(2, vI s0), (0, vR v0), (1, vI v1), (3, vI v3)]) dX9_serialise_183 rfl (by decide) rfl ?_
  refine tq_goto 19 dX9_serialise_184 (by decide) ?_
  exact tq_sub [1, 2, 0, 3] rfl (hr19 v0 v1 s0 v3 h)
noncomputable def fX9_serialise_168 (r19 : Option Nat → Int32 → Int32 → Int32 → AH → Option (Int32 × AH)) (v0 : Option Nat) (v1 : Int32) (v2 : Int32) (s0 : Int32) (h : AH) : Option (Int32 × AH) := if s0 = 0 then (fX9_serialise_183 r19 v0 v1 s0 v2 h) else (cGR h 9 463 v0 fun x1 => cAL h 0 x1 v2 fun x2 => fX9_serialise_183 r19 v0 v1 s0 x2 h)
theorem tX9_serialise_168 (G : sr_G) {r19 : Option Nat → Int32 → Int32 → Int32 → AH → Option (Int32 × AH)} (hr19 : ∀ (v0 : Option Nat) (v1 : Int32) (v2 : Int32) (v3 : Int32) (h : AH), sr_T (X := Int32) G 3 RX9 cX9_serialise 4 (some .int) false (sr_M G jI) 19 [(0, vR v0), (1, vI v1), (2, vI v2), (3, vI v3)] [] h (r19 v0 v1 v2 v3 h)) (v0 : Option Nat) (v1 : Int32) (v2 : Int32) (s0 : Int32) (h : AH) : sr_T (X := Int32) G 3 RX9 cX9_serialise 4 (some .int) false (sr_M G jI) 168 [(0, vR v0), (1, vI v1), (2, vI v2)] [vI s0] h (fX9_serialise_168 r19 v0 v1 v2 s0 h) := by
  unfold fX9_serialise_168
  refine tq_istore_n 3 (L' := [(3, vI s0), (0, vR v0), (1, vI v1), (2, vI v2)]) dX9_serialise_168 rfl (by decide) rfl ?_
  refine tq_iload_n 3 0 dX9_serialise_169 rfl rfl ?_
  refine tq_if_eq 182 dX9_serialise_170 (by decide) (fun _ => ?_) (fun _ => ?_)
  · refine tq_iload_n 2 3 dX9_serialise_182 rfl rfl ?_
    exact tq_sub [1, 2, 0] rfl (tX9_serialise_183 G hr19 v0 v1 s0 v2 h)
  · refine tq_aload_n 0 1 dX9_serialise_173 rfl rfl ?_
    refine tq_getR 13 dX9_serialise_174 cfX9 (by decide) wd_885 rfl rfl (fun x1 => ?_)
    refine tq_iload_n 2 3 dX9_serialise_177 rfl rfl ?_
    refine tq_iald dX9_serialise_178 (fun x2 => ?_)
    refine tq_goto 183 dX9_serialise_179 (by decide) ?_
    exact tq_sub [1, 2, 0] rfl (tX9_serialise_183 G hr19 v0 v1 s0 x2 h)
noncomputable def fX9_serialise_158 (r19 : Option Nat → Int32 → Int32 → Int32 → AH → Option (Int32 × AH)) (v0 : Option Nat) (v1 : Int32) (v2 : Int32) (h : AH) : Option (Int32 × AH) := if v2 = v1 then (fX9_serialise_168 r19 v0 v1 v2 (nI 0) h) else (fX9_serialise_168 r19 v0 v1 v2 (nI 1) h)
theorem tX9_serialise_158 (G : sr_G) {r19 : Option Nat → Int32 → Int32 → Int32 → AH → Option (Int32 × AH)} (hr19 : ∀ (v0 : Option Nat) (v1 : Int32) (v2 : Int32) (v3 : Int32) (h : AH), sr_T (X := Int32) G 3 RX9 cX9_serialise 4 (some .int) false (sr_M G jI) 19 [(0, vR v0), (1, vI v1), (2, vI v2), (3, vI v3)] [] h (r19 v0 v1 v2 v3 h)) (v0 : Option Nat) (v1 : Int32) (v2 : Int32) (h : AH) : sr_T (X := Int32) G 3 RX9 cX9_serialise 4 (some .int) false (sr_M G jI) 158 [(0, vR v0), (1, vI v1), (2, vI v2)] [] h (fX9_serialise_158 r19 v0 v1 v2 h) := by
  unfold fX9_serialise_158
  refine tq_iload_n 2 2 dX9_serialise_158 rfl rfl ?_
  refine tq_iload_n 1 1 dX9_serialise_159 rfl rfl ?_
  refine tq_icmp_eq 167 dX9_serialise_160 (by decide) (fun _ => ?_) (fun _ => ?_)
  · refine tq_iconst (nI 0) dX9_serialise_167 (by decide) ?_
    exact tX9_serialise_168 G hr19 v0 v1 v2 (nI 0) h
  · refine tq_iconst (nI 1) dX9_serialise_163 (by decide) ?_
    refine tq_goto 168 dX9_serialise_164 (by decide) ?_
    exact tX9_serialise_168 G hr19 v0 v1 v2 (nI 1) h
noncomputable def fX9_serialise_128 (r19 : Option Nat → Int32 → Int32 → Int32 → AH → Option (Int32 × AH)) : Nat → Option Nat → Int32 → Int32 → AH → Option (Int32 × AH)
  | 0, _, _, _, _ => none
  | n + 1, v0, v1, v2, h => if v2 = v1 then (fX9_serialise_158 r19 v0 v1 v2 h) else (cGR h 9 463 v0 fun x1 => cAL h 0 x1 v2 fun x2 => if x2 = (-1) then (cGR h 9 460 v0 fun x3 => cAL h 0 x3 v2 fun x4 => cCV h 9 v0 (fX9_sayEnd v0 x4 h) fun _ h5 => fX9_serialise_128 r19 n v0 v1 x4 h5) else (fX9_serialise_158 r19 v0 v1 v2 h))
theorem tX9_serialise_128 (G : sr_G) {r19 : Option Nat → Int32 → Int32 → Int32 → AH → Option (Int32 × AH)} (hr19 : ∀ (v0 : Option Nat) (v1 : Int32) (v2 : Int32) (v3 : Int32) (h : AH), sr_T (X := Int32) G 3 RX9 cX9_serialise 4 (some .int) false (sr_M G jI) 19 [(0, vR v0), (1, vI v1), (2, vI v2), (3, vI v3)] [] h (r19 v0 v1 v2 v3 h)) : ∀ (n : Nat) (v0 : Option Nat) (v1 : Int32) (v2 : Int32) (h : AH), sr_T (X := Int32) G 3 RX9 cX9_serialise 4 (some .int) false (sr_M G jI) 128 [(0, vR v0), (1, vI v1), (2, vI v2)] [] h (fX9_serialise_128 r19 n v0 v1 v2 h) := by
  intro n
  induction n with
  | zero => intro v0 v1 v2 h; exact tq_none
  | succ n ih =>
    intro v0 v1 v2 h
    unfold fX9_serialise_128
    refine tq_iload_n 2 2 dX9_serialise_128 rfl rfl ?_
    refine tq_iload_n 1 1 dX9_serialise_129 rfl rfl ?_
    refine tq_icmp_eq 158 dX9_serialise_130 (by decide) (fun _ => ?_) (fun _ => ?_)
    · exact tX9_serialise_158 G hr19 v0 v1 v2 h
    · refine tq_aload_n 0 0 dX9_serialise_133 rfl rfl ?_
      refine tq_getR 13 dX9_serialise_134 cfX9 (by decide) wd_885 rfl rfl (fun x1 => ?_)
      refine tq_iload_n 2 2 dX9_serialise_137 rfl rfl ?_
      refine tq_iald dX9_serialise_138 (fun x2 => ?_)
      refine tq_iconst (-1) dX9_serialise_139 (by decide) ?_
      refine tq_icmp_ne 158 dX9_serialise_140 (by decide) (fun _ => ?_) (fun _ => ?_)
      · exact tX9_serialise_158 G hr19 v0 v1 v2 h
      · refine tq_aload_n 0 0 dX9_serialise_143 rfl rfl ?_
        refine tq_getR 10 dX9_serialise_144 cfX9 (by decide) wd_882 rfl rfl (fun x3 => ?_)
        refine tq_iload_n 2 2 dX9_serialise_147 rfl rfl ?_
        refine tq_iald dX9_serialise_148 (fun x4 => ?_)
        refine tq_istore_n 2 (L' := [(2, vI x4), (0, vR v0), (1, vI v1)]) dX9_serialise_149 rfl (by decide) rfl ?_
        refine tq_aload_n 0 1 dX9_serialise_150 rfl rfl ?_
        refine tq_iload_n 2 0 dX9_serialise_151 rfl rfl ?_
        refine tq_cVV [vI x4] [] dX9_serialise_152 (eX9_sayEnd G v0 x4 h) (by decide) mbX9_sayEnd cfX9 rfl wd_839 wd_841 wd_42 rfl rfl (Nat.le_of_ble_eq_true rfl) (fun _ h5 => ?_)
        refine tq_goto 128 dX9_serialise_155 (by decide) ?_
        exact tq_sub [1, 2, 0] rfl (ih v0 v1 x4 h5)
noncomputable def fX9_serialise_92 (r19 : Option Nat → Int32 → Int32 → Int32 → AH → Option (Int32 × AH)) (v0 : Option Nat) (v1 : Int32) (v2 : Int32) (v3 : Int32) (h : AH) : Option (Int32 × AH) := cGR h 9 461 v0 fun x1 => cAL h 0 x1 v2 fun x2 => if x2 = (-1) then (cGR h 9 457 v0 fun x3 => cAL h 0 x3 v2 fun x4 => if x4 = (nI 17) then (fX9_serialise_128 r19 FU v0 v1 v2 h) else (cCV h 9 v0 (fX9_sayEnd v0 v2 h) fun _ h5 => fX9_serialise_128 r19 FU v0 v1 v2 h5)) else (cGR h 9 461 v0 fun x6 => cAL h 0 x6 v2 fun x7 => r19 v0 v1 x7 v3 h)
theorem tX9_serialise_92 (G : sr_G) {r19 : Option Nat → Int32 → Int32 → Int32 → AH → Option (Int32 × AH)} (hr19 : ∀ (v0 : Option Nat) (v1 : Int32) (v2 : Int32) (v3 : Int32) (h : AH), sr_T (X := Int32) G 3 RX9 cX9_serialise 4 (some .int) false (sr_M G jI) 19 [(0, vR v0), (1, vI v1), (2, vI v2), (3, vI v3)] [] h (r19 v0 v1 v2 v3 h)) (v0 : Option Nat) (v1 : Int32) (v2 : Int32) (v3 : Int32) (h : AH) : sr_T (X := Int32) G 3 RX9 cX9_serialise 4 (some .int) false (sr_M G jI) 92 [(0, vR v0), (1, vI v1), (2, vI v2), (3, vI v3)] [] h (fX9_serialise_92 r19 v0 v1 v2 v3 h) := by
  unfold fX9_serialise_92
  refine tq_aload_n 0 0 dX9_serialise_92 rfl rfl ?_
  refine tq_getR 11 dX9_serialise_93 cfX9 (by decide) wd_883 rfl rfl (fun x1 => ?_)
  refine tq_iload_n 2 2 dX9_serialise_96 rfl rfl ?_
  refine tq_iald dX9_serialise_97 (fun x2 => ?_)
  refine tq_iconst (-1) dX9_serialise_98 (by decide) ?_
  refine tq_icmp_eq 112 dX9_serialise_99 (by decide) (fun _ => ?_) (fun _ => ?_)
  · refine tq_aload_n 0 0 dX9_serialise_112 rfl rfl ?_
    refine tq_getR 7 dX9_serialise_113 cfX9 (by decide) wd_879 rfl rfl (fun x3 => ?_)
    refine tq_iload_n 2 2 dX9_serialise_116 rfl rfl ?_
    refine tq_iald dX9_serialise_117 (fun x4 => ?_)
    refine tq_bipush (nI 17) dX9_serialise_118 (by decide) ?_
    refine tq_icmp_eq 128 dX9_serialise_120 (by decide) (fun _ => ?_) (fun _ => ?_)
    · exact tq_sub [0, 1, 2] rfl (tX9_serialise_128 G hr19 FU v0 v1 v2 h)
    · refine tq_aload_n 0 0 dX9_serialise_123 rfl rfl ?_
      refine tq_iload_n 2 2 dX9_serialise_124 rfl rfl ?_
      refine tq_cVV [vI v2] [] dX9_serialise_125 (eX9_sayEnd G v0 v2 h) (by decide) mbX9_sayEnd cfX9 rfl wd_839 wd_841 wd_42 rfl rfl (Nat.le_of_ble_eq_true rfl) (fun _ h5 => ?_)
      exact tq_sub [0, 1, 2] rfl (tX9_serialise_128 G hr19 FU v0 v1 v2 h5)
  · refine tq_aload_n 0 0 dX9_serialise_102 rfl rfl ?_
    refine tq_getR 11 dX9_serialise_103 cfX9 (by decide) wd_883 rfl rfl (fun x6 => ?_)
    refine tq_iload_n 2 2 dX9_serialise_106 rfl rfl ?_
    refine tq_iald dX9_serialise_107 (fun x7 => ?_)
    refine tq_istore_n 2 (L' := [(2, vI x7), (0, vR v0), (1, vI v1), (3, vI v3)]) dX9_serialise_108 rfl (by decide) rfl ?_
    refine tq_goto 19 dX9_serialise_109 (by decide) ?_
    exact tq_sub [1, 2, 0, 3] rfl (hr19 v0 v1 x7 v3 h)
noncomputable def fX9_serialise_81 (r19 : Option Nat → Int32 → Int32 → Int32 → AH → Option (Int32 × AH)) (v0 : Option Nat) (v1 : Int32) (v2 : Int32) (v3 : Int32) (s0 : Int32) (s1 : Int32) (s2 : Int32) (s3 : Option Nat) (s4 : Option Nat) (h : AH) : Option (Int32 × AH) := cCV h 9 s4 (fX9_sayEscaped s4 s3 s2 s1 s0 h) fun _ h1 => fX9_serialise_92 r19 v0 v1 v2 v3 h1
theorem tX9_serialise_81 (G : sr_G) {r19 : Option Nat → Int32 → Int32 → Int32 → AH → Option (Int32 × AH)} (hr19 : ∀ (v0 : Option Nat) (v1 : Int32) (v2 : Int32) (v3 : Int32) (h : AH), sr_T (X := Int32) G 3 RX9 cX9_serialise 4 (some .int) false (sr_M G jI) 19 [(0, vR v0), (1, vI v1), (2, vI v2), (3, vI v3)] [] h (r19 v0 v1 v2 v3 h)) (v0 : Option Nat) (v1 : Int32) (v2 : Int32) (v3 : Int32) (s0 : Int32) (s1 : Int32) (s2 : Int32) (s3 : Option Nat) (s4 : Option Nat) (h : AH) : sr_T (X := Int32) G 3 RX9 cX9_serialise 4 (some .int) false (sr_M G jI) 81 [(0, vR v0), (1, vI v1), (2, vI v2), (3, vI v3)] [vI s0, vI s1, vI s2, vR s3, vR s4] h (fX9_serialise_81 r19 v0 v1 v2 v3 s0 s1 s2 s3 s4 h) := by
  unfold fX9_serialise_81
  refine tq_cVV [vR s3, vI s2, vI s1, vI s0] [] dX9_serialise_81 (eX9_sayEscaped G s4 s3 s2 s1 s0 h) (by decide) mbX9_sayEscaped cfX9 rfl wd_823 wd_825 wd_38 rfl rfl (Nat.le_of_ble_eq_true rfl) (fun _ h1 => ?_)
  refine tq_goto 92 dX9_serialise_84 (by decide) ?_
  exact tX9_serialise_92 G hr19 v0 v1 v2 v3 h1
noncomputable def fX9_serialise_80 (r19 : Option Nat → Int32 → Int32 → Int32 → AH → Option (Int32 × AH)) (v0 : Option Nat) (v1 : Int32) (v2 : Int32) (v3 : Int32) (s0 : Int32) (s1 : Int32) (s2 : Option Nat) (s3 : Option Nat) (h : AH) : Option (Int32 × AH) := fX9_serialise_81 r19 v0 v1 v2 v3 (nI 0) s0 s1 s2 s3 h
theorem tX9_serialise_80 (G : sr_G) {r19 : Option Nat → Int32 → Int32 → Int32 → AH → Option (Int32 × AH)} (hr19 : ∀ (v0 : Option Nat) (v1 : Int32) (v2 : Int32) (v3 : Int32) (h : AH), sr_T (X := Int32) G 3 RX9 cX9_serialise 4 (some .int) false (sr_M G jI) 19 [(0, vR v0), (1, vI v1), (2, vI v2), (3, vI v3)] [] h (r19 v0 v1 v2 v3 h)) (v0 : Option Nat) (v1 : Int32) (v2 : Int32) (v3 : Int32) (s0 : Int32) (s1 : Int32) (s2 : Option Nat) (s3 : Option Nat) (h : AH) : sr_T (X := Int32) G 3 RX9 cX9_serialise 4 (some .int) false (sr_M G jI) 80 [(0, vR v0), (1, vI v1), (2, vI v2), (3, vI v3)] [vI s0, vI s1, vR s2, vR s3] h (fX9_serialise_80 r19 v0 v1 v2 v3 s0 s1 s2 s3 h) := by
  unfold fX9_serialise_80
  refine tq_iconst (nI 0) dX9_serialise_80 (by decide) ?_
  exact tX9_serialise_81 G hr19 v0 v1 v2 v3 (nI 0) s0 s1 s2 s3 h
noncomputable def fX9_serialise_19  : Nat → Option Nat → Int32 → Int32 → Int32 → AH → Option (Int32 × AH)
  | 0, _, _, _, _, _ => none
  | n + 1, v0, v1, v2, v3, h => if v3 = 0 then (fX9_serialise_187 v0 h) else (cGR h 9 457 v0 fun x1 => cAL h 0 x1 v2 fun x2 => if x2 = (nI 17) then (cGR h 9 471 v0 fun x4 => cGR h 9 472 v0 fun x5 => cAL h 0 x5 v2 fun x6 => cGR h 9 460 v0 fun x7 => cAL h 0 x7 v2 fun x8 => if x8 = (-1) then (fX9_serialise_80 (fX9_serialise_19 n) v0 v1 v2 v3 x6 ((nI 400) * v2) x4 v0 h) else (cGR h 9 457 v0 fun x9 => cGR h 9 460 v0 fun x10 => cAL h 0 x10 v2 fun x11 => cAL h 0 x9 x11 fun x12 => if x12 = (nI 15) then (fX9_serialise_81 (fX9_serialise_19 n) v0 v1 v2 v3 (nI 1) x6 ((nI 400) * v2) x4 v0 h) else (fX9_serialise_80 (fX9_serialise_19 n) v0 v1 v2 v3 x6 ((nI 400) * v2) x4 v0 h))) else (cCV h 9 v0 (fX9_sayBegin v0 v2 h) fun _ h3 => fX9_serialise_92 (fX9_serialise_19 n) v0 v1 v2 v3 h3))
theorem tX9_serialise_19 (G : sr_G) : ∀ (n : Nat) (v0 : Option Nat) (v1 : Int32) (v2 : Int32) (v3 : Int32) (h : AH), sr_T (X := Int32) G 3 RX9 cX9_serialise 4 (some .int) false (sr_M G jI) 19 [(0, vR v0), (1, vI v1), (2, vI v2), (3, vI v3)] [] h (fX9_serialise_19  n v0 v1 v2 v3 h) := by
  intro n
  induction n with
  | zero => intro v0 v1 v2 v3 h; exact tq_none
  | succ n ih =>
    intro v0 v1 v2 v3 h
    unfold fX9_serialise_19
    refine tq_iload_n 3 3 dX9_serialise_19 rfl rfl ?_
    refine tq_if_eq 187 dX9_serialise_20 (by decide) (fun _ => ?_) (fun _ => ?_)
    · exact tq_sub [0] rfl (tX9_serialise_187 G v0 h)
    · refine tq_aload_n 0 0 dX9_serialise_23 rfl rfl ?_
      refine tq_getR 7 dX9_serialise_24 cfX9 (by decide) wd_879 rfl rfl (fun x1 => ?_)
      refine tq_iload_n 2 2 dX9_serialise_27 rfl rfl ?_
      refine tq_iald dX9_serialise_28 (fun x2 => ?_)
      refine tq_bipush (nI 17) dX9_serialise_29 (by decide) ?_
      refine tq_icmp_ne 87 dX9_serialise_31 (by decide) (fun _ => ?_) (fun _ => ?_)
      · refine tq_aload_n 0 0 dX9_serialise_87 rfl rfl ?_
        refine tq_iload_n 2 2 dX9_serialise_88 rfl rfl ?_
        refine tq_cVV [vI v2] [] dX9_serialise_89 (eX9_sayBegin G v0 v2 h) (by decide) mbX9_sayBegin cfX9 rfl wd_831 wd_833 wd_40 rfl rfl (Nat.le_of_ble_eq_true rfl) (fun _ h3 => ?_)
        exact tX9_serialise_92 G ih v0 v1 v2 v3 h3
      · refine tq_aload_n 0 0 dX9_serialise_34 rfl rfl ?_
        refine tq_aload_n 0 0 dX9_serialise_35 rfl rfl ?_
        refine tq_getR 21 dX9_serialise_36 cfX9 (by decide) wd_893 rfl rfl (fun x4 => ?_)
        refine tq_sipush (nI 400) dX9_serialise_39 (by decide) ?_
        refine tq_iload_n 2 2 dX9_serialise_42 rfl rfl ?_
        refine tq_imul dX9_serialise_43 ?_
        refine tq_aload_n 0 0 dX9_serialise_44 rfl rfl ?_
        refine tq_getR 22 dX9_serialise_45 cfX9 (by decide) wd_894 rfl rfl (fun x5 => ?_)
        refine tq_iload_n 2 2 dX9_serialise_48 rfl rfl ?_
        refine tq_iald dX9_serialise_49 (fun x6 => ?_)
        refine tq_aload_n 0 0 dX9_serialise_50 rfl rfl ?_
        refine tq_getR 10 dX9_serialise_51 cfX9 (by decide) wd_882 rfl rfl (fun x7 => ?_)
        refine tq_iload_n 2 2 dX9_serialise_54 rfl rfl ?_
        refine tq_iald dX9_serialise_55 (fun x8 => ?_)
        refine tq_iconst (-1) dX9_serialise_56 (by decide) ?_
        refine tq_icmp_eq 80 dX9_serialise_57 (by decide) (fun _ => ?_) (fun _ => ?_)
        · exact tX9_serialise_80 G ih v0 v1 v2 v3 x6 ((nI 400) * v2) x4 v0 h
        · refine tq_aload_n 0 0 dX9_serialise_60 rfl rfl ?_
          refine tq_getR 7 dX9_serialise_61 cfX9 (by decide) wd_879 rfl rfl (fun x9 => ?_)
          refine tq_aload_n 0 0 dX9_serialise_64 rfl rfl ?_
          refine tq_getR 10 dX9_serialise_65 cfX9 (by decide) wd_882 rfl rfl (fun x10 => ?_)
          refine tq_iload_n 2 2 dX9_serialise_68 rfl rfl ?_
          refine tq_iald dX9_serialise_69 (fun x11 => ?_)
          refine tq_iald dX9_serialise_70 (fun x12 => ?_)
          refine tq_bipush (nI 15) dX9_serialise_71 (by decide) ?_
          refine tq_icmp_ne 80 dX9_serialise_73 (by decide) (fun _ => ?_) (fun _ => ?_)
          · exact tX9_serialise_80 G ih v0 v1 v2 v3 x6 ((nI 400) * v2) x4 v0 h
          · refine tq_iconst (nI 1) dX9_serialise_76 (by decide) ?_
            refine tq_goto 81 dX9_serialise_77 (by decide) ?_
            exact tX9_serialise_81 G ih v0 v1 v2 v3 (nI 1) x6 ((nI 400) * v2) x4 v0 h
noncomputable def fX9_serialise_0  (v0 : Option Nat) (v1 : Int32) (h : AH) : Option (Int32 × AH) := cCV h 9 v0 (fX9_there v0 v1 h) fun x2 h1 => if x2 = 0 then (some ((-1), h1)) else (cPI h1 9 455 v0 (nI 0) fun h3 => fX9_serialise_19 FU v0 v1 v1 (nI 1) h3)
theorem tX9_serialise_0 (G : sr_G) (v0 : Option Nat) (v1 : Int32) (h : AH) : sr_T (X := Int32) G 3 RX9 cX9_serialise 4 (some .int) false (sr_M G jI) 0 [(0, vR v0), (1, vI v1)] [] h (fX9_serialise_0  v0 v1 h) := by
  unfold fX9_serialise_0
  refine tq_aload_n 0 0 dX9_serialise_0 rfl rfl ?_
  refine tq_iload_n 1 1 dX9_serialise_1 rfl rfl ?_
  refine tq_cVI [vI v1] [] dX9_serialise_2 (eX9_there G v0 v1 h) (by decide) mbX9_there cfX9 rfl wd_818 wd_820 wd_37 rfl rfl (Nat.le_of_ble_eq_true rfl) (fun x2 h1 => ?_)
  refine tq_if_ne 10 dX9_serialise_5 (by decide) (fun _ => ?_) (fun _ => ?_)
  · refine tq_aload_n 0 0 dX9_serialise_10 rfl rfl ?_
    refine tq_iconst (nI 0) dX9_serialise_11 (by decide) ?_
    refine tq_putI 5 dX9_serialise_12 cfX9 (by decide) wd_877 rfl rfl (Or.inl rfl) (fun h3 => ?_)
    refine tq_iload_n 1 1 dX9_serialise_15 rfl rfl ?_
    refine tq_istore_n 2 (L' := [(2, vI v1), (0, vR v0), (1, vI v1)]) dX9_serialise_16 rfl (by decide) rfl ?_
    refine tq_iconst (nI 1) dX9_serialise_17 (by decide) ?_
    refine tq_istore_n 3 (L' := [(3, vI (nI 1)), (2, vI v1), (0, vR v0), (1, vI v1)]) dX9_serialise_18 rfl (by decide) rfl ?_
    exact tq_sub [2, 3, 1, 0] rfl (tX9_serialise_19 G FU v0 v1 v1 (nI 1) h3)
  · refine tq_iconst (-1) dX9_serialise_8 (by decide) ?_
    exact tq_iret rfl dX9_serialise_9
noncomputable def fX9_serialise (v0 : Option Nat) (v1 : Int32) (h : AH) : Option (Int32 × AH) := fX9_serialise_0 v0 v1 h
theorem eX9_serialise (G : sr_G) (v0 : Option Nat) (v1 : Int32) (h : AH) : sr_E G 3 yX9_serialise cX9_serialise 4 (some .int) jI [vR v0, vI v1] h (fX9_serialise v0 v1 h) := sr_E.of (own := RX9) (ini := false) (by decide) rfl (fun q => by first | rfl | cases q) rfl (Nat.le_of_ble_eq_true rfl) (tX9_serialise_0 G v0 v1 h)
noncomputable def fX9_node_99  (v3 : Int32) (h : AH) : Option (Int32 × AH) := some (v3, h)
theorem tX9_node_99 (G : sr_G) (v3 : Int32) (h : AH) : sr_T (X := Int32) G 1 RX9 cX9_node 5 (some .int) false (sr_M G jI) 99 [(3, vI v3)] [] h (fX9_node_99  v3 h) := by
  unfold fX9_node_99
  refine tq_iload_n 3 0 dX9_node_99 rfl rfl ?_
  exact tq_iret rfl dX9_node_100
noncomputable def fX9_node_78  : Nat → Option Nat → Int32 → Int32 → AH → Option (Int32 × AH)
  | 0, _, _, _, _ => none
  | n + 1, v0, v3, v4, h => if v4 = (-1) then (fX9_node_99 v3 h) else (cGR h 9 463 v0 fun x1 => cAL h 0 x1 v4 fun x2 => fX9_node_78 n v0 (v3 + (nI 1)) x2 h)
theorem tX9_node_78 (G : sr_G) : ∀ (n : Nat) (v0 : Option Nat) (v3 : Int32) (v4 : Int32) (h : AH), sr_T (X := Int32) G 1 RX9 cX9_node 5 (some .int) false (sr_M G jI) 78 [(0, vR v0), (3, vI v3), (4, vI v4)] [] h (fX9_node_78  n v0 v3 v4 h) := by
  intro n
  induction n with
  | zero => intro v0 v3 v4 h; exact tq_none
  | succ n ih =>
    intro v0 v3 v4 h
    unfold fX9_node_78
    refine tq_iload 2 dX9_node_78 rfl ?_
    refine tq_iconst (-1) dX9_node_80 (by decide) ?_
    refine tq_icmp_eq 99 dX9_node_81 (by decide) (fun _ => ?_) (fun _ => ?_)
    · exact tq_sub [1] rfl (tX9_node_99 G v3 h)
    · refine tq_iinc 1 (nI 1) (L' := [(3, vI (v3 + (nI 1))), (0, vR v0), (4, vI v4)]) dX9_node_84 rfl (by decide) (by decide) rfl ?_
      refine tq_aload_n 0 1 dX9_node_87 rfl rfl ?_
      refine tq_getR 13 dX9_node_88 cfX9 (by decide) wd_885 rfl rfl (fun x1 => ?_)
      refine tq_iload 2 dX9_node_91 rfl ?_
      refine tq_iald dX9_node_93 (fun x2 => ?_)
      refine tq_istore (L' := [(4, vI x2), (3, vI (v3 + (nI 1))), (0, vR v0)]) dX9_node_94 (by decide) rfl ?_
      refine tq_goto 78 dX9_node_96 (by decide) ?_
      exact tq_sub [2, 1, 0] rfl (ih v0 (v3 + (nI 1)) x2 h)
noncomputable def fX9_node_130  (v3 : Int32) (h : AH) : Option (Int32 × AH) := some (v3, h)
theorem tX9_node_130 (G : sr_G) (v3 : Int32) (h : AH) : sr_T (X := Int32) G 1 RX9 cX9_node 5 (some .int) false (sr_M G jI) 130 [(3, vI v3)] [] h (fX9_node_130  v3 h) := by
  unfold fX9_node_130
  refine tq_iload_n 3 0 dX9_node_130 rfl rfl ?_
  exact tq_iret rfl dX9_node_131
noncomputable def fX9_node_109  : Nat → Option Nat → Int32 → Int32 → AH → Option (Int32 × AH)
  | 0, _, _, _, _ => none
  | n + 1, v0, v3, v4, h => if v4 = (-1) then (fX9_node_130 v3 h) else (cGR h 9 464 v0 fun x1 => cAL h 0 x1 v4 fun x2 => fX9_node_109 n v0 (v3 + (nI 1)) x2 h)
theorem tX9_node_109 (G : sr_G) : ∀ (n : Nat) (v0 : Option Nat) (v3 : Int32) (v4 : Int32) (h : AH), sr_T (X := Int32) G 1 RX9 cX9_node 5 (some .int) false (sr_M G jI) 109 [(0, vR v0), (3, vI v3), (4, vI v4)] [] h (fX9_node_109  n v0 v3 v4 h) := by
  intro n
  induction n with
  | zero => intro v0 v3 v4 h; exact tq_none
  | succ n ih =>
    intro v0 v3 v4 h
    unfold fX9_node_109
    refine tq_iload 2 dX9_node_109 rfl ?_
    refine tq_iconst (-1) dX9_node_111 (by decide) ?_
    refine tq_icmp_eq 130 dX9_node_112 (by decide) (fun _ => ?_) (fun _ => ?_)
    · exact tq_sub [1] rfl (tX9_node_130 G v3 h)
    · refine tq_iinc 1 (nI 1) (L' := [(3, vI (v3 + (nI 1))), (0, vR v0), (4, vI v4)]) dX9_node_115 rfl (by decide) (by decide) rfl ?_
      refine tq_aload_n 0 1 dX9_node_118 rfl rfl ?_
      refine tq_getR 14 dX9_node_119 cfX9 (by decide) wd_886 rfl rfl (fun x1 => ?_)
      refine tq_iload 2 dX9_node_122 rfl ?_
      refine tq_iald dX9_node_124 (fun x2 => ?_)
      refine tq_istore (L' := [(4, vI x2), (3, vI (v3 + (nI 1))), (0, vR v0)]) dX9_node_125 (by decide) rfl ?_
      refine tq_goto 109 dX9_node_127 (by decide) ?_
      exact tq_sub [2, 1, 0] rfl (ih v0 (v3 + (nI 1)) x2 h)
noncomputable def fX9_node_160  (s0 : Int32) (h : AH) : Option (Int32 × AH) := some (s0, h)
theorem tX9_node_160 (G : sr_G) (s0 : Int32) (h : AH) : sr_T (X := Int32) G 1 RX9 cX9_node 5 (some .int) false (sr_M G jI) 160 [] [vI s0] h (fX9_node_160  s0 h) := by
  unfold fX9_node_160
  exact tq_iret rfl dX9_node_160
noncomputable def fX9_node_0  (v0 : Option Nat) (v1 : Int32) (v2 : Int32) (h : AH) : Option (Int32 × AH) := cCV h 9 v0 (fX9_there v0 v1 h) fun x2 h1 => if x2 = 0 then (some ((-1), h1)) else ((if v2 = 0 then (cGR h1 9 457 v0 fun x3 => cAL h1 0 x3 v1 fun x4 => some (x4, h1)) else (if v2 = 1 then (cGR h1 9 460 v0 fun x5 => cAL h1 0 x5 v1 fun x6 => some (x6, h1)) else (if v2 = 2 then (cGR h1 9 461 v0 fun x7 => cAL h1 0 x7 v1 fun x8 => fX9_node_78 FU v0 (nI 0) x8 h1) else (if v2 = 3 then (cGR h1 9 464 v0 fun x9 => cAL h1 0 x9 v1 fun x10 => fX9_node_109 FU v0 (nI 0) x10 h1) else (if v2 = 4 then (cGR h1 9 466 v0 fun x11 => cAL h1 0 x11 v1 fun x12 => some (x12, h1)) else (if v2 = 5 then (cGR h1 9 457 v0 fun x13 => cAL h1 0 x13 v1 fun x14 => if x14 = (nI 17) then (cGR h1 9 472 v0 fun x15 => cAL h1 0 x15 v1 fun x16 => fX9_node_160 x16 h1) else (fX9_node_160 (nI 0) h1)) else (if v2 = 6 then (cGR h1 9 465 v0 fun x17 => cAL h1 0 x17 v1 fun x18 => some (x18, h1)) else (some ((-1), h1))))))))))
theorem tX9_node_0 (G : sr_G) (v0 : Option Nat) (v1 : Int32) (v2 : Int32) (h : AH) : sr_T (X := Int32) G 1 RX9 cX9_node 5 (some .int) false (sr_M G jI) 0 [(0, vR v0), (1, vI v1), (2, vI v2)] [] h (fX9_node_0  v0 v1 v2 h) := by
  unfold fX9_node_0
  refine tq_aload_n 0 0 dX9_node_0 rfl rfl ?_
  refine tq_iload_n 1 1 dX9_node_1 rfl rfl ?_
  refine tq_cVI [vI v1] [] dX9_node_2 (eX9_there G v0 v1 h) (by decide) mbX9_there cfX9 rfl wd_818 wd_820 wd_37 rfl rfl (Nat.le_of_ble_eq_true rfl) (fun x2 h1 => ?_)
  refine tq_if_ne 10 dX9_node_5 (by decide) (fun _ => ?_) (fun _ => ?_)
  · refine tq_iconst (nI 0) dX9_node_10 (by decide) ?_
    refine tq_istore_n 3 (L' := [(3, vI (nI 0)), (0, vR v0), (1, vI v1), (2, vI v2)]) dX9_node_11 rfl (by decide) rfl ?_
    refine tq_iload_n 2 3 dX9_node_12 rfl rfl ?_
    refine tq_ite _ (fun hc => ?_) (fun hn0 => ?_)
    · refine tq_tableIn 56 dX9_node_13 (by rw [hc]; decide) (by rw [hc]; decide) (off := 43) (by rw [hc]; rfl) (by decide) ?_
      refine tq_aload_n 0 1 dX9_node_56 rfl rfl ?_
      refine tq_getR 7 dX9_node_57 cfX9 (by decide) wd_879 rfl rfl (fun x3 => ?_)
      refine tq_iload_n 1 2 dX9_node_60 rfl rfl ?_
      refine tq_iald dX9_node_61 (fun x4 => ?_)
      exact tq_iret rfl dX9_node_62
    · refine tq_ite _ (fun hc => ?_) (fun hn1 => ?_)
      · refine tq_tableIn 63 dX9_node_13 (by rw [hc]; decide) (by rw [hc]; decide) (off := 50) (by rw [hc]; rfl) (by decide) ?_
        refine tq_aload_n 0 1 dX9_node_63 rfl rfl ?_
        refine tq_getR 10 dX9_node_64 cfX9 (by decide) wd_882 rfl rfl (fun x5 => ?_)
        refine tq_iload_n 1 2 dX9_node_67 rfl rfl ?_
        refine tq_iald dX9_node_68 (fun x6 => ?_)
        exact tq_iret rfl dX9_node_69
      · refine tq_ite _ (fun hc => ?_) (fun hn2 => ?_)
        · refine tq_tableIn 70 dX9_node_13 (by rw [hc]; decide) (by rw [hc]; decide) (off := 57) (by rw [hc]; rfl) (by decide) ?_
          refine tq_aload_n 0 1 dX9_node_70 rfl rfl ?_
          refine tq_getR 11 dX9_node_71 cfX9 (by decide) wd_883 rfl rfl (fun x7 => ?_)
          refine tq_iload_n 1 2 dX9_node_74 rfl rfl ?_
          refine tq_iald dX9_node_75 (fun x8 => ?_)
          refine tq_istore (L' := [(4, vI x8), (3, vI (nI 0)), (0, vR v0), (1, vI v1), (2, vI v2)]) dX9_node_76 (by decide) rfl ?_
          exact tq_sub [2, 1, 0] rfl (tX9_node_78 G FU v0 (nI 0) x8 h1)
        · refine tq_ite _ (fun hc => ?_) (fun hn3 => ?_)
          · refine tq_tableIn 101 dX9_node_13 (by rw [hc]; decide) (by rw [hc]; decide) (off := 88) (by rw [hc]; rfl) (by decide) ?_
            refine tq_aload_n 0 1 dX9_node_101 rfl rfl ?_
            refine tq_getR 14 dX9_node_102 cfX9 (by decide) wd_886 rfl rfl (fun x9 => ?_)
            refine tq_iload_n 1 2 dX9_node_105 rfl rfl ?_
            refine tq_iald dX9_node_106 (fun x10 => ?_)
            refine tq_istore (L' := [(4, vI x10), (3, vI (nI 0)), (0, vR v0), (1, vI v1), (2, vI v2)]) dX9_node_107 (by decide) rfl ?_
            exact tq_sub [2, 1, 0] rfl (tX9_node_109 G FU v0 (nI 0) x10 h1)
          · refine tq_ite _ (fun hc => ?_) (fun hn4 => ?_)
            · refine tq_tableIn 132 dX9_node_13 (by rw [hc]; decide) (by rw [hc]; decide) (off := 119) (by rw [hc]; rfl) (by decide) ?_
              refine tq_aload_n 0 1 dX9_node_132 rfl rfl ?_
              refine tq_getR 16 dX9_node_133 cfX9 (by decide) wd_888 rfl rfl (fun x11 => ?_)
              refine tq_iload_n 1 2 dX9_node_136 rfl rfl ?_
              refine tq_iald dX9_node_137 (fun x12 => ?_)
              exact tq_iret rfl dX9_node_138
            · refine tq_ite _ (fun hc => ?_) (fun hn5 => ?_)
              · refine tq_tableIn 139 dX9_node_13 (by rw [hc]; decide) (by rw [hc]; decide) (off := 126) (by rw [hc]; rfl) (by decide) ?_
                refine tq_aload_n 0 1 dX9_node_139 rfl rfl ?_
                refine tq_getR 7 dX9_node_140 cfX9 (by decide) wd_879 rfl rfl (fun x13 => ?_)
                refine tq_iload_n 1 2 dX9_node_143 rfl rfl ?_
                refine tq_iald dX9_node_144 (fun x14 => ?_)
                refine tq_bipush (nI 17) dX9_node_145 (by decide) ?_
                refine tq_icmp_ne 159 dX9_node_147 (by decide) (fun _ => ?_) (fun _ => ?_)
                · refine tq_iconst (nI 0) dX9_node_159 (by decide) ?_
                  exact tq_sub [] rfl (tX9_node_160 G (nI 0) h1)
                · refine tq_aload_n 0 1 dX9_node_150 rfl rfl ?_
                  refine tq_getR 22 dX9_node_151 cfX9 (by decide) wd_894 rfl rfl (fun x15 => ?_)
                  refine tq_iload_n 1 2 dX9_node_154 rfl rfl ?_
                  refine tq_iald dX9_node_155 (fun x16 => ?_)
                  refine tq_goto 160 dX9_node_156 (by decide) ?_
                  exact tq_sub [] rfl (tX9_node_160 G x16 h1)
              · refine tq_ite _ (fun hc => ?_) (fun hn6 => ?_)
                · refine tq_tableIn 161 dX9_node_13 (by rw [hc]; decide) (by rw [hc]; decide) (off := 148) (by rw [hc]; rfl) (by decide) ?_
                  refine tq_aload_n 0 1 dX9_node_161 rfl rfl ?_
                  refine tq_getR 15 dX9_node_162 cfX9 (by decide) wd_887 rfl rfl (fun x17 => ?_)
                  refine tq_iload_n 1 2 dX9_node_165 rfl rfl ?_
                  refine tq_iald dX9_node_166 (fun x18 => ?_)
                  exact tq_iret rfl dX9_node_167
                · have q0 := lv_neT hn0 (show (0 : Int32).toInt = 0 by decide)
                  have q1 := lv_neT hn1 (show (1 : Int32).toInt = 1 by decide)
                  have q2 := lv_neT hn2 (show (2 : Int32).toInt = 2 by decide)
                  have q3 := lv_neT hn3 (show (3 : Int32).toInt = 3 by decide)
                  have q4 := lv_neT hn4 (show (4 : Int32).toInt = 4 by decide)
                  have q5 := lv_neT hn5 (show (5 : Int32).toInt = 5 by decide)
                  have q6 := lv_neT hn6 (show (6 : Int32).toInt = 6 by decide)
                  refine tq_tableOut 168 dX9_node_13 (by omega) (by decide) ?_
                  refine tq_iconst (-1) dX9_node_168 (by decide) ?_
                  exact tq_iret rfl dX9_node_169
  · refine tq_iconst (-1) dX9_node_8 (by decide) ?_
    exact tq_iret rfl dX9_node_9
noncomputable def fX9_node (v0 : Option Nat) (v1 : Int32) (v2 : Int32) (h : AH) : Option (Int32 × AH) := fX9_node_0 v0 v1 v2 h
theorem eX9_node (G : sr_G) (v0 : Option Nat) (v1 : Int32) (v2 : Int32) (h : AH) : sr_E G 1 yX9_node cX9_node 5 (some .int) jI [vR v0, vI v1, vI v2] h (fX9_node v0 v1 v2 h) := sr_E.of (own := RX9) (ini := false) (by decide) rfl (fun q => by first | rfl | cases q) rfl (Nat.le_of_ble_eq_true rfl) (tX9_node_0 G v0 v1 v2 h)
noncomputable def fX9_kid_12   (h : AH) : Option (Int32 × AH) := some ((-1), h)
theorem tX9_kid_12 (G : sr_G)  (h : AH) : sr_T (X := Int32) G 1 RX9 cX9_kid 5 (some .int) false (sr_M G jI) 12 [] [] h (fX9_kid_12  h) := by
  unfold fX9_kid_12
  refine tq_iconst (-1) dX9_kid_12 (by decide) ?_
  exact tq_iret rfl dX9_kid_13
noncomputable def fX9_kid_48  (v3 : Int32) (h : AH) : Option (Int32 × AH) := some (v3, h)
theorem tX9_kid_48 (G : sr_G) (v3 : Int32) (h : AH) : sr_T (X := Int32) G 1 RX9 cX9_kid 5 (some .int) false (sr_M G jI) 48 [(3, vI v3)] [] h (fX9_kid_48  v3 h) := by
  unfold fX9_kid_48
  refine tq_iload_n 3 0 dX9_kid_48 rfl rfl ?_
  exact tq_iret rfl dX9_kid_49
noncomputable def fX9_kid_24  : Nat → Option Nat → Int32 → Int32 → Int32 → AH → Option (Int32 × AH)
  | 0, _, _, _, _, _ => none
  | n + 1, v0, v2, v3, v4, h => if v2 ≤ v4 then (fX9_kid_48 v3 h) else (if v3 = (-1) then (fX9_kid_48 v3 h) else (cGR h 9 463 v0 fun x1 => cAL h 0 x1 v3 fun x2 => fX9_kid_24 n v0 v2 x2 (v4 + (nI 1)) h))
theorem tX9_kid_24 (G : sr_G) : ∀ (n : Nat) (v0 : Option Nat) (v2 : Int32) (v3 : Int32) (v4 : Int32) (h : AH), sr_T (X := Int32) G 1 RX9 cX9_kid 5 (some .int) false (sr_M G jI) 24 [(0, vR v0), (2, vI v2), (3, vI v3), (4, vI v4)] [] h (fX9_kid_24  n v0 v2 v3 v4 h) := by
  intro n
  induction n with
  | zero => intro v0 v2 v3 v4 h; exact tq_none
  | succ n ih =>
    intro v0 v2 v3 v4 h
    unfold fX9_kid_24
    refine tq_iload 3 dX9_kid_24 rfl ?_
    refine tq_iload_n 2 1 dX9_kid_26 rfl rfl ?_
    refine tq_icmp_ge 48 dX9_kid_27 (by decide) (fun _ => ?_) (fun _ => ?_)
    · exact tq_sub [2] rfl (tX9_kid_48 G v3 h)
    · refine tq_iload_n 3 2 dX9_kid_30 rfl rfl ?_
      refine tq_iconst (-1) dX9_kid_31 (by decide) ?_
      refine tq_icmp_eq 48 dX9_kid_32 (by decide) (fun _ => ?_) (fun _ => ?_)
      · exact tq_sub [2] rfl (tX9_kid_48 G v3 h)
      · refine tq_aload_n 0 0 dX9_kid_35 rfl rfl ?_
        refine tq_getR 13 dX9_kid_36 cfX9 (by decide) wd_885 rfl rfl (fun x1 => ?_)
        refine tq_iload_n 3 2 dX9_kid_39 rfl rfl ?_
        refine tq_iald dX9_kid_40 (fun x2 => ?_)
        refine tq_istore_n 3 (L' := [(3, vI x2), (0, vR v0), (2, vI v2), (4, vI v4)]) dX9_kid_41 rfl (by decide) rfl ?_
        refine tq_iinc 3 (nI 1) (L' := [(4, vI (v4 + (nI 1))), (3, vI x2), (0, vR v0), (2, vI v2)]) dX9_kid_42 rfl (by decide) (by decide) rfl ?_
        refine tq_goto 24 dX9_kid_45 (by decide) ?_
        exact tq_sub [2, 3, 1, 0] rfl (ih v0 v2 x2 (v4 + (nI 1)) h)
noncomputable def fX9_kid_0  (v0 : Option Nat) (v1 : Int32) (v2 : Int32) (h : AH) : Option (Int32 × AH) := cCV h 9 v0 (fX9_there v0 v1 h) fun x2 h1 => if x2 = 0 then (fX9_kid_12 h1) else (if 0 ≤ v2 then (cGR h1 9 461 v0 fun x3 => cAL h1 0 x3 v1 fun x4 => fX9_kid_24 FU v0 v2 x4 (nI 0) h1) else (fX9_kid_12 h1))
theorem tX9_kid_0 (G : sr_G) (v0 : Option Nat) (v1 : Int32) (v2 : Int32) (h : AH) : sr_T (X := Int32) G 1 RX9 cX9_kid 5 (some .int) false (sr_M G jI) 0 [(0, vR v0), (1, vI v1), (2, vI v2)] [] h (fX9_kid_0  v0 v1 v2 h) := by
  unfold fX9_kid_0
  refine tq_aload_n 0 0 dX9_kid_0 rfl rfl ?_
  refine tq_iload_n 1 1 dX9_kid_1 rfl rfl ?_
  refine tq_cVI [vI v1] [] dX9_kid_2 (eX9_there G v0 v1 h) (by decide) mbX9_there cfX9 rfl wd_818 wd_820 wd_37 rfl rfl (Nat.le_of_ble_eq_true rfl) (fun x2 h1 => ?_)
  refine tq_if_eq 12 dX9_kid_5 (by decide) (fun _ => ?_) (fun _ => ?_)
  · exact tq_sub [] rfl (tX9_kid_12 G h1)
  · refine tq_iload_n 2 2 dX9_kid_8 rfl rfl ?_
    refine tq_if_ge 14 dX9_kid_9 (by decide) (fun _ => ?_) (fun _ => ?_)
    · refine tq_aload_n 0 0 dX9_kid_14 rfl rfl ?_
      refine tq_getR 11 dX9_kid_15 cfX9 (by decide) wd_883 rfl rfl (fun x3 => ?_)
      refine tq_iload_n 1 1 dX9_kid_18 rfl rfl ?_
      refine tq_iald dX9_kid_19 (fun x4 => ?_)
      refine tq_istore_n 3 (L' := [(3, vI x4), (0, vR v0), (1, vI v1), (2, vI v2)]) dX9_kid_20 rfl (by decide) rfl ?_
      refine tq_iconst (nI 0) dX9_kid_21 (by decide) ?_
      refine tq_istore (L' := [(4, vI (nI 0)), (3, vI x4), (0, vR v0), (1, vI v1), (2, vI v2)]) dX9_kid_22 (by decide) rfl ?_
      exact tq_sub [2, 4, 1, 0] rfl (tX9_kid_24 G FU v0 v2 x4 (nI 0) h1)
    · exact tq_sub [] rfl (tX9_kid_12 G h1)
noncomputable def fX9_kid (v0 : Option Nat) (v1 : Int32) (v2 : Int32) (h : AH) : Option (Int32 × AH) := fX9_kid_0 v0 v1 v2 h
theorem eX9_kid (G : sr_G) (v0 : Option Nat) (v1 : Int32) (v2 : Int32) (h : AH) : sr_E G 1 yX9_kid cX9_kid 5 (some .int) jI [vR v0, vI v1, vI v2] h (fX9_kid v0 v1 v2 h) := sr_E.of (own := RX9) (ini := false) (by decide) rfl (fun q => by first | rfl | cases q) rfl (Nat.le_of_ble_eq_true rfl) (tX9_kid_0 G v0 v1 v2 h)
noncomputable def fX9_name_66  (v0 : Option Nat) (h : AH) : Option (Int32 × AH) := cGI h 9 455 v0 fun x1 => some (x1, h)
theorem tX9_name_66 (G : sr_G) (v0 : Option Nat) (h : AH) : sr_T (X := Int32) G 2 RX9 cX9_name 2 (some .int) false (sr_M G jI) 66 [(0, vR v0)] [] h (fX9_name_66  v0 h) := by
  unfold fX9_name_66
  refine tq_aload_n 0 0 dX9_name_66 rfl rfl ?_
  refine tq_getI 5 dX9_name_67 cfX9 (by decide) wd_877 rfl rfl (fun x1 => ?_)
  exact tq_iret rfl dX9_name_70
noncomputable def fX9_name_0  (v0 : Option Nat) (v1 : Int32) (h : AH) : Option (Int32 × AH) := cCV h 9 v0 (fX9_there v0 v1 h) fun x2 h1 => if x2 = 0 then (some ((-1), h1)) else (cPI h1 9 455 v0 (nI 0) fun h3 => cGR h3 9 457 v0 fun x4 => cAL h3 0 x4 v1 fun x5 => if x5 = (nI 17) then (cGR h3 9 471 v0 fun x10 => cGR h3 9 472 v0 fun x11 => cAL h3 0 x11 v1 fun x12 => cCV h3 9 v0 (fX9_sayAll v0 x10 ((nI 400) * v1) x12 h3) fun _ h13 => fX9_name_66 v0 h13) else (cGR h3 9 458 v0 fun x6 => cGR h3 9 459 v0 fun x7 => cAL h3 0 x7 v1 fun x8 => cCV h3 9 v0 (fX9_sayAll v0 x6 ((nI 8) * v1) x8 h3) fun _ h9 => fX9_name_66 v0 h9))
theorem tX9_name_0 (G : sr_G) (v0 : Option Nat) (v1 : Int32) (h : AH) : sr_T (X := Int32) G 2 RX9 cX9_name 2 (some .int) false (sr_M G jI) 0 [(0, vR v0), (1, vI v1)] [] h (fX9_name_0  v0 v1 h) := by
  unfold fX9_name_0
  refine tq_aload_n 0 0 dX9_name_0 rfl rfl ?_
  refine tq_iload_n 1 1 dX9_name_1 rfl rfl ?_
  refine tq_cVI [vI v1] [] dX9_name_2 (eX9_there G v0 v1 h) (by decide) mbX9_there cfX9 rfl wd_818 wd_820 wd_37 rfl rfl (Nat.le_of_ble_eq_true rfl) (fun x2 h1 => ?_)
  refine tq_if_ne 10 dX9_name_5 (by decide) (fun _ => ?_) (fun _ => ?_)
  · refine tq_aload_n 0 0 dX9_name_10 rfl rfl ?_
    refine tq_iconst (nI 0) dX9_name_11 (by decide) ?_
    refine tq_putI 5 dX9_name_12 cfX9 (by decide) wd_877 rfl rfl (Or.inl rfl) (fun h3 => ?_)
    refine tq_aload_n 0 0 dX9_name_15 rfl rfl ?_
    refine tq_getR 7 dX9_name_16 cfX9 (by decide) wd_879 rfl rfl (fun x4 => ?_)
    refine tq_iload_n 1 1 dX9_name_19 rfl rfl ?_
    refine tq_iald dX9_name_20 (fun x5 => ?_)
    refine tq_bipush (nI 17) dX9_name_21 (by decide) ?_
    refine tq_icmp_ne 48 dX9_name_23 (by decide) (fun _ => ?_) (fun _ => ?_)
    · refine tq_aload_n 0 0 dX9_name_48 rfl rfl ?_
      refine tq_aload_n 0 0 dX9_name_49 rfl rfl ?_
      refine tq_getR 8 dX9_name_50 cfX9 (by decide) wd_880 rfl rfl (fun x6 => ?_)
      refine tq_bipush (nI 8) dX9_name_53 (by decide) ?_
      refine tq_iload_n 1 1 dX9_name_55 rfl rfl ?_
      refine tq_imul dX9_name_56 ?_
      refine tq_aload_n 0 0 dX9_name_57 rfl rfl ?_
      refine tq_getR 9 dX9_name_58 cfX9 (by decide) wd_881 rfl rfl (fun x7 => ?_)
      refine tq_iload_n 1 1 dX9_name_61 rfl rfl ?_
      refine tq_iald dX9_name_62 (fun x8 => ?_)
      refine tq_cVV [vR x6, vI ((nI 8) * v1), vI x8] [] dX9_name_63 (eX9_sayAll G v0 x6 ((nI 8) * v1) x8 h3) (by decide) mbX9_sayAll cfX9 rfl wd_835 wd_837 wd_41 rfl rfl (Nat.le_of_ble_eq_true rfl) (fun _ h9 => ?_)
      exact tq_sub [0] rfl (tX9_name_66 G v0 h9)
    · refine tq_aload_n 0 0 dX9_name_26 rfl rfl ?_
      refine tq_aload_n 0 0 dX9_name_27 rfl rfl ?_
      refine tq_getR 21 dX9_name_28 cfX9 (by decide) wd_893 rfl rfl (fun x10 => ?_)
      refine tq_sipush (nI 400) dX9_name_31 (by decide) ?_
      refine tq_iload_n 1 1 dX9_name_34 rfl rfl ?_
      refine tq_imul dX9_name_35 ?_
      refine tq_aload_n 0 0 dX9_name_36 rfl rfl ?_
      refine tq_getR 22 dX9_name_37 cfX9 (by decide) wd_894 rfl rfl (fun x11 => ?_)
      refine tq_iload_n 1 1 dX9_name_40 rfl rfl ?_
      refine tq_iald dX9_name_41 (fun x12 => ?_)
      refine tq_cVV [vR x10, vI ((nI 400) * v1), vI x12] [] dX9_name_42 (eX9_sayAll G v0 x10 ((nI 400) * v1) x12 h3) (by decide) mbX9_sayAll cfX9 rfl wd_835 wd_837 wd_41 rfl rfl (Nat.le_of_ble_eq_true rfl) (fun _ h13 => ?_)
      refine tq_goto 66 dX9_name_45 (by decide) ?_
      exact tq_sub [0] rfl (tX9_name_66 G v0 h13)
  · refine tq_iconst (-1) dX9_name_8 (by decide) ?_
    exact tq_iret rfl dX9_name_9
noncomputable def fX9_name (v0 : Option Nat) (v1 : Int32) (h : AH) : Option (Int32 × AH) := fX9_name_0 v0 v1 h
theorem eX9_name (G : sr_G) (v0 : Option Nat) (v1 : Int32) (h : AH) : sr_E G 2 yX9_name cX9_name 2 (some .int) jI [vR v0, vI v1] h (fX9_name v0 v1 h) := sr_E.of (own := RX9) (ini := false) (by decide) rfl (fun q => by first | rfl | cases q) rfl (Nat.le_of_ble_eq_true rfl) (tX9_name_0 G v0 v1 h)
noncomputable def fX9_init_0  (v0 : Option Nat) (h : AH) : Option (Unit × AH) := cNN v0 <| cNA h 1 (nI 2000) fun x1 h2 => cPR h2 9 450 v0 x1 fun h3 => cNA h3 1 (nI 2000) fun x4 h5 => cPR h5 9 452 v0 x4 fun h6 => cNA h6 1 (nI 8000) fun x7 h8 => cPR h8 9 454 v0 x7 fun h9 => cNA h9 2 (nI 120) fun x10 h11 => cPR h11 9 456 v0 x10 fun h12 => cNA h12 0 (nI 120) fun x13 h14 => cPR h14 9 457 v0 x13 fun h15 => cNA h15 1 (nI 960) fun x16 h17 => cPR h17 9 458 v0 x16 fun h18 => cNA h18 0 (nI 120) fun x19 h20 => cPR h20 9 459 v0 x19 fun h21 => cNA h21 0 (nI 120) fun x22 h23 => cPR h23 9 460 v0 x22 fun h24 => cNA h24 0 (nI 120) fun x25 h26 => cPR h26 9 461 v0 x25 fun h27 => cNA h27 0 (nI 120) fun x28 h29 => cPR h29 9 462 v0 x28 fun h30 => cNA h30 0 (nI 120) fun x31 h32 => cPR h32 9 463 v0 x31 fun h33 => cNA h33 0 (nI 120) fun x34 h35 => cPR h35 9 464 v0 x34 fun h36 => cNA h36 0 (nI 120) fun x37 h38 => cPR h38 9 465 v0 x37 fun h39 => cNA h39 0 (nI 120) fun x40 h41 => cPR h41 9 466 v0 x40 fun h42 => cNA h42 1 (nI 3840) fun x43 h44 => cPR h44 9 467 v0 x43 fun h45 => cNA h45 0 (nI 480) fun x46 h47 => cPR h47 9 468 v0 x46 fun h48 => cNA h48 1 (nI 28800) fun x49 h50 => cPR h50 9 469 v0 x49 fun h51 => cNA h51 0 (nI 480) fun x52 h53 => cPR h53 9 470 v0 x52 fun h54 => cNA h54 1 48000 fun x55 h56 => cPR h56 9 471 v0 x55 fun h57 => cNA h57 0 (nI 120) fun x58 h59 => cPR h59 9 472 v0 x58 fun h60 => cNA h60 2 (nI 120) fun x61 h62 => cPR h62 9 473 v0 x61 fun h63 => cNA h63 0 (nI 120) fun x64 h65 => cPR h65 9 474 v0 x64 fun h66 => cNA h66 0 (nI 40) fun x67 h68 => cPR h68 9 477 v0 x67 fun h69 => cNA h69 0 (nI 40) fun x70 h71 => cPR h71 9 478 v0 x70 fun h72 => cNA h72 0 (nI 22) fun x73 h74 => cPR h74 9 479 v0 x73 fun h75 => cNA h75 1 (nI 2000) fun x76 h77 => cPR h77 9 481 v0 x76 fun h78 => cNA h78 1 (nI 8) fun x79 h80 => cPR h80 9 484 v0 x79 fun h81 => cNA h81 1 (nI 32) fun x82 h83 => cPR h83 9 487 v0 x82 fun h84 => cNA h84 0 (nI 4) fun x85 h86 => cPR h86 9 488 v0 x85 fun h87 => cNA h87 1 (nI 240) fun x88 h89 => cPR h89 9 489 v0 x88 fun h90 => cNA h90 0 (nI 4) fun x91 h92 => cPR h92 9 490 v0 x91 fun h93 => cNA h93 0 (nI 2000) fun x94 h95 => cPR h95 9 492 v0 x94 fun h96 => cNA h96 1 (nI 8) fun x97 h98 => cPR h98 9 493 v0 x97 fun h99 => cNA h99 1 (nI 60) fun x100 h101 => cPR h101 9 494 v0 x100 fun h102 => cCV h102 9 v0 (fX9_emptyTree v0 h102) fun _ h103 => some ((), h103)
theorem tX9_init_0 (G : sr_G) (v0 : Option Nat) (h : AH) : sr_T (X := Unit) G 2 RX9 cX9_init 1 none true (sr_M G jV) 0 [(0, vR v0)] [] h (fX9_init_0  v0 h) := by
  unfold fX9_init_0
  refine tq_aload_n 0 0 dX9_init_0 rfl rfl ?_
  refine tq_objI dX9_init_1 (by decide) wd_862 wd_90 wd_91 (Nat.le_of_ble_eq_true rfl) ?_
  refine tq_aload_n 0 0 dX9_init_4 rfl rfl ?_
  refine tq_sipush (nI 2000) dX9_init_5 (by decide) ?_
  refine tq_newa dX9_init_8 (by decide) rfl wd_108 (fun x1 h2 => ?_)
  refine tq_putR 0 dX9_init_10 cfX9 (by decide) wd_872 rfl rfl (Or.inr ⟨rfl, rfl, rfl⟩) (fun h3 => ?_)
  refine tq_aload_n 0 0 dX9_init_13 rfl rfl ?_
  refine tq_sipush (nI 2000) dX9_init_14 (by decide) ?_
  refine tq_newa dX9_init_17 (by decide) rfl wd_108 (fun x4 h5 => ?_)
  refine tq_putR 2 dX9_init_19 cfX9 (by decide) wd_874 rfl rfl (Or.inr ⟨rfl, rfl, rfl⟩) (fun h6 => ?_)
  refine tq_aload_n 0 0 dX9_init_22 rfl rfl ?_
  refine tq_sipush (nI 8000) dX9_init_23 (by decide) ?_
  refine tq_newa dX9_init_26 (by decide) rfl wd_108 (fun x7 h8 => ?_)
  refine tq_putR 4 dX9_init_28 cfX9 (by decide) wd_876 rfl rfl (Or.inr ⟨rfl, rfl, rfl⟩) (fun h9 => ?_)
  refine tq_aload_n 0 0 dX9_init_31 rfl rfl ?_
  refine tq_bipush (nI 120) dX9_init_32 (by decide) ?_
  refine tq_newa dX9_init_34 (by decide) rfl wd_1008 (fun x10 h11 => ?_)
  refine tq_putR 6 dX9_init_36 cfX9 (by decide) wd_878 rfl rfl (Or.inr ⟨rfl, rfl, rfl⟩) (fun h12 => ?_)
  refine tq_aload_n 0 0 dX9_init_39 rfl rfl ?_
  refine tq_bipush (nI 120) dX9_init_40 (by decide) ?_
  refine tq_newa dX9_init_42 (by decide) rfl wd_141 (fun x13 h14 => ?_)
  refine tq_putR 7 dX9_init_44 cfX9 (by decide) wd_879 rfl rfl (Or.inr ⟨rfl, rfl, rfl⟩) (fun h15 => ?_)
  refine tq_aload_n 0 0 dX9_init_47 rfl rfl ?_
  refine tq_sipush (nI 960) dX9_init_48 (by decide) ?_
  refine tq_newa dX9_init_51 (by decide) rfl wd_108 (fun x16 h17 => ?_)
  refine tq_putR 8 dX9_init_53 cfX9 (by decide) wd_880 rfl rfl (Or.inr ⟨rfl, rfl, rfl⟩) (fun h18 => ?_)
  refine tq_aload_n 0 0 dX9_init_56 rfl rfl ?_
  refine tq_bipush (nI 120) dX9_init_57 (by decide) ?_
  refine tq_newa dX9_init_59 (by decide) rfl wd_141 (fun x19 h20 => ?_)
  refine tq_putR 9 dX9_init_61 cfX9 (by decide) wd_881 rfl rfl (Or.inr ⟨rfl, rfl, rfl⟩) (fun h21 => ?_)
  refine tq_aload_n 0 0 dX9_init_64 rfl rfl ?_
  refine tq_bipush (nI 120) dX9_init_65 (by decide) ?_
  refine tq_newa dX9_init_67 (by decide) rfl wd_141 (fun x22 h23 => ?_)
  refine tq_putR 10 dX9_init_69 cfX9 (by decide) wd_882 rfl rfl (Or.inr ⟨rfl, rfl, rfl⟩) (fun h24 => ?_)
  refine tq_aload_n 0 0 dX9_init_72 rfl rfl ?_
  refine tq_bipush (nI 120) dX9_init_73 (by decide) ?_
  refine tq_newa dX9_init_75 (by decide) rfl wd_141 (fun x25 h26 => ?_)
  refine tq_putR 11 dX9_init_77 cfX9 (by decide) wd_883 rfl rfl (Or.inr ⟨rfl, rfl, rfl⟩) (fun h27 => ?_)
  refine tq_aload_n 0 0 dX9_init_80 rfl rfl ?_
  refine tq_bipush (nI 120) dX9_init_81 (by decide) ?_
  refine tq_newa dX9_init_83 (by decide) rfl wd_141 (fun x28 h29 => ?_)
  refine tq_putR 12 dX9_init_85 cfX9 (by decide) wd_884 rfl rfl (Or.inr ⟨rfl, rfl, rfl⟩) (fun h30 => ?_)
  refine tq_aload_n 0 0 dX9_init_88 rfl rfl ?_
  refine tq_bipush (nI 120) dX9_init_89 (by decide) ?_
  refine tq_newa dX9_init_91 (by decide) rfl wd_141 (fun x31 h32 => ?_)
  refine tq_putR 13 dX9_init_93 cfX9 (by decide) wd_885 rfl rfl (Or.inr ⟨rfl, rfl, rfl⟩) (fun h33 => ?_)
  refine tq_aload_n 0 0 dX9_init_96 rfl rfl ?_
  refine tq_bipush (nI 120) dX9_init_97 (by decide) ?_
  refine tq_newa dX9_init_99 (by decide) rfl wd_141 (fun x34 h35 => ?_)
  refine tq_putR 14 dX9_init_101 cfX9 (by decide) wd_886 rfl rfl (Or.inr ⟨rfl, rfl, rfl⟩) (fun h36 => ?_)
  refine tq_aload_n 0 0 dX9_init_104 rfl rfl ?_
  refine tq_bipush (nI 120) dX9_init_105 (by decide) ?_
  refine tq_newa dX9_init_107 (by decide) rfl wd_141 (fun x37 h38 => ?_)
  refine tq_putR 15 dX9_init_109 cfX9 (by decide) wd_887 rfl rfl (Or.inr ⟨rfl, rfl, rfl⟩) (fun h39 => ?_)
  refine tq_aload_n 0 0 dX9_init_112 rfl rfl ?_
  refine tq_bipush (nI 120) dX9_init_113 (by decide) ?_
  refine tq_newa dX9_init_115 (by decide) rfl wd_141 (fun x40 h41 => ?_)
  refine tq_putR 16 dX9_init_117 cfX9 (by decide) wd_888 rfl rfl (Or.inr ⟨rfl, rfl, rfl⟩) (fun h42 => ?_)
  refine tq_aload_n 0 0 dX9_init_120 rfl rfl ?_
  refine tq_sipush (nI 3840) dX9_init_121 (by decide) ?_
  refine tq_newa dX9_init_124 (by decide) rfl wd_108 (fun x43 h44 => ?_)
  refine tq_putR 17 dX9_init_126 cfX9 (by decide) wd_889 rfl rfl (Or.inr ⟨rfl, rfl, rfl⟩) (fun h45 => ?_)
  refine tq_aload_n 0 0 dX9_init_129 rfl rfl ?_
  refine tq_sipush (nI 480) dX9_init_130 (by decide) ?_
  refine tq_newa dX9_init_133 (by decide) rfl wd_141 (fun x46 h47 => ?_)
  refine tq_putR 18 dX9_init_135 cfX9 (by decide) wd_890 rfl rfl (Or.inr ⟨rfl, rfl, rfl⟩) (fun h48 => ?_)
  refine tq_aload_n 0 0 dX9_init_138 rfl rfl ?_
  refine tq_sipush (nI 28800) dX9_init_139 (by decide) ?_
  refine tq_newa dX9_init_142 (by decide) rfl wd_108 (fun x49 h50 => ?_)
  refine tq_putR 19 dX9_init_144 cfX9 (by decide) wd_891 rfl rfl (Or.inr ⟨rfl, rfl, rfl⟩) (fun h51 => ?_)
  refine tq_aload_n 0 0 dX9_init_147 rfl rfl ?_
  refine tq_sipush (nI 480) dX9_init_148 (by decide) ?_
  refine tq_newa dX9_init_151 (by decide) rfl wd_141 (fun x52 h53 => ?_)
  refine tq_putR 20 dX9_init_153 cfX9 (by decide) wd_892 rfl rfl (Or.inr ⟨rfl, rfl, rfl⟩) (fun h54 => ?_)
  refine tq_aload_n 0 0 dX9_init_156 rfl rfl ?_
  refine tq_ldcw 48000 dX9_init_157 wd_863 ?_
  refine tq_newa dX9_init_160 (by decide) rfl wd_108 (fun x55 h56 => ?_)
  refine tq_putR 21 dX9_init_162 cfX9 (by decide) wd_893 rfl rfl (Or.inr ⟨rfl, rfl, rfl⟩) (fun h57 => ?_)
  refine tq_aload_n 0 0 dX9_init_165 rfl rfl ?_
  refine tq_bipush (nI 120) dX9_init_166 (by decide) ?_
  refine tq_newa dX9_init_168 (by decide) rfl wd_141 (fun x58 h59 => ?_)
  refine tq_putR 22 dX9_init_170 cfX9 (by decide) wd_894 rfl rfl (Or.inr ⟨rfl, rfl, rfl⟩) (fun h60 => ?_)
  refine tq_aload_n 0 0 dX9_init_173 rfl rfl ?_
  refine tq_bipush (nI 120) dX9_init_174 (by decide) ?_
  refine tq_newa dX9_init_176 (by decide) rfl wd_1008 (fun x61 h62 => ?_)
  refine tq_putR 23 dX9_init_178 cfX9 (by decide) wd_895 rfl rfl (Or.inr ⟨rfl, rfl, rfl⟩) (fun h63 => ?_)
  refine tq_aload_n 0 0 dX9_init_181 rfl rfl ?_
  refine tq_bipush (nI 120) dX9_init_182 (by decide) ?_
  refine tq_newa dX9_init_184 (by decide) rfl wd_141 (fun x64 h65 => ?_)
  refine tq_putR 24 dX9_init_186 cfX9 (by decide) wd_896 rfl rfl (Or.inr ⟨rfl, rfl, rfl⟩) (fun h66 => ?_)
  refine tq_aload_n 0 0 dX9_init_189 rfl rfl ?_
  refine tq_bipush (nI 40) dX9_init_190 (by decide) ?_
  refine tq_newa dX9_init_192 (by decide) rfl wd_141 (fun x67 h68 => ?_)
  refine tq_putR 27 dX9_init_194 cfX9 (by decide) wd_899 rfl rfl (Or.inr ⟨rfl, rfl, rfl⟩) (fun h69 => ?_)
  refine tq_aload_n 0 0 dX9_init_197 rfl rfl ?_
  refine tq_bipush (nI 40) dX9_init_198 (by decide) ?_
  refine tq_newa dX9_init_200 (by decide) rfl wd_141 (fun x70 h71 => ?_)
  refine tq_putR 28 dX9_init_202 cfX9 (by decide) wd_900 rfl rfl (Or.inr ⟨rfl, rfl, rfl⟩) (fun h72 => ?_)
  refine tq_aload_n 0 0 dX9_init_205 rfl rfl ?_
  refine tq_bipush (nI 22) dX9_init_206 (by decide) ?_
  refine tq_newa dX9_init_208 (by decide) rfl wd_141 (fun x73 h74 => ?_)
  refine tq_putR 29 dX9_init_210 cfX9 (by decide) wd_901 rfl rfl (Or.inr ⟨rfl, rfl, rfl⟩) (fun h75 => ?_)
  refine tq_aload_n 0 0 dX9_init_213 rfl rfl ?_
  refine tq_sipush (nI 2000) dX9_init_214 (by decide) ?_
  refine tq_newa dX9_init_217 (by decide) rfl wd_108 (fun x76 h77 => ?_)
  refine tq_putR 31 dX9_init_219 cfX9 (by decide) wd_903 rfl rfl (Or.inr ⟨rfl, rfl, rfl⟩) (fun h78 => ?_)
  refine tq_aload_n 0 0 dX9_init_222 rfl rfl ?_
  refine tq_bipush (nI 8) dX9_init_223 (by decide) ?_
  refine tq_newa dX9_init_225 (by decide) rfl wd_108 (fun x79 h80 => ?_)
  refine tq_putR 34 dX9_init_227 cfX9 (by decide) wd_906 rfl rfl (Or.inr ⟨rfl, rfl, rfl⟩) (fun h81 => ?_)
  refine tq_aload_n 0 0 dX9_init_230 rfl rfl ?_
  refine tq_bipush (nI 32) dX9_init_231 (by decide) ?_
  refine tq_newa dX9_init_233 (by decide) rfl wd_108 (fun x82 h83 => ?_)
  refine tq_putR 37 dX9_init_235 cfX9 (by decide) wd_909 rfl rfl (Or.inr ⟨rfl, rfl, rfl⟩) (fun h84 => ?_)
  refine tq_aload_n 0 0 dX9_init_238 rfl rfl ?_
  refine tq_iconst (nI 4) dX9_init_239 (by decide) ?_
  refine tq_newa dX9_init_240 (by decide) rfl wd_141 (fun x85 h86 => ?_)
  refine tq_putR 38 dX9_init_242 cfX9 (by decide) wd_910 rfl rfl (Or.inr ⟨rfl, rfl, rfl⟩) (fun h87 => ?_)
  refine tq_aload_n 0 0 dX9_init_245 rfl rfl ?_
  refine tq_sipush (nI 240) dX9_init_246 (by decide) ?_
  refine tq_newa dX9_init_249 (by decide) rfl wd_108 (fun x88 h89 => ?_)
  refine tq_putR 39 dX9_init_251 cfX9 (by decide) wd_911 rfl rfl (Or.inr ⟨rfl, rfl, rfl⟩) (fun h90 => ?_)
  refine tq_aload_n 0 0 dX9_init_254 rfl rfl ?_
  refine tq_iconst (nI 4) dX9_init_255 (by decide) ?_
  refine tq_newa dX9_init_256 (by decide) rfl wd_141 (fun x91 h92 => ?_)
  refine tq_putR 40 dX9_init_258 cfX9 (by decide) wd_912 rfl rfl (Or.inr ⟨rfl, rfl, rfl⟩) (fun h93 => ?_)
  refine tq_aload_n 0 0 dX9_init_261 rfl rfl ?_
  refine tq_sipush (nI 2000) dX9_init_262 (by decide) ?_
  refine tq_newa dX9_init_265 (by decide) rfl wd_141 (fun x94 h95 => ?_)
  refine tq_putR 42 dX9_init_267 cfX9 (by decide) wd_914 rfl rfl (Or.inr ⟨rfl, rfl, rfl⟩) (fun h96 => ?_)
  refine tq_aload_n 0 0 dX9_init_270 rfl rfl ?_
  refine tq_bipush (nI 8) dX9_init_271 (by decide) ?_
  refine tq_newa dX9_init_273 (by decide) rfl wd_108 (fun x97 h98 => ?_)
  refine tq_putR 43 dX9_init_275 cfX9 (by decide) wd_915 rfl rfl (Or.inr ⟨rfl, rfl, rfl⟩) (fun h99 => ?_)
  refine tq_aload_n 0 0 dX9_init_278 rfl rfl ?_
  refine tq_bipush (nI 60) dX9_init_279 (by decide) ?_
  refine tq_newa dX9_init_281 (by decide) rfl wd_108 (fun x100 h101 => ?_)
  refine tq_putR 44 dX9_init_283 cfX9 (by decide) wd_916 rfl rfl (Or.inr ⟨rfl, rfl, rfl⟩) (fun h102 => ?_)
  refine tq_aload_n 0 0 dX9_init_286 rfl rfl ?_
  refine tq_cVV [] [] dX9_init_287 (eX9_emptyTree G v0 h102) (by decide) mbX9_emptyTree cfX9 rfl wd_864 wd_866 wd_43 rfl rfl (Nat.le_of_ble_eq_true rfl) (fun _ h103 => ?_)
  exact tq_vret rfl dX9_init_290
noncomputable def fX9_init (v0 : Option Nat) (h : AH) : Option (Unit × AH) := fX9_init_0 v0 h
theorem eX9_init (G : sr_G) (v0 : Option Nat) (h : AH) : sr_E G 2 yX9_init cX9_init 1 none jV [vR v0] h (fX9_init v0 h) := sr_E.of (own := RX9) (ini := true) (by decide) rfl (fun q => by first | rfl | cases q) rfl (Nat.le_of_ble_eq_true rfl) (tX9_init_0 G v0 h)
noncomputable def fX9_putFour_36   (h : AH) : Option (Unit × AH) := some ((), h)
theorem tX9_putFour_36 (G : sr_G)  (h : AH) : sr_T (X := Unit) G 0 RX9 cX9_putFour 3 none false (sr_M G jV) 36 [] [] h (fX9_putFour_36  h) := by
  unfold fX9_putFour_36
  exact tq_vret rfl dX9_putFour_36
noncomputable def fX9_putFour_3  : Nat → Option Nat → Int32 → Int32 → AH → Option (Unit × AH)
  | 0, _, _, _, _ => none
  | n + 1, v0, v1, v2, h => if v2 < 0 then (fX9_putFour_36 h) else (cGR h 9 450 v0 fun x1 => cGI h 9 451 v0 fun x2 => cAS h 1 x1 x2 (Int8.toInt32 (Int32.toInt8 (v1 >>> (v2 &&& 31)))) fun h3 => cGI h3 9 451 v0 fun x4 => cPI h3 9 451 v0 (x4 + (nI 1)) fun h5 => fX9_putFour_3 n v0 v1 (v2 + (-8)) h5)
theorem tX9_putFour_3 (G : sr_G) : ∀ (n : Nat) (v0 : Option Nat) (v1 : Int32) (v2 : Int32) (h : AH), sr_T (X := Unit) G 0 RX9 cX9_putFour 3 none false (sr_M G jV) 3 [(0, vR v0), (1, vI v1), (2, vI v2)] [] h (fX9_putFour_3  n v0 v1 v2 h) := by
  intro n
  induction n with
  | zero => intro v0 v1 v2 h; exact tq_none
  | succ n ih =>
    intro v0 v1 v2 h
    unfold fX9_putFour_3
    refine tq_iload_n 2 2 dX9_putFour_3 rfl rfl ?_
    refine tq_if_lt 36 dX9_putFour_4 (by decide) (fun _ => ?_) (fun _ => ?_)
    · exact tq_sub [] rfl (tX9_putFour_36 G h)
    · refine tq_aload_n 0 0 dX9_putFour_7 rfl rfl ?_
      refine tq_getR 0 dX9_putFour_8 cfX9 (by decide) wd_872 rfl rfl (fun x1 => ?_)
      refine tq_aload_n 0 0 dX9_putFour_11 rfl rfl ?_
      refine tq_getI 1 dX9_putFour_12 cfX9 (by decide) wd_873 rfl rfl (fun x2 => ?_)
      refine tq_iload_n 1 1 dX9_putFour_15 rfl rfl ?_
      refine tq_iload_n 2 2 dX9_putFour_16 rfl rfl ?_
      refine tq_ishr dX9_putFour_17 ?_
      refine tq_i2b dX9_putFour_18 ?_
      refine tq_bast dX9_putFour_19 (fun h3 => ?_)
      refine tq_aload_n 0 0 dX9_putFour_20 rfl rfl ?_
      refine tq_dupR dX9_putFour_21 ?_
      refine tq_getI 1 dX9_putFour_22 cfX9 (by decide) wd_873 rfl rfl (fun x4 => ?_)
      refine tq_iconst (nI 1) dX9_putFour_25 (by decide) ?_
      refine tq_iadd dX9_putFour_26 ?_
      refine tq_putI 1 dX9_putFour_27 cfX9 (by decide) wd_873 rfl rfl (Or.inl rfl) (fun h5 => ?_)
      refine tq_iinc 2 (-8) (L' := [(2, vI (v2 + (-8))), (0, vR v0), (1, vI v1)]) dX9_putFour_30 rfl (by decide) (by decide) rfl ?_
      refine tq_goto 3 dX9_putFour_33 (by decide) ?_
      exact tq_sub [1, 2, 0] rfl (ih v0 v1 (v2 + (-8)) h5)
noncomputable def fX9_putFour_0  (v0 : Option Nat) (v1 : Int32) (h : AH) : Option (Unit × AH) := fX9_putFour_3 FU v0 v1 (nI 24) h
theorem tX9_putFour_0 (G : sr_G) (v0 : Option Nat) (v1 : Int32) (h : AH) : sr_T (X := Unit) G 0 RX9 cX9_putFour 3 none false (sr_M G jV) 0 [(0, vR v0), (1, vI v1)] [] h (fX9_putFour_0  v0 v1 h) := by
  unfold fX9_putFour_0
  refine tq_bipush (nI 24) dX9_putFour_0 (by decide) ?_
  refine tq_istore_n 2 (L' := [(2, vI (nI 24)), (0, vR v0), (1, vI v1)]) dX9_putFour_2 rfl (by decide) rfl ?_
  exact tq_sub [1, 2, 0] rfl (tX9_putFour_3 G FU v0 v1 (nI 24) h)
noncomputable def fX9_putFour (v0 : Option Nat) (v1 : Int32) (h : AH) : Option (Unit × AH) := fX9_putFour_0 v0 v1 h
theorem eX9_putFour (G : sr_G) (v0 : Option Nat) (v1 : Int32) (h : AH) : sr_E G 0 yX9_putFour cX9_putFour 3 none jV [vR v0, vI v1] h (fX9_putFour v0 v1 h) := sr_E.of (own := RX9) (ini := false) (by decide) rfl (fun q => by first | rfl | cases q) rfl (Nat.le_of_ble_eq_true rfl) (tX9_putFour_0 G v0 v1 h)
noncomputable def fX9_feed_0  (v0 : Option Nat) (v1 : Int32) (v2 : Int32) (v3 : Int32) (v4 : Int32) (v5 : Int32) (h : AH) : Option (Int32 × AH) := cGI h 9 451 v0 fun x1 => if (x1 + (nI 20)) ≤ (nI 2000) then (cCV h 9 v0 (fX9_putFour v0 v1 h) fun _ h2 => cCV h2 9 v0 (fX9_putFour v0 v2 h2) fun _ h3 => cCV h3 9 v0 (fX9_putFour v0 v3 h3) fun _ h4 => cCV h4 9 v0 (fX9_putFour v0 v4 h4) fun _ h5 => cCV h5 9 v0 (fX9_putFour v0 v5 h5) fun _ h6 => cGI h6 9 451 v0 fun x7 => some (x7, h6)) else (some ((-1), h))
theorem tX9_feed_0 (G : sr_G) (v0 : Option Nat) (v1 : Int32) (v2 : Int32) (v3 : Int32) (v4 : Int32) (v5 : Int32) (h : AH) : sr_T (X := Int32) G 1 RX9 cX9_feed 6 (some .int) false (sr_M G jI) 0 [(0, vR v0), (1, vI v1), (2, vI v2), (3, vI v3), (4, vI v4), (5, vI v5)] [] h (fX9_feed_0  v0 v1 v2 v3 v4 v5 h) := by
  unfold fX9_feed_0
  refine tq_aload_n 0 0 dX9_feed_0 rfl rfl ?_
  refine tq_getI 1 dX9_feed_1 cfX9 (by decide) wd_873 rfl rfl (fun x1 => ?_)
  refine tq_bipush (nI 20) dX9_feed_4 (by decide) ?_
  refine tq_iadd dX9_feed_6 ?_
  refine tq_sipush (nI 2000) dX9_feed_7 (by decide) ?_
  refine tq_icmp_le 15 dX9_feed_10 (by decide) (fun _ => ?_) (fun _ => ?_)
  · refine tq_aload_n 0 0 dX9_feed_15 rfl rfl ?_
    refine tq_iload_n 1 1 dX9_feed_16 rfl rfl ?_
    refine tq_cVV [vI v1] [] dX9_feed_17 (eX9_putFour G v0 v1 h) (by decide) mbX9_putFour cfX9 rfl wd_1013 wd_1015 wd_45 rfl rfl (Nat.le_of_ble_eq_true rfl) (fun _ h2 => ?_)
    refine tq_aload_n 0 0 dX9_feed_20 rfl rfl ?_
    refine tq_iload_n 2 2 dX9_feed_21 rfl rfl ?_
    refine tq_cVV [vI v2] [] dX9_feed_22 (eX9_putFour G v0 v2 h2) (by decide) mbX9_putFour cfX9 rfl wd_1013 wd_1015 wd_45 rfl rfl (Nat.le_of_ble_eq_true rfl) (fun _ h3 => ?_)
    refine tq_aload_n 0 0 dX9_feed_25 rfl rfl ?_
    refine tq_iload_n 3 3 dX9_feed_26 rfl rfl ?_
    refine tq_cVV [vI v3] [] dX9_feed_27 (eX9_putFour G v0 v3 h3) (by decide) mbX9_putFour cfX9 rfl wd_1013 wd_1015 wd_45 rfl rfl (Nat.le_of_ble_eq_true rfl) (fun _ h4 => ?_)
    refine tq_aload_n 0 0 dX9_feed_30 rfl rfl ?_
    refine tq_iload 4 dX9_feed_31 rfl ?_
    refine tq_cVV [vI v4] [] dX9_feed_33 (eX9_putFour G v0 v4 h4) (by decide) mbX9_putFour cfX9 rfl wd_1013 wd_1015 wd_45 rfl rfl (Nat.le_of_ble_eq_true rfl) (fun _ h5 => ?_)
    refine tq_aload_n 0 0 dX9_feed_36 rfl rfl ?_
    refine tq_iload 5 dX9_feed_37 rfl ?_
    refine tq_cVV [vI v5] [] dX9_feed_39 (eX9_putFour G v0 v5 h5) (by decide) mbX9_putFour cfX9 rfl wd_1013 wd_1015 wd_45 rfl rfl (Nat.le_of_ble_eq_true rfl) (fun _ h6 => ?_)
    refine tq_aload_n 0 0 dX9_feed_42 rfl rfl ?_
    refine tq_getI 1 dX9_feed_43 cfX9 (by decide) wd_873 rfl rfl (fun x7 => ?_)
    exact tq_iret rfl dX9_feed_46
  · refine tq_iconst (-1) dX9_feed_13 (by decide) ?_
    exact tq_iret rfl dX9_feed_14
noncomputable def fX9_feed (v0 : Option Nat) (v1 : Int32) (v2 : Int32) (v3 : Int32) (v4 : Int32) (v5 : Int32) (h : AH) : Option (Int32 × AH) := fX9_feed_0 v0 v1 v2 v3 v4 v5 h
theorem eX9_feed (G : sr_G) (v0 : Option Nat) (v1 : Int32) (v2 : Int32) (v3 : Int32) (v4 : Int32) (v5 : Int32) (h : AH) : sr_E G 1 yX9_feed cX9_feed 6 (some .int) jI [vR v0, vI v1, vI v2, vI v3, vI v4, vI v5] h (fX9_feed v0 v1 v2 v3 v4 v5 h) := sr_E.of (own := RX9) (ini := false) (by decide) rfl (fun q => by first | rfl | cases q) rfl (Nat.le_of_ble_eq_true rfl) (tX9_feed_0 G v0 v1 v2 v3 v4 v5 h)
noncomputable def fX9_end_12   (h : AH) : Option (Int32 × AH) := some ((-1), h)
theorem tX9_end_12 (G : sr_G)  (h : AH) : sr_T (X := Int32) G 0 RX9 cX9_end 2 (some .int) false (sr_M G jI) 12 [] [] h (fX9_end_12  h) := by
  unfold fX9_end_12
  refine tq_iconst (-1) dX9_end_12 (by decide) ?_
  exact tq_iret rfl dX9_end_13
noncomputable def fX9_end_0  (v0 : Option Nat) (v1 : Int32) (h : AH) : Option (Int32 × AH) := if v1 < 0 then (fX9_end_12 h) else (cGI h 9 451 v0 fun x1 => if v1 ≤ x1 then (cPI h 9 451 v0 v1 fun h2 => some (v1, h2)) else (fX9_end_12 h))
theorem tX9_end_0 (G : sr_G) (v0 : Option Nat) (v1 : Int32) (h : AH) : sr_T (X := Int32) G 0 RX9 cX9_end 2 (some .int) false (sr_M G jI) 0 [(0, vR v0), (1, vI v1)] [] h (fX9_end_0  v0 v1 h) := by
  unfold fX9_end_0
  refine tq_iload_n 1 1 dX9_end_0 rfl rfl ?_
  refine tq_if_lt 12 dX9_end_1 (by decide) (fun _ => ?_) (fun _ => ?_)
  · exact tq_sub [] rfl (tX9_end_12 G h)
  · refine tq_iload_n 1 1 dX9_end_4 rfl rfl ?_
    refine tq_aload_n 0 0 dX9_end_5 rfl rfl ?_
    refine tq_getI 1 dX9_end_6 cfX9 (by decide) wd_873 rfl rfl (fun x1 => ?_)
    refine tq_icmp_le 14 dX9_end_9 (by decide) (fun _ => ?_) (fun _ => ?_)
    · refine tq_aload_n 0 0 dX9_end_14 rfl rfl ?_
      refine tq_iload_n 1 1 dX9_end_15 rfl rfl ?_
      refine tq_putI 1 dX9_end_16 cfX9 (by decide) wd_873 rfl rfl (Or.inl rfl) (fun h2 => ?_)
      refine tq_iload_n 1 1 dX9_end_19 rfl rfl ?_
      exact tq_iret rfl dX9_end_20
    · exact tq_sub [] rfl (tX9_end_12 G h)
noncomputable def fX9_end (v0 : Option Nat) (v1 : Int32) (h : AH) : Option (Int32 × AH) := fX9_end_0 v0 v1 h
theorem eX9_end (G : sr_G) (v0 : Option Nat) (v1 : Int32) (h : AH) : sr_E G 0 yX9_end cX9_end 2 (some .int) jI [vR v0, vI v1] h (fX9_end v0 v1 h) := sr_E.of (own := RX9) (ini := false) (by decide) rfl (fun q => by first | rfl | cases q) rfl (Nat.le_of_ble_eq_true rfl) (tX9_end_0 G v0 v1 h)

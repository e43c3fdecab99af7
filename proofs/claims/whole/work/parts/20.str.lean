theorem wd_79 : Cond.initialized RJ0 ∈ sr_tbl := sr_w 79 (by decide +kernel) (by decide +kernel)
theorem wd_80 : Cond.initialized RJ1 ∈ sr_tbl := sr_w 80 (by decide +kernel) (by decide +kernel)
theorem wd_81 : Cond.initialized RJ3 ∈ sr_tbl := sr_w 81 (by decide +kernel) (by decide +kernel)
theorem wd_370 : Cond.instanceMethod yJ0_length_8abf5 ∈ sr_tbl := sr_w 370 (by decide +kernel) (by decide +kernel)
theorem wd_371 : Cond.selects RJ0 yJ0_length_8abf5 yJ0_length_8abf5 ∈ sr_tbl := sr_w 371 (by decide +kernel) (by decide +kernel)
theorem wd_372 : Cond.code yJ0_length_8abf5 cJ0_length_8abf5 1 (some .int) ∈ sr_tbl := sr_w 372 (by decide +kernel) (by decide +kernel)
theorem wd_373 : Cond.methodLink RJ0 335 yJ0_coder_7d493 ∈ sr_tbl := sr_w 373 (by decide +kernel) (by decide +kernel)
theorem wd_374 : Cond.instanceMethod yJ0_coder_7d493 ∈ sr_tbl := sr_w 374 (by decide +kernel) (by decide +kernel)
theorem wd_375 : Cond.selects RJ0 yJ0_coder_7d493 yJ0_coder_7d493 ∈ sr_tbl := sr_w 375 (by decide +kernel) (by decide +kernel)
theorem wd_376 : Cond.code yJ0_coder_7d493 cJ0_coder_7d493 1 (some .byte) ∈ sr_tbl := sr_w 376 (by decide +kernel) (by decide +kernel)
theorem wd_377 : Cond.fieldLink RJ0 38 "java/lang/String" "COMPACT_STRINGS" "Z" ∈ sr_tbl := sr_w 377 (by decide +kernel) (by decide +kernel)
theorem wd_380 : Cond.instanceMethod yJ0_charAt_5068e ∈ sr_tbl := sr_w 380 (by decide +kernel) (by decide +kernel)
theorem wd_381 : Cond.selects RJ0 yJ0_charAt_5068e yJ0_charAt_5068e ∈ sr_tbl := sr_w 381 (by decide +kernel) (by decide +kernel)
theorem wd_382 : Cond.code yJ0_charAt_5068e cJ0_charAt_5068e 2 (some .char) ∈ sr_tbl := sr_w 382 (by decide +kernel) (by decide +kernel)
theorem wd_383 : Cond.methodLink RJ0 492 yJ0_isLatin1_aae02 ∈ sr_tbl := sr_w 383 (by decide +kernel) (by decide +kernel)
theorem wd_384 : Cond.instanceMethod yJ0_isLatin1_aae02 ∈ sr_tbl := sr_w 384 (by decide +kernel) (by decide +kernel)
theorem wd_385 : Cond.selects RJ0 yJ0_isLatin1_aae02 yJ0_isLatin1_aae02 ∈ sr_tbl := sr_w 385 (by decide +kernel) (by decide +kernel)
theorem wd_386 : Cond.code yJ0_isLatin1_aae02 cJ0_isLatin1_aae02 1 (some .boolean) ∈ sr_tbl := sr_w 386 (by decide +kernel) (by decide +kernel)
theorem wd_387 : Cond.methodLink RJ0 495 yJ1_charAt_3b067 ∈ sr_tbl := sr_w 387 (by decide +kernel) (by decide +kernel)
theorem wd_388 : Cond.static yJ1_charAt_3b067 ∈ sr_tbl := sr_w 388 (by decide +kernel) (by decide +kernel)
theorem wd_389 : Cond.code yJ1_charAt_3b067 cJ1_charAt_3b067 2 (some .char) ∈ sr_tbl := sr_w 389 (by decide +kernel) (by decide +kernel)
theorem wd_390 : Cond.methodLink RJ1 9 yJ0_checkIndex_df160 ∈ sr_tbl := sr_w 390 (by decide +kernel) (by decide +kernel)
theorem wd_391 : Cond.static yJ0_checkIndex_df160 ∈ sr_tbl := sr_w 391 (by decide +kernel) (by decide +kernel)
theorem wd_392 : Cond.code yJ0_checkIndex_df160 cJ0_checkIndex_df160 2 none ∈ sr_tbl := sr_w 392 (by decide +kernel) (by decide +kernel)
theorem wd_393 : Cond.fieldLink RJ0 1053 "jdk/internal/util/Preconditions" "SIOOBE_FORMATTER" "Ljava/util/function/BiFunction;" ∈ sr_tbl := sr_w 393 (by decide +kernel) (by decide +kernel)
theorem wd_395 : Cond.methodLink RJ0 1059 yJ3_checkIndex_8e157 ∈ sr_tbl := sr_w 395 (by decide +kernel) (by decide +kernel)
theorem wd_396 : Cond.static yJ3_checkIndex_8e157 ∈ sr_tbl := sr_w 396 (by decide +kernel) (by decide +kernel)
theorem wd_397 : Cond.code yJ3_checkIndex_8e157 cJ3_checkIndex_8e157 3 (some .int) ∈ sr_tbl := sr_w 397 (by decide +kernel) (by decide +kernel)
theorem wd_1208 : Cond.fieldLink RJ0 9 "java/lang/String" "value" "[B" ∈ sr_tbl := sr_w 1208 (by decide +kernel) (by decide +kernel)
theorem wd_1209 : Cond.fieldLink RJ0 15 "java/lang/String" "coder" "B" ∈ sr_tbl := sr_w 1209 (by decide +kernel) (by decide +kernel)
theorem mbJ0_length_8abf5 : sr_mb yJ0_length_8abf5 cJ0_length_8abf5 1 (some .int) 0 := ⟨wd_79, wd_372, by decide +kernel, by decide⟩
theorem mbJ0_charAt_5068e : sr_mb yJ0_charAt_5068e cJ0_charAt_5068e 2 (some .char) 1 := ⟨wd_79, wd_382, by decide +kernel, by decide⟩
theorem mbJ0_coder_7d493 : sr_mb yJ0_coder_7d493 cJ0_coder_7d493 1 (some .byte) 0 := ⟨wd_79, wd_376, by decide +kernel, by decide⟩
theorem mbJ0_isLatin1_aae02 : sr_mb yJ0_isLatin1_aae02 cJ0_isLatin1_aae02 1 (some .boolean) 0 := ⟨wd_79, wd_386, by decide +kernel, by decide⟩
theorem mbJ0_checkIndex_df160 : sr_mb yJ0_checkIndex_df160 cJ0_checkIndex_df160 2 none 2 := ⟨wd_79, wd_392, by decide +kernel, by decide⟩
theorem mbJ1_charAt_3b067 : sr_mb yJ1_charAt_3b067 cJ1_charAt_3b067 2 (some .char) 2 := ⟨wd_80, wd_389, by decide +kernel, by decide⟩
theorem mbJ3_checkIndex_8e157 : sr_mb yJ3_checkIndex_8e157 cJ3_checkIndex_8e157 3 (some .int) 3 := ⟨wd_81, wd_397, by decide +kernel, by decide⟩
theorem dJ0_length_8abf5_0 : decode cJ0_length_8abf5 0 = .ok (.aload_n 0, 1) := by decide +kernel
theorem dJ0_length_8abf5_1 : decode cJ0_length_8abf5 1 = .ok (.getfield 9, 3) := by decide +kernel
theorem dJ0_length_8abf5_4 : decode cJ0_length_8abf5 4 = .ok (.arraylength, 1) := by decide +kernel
theorem dJ0_length_8abf5_5 : decode cJ0_length_8abf5 5 = .ok (.aload_n 0, 1) := by decide +kernel
theorem dJ0_length_8abf5_6 : decode cJ0_length_8abf5 6 = .ok (.invokevirtual 335, 3) := by decide +kernel
theorem dJ0_length_8abf5_9 : decode cJ0_length_8abf5 9 = .ok (.ishr, 1) := by decide +kernel
theorem dJ0_length_8abf5_10 : decode cJ0_length_8abf5 10 = .ok (.ireturn, 1) := by decide +kernel
theorem dJ0_charAt_5068e_0 : decode cJ0_charAt_5068e 0 = .ok (.aload_n 0, 1) := by decide +kernel
theorem dJ0_charAt_5068e_1 : decode cJ0_charAt_5068e 1 = .ok (.invokevirtual 492, 3) := by decide +kernel
theorem dJ0_charAt_5068e_4 : decode cJ0_charAt_5068e 4 = .ok (.ifCond .eq 12, 3) := by decide +kernel
theorem dJ0_charAt_5068e_7 : decode cJ0_charAt_5068e 7 = .ok (.aload_n 0, 1) := by decide +kernel
theorem dJ0_charAt_5068e_8 : decode cJ0_charAt_5068e 8 = .ok (.getfield 9, 3) := by decide +kernel
theorem dJ0_charAt_5068e_11 : decode cJ0_charAt_5068e 11 = .ok (.iload_n 1, 1) := by decide +kernel
theorem dJ0_charAt_5068e_12 : decode cJ0_charAt_5068e 12 = .ok (.invokestatic 495, 3) := by decide +kernel
theorem dJ0_charAt_5068e_15 : decode cJ0_charAt_5068e 15 = .ok (.ireturn, 1) := by decide +kernel
theorem dJ0_charAt_5068e_16 : decode cJ0_charAt_5068e 16 = .ok (.aload_n 0, 1) := by decide +kernel
theorem dJ0_charAt_5068e_17 : decode cJ0_charAt_5068e 17 = .ok (.getfield 9, 3) := by decide +kernel
theorem dJ0_charAt_5068e_20 : decode cJ0_charAt_5068e 20 = .ok (.iload_n 1, 1) := by decide +kernel
theorem dJ0_charAt_5068e_21 : decode cJ0_charAt_5068e 21 = .ok (.invokestatic 498, 3) := by decide +kernel
theorem dJ0_charAt_5068e_24 : decode cJ0_charAt_5068e 24 = .ok (.ireturn, 1) := by decide +kernel
theorem dJ0_coder_7d493_0 : decode cJ0_coder_7d493 0 = .ok (.getstatic 38, 3) := by decide +kernel
theorem dJ0_coder_7d493_3 : decode cJ0_coder_7d493 3 = .ok (.ifCond .eq 10, 3) := by decide +kernel
theorem dJ0_coder_7d493_6 : decode cJ0_coder_7d493 6 = .ok (.aload_n 0, 1) := by decide +kernel
theorem dJ0_coder_7d493_7 : decode cJ0_coder_7d493 7 = .ok (.getfield 15, 3) := by decide +kernel
theorem dJ0_coder_7d493_10 : decode cJ0_coder_7d493 10 = .ok (.goto 4, 3) := by decide +kernel
theorem dJ0_coder_7d493_13 : decode cJ0_coder_7d493 13 = .ok (.iconst 1, 1) := by decide +kernel
theorem dJ0_coder_7d493_14 : decode cJ0_coder_7d493 14 = .ok (.ireturn, 1) := by decide +kernel
theorem dJ0_isLatin1_aae02_0 : decode cJ0_isLatin1_aae02 0 = .ok (.getstatic 38, 3) := by decide +kernel
theorem dJ0_isLatin1_aae02_3 : decode cJ0_isLatin1_aae02 3 = .ok (.ifCond .eq 14, 3) := by decide +kernel
theorem dJ0_isLatin1_aae02_6 : decode cJ0_isLatin1_aae02 6 = .ok (.aload_n 0, 1) := by decide +kernel
theorem dJ0_isLatin1_aae02_7 : decode cJ0_isLatin1_aae02 7 = .ok (.getfield 15, 3) := by decide +kernel
theorem dJ0_isLatin1_aae02_10 : decode cJ0_isLatin1_aae02 10 = .ok (.ifCond .ne 7, 3) := by decide +kernel
theorem dJ0_isLatin1_aae02_13 : decode cJ0_isLatin1_aae02 13 = .ok (.iconst 1, 1) := by decide +kernel
theorem dJ0_isLatin1_aae02_14 : decode cJ0_isLatin1_aae02 14 = .ok (.goto 4, 3) := by decide +kernel
theorem dJ0_isLatin1_aae02_17 : decode cJ0_isLatin1_aae02 17 = .ok (.iconst 0, 1) := by decide +kernel
theorem dJ0_isLatin1_aae02_18 : decode cJ0_isLatin1_aae02 18 = .ok (.ireturn, 1) := by decide +kernel
theorem dJ0_checkIndex_df160_0 : decode cJ0_checkIndex_df160 0 = .ok (.iload_n 0, 1) := by decide +kernel
theorem dJ0_checkIndex_df160_1 : decode cJ0_checkIndex_df160 1 = .ok (.iload_n 1, 1) := by decide +kernel
theorem dJ0_checkIndex_df160_2 : decode cJ0_checkIndex_df160 2 = .ok (.getstatic 1053, 3) := by decide +kernel
theorem dJ0_checkIndex_df160_5 : decode cJ0_checkIndex_df160 5 = .ok (.invokestatic 1059, 3) := by decide +kernel
theorem dJ0_checkIndex_df160_8 : decode cJ0_checkIndex_df160 8 = .ok (.pop, 1) := by decide +kernel
theorem dJ0_checkIndex_df160_9 : decode cJ0_checkIndex_df160 9 = .ok (.return_, 1) := by decide +kernel
theorem dJ1_charAt_3b067_0 : decode cJ1_charAt_3b067 0 = .ok (.iload_n 1, 1) := by decide +kernel
theorem dJ1_charAt_3b067_1 : decode cJ1_charAt_3b067 1 = .ok (.aload_n 0, 1) := by decide +kernel
theorem dJ1_charAt_3b067_2 : decode cJ1_charAt_3b067 2 = .ok (.arraylength, 1) := by decide +kernel
theorem dJ1_charAt_3b067_3 : decode cJ1_charAt_3b067 3 = .ok (.invokestatic 9, 3) := by decide +kernel
theorem dJ1_charAt_3b067_6 : decode cJ1_charAt_3b067 6 = .ok (.aload_n 0, 1) := by decide +kernel
theorem dJ1_charAt_3b067_7 : decode cJ1_charAt_3b067 7 = .ok (.iload_n 1, 1) := by decide +kernel
theorem dJ1_charAt_3b067_8 : decode cJ1_charAt_3b067 8 = .ok (.baload, 1) := by decide +kernel
theorem dJ1_charAt_3b067_9 : decode cJ1_charAt_3b067 9 = .ok (.sipush 255, 3) := by decide +kernel
theorem dJ1_charAt_3b067_12 : decode cJ1_charAt_3b067 12 = .ok (.iand, 1) := by decide +kernel
theorem dJ1_charAt_3b067_13 : decode cJ1_charAt_3b067 13 = .ok (.i2c, 1) := by decide +kernel
theorem dJ1_charAt_3b067_14 : decode cJ1_charAt_3b067 14 = .ok (.ireturn, 1) := by decide +kernel
theorem dJ3_checkIndex_8e157_0 : decode cJ3_checkIndex_8e157 0 = .ok (.iload_n 0, 1) := by decide +kernel
theorem dJ3_checkIndex_8e157_1 : decode cJ3_checkIndex_8e157 1 = .ok (.ifCond .lt 8, 3) := by decide +kernel
theorem dJ3_checkIndex_8e157_4 : decode cJ3_checkIndex_8e157 4 = .ok (.iload_n 0, 1) := by decide +kernel
theorem dJ3_checkIndex_8e157_5 : decode cJ3_checkIndex_8e157 5 = .ok (.iload_n 1, 1) := by decide +kernel
theorem dJ3_checkIndex_8e157_6 : decode cJ3_checkIndex_8e157 6 = .ok (.if_icmp .lt 10, 3) := by decide +kernel
theorem dJ3_checkIndex_8e157_9 : decode cJ3_checkIndex_8e157 9 = .ok (.aload_n 2, 1) := by decide +kernel
theorem dJ3_checkIndex_8e157_10 : decode cJ3_checkIndex_8e157 10 = .ok (.iload_n 0, 1) := by decide +kernel
theorem dJ3_checkIndex_8e157_11 : decode cJ3_checkIndex_8e157 11 = .ok (.iload_n 1, 1) := by decide +kernel
theorem dJ3_checkIndex_8e157_12 : decode cJ3_checkIndex_8e157 12 = .ok (.invokestatic 95, 3) := by decide +kernel
theorem dJ3_checkIndex_8e157_15 : decode cJ3_checkIndex_8e157 15 = .ok (.athrow, 1) := by decide +kernel
theorem dJ3_checkIndex_8e157_16 : decode cJ3_checkIndex_8e157 16 = .ok (.iload_n 0, 1) := by decide +kernel
theorem dJ3_checkIndex_8e157_17 : decode cJ3_checkIndex_8e157 17 = .ok (.ireturn, 1) := by decide +kernel

def sr_ch (w k : Nat) : Int32 := (sr_txt.getD w []).getD k 0
/-- length() and charAt() of a String constant -/
def cSN {Y : Type} (h : AH) (w : Nat) (K : Int32 → AH → Option Y) : Option Y := if w < 8 then K (nI (sr_len.getD w 0)) h else none
def cSC {Y : Type} (h : AH) (w : Nat) (i : Int32) (K : Int32 → AH → Option Y) : Option Y := if w < 8 ∧ 0 ≤ i.toInt ∧ i.toInt < (sr_len.getD w 0 : Nat) then K (sr_ch w i.toNatClampNeg) h else none
theorem sr_txt_ok : ∀ w, w < 8 → ∀ k, k < sr_len.getD w 0 → ((((sr_txt.getD w []).getD k 0) &&& 255).toUInt32 % 65536).toInt32 = (sr_txt.getD w []).getD k 0 ∧ narrow .char (.int ((sr_txt.getD w []).getD k 0)) = .int ((sr_txt.getD w []).getD k 0) := by decide +kernel
theorem sr_len_ok : ∀ w, w < 8 → sr_len.getD w 0 < 100 := by decide +kernel
section STRS
variable {G : sr_G} {d : Nat} {own : String} {cc : ByteArray} {nL : Nat} {ret : Option FieldType} {ini : Bool} {X : Type} {inj : sr_Z X} {pc : Nat} {L : List (Nat × sr_V)} {st : List sr_V} {h : AH} {F : Option (X × AH)}
theorem tq_ldcw {index : Nat} (v : Int32) (hd : decode cc pc = .ok (.ldc_w index, 3)) (hw : Cond.constant own index v ∈ sr_tbl) (k : sr_T G d own cc nL ret ini inj (pc + 3) L (vI v :: st) h F) : sr_T G d own cc nL ret ini inj pc L st h F :=
  sr_T.step (fun _ _ _ _ _ _ _ _ _ _ _ _ _ ls _ C h9 kk => lv_ldcw C.1 C.2.1 C.2.2.2.2.1 (C.2.2.2.2.2.1 _ hw) hd (kk ls h9)) k
theorem tq_i2c {x v : Int32} (hd : decode cc pc = .ok (.i2c, 1)) (hv : (x.toUInt32 % 65536).toInt32 = v) (k : sr_T G d own cc nL ret ini inj (pc + 1) L (vI v :: st) h F) : sr_T G d own cc nL ret ini inj pc L (vI x :: st) h F :=
  sr_T.step (fun _ _ _ _ _ _ _ _ _ _ _ _ _ ls _ C h9 kk => lv_i2c C.1 C.2.1 hd hv (kk ls h9)) k
theorem tq_xret {v : Int32} {ty : FieldType} (hret : ret = some ty) (hn : narrow ty (.int v) = .int v) (hd : decode cc pc = .ok (.ireturn, 1)) : sr_T G d own cc nL ret ini (sr_M G jI) pc L [vI v] h (some (v, h)) := by
  intro x h' hF
  cases hF
  refine ⟨⟨Nat.le_refl _, Nat.le_refl _⟩, ?_⟩
  intro p e R s m args below meth c n0 s0 H locs ls C h1 h2 h3 h4 h5 h6 h7 h8 h9
  have hlocks : meth.locks = false := C.2.2.2.2.2.2.1
  exact W.zret (v := v) (ty := ty) C.1 C.2.1 (by rw [C.2.2.1, hret]) hn (fun t ht hW => ⟨rfl, by rw [ht]; exact h7, h8.F ht⟩) h8.2.2 hd hlocks
theorem tq_getsZ {index : Nat} (hd : decode cc pc = .ok (.getstatic index, 3)) (hw : Cond.fieldLink own index "java/lang/String" "COMPACT_STRINGS" "Z" ∈ sr_tbl) (kk : sr_T G d own cc nL ret ini inj (pc + 3) L (vI 1 :: st) h F) : sr_T G d own cc nL ret ini inj pc L st h F := by
  refine sr_T.read (fun p e R s m args below meth c' H locs cells slots ls Q C' hR hS _ _ h9 kk => ?_) kk
  obtain ⟨hx, hb, -, -, hown, hts, -, hK, -⟩ := C'
  exact va_gets hx hb hK.2.2.2.1.2.2.1 hS hown (hts _ hw) (fun _ q => q) hd kk
theorem tq_getsF {index : Nat} (hd : decode cc pc = .ok (.getstatic index, 3)) (hw : Cond.fieldLink own index "jdk/internal/util/Preconditions" "SIOOBE_FORMATTER" "Ljava/util/function/BiFunction;" ∈ sr_tbl) (kk : ∀ r, sr_T G d own cc nL ret ini inj (pc + 3) L (vR r :: st) h F) : sr_T G d own cc nL ret ini inj pc L st h F := by
  intro x h' hF
  refine ⟨(kk none x h' hF).1, ?_⟩
  intro p e R s m args below meth c n0 s0 H locs ls C h1 h2 h3 h4 h5 h6 h7 h8 h9
  obtain ⟨hx, hb, -, -, hown, hts, -, hK, -⟩ := id C
  rcases hK.2.2.2.1.2.2.2 with hz | ⟨t, hz⟩
  · exact va_gets hx hb hz h8 hown (hts _ hw) (fun _ q => q) hd ((kk none x h' hF).2 p e R s m args below meth c n0 s0 H locs ls C h1 h2 h3 h4 h5 h6 h7 h8 h9)
  · exact va_gets hx hb hz h8 hown (hts _ hw) (fun _ q => q) hd ((kk (some t) x h' hF).2 p e R s m args below meth c n0 s0 H locs ls C h1 h2 h3 h4 h5 h6 h7 h8 h9)
theorem tq_getSV {index w : Nat} (hi : w < 8) (hd : decode cc pc = .ok (.getfield index, 3)) (hw : Cond.fieldLink own index "java/lang/String" "value" "[B" ∈ sr_tbl) (kk : sr_T G d own cc nL ret ini inj (pc + 3) L (vR (some (G.2.2.2.2.1 w)) :: st) h F) : sr_T G d own cc nL ret ini inj pc L (vR (some (G.2.2.2.1 w)) :: st) h F := by
  refine sr_T.read (fun p e R s m args below meth c' H locs cells slots ls Q C' hR hS _ _ h9 kk => ?_) kk
  obtain ⟨hx, hb, -, -, hown, hts, -, hK, -⟩ := C'
  exact vk_getf hx hb (hK.2.2.2.1.1.1 w hi).2.2.1 hS hown (hts _ hw) (fun _ q => q) hd kk
theorem tq_getSC {index w : Nat} (hi : w < 8) (hd : decode cc pc = .ok (.getfield index, 3)) (hw : Cond.fieldLink own index "java/lang/String" "coder" "B" ∈ sr_tbl) (kk : sr_T G d own cc nL ret ini inj (pc + 3) L (vI 0 :: st) h F) : sr_T G d own cc nL ret ini inj pc L (vR (some (G.2.2.2.1 w)) :: st) h F := by
  refine sr_T.read (fun p e R s m args below meth c' H locs cells slots ls Q C' hR hS _ _ h9 kk => ?_) kk
  obtain ⟨hx, hb, -, -, hown, hts, -, hK, -⟩ := C'
  exact vk_getf hx hb (hK.2.2.2.1.1.1 w hi).2.1 hS hown (hts _ hw) (fun _ q => q) hd kk
theorem tq_lenS {w : Nat} (hi : w < 8) (hd : decode cc pc = .ok (.arraylength, 1)) (kk : sr_T G d own cc nL ret ini inj (pc + 1) L (vI (nI (sr_len.getD w 0)) :: st) h F) : sr_T G d own cc nL ret ini inj pc L (vR (some (G.2.2.2.2.1 w)) :: st) h F := by
  refine sr_T.read (fun p e R s m args below meth c' H locs cells slots ls Q C' hR hS _ _ h9 kk => ?_) kk
  obtain ⟨hx, hb, -, -, hown, hts, -, hK, -⟩ := C'
  obtain ⟨cell, t1, t2, t3, t4, t5, t6, t7⟩ := (hK.2.2.2.1.1.1 w hi).2.2.2
  exact W.alen (n := nI (sr_len.getD w 0)) hx hb (by rw [hS.2.1 _ (Array.getElem?_eq_some_iff.mp t1).1 t7]; exact t1) t2 t5 rfl rfl hd kk
theorem tq_bldS {w : Nat} {i : Int32} (hi : w < 8) (h1 : 0 ≤ i.toInt) (h2 : i.toInt < (sr_len.getD w 0 : Nat)) (hd : decode cc pc = .ok (.baload, 1)) (kk : sr_T G d own cc nL ret ini inj (pc + 1) L (vI ((sr_txt.getD w []).getD i.toNatClampNeg 0) :: st) h F) : sr_T G d own cc nL ret ini inj pc L (vI i :: vR (some (G.2.2.2.2.1 w)) :: st) h F := by
  refine sr_T.read (fun p e R s m args below meth c' H locs cells slots ls Q C' hR hS _ _ h9 kk => ?_) kk
  obtain ⟨hx, hb, -, -, hown, hts, -, hK, -⟩ := C'
  exact va_tb (v := .int ((sr_txt.getD w []).getD i.toNatClampNeg 0)) hx hb (hK.2.2.2.1.1.1 w hi).2.2.2 hS (sr_inb h1 h2) rfl hd kk
/-- a call on a String constant -/
theorem tq_callStr {Y : Type} {injY : Y → Option sr_V} {w : Nat} {x : Option (Y × AH)} {K : Y → AH → Option (X × AH)} {d' nLy n index : Nat} {y : MethodName} {cy : ByteArray} {rety : Option FieldType} {st' : List sr_V} (As rest : List sr_V) (hw8 : w < 8)
    (hd : decode cc pc = .ok (.invokevirtual index, 3)) (hE : sr_E G d' y cy nLy rety injY (vR (some (G.2.2.2.1 w)) :: As) h x) (hdd : d' + 1 ≤ d) (hm : sr_mb y cy nLy rety n) (hC : y.cls = "java/lang/String") (hw : Cond.methodLink own index y ∈ sr_tbl) (hi : Cond.instanceMethod y ∈ sr_tbl) (hsel : Cond.selects "java/lang/String" y y ∈ sr_tbl) (hn : As.length = n) (hst : st' = As.reverse ++ vR (some (G.2.2.2.1 w)) :: rest) (hrw : sr_rw rest ≤ 8)
    (kk : ∀ (y0 : Y) (h1 : AH), sr_T G d own cc nL ret ini inj (pc + 3) L ((injY y0).toList ++ rest) h1 (K y0 h1)) : sr_T G d own cc nL ret ini inj pc L st' h (cCL x K) := by
  subst hst
  refine sr_T.call (rest := rest) hE hdd hm (fun y0 h1 p e R s m args below meth c' H locs cells slots ls C' hR hS h9 hM hroom hfit hpc => ?_) kk
  obtain ⟨hx, hb, -, hml, hown, hts, -, hK, -⟩ := C'
  have hgw : GoodIn sr_tbl (wsV own index "java/lang/String" y (Cond.code y cy nLy rety :: sr_tbl)) := by
    intro w hw'
    unfold wsV at hw'
    rcases List.mem_append.mp hw' with q | q
    · simp only [List.mem_cons, List.not_mem_nil, or_false] at q
      rcases q with rfl | rfl | rfl | rfl
      · exact sr_good _ hw
      · exact sr_good _ hi
      · exact sr_good _ hsel
      · exact sr_good _ (hC ▸ hm.1)
    · exact sr_gw hm.2.1 w q
  exact va_runV (As := As.map sr_em) (rest := rest.map sr_em) (b := G.2.2.2.1 w) (Ts := sr_tbl) ⟨hx, hb, hml, hown, hts⟩ hM (cwV n hts hgw rfl rfl rfl ⟨hC, hm.2.2.1⟩ hroom) ⟨sr_blind _ _, vk_recv hK.2.2.2.1.1 hw8 hS, hpc⟩ rfl (by rw [List.length_map]; exact hn) h9.1 (by simp [F0, sr_em, va_rf]) (lv_room (by rw [sr_rw_eq]; exact hrw)) hd hfit
end STRS


theorem eJ_coder (G : sr_G) (w : Nat) (hi : w < 8) (h : AH) : sr_E G 0 yJ0_coder_7d493 cJ0_coder_7d493 1 (some .byte) jI [vR (some (G.2.2.2.1 w))] h (some ((0 : Int32), h)) := by
  refine sr_E.of (own := RJ0) (ini := false) (by decide) rfl (fun q => by cases q) rfl (Nat.le_of_ble_eq_true rfl) ?_
  refine tq_getsZ dJ0_coder_7d493_0 wd_377 ?_
  refine tq_F (F' := if (1 : Int32) = 0 then none else some ((0 : Int32), h)) (by rw [if_neg (by decide)]) ?_
  refine tq_if_eq 13 dJ0_coder_7d493_3 (by decide) (fun q => absurd q (by decide)) (fun _ => ?_)
  refine tq_aload_n 0 0 dJ0_coder_7d493_6 rfl rfl ?_
  refine tq_getSC hi dJ0_coder_7d493_7 wd_1209 ?_
  refine tq_goto 14 dJ0_coder_7d493_10 (by decide) ?_
  exact tq_xret rfl rfl dJ0_coder_7d493_14
theorem eJ_isLatin1 (G : sr_G) (w : Nat) (hi : w < 8) (h : AH) : sr_E G 0 yJ0_isLatin1_aae02 cJ0_isLatin1_aae02 1 (some .boolean) jI [vR (some (G.2.2.2.1 w))] h (some ((1 : Int32), h)) := by
  refine sr_E.of (own := RJ0) (ini := false) (by decide) rfl (fun q => by cases q) rfl (Nat.le_of_ble_eq_true rfl) ?_
  refine tq_getsZ dJ0_isLatin1_aae02_0 wd_377 ?_
  refine tq_F (F' := if (1 : Int32) = 0 then none else some ((1 : Int32), h)) (by rw [if_neg (by decide)]) ?_
  refine tq_if_eq 17 dJ0_isLatin1_aae02_3 (by decide) (fun q => absurd q (by decide)) (fun _ => ?_)
  refine tq_aload_n 0 0 dJ0_isLatin1_aae02_6 rfl rfl ?_
  refine tq_getSC hi dJ0_isLatin1_aae02_7 wd_1209 ?_
  refine tq_F (F' := if (0 : Int32) = 0 then some ((1 : Int32), h) else none) (by rw [if_pos rfl]) ?_
  refine tq_if_ne 17 dJ0_isLatin1_aae02_10 (by decide) (fun q => absurd rfl q) (fun _ => ?_)
  refine tq_iconst 1 dJ0_isLatin1_aae02_13 (by decide) ?_
  refine tq_goto 18 dJ0_isLatin1_aae02_14 (by decide) ?_
  exact tq_xret rfl rfl dJ0_isLatin1_aae02_18
theorem eJ_length (G : sr_G) (w : Nat) (hi : w < 8) (h : AH) : sr_E G 1 yJ0_length_8abf5 cJ0_length_8abf5 1 (some .int) jI [vR (some (G.2.2.2.1 w))] h (some (nI (sr_len.getD w 0), h)) := by
  refine sr_E.of (own := RJ0) (ini := false) (by decide) rfl (fun q => by cases q) rfl (Nat.le_of_ble_eq_true rfl) ?_
  refine tq_aload_n 0 0 dJ0_length_8abf5_0 rfl rfl ?_
  refine tq_getSV hi dJ0_length_8abf5_1 wd_1208 ?_
  refine tq_lenS hi dJ0_length_8abf5_4 ?_
  refine tq_aload_n 0 0 dJ0_length_8abf5_5 rfl rfl ?_
  intro x h' hF
  refine tq_callStr (K := fun (v : Int32) h1 => some (nI (sr_len.getD w 0) >>> (v &&& 31), h1)) [] [vI (nI (sr_len.getD w 0))] hi dJ0_length_8abf5_6 (eJ_coder G w hi h) (by decide) mbJ0_coder_7d493 rfl wd_373 wd_374 wd_375 rfl rfl (Nat.le_of_ble_eq_true rfl) (fun v h1 => ?_) x h' ?_
  · exact tq_ishr dJ0_length_8abf5_9 (tq_iret rfl dJ0_length_8abf5_10)
  · rw [← hF]
    show some (nI (sr_len.getD w 0) >>> ((0 : Int32) &&& 31), h) = _
    have : nI (sr_len.getD w 0) >>> ((0 : Int32) &&& 31) = nI (sr_len.getD w 0) := by
      have h2 := pk_shrN (n := sr_len.getD w 0) (Nat.lt_of_lt_of_le (sr_len_ok w hi) (by decide)) ((0 : Int32) &&& 31) 0 (by decide)
      simpa using h2
    rw [this]
theorem eJ_checkP (G : sr_G) (i n : Int32) (r : Option Nat) (h0 : ¬ i < 0) (h1 : i < n) (h : AH) : sr_E G 0 yJ3_checkIndex_8e157 cJ3_checkIndex_8e157 3 (some .int) jI [vI i, vI n, vR r] h (some (i, h)) := by
  refine sr_E.of (own := RJ3) (ini := false) (by decide) rfl (fun q => by cases q) rfl (Nat.le_of_ble_eq_true rfl) ?_
  refine tq_iload_n 0 0 dJ3_checkIndex_8e157_0 rfl rfl ?_
  refine tq_F (F' := if i < 0 then none else (if i < n then some (i, h) else none)) (by rw [if_neg h0, if_pos h1]) ?_
  refine tq_if_lt 9 dJ3_checkIndex_8e157_1 (by decide) (fun q => absurd q h0) (fun _ => ?_)
  refine tq_iload_n 0 0 dJ3_checkIndex_8e157_4 rfl rfl ?_
  refine tq_iload_n 1 1 dJ3_checkIndex_8e157_5 rfl rfl ?_
  refine tq_icmp_lt 16 dJ3_checkIndex_8e157_6 (by decide) (fun _ => ?_) (fun q => absurd h1 q)
  refine tq_iload_n 0 0 dJ3_checkIndex_8e157_16 rfl rfl ?_
  exact tq_iret rfl dJ3_checkIndex_8e157_17
theorem eJ_checkS (G : sr_G) (i n : Int32) (h0 : ¬ i < 0) (h1 : i < n) (h : AH) : sr_E G 1 yJ0_checkIndex_df160 cJ0_checkIndex_df160 2 none jV [vI i, vI n] h (some ((), h)) := by
  refine sr_E.of (own := RJ0) (ini := false) (by decide) rfl (fun q => by cases q) rfl (Nat.le_of_ble_eq_true rfl) ?_
  refine tq_iload_n 0 0 dJ0_checkIndex_df160_0 rfl rfl ?_
  refine tq_iload_n 1 1 dJ0_checkIndex_df160_1 rfl rfl ?_
  refine tq_getsF dJ0_checkIndex_df160_2 wd_393 (fun r => ?_)
  intro x h' hF
  refine tq_callS (K := fun (v : Int32) h1 => some ((), h1)) [vI i, vI n, vR r] [] dJ0_checkIndex_df160_5 (eJ_checkP G i n r h0 h1 h) (by decide) mbJ3_checkIndex_8e157 wd_395 wd_396 rfl rfl (Nat.le_of_ble_eq_true rfl) (fun v h1 => ?_) x h' hF
  exact tq_popI dJ0_checkIndex_df160_8 (tq_vret rfl dJ0_checkIndex_df160_9)
theorem eJ_charL (G : sr_G) (w : Nat) (i : Int32) (hi : w < 8) (h1 : 0 ≤ i.toInt) (h2 : i.toInt < (sr_len.getD w 0 : Nat)) (h : AH) : sr_E G 2 yJ1_charAt_3b067 cJ1_charAt_3b067 2 (some .char) jI [vR (some (G.2.2.2.2.1 w)), vI i] h (some (sr_ch w i.toNatClampNeg, h)) := by
  have hk : i.toNatClampNeg < sr_len.getD w 0 := sr_ina h1 h2
  have hlt : i < nI (sr_len.getD w 0) := by
    rw [Int32.lt_iff_toInt_lt, nI_toInt (Nat.lt_of_lt_of_le (sr_len_ok w hi) (by decide))]
    exact h2
  refine sr_E.of (own := RJ1) (ini := false) (by decide) rfl (fun q => by cases q) rfl (Nat.le_of_ble_eq_true rfl) ?_
  refine tq_iload_n 1 1 dJ1_charAt_3b067_0 rfl rfl ?_
  refine tq_aload_n 0 0 dJ1_charAt_3b067_1 rfl rfl ?_
  refine tq_lenS hi dJ1_charAt_3b067_2 ?_
  intro x h' hF
  refine tq_callS (K := fun (v : Unit) h1 => some (sr_ch w i.toNatClampNeg, h1)) [vI i, vI (nI (sr_len.getD w 0))] [] dJ1_charAt_3b067_3 (eJ_checkS G i _ (sr_cl0 h1) hlt h) (by decide) mbJ0_checkIndex_df160 wd_390 wd_391 rfl rfl (Nat.le_of_ble_eq_true rfl) (fun v h1' => ?_) x h' hF
  refine tq_aload_n 0 0 dJ1_charAt_3b067_6 rfl rfl ?_
  refine tq_iload_n 1 1 dJ1_charAt_3b067_7 rfl rfl ?_
  refine tq_bldS hi h1 h2 dJ1_charAt_3b067_8 ?_
  refine tq_sipush 255 dJ1_charAt_3b067_9 (by decide) ?_
  refine tq_iand dJ1_charAt_3b067_12 ?_
  refine tq_i2c dJ1_charAt_3b067_13 (sr_txt_ok w hi _ hk).1 ?_
  exact tq_xret rfl (sr_txt_ok w hi _ hk).2 dJ1_charAt_3b067_14
theorem eJ_charAt (G : sr_G) (w : Nat) (i : Int32) (hi : w < 8) (h1 : 0 ≤ i.toInt) (h2 : i.toInt < (sr_len.getD w 0 : Nat)) (h : AH) : sr_E G 3 yJ0_charAt_5068e cJ0_charAt_5068e 2 (some .char) jI [vR (some (G.2.2.2.1 w)), vI i] h (some (sr_ch w i.toNatClampNeg, h)) := by
  have hk : i.toNatClampNeg < sr_len.getD w 0 := sr_ina h1 h2
  refine sr_E.of (own := RJ0) (ini := false) (by decide) rfl (fun q => by cases q) rfl (Nat.le_of_ble_eq_true rfl) ?_
  refine tq_aload_n 0 0 dJ0_charAt_5068e_0 rfl rfl ?_
  intro x h' hF
  refine tq_callStr (K := fun (v : Int32) h1 => if v = 0 then none else cCL (some (sr_ch w i.toNatClampNeg, h1)) (fun v h1 => if narrow .char (.int v) = .int v then some (v, h1) else none)) [] [] hi dJ0_charAt_5068e_1 (eJ_isLatin1 G w hi h) (by decide) mbJ0_isLatin1_aae02 rfl wd_383 wd_384 wd_385 rfl rfl (Nat.le_of_ble_eq_true rfl) (fun v h1' => ?_) x h' ?_
  · refine tq_if_eq 16 dJ0_charAt_5068e_4 (by decide) (fun _ => tq_none) (fun _ => ?_)
    refine tq_aload_n 0 0 dJ0_charAt_5068e_7 rfl rfl ?_
    refine tq_getSV hi dJ0_charAt_5068e_8 wd_1208 ?_
    refine tq_iload_n 1 1 dJ0_charAt_5068e_11 rfl rfl ?_
    refine tq_callS [vR (some (G.2.2.2.2.1 w)), vI i] [] dJ0_charAt_5068e_12 (eJ_charL G w i hi h1 h2 h1') (by decide) mbJ1_charAt_3b067 wd_387 wd_388 rfl rfl (Nat.le_of_ble_eq_true rfl) (fun v2 h2' => ?_)
    by_cases hq : narrow .char (.int v2) = .int v2
    · rw [if_pos hq]
      exact tq_xret rfl hq dJ0_charAt_5068e_15
    · rw [if_neg hq]
      exact tq_none
  · rw [← hF]
    show (if (1 : Int32) = 0 then none else (if narrow .char (.int (sr_ch w i.toNatClampNeg)) = .int (sr_ch w i.toNatClampNeg) then some (sr_ch w i.toNatClampNeg, h) else none)) = _
    rw [if_neg (by decide)]
    exact if_pos (sr_txt_ok w hi _ hk).2
section STRS2
variable {G : sr_G} {d : Nat} {own : String} {cc : ByteArray} {nL : Nat} {ret : Option FieldType} {ini : Bool} {X : Type} {inj : sr_Z X} {pc : Nat} {L : List (Nat × sr_V)} {st : List sr_V} {h : AH}
theorem tq_sN {index w : Nat} {K : Int32 → AH → Option (X × AH)} (hd : decode cc pc = .ok (.invokevirtual index, 3)) (hdd : 2 + 1 ≤ d) (hw : Cond.methodLink own index yJ0_length_8abf5 ∈ sr_tbl) (hrw : sr_rw st ≤ 8) (kk : ∀ v h1, sr_T G d own cc nL ret ini inj (pc + 3) L (vI v :: st) h1 (K v h1)) : sr_T G d own cc nL ret ini inj pc L (vR (some (G.2.2.2.1 w)) :: st) h (cSN h w K) := by
  unfold cSN
  by_cases hi : w < 8
  · rw [if_pos hi]
    exact tq_callStr (x := some (nI (sr_len.getD w 0), h)) [] st hi hd (eJ_length G w hi h) (by omega) mbJ0_length_8abf5 rfl hw wd_370 wd_371 rfl rfl hrw kk
  · rw [if_neg hi]
    exact tq_none
theorem tq_sC {index w : Nat} {i : Int32} {K : Int32 → AH → Option (X × AH)} (hd : decode cc pc = .ok (.invokevirtual index, 3)) (hdd : 4 + 1 ≤ d) (hw : Cond.methodLink own index yJ0_charAt_5068e ∈ sr_tbl) (hrw : sr_rw st ≤ 8) (kk : ∀ v h1, sr_T G d own cc nL ret ini inj (pc + 3) L (vI v :: st) h1 (K v h1)) : sr_T G d own cc nL ret ini inj pc L (vI i :: vR (some (G.2.2.2.1 w)) :: st) h (cSC h w i K) := by
  unfold cSC
  by_cases hi : w < 8 ∧ 0 ≤ i.toInt ∧ i.toInt < (sr_len.getD w 0 : Nat)
  · rw [if_pos hi]
    exact tq_callStr (x := some (sr_ch w i.toNatClampNeg, h)) [vI i] st hi.1 hd (eJ_charAt G w i hi.1 hi.2.1 hi.2.2 h) (by omega) mbJ0_charAt_5068e rfl hw wd_380 wd_381 rfl rfl hrw kk
  · rw [if_neg hi]
    exact tq_none
end STRS2


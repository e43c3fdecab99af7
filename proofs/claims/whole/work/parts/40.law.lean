/-! THE CLAIM OUT OF ONE WALK OF THE LAW'S BODY. Your part is whole_start (and what it stands on); all else here is the same for every law, but numbers. -/
def R_law : String := "SoupReaderLaw"
def lw_P (b : Addr) (xs : List Int32) (args : Array Value) (s : State) : Prop := args = #[.ref b] ∧ s.IntsAt b xs ∧ xs.length ≤ 384 ∧ (Jvm.Cond.and given_1 narrow_1).before args s = true
def lw_Q (_ : Array Value) (s : State) (o : Outcome) (t : State) : Prop := o = .returned (some (.int 1)) ∧ Framed s o t [] 600000 7302250
def lw_Z (below : List Frame) (a : Array Value) (s : State) : State → Prop := fun t => ∃ o, t.status = .running ∧ Ended t below o ∧ lw_Q a s o t
/-- the law's own end, with 1 on the stack, nothing written that was there before, its room as the claim has it -/
theorem lw_ret {p : Program} {l : Launch} {e : Env} {s : State} {m : MethodId} {below : List Frame} {meth : Method} {c : Code} {b : Nat} (hx : p.tables.exec = Jvm.exec) (hb : c.code = code) (hr : meth.sig.returnType = ret) (hlocks : meth.locks = false) {pc : Nat} {H : Heap} {ls : Array Slot} (hdg : decode code pc = .ok (.ireturn, 1)) : W p l e room_1 s m #[Value.ref b] below meth c H [] 600000 7302250 (lw_Z below #[Value.ref b] s) (F0 m pc ls [.int 1]) := by
  intro T hT X
  obtain ⟨fs, hret, hrun, hended, hW, hframe⟩ := X.leave (v := some (.int 1)) (hlocks := hlocks) (fun h => by rw [hr] at h; cases h)
  have hmeth' : T.vm.method? m = some meth := X.method'
  refine ⟨T.setFrames fs, ?_, .returned (some (.int 1)), hrun, hended, rfl, ⟨_, rfl⟩, hW, hframe⟩
  jvm_step X.here [X.here.top, hx, hb, hdg, hmeth', hr, ret, narrow_b1]
  (try refine ⟨rfl, ?_⟩); (try refine ⟨rfl, ?_⟩)
  first | (intro acts; rw [hret _ acts rfl rfl rfl]) | rw [hret _ _ rfl rfl rfl]
  exact Steps.refl _
/-- what holds at the law's entry: the machine, the code, the tables' words (any of lw_tbl by 'hts w (by decide +kernel)'), the script of L ints xs at the cell b, what the Statement gives of the start (any of its parts by flat_of_before) -/
def lw_At (p : Program) (s : State) (m : MethodId) (meth : Method) (c : Code) (b L : Nat) (xs : Nat → Int32) : Prop :=
  p.tables.exec = Jvm.exec ∧ c.code = code ∧ meth.sig.returnType = ret ∧ c.maxLocals = 4 ∧ s.vm.findClass R_law = some m.cls ∧ (∀ w ∈ lw_tbl, w.before #[Value.ref b] s = true) ∧ va_X b L xs s s.heap ∧ b < s.heap.size ∧ meth.locks = false ∧ (Jvm.Cond.and given_1 narrow_1).before #[Value.ref b] s = true

def cLR (v : Int32) (h : AH) : Option (Unit × AH) := if v = 1 then some ((), h) else none
/-- how the law ends -/
def sr_LZ (G : sr_G) : sr_Z Unit := fun _ h' below args s n0 s0 t => s.heap.size = sr_bs G → gN h' - n0 ≤ 600000 → gS h' - s0 ≤ 7302250 → lw_Z below args s t
theorem sr_lawret {p : Program} {l : Launch} {e : Env} {R : Room} {s : State} {m : MethodId} {args : Array Value} {below : List Frame} {meth : Method} {c : Code} (hx : p.tables.exec = Jvm.exec) (hb : c.code = code) (hr : meth.sig.returnType = ret) (hlocks : meth.locks = false) {pc : Nat} {H : Heap} {ls : Array Slot} (hdg : decode code pc = .ok (.ireturn, 1)) : W p l e R s m args below meth c H [] 600000 7302250 (lw_Z below args s) (F0 m pc ls [.int 1]) := by
  intro T hT X
  obtain ⟨fs, hret, hrun, hended, hW, hframe⟩ := X.leave (v := some (.int 1)) (hlocks := hlocks) (fun h => by rw [hr] at h; cases h)
  have hmeth' : T.vm.method? m = some meth := X.method'
  refine ⟨T.setFrames fs, ?_, .returned (some (.int 1)), hrun, hended, rfl, ⟨_, rfl⟩, hW, hframe⟩
  jvm_step X.here [X.here.top, hx, hb, hdg, hmeth', hr, ret, narrow_b1]
  (try refine ⟨rfl, ?_⟩); (try refine ⟨rfl, ?_⟩)
  first | (intro acts; rw [hret _ acts rfl rfl rfl]) | rw [hret _ _ rfl rfl rfl]
  exact Steps.refl _
theorem tq_lawret {G : sr_G} {d : Nat} {pc : Nat} {L : List (Nat × sr_V)} {v : Int32} {h : AH} (hd : decode cL_law pc = .ok (.ireturn, 1)) : sr_T (X := Unit) G d RL cL_law 4 ret false (sr_LZ G) pc L [vI v] h (cLR v h) := by
  intro x h' hF
  unfold cLR at hF
  by_cases hv : v = 1
  · subst hv
    rw [if_pos rfl] at hF
    cases hF
    refine ⟨⟨Nat.le_refl _, Nat.le_refl _⟩, ?_⟩
    intro p e R s m args below meth c n0 s0 H locs ls C h1 h2 h3 h4 h5 h6 h7 h8 h9
    by_cases hq : s.heap.size = sr_bs G ∧ gN h - n0 ≤ 600000 ∧ gS h - s0 ≤ 7302250
    · have hw : W p G.1 e R s m args below meth c H locs (gN h - n0) (gS h - s0) (lw_Z below args s) (F0 m pc ls [.int 1]) := by
        refine va_forget (fun q hq' => by rw [hq.1]; exact h8.2.2 q hq') ?_
        refine W.widen hq.2.1 hq.2.2 ?_
        exact sr_lawret C.1 C.2.1 C.2.2.1 C.2.2.2.2.2.2.1 hd
      intro T hT X
      obtain ⟨t, a1, b1⟩ := hw T hT X
      exact ⟨t, a1, fun _ _ _ => b1⟩
    · intro T hT X
      exact ⟨_, Steps.refl _, fun q1 q2 q3 => absurd ⟨q1, q2, q3⟩ hq⟩
  · rw [if_neg hv] at hF
    cases hF
theorem wd_84 : Cond.classLink RL 7 RX8 ∈ sr_tbl := sr_w 84 (by decide +kernel) (by decide +kernel)
theorem wd_85 : Cond.instantiable RX8 5 ∈ sr_tbl := sr_w 85 (by decide +kernel) (by decide +kernel)
theorem wd_86 : Cond.methodLink RL 9 yX8_init ∈ sr_tbl := sr_w 86 (by decide +kernel) (by decide +kernel)
theorem wd_87 : Cond.instanceMethod yX8_init ∈ sr_tbl := sr_w 87 (by decide +kernel) (by decide +kernel)
theorem wd_304 : Cond.methodLink RL 13 yX8_feed ∈ sr_tbl := sr_w 304 (by decide +kernel) (by decide +kernel)
theorem wd_305 : Cond.instanceMethod yX8_feed ∈ sr_tbl := sr_w 305 (by decide +kernel) (by decide +kernel)
theorem wd_306 : Cond.selects RX8 yX8_feed yX8_feed ∈ sr_tbl := sr_w 306 (by decide +kernel) (by decide +kernel)
theorem wd_316 : Cond.methodLink RL 18 yX8_end ∈ sr_tbl := sr_w 316 (by decide +kernel) (by decide +kernel)
theorem wd_317 : Cond.instanceMethod yX8_end ∈ sr_tbl := sr_w 317 (by decide +kernel) (by decide +kernel)
theorem wd_318 : Cond.selects RX8 yX8_end yX8_end ∈ sr_tbl := sr_w 318 (by decide +kernel) (by decide +kernel)
theorem wd_320 : Cond.methodLink RL 23 yX8_out ∈ sr_tbl := sr_w 320 (by decide +kernel) (by decide +kernel)
theorem wd_321 : Cond.instanceMethod yX8_out ∈ sr_tbl := sr_w 321 (by decide +kernel) (by decide +kernel)
theorem wd_322 : Cond.selects RX8 yX8_out yX8_out ∈ sr_tbl := sr_w 322 (by decide +kernel) (by decide +kernel)
theorem wd_328 : Cond.methodLink RL 27 yX8_page ∈ sr_tbl := sr_w 328 (by decide +kernel) (by decide +kernel)
theorem wd_329 : Cond.instanceMethod yX8_page ∈ sr_tbl := sr_w 329 (by decide +kernel) (by decide +kernel)
theorem wd_330 : Cond.selects RX8 yX8_page yX8_page ∈ sr_tbl := sr_w 330 (by decide +kernel) (by decide +kernel)
theorem wd_625 : Cond.methodLink RL 32 yX8_node ∈ sr_tbl := sr_w 625 (by decide +kernel) (by decide +kernel)
theorem wd_626 : Cond.instanceMethod yX8_node ∈ sr_tbl := sr_w 626 (by decide +kernel) (by decide +kernel)
theorem wd_627 : Cond.selects RX8 yX8_node yX8_node ∈ sr_tbl := sr_w 627 (by decide +kernel) (by decide +kernel)
theorem wd_641 : Cond.methodLink RL 37 yX8_kid ∈ sr_tbl := sr_w 641 (by decide +kernel) (by decide +kernel)
theorem wd_642 : Cond.instanceMethod yX8_kid ∈ sr_tbl := sr_w 642 (by decide +kernel) (by decide +kernel)
theorem wd_643 : Cond.selects RX8 yX8_kid yX8_kid ∈ sr_tbl := sr_w 643 (by decide +kernel) (by decide +kernel)
theorem wd_645 : Cond.methodLink RL 41 yX8_name ∈ sr_tbl := sr_w 645 (by decide +kernel) (by decide +kernel)
theorem wd_646 : Cond.instanceMethod yX8_name ∈ sr_tbl := sr_w 646 (by decide +kernel) (by decide +kernel)
theorem wd_647 : Cond.selects RX8 yX8_name yX8_name ∈ sr_tbl := sr_w 647 (by decide +kernel) (by decide +kernel)
theorem wd_661 : Cond.methodLink RL 45 yX8_attribute ∈ sr_tbl := sr_w 661 (by decide +kernel) (by decide +kernel)
theorem wd_662 : Cond.instanceMethod yX8_attribute ∈ sr_tbl := sr_w 662 (by decide +kernel) (by decide +kernel)
theorem wd_663 : Cond.selects RX8 yX8_attribute yX8_attribute ∈ sr_tbl := sr_w 663 (by decide +kernel) (by decide +kernel)
theorem wd_694 : Cond.methodLink RL 49 yX8_serialise ∈ sr_tbl := sr_w 694 (by decide +kernel) (by decide +kernel)
theorem wd_695 : Cond.instanceMethod yX8_serialise ∈ sr_tbl := sr_w 695 (by decide +kernel) (by decide +kernel)
theorem wd_696 : Cond.selects RX8 yX8_serialise yX8_serialise ∈ sr_tbl := sr_w 696 (by decide +kernel) (by decide +kernel)
theorem wd_727 : Cond.methodLink RL 53 yX8_fault ∈ sr_tbl := sr_w 727 (by decide +kernel) (by decide +kernel)
theorem wd_728 : Cond.instanceMethod yX8_fault ∈ sr_tbl := sr_w 728 (by decide +kernel) (by decide +kernel)
theorem wd_729 : Cond.selects RX8 yX8_fault yX8_fault ∈ sr_tbl := sr_w 729 (by decide +kernel) (by decide +kernel)
theorem wd_739 : Cond.methodLink RL 57 yX8_faults ∈ sr_tbl := sr_w 739 (by decide +kernel) (by decide +kernel)
theorem wd_740 : Cond.instanceMethod yX8_faults ∈ sr_tbl := sr_w 740 (by decide +kernel) (by decide +kernel)
theorem wd_741 : Cond.selects RX8 yX8_faults yX8_faults ∈ sr_tbl := sr_w 741 (by decide +kernel) (by decide +kernel)
theorem wd_743 : Cond.methodLink RL 61 yX8_add ∈ sr_tbl := sr_w 743 (by decide +kernel) (by decide +kernel)
theorem wd_744 : Cond.instanceMethod yX8_add ∈ sr_tbl := sr_w 744 (by decide +kernel) (by decide +kernel)
theorem wd_745 : Cond.selects RX8 yX8_add yX8_add ∈ sr_tbl := sr_w 745 (by decide +kernel) (by decide +kernel)
theorem wd_753 : Cond.methodLink RL 65 yX8_text ∈ sr_tbl := sr_w 753 (by decide +kernel) (by decide +kernel)
theorem wd_754 : Cond.instanceMethod yX8_text ∈ sr_tbl := sr_w 754 (by decide +kernel) (by decide +kernel)
theorem wd_755 : Cond.selects RX8 yX8_text yX8_text ∈ sr_tbl := sr_w 755 (by decide +kernel) (by decide +kernel)
theorem wd_774 : Cond.methodLink RL 69 yX8_set ∈ sr_tbl := sr_w 774 (by decide +kernel) (by decide +kernel)
theorem wd_775 : Cond.instanceMethod yX8_set ∈ sr_tbl := sr_w 775 (by decide +kernel) (by decide +kernel)
theorem wd_776 : Cond.selects RX8 yX8_set yX8_set ∈ sr_tbl := sr_w 776 (by decide +kernel) (by decide +kernel)
theorem wd_790 : Cond.methodLink RL 73 yX8_remove ∈ sr_tbl := sr_w 790 (by decide +kernel) (by decide +kernel)
theorem wd_791 : Cond.instanceMethod yX8_remove ∈ sr_tbl := sr_w 791 (by decide +kernel) (by decide +kernel)
theorem wd_792 : Cond.selects RX8 yX8_remove yX8_remove ∈ sr_tbl := sr_w 792 (by decide +kernel) (by decide +kernel)
theorem wd_802 : Cond.methodLink RL 77 yX8_find ∈ sr_tbl := sr_w 802 (by decide +kernel) (by decide +kernel)
theorem wd_803 : Cond.instanceMethod yX8_find ∈ sr_tbl := sr_w 803 (by decide +kernel) (by decide +kernel)
theorem wd_804 : Cond.selects RX8 yX8_find yX8_find ∈ sr_tbl := sr_w 804 (by decide +kernel) (by decide +kernel)
theorem wd_814 : Cond.methodLink RL 52 yX9_serialise ∈ sr_tbl := sr_w 814 (by decide +kernel) (by decide +kernel)
theorem wd_815 : Cond.instanceMethod yX9_serialise ∈ sr_tbl := sr_w 815 (by decide +kernel) (by decide +kernel)
theorem wd_816 : Cond.selects RX9 yX9_serialise yX9_serialise ∈ sr_tbl := sr_w 816 (by decide +kernel) (by decide +kernel)
theorem wd_821 : Cond.instantiable RX9 45 ∈ sr_tbl := sr_w 821 (by decide +kernel) (by decide +kernel)
theorem wd_846 : Cond.methodLink RL 36 yX9_node ∈ sr_tbl := sr_w 846 (by decide +kernel) (by decide +kernel)
theorem wd_847 : Cond.instanceMethod yX9_node ∈ sr_tbl := sr_w 847 (by decide +kernel) (by decide +kernel)
theorem wd_848 : Cond.selects RX9 yX9_node yX9_node ∈ sr_tbl := sr_w 848 (by decide +kernel) (by decide +kernel)
theorem wd_850 : Cond.methodLink RL 40 yX9_kid ∈ sr_tbl := sr_w 850 (by decide +kernel) (by decide +kernel)
theorem wd_851 : Cond.instanceMethod yX9_kid ∈ sr_tbl := sr_w 851 (by decide +kernel) (by decide +kernel)
theorem wd_852 : Cond.selects RX9 yX9_kid yX9_kid ∈ sr_tbl := sr_w 852 (by decide +kernel) (by decide +kernel)
theorem wd_854 : Cond.methodLink RL 44 yX9_name ∈ sr_tbl := sr_w 854 (by decide +kernel) (by decide +kernel)
theorem wd_855 : Cond.instanceMethod yX9_name ∈ sr_tbl := sr_w 855 (by decide +kernel) (by decide +kernel)
theorem wd_856 : Cond.selects RX9 yX9_name yX9_name ∈ sr_tbl := sr_w 856 (by decide +kernel) (by decide +kernel)
theorem wd_858 : Cond.classLink RL 10 RX9 ∈ sr_tbl := sr_w 858 (by decide +kernel) (by decide +kernel)
theorem wd_859 : Cond.methodLink RL 12 yX9_init ∈ sr_tbl := sr_w 859 (by decide +kernel) (by decide +kernel)
theorem wd_860 : Cond.instanceMethod yX9_init ∈ sr_tbl := sr_w 860 (by decide +kernel) (by decide +kernel)
theorem wd_1009 : Cond.methodLink RL 17 yX9_feed ∈ sr_tbl := sr_w 1009 (by decide +kernel) (by decide +kernel)
theorem wd_1010 : Cond.instanceMethod yX9_feed ∈ sr_tbl := sr_w 1010 (by decide +kernel) (by decide +kernel)
theorem wd_1011 : Cond.selects RX9 yX9_feed yX9_feed ∈ sr_tbl := sr_w 1011 (by decide +kernel) (by decide +kernel)
theorem wd_1017 : Cond.methodLink RL 22 yX9_end ∈ sr_tbl := sr_w 1017 (by decide +kernel) (by decide +kernel)
theorem wd_1018 : Cond.instanceMethod yX9_end ∈ sr_tbl := sr_w 1018 (by decide +kernel) (by decide +kernel)
theorem wd_1019 : Cond.selects RX9 yX9_end yX9_end ∈ sr_tbl := sr_w 1019 (by decide +kernel) (by decide +kernel)
theorem wd_1021 : Cond.methodLink RL 26 yX9_out ∈ sr_tbl := sr_w 1021 (by decide +kernel) (by decide +kernel)
theorem wd_1022 : Cond.instanceMethod yX9_out ∈ sr_tbl := sr_w 1022 (by decide +kernel) (by decide +kernel)
theorem wd_1023 : Cond.selects RX9 yX9_out yX9_out ∈ sr_tbl := sr_w 1023 (by decide +kernel) (by decide +kernel)
theorem wd_1025 : Cond.methodLink RL 31 yX9_page ∈ sr_tbl := sr_w 1025 (by decide +kernel) (by decide +kernel)
theorem wd_1026 : Cond.instanceMethod yX9_page ∈ sr_tbl := sr_w 1026 (by decide +kernel) (by decide +kernel)
theorem wd_1027 : Cond.selects RX9 yX9_page yX9_page ∈ sr_tbl := sr_w 1027 (by decide +kernel) (by decide +kernel)
theorem wd_1145 : Cond.methodLink RL 48 yX9_attribute ∈ sr_tbl := sr_w 1145 (by decide +kernel) (by decide +kernel)
theorem wd_1146 : Cond.instanceMethod yX9_attribute ∈ sr_tbl := sr_w 1146 (by decide +kernel) (by decide +kernel)
theorem wd_1147 : Cond.selects RX9 yX9_attribute yX9_attribute ∈ sr_tbl := sr_w 1147 (by decide +kernel) (by decide +kernel)
theorem wd_1165 : Cond.methodLink RL 56 yX9_fault ∈ sr_tbl := sr_w 1165 (by decide +kernel) (by decide +kernel)
theorem wd_1166 : Cond.instanceMethod yX9_fault ∈ sr_tbl := sr_w 1166 (by decide +kernel) (by decide +kernel)
theorem wd_1167 : Cond.selects RX9 yX9_fault yX9_fault ∈ sr_tbl := sr_w 1167 (by decide +kernel) (by decide +kernel)
theorem wd_1169 : Cond.methodLink RL 60 yX9_faults ∈ sr_tbl := sr_w 1169 (by decide +kernel) (by decide +kernel)
theorem wd_1170 : Cond.instanceMethod yX9_faults ∈ sr_tbl := sr_w 1170 (by decide +kernel) (by decide +kernel)
theorem wd_1171 : Cond.selects RX9 yX9_faults yX9_faults ∈ sr_tbl := sr_w 1171 (by decide +kernel) (by decide +kernel)
theorem wd_1173 : Cond.methodLink RL 64 yX9_add ∈ sr_tbl := sr_w 1173 (by decide +kernel) (by decide +kernel)
theorem wd_1174 : Cond.instanceMethod yX9_add ∈ sr_tbl := sr_w 1174 (by decide +kernel) (by decide +kernel)
theorem wd_1175 : Cond.selects RX9 yX9_add yX9_add ∈ sr_tbl := sr_w 1175 (by decide +kernel) (by decide +kernel)
theorem wd_1177 : Cond.methodLink RL 68 yX9_text ∈ sr_tbl := sr_w 1177 (by decide +kernel) (by decide +kernel)
theorem wd_1178 : Cond.instanceMethod yX9_text ∈ sr_tbl := sr_w 1178 (by decide +kernel) (by decide +kernel)
theorem wd_1179 : Cond.selects RX9 yX9_text yX9_text ∈ sr_tbl := sr_w 1179 (by decide +kernel) (by decide +kernel)
theorem wd_1196 : Cond.methodLink RL 72 yX9_set ∈ sr_tbl := sr_w 1196 (by decide +kernel) (by decide +kernel)
theorem wd_1197 : Cond.instanceMethod yX9_set ∈ sr_tbl := sr_w 1197 (by decide +kernel) (by decide +kernel)
theorem wd_1198 : Cond.selects RX9 yX9_set yX9_set ∈ sr_tbl := sr_w 1198 (by decide +kernel) (by decide +kernel)
theorem wd_1200 : Cond.methodLink RL 76 yX9_remove ∈ sr_tbl := sr_w 1200 (by decide +kernel) (by decide +kernel)
theorem wd_1201 : Cond.instanceMethod yX9_remove ∈ sr_tbl := sr_w 1201 (by decide +kernel) (by decide +kernel)
theorem wd_1202 : Cond.selects RX9 yX9_remove yX9_remove ∈ sr_tbl := sr_w 1202 (by decide +kernel) (by decide +kernel)
theorem wd_1204 : Cond.methodLink RL 80 yX9_find ∈ sr_tbl := sr_w 1204 (by decide +kernel) (by decide +kernel)
theorem wd_1205 : Cond.instanceMethod yX9_find ∈ sr_tbl := sr_w 1205 (by decide +kernel) (by decide +kernel)
theorem wd_1206 : Cond.selects RX9 yX9_find yX9_find ∈ sr_tbl := sr_w 1206 (by decide +kernel) (by decide +kernel)
noncomputable def fL_law_536 (G : sr_G)  (h : AH) : Option (Unit × AH) := cLR (nI 1) h
theorem tL_law_536 (G : sr_G)  (h : AH) : sr_T (X := Unit) G 40 RL cL_law 4 ret false (sr_LZ G) 536 [] [] h (fL_law_536 G h) := by
  unfold fL_law_536
  refine tq_iconst (nI 1) dL_law_536 (by decide) ?_
  exact tq_lawret dL_law_537
noncomputable def fL_law_530 (G : sr_G) (r18 : Option Nat → Option Nat → Int32 → AH → Option (Unit × AH)) (v1 : Option Nat) (v2 : Option Nat) (v3 : Int32) (h : AH) : Option (Unit × AH) := r18 v1 v2 (v3 + (nI 6)) h
theorem tL_law_530 (G : sr_G) {r18 : Option Nat → Option Nat → Int32 → AH → Option (Unit × AH)} (hr18 : ∀ (v1 : Option Nat) (v2 : Option Nat) (v3 : Int32) (h : AH), sr_T (X := Unit) G 40 RL cL_law 4 ret false (sr_LZ G) 18 [(0, vR (some G.2.2.2.2.2.2.1)), (1, vR v1), (2, vR v2), (3, vI v3)] [] h (r18 v1 v2 v3 h)) (v1 : Option Nat) (v2 : Option Nat) (v3 : Int32) (h : AH) : sr_T (X := Unit) G 40 RL cL_law 4 ret false (sr_LZ G) 530 [(0, vR (some G.2.2.2.2.2.2.1)), (1, vR v1), (2, vR v2), (3, vI v3)] [] h (fL_law_530 G r18 v1 v2 v3 h) := by
  unfold fL_law_530
  refine tq_iinc 3 (nI 6) (L' := [(3, vI (v3 + (nI 6))), (0, vR (some G.2.2.2.2.2.2.1)), (1, vR v1), (2, vR v2)]) dL_law_530 rfl (by decide) (by decide) rfl ?_
  refine tq_goto 18 dL_law_533 (by decide) ?_
  exact tq_sub [1, 2, 3, 0] rfl (hr18 v1 v2 (v3 + (nI 6)) h)
noncomputable def fL_law_173 (G : sr_G)  (h : AH) : Option (Unit × AH) := cLR (nI 0) h
theorem tL_law_173 (G : sr_G)  (h : AH) : sr_T (X := Unit) G 40 RL cL_law 4 ret false (sr_LZ G) 173 [] [] h (fL_law_173 G h) := by
  unfold fL_law_173
  refine tq_iconst (nI 0) dL_law_173 (by decide) ?_
  exact tq_lawret dL_law_174
noncomputable def fL_law_196 (G : sr_G)  (h : AH) : Option (Unit × AH) := cLR (nI 0) h
theorem tL_law_196 (G : sr_G)  (h : AH) : sr_T (X := Unit) G 40 RL cL_law 4 ret false (sr_LZ G) 196 [] [] h (fL_law_196 G h) := by
  unfold fL_law_196
  refine tq_iconst (nI 0) dL_law_196 (by decide) ?_
  exact tq_lawret dL_law_197
noncomputable def fL_law_219 (G : sr_G)  (h : AH) : Option (Unit × AH) := cLR (nI 0) h
theorem tL_law_219 (G : sr_G)  (h : AH) : sr_T (X := Unit) G 40 RL cL_law 4 ret false (sr_LZ G) 219 [] [] h (fL_law_219 G h) := by
  unfold fL_law_219
  refine tq_iconst (nI 0) dL_law_219 (by decide) ?_
  exact tq_lawret dL_law_220
noncomputable def fL_law_232 (G : sr_G)  (h : AH) : Option (Unit × AH) := cLR (nI 0) h
theorem tL_law_232 (G : sr_G)  (h : AH) : sr_T (X := Unit) G 40 RL cL_law 4 ret false (sr_LZ G) 232 [] [] h (fL_law_232 G h) := by
  unfold fL_law_232
  refine tq_iconst (nI 0) dL_law_232 (by decide) ?_
  exact tq_lawret dL_law_233
noncomputable def fL_law_265 (G : sr_G)  (h : AH) : Option (Unit × AH) := cLR (nI 0) h
theorem tL_law_265 (G : sr_G)  (h : AH) : sr_T (X := Unit) G 40 RL cL_law 4 ret false (sr_LZ G) 265 [] [] h (fL_law_265 G h) := by
  unfold fL_law_265
  refine tq_iconst (nI 0) dL_law_265 (by decide) ?_
  exact tq_lawret dL_law_266
noncomputable def fL_law_298 (G : sr_G)  (h : AH) : Option (Unit × AH) := cLR (nI 0) h
theorem tL_law_298 (G : sr_G)  (h : AH) : sr_T (X := Unit) G 40 RL cL_law 4 ret false (sr_LZ G) 298 [] [] h (fL_law_298 G h) := by
  unfold fL_law_298
  refine tq_iconst (nI 0) dL_law_298 (by decide) ?_
  exact tq_lawret dL_law_299
noncomputable def fL_law_321 (G : sr_G)  (h : AH) : Option (Unit × AH) := cLR (nI 0) h
theorem tL_law_321 (G : sr_G)  (h : AH) : sr_T (X := Unit) G 40 RL cL_law 4 ret false (sr_LZ G) 321 [] [] h (fL_law_321 G h) := by
  unfold fL_law_321
  refine tq_iconst (nI 0) dL_law_321 (by decide) ?_
  exact tq_lawret dL_law_322
noncomputable def fL_law_344 (G : sr_G)  (h : AH) : Option (Unit × AH) := cLR (nI 0) h
theorem tL_law_344 (G : sr_G)  (h : AH) : sr_T (X := Unit) G 40 RL cL_law 4 ret false (sr_LZ G) 344 [] [] h (fL_law_344 G h) := by
  unfold fL_law_344
  refine tq_iconst (nI 0) dL_law_344 (by decide) ?_
  exact tq_lawret dL_law_345
noncomputable def fL_law_367 (G : sr_G)  (h : AH) : Option (Unit × AH) := cLR (nI 0) h
theorem tL_law_367 (G : sr_G)  (h : AH) : sr_T (X := Unit) G 40 RL cL_law 4 ret false (sr_LZ G) 367 [] [] h (fL_law_367 G h) := by
  unfold fL_law_367
  refine tq_iconst (nI 0) dL_law_367 (by decide) ?_
  exact tq_lawret dL_law_368
noncomputable def fL_law_400 (G : sr_G)  (h : AH) : Option (Unit × AH) := cLR (nI 0) h
theorem tL_law_400 (G : sr_G)  (h : AH) : sr_T (X := Unit) G 40 RL cL_law 4 ret false (sr_LZ G) 400 [] [] h (fL_law_400 G h) := by
  unfold fL_law_400
  refine tq_iconst (nI 0) dL_law_400 (by decide) ?_
  exact tq_lawret dL_law_401
noncomputable def fL_law_413 (G : sr_G)  (h : AH) : Option (Unit × AH) := cLR (nI 0) h
theorem tL_law_413 (G : sr_G)  (h : AH) : sr_T (X := Unit) G 40 RL cL_law 4 ret false (sr_LZ G) 413 [] [] h (fL_law_413 G h) := by
  unfold fL_law_413
  refine tq_iconst (nI 0) dL_law_413 (by decide) ?_
  exact tq_lawret dL_law_414
noncomputable def fL_law_436 (G : sr_G)  (h : AH) : Option (Unit × AH) := cLR (nI 0) h
theorem tL_law_436 (G : sr_G)  (h : AH) : sr_T (X := Unit) G 40 RL cL_law 4 ret false (sr_LZ G) 436 [] [] h (fL_law_436 G h) := by
  unfold fL_law_436
  refine tq_iconst (nI 0) dL_law_436 (by decide) ?_
  exact tq_lawret dL_law_437
noncomputable def fL_law_459 (G : sr_G)  (h : AH) : Option (Unit × AH) := cLR (nI 0) h
theorem tL_law_459 (G : sr_G)  (h : AH) : sr_T (X := Unit) G 40 RL cL_law 4 ret false (sr_LZ G) 459 [] [] h (fL_law_459 G h) := by
  unfold fL_law_459
  refine tq_iconst (nI 0) dL_law_459 (by decide) ?_
  exact tq_lawret dL_law_460
noncomputable def fL_law_482 (G : sr_G)  (h : AH) : Option (Unit × AH) := cLR (nI 0) h
theorem tL_law_482 (G : sr_G)  (h : AH) : sr_T (X := Unit) G 40 RL cL_law 4 ret false (sr_LZ G) 482 [] [] h (fL_law_482 G h) := by
  unfold fL_law_482
  refine tq_iconst (nI 0) dL_law_482 (by decide) ?_
  exact tq_lawret dL_law_483
noncomputable def fL_law_505 (G : sr_G)  (h : AH) : Option (Unit × AH) := cLR (nI 0) h
theorem tL_law_505 (G : sr_G)  (h : AH) : sr_T (X := Unit) G 40 RL cL_law 4 ret false (sr_LZ G) 505 [] [] h (fL_law_505 G h) := by
  unfold fL_law_505
  refine tq_iconst (nI 0) dL_law_505 (by decide) ?_
  exact tq_lawret dL_law_506
noncomputable def fL_law_528 (G : sr_G)  (h : AH) : Option (Unit × AH) := cLR (nI 0) h
theorem tL_law_528 (G : sr_G)  (h : AH) : sr_T (X := Unit) G 40 RL cL_law 4 ret false (sr_LZ G) 528 [] [] h (fL_law_528 G h) := by
  unfold fL_law_528
  refine tq_iconst (nI 0) dL_law_528 (by decide) ?_
  exact tq_lawret dL_law_529
noncomputable def fL_law_18 (G : sr_G) : Nat → Option Nat → Option Nat → Int32 → AH → Option (Unit × AH)
  | 0, _, _, _, _ => none
  | n + 1, v1, v2, v3, h => if ((nI G.2.2.2.2.2.2.2.1) - (nI 6)) < v3 then (fL_law_536 G h) else (cXL G v3 fun x2 => (if (x2 &&& (nI 15)) = 0 then (cXL G (v3 + (nI 1)) fun x3 => cXL G (v3 + (nI 2)) fun x4 => cXL G (v3 + (nI 3)) fun x5 => cXL G (v3 + (nI 4)) fun x6 => cXL G (v3 + (nI 5)) fun x7 => cCV h 8 v1 (fX8_feed v1 x3 x4 x5 x6 x7 h) fun x9 h8 => cXL G (v3 + (nI 1)) fun x10 => cXL G (v3 + (nI 2)) fun x11 => cXL G (v3 + (nI 3)) fun x12 => cXL G (v3 + (nI 4)) fun x13 => cXL G (v3 + (nI 5)) fun x14 => cCV h8 9 v2 (fX9_feed v2 x10 x11 x12 x13 x14 h8) fun x16 h15 => if x9 = x16 then (fL_law_530 G (fL_law_18 G n) v1 v2 v3 h15) else (fL_law_173 G h15)) else (if (x2 &&& (nI 15)) = 1 then (cXL G (v3 + (nI 1)) fun x17 => cCV h 8 v1 (fX8_end v1 x17 h) fun x19 h18 => cXL G (v3 + (nI 1)) fun x20 => cCV h18 9 v2 (fX9_end v2 x20 h18) fun x22 h21 => if x19 = x22 then (fL_law_530 G (fL_law_18 G n) v1 v2 v3 h21) else (fL_law_196 G h21)) else (if (x2 &&& (nI 15)) = 2 then (cXL G (v3 + (nI 1)) fun x23 => cCV h 8 v1 (fX8_out v1 x23 h) fun x25 h24 => cXL G (v3 + (nI 1)) fun x26 => cCV h24 9 v2 (fX9_out v2 x26 h24) fun x28 h27 => if x25 = x28 then (fL_law_530 G (fL_law_18 G n) v1 v2 v3 h27) else (fL_law_219 G h27)) else (if (x2 &&& (nI 15)) = 3 then (cCV h 8 v1 (fX8_page v1 h) fun x30 h29 => cCV h29 9 v2 (fX9_page v2 h29) fun x32 h31 => if x30 = x32 then (fL_law_530 G (fL_law_18 G n) v1 v2 v3 h31) else (fL_law_232 G h31)) else (if (x2 &&& (nI 15)) = 4 then (cXL G (v3 + (nI 1)) fun x33 => cXL G (v3 + (nI 2)) fun x34 => cCV h 8 v1 (fX8_node v1 x33 x34 h) fun x36 h35 => cXL G (v3 + (nI 1)) fun x37 => cXL G (v3 + (nI 2)) fun x38 => cCV h35 9 v2 (fX9_node v2 x37 x38 h35) fun x40 h39 => if x36 = x40 then (fL_law_530 G (fL_law_18 G n) v1 v2 v3 h39) else (fL_law_265 G h39)) else (if (x2 &&& (nI 15)) = 5 then (cXL G (v3 + (nI 1)) fun x41 => cXL G (v3 + (nI 2)) fun x42 => cCV h 8 v1 (fX8_kid v1 x41 x42 h) fun x44 h43 => cXL G (v3 + (nI 1)) fun x45 => cXL G (v3 + (nI 2)) fun x46 => cCV h43 9 v2 (fX9_kid v2 x45 x46 h43) fun x48 h47 => if x44 = x48 then (fL_law_530 G (fL_law_18 G n) v1 v2 v3 h47) else (fL_law_298 G h47)) else (if (x2 &&& (nI 15)) = 6 then (cXL G (v3 + (nI 1)) fun x49 => cCV h 8 v1 (fX8_name v1 x49 h) fun x51 h50 => cXL G (v3 + (nI 1)) fun x52 => cCV h50 9 v2 (fX9_name v2 x52 h50) fun x54 h53 => if x51 = x54 then (fL_law_530 G (fL_law_18 G n) v1 v2 v3 h53) else (fL_law_321 G h53)) else (if (x2 &&& (nI 15)) = 7 then (cXL G (v3 + (nI 1)) fun x55 => cCV h 8 v1 (fX8_attribute v1 x55 h) fun x57 h56 => cXL G (v3 + (nI 1)) fun x58 => cCV h56 9 v2 (fX9_attribute v2 x58 h56) fun x60 h59 => if x57 = x60 then (fL_law_530 G (fL_law_18 G n) v1 v2 v3 h59) else (fL_law_344 G h59)) else (if (x2 &&& (nI 15)) = 8 then (cXL G (v3 + (nI 1)) fun x61 => cCV h 8 v1 (fX8_serialise v1 x61 h) fun x63 h62 => cXL G (v3 + (nI 1)) fun x64 => cCV h62 9 v2 (fX9_serialise v2 x64 h62) fun x66 h65 => if x63 = x66 then (fL_law_530 G (fL_law_18 G n) v1 v2 v3 h65) else (fL_law_367 G h65)) else (if (x2 &&& (nI 15)) = 9 then (cXL G (v3 + (nI 1)) fun x67 => cXL G (v3 + (nI 2)) fun x68 => cCV h 8 v1 (fX8_fault v1 x67 x68 h) fun x70 h69 => cXL G (v3 + (nI 1)) fun x71 => cXL G (v3 + (nI 2)) fun x72 => cCV h69 9 v2 (fX9_fault v2 x71 x72 h69) fun x74 h73 => if x70 = x74 then (fL_law_530 G (fL_law_18 G n) v1 v2 v3 h73) else (fL_law_400 G h73)) else (if (x2 &&& (nI 15)) = 10 then (cCV h 8 v1 (fX8_faults v1 h) fun x76 h75 => cCV h75 9 v2 (fX9_faults v2 h75) fun x78 h77 => if x76 = x78 then (fL_law_530 G (fL_law_18 G n) v1 v2 v3 h77) else (fL_law_413 G h77)) else (if (x2 &&& (nI 15)) = 11 then (cXL G (v3 + (nI 1)) fun x79 => cCV h 8 v1 (fX8_add v1 x79 h) fun x81 h80 => cXL G (v3 + (nI 1)) fun x82 => cCV h80 9 v2 (fX9_add v2 x82 h80) fun x84 h83 => if x81 = x84 then (fL_law_530 G (fL_law_18 G n) v1 v2 v3 h83) else (fL_law_436 G h83)) else (if (x2 &&& (nI 15)) = 12 then (cXL G (v3 + (nI 1)) fun x85 => cCV h 8 v1 (fX8_text v1 x85 h) fun x87 h86 => cXL G (v3 + (nI 1)) fun x88 => cCV h86 9 v2 (fX9_text v2 x88 h86) fun x90 h89 => if x87 = x90 then (fL_law_530 G (fL_law_18 G n) v1 v2 v3 h89) else (fL_law_459 G h89)) else (if (x2 &&& (nI 15)) = 13 then (cXL G (v3 + (nI 1)) fun x91 => cCV h 8 v1 (fX8_set v1 x91 h) fun x93 h92 => cXL G (v3 + (nI 1)) fun x94 => cCV h92 9 v2 (fX9_set v2 x94 h92) fun x96 h95 => if x93 = x96 then (fL_law_530 G (fL_law_18 G n) v1 v2 v3 h95) else (fL_law_482 G h95)) else (if (x2 &&& (nI 15)) = 14 then (cXL G (v3 + (nI 1)) fun x97 => cCV h 8 v1 (fX8_remove v1 x97 h) fun x99 h98 => cXL G (v3 + (nI 1)) fun x100 => cCV h98 9 v2 (fX9_remove v2 x100 h98) fun x102 h101 => if x99 = x102 then (fL_law_530 G (fL_law_18 G n) v1 v2 v3 h101) else (fL_law_505 G h101)) else (if (x2 &&& (nI 15)) = 15 then (cXL G (v3 + (nI 1)) fun x103 => cCV h 8 v1 (fX8_find v1 x103 h) fun x105 h104 => cXL G (v3 + (nI 1)) fun x106 => cCV h104 9 v2 (fX9_find v2 x106 h104) fun x108 h107 => if x105 = x108 then (fL_law_530 G (fL_law_18 G n) v1 v2 v3 h107) else (fL_law_528 G h107)) else (fL_law_530 G (fL_law_18 G n) v1 v2 v3 h))))))))))))))))))
theorem tL_law_18 (G : sr_G) : ∀ (n : Nat) (v1 : Option Nat) (v2 : Option Nat) (v3 : Int32) (h : AH), sr_T (X := Unit) G 40 RL cL_law 4 ret false (sr_LZ G) 18 [(0, vR (some G.2.2.2.2.2.2.1)), (1, vR v1), (2, vR v2), (3, vI v3)] [] h (fL_law_18 G n v1 v2 v3 h) := by
  intro n
  induction n with
  | zero => intro v1 v2 v3 h; exact tq_none
  | succ n ih =>
    intro v1 v2 v3 h
    unfold fL_law_18
    refine tq_iload_n 3 3 dL_law_18 rfl rfl ?_
    refine tq_aload_n 0 0 dL_law_19 rfl rfl ?_
    refine tq_slen dL_law_20 ?_
    refine tq_bipush (nI 6) dL_law_21 (by decide) ?_
    refine tq_isub dL_law_23 ?_
    refine tq_icmp_gt 536 dL_law_24 (by decide) (fun _ => ?_) (fun _ => ?_)
    · exact tq_sub [] rfl (tL_law_536 G h)
    · refine tq_aload_n 0 0 dL_law_27 rfl rfl ?_
      refine tq_iload_n 3 3 dL_law_28 rfl rfl ?_
      refine tq_sld dL_law_29 (fun x2 => ?_)
      refine tq_bipush (nI 15) dL_law_30 (by decide) ?_
      refine tq_iand dL_law_32 ?_
      refine tq_ite _ (fun hc => ?_) (fun hn0 => ?_)
      · refine tq_tableIn 112 dL_law_33 (by rw [hc]; decide) (by rw [hc]; decide) (off := 79) (by rw [hc]; rfl) (by decide) ?_
        refine tq_aload_n 1 1 dL_law_112 rfl rfl ?_
        refine tq_aload_n 0 0 dL_law_113 rfl rfl ?_
        refine tq_iload_n 3 3 dL_law_114 rfl rfl ?_
        refine tq_iconst (nI 1) dL_law_115 (by decide) ?_
        refine tq_iadd dL_law_116 ?_
        refine tq_sld dL_law_117 (fun x3 => ?_)
        refine tq_aload_n 0 0 dL_law_118 rfl rfl ?_
        refine tq_iload_n 3 3 dL_law_119 rfl rfl ?_
        refine tq_iconst (nI 2) dL_law_120 (by decide) ?_
        refine tq_iadd dL_law_121 ?_
        refine tq_sld dL_law_122 (fun x4 => ?_)
        refine tq_aload_n 0 0 dL_law_123 rfl rfl ?_
        refine tq_iload_n 3 3 dL_law_124 rfl rfl ?_
        refine tq_iconst (nI 3) dL_law_125 (by decide) ?_
        refine tq_iadd dL_law_126 ?_
        refine tq_sld dL_law_127 (fun x5 => ?_)
        refine tq_aload_n 0 0 dL_law_128 rfl rfl ?_
        refine tq_iload_n 3 3 dL_law_129 rfl rfl ?_
        refine tq_iconst (nI 4) dL_law_130 (by decide) ?_
        refine tq_iadd dL_law_131 ?_
        refine tq_sld dL_law_132 (fun x6 => ?_)
        refine tq_aload_n 0 0 dL_law_133 rfl rfl ?_
        refine tq_iload_n 3 3 dL_law_134 rfl rfl ?_
        refine tq_iconst (nI 5) dL_law_135 (by decide) ?_
        refine tq_iadd dL_law_136 ?_
        refine tq_sld dL_law_137 (fun x7 => ?_)
        refine tq_cVI [vI x3, vI x4, vI x5, vI x6, vI x7] [] dL_law_138 (eX8_feed G v1 x3 x4 x5 x6 x7 h) (by decide) mbX8_feed cfX8 rfl wd_304 wd_305 wd_306 rfl rfl (Nat.le_of_ble_eq_true rfl) (fun x9 h8 => ?_)
        refine tq_aload_n 2 2 dL_law_141 rfl rfl ?_
        refine tq_aload_n 0 0 dL_law_142 rfl rfl ?_
        refine tq_iload_n 3 3 dL_law_143 rfl rfl ?_
        refine tq_iconst (nI 1) dL_law_144 (by decide) ?_
        refine tq_iadd dL_law_145 ?_
        refine tq_sld dL_law_146 (fun x10 => ?_)
        refine tq_aload_n 0 0 dL_law_147 rfl rfl ?_
        refine tq_iload_n 3 3 dL_law_148 rfl rfl ?_
        refine tq_iconst (nI 2) dL_law_149 (by decide) ?_
        refine tq_iadd dL_law_150 ?_
        refine tq_sld dL_law_151 (fun x11 => ?_)
        refine tq_aload_n 0 0 dL_law_152 rfl rfl ?_
        refine tq_iload_n 3 3 dL_law_153 rfl rfl ?_
        refine tq_iconst (nI 3) dL_law_154 (by decide) ?_
        refine tq_iadd dL_law_155 ?_
        refine tq_sld dL_law_156 (fun x12 => ?_)
        refine tq_aload_n 0 0 dL_law_157 rfl rfl ?_
        refine tq_iload_n 3 3 dL_law_158 rfl rfl ?_
        refine tq_iconst (nI 4) dL_law_159 (by decide) ?_
        refine tq_iadd dL_law_160 ?_
        refine tq_sld dL_law_161 (fun x13 => ?_)
        refine tq_aload_n 0 0 dL_law_162 rfl rfl ?_
        refine tq_iload_n 3 3 dL_law_163 rfl rfl ?_
        refine tq_iconst (nI 5) dL_law_164 (by decide) ?_
        refine tq_iadd dL_law_165 ?_
        refine tq_sld dL_law_166 (fun x14 => ?_)
        refine tq_cVI [vI x10, vI x11, vI x12, vI x13, vI x14] [vI x9] dL_law_167 (eX9_feed G v2 x10 x11 x12 x13 x14 h8) (by decide) mbX9_feed cfX9 rfl wd_1009 wd_1010 wd_1011 rfl rfl (Nat.le_of_ble_eq_true rfl) (fun x16 h15 => ?_)
        refine tq_icmp_eq 530 dL_law_170 (by decide) (fun _ => ?_) (fun _ => ?_)
        · exact tL_law_530 G ih v1 v2 v3 h15
        · exact tq_sub [] rfl (tL_law_173 G h15)
      · refine tq_ite _ (fun hc => ?_) (fun hn1 => ?_)
        · refine tq_tableIn 175 dL_law_33 (by rw [hc]; decide) (by rw [hc]; decide) (off := 142) (by rw [hc]; rfl) (by decide) ?_
          refine tq_aload_n 1 1 dL_law_175 rfl rfl ?_
          refine tq_aload_n 0 0 dL_law_176 rfl rfl ?_
          refine tq_iload_n 3 3 dL_law_177 rfl rfl ?_
          refine tq_iconst (nI 1) dL_law_178 (by decide) ?_
          refine tq_iadd dL_law_179 ?_
          refine tq_sld dL_law_180 (fun x17 => ?_)
          refine tq_cVI [vI x17] [] dL_law_181 (eX8_end G v1 x17 h) (by decide) mbX8_end cfX8 rfl wd_316 wd_317 wd_318 rfl rfl (Nat.le_of_ble_eq_true rfl) (fun x19 h18 => ?_)
          refine tq_aload_n 2 2 dL_law_184 rfl rfl ?_
          refine tq_aload_n 0 0 dL_law_185 rfl rfl ?_
          refine tq_iload_n 3 3 dL_law_186 rfl rfl ?_
          refine tq_iconst (nI 1) dL_law_187 (by decide) ?_
          refine tq_iadd dL_law_188 ?_
          refine tq_sld dL_law_189 (fun x20 => ?_)
          refine tq_cVI [vI x20] [vI x19] dL_law_190 (eX9_end G v2 x20 h18) (by decide) mbX9_end cfX9 rfl wd_1017 wd_1018 wd_1019 rfl rfl (Nat.le_of_ble_eq_true rfl) (fun x22 h21 => ?_)
          refine tq_icmp_eq 530 dL_law_193 (by decide) (fun _ => ?_) (fun _ => ?_)
          · exact tL_law_530 G ih v1 v2 v3 h21
          · exact tq_sub [] rfl (tL_law_196 G h21)
        · refine tq_ite _ (fun hc => ?_) (fun hn2 => ?_)
          · refine tq_tableIn 198 dL_law_33 (by rw [hc]; decide) (by rw [hc]; decide) (off := 165) (by rw [hc]; rfl) (by decide) ?_
            refine tq_aload_n 1 1 dL_law_198 rfl rfl ?_
            refine tq_aload_n 0 0 dL_law_199 rfl rfl ?_
            refine tq_iload_n 3 3 dL_law_200 rfl rfl ?_
            refine tq_iconst (nI 1) dL_law_201 (by decide) ?_
            refine tq_iadd dL_law_202 ?_
            refine tq_sld dL_law_203 (fun x23 => ?_)
            refine tq_cVI [vI x23] [] dL_law_204 (eX8_out G v1 x23 h) (by decide) mbX8_out cfX8 rfl wd_320 wd_321 wd_322 rfl rfl (Nat.le_of_ble_eq_true rfl) (fun x25 h24 => ?_)
            refine tq_aload_n 2 2 dL_law_207 rfl rfl ?_
            refine tq_aload_n 0 0 dL_law_208 rfl rfl ?_
            refine tq_iload_n 3 3 dL_law_209 rfl rfl ?_
            refine tq_iconst (nI 1) dL_law_210 (by decide) ?_
            refine tq_iadd dL_law_211 ?_
            refine tq_sld dL_law_212 (fun x26 => ?_)
            refine tq_cVI [vI x26] [vI x25] dL_law_213 (eX9_out G v2 x26 h24) (by decide) mbX9_out cfX9 rfl wd_1021 wd_1022 wd_1023 rfl rfl (Nat.le_of_ble_eq_true rfl) (fun x28 h27 => ?_)
            refine tq_icmp_eq 530 dL_law_216 (by decide) (fun _ => ?_) (fun _ => ?_)
            · exact tL_law_530 G ih v1 v2 v3 h27
            · exact tq_sub [] rfl (tL_law_219 G h27)
          · refine tq_ite _ (fun hc => ?_) (fun hn3 => ?_)
            · refine tq_tableIn 221 dL_law_33 (by rw [hc]; decide) (by rw [hc]; decide) (off := 188) (by rw [hc]; rfl) (by decide) ?_
              refine tq_aload_n 1 1 dL_law_221 rfl rfl ?_
              refine tq_cVI [] [] dL_law_222 (eX8_page G v1 h) (by decide) mbX8_page cfX8 rfl wd_328 wd_329 wd_330 rfl rfl (Nat.le_of_ble_eq_true rfl) (fun x30 h29 => ?_)
              refine tq_aload_n 2 2 dL_law_225 rfl rfl ?_
              refine tq_cVI [] [vI x30] dL_law_226 (eX9_page G v2 h29) (by decide) mbX9_page cfX9 rfl wd_1025 wd_1026 wd_1027 rfl rfl (Nat.le_of_ble_eq_true rfl) (fun x32 h31 => ?_)
              refine tq_icmp_eq 530 dL_law_229 (by decide) (fun _ => ?_) (fun _ => ?_)
              · exact tL_law_530 G ih v1 v2 v3 h31
              · exact tq_sub [] rfl (tL_law_232 G h31)
            · refine tq_ite _ (fun hc => ?_) (fun hn4 => ?_)
              · refine tq_tableIn 234 dL_law_33 (by rw [hc]; decide) (by rw [hc]; decide) (off := 201) (by rw [hc]; rfl) (by decide) ?_
                refine tq_aload_n 1 1 dL_law_234 rfl rfl ?_
                refine tq_aload_n 0 0 dL_law_235 rfl rfl ?_
                refine tq_iload_n 3 3 dL_law_236 rfl rfl ?_
                refine tq_iconst (nI 1) dL_law_237 (by decide) ?_
                refine tq_iadd dL_law_238 ?_
                refine tq_sld dL_law_239 (fun x33 => ?_)
                refine tq_aload_n 0 0 dL_law_240 rfl rfl ?_
                refine tq_iload_n 3 3 dL_law_241 rfl rfl ?_
                refine tq_iconst (nI 2) dL_law_242 (by decide) ?_
                refine tq_iadd dL_law_243 ?_
                refine tq_sld dL_law_244 (fun x34 => ?_)
                refine tq_cVI [vI x33, vI x34] [] dL_law_245 (eX8_node G v1 x33 x34 h) (by decide) mbX8_node cfX8 rfl wd_625 wd_626 wd_627 rfl rfl (Nat.le_of_ble_eq_true rfl) (fun x36 h35 => ?_)
                refine tq_aload_n 2 2 dL_law_248 rfl rfl ?_
                refine tq_aload_n 0 0 dL_law_249 rfl rfl ?_
                refine tq_iload_n 3 3 dL_law_250 rfl rfl ?_
                refine tq_iconst (nI 1) dL_law_251 (by decide) ?_
                refine tq_iadd dL_law_252 ?_
                refine tq_sld dL_law_253 (fun x37 => ?_)
                refine tq_aload_n 0 0 dL_law_254 rfl rfl ?_
                refine tq_iload_n 3 3 dL_law_255 rfl rfl ?_
                refine tq_iconst (nI 2) dL_law_256 (by decide) ?_
                refine tq_iadd dL_law_257 ?_
                refine tq_sld dL_law_258 (fun x38 => ?_)
                refine tq_cVI [vI x37, vI x38] [vI x36] dL_law_259 (eX9_node G v2 x37 x38 h35) (by decide) mbX9_node cfX9 rfl wd_846 wd_847 wd_848 rfl rfl (Nat.le_of_ble_eq_true rfl) (fun x40 h39 => ?_)
                refine tq_icmp_eq 530 dL_law_262 (by decide) (fun _ => ?_) (fun _ => ?_)
                · exact tL_law_530 G ih v1 v2 v3 h39
                · exact tq_sub [] rfl (tL_law_265 G h39)
              · refine tq_ite _ (fun hc => ?_) (fun hn5 => ?_)
                · refine tq_tableIn 267 dL_law_33 (by rw [hc]; decide) (by rw [hc]; decide) (off := 234) (by rw [hc]; rfl) (by decide) ?_
                  refine tq_aload_n 1 1 dL_law_267 rfl rfl ?_
                  refine tq_aload_n 0 0 dL_law_268 rfl rfl ?_
                  refine tq_iload_n 3 3 dL_law_269 rfl rfl ?_
                  refine tq_iconst (nI 1) dL_law_270 (by decide) ?_
                  refine tq_iadd dL_law_271 ?_
                  refine tq_sld dL_law_272 (fun x41 => ?_)
                  refine tq_aload_n 0 0 dL_law_273 rfl rfl ?_
                  refine tq_iload_n 3 3 dL_law_274 rfl rfl ?_
                  refine tq_iconst (nI 2) dL_law_275 (by decide) ?_
                  refine tq_iadd dL_law_276 ?_
                  refine tq_sld dL_law_277 (fun x42 => ?_)
                  refine tq_cVI [vI x41, vI x42] [] dL_law_278 (eX8_kid G v1 x41 x42 h) (by decide) mbX8_kid cfX8 rfl wd_641 wd_642 wd_643 rfl rfl (Nat.le_of_ble_eq_true rfl) (fun x44 h43 => ?_)
                  refine tq_aload_n 2 2 dL_law_281 rfl rfl ?_
                  refine tq_aload_n 0 0 dL_law_282 rfl rfl ?_
                  refine tq_iload_n 3 3 dL_law_283 rfl rfl ?_
                  refine tq_iconst (nI 1) dL_law_284 (by decide) ?_
                  refine tq_iadd dL_law_285 ?_
                  refine tq_sld dL_law_286 (fun x45 => ?_)
                  refine tq_aload_n 0 0 dL_law_287 rfl rfl ?_
                  refine tq_iload_n 3 3 dL_law_288 rfl rfl ?_
                  refine tq_iconst (nI 2) dL_law_289 (by decide) ?_
                  refine tq_iadd dL_law_290 ?_
                  refine tq_sld dL_law_291 (fun x46 => ?_)
                  refine tq_cVI [vI x45, vI x46] [vI x44] dL_law_292 (eX9_kid G v2 x45 x46 h43) (by decide) mbX9_kid cfX9 rfl wd_850 wd_851 wd_852 rfl rfl (Nat.le_of_ble_eq_true rfl) (fun x48 h47 => ?_)
                  refine tq_icmp_eq 530 dL_law_295 (by decide) (fun _ => ?_) (fun _ => ?_)
                  · exact tL_law_530 G ih v1 v2 v3 h47
                  · exact tq_sub [] rfl (tL_law_298 G h47)
                · refine tq_ite _ (fun hc => ?_) (fun hn6 => ?_)
                  · refine tq_tableIn 300 dL_law_33 (by rw [hc]; decide) (by rw [hc]; decide) (off := 267) (by rw [hc]; rfl) (by decide) ?_
                    refine tq_aload_n 1 1 dL_law_300 rfl rfl ?_
                    refine tq_aload_n 0 0 dL_law_301 rfl rfl ?_
                    refine tq_iload_n 3 3 dL_law_302 rfl rfl ?_
                    refine tq_iconst (nI 1) dL_law_303 (by decide) ?_
                    refine tq_iadd dL_law_304 ?_
                    refine tq_sld dL_law_305 (fun x49 => ?_)
                    refine tq_cVI [vI x49] [] dL_law_306 (eX8_name G v1 x49 h) (by decide) mbX8_name cfX8 rfl wd_645 wd_646 wd_647 rfl rfl (Nat.le_of_ble_eq_true rfl) (fun x51 h50 => ?_)
                    refine tq_aload_n 2 2 dL_law_309 rfl rfl ?_
                    refine tq_aload_n 0 0 dL_law_310 rfl rfl ?_
                    refine tq_iload_n 3 3 dL_law_311 rfl rfl ?_
                    refine tq_iconst (nI 1) dL_law_312 (by decide) ?_
                    refine tq_iadd dL_law_313 ?_
                    refine tq_sld dL_law_314 (fun x52 => ?_)
                    refine tq_cVI [vI x52] [vI x51] dL_law_315 (eX9_name G v2 x52 h50) (by decide) mbX9_name cfX9 rfl wd_854 wd_855 wd_856 rfl rfl (Nat.le_of_ble_eq_true rfl) (fun x54 h53 => ?_)
                    refine tq_icmp_eq 530 dL_law_318 (by decide) (fun _ => ?_) (fun _ => ?_)
                    · exact tL_law_530 G ih v1 v2 v3 h53
                    · exact tq_sub [] rfl (tL_law_321 G h53)
                  · refine tq_ite _ (fun hc => ?_) (fun hn7 => ?_)
                    · refine tq_tableIn 323 dL_law_33 (by rw [hc]; decide) (by rw [hc]; decide) (off := 290) (by rw [hc]; rfl) (by decide) ?_
                      refine tq_aload_n 1 1 dL_law_323 rfl rfl ?_
                      refine tq_aload_n 0 0 dL_law_324 rfl rfl ?_
                      refine tq_iload_n 3 3 dL_law_325 rfl rfl ?_
                      refine tq_iconst (nI 1) dL_law_326 (by decide) ?_
                      refine tq_iadd dL_law_327 ?_
                      refine tq_sld dL_law_328 (fun x55 => ?_)
                      refine tq_cVI [vI x55] [] dL_law_329 (eX8_attribute G v1 x55 h) (by decide) mbX8_attribute cfX8 rfl wd_661 wd_662 wd_663 rfl rfl (Nat.le_of_ble_eq_true rfl) (fun x57 h56 => ?_)
                      refine tq_aload_n 2 2 dL_law_332 rfl rfl ?_
                      refine tq_aload_n 0 0 dL_law_333 rfl rfl ?_
                      refine tq_iload_n 3 3 dL_law_334 rfl rfl ?_
                      refine tq_iconst (nI 1) dL_law_335 (by decide) ?_
                      refine tq_iadd dL_law_336 ?_
                      refine tq_sld dL_law_337 (fun x58 => ?_)
                      refine tq_cVI [vI x58] [vI x57] dL_law_338 (eX9_attribute G v2 x58 h56) (by decide) mbX9_attribute cfX9 rfl wd_1145 wd_1146 wd_1147 rfl rfl (Nat.le_of_ble_eq_true rfl) (fun x60 h59 => ?_)
                      refine tq_icmp_eq 530 dL_law_341 (by decide) (fun _ => ?_) (fun _ => ?_)
                      · exact tL_law_530 G ih v1 v2 v3 h59
                      · exact tq_sub [] rfl (tL_law_344 G h59)
                    · refine tq_ite _ (fun hc => ?_) (fun hn8 => ?_)
                      · refine tq_tableIn 346 dL_law_33 (by rw [hc]; decide) (by rw [hc]; decide) (off := 313) (by rw [hc]; rfl) (by decide) ?_
                        refine tq_aload_n 1 1 dL_law_346 rfl rfl ?_
                        refine tq_aload_n 0 0 dL_law_347 rfl rfl ?_
                        refine tq_iload_n 3 3 dL_law_348 rfl rfl ?_
                        refine tq_iconst (nI 1) dL_law_349 (by decide) ?_
                        refine tq_iadd dL_law_350 ?_
                        refine tq_sld dL_law_351 (fun x61 => ?_)
                        refine tq_cVI [vI x61] [] dL_law_352 (eX8_serialise G v1 x61 h) (by decide) mbX8_serialise cfX8 rfl wd_694 wd_695 wd_696 rfl rfl (Nat.le_of_ble_eq_true rfl) (fun x63 h62 => ?_)
                        refine tq_aload_n 2 2 dL_law_355 rfl rfl ?_
                        refine tq_aload_n 0 0 dL_law_356 rfl rfl ?_
                        refine tq_iload_n 3 3 dL_law_357 rfl rfl ?_
                        refine tq_iconst (nI 1) dL_law_358 (by decide) ?_
                        refine tq_iadd dL_law_359 ?_
                        refine tq_sld dL_law_360 (fun x64 => ?_)
                        refine tq_cVI [vI x64] [vI x63] dL_law_361 (eX9_serialise G v2 x64 h62) (by decide) mbX9_serialise cfX9 rfl wd_814 wd_815 wd_816 rfl rfl (Nat.le_of_ble_eq_true rfl) (fun x66 h65 => ?_)
                        refine tq_icmp_eq 530 dL_law_364 (by decide) (fun _ => ?_) (fun _ => ?_)
                        · exact tL_law_530 G ih v1 v2 v3 h65
                        · exact tq_sub [] rfl (tL_law_367 G h65)
                      · refine tq_ite _ (fun hc => ?_) (fun hn9 => ?_)
                        · refine tq_tableIn 369 dL_law_33 (by rw [hc]; decide) (by rw [hc]; decide) (off := 336) (by rw [hc]; rfl) (by decide) ?_
                          refine tq_aload_n 1 1 dL_law_369 rfl rfl ?_
                          refine tq_aload_n 0 0 dL_law_370 rfl rfl ?_
                          refine tq_iload_n 3 3 dL_law_371 rfl rfl ?_
                          refine tq_iconst (nI 1) dL_law_372 (by decide) ?_
                          refine tq_iadd dL_law_373 ?_
                          refine tq_sld dL_law_374 (fun x67 => ?_)
                          refine tq_aload_n 0 0 dL_law_375 rfl rfl ?_
                          refine tq_iload_n 3 3 dL_law_376 rfl rfl ?_
                          refine tq_iconst (nI 2) dL_law_377 (by decide) ?_
                          refine tq_iadd dL_law_378 ?_
                          refine tq_sld dL_law_379 (fun x68 => ?_)
                          refine tq_cVI [vI x67, vI x68] [] dL_law_380 (eX8_fault G v1 x67 x68 h) (by decide) mbX8_fault cfX8 rfl wd_727 wd_728 wd_729 rfl rfl (Nat.le_of_ble_eq_true rfl) (fun x70 h69 => ?_)
                          refine tq_aload_n 2 2 dL_law_383 rfl rfl ?_
                          refine tq_aload_n 0 0 dL_law_384 rfl rfl ?_
                          refine tq_iload_n 3 3 dL_law_385 rfl rfl ?_
                          refine tq_iconst (nI 1) dL_law_386 (by decide) ?_
                          refine tq_iadd dL_law_387 ?_
                          refine tq_sld dL_law_388 (fun x71 => ?_)
                          refine tq_aload_n 0 0 dL_law_389 rfl rfl ?_
                          refine tq_iload_n 3 3 dL_law_390 rfl rfl ?_
                          refine tq_iconst (nI 2) dL_law_391 (by decide) ?_
                          refine tq_iadd dL_law_392 ?_
                          refine tq_sld dL_law_393 (fun x72 => ?_)
                          refine tq_cVI [vI x71, vI x72] [vI x70] dL_law_394 (eX9_fault G v2 x71 x72 h69) (by decide) mbX9_fault cfX9 rfl wd_1165 wd_1166 wd_1167 rfl rfl (Nat.le_of_ble_eq_true rfl) (fun x74 h73 => ?_)
                          refine tq_icmp_eq 530 dL_law_397 (by decide) (fun _ => ?_) (fun _ => ?_)
                          · exact tL_law_530 G ih v1 v2 v3 h73
                          · exact tq_sub [] rfl (tL_law_400 G h73)
                        · refine tq_ite _ (fun hc => ?_) (fun hn10 => ?_)
                          · refine tq_tableIn 402 dL_law_33 (by rw [hc]; decide) (by rw [hc]; decide) (off := 369) (by rw [hc]; rfl) (by decide) ?_
                            refine tq_aload_n 1 1 dL_law_402 rfl rfl ?_
                            refine tq_cVI [] [] dL_law_403 (eX8_faults G v1 h) (by decide) mbX8_faults cfX8 rfl wd_739 wd_740 wd_741 rfl rfl (Nat.le_of_ble_eq_true rfl) (fun x76 h75 => ?_)
                            refine tq_aload_n 2 2 dL_law_406 rfl rfl ?_
                            refine tq_cVI [] [vI x76] dL_law_407 (eX9_faults G v2 h75) (by decide) mbX9_faults cfX9 rfl wd_1169 wd_1170 wd_1171 rfl rfl (Nat.le_of_ble_eq_true rfl) (fun x78 h77 => ?_)
                            refine tq_icmp_eq 530 dL_law_410 (by decide) (fun _ => ?_) (fun _ => ?_)
                            · exact tL_law_530 G ih v1 v2 v3 h77
                            · exact tq_sub [] rfl (tL_law_413 G h77)
                          · refine tq_ite _ (fun hc => ?_) (fun hn11 => ?_)
                            · refine tq_tableIn 415 dL_law_33 (by rw [hc]; decide) (by rw [hc]; decide) (off := 382) (by rw [hc]; rfl) (by decide) ?_
                              refine tq_aload_n 1 1 dL_law_415 rfl rfl ?_
                              refine tq_aload_n 0 0 dL_law_416 rfl rfl ?_
                              refine tq_iload_n 3 3 dL_law_417 rfl rfl ?_
                              refine tq_iconst (nI 1) dL_law_418 (by decide) ?_
                              refine tq_iadd dL_law_419 ?_
                              refine tq_sld dL_law_420 (fun x79 => ?_)
                              refine tq_cVI [vI x79] [] dL_law_421 (eX8_add G v1 x79 h) (by decide) mbX8_add cfX8 rfl wd_743 wd_744 wd_745 rfl rfl (Nat.le_of_ble_eq_true rfl) (fun x81 h80 => ?_)
                              refine tq_aload_n 2 2 dL_law_424 rfl rfl ?_
                              refine tq_aload_n 0 0 dL_law_425 rfl rfl ?_
                              refine tq_iload_n 3 3 dL_law_426 rfl rfl ?_
                              refine tq_iconst (nI 1) dL_law_427 (by decide) ?_
                              refine tq_iadd dL_law_428 ?_
                              refine tq_sld dL_law_429 (fun x82 => ?_)
                              refine tq_cVI [vI x82] [vI x81] dL_law_430 (eX9_add G v2 x82 h80) (by decide) mbX9_add cfX9 rfl wd_1173 wd_1174 wd_1175 rfl rfl (Nat.le_of_ble_eq_true rfl) (fun x84 h83 => ?_)
                              refine tq_icmp_eq 530 dL_law_433 (by decide) (fun _ => ?_) (fun _ => ?_)
                              · exact tL_law_530 G ih v1 v2 v3 h83
                              · exact tq_sub [] rfl (tL_law_436 G h83)
                            · refine tq_ite _ (fun hc => ?_) (fun hn12 => ?_)
                              · refine tq_tableIn 438 dL_law_33 (by rw [hc]; decide) (by rw [hc]; decide) (off := 405) (by rw [hc]; rfl) (by decide) ?_
                                refine tq_aload_n 1 1 dL_law_438 rfl rfl ?_
                                refine tq_aload_n 0 0 dL_law_439 rfl rfl ?_
                                refine tq_iload_n 3 3 dL_law_440 rfl rfl ?_
                                refine tq_iconst (nI 1) dL_law_441 (by decide) ?_
                                refine tq_iadd dL_law_442 ?_
                                refine tq_sld dL_law_443 (fun x85 => ?_)
                                refine tq_cVI [vI x85] [] dL_law_444 (eX8_text G v1 x85 h) (by decide) mbX8_text cfX8 rfl wd_753 wd_754 wd_755 rfl rfl (Nat.le_of_ble_eq_true rfl) (fun x87 h86 => ?_)
                                refine tq_aload_n 2 2 dL_law_447 rfl rfl ?_
                                refine tq_aload_n 0 0 dL_law_448 rfl rfl ?_
                                refine tq_iload_n 3 3 dL_law_449 rfl rfl ?_
                                refine tq_iconst (nI 1) dL_law_450 (by decide) ?_
                                refine tq_iadd dL_law_451 ?_
                                refine tq_sld dL_law_452 (fun x88 => ?_)
                                refine tq_cVI [vI x88] [vI x87] dL_law_453 (eX9_text G v2 x88 h86) (by decide) mbX9_text cfX9 rfl wd_1177 wd_1178 wd_1179 rfl rfl (Nat.le_of_ble_eq_true rfl) (fun x90 h89 => ?_)
                                refine tq_icmp_eq 530 dL_law_456 (by decide) (fun _ => ?_) (fun _ => ?_)
                                · exact tL_law_530 G ih v1 v2 v3 h89
                                · exact tq_sub [] rfl (tL_law_459 G h89)
                              · refine tq_ite _ (fun hc => ?_) (fun hn13 => ?_)
                                · refine tq_tableIn 461 dL_law_33 (by rw [hc]; decide) (by rw [hc]; decide) (off := 428) (by rw [hc]; rfl) (by decide) ?_
                                  refine tq_aload_n 1 1 dL_law_461 rfl rfl ?_
                                  refine tq_aload_n 0 0 dL_law_462 rfl rfl ?_
                                  refine tq_iload_n 3 3 dL_law_463 rfl rfl ?_
                                  refine tq_iconst (nI 1) dL_law_464 (by decide) ?_
                                  refine tq_iadd dL_law_465 ?_
                                  refine tq_sld dL_law_466 (fun x91 => ?_)
                                  refine tq_cVI [vI x91] [] dL_law_467 (eX8_set G v1 x91 h) (by decide) mbX8_set cfX8 rfl wd_774 wd_775 wd_776 rfl rfl (Nat.le_of_ble_eq_true rfl) (fun x93 h92 => ?_)
                                  refine tq_aload_n 2 2 dL_law_470 rfl rfl ?_
                                  refine tq_aload_n 0 0 dL_law_471 rfl rfl ?_
                                  refine tq_iload_n 3 3 dL_law_472 rfl rfl ?_
                                  refine tq_iconst (nI 1) dL_law_473 (by decide) ?_
                                  refine tq_iadd dL_law_474 ?_
                                  refine tq_sld dL_law_475 (fun x94 => ?_)
                                  refine tq_cVI [vI x94] [vI x93] dL_law_476 (eX9_set G v2 x94 h92) (by decide) mbX9_set cfX9 rfl wd_1196 wd_1197 wd_1198 rfl rfl (Nat.le_of_ble_eq_true rfl) (fun x96 h95 => ?_)
                                  refine tq_icmp_eq 530 dL_law_479 (by decide) (fun _ => ?_) (fun _ => ?_)
                                  · exact tL_law_530 G ih v1 v2 v3 h95
                                  · exact tq_sub [] rfl (tL_law_482 G h95)
                                · refine tq_ite _ (fun hc => ?_) (fun hn14 => ?_)
                                  · refine tq_tableIn 484 dL_law_33 (by rw [hc]; decide) (by rw [hc]; decide) (off := 451) (by rw [hc]; rfl) (by decide) ?_
                                    refine tq_aload_n 1 1 dL_law_484 rfl rfl ?_
                                    refine tq_aload_n 0 0 dL_law_485 rfl rfl ?_
                                    refine tq_iload_n 3 3 dL_law_486 rfl rfl ?_
                                    refine tq_iconst (nI 1) dL_law_487 (by decide) ?_
                                    refine tq_iadd dL_law_488 ?_
                                    refine tq_sld dL_law_489 (fun x97 => ?_)
                                    refine tq_cVI [vI x97] [] dL_law_490 (eX8_remove G v1 x97 h) (by decide) mbX8_remove cfX8 rfl wd_790 wd_791 wd_792 rfl rfl (Nat.le_of_ble_eq_true rfl) (fun x99 h98 => ?_)
                                    refine tq_aload_n 2 2 dL_law_493 rfl rfl ?_
                                    refine tq_aload_n 0 0 dL_law_494 rfl rfl ?_
                                    refine tq_iload_n 3 3 dL_law_495 rfl rfl ?_
                                    refine tq_iconst (nI 1) dL_law_496 (by decide) ?_
                                    refine tq_iadd dL_law_497 ?_
                                    refine tq_sld dL_law_498 (fun x100 => ?_)
                                    refine tq_cVI [vI x100] [vI x99] dL_law_499 (eX9_remove G v2 x100 h98) (by decide) mbX9_remove cfX9 rfl wd_1200 wd_1201 wd_1202 rfl rfl (Nat.le_of_ble_eq_true rfl) (fun x102 h101 => ?_)
                                    refine tq_icmp_eq 530 dL_law_502 (by decide) (fun _ => ?_) (fun _ => ?_)
                                    · exact tL_law_530 G ih v1 v2 v3 h101
                                    · exact tq_sub [] rfl (tL_law_505 G h101)
                                  · refine tq_ite _ (fun hc => ?_) (fun hn15 => ?_)
                                    · refine tq_tableIn 507 dL_law_33 (by rw [hc]; decide) (by rw [hc]; decide) (off := 474) (by rw [hc]; rfl) (by decide) ?_
                                      refine tq_aload_n 1 1 dL_law_507 rfl rfl ?_
                                      refine tq_aload_n 0 0 dL_law_508 rfl rfl ?_
                                      refine tq_iload_n 3 3 dL_law_509 rfl rfl ?_
                                      refine tq_iconst (nI 1) dL_law_510 (by decide) ?_
                                      refine tq_iadd dL_law_511 ?_
                                      refine tq_sld dL_law_512 (fun x103 => ?_)
                                      refine tq_cVI [vI x103] [] dL_law_513 (eX8_find G v1 x103 h) (by decide) mbX8_find cfX8 rfl wd_802 wd_803 wd_804 rfl rfl (Nat.le_of_ble_eq_true rfl) (fun x105 h104 => ?_)
                                      refine tq_aload_n 2 2 dL_law_516 rfl rfl ?_
                                      refine tq_aload_n 0 0 dL_law_517 rfl rfl ?_
                                      refine tq_iload_n 3 3 dL_law_518 rfl rfl ?_
                                      refine tq_iconst (nI 1) dL_law_519 (by decide) ?_
                                      refine tq_iadd dL_law_520 ?_
                                      refine tq_sld dL_law_521 (fun x106 => ?_)
                                      refine tq_cVI [vI x106] [vI x105] dL_law_522 (eX9_find G v2 x106 h104) (by decide) mbX9_find cfX9 rfl wd_1204 wd_1205 wd_1206 rfl rfl (Nat.le_of_ble_eq_true rfl) (fun x108 h107 => ?_)
                                      refine tq_icmp_eq 530 dL_law_525 (by decide) (fun _ => ?_) (fun _ => ?_)
                                      · exact tL_law_530 G ih v1 v2 v3 h107
                                      · exact tq_sub [] rfl (tL_law_528 G h107)
                                    · have q0 := lv_neT hn0 (show (0 : Int32).toInt = 0 by decide)
                                      have q1 := lv_neT hn1 (show (1 : Int32).toInt = 1 by decide)
                                      have q2 := lv_neT hn2 (show (2 : Int32).toInt = 2 by decide)
                                      have q3 := lv_neT hn3 (show (3 : Int32).toInt = 3 by decide)
                                      have q4 := lv_neT hn4 (show (4 : Int32).toInt = 4 by decide)
                                      have q5 := lv_neT hn5 (show (5 : Int32).toInt = 5 by decide)
                                      have q6 := lv_neT hn6 (show (6 : Int32).toInt = 6 by decide)
                                      have q7 := lv_neT hn7 (show (7 : Int32).toInt = 7 by decide)
                                      have q8 := lv_neT hn8 (show (8 : Int32).toInt = 8 by decide)
                                      have q9 := lv_neT hn9 (show (9 : Int32).toInt = 9 by decide)
                                      have q10 := lv_neT hn10 (show (10 : Int32).toInt = 10 by decide)
                                      have q11 := lv_neT hn11 (show (11 : Int32).toInt = 11 by decide)
                                      have q12 := lv_neT hn12 (show (12 : Int32).toInt = 12 by decide)
                                      have q13 := lv_neT hn13 (show (13 : Int32).toInt = 13 by decide)
                                      have q14 := lv_neT hn14 (show (14 : Int32).toInt = 14 by decide)
                                      have q15 := lv_neT hn15 (show (15 : Int32).toInt = 15 by decide)
                                      refine tq_tableOut 530 dL_law_33 (by omega) (by decide) ?_
                                      exact tL_law_530 G ih v1 v2 v3 h
noncomputable def fL_law_0 (G : sr_G)  (h : AH) : Option (Unit × AH) := cNO h 8 5 fun x1 h2 => cCV h2 8 x1 (fX8_init x1 h2) fun _ h3 => cNO h3 9 45 fun x4 h5 => cCV h5 9 x4 (fX9_init x4 h5) fun _ h6 => fL_law_18 G FU x1 x4 (nI 0) h6
theorem tL_law_0 (G : sr_G)  (h : AH) : sr_T (X := Unit) G 40 RL cL_law 4 ret false (sr_LZ G) 0 [(0, vR (some G.2.2.2.2.2.2.1))] [] h (fL_law_0 G h) := by
  unfold fL_law_0
  refine tq_new dL_law_0 cfX8 dvX8 wd_84 wd_85 wd_70 (fun x1 h2 => ?_)
  refine tq_dupR dL_law_3 ?_
  refine tq_callI [] [vR x1] dL_law_4 (eX8_init G x1 h2) (by decide) mbX8_init wd_86 wd_87 rfl rfl rfl (Nat.le_of_ble_eq_true rfl) (fun _ h3 => ?_)
  refine tq_astore_n 1 (L' := [(1, vR x1), (0, vR (some G.2.2.2.2.2.2.1))]) dL_law_7 rfl (by decide) rfl ?_
  refine tq_new dL_law_8 cfX9 dvX9 wd_858 wd_821 wd_78 (fun x4 h5 => ?_)
  refine tq_dupR dL_law_11 ?_
  refine tq_callI [] [vR x4] dL_law_12 (eX9_init G x4 h5) (by decide) mbX9_init wd_859 wd_860 rfl rfl rfl (Nat.le_of_ble_eq_true rfl) (fun _ h6 => ?_)
  refine tq_astore_n 2 (L' := [(2, vR x4), (1, vR x1), (0, vR (some G.2.2.2.2.2.2.1))]) dL_law_15 rfl (by decide) rfl ?_
  refine tq_iconst (nI 0) dL_law_16 (by decide) ?_
  refine tq_istore_n 3 (L' := [(3, vI (nI 0)), (2, vR x4), (1, vR x1), (0, vR (some G.2.2.2.2.2.2.1))]) dL_law_17 rfl (by decide) rfl ?_
  exact tq_sub [3, 2, 1, 0] rfl (tL_law_18 G FU x1 x4 (nI 0) h6)

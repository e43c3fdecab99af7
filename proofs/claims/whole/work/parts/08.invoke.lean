section INVOKE
variable {G : sr_G} {d : Nat} {own : String} {cc : ByteArray} {nL : Nat} {ret : Option FieldType} {ini : Bool} {X : Type} {inj : sr_Z X} {pc : Nat} {L : List (Nat × sr_V)} {st : List sr_V} {h : AH} {F : Option (X × AH)}
theorem tq_iret {v : Int32} (hret : ret = some .int) (hd : decode cc pc = .ok (.ireturn, 1)) : sr_T G d own cc nL ret ini (sr_M G jI) pc L [vI v] h (some (v, h)) := by
  intro x h' hF
  cases hF
  refine ⟨⟨Nat.le_refl _, Nat.le_refl _⟩, ?_⟩
  intro p e R s m args below meth c n0 s0 H locs ls C h1 h2 h3 h4 h5 h6 h7 h8 h9
  have hlocks : meth.locks = false := C.2.2.2.2.2.2.1
  exact W.iret (v := v) C.1 C.2.1 (by rw [C.2.2.1, hret]) (fun t ht hW => ⟨rfl, by rw [ht]; exact h7, h8.F ht⟩) h8.2.2 hd hlocks
theorem tq_zret {v : Int32} (hret : ret = some .boolean) (hd : decode cc pc = .ok (.ireturn, 1)) : sr_T G d own cc nL ret ini (sr_M G jI) pc L [vI v] h (cZ v (some (v, h))) := by
  intro x h' hF
  unfold cZ at hF
  by_cases hv : v = 0 ∨ v = 1
  · rw [if_pos hv] at hF
    cases hF
    refine ⟨⟨Nat.le_refl _, Nat.le_refl _⟩, ?_⟩
    intro p e R s m args below meth c n0 s0 H locs ls C h1 h2 h3 h4 h5 h6 h7 h8 h9
    have hlocks : meth.locks = false := C.2.2.2.2.2.2.1
    exact W.zret (v := v) (ty := .boolean) C.1 C.2.1 (by rw [C.2.2.1, hret]) (by rcases hv with rfl | rfl <;> rfl) (fun t ht hW => ⟨rfl, by rw [ht]; exact h7, h8.F ht⟩) h8.2.2 hd hlocks
  · rw [if_neg hv] at hF
    cases hF
theorem tq_lret {v : Int64} (hret : ret = some .long) (hd : decode cc pc = .ok (.lreturn, 1)) : sr_T G d own cc nL ret ini (sr_M G jL) pc L [vL v] h (some (v, h)) := by
  intro x h' hF
  cases hF
  refine ⟨⟨Nat.le_refl _, Nat.le_refl _⟩, ?_⟩
  intro p e R s m args below meth c n0 s0 H locs ls C h1 h2 h3 h4 h5 h6 h7 h8 h9
  have hlocks : meth.locks = false := C.2.2.2.2.2.2.1
  exact W.lret (v := v) C.1 C.2.1 (by rw [C.2.2.1, hret]) (fun t ht hW => ⟨rfl, by rw [ht]; exact h7, h8.F ht⟩) h8.2.2 hd hlocks
theorem tq_aret {v : Option Nat} {o : String} (hret : ret = some (.object o)) (hd : decode cc pc = .ok (.areturn, 1)) : sr_T G d own cc nL ret ini (sr_M G jR) pc L [vR v] h (some (v, h)) := by
  intro x h' hF
  cases hF
  refine ⟨⟨Nat.le_refl _, Nat.le_refl _⟩, ?_⟩
  intro p e R s m args below meth c n0 s0 H locs ls C h1 h2 h3 h4 h5 h6 h7 h8 h9
  have hlocks : meth.locks = false := C.2.2.2.2.2.2.1
  refine W.aret (v := va_rf v) (rt := .object o) C.1 C.2.1 (by rw [C.2.2.1, hret]) (Or.inl ⟨o, rfl⟩) ?_ (fun t ht hW => ⟨rfl, by rw [ht]; exact h7, h8.F ht⟩) h8.2.2 hd hlocks
  cases v with
  | none => exact Or.inl rfl
  | some a => exact Or.inr ⟨a, rfl⟩
theorem tq_vret (hret : ret = none) (hd : decode cc pc = .ok (.return_, 1)) : sr_T G d own cc nL ret ini (sr_M G jV) pc L [] h (some ((), h)) := by
  intro x h' hF
  cases hF
  refine ⟨⟨Nat.le_refl _, Nat.le_refl _⟩, ?_⟩
  intro p e R s m args below meth c n0 s0 H locs ls C h1 h2 h3 h4 h5 h6 h7 h8 h9
  have hlocks : meth.locks = false := C.2.2.2.2.2.2.1
  exact W.vret C.1 C.2.1 (by rw [C.2.2.1, hret]) (fun t ht hW => ⟨rfl, by rw [ht]; exact h7, h8.F ht⟩) h8.2.2 hd hlocks
/-- the words that a frame's other operands take -/
def sr_rw (l : List sr_V) : Nat := match l with
  | [] => 0
  | v :: l => (match sr_c2 v with
    | true => 2
    | false => 1) + sr_rw l
theorem sr_rw_eq (l : List sr_V) : ((l.map sr_em).map fun v => v.category).sum = sr_rw l := by
  induction l with
  | nil => rfl
  | cons v l ih =>
    rw [List.map_cons, List.map_cons, List.sum_cons, ih]
    show _ = (match sr_c2 v with
      | true => 2
      | false => 1) + sr_rw l
    congr 1
    have hq := sr_c2_eq v
    rcases lv_cat (sr_em v) with hc | hc
    · rw [hc] at hq ⊢
      rw [← hq]
      rfl
    · rw [hc] at hq ⊢
      rw [← hq]
      rfl
theorem sr_after {p : Program} {e : Env} {R : Room} {s : State} {m : MethodId} {args : Array Value} {below : List Frame} {meth : Method} {c : Code} {H : Heap} {locs : List Loc} {cells slots mc ms : Nat} {Q : State → Prop} {ls : Array Slot} {stv restv : List Value} {Y : Type} {injY : Y → Option sr_V} {y0 : Y} {h1 : AH} {a : Array Value}
    (hr : va_Run p G.1 e R s m args below meth c H locs cells slots mc ms (F0 m pc ls stv) restv (sr_Q G injY y0 h1 a) (sr_A G)) (hS : va_S (sr_A G) s.heap H locs)
    (kk : ∀ (H1 : Heap) (locs1 : List Loc), sr_Rep G h1 H1 → va_S (sr_A G) s.heap H1 locs1 → W p G.1 e R s m args below meth c H1 locs1 (cells + mc) (slots + ms) Q (F0 m (pc + 3) ls (((injY y0).map sr_em).toList ++ restv))) : W p G.1 e R s m args below meth c H locs cells slots Q (F0 m pc ls stv) := by
  intro T hT X
  obtain ⟨v, st₀, t, T', L, h0, X', hL, e1, e2, ⟨hv, hp, hz, hk⟩, st⟩ := hr T hT X
  have hv' : v = (injY y0).map sr_em := Outcome.returned.inj hv
  subst hv'
  rw [h0] at hz hk
  obtain ⟨t2, a1, b1⟩ := kk T'.heap (locs ++ L) (by rw [e1]; exact hp)
    ⟨Nat.le_trans hS.1 (by rw [e1]; exact hz), fun q h1 h2 => by rw [e1, hk q (Nat.lt_of_lt_of_le h1 hS.1) h2]; exact hS.2.1 q h1 h2, fun q hq => by
      rcases List.mem_append.mp hq with h | h
      · exact hS.2.2 q h
      · exact hL q h⟩ T' rfl X'
  exact ⟨t2, st t2 a1, b1⟩
theorem sr_blind (av : List sr_V) (h : AH) : FrameBlind (va_Pc (av.map sr_em) (fun U => sr_Rep G h U.heap ∧ sr_K G U)) := fun _ _ _ _ q => ⟨q.1, q.2.1, q.2.2.same rfl rfl⟩
/-- what a caller must know of a method -/
def sr_mb (y : MethodName) (cy : ByteArray) (nLy : Nat) (rety : Option FieldType) (n : Nat) : Prop :=
  Cond.initialized y.cls ∈ sr_tbl ∧ Cond.code y cy nLy rety ∈ sr_tbl ∧ (y.cls ≠ "java/lang/invoke/MethodHandle" ∧ y.cls ≠ "java/lang/invoke/VarHandle" ∧ (parseMethodDescriptor y.desc).map (fun d => d.parameters.length) = some n) ∧ nLy ≤ 40
theorem sr_gw {y : MethodName} {cy : ByteArray} {nLy : Nat} {rety : Option FieldType} (hm : Cond.code y cy nLy rety ∈ sr_tbl) : GoodIn sr_tbl (Cond.code y cy nLy rety :: sr_tbl) := fun w hw => (List.mem_cons.mp hw).elim (fun q => by rw [q]; exact sr_good _ hm) (sr_good w)
/-- the part that all calls share: what comes behind it -/
theorem sr_T.call {Y : Type} {injY : Y → Option sr_V} {x : Option (Y × AH)} {K : Y → AH → Option (X × AH)} {d' nLy n : Nat} {y : MethodName} {cy : ByteArray} {rety : Option FieldType} {av rest : List sr_V} (hE : sr_E G d' y cy nLy rety injY av h x) (hdd : d' + 1 ≤ d) (hm : sr_mb y cy nLy rety n)
    (hrun : ∀ (y0 : Y) (h1 : AH) (p : Program) (e : Env) (R : Room) (s : State) (m : MethodId) (args : Array Value) (below : List Frame) (meth : Method) (c : Code) (H : Heap) (locs : List Loc) (cells slots : Nat) (ls : Array Slot), sr_Cx G own cc nL ret ini p s m args meth c → sr_Rep G h H → va_S (sr_A G) s.heap H locs → lv_has ls nL (sr_el L) →
      (Met G.1 y (Cond.code y cy nLy rety :: sr_tbl) { frames := d', cells := gN h1 - gN h, slots := gS h1 - gS h, locals := 64 * d' } (va_Pc (av.map sr_em) (fun U => sr_Rep G h U.heap ∧ sr_K G U)) (sr_Q G injY y0 h1) (gN h1 - gN h) (gS h1 - gS h) (sr_A G)) →
      (d' + 1 ≤ R.frames ∧ 8 + (nLy + 11) + 64 * d' ≤ R.locals) → (cells + (gN h1 - gN h) ≤ R.cells ∧ slots + (gS h1 - gS h) ≤ R.slots) → (∀ U : State, U.heap = H → s.WarmedH U.vm → va_Pc (av.map sr_em) (fun U => sr_Rep G h U.heap ∧ sr_K G U) (av.map sr_em).toArray U) →
      va_Run p G.1 e R s m args below meth c H locs cells slots (gN h1 - gN h) (gS h1 - gS h) (F0 m pc ls (st.map sr_em)) (rest.map sr_em) (sr_Q G injY y0 h1 (av.map sr_em).toArray) (sr_A G))
    (kk : ∀ (y0 : Y) (h1 : AH), sr_T G d own cc nL ret ini inj (pc + 3) L ((injY y0).toList ++ rest) h1 (K y0 h1)) : sr_T G d own cc nL ret ini inj pc L st h (cCL x K) := by
  intro x0 h' hF
  cases x with
  | none => cases hF
  | some q =>
    obtain ⟨y0, h1⟩ := q
    have hF' : K y0 h1 = some (x0, h') := hF
    obtain ⟨⟨m1, m2⟩, hM⟩ := hE y0 h1 rfl
    obtain ⟨⟨k0, k1⟩, k2⟩ := kk y0 h1 x0 h' hF'
    refine ⟨⟨Nat.le_trans m1 k0, Nat.le_trans m2 k1⟩, ?_⟩
    intro p e R s m args below meth c n0 s0 H locs ls C h1' h2 h3 h4 h5 h6 h7 h8 h9
    have e1 : gN h - n0 + (gN h1 - gN h) = gN h1 - n0 := by omega
    have e2 : gS h - s0 + (gS h1 - gS h) = gS h1 - s0 := by omega
    have hnl := hm.2.2.2
    have hK : sr_K G s := C.2.2.2.2.2.2.2.1
    refine sr_after (hrun y0 h1 p e R s m args below meth c H locs _ _ ls C h7 h8 h9 hM ⟨by omega, by omega⟩ ⟨by omega, by omega⟩ (fun U hU hW => ⟨rfl, by rw [hU]; exact h7, hK.go hW (by rw [hU]; exact h8.1) (fun q q1 q2 => by rw [hU]; exact h8.2.1 q q1 q2)⟩)) h8 (fun H1 locs1 q1 q2 => ?_)
    rw [e1, e2]
    have hst : ((injY y0).map sr_em).toList ++ rest.map sr_em = ((injY y0).toList ++ rest).map sr_em := by
      rw [List.map_append]
      cases injY y0 <;> rfl
    rw [hst]
    exact k2 p e R s m args below meth c n0 s0 H1 locs1 ls C h1' h2 (by omega) (by omega) h5 h6 q1 q2 h9
/-- a call on an object of class c -/
def cCV {Y Z : Type} (h : AH) (c : Nat) (r : Option Nat) (x : Option (Z × AH)) (K : Z → AH → Option Y) : Option Y := match r with
  | none => none
  | some a => if (gK h a).1 = c + 1 then cCL x K else none
/-- a null check -/
def cNN {Y : Type} (r : Option Nat) (K : Option Y) : Option Y := match r with
  | none => none
  | some _ => K
theorem sr_onobj {c : Nat} {r : Option Nat} {Z : Type} {x : Option (Z × AH)} {K : Z → AH → Option (X × AH)} (kk : ∀ a, r = some a → (gK h a).1 = c + 1 → sr_T G d own cc nL ret ini inj pc L st h (cCL x K)) : sr_T G d own cc nL ret ini inj pc L st h (cCV h c r x K) := by
  intro x0 h' hF
  cases r with
  | none => cases hF
  | some a =>
    by_cases hka : (gK h a).1 = c + 1
    · refine kk a rfl hka x0 h' ?_
      rw [← hF]
      simp [cCV, hka]
    · simp [cCV, hka] at hF
theorem tq_callV {Y : Type} {injY : Y → Option sr_V} {r : Option Nat} {x : Option (Y × AH)} {K : Y → AH → Option (X × AH)} {d' nLy n c N index : Nat} {y : MethodName} {cy : ByteArray} {rety : Option FieldType} {C : String} {T : u_T} {st' : List sr_V} (As rest : List sr_V)
    (hd : decode cc pc = .ok (.invokevirtual index, 3)) (hE : sr_E G d' y cy nLy rety injY (vR r :: As) h x) (hdd : d' + 1 ≤ d) (hm : sr_mb y cy nLy rety n) (cf : sr_cf c C T N) (hC : y.cls = C) (hw : Cond.methodLink own index y ∈ sr_tbl) (hi : Cond.instanceMethod y ∈ sr_tbl) (hsel : Cond.selects C y y ∈ sr_tbl) (hn : As.length = n) (hst : st' = As.reverse ++ vR r :: rest) (hrw : sr_rw rest ≤ 8)
    (kk : ∀ (y0 : Y) (h1 : AH), sr_T G d own cc nL ret ini inj (pc + 3) L ((injY y0).toList ++ rest) h1 (K y0 h1)) : sr_T G d own cc nL ret ini inj pc L st' h (cCV h c r x K) := by
  subst hst
  refine sr_onobj (fun a hra hka => ?_)
  subst hra
  refine sr_T.call (rest := rest) hE hdd hm (fun y0 h1 p e R s m args below meth c' H locs cells slots ls C' hR hS h9 hM hroom hfit hpc => ?_) kk
  obtain ⟨hx, hb, -, hml, hown, hts, -, hK, -⟩ := C'
  obtain ⟨cellB, q1, q2, q3, -⟩ := hR.2.2.1 a c _ hka cf.1
  have hgw : GoodIn sr_tbl (wsV own index C y (Cond.code y cy nLy rety :: sr_tbl)) := by
    intro w hw'
    unfold wsV at hw'
    rcases List.mem_append.mp hw' with q | q
    · simp only [List.mem_cons, List.not_mem_nil, or_false] at q
      rcases q with rfl | rfl | rfl | rfl
      · exact sr_good _ hw
      · exact sr_good _ hi
      · exact sr_good _ hsel
      · exact sr_good _ (hC ▸ hm.1)
    · exact sr_gw hm.2.1 w q
  exact va_runV (As := As.map sr_em) (rest := rest.map sr_em) (b := a) (Ts := sr_tbl) ⟨hx, hb, hml, hown, hts⟩ hM (cwV n hts hgw rfl rfl rfl ⟨hC, hm.2.2.1⟩ hroom) ⟨sr_blind _ _, ⟨cellB, q1, by rw [q3]; rfl, by rw [q2]; exact (hK.1.1 c _ cf.1).2.1⟩, hpc⟩ rfl (by rw [List.length_map]; exact hn) h9.1 (by simp [F0, sr_em, va_rf]) (lv_room (by rw [sr_rw_eq]; exact hrw)) hd hfit
theorem tq_callS {Y : Type} {injY : Y → Option sr_V} {x : Option (Y × AH)} {K : Y → AH → Option (X × AH)} {d' nLy n index : Nat} {y : MethodName} {cy : ByteArray} {rety : Option FieldType} {st' : List sr_V} (As rest : List sr_V)
    (hd : decode cc pc = .ok (.invokestatic index, 3)) (hE : sr_E G d' y cy nLy rety injY As h x) (hdd : d' + 1 ≤ d) (hm : sr_mb y cy nLy rety n) (hw : Cond.methodLink own index y ∈ sr_tbl) (hi : Cond.static y ∈ sr_tbl) (hn : As.length = n) (hst : st' = As.reverse ++ rest) (hrw : sr_rw rest ≤ 8)
    (kk : ∀ (y0 : Y) (h1 : AH), sr_T G d own cc nL ret ini inj (pc + 3) L ((injY y0).toList ++ rest) h1 (K y0 h1)) : sr_T G d own cc nL ret ini inj pc L st' h (cCL x K) := by
  subst hst
  refine sr_T.call (rest := rest) hE hdd hm (fun y0 h1 p e R s m args below meth c' H locs cells slots ls C' hR hS h9 hM hroom hfit hpc => ?_) kk
  obtain ⟨hx, hb, -, hml, hown, hts, -, hK, -⟩ := C'
  have hgw : GoodIn sr_tbl (va_wsS own index y (Cond.code y cy nLy rety :: sr_tbl)) := by
    intro w hw'
    unfold va_wsS at hw'
    rcases List.mem_append.mp hw' with q | q
    · simp only [List.mem_cons, List.not_mem_nil, or_false] at q
      rcases q with rfl | rfl | rfl
      · exact sr_good _ hw
      · exact sr_good _ hi
      · exact sr_good _ hm.1
    · exact sr_gw hm.2.1 w q
  exact va_runS (As := As.map sr_em) (rest := rest.map sr_em) (Ts := sr_tbl) ⟨hx, hb, hml, hown, hts⟩ hM (va_cwS n hts hgw rfl rfl rfl hm.2.2.1 hroom) ⟨sr_blind _ _, hpc⟩ rfl (by rw [List.length_map]; exact hn) h9.1 (by simp [F0]) (lv_room (by rw [sr_rw_eq]; exact hrw)) hd hfit
/-- a private static method of a nest mate -/
theorem tq_callSN {Y : Type} {injY : Y → Option sr_V} {x : Option (Y × AH)} {K : Y → AH → Option (X × AH)} {d' nLy n index : Nat} {y : MethodName} {host : String} {cy : ByteArray} {rety : Option FieldType} {st' : List sr_V} (As rest : List sr_V)
    (hd : decode cc pc = .ok (.invokestatic index, 3)) (hE : sr_E G d' y cy nLy rety injY As h x) (hdd : d' + 1 ≤ d) (hm : sr_mb y cy nLy rety n) (hw : (own, index, y, host) ∈ sr_nws) (hi : Cond.static y ∈ sr_tbl) (hn : As.length = n) (hst : st' = As.reverse ++ rest) (hrw : sr_rw rest ≤ 8)
    (kk : ∀ (y0 : Y) (h1 : AH), sr_T G d own cc nL ret ini inj (pc + 3) L ((injY y0).toList ++ rest) h1 (K y0 h1)) : sr_T G d own cc nL ret ini inj pc L st' h (cCL x K) := by
  subst hst
  refine sr_T.call (rest := rest) hE hdd hm (fun y0 h1 p e R s m args below meth c' H locs cells slots ls C' hR hS h9 hM hroom hfit hpc => ?_) kk
  obtain ⟨hx, hb, -, hml, hown, hts, -, hK, -⟩ := C'
  have hnw : va_Nw (.methodLinkNest own index y host) s := hK.2.2.2.2.1 (own, index, y, host) hw
  exact va_runSN (As := As.map sr_em) (rest := rest.map sr_em) (Ts := sr_tbl) ⟨hx, hb, hml, hown, hts⟩ hM ⟨va_cnB n hts (sr_gw hm.2.1) rfl rfl rfl hnw (hts _ hm.1) hm.2.2.1 hroom, hts _ hi, trivial⟩ ⟨sr_blind _ _, hpc⟩ rfl (by rw [List.length_map]; exact hn) h9.1 (by simp [F0]) (lv_room (by rw [sr_rw_eq]; exact hrw)) hd hfit
/-- constructors -/
theorem tq_callI {r : Option Nat} {x : Option (Unit × AH)} {K : Unit → AH → Option (X × AH)} {d' nLy n c index : Nat} {y : MethodName} {cy : ByteArray} {st' : List sr_V} (As rest : List sr_V)
    (hd : decode cc pc = .ok (.invokespecial index, 3)) (hE : sr_E G d' y cy nLy none jV (vR r :: As) h x) (hdd : d' + 1 ≤ d) (hm : sr_mb y cy nLy none n) (hw : Cond.methodLink own index y ∈ sr_tbl) (hi : Cond.instanceMethod y ∈ sr_tbl) (hy : y.name = "<init>") (hn : As.length = n) (hst : st' = As.reverse ++ vR r :: rest) (hrw : sr_rw rest ≤ 8)
    (kk : ∀ (y0 : Unit) (h1 : AH), sr_T G d own cc nL ret ini inj (pc + 3) L ((jV y0).toList ++ rest) h1 (K y0 h1)) : sr_T G d own cc nL ret ini inj pc L st' h (cCV h c r x K) := by
  subst hst
  refine sr_onobj (fun a hra hka => ?_)
  subst hra
  refine sr_T.call (rest := rest) hE hdd hm (fun y0 h1 p e R s m args below meth c' H locs cells slots ls C' hR hS h9 hM hroom hfit hpc => ?_) kk
  obtain ⟨hx, hb, -, hml, hown, hts, -, hK, -⟩ := C'
  exact va_runI (As := As.map sr_em) (rest := rest.map sr_em) (b := a) (Ts := sr_tbl) ⟨hx, hb, hml, hown, hts⟩ hM (cwI n hts (sr_gw hm.2.1) rfl rfl rfl (hts _ hm.1) (hts _ hw) (hts _ hi) hy hm.2.2.1 hroom) ⟨sr_blind _ _, hpc⟩ rfl (by rw [List.length_map]; exact hn) h9.1 (by simp [F0, sr_em, va_rf]) (lv_room (by rw [sr_rw_eq]; exact hrw)) hd hfit
theorem tq_callIN {r : Option Nat} {x : Option (Unit × AH)} {K : Unit → AH → Option (X × AH)} {d' nLy n c index : Nat} {y : MethodName} {host : String} {cy : ByteArray} {st' : List sr_V} (As rest : List sr_V)
    (hd : decode cc pc = .ok (.invokespecial index, 3)) (hE : sr_E G d' y cy nLy none jV (vR r :: As) h x) (hdd : d' + 1 ≤ d) (hm : sr_mb y cy nLy none n) (hw : (own, index, y, host) ∈ sr_nws) (hi : Cond.instanceMethod y ∈ sr_tbl) (hy : y.name = "<init>") (hn : As.length = n) (hst : st' = As.reverse ++ vR r :: rest) (hrw : sr_rw rest ≤ 8)
    (kk : ∀ (y0 : Unit) (h1 : AH), sr_T G d own cc nL ret ini inj (pc + 3) L ((jV y0).toList ++ rest) h1 (K y0 h1)) : sr_T G d own cc nL ret ini inj pc L st' h (cCV h c r x K) := by
  subst hst
  refine sr_onobj (fun a hra hka => ?_)
  subst hra
  refine sr_T.call (rest := rest) hE hdd hm (fun y0 h1 p e R s m args below meth c' H locs cells slots ls C' hR hS h9 hM hroom hfit hpc => ?_) kk
  obtain ⟨hx, hb, -, hml, hown, hts, -, hK, -⟩ := C'
  have hnw : va_Nw (.methodLinkNest own index y host) s := hK.2.2.2.2.1 (own, index, y, host) hw
  exact va_runIN (As := As.map sr_em) (rest := rest.map sr_em) (b := a) (Ts := sr_tbl) ⟨hx, hb, hml, hown, hts⟩ hM ⟨va_cnB n hts (sr_gw hm.2.1) rfl rfl rfl hnw (hts _ hm.1) hm.2.2.1 hroom, hy, hts _ hi⟩ ⟨sr_blind _ _, hpc⟩ rfl (by rw [List.length_map]; exact hn) h9.1 (by simp [F0, sr_em, va_rf]) (lv_room (by rw [sr_rw_eq]; exact hrw)) hd hfit
/-- Object's own constructor -/
theorem tq_objI {r : Option Nat} {index : Nat} (hd : decode cc pc = .ok (.invokespecial index, 3)) (hdd : 1 ≤ d) (hw : Cond.methodLink own index objectInit ∈ sr_tbl) (hi : Cond.instanceMethod objectInit ∈ sr_tbl) (hc : Cond.code objectInit ⟨#[0xb1]⟩ 1 none ∈ sr_tbl) (hrw : sr_rw st ≤ 8)
    (kk : sr_T G d own cc nL ret ini inj (pc + 3) L st h F) : sr_T G d own cc nL ret ini inj pc L (vR r :: st) h (cNN r F) := by
  intro x h' hF
  cases r with
  | none => cases hF
  | some a =>
    refine sr_T.read (fun p e R s m args below meth c' H locs cells slots ls Q C' hR hS hf hl h9 kk => ?_) kk x h' hF
    obtain ⟨hx, hb, -, hml, hown, hts, -, hK, -⟩ := C'
    refine W.objInit hx hb hown (hts _ hw) (hts _ hi) (hts _ hc) rfl (by rw [hml]; exact h9.1) rfl hd (by omega) ?_ kk
    have := sr_rw_eq st
    show 2 * 0 + _ + 12 ≤ _
    omega
/-- where the arguments stand at a method's entry -/
def sr_args (i : Nat) (l : List sr_V) : List (Nat × sr_V) := match l with
  | [] => []
  | v :: l => (i, v) :: sr_args (match sr_c2 v with
    | true => i + 2
    | false => i + 1) l
theorem sr_args_eq (l : List sr_V) : ∀ i, lv_args i (l.map sr_em) = sr_el (sr_args i l) := by
  induction l with
  | nil => intro i; rfl
  | cons v l ih =>
    intro i
    show (i, sr_em v) :: lv_args (if (sr_em v).category = 2 then i + 2 else i + 1) (l.map sr_em) = (i, sr_em v) :: sr_el (sr_args _ l)
    rw [ih]
    congr 3
    have hq := sr_c2_eq v
    rcases lv_cat (sr_em v) with hc | hc
    · rw [hc] at hq ⊢
      rw [← hq]
      rfl
    · rw [hc] at hq ⊢
      rw [← hq]
      rfl
theorem sr_sl_len (l : List sr_V) : (lg_sl (l.map sr_em)).length = sr_rw l := by
  induction l with
  | nil => rfl
  | cons v l ih =>
    have e1 : lg_sl ((v :: l).map sr_em) = (if (sr_em v).category = 2 then [Slot.val (sr_em v), .second] else [.val (sr_em v)]) ++ lg_sl (l.map sr_em) := by
      simp [lg_sl]
    rw [e1, List.length_append, ih]
    show _ = (match sr_c2 v with
      | true => 2
      | false => 1) + sr_rw l
    congr 1
    have hq := sr_c2_eq v
    rcases lv_cat (sr_em v) with hc | hc
    · rw [hc] at hq ⊢
      rw [← hq]
      rfl
    · rw [hc] at hq ⊢
      rw [← hq]
      rfl
/-- a contract, out of the walk of its body -/
theorem sr_E.of {y : MethodName} {av : List sr_V} (hy : plainName y.cls = true) (ho : y.cls = own) (hin : ini = true → y.name = "<init>") (hL : sr_args 0 av = L) (hnl : sr_rw av ≤ nL) {inj : X → Option sr_V} (k : sr_T G d own cc nL ret ini (sr_M G inj) 0 L [] h F) : sr_E G d y cc nL ret inj av h F := by
  subst ho
  intro x h' hF
  obtain ⟨k1, k2⟩ := k x h' hF
  refine ⟨k1, ?_⟩
  refine Met.ofW (cc := cc) (maxL := nL) (ret := ret) hy rfl ?_
  intro p e s m args below meth c s₁ B hml hv
  obtain ⟨rfl, hR, hK⟩ := hv
  have hts := atoms_spec (ws := Cond.code y cc nL ret :: sr_tbl) B.pre
  have hl := lv_entry (av.map sr_em) (n := nL) (by rw [sr_sl_len]; exact hnl)
  rw [lg_entry_eq]
  generalize (lg_sl (av.map sr_em) ++ List.replicate (nL - (lg_sl (av.map sr_em)).length) Slot.unset).toArray = ls at hl ⊢
  rw [sr_args_eq, hL] at hl
  have hres := k2 p e (headSpec (Cond.code y cc nL ret :: sr_tbl) { frames := d, cells := gN h' - gN h, slots := gS h' - gS h, locals := 64 * d }).room s m (av.map sr_em).toArray below meth c (gN h) (gS h) s.heap [] ls ⟨B.exec, B.bytes, B.returns, hml, findClass_of_methodNamed B.named, fun w hw => hts w (List.mem_cons_of_mem _ hw), B.notSynchronized, hK, fun q => by rw [(name_of_methodNamed B.named B.method).1]; exact hin q⟩ (Nat.le_refl _) (Nat.le_refl _) (Nat.le_refl _) (Nat.le_refl _) (Nat.le_refl _) (Nat.le_refl _) hR va_S.rf hl
  rw [Nat.sub_self, Nat.sub_self] at hres
  exact hres
end INVOKE
section INVOKE2
variable {G : sr_G} {d : Nat} {own : String} {cc : ByteArray} {nL : Nat} {ret : Option FieldType} {ini : Bool} {X : Type} {inj : sr_Z X} {pc : Nat} {L : List (Nat × sr_V)} {st : List sr_V} {h : AH} {F : Option (X × AH)}
theorem tq_none : sr_T G d own cc nL ret ini inj pc L st h (none : Option (X × AH)) := fun _ _ hF => by cases hF
/-- the script's own ints and length -/
def cXL {Y : Type} (G : sr_G) (i : Int32) (K : Int32 → Option Y) : Option Y := if 0 ≤ i.toInt ∧ i.toInt < G.2.2.2.2.2.2.2.1 then K (G.2.2.2.2.2.2.2.2 i.toNatClampNeg) else none
theorem tq_sld {i : Int32} {K : Int32 → Option (X × AH)} (hd : decode cc pc = .ok (.iaload, 1)) (kk : ∀ w, sr_T G d own cc nL ret ini inj (pc + 1) L (vI w :: st) h (K w)) : sr_T G d own cc nL ret ini inj pc L (vI i :: vR (some G.2.2.2.2.2.2.1) :: st) h (cXL G i K) := by
  intro x h' hF
  unfold cXL at hF
  by_cases hc : 0 ≤ i.toInt ∧ i.toInt < G.2.2.2.2.2.2.2.1
  · rw [if_pos hc] at hF
    refine sr_T.read (fun p e R s m args below meth c' H locs cells slots ls Q C' hR hS _ _ h9 kk => ?_) (kk _) x h' hF
    obtain ⟨hx, hb, -, -, -, -, -, hK, -⟩ := C'
    have hX := hK.2.2.2.2.2.2.2
    exact va_sld hx hb hX.1 (Nat.lt_of_lt_of_le hX.2 hK.2.2.1) (Nat.not_le.mpr hX.2) hS (sr_inb hc.1 hc.2) hd kk
  · rw [if_neg hc] at hF
    cases hF
theorem tq_slen (hd : decode cc pc = .ok (.arraylength, 1)) (kk : sr_T G d own cc nL ret ini inj (pc + 1) L (vI (nI G.2.2.2.2.2.2.2.1) :: st) h F) : sr_T G d own cc nL ret ini inj pc L (vR (some G.2.2.2.2.2.2.1) :: st) h F := by
  refine sr_T.read (fun p e R s m args below meth c' H locs cells slots ls Q C' hR hS _ _ h9 kk => ?_) kk
  obtain ⟨hx, hb, -, -, -, -, -, hK, -⟩ := C'
  have hX := hK.2.2.2.2.2.2.2
  exact va_slen hx hb hX.1 (Nat.lt_of_lt_of_le hX.2 hK.2.2.1) (Nat.not_le.mpr hX.2) hS hd kk
end INVOKE2
section INVOKE3
variable {G : sr_G} {d : Nat} {own : String} {cc : ByteArray} {nL : Nat} {ret : Option FieldType} {ini : Bool} {X : Type} {inj : sr_Z X} {pc : Nat} {L : List (Nat × sr_V)} {h : AH}
theorem tq_cVI {r : Option Nat} {x : Option (Int32 × AH)} {K : Int32 → AH → Option (X × AH)} {d' nLy n c N index : Nat} {y : MethodName} {cy : ByteArray} {rety : Option FieldType} {C : String} {T : u_T} {st' : List sr_V} (As rest : List sr_V)
    (hd : decode cc pc = .ok (.invokevirtual index, 3)) (hE : sr_E G d' y cy nLy rety jI (vR r :: As) h x) (hdd : d' + 1 ≤ d) (hm : sr_mb y cy nLy rety n) (cf : sr_cf c C T N) (hC : y.cls = C) (hw : Cond.methodLink own index y ∈ sr_tbl) (hi : Cond.instanceMethod y ∈ sr_tbl) (hsel : Cond.selects C y y ∈ sr_tbl) (hn : As.length = n) (hst : st' = As.reverse ++ vR r :: rest) (hrw : sr_rw rest ≤ 8)
    (kk : ∀ (y0 : Int32) (h1 : AH), sr_T G d own cc nL ret ini inj (pc + 3) L (vI y0 :: rest) h1 (K y0 h1)) : sr_T G d own cc nL ret ini inj pc L st' h (cCV h c r x K) := tq_callV As rest hd hE hdd hm cf hC hw hi hsel hn hst hrw kk
theorem tq_cSI {x : Option (Int32 × AH)} {K : Int32 → AH → Option (X × AH)} {d' nLy n index : Nat} {y : MethodName} {cy : ByteArray} {rety : Option FieldType} {st' : List sr_V} (As rest : List sr_V)
    (hd : decode cc pc = .ok (.invokestatic index, 3)) (hE : sr_E G d' y cy nLy rety jI As h x) (hdd : d' + 1 ≤ d) (hm : sr_mb y cy nLy rety n) (hw : Cond.methodLink own index y ∈ sr_tbl) (hi : Cond.static y ∈ sr_tbl) (hn : As.length = n) (hst : st' = As.reverse ++ rest) (hrw : sr_rw rest ≤ 8)
    (kk : ∀ (y0 : Int32) (h1 : AH), sr_T G d own cc nL ret ini inj (pc + 3) L (vI y0 :: rest) h1 (K y0 h1)) : sr_T G d own cc nL ret ini inj pc L st' h (cCL x K) := tq_callS As rest hd hE hdd hm hw hi hn hst hrw kk
theorem tq_cNI {x : Option (Int32 × AH)} {K : Int32 → AH → Option (X × AH)} {d' nLy n index : Nat} {y : MethodName} {host : String} {cy : ByteArray} {rety : Option FieldType} {st' : List sr_V} (As rest : List sr_V)
    (hd : decode cc pc = .ok (.invokestatic index, 3)) (hE : sr_E G d' y cy nLy rety jI As h x) (hdd : d' + 1 ≤ d) (hm : sr_mb y cy nLy rety n) (hw : (own, index, y, host) ∈ sr_nws) (hi : Cond.static y ∈ sr_tbl) (hn : As.length = n) (hst : st' = As.reverse ++ rest) (hrw : sr_rw rest ≤ 8)
    (kk : ∀ (y0 : Int32) (h1 : AH), sr_T G d own cc nL ret ini inj (pc + 3) L (vI y0 :: rest) h1 (K y0 h1)) : sr_T G d own cc nL ret ini inj pc L st' h (cCL x K) := tq_callSN As rest hd hE hdd hm hw hi hn hst hrw kk
theorem tq_cVL {r : Option Nat} {x : Option (Int64 × AH)} {K : Int64 → AH → Option (X × AH)} {d' nLy n c N index : Nat} {y : MethodName} {cy : ByteArray} {rety : Option FieldType} {C : String} {T : u_T} {st' : List sr_V} (As rest : List sr_V)
    (hd : decode cc pc = .ok (.invokevirtual index, 3)) (hE : sr_E G d' y cy nLy rety jL (vR r :: As) h x) (hdd : d' + 1 ≤ d) (hm : sr_mb y cy nLy rety n) (cf : sr_cf c C T N) (hC : y.cls = C) (hw : Cond.methodLink own index y ∈ sr_tbl) (hi : Cond.instanceMethod y ∈ sr_tbl) (hsel : Cond.selects C y y ∈ sr_tbl) (hn : As.length = n) (hst : st' = As.reverse ++ vR r :: rest) (hrw : sr_rw rest ≤ 8)
    (kk : ∀ (y0 : Int64) (h1 : AH), sr_T G d own cc nL ret ini inj (pc + 3) L (vL y0 :: rest) h1 (K y0 h1)) : sr_T G d own cc nL ret ini inj pc L st' h (cCV h c r x K) := tq_callV As rest hd hE hdd hm cf hC hw hi hsel hn hst hrw kk
theorem tq_cSL {x : Option (Int64 × AH)} {K : Int64 → AH → Option (X × AH)} {d' nLy n index : Nat} {y : MethodName} {cy : ByteArray} {rety : Option FieldType} {st' : List sr_V} (As rest : List sr_V)
    (hd : decode cc pc = .ok (.invokestatic index, 3)) (hE : sr_E G d' y cy nLy rety jL As h x) (hdd : d' + 1 ≤ d) (hm : sr_mb y cy nLy rety n) (hw : Cond.methodLink own index y ∈ sr_tbl) (hi : Cond.static y ∈ sr_tbl) (hn : As.length = n) (hst : st' = As.reverse ++ rest) (hrw : sr_rw rest ≤ 8)
    (kk : ∀ (y0 : Int64) (h1 : AH), sr_T G d own cc nL ret ini inj (pc + 3) L (vL y0 :: rest) h1 (K y0 h1)) : sr_T G d own cc nL ret ini inj pc L st' h (cCL x K) := tq_callS As rest hd hE hdd hm hw hi hn hst hrw kk
theorem tq_cNL {x : Option (Int64 × AH)} {K : Int64 → AH → Option (X × AH)} {d' nLy n index : Nat} {y : MethodName} {host : String} {cy : ByteArray} {rety : Option FieldType} {st' : List sr_V} (As rest : List sr_V)
    (hd : decode cc pc = .ok (.invokestatic index, 3)) (hE : sr_E G d' y cy nLy rety jL As h x) (hdd : d' + 1 ≤ d) (hm : sr_mb y cy nLy rety n) (hw : (own, index, y, host) ∈ sr_nws) (hi : Cond.static y ∈ sr_tbl) (hn : As.length = n) (hst : st' = As.reverse ++ rest) (hrw : sr_rw rest ≤ 8)
    (kk : ∀ (y0 : Int64) (h1 : AH), sr_T G d own cc nL ret ini inj (pc + 3) L (vL y0 :: rest) h1 (K y0 h1)) : sr_T G d own cc nL ret ini inj pc L st' h (cCL x K) := tq_callSN As rest hd hE hdd hm hw hi hn hst hrw kk
theorem tq_cVR {r : Option Nat} {x : Option (Option Nat × AH)} {K : Option Nat → AH → Option (X × AH)} {d' nLy n c N index : Nat} {y : MethodName} {cy : ByteArray} {rety : Option FieldType} {C : String} {T : u_T} {st' : List sr_V} (As rest : List sr_V)
    (hd : decode cc pc = .ok (.invokevirtual index, 3)) (hE : sr_E G d' y cy nLy rety jR (vR r :: As) h x) (hdd : d' + 1 ≤ d) (hm : sr_mb y cy nLy rety n) (cf : sr_cf c C T N) (hC : y.cls = C) (hw : Cond.methodLink own index y ∈ sr_tbl) (hi : Cond.instanceMethod y ∈ sr_tbl) (hsel : Cond.selects C y y ∈ sr_tbl) (hn : As.length = n) (hst : st' = As.reverse ++ vR r :: rest) (hrw : sr_rw rest ≤ 8)
    (kk : ∀ (y0 : Option Nat) (h1 : AH), sr_T G d own cc nL ret ini inj (pc + 3) L (vR y0 :: rest) h1 (K y0 h1)) : sr_T G d own cc nL ret ini inj pc L st' h (cCV h c r x K) := tq_callV As rest hd hE hdd hm cf hC hw hi hsel hn hst hrw kk
theorem tq_cSR {x : Option (Option Nat × AH)} {K : Option Nat → AH → Option (X × AH)} {d' nLy n index : Nat} {y : MethodName} {cy : ByteArray} {rety : Option FieldType} {st' : List sr_V} (As rest : List sr_V)
    (hd : decode cc pc = .ok (.invokestatic index, 3)) (hE : sr_E G d' y cy nLy rety jR As h x) (hdd : d' + 1 ≤ d) (hm : sr_mb y cy nLy rety n) (hw : Cond.methodLink own index y ∈ sr_tbl) (hi : Cond.static y ∈ sr_tbl) (hn : As.length = n) (hst : st' = As.reverse ++ rest) (hrw : sr_rw rest ≤ 8)
    (kk : ∀ (y0 : Option Nat) (h1 : AH), sr_T G d own cc nL ret ini inj (pc + 3) L (vR y0 :: rest) h1 (K y0 h1)) : sr_T G d own cc nL ret ini inj pc L st' h (cCL x K) := tq_callS As rest hd hE hdd hm hw hi hn hst hrw kk
theorem tq_cNR {x : Option (Option Nat × AH)} {K : Option Nat → AH → Option (X × AH)} {d' nLy n index : Nat} {y : MethodName} {host : String} {cy : ByteArray} {rety : Option FieldType} {st' : List sr_V} (As rest : List sr_V)
    (hd : decode cc pc = .ok (.invokestatic index, 3)) (hE : sr_E G d' y cy nLy rety jR As h x) (hdd : d' + 1 ≤ d) (hm : sr_mb y cy nLy rety n) (hw : (own, index, y, host) ∈ sr_nws) (hi : Cond.static y ∈ sr_tbl) (hn : As.length = n) (hst : st' = As.reverse ++ rest) (hrw : sr_rw rest ≤ 8)
    (kk : ∀ (y0 : Option Nat) (h1 : AH), sr_T G d own cc nL ret ini inj (pc + 3) L (vR y0 :: rest) h1 (K y0 h1)) : sr_T G d own cc nL ret ini inj pc L st' h (cCL x K) := tq_callSN As rest hd hE hdd hm hw hi hn hst hrw kk
theorem tq_cVV {r : Option Nat} {x : Option (Unit × AH)} {K : Unit → AH → Option (X × AH)} {d' nLy n c N index : Nat} {y : MethodName} {cy : ByteArray} {rety : Option FieldType} {C : String} {T : u_T} {st' : List sr_V} (As rest : List sr_V)
    (hd : decode cc pc = .ok (.invokevirtual index, 3)) (hE : sr_E G d' y cy nLy rety jV (vR r :: As) h x) (hdd : d' + 1 ≤ d) (hm : sr_mb y cy nLy rety n) (cf : sr_cf c C T N) (hC : y.cls = C) (hw : Cond.methodLink own index y ∈ sr_tbl) (hi : Cond.instanceMethod y ∈ sr_tbl) (hsel : Cond.selects C y y ∈ sr_tbl) (hn : As.length = n) (hst : st' = As.reverse ++ vR r :: rest) (hrw : sr_rw rest ≤ 8)
    (kk : ∀ (y0 : Unit) (h1 : AH), sr_T G d own cc nL ret ini inj (pc + 3) L (rest) h1 (K y0 h1)) : sr_T G d own cc nL ret ini inj pc L st' h (cCV h c r x K) := tq_callV As rest hd hE hdd hm cf hC hw hi hsel hn hst hrw kk
theorem tq_cSV {x : Option (Unit × AH)} {K : Unit → AH → Option (X × AH)} {d' nLy n index : Nat} {y : MethodName} {cy : ByteArray} {rety : Option FieldType} {st' : List sr_V} (As rest : List sr_V)
    (hd : decode cc pc = .ok (.invokestatic index, 3)) (hE : sr_E G d' y cy nLy rety jV As h x) (hdd : d' + 1 ≤ d) (hm : sr_mb y cy nLy rety n) (hw : Cond.methodLink own index y ∈ sr_tbl) (hi : Cond.static y ∈ sr_tbl) (hn : As.length = n) (hst : st' = As.reverse ++ rest) (hrw : sr_rw rest ≤ 8)
    (kk : ∀ (y0 : Unit) (h1 : AH), sr_T G d own cc nL ret ini inj (pc + 3) L (rest) h1 (K y0 h1)) : sr_T G d own cc nL ret ini inj pc L st' h (cCL x K) := tq_callS As rest hd hE hdd hm hw hi hn hst hrw kk
theorem tq_cNV {x : Option (Unit × AH)} {K : Unit → AH → Option (X × AH)} {d' nLy n index : Nat} {y : MethodName} {host : String} {cy : ByteArray} {rety : Option FieldType} {st' : List sr_V} (As rest : List sr_V)
    (hd : decode cc pc = .ok (.invokestatic index, 3)) (hE : sr_E G d' y cy nLy rety jV As h x) (hdd : d' + 1 ≤ d) (hm : sr_mb y cy nLy rety n) (hw : (own, index, y, host) ∈ sr_nws) (hi : Cond.static y ∈ sr_tbl) (hn : As.length = n) (hst : st' = As.reverse ++ rest) (hrw : sr_rw rest ≤ 8)
    (kk : ∀ (y0 : Unit) (h1 : AH), sr_T G d own cc nL ret ini inj (pc + 3) L (rest) h1 (K y0 h1)) : sr_T G d own cc nL ret ini inj pc L st' h (cCL x K) := tq_callSN As rest hd hE hdd hm hw hi hn hst hrw kk
end INVOKE3

section RULES
variable {G : sr_G} {d : Nat} {own : String} {cc : ByteArray} {nL : Nat} {ret : Option FieldType} {ini : Bool} {X : Type} {inj : sr_Z X} {pc : Nat} {L : List (Nat × sr_V)} {st : List sr_V} {h : AH} {F : Option (X × AH)}
theorem sr_T.step {pc' : Nat} {L' : List (Nat × sr_V)} {st' : List sr_V}
    (hs : ∀ (p : Program) (e : Env) (R : Room) (s : State) (m : MethodId) (args : Array Value) (below : List Frame) (meth : Method) (c : Code) (H : Heap) (locs : List Loc) (cells slots : Nat) (ls : Array Slot) (Q : State → Prop), sr_Cx G own cc nL ret ini p s m args meth c → lv_has ls nL (sr_el L) →
      (∀ ls' : Array Slot, lv_has ls' nL (sr_el L') → W p G.1 e R s m args below meth c H locs cells slots Q (F0 m pc' ls' (st'.map sr_em))) → W p G.1 e R s m args below meth c H locs cells slots Q (F0 m pc ls (st.map sr_em)))
    (k : sr_T G d own cc nL ret ini inj pc' L' st' h F) : sr_T G d own cc nL ret ini inj pc L st h F := by
  intro x h' hF
  obtain ⟨k1, k2⟩ := k x h' hF
  refine ⟨k1, ?_⟩
  intro p e R s m args below meth c n0 s0 H locs ls C h1 h2 h3 h4 h5 h6 h7 h8 h9
  exact hs p e R s m args below meth c H locs _ _ ls _ C h9 (fun ls' h9' => k2 p e R s m args below meth c n0 s0 H locs ls' C h1 h2 h3 h4 h5 h6 h7 h8 h9')
/-- two roads -/
theorem sr_T.fork {c : Prop} (hc : Decidable c) {p1 p2 : Nat} {st' : List sr_V} {F1 F2 : Option (X × AH)}
    (hs : ∀ (p : Program) (e : Env) (R : Room) (s : State) (m : MethodId) (args : Array Value) (below : List Frame) (meth : Method) (cd : Code) (H : Heap) (locs : List Loc) (cells slots : Nat) (ls : Array Slot) (Q : State → Prop), sr_Cx G own cc nL ret ini p s m args meth cd → lv_has ls nL (sr_el L) →
      (c → W p G.1 e R s m args below meth cd H locs cells slots Q (F0 m p1 ls (st'.map sr_em))) → (¬ c → W p G.1 e R s m args below meth cd H locs cells slots Q (F0 m p2 ls (st'.map sr_em))) → W p G.1 e R s m args below meth cd H locs cells slots Q (F0 m pc ls (st.map sr_em)))
    (k1 : c → sr_T G d own cc nL ret ini inj p1 L st' h F1) (k2 : ¬ c → sr_T G d own cc nL ret ini inj p2 L st' h F2) : sr_T G d own cc nL ret ini inj pc L st h (if c then F1 else F2) := by
  intro x h' hF
  by_cases hx : c
  · rw [if_pos hx] at hF
    obtain ⟨q1, q2⟩ := k1 hx x h' hF
    refine ⟨q1, ?_⟩
    intro p e R s m args below meth cd n0 s0 H locs ls C h1 h2 h3 h4 h5 h6 h7 h8 h9
    exact hs p e R s m args below meth cd H locs _ _ ls _ C h9 (fun _ => q2 p e R s m args below meth cd n0 s0 H locs ls C h1 h2 h3 h4 h5 h6 h7 h8 h9) (fun z => absurd hx z)
  · rw [if_neg hx] at hF
    obtain ⟨q1, q2⟩ := k2 hx x h' hF
    refine ⟨q1, ?_⟩
    intro p e R s m args below meth cd n0 s0 H locs ls C h1 h2 h3 h4 h5 h6 h7 h8 h9
    exact hs p e R s m args below meth cd H locs _ _ ls _ C h9 (fun z => absurd z hx) (fun _ => q2 p e R s m args below meth cd n0 s0 H locs ls C h1 h2 h3 h4 h5 h6 h7 h8 h9)
/-- fewer locals -/
theorem tq_sub {L' : List (Nat × sr_V)} (ks : List Nat) (hl : ks.filterMap (fun k => L[k]?) = L') (k : sr_T G d own cc nL ret ini inj pc L' st h F) : sr_T G d own cc nL ret ini inj pc L st h F := by
  refine sr_T.step (fun p e R s m args below meth c H locs cells slots ls Q C h9 kk => kk ls ?_) k
  refine lv_sub h9 ks ?_
  subst hl
  simp [lv_pick, List.map_filterMap, List.filterMap_map]
  try rfl
theorem tq_sub0 {L' : List (Nat × sr_V)} (ks : List Nat) (k : sr_T G d own cc nL ret ini inj pc L' st h F) (hl : ks.filterMap (fun k => L[k]?) = L') : sr_T G d own cc nL ret ini inj pc L st h F := tq_sub ks hl k
theorem tq_F {F' : Option (X × AH)} (e : F = F') (k : sr_T G d own cc nL ret ini inj pc L st h F') : sr_T G d own cc nL ret ini inj pc L st h F := e ▸ k
theorem tq_iconst {n : Int} (v : Int32) (hd : decode cc pc = .ok (.iconst n, 1)) (hv : Int32.ofInt n = v) (k : sr_T G d own cc nL ret ini inj (pc + 1) L (vI v :: st) h F) : sr_T G d own cc nL ret ini inj pc L st h F :=
  sr_T.step (fun _ _ _ _ _ _ _ _ _ _ _ _ _ ls _ C h9 kk => lv_iconst C.1 C.2.1 hd hv (kk ls h9)) k
theorem tq_bipush {n : Int} (v : Int32) (hd : decode cc pc = .ok (.bipush n, 2)) (hv : (Int8.ofInt n).toInt32 = v) (k : sr_T G d own cc nL ret ini inj (pc + 2) L (vI v :: st) h F) : sr_T G d own cc nL ret ini inj pc L st h F :=
  sr_T.step (fun _ _ _ _ _ _ _ _ _ _ _ _ _ ls _ C h9 kk => lv_bipush C.1 C.2.1 hd hv (kk ls h9)) k
theorem tq_sipush {n : Int} (v : Int32) (hd : decode cc pc = .ok (.sipush n, 3)) (hv : (Int16.ofInt n).toInt32 = v) (k : sr_T G d own cc nL ret ini inj (pc + 3) L (vI v :: st) h F) : sr_T G d own cc nL ret ini inj pc L st h F :=
  sr_T.step (fun _ _ _ _ _ _ _ _ _ _ _ _ _ ls _ C h9 kk => lv_sipush C.1 C.2.1 hd hv (kk ls h9)) k
theorem tq_lconst {n : Fin 2} (v : Int64) (hd : decode cc pc = .ok (.lconst n, 1)) (hv : Int64.ofNat (n : Nat) = v) (k : sr_T G d own cc nL ret ini inj (pc + 1) L (vL v :: st) h F) : sr_T G d own cc nL ret ini inj pc L st h F :=
  sr_T.step (fun _ _ _ _ _ _ _ _ _ _ _ _ _ ls _ C h9 kk => lv_lconst C.1 C.2.1 hd hv (kk ls h9)) k
theorem tq_ldc {index : Nat} (v : Int32) (hd : decode cc pc = .ok (.ldc index, 2)) (hw : Cond.constant own index v ∈ sr_tbl) (k : sr_T G d own cc nL ret ini inj (pc + 2) L (vI v :: st) h F) : sr_T G d own cc nL ret ini inj pc L st h F :=
  sr_T.step (fun _ _ _ _ _ _ _ _ _ _ _ _ _ ls _ C h9 kk => lv_ldc C.1 C.2.1 C.2.2.2.2.1 (C.2.2.2.2.2.1 _ hw) hd (kk ls h9)) k
theorem tq_ldc2 {index : Nat} (v : Int64) (hd : decode cc pc = .ok (.ldc2_w index, 3)) (hw : Cond.constantLong own index v ∈ sr_tbl) (k : sr_T G d own cc nL ret ini inj (pc + 3) L (vL v :: st) h F) : sr_T G d own cc nL ret ini inj pc L st h F :=
  sr_T.step (fun _ _ _ _ _ _ _ _ _ _ _ _ _ ls _ C h9 kk => lv_ldc2 C.1 C.2.1 C.2.2.2.2.1 (C.2.2.2.2.2.1 _ hw) hd (kk ls h9)) k
theorem tq_ldcS {index : Nat} {tx : String} (i : Nat) (hd : decode cc pc = .ok (.ldc index, 2)) (hw : (own, index, tx, i) ∈ sr_lits) (k : sr_T G d own cc nL ret ini inj (pc + 2) L (vR (some (G.2.2.2.1 i)) :: st) h F) : sr_T G d own cc nL ret ini inj pc L st h F :=
  sr_T.step (fun _ _ _ _ _ _ _ _ _ _ _ _ _ ls _ C h9 kk => va_ldcS C.1 C.2.1 C.2.2.2.2.1 (C.2.2.2.2.2.2.2.1.2.2.2.1.2.1 _ hw) hd (kk ls h9)) k
theorem tq_null (hd : decode cc pc = .ok (.aconst_null, 1)) (k : sr_T G d own cc nL ret ini inj (pc + 1) L (vR none :: st) h F) : sr_T G d own cc nL ret ini inj pc L st h F :=
  sr_T.step (fun _ _ _ _ _ _ _ _ _ _ _ _ _ ls _ C h9 kk => lv_null C.1 C.2.1 hd (kk ls h9)) k
theorem sr_lat {L : List (Nat × sr_V)} {ls : Array Slot} {nL : Nat} (hl : lv_has ls nL (sr_el L)) (k : Nat) {i : Nat} {v : sr_V} (hk : L[k]? = some (i, v)) : ls[i]? = some (.val (sr_em v)) := by
  refine lv_at hl k ?_
  rw [List.getElem?_map, hk]
  rfl
def sr_c2 (v : sr_V) : Bool := match v with
  | .inr (.inl _) => true
  | _ => false
theorem sr_c2_eq (v : sr_V) : ((sr_em v).category == 2) = sr_c2 v := by
  rcases v with v | v | v
  · rfl
  · rfl
  · cases v <;> rfl
theorem sr_cat1 (r : Option Nat) : (va_rf r).category = 1 := by cases r <;> rfl
theorem sr_fil1 (i : Nat) (L : List (Nat × sr_V)) : (sr_el L).filter (fun q => !(q.1 == i) && !(q.1 + 1 == i && q.2.category == 2)) = sr_el (L.filter (fun q => !(q.1 == i) && !(q.1 + 1 == i && sr_c2 q.2))) := by
  rw [sr_el, List.filter_map]
  congr 2
  funext q
  show (!(q.1 == i) && !(q.1 + 1 == i && (sr_em q.2).category == 2)) = _
  rw [sr_c2_eq]
theorem sr_fil2 (i : Nat) (L : List (Nat × sr_V)) : (sr_el L).filter (fun q => !(q.1 == i) && (!(q.1 == i + 1) && !(q.1 + 1 == i && q.2.category == 2))) = sr_el (L.filter (fun q => !(q.1 == i) && (!(q.1 == i + 1) && !(q.1 + 1 == i && sr_c2 q.2)))) := by
  rw [sr_el, List.filter_map]
  congr 2
  funext q
  show (!(q.1 == i) && (!(q.1 == i + 1) && !(q.1 + 1 == i && (sr_em q.2).category == 2))) = _
  rw [sr_c2_eq]

theorem tq_iload_n {kf : Fin 4} (i k : Nat) (hd : decode cc pc = .ok (.iload_n kf, 1)) (hi : (kf : Nat) = i) {x : Int32} (hk : L[k]? = some (i, vI x)) (kk : sr_T G d own cc nL ret ini inj (pc + 1) L (vI x :: st) h F) : sr_T G d own cc nL ret ini inj pc L st h F :=
  sr_T.step (fun _ _ _ _ _ _ _ _ _ _ _ _ _ ls _ C h9 kk => lv_iload_n C.1 C.2.1 hd hi (sr_lat h9 k hk) (kk ls h9)) kk
theorem tq_iload {i : Nat} (k : Nat) (hd : decode cc pc = .ok (.iload i, 2)) {x : Int32} (hk : L[k]? = some (i, vI x)) (kk : sr_T G d own cc nL ret ini inj (pc + 2) L (vI x :: st) h F) : sr_T G d own cc nL ret ini inj pc L st h F :=
  sr_T.step (fun _ _ _ _ _ _ _ _ _ _ _ _ _ ls _ C h9 kk => lv_iload C.1 C.2.1 hd (sr_lat h9 k hk) (kk ls h9)) kk
theorem tq_lload_n {kf : Fin 4} (i k : Nat) (hd : decode cc pc = .ok (.lload_n kf, 1)) (hi : (kf : Nat) = i) {x : Int64} (hk : L[k]? = some (i, vL x)) (kk : sr_T G d own cc nL ret ini inj (pc + 1) L (vL x :: st) h F) : sr_T G d own cc nL ret ini inj pc L st h F :=
  sr_T.step (fun _ _ _ _ _ _ _ _ _ _ _ _ _ ls _ C h9 kk => lv_lload_n C.1 C.2.1 hd hi (sr_lat h9 k hk) (kk ls h9)) kk
theorem tq_lload {i : Nat} (k : Nat) (hd : decode cc pc = .ok (.lload i, 2)) {x : Int64} (hk : L[k]? = some (i, vL x)) (kk : sr_T G d own cc nL ret ini inj (pc + 2) L (vL x :: st) h F) : sr_T G d own cc nL ret ini inj pc L st h F :=
  sr_T.step (fun _ _ _ _ _ _ _ _ _ _ _ _ _ ls _ C h9 kk => lv_lload C.1 C.2.1 hd (sr_lat h9 k hk) (kk ls h9)) kk
theorem tq_aload_n {kf : Fin 4} (i k : Nat) (hd : decode cc pc = .ok (.aload_n kf, 1)) (hi : (kf : Nat) = i) {x : Option Nat} (hk : L[k]? = some (i, vR x)) (kk : sr_T G d own cc nL ret ini inj (pc + 1) L (vR x :: st) h F) : sr_T G d own cc nL ret ini inj pc L st h F := by
  cases x with
  | none => exact sr_T.step (fun _ _ _ _ _ _ _ _ _ _ _ _ _ ls _ C h9 kk => lv_aload_nN C.1 C.2.1 hd hi (sr_lat h9 k hk) (kk ls h9)) kk
  | some a => exact sr_T.step (fun _ _ _ _ _ _ _ _ _ _ _ _ _ ls _ C h9 kk => lv_aload_n C.1 C.2.1 hd hi (sr_lat h9 k hk) (kk ls h9)) kk
theorem tq_aload {i : Nat} (k : Nat) (hd : decode cc pc = .ok (.aload i, 2)) {x : Option Nat} (hk : L[k]? = some (i, vR x)) (kk : sr_T G d own cc nL ret ini inj (pc + 2) L (vR x :: st) h F) : sr_T G d own cc nL ret ini inj pc L st h F := by
  cases x with
  | none => exact sr_T.step (fun _ _ _ _ _ _ _ _ _ _ _ _ _ ls _ C h9 kk => lv_aloadN C.1 C.2.1 hd (sr_lat h9 k hk) (kk ls h9)) kk
  | some a => exact sr_T.step (fun _ _ _ _ _ _ _ _ _ _ _ _ _ ls _ C h9 kk => lv_aload C.1 C.2.1 hd (sr_lat h9 k hk) (kk ls h9)) kk
theorem tq_istore_n {kf : Fin 4} (i : Nat) {x : Int32} {L' : List (Nat × sr_V)} (hd : decode cc pc = .ok (.istore_n kf, 1)) (hi : (kf : Nat) = i) (hn : i < nL) (hl : (i, vI x) :: L.filter (fun q => !(q.1 == i) && !(q.1 + 1 == i && sr_c2 q.2)) = L') (kk : sr_T G d own cc nL ret ini inj (pc + 1) L' st h F) : sr_T G d own cc nL ret ini inj pc L (vI x :: st) h F :=
  sr_T.step (fun _ _ _ _ _ _ _ _ _ _ _ _ _ ls _ C h9 kk => lv_istore_n C.1 C.2.1 hd hi h9 hn (lv' := sr_el L') (by rw [sr_fil1, ← hl]; rfl) (fun ls' h' => kk ls' h')) kk
theorem tq_istore {i : Nat} {x : Int32} {L' : List (Nat × sr_V)} (hd : decode cc pc = .ok (.istore i, 2)) (hn : i < nL) (hl : (i, vI x) :: L.filter (fun q => !(q.1 == i) && !(q.1 + 1 == i && sr_c2 q.2)) = L') (kk : sr_T G d own cc nL ret ini inj (pc + 2) L' st h F) : sr_T G d own cc nL ret ini inj pc L (vI x :: st) h F :=
  sr_T.step (fun _ _ _ _ _ _ _ _ _ _ _ _ _ ls _ C h9 kk => lv_istore C.1 C.2.1 hd h9 hn (lv' := sr_el L') (by rw [sr_fil1, ← hl]; rfl) (fun ls' h' => kk ls' h')) kk
theorem tq_lstore_n {kf : Fin 4} (i : Nat) {x : Int64} {L' : List (Nat × sr_V)} (hd : decode cc pc = .ok (.lstore_n kf, 1)) (hi : (kf : Nat) = i) (hn : i + 1 < nL) (hl : (i, vL x) :: L.filter (fun q => !(q.1 == i) && (!(q.1 == i + 1) && !(q.1 + 1 == i && sr_c2 q.2))) = L') (kk : sr_T G d own cc nL ret ini inj (pc + 1) L' st h F) : sr_T G d own cc nL ret ini inj pc L (vL x :: st) h F :=
  sr_T.step (fun _ _ _ _ _ _ _ _ _ _ _ _ _ ls _ C h9 kk => lv_lstore_n C.1 C.2.1 hd hi h9 hn (lv' := sr_el L') (by rw [sr_fil2, ← hl]; rfl) (fun ls' h' => kk ls' h')) kk
theorem tq_lstore {i : Nat} {x : Int64} {L' : List (Nat × sr_V)} (hd : decode cc pc = .ok (.lstore i, 2)) (hn : i + 1 < nL) (hl : (i, vL x) :: L.filter (fun q => !(q.1 == i) && (!(q.1 == i + 1) && !(q.1 + 1 == i && sr_c2 q.2))) = L') (kk : sr_T G d own cc nL ret ini inj (pc + 2) L' st h F) : sr_T G d own cc nL ret ini inj pc L (vL x :: st) h F :=
  sr_T.step (fun _ _ _ _ _ _ _ _ _ _ _ _ _ ls _ C h9 kk => lv_lstore C.1 C.2.1 hd h9 hn (lv' := sr_el L') (by rw [sr_fil2, ← hl]; rfl) (fun ls' h' => kk ls' h')) kk
theorem tq_astore_n {kf : Fin 4} (i : Nat) {x : Option Nat} {L' : List (Nat × sr_V)} (hd : decode cc pc = .ok (.astore_n kf, 1)) (hi : (kf : Nat) = i) (hn : i < nL) (hl : (i, vR x) :: L.filter (fun q => !(q.1 == i) && !(q.1 + 1 == i && sr_c2 q.2)) = L') (kk : sr_T G d own cc nL ret ini inj (pc + 1) L' st h F) : sr_T G d own cc nL ret ini inj pc L (vR x :: st) h F := by
  cases x with
  | none => exact sr_T.step (fun _ _ _ _ _ _ _ _ _ _ _ _ _ ls _ C h9 kk => lv_astore_nN C.1 C.2.1 hd hi h9 hn (lv' := sr_el L') (by rw [sr_fil1, ← hl]; rfl) (fun ls' h' => kk ls' h')) kk
  | some a => exact sr_T.step (fun _ _ _ _ _ _ _ _ _ _ _ _ _ ls _ C h9 kk => lv_astore_n C.1 C.2.1 hd hi h9 hn (lv' := sr_el L') (by rw [sr_fil1, ← hl]; rfl) (fun ls' h' => kk ls' h')) kk
theorem tq_astore {i : Nat} {x : Option Nat} {L' : List (Nat × sr_V)} (hd : decode cc pc = .ok (.astore i, 2)) (hn : i < nL) (hl : (i, vR x) :: L.filter (fun q => !(q.1 == i) && !(q.1 + 1 == i && sr_c2 q.2)) = L') (kk : sr_T G d own cc nL ret ini inj (pc + 2) L' st h F) : sr_T G d own cc nL ret ini inj pc L (vR x :: st) h F := by
  cases x with
  | none => exact sr_T.step (fun _ _ _ _ _ _ _ _ _ _ _ _ _ ls _ C h9 kk => lv_astoreN C.1 C.2.1 hd h9 hn (lv' := sr_el L') (by rw [sr_fil1, ← hl]; rfl) (fun ls' h' => kk ls' h')) kk
  | some a => exact sr_T.step (fun _ _ _ _ _ _ _ _ _ _ _ _ _ ls _ C h9 kk => lv_astore C.1 C.2.1 hd h9 hn (lv' := sr_el L') (by rw [sr_fil1, ← hl]; rfl) (fun ls' h' => kk ls' h')) kk
theorem tq_iinc {i : Nat} {n : Int} (k : Nat) {x : Int32} (w : Int32) {L' : List (Nat × sr_V)} (hd : decode cc pc = .ok (.iinc i n, 3)) (hk : L[k]? = some (i, vI x)) (hw : Int32.ofInt n = w) (hn : i < nL) (hl : (i, vI (x + w)) :: L.filter (fun q => !(q.1 == i) && !(q.1 + 1 == i && sr_c2 q.2)) = L') (kk : sr_T G d own cc nL ret ini inj (pc + 3) L' st h F) : sr_T G d own cc nL ret ini inj pc L st h F :=
  sr_T.step (fun _ _ _ _ _ _ _ _ _ _ _ _ _ ls _ C h9 kk => lv_iinc (k := k) (x := x) (v := x + w) C.1 C.2.1 hd h9 (by rw [List.getElem?_map, hk]; rfl) (by rw [hw]) hn (lv' := sr_el L') (by rw [sr_fil1, ← hl]; rfl) (fun ls' h' => kk ls' h')) kk
theorem tq_iadd {x y : Int32} (hd : decode cc pc = .ok (.iadd, 1)) (k : sr_T G d own cc nL ret ini inj (pc + 1) L (vI (x + y) :: st) h F) : sr_T G d own cc nL ret ini inj pc L (vI y :: vI x :: st) h F :=
  sr_T.step (fun _ _ _ _ _ _ _ _ _ _ _ _ _ ls _ C h9 kk => lv_iadd C.1 C.2.1 hd (kk ls h9)) k
theorem tq_isub {x y : Int32} (hd : decode cc pc = .ok (.isub, 1)) (k : sr_T G d own cc nL ret ini inj (pc + 1) L (vI (x - y) :: st) h F) : sr_T G d own cc nL ret ini inj pc L (vI y :: vI x :: st) h F :=
  sr_T.step (fun _ _ _ _ _ _ _ _ _ _ _ _ _ ls _ C h9 kk => lv_isub C.1 C.2.1 hd (kk ls h9)) k
theorem tq_imul {x y : Int32} (hd : decode cc pc = .ok (.imul, 1)) (k : sr_T G d own cc nL ret ini inj (pc + 1) L (vI (x * y) :: st) h F) : sr_T G d own cc nL ret ini inj pc L (vI y :: vI x :: st) h F :=
  sr_T.step (fun _ _ _ _ _ _ _ _ _ _ _ _ _ ls _ C h9 kk => lv_imul C.1 C.2.1 hd (kk ls h9)) k
theorem tq_iand {x y : Int32} (hd : decode cc pc = .ok (.iand, 1)) (k : sr_T G d own cc nL ret ini inj (pc + 1) L (vI (x &&& y) :: st) h F) : sr_T G d own cc nL ret ini inj pc L (vI y :: vI x :: st) h F :=
  sr_T.step (fun _ _ _ _ _ _ _ _ _ _ _ _ _ ls _ C h9 kk => lv_iand C.1 C.2.1 hd (kk ls h9)) k
theorem tq_ishr {x y : Int32} (hd : decode cc pc = .ok (.ishr, 1)) (k : sr_T G d own cc nL ret ini inj (pc + 1) L (vI (x >>> (y &&& 31)) :: st) h F) : sr_T G d own cc nL ret ini inj pc L (vI y :: vI x :: st) h F :=
  sr_T.step (fun _ _ _ _ _ _ _ _ _ _ _ _ _ ls _ C h9 kk => lv_ishr C.1 C.2.1 hd (kk ls h9)) k
theorem tq_iushr {x y : Int32} (hd : decode cc pc = .ok (.iushr, 1)) (k : sr_T G d own cc nL ret ini inj (pc + 1) L (vI ((x.toUInt32 >>> (y.toUInt32 &&& Int32.toUInt32 31)).toInt32) :: st) h F) : sr_T G d own cc nL ret ini inj pc L (vI y :: vI x :: st) h F :=
  sr_T.step (fun _ _ _ _ _ _ _ _ _ _ _ _ _ ls _ C h9 kk => lv_iushr C.1 C.2.1 hd rfl (kk ls h9)) k
theorem tq_land {x y : Int64} (hd : decode cc pc = .ok (.land, 1)) (k : sr_T G d own cc nL ret ini inj (pc + 1) L (vL (x &&& y) :: st) h F) : sr_T G d own cc nL ret ini inj pc L (vL y :: vL x :: st) h F :=
  sr_T.step (fun _ _ _ _ _ _ _ _ _ _ _ _ _ ls _ C h9 kk => lv_land C.1 C.2.1 hd (kk ls h9)) k
theorem tq_lor {x y : Int64} (hd : decode cc pc = .ok (.lor, 1)) (k : sr_T G d own cc nL ret ini inj (pc + 1) L (vL (x ||| y) :: st) h F) : sr_T G d own cc nL ret ini inj pc L (vL y :: vL x :: st) h F :=
  sr_T.step (fun _ _ _ _ _ _ _ _ _ _ _ _ _ ls _ C h9 kk => lv_lor C.1 C.2.1 hd (kk ls h9)) k
theorem tq_lushr {x : Int64} {y : Int32} (hd : decode cc pc = .ok (.lushr, 1)) (k : sr_T G d own cc nL ret ini inj (pc + 1) L (vL ((x.toUInt64 >>> (y.toInt64.toUInt64 &&& Int64.toUInt64 63)).toInt64) :: st) h F) : sr_T G d own cc nL ret ini inj pc L (vI y :: vL x :: st) h F :=
  sr_T.step (fun _ _ _ _ _ _ _ _ _ _ _ _ _ ls _ C h9 kk => lv_lushr C.1 C.2.1 hd rfl (kk ls h9)) k
theorem tq_lshl {x : Int64} {y : Int32} (hd : decode cc pc = .ok (.lshl, 1)) (k : sr_T G d own cc nL ret ini inj (pc + 1) L (vL (x <<< (y.toInt64 &&& 63)) :: st) h F) : sr_T G d own cc nL ret ini inj pc L (vI y :: vL x :: st) h F :=
  sr_T.step (fun _ _ _ _ _ _ _ _ _ _ _ _ _ ls _ C h9 kk => lv_lshl C.1 C.2.1 hd rfl (kk ls h9)) k
theorem tq_lshr {x : Int64} {y : Int32} (hd : decode cc pc = .ok (.lshr, 1)) (k : sr_T G d own cc nL ret ini inj (pc + 1) L (vL (x >>> (y.toInt64 &&& 63)) :: st) h F) : sr_T G d own cc nL ret ini inj pc L (vI y :: vL x :: st) h F :=
  sr_T.step (fun _ _ _ _ _ _ _ _ _ _ _ _ _ ls _ C h9 kk => lv_lshr C.1 C.2.1 hd rfl (kk ls h9)) k
theorem tq_i2l {x : Int32} (hd : decode cc pc = .ok (.i2l, 1)) (k : sr_T G d own cc nL ret ini inj (pc + 1) L (vL x.toInt64 :: st) h F) : sr_T G d own cc nL ret ini inj pc L (vI x :: st) h F :=
  sr_T.step (fun _ _ _ _ _ _ _ _ _ _ _ _ _ ls _ C h9 kk => lv_i2l C.1 C.2.1 hd rfl (kk ls h9)) k
theorem tq_l2i {x : Int64} (hd : decode cc pc = .ok (.l2i, 1)) (k : sr_T G d own cc nL ret ini inj (pc + 1) L (vI x.toInt32 :: st) h F) : sr_T G d own cc nL ret ini inj pc L (vL x :: st) h F :=
  sr_T.step (fun _ _ _ _ _ _ _ _ _ _ _ _ _ ls _ C h9 kk => lv_l2i C.1 C.2.1 hd rfl (kk ls h9)) k
theorem tq_i2b {x : Int32} (hd : decode cc pc = .ok (.i2b, 1)) (k : sr_T G d own cc nL ret ini inj (pc + 1) L (vI x.toInt8.toInt32 :: st) h F) : sr_T G d own cc nL ret ini inj pc L (vI x :: st) h F :=
  sr_T.step (fun _ _ _ _ _ _ _ _ _ _ _ _ _ ls _ C h9 kk => lv_i2b C.1 C.2.1 hd rfl (kk ls h9)) k
theorem tq_lcmp {x y : Int64} (hd : decode cc pc = .ok (.lcmp, 1)) (k : sr_T G d own cc nL ret ini inj (pc + 1) L (vI (lg_cmp x y) :: st) h F) : sr_T G d own cc nL ret ini inj pc L (vL y :: vL x :: st) h F :=
  sr_T.step (fun _ _ _ _ _ _ _ _ _ _ _ _ _ ls _ C h9 kk => W.lcmp C.1 C.2.1 hd (kk ls h9)) k
theorem tq_dupI {x : Int32} (hd : decode cc pc = .ok (.dup, 1)) (k : sr_T G d own cc nL ret ini inj (pc + 1) L (vI x :: vI x :: st) h F) : sr_T G d own cc nL ret ini inj pc L (vI x :: st) h F :=
  sr_T.step (fun _ _ _ _ _ _ _ _ _ _ _ _ _ ls _ C h9 kk => lv_dup C.1 C.2.1 hd rfl (kk ls h9)) k
theorem tq_dupR {x : Option Nat} (hd : decode cc pc = .ok (.dup, 1)) (k : sr_T G d own cc nL ret ini inj (pc + 1) L (vR x :: vR x :: st) h F) : sr_T G d own cc nL ret ini inj pc L (vR x :: st) h F :=
  sr_T.step (fun _ _ _ _ _ _ _ _ _ _ _ _ _ ls _ C h9 kk => lv_dup C.1 C.2.1 hd (sr_cat1 x) (kk ls h9)) k
theorem tq_dup2 {x : Option Nat} {i : Int32} (hd : decode cc pc = .ok (.dup2, 1)) (k : sr_T G d own cc nL ret ini inj (pc + 1) L (vI i :: vR x :: vI i :: vR x :: st) h F) : sr_T G d own cc nL ret ini inj pc L (vI i :: vR x :: st) h F :=
  sr_T.step (fun _ _ _ _ _ _ _ _ _ _ _ _ _ ls _ C h9 kk => lv_dup2_11 C.1 C.2.1 hd rfl (sr_cat1 x) (kk ls h9)) k
theorem tq_popI {x : Int32} (hd : decode cc pc = .ok (.pop, 1)) (k : sr_T G d own cc nL ret ini inj (pc + 1) L st h F) : sr_T G d own cc nL ret ini inj pc L (vI x :: st) h F :=
  sr_T.step (fun _ _ _ _ _ _ _ _ _ _ _ _ _ ls _ C h9 kk => lv_pop C.1 C.2.1 hd rfl (kk ls h9)) k
theorem tq_popR {x : Option Nat} (hd : decode cc pc = .ok (.pop, 1)) (k : sr_T G d own cc nL ret ini inj (pc + 1) L st h F) : sr_T G d own cc nL ret ini inj pc L (vR x :: st) h F :=
  sr_T.step (fun _ _ _ _ _ _ _ _ _ _ _ _ _ ls _ C h9 kk => lv_pop C.1 C.2.1 hd (sr_cat1 x) (kk ls h9)) k
theorem tq_goto {off : Int} (tgt : Nat) (hd : decode cc pc = .ok (.goto off, 3)) (ht : (pc : Int) + off = (tgt : Int)) (k : sr_T G d own cc nL ret ini inj tgt L st h F) : sr_T G d own cc nL ret ini inj pc L st h F :=
  sr_T.step (fun _ _ _ _ _ _ _ _ _ _ _ _ _ ls _ C h9 kk => lv_goto C.1 C.2.1 hd ht (kk ls h9)) k
theorem tq_if_eq {x : Int32} {off : Int} (tgt : Nat) {F1 F2 : Option (X × AH)} (hd : decode cc pc = .ok (.ifCond .eq off, 3)) (ht : (pc : Int) + off = (tgt : Int)) (k1 : x = 0 → sr_T G d own cc nL ret ini inj tgt L st h F1) (k2 : ¬ (x = 0) → sr_T G d own cc nL ret ini inj (pc + 3) L st h F2) : sr_T G d own cc nL ret ini inj pc L (vI x :: st) h (if x = 0 then F1 else F2) :=
  sr_T.fork _ (fun _ _ _ _ _ _ _ _ _ _ _ _ _ ls _ C h9 k1 k2 => lv_if_eq C.1 C.2.1 hd ht k1 k2) k1 k2
theorem tq_icmp_eq {x y : Int32} {off : Int} (tgt : Nat) {F1 F2 : Option (X × AH)} (hd : decode cc pc = .ok (.if_icmp .eq off, 3)) (ht : (pc : Int) + off = (tgt : Int)) (k1 : x = y → sr_T G d own cc nL ret ini inj tgt L st h F1) (k2 : ¬ (x = y) → sr_T G d own cc nL ret ini inj (pc + 3) L st h F2) : sr_T G d own cc nL ret ini inj pc L (vI y :: vI x :: st) h (if x = y then F1 else F2) :=
  sr_T.fork _ (fun _ _ _ _ _ _ _ _ _ _ _ _ _ ls _ C h9 k1 k2 => lv_icmp_eq C.1 C.2.1 hd ht k1 k2) k1 k2
theorem tq_if_lt {x : Int32} {off : Int} (tgt : Nat) {F1 F2 : Option (X × AH)} (hd : decode cc pc = .ok (.ifCond .lt off, 3)) (ht : (pc : Int) + off = (tgt : Int)) (k1 : x < 0 → sr_T G d own cc nL ret ini inj tgt L st h F1) (k2 : ¬ (x < 0) → sr_T G d own cc nL ret ini inj (pc + 3) L st h F2) : sr_T G d own cc nL ret ini inj pc L (vI x :: st) h (if x < 0 then F1 else F2) :=
  sr_T.fork _ (fun _ _ _ _ _ _ _ _ _ _ _ _ _ ls _ C h9 k1 k2 => lv_if_lt C.1 C.2.1 hd ht k1 k2) k1 k2
theorem tq_icmp_lt {x y : Int32} {off : Int} (tgt : Nat) {F1 F2 : Option (X × AH)} (hd : decode cc pc = .ok (.if_icmp .lt off, 3)) (ht : (pc : Int) + off = (tgt : Int)) (k1 : x < y → sr_T G d own cc nL ret ini inj tgt L st h F1) (k2 : ¬ (x < y) → sr_T G d own cc nL ret ini inj (pc + 3) L st h F2) : sr_T G d own cc nL ret ini inj pc L (vI y :: vI x :: st) h (if x < y then F1 else F2) :=
  sr_T.fork _ (fun _ _ _ _ _ _ _ _ _ _ _ _ _ ls _ C h9 k1 k2 => lv_icmp_lt C.1 C.2.1 hd ht k1 k2) k1 k2
theorem tq_if_ge {x : Int32} {off : Int} (tgt : Nat) {F1 F2 : Option (X × AH)} (hd : decode cc pc = .ok (.ifCond .ge off, 3)) (ht : (pc : Int) + off = (tgt : Int)) (k1 : 0 ≤ x → sr_T G d own cc nL ret ini inj tgt L st h F1) (k2 : ¬ (0 ≤ x) → sr_T G d own cc nL ret ini inj (pc + 3) L st h F2) : sr_T G d own cc nL ret ini inj pc L (vI x :: st) h (if 0 ≤ x then F1 else F2) :=
  sr_T.fork _ (fun _ _ _ _ _ _ _ _ _ _ _ _ _ ls _ C h9 k1 k2 => lv_if_ge C.1 C.2.1 hd ht k1 k2) k1 k2
theorem tq_icmp_ge {x y : Int32} {off : Int} (tgt : Nat) {F1 F2 : Option (X × AH)} (hd : decode cc pc = .ok (.if_icmp .ge off, 3)) (ht : (pc : Int) + off = (tgt : Int)) (k1 : y ≤ x → sr_T G d own cc nL ret ini inj tgt L st h F1) (k2 : ¬ (y ≤ x) → sr_T G d own cc nL ret ini inj (pc + 3) L st h F2) : sr_T G d own cc nL ret ini inj pc L (vI y :: vI x :: st) h (if y ≤ x then F1 else F2) :=
  sr_T.fork _ (fun _ _ _ _ _ _ _ _ _ _ _ _ _ ls _ C h9 k1 k2 => lv_icmp_ge C.1 C.2.1 hd ht k1 k2) k1 k2
theorem tq_if_gt {x : Int32} {off : Int} (tgt : Nat) {F1 F2 : Option (X × AH)} (hd : decode cc pc = .ok (.ifCond .gt off, 3)) (ht : (pc : Int) + off = (tgt : Int)) (k1 : 0 < x → sr_T G d own cc nL ret ini inj tgt L st h F1) (k2 : ¬ (0 < x) → sr_T G d own cc nL ret ini inj (pc + 3) L st h F2) : sr_T G d own cc nL ret ini inj pc L (vI x :: st) h (if 0 < x then F1 else F2) :=
  sr_T.fork _ (fun _ _ _ _ _ _ _ _ _ _ _ _ _ ls _ C h9 k1 k2 => lv_if_gt C.1 C.2.1 hd ht k1 k2) k1 k2
theorem tq_icmp_gt {x y : Int32} {off : Int} (tgt : Nat) {F1 F2 : Option (X × AH)} (hd : decode cc pc = .ok (.if_icmp .gt off, 3)) (ht : (pc : Int) + off = (tgt : Int)) (k1 : y < x → sr_T G d own cc nL ret ini inj tgt L st h F1) (k2 : ¬ (y < x) → sr_T G d own cc nL ret ini inj (pc + 3) L st h F2) : sr_T G d own cc nL ret ini inj pc L (vI y :: vI x :: st) h (if y < x then F1 else F2) :=
  sr_T.fork _ (fun _ _ _ _ _ _ _ _ _ _ _ _ _ ls _ C h9 k1 k2 => lv_icmp_gt C.1 C.2.1 hd ht k1 k2) k1 k2
theorem tq_if_le {x : Int32} {off : Int} (tgt : Nat) {F1 F2 : Option (X × AH)} (hd : decode cc pc = .ok (.ifCond .le off, 3)) (ht : (pc : Int) + off = (tgt : Int)) (k1 : x ≤ 0 → sr_T G d own cc nL ret ini inj tgt L st h F1) (k2 : ¬ (x ≤ 0) → sr_T G d own cc nL ret ini inj (pc + 3) L st h F2) : sr_T G d own cc nL ret ini inj pc L (vI x :: st) h (if x ≤ 0 then F1 else F2) :=
  sr_T.fork _ (fun _ _ _ _ _ _ _ _ _ _ _ _ _ ls _ C h9 k1 k2 => lv_if_le C.1 C.2.1 hd ht k1 k2) k1 k2
theorem tq_icmp_le {x y : Int32} {off : Int} (tgt : Nat) {F1 F2 : Option (X × AH)} (hd : decode cc pc = .ok (.if_icmp .le off, 3)) (ht : (pc : Int) + off = (tgt : Int)) (k1 : x ≤ y → sr_T G d own cc nL ret ini inj tgt L st h F1) (k2 : ¬ (x ≤ y) → sr_T G d own cc nL ret ini inj (pc + 3) L st h F2) : sr_T G d own cc nL ret ini inj pc L (vI y :: vI x :: st) h (if x ≤ y then F1 else F2) :=
  sr_T.fork _ (fun _ _ _ _ _ _ _ _ _ _ _ _ _ ls _ C h9 k1 k2 => lv_icmp_le C.1 C.2.1 hd ht k1 k2) k1 k2
theorem tq_if_ne {x : Int32} {off : Int} (tgt : Nat) {F1 F2 : Option (X × AH)} (hd : decode cc pc = .ok (.ifCond .ne off, 3)) (ht : (pc : Int) + off = (tgt : Int)) (k1 : ¬ (x = 0) → sr_T G d own cc nL ret ini inj tgt L st h F1) (k2 : x = 0 → sr_T G d own cc nL ret ini inj (pc + 3) L st h F2) : sr_T G d own cc nL ret ini inj pc L (vI x :: st) h (if x = 0 then F2 else F1) :=
  sr_T.fork _ (fun _ _ _ _ _ _ _ _ _ _ _ _ _ ls _ C h9 k1 k2 => lv_if_ne C.1 C.2.1 hd ht k2 k1) k2 k1
theorem tq_icmp_ne {x y : Int32} {off : Int} (tgt : Nat) {F1 F2 : Option (X × AH)} (hd : decode cc pc = .ok (.if_icmp .ne off, 3)) (ht : (pc : Int) + off = (tgt : Int)) (k1 : ¬ (x = y) → sr_T G d own cc nL ret ini inj tgt L st h F1) (k2 : x = y → sr_T G d own cc nL ret ini inj (pc + 3) L st h F2) : sr_T G d own cc nL ret ini inj pc L (vI y :: vI x :: st) h (if x = y then F2 else F1) :=
  sr_T.fork _ (fun _ _ _ _ _ _ _ _ _ _ _ _ _ ls _ C h9 k1 k2 => lv_icmp_ne C.1 C.2.1 hd ht k2 k1) k2 k1
theorem tq_ifnull {x : Option Nat} {off : Int} (tgt : Nat) {F1 F2 : Option (X × AH)} (hd : decode cc pc = .ok (.ifnull off, 3)) (ht : (pc : Int) + off = (tgt : Int)) (k1 : x = none → sr_T G d own cc nL ret ini inj tgt L st h F1) (k2 : ¬ (x = none) → sr_T G d own cc nL ret ini inj (pc + 3) L st h F2) : sr_T G d own cc nL ret ini inj pc L (vR x :: st) h (if x = none then F1 else F2) := by
  cases x with
  | none => exact sr_T.fork _ (fun _ _ _ _ _ _ _ _ _ _ _ _ _ ls _ C h9 k1 k2 => lv_ifnullN C.1 C.2.1 hd ht (k1 rfl)) k1 k2
  | some a => exact sr_T.fork _ (fun _ _ _ _ _ _ _ _ _ _ _ _ _ ls _ C h9 k1 k2 => lv_ifnull C.1 C.2.1 hd (k2 (fun z => by cases z))) k1 k2
theorem tq_ifnonnull {x : Option Nat} {off : Int} (tgt : Nat) {F1 F2 : Option (X × AH)} (hd : decode cc pc = .ok (.ifnonnull off, 3)) (ht : (pc : Int) + off = (tgt : Int)) (k1 : ¬ (x = none) → sr_T G d own cc nL ret ini inj tgt L st h F1) (k2 : x = none → sr_T G d own cc nL ret ini inj (pc + 3) L st h F2) : sr_T G d own cc nL ret ini inj pc L (vR x :: st) h (if x = none then F2 else F1) := by
  cases x with
  | none => exact sr_T.fork _ (fun _ _ _ _ _ _ _ _ _ _ _ _ _ ls _ C h9 k1 k2 => lv_ifnonnullN C.1 C.2.1 hd (k1 rfl)) k2 k1
  | some a => exact sr_T.fork _ (fun _ _ _ _ _ _ _ _ _ _ _ _ _ ls _ C h9 k1 k2 => lv_ifnonnull C.1 C.2.1 hd ht (k2 (fun z => by cases z))) k2 k1
/-- a switch: one road by the value -/
theorem tq_lookup {dflt : Int} {ps : Array (Int × Int)} {len : Nat} {x : Int32} {off : Int} (tgt : Nat) (hd : decode cc pc = .ok (.lookupswitch dflt ps, len)) (hp : (ps.toList.zip (ps.toList.drop 1)).all (fun (a, next) => a.1 < next.1) = true) (ho : Op.lookupswitch.offset ps.toList dflt x.toInt = off) (ht : (pc : Int) + off = (tgt : Int)) (k : sr_T G d own cc nL ret ini inj tgt L st h F) : sr_T G d own cc nL ret ini inj pc L (vI x :: st) h F :=
  sr_T.step (fun _ _ _ _ _ _ _ _ _ _ _ _ _ ls _ C h9 kk => lv_lookup C.1 C.2.1 hd hp ho ht (kk ls h9)) k
theorem tq_tableOut {dflt lo hi : Int} {offs : Array Int} {len : Nat} {x : Int32} (tgt : Nat) (hd : decode cc pc = .ok (.tableswitch dflt lo hi offs, len)) (hx : x.toInt < lo ∨ hi < x.toInt) (ht : (pc : Int) + dflt = (tgt : Int)) (k : sr_T G d own cc nL ret ini inj tgt L st h F) : sr_T G d own cc nL ret ini inj pc L (vI x :: st) h F :=
  sr_T.step (fun _ _ _ _ _ _ _ _ _ _ _ _ _ ls _ C h9 kk => lv_tableOut C.1 C.2.1 hd hx ht (kk ls h9)) k
theorem tq_tableIn {dflt lo hi : Int} {offs : Array Int} {len : Nat} {x : Int32} {off : Int} (tgt : Nat) (hd : decode cc pc = .ok (.tableswitch dflt lo hi offs, len)) (h1 : ¬ x.toInt < lo) (h2 : ¬ hi < x.toInt) (ho : offs[(x.toInt - lo).toNat]? = some off) (ht : (pc : Int) + off = (tgt : Int)) (k : sr_T G d own cc nL ret ini inj tgt L st h F) : sr_T G d own cc nL ret ini inj pc L (vI x :: st) h F :=
  sr_T.step (fun _ _ _ _ _ _ _ _ _ _ _ _ _ ls _ C h9 kk => lv_tableIn C.1 C.2.1 hd h1 h2 ho ht (kk ls h9)) k
theorem tq_ite {c : Prop} (hc : Decidable c) {F1 F2 : Option (X × AH)} (k1 : c → sr_T G d own cc nL ret ini inj pc L st h F1) (k2 : ¬ c → sr_T G d own cc nL ret ini inj pc L st h F2) : sr_T G d own cc nL ret ini inj pc L st h (if c then F1 else F2) := by
  by_cases hx : c
  · rw [if_pos hx]; exact k1 hx
  · rw [if_neg hx]; exact k2 hx
end RULES

/-! THE CORE. An abstract heap (a map a kind of field, and of array places), its picture in the machine's heap, and a judgement T over it: 'the frame at pc goes on, and the method ends as F says'. -/
abbrev AH : Type := (Nat → Nat → Int32) × (Nat → Nat → Int64) × (Nat → Nat → Option Nat) × (Nat → Nat → Int32) × (Nat → Nat → Option Nat) × (Nat → Nat × Nat) × Nat × Nat
def gI (h : AH) : Nat → Nat → Int32 := h.1
def gL (h : AH) : Nat → Nat → Int64 := h.2.1
def gR (h : AH) : Nat → Nat → Option Nat := h.2.2.1
def gA (h : AH) : Nat → Nat → Int32 := h.2.2.2.1
def gQ (h : AH) : Nat → Nat → Option Nat := h.2.2.2.2.1
def gK (h : AH) : Nat → Nat × Nat := h.2.2.2.2.2.1
def gN (h : AH) : Nat := h.2.2.2.2.2.2.1
def gS (h : AH) : Nat := h.2.2.2.2.2.2.2
def u2 {α : Type} (f : Nat → Nat → α) (i j : Nat) (v : α) : Nat → Nat → α := fun x y => if x = i ∧ y = j then v else f x y
def pI (h : AH) (f a : Nat) (v : Int32) : AH := (u2 h.1 f a v, h.2)
def pL (h : AH) (f a : Nat) (v : Int64) : AH := (h.1, u2 h.2.1 f a v, h.2.2)
def pR (h : AH) (f a : Nat) (v : Option Nat) : AH := (h.1, h.2.1, u2 h.2.2.1 f a v, h.2.2.2)
def pA (h : AH) (a i : Nat) (v : Int32) : AH := (h.1, h.2.1, h.2.2.1, u2 h.2.2.2.1 a i v, h.2.2.2.2)
def pQ (h : AH) (a i : Nat) (v : Option Nat) : AH := (h.1, h.2.1, h.2.2.1, h.2.2.2.1, u2 h.2.2.2.2.1 a i v, h.2.2.2.2.2)
/-- a new cell, of a kind, with n slots, all of them 0 or null -/
def mkC (h : AH) (k : Nat × Nat) (n : Nat) : AH := (fun f a => if a = gN h then 0 else gI h f a, fun f a => if a = gN h then 0 else gL h f a, fun f a => if a = gN h then none else gR h f a, fun a i => if a = gN h then 0 else gA h a i, fun a i => if a = gN h then none else gQ h a i, fun a => if a = gN h then k else gK h a, gN h + 1, gS h + n)
theorem u2_s {α : Type} (f : Nat → Nat → α) (i j : Nat) (v : α) : u2 f i j v i j = v := if_pos ⟨rfl, rfl⟩
theorem u2_n {α : Type} (f : Nat → Nat → α) {i j x y : Nat} (v : α) (hn : ¬ (x = i ∧ y = j)) : u2 f i j v x y = f x y := if_neg hn
abbrev sr_cl : List vw_C := [(RX0, TX0, 3), (RX1, TX1, 2), (RX2, TX2, 3), (RX3, TX3, 14), (RX4, TX4, 2), (RX5, TX5, 8), (RX6, TX6, 2), (RX7, TX7, 3), (RX8, TX8, 5), (RX9, TX9, 45)]
def sr_ty (ci k : Nat) : FieldType := match ci with
  | 0 => tyX0 k
  | 1 => tyX1 k
  | 2 => tyX2 k
  | 3 => tyX3 k
  | 4 => tyX4 k
  | 5 => tyX5 k
  | 6 => tyX6 k
  | 7 => tyX7 k
  | 8 => tyX8 k
  | _ => tyX9 k
/-- what kind of value a field holds: 0 an int, 1 a long, 2 a reference -/
def sr_tk (t : FieldType) : Nat := match t with
  | .long => 1
  | .object _ => 2
  | .array _ => 2
  | _ => 0
def sr_v (h : AH) (kind f a : Nat) : Value := match kind with
  | 0 => .int (gI h f a)
  | 1 => .long (gL h f a)
  | _ => va_rf (gR h f a)
def sr_fv (h : AH) (ci k a : Nat) : Value := sr_v h (sr_tk (sr_ty ci k)) (50 * ci + k) a
def sr_aty (t : Nat) : FieldType := match t with
  | 0 => .int
  | 1 => .byte
  | 2 => .boolean
  | 3 => .object "SoupReader$Node"
  | _ => .object "SoupReader$Attribute"
def sr_ev (h : AH) (t a j : Nat) : Value := if t < 3 then .int (gA h a j) else va_rf (gQ h a j)
/-- launch, the classes' numbers and slots, the array classes, the String constants' cells and byte arrays, the first cell that is ours, the script -/
abbrev sr_G : Type := Launch × va_G × (Nat → ClassId) × (Nat → Nat) × (Nat → Nat) × Nat × Nat × Nat × (Nat → Int32)
def sr_bs (G : sr_G) : Nat := G.2.2.2.2.2.1
def sr_A (G : sr_G) : Nat → Prop := fun q => sr_bs G ≤ q
/-- the script: its cell, its length, its ints -/
def sr_X (G : sr_G) (U : State) : Prop := va_X G.2.2.2.2.2.2.1 G.2.2.2.2.2.2.2.1 G.2.2.2.2.2.2.2.2 U U.heap ∧ G.2.2.2.2.2.2.1 < sr_bs G
def sr_Rep (G : sr_G) (h : AH) (H : Heap) : Prop :=
  H.size = gN h ∧ (∀ a, (gK h a).1 ≠ 0 → sr_A G a) ∧
  (∀ (a ci : Nat) (r : vw_C), (gK h a).1 = ci + 1 → sr_cl[ci]? = some r → t_OB a (G.2.1.1 ci) r.2.2 (G.2.1.2 ci) H (fun k => sr_fv h ci k a)) ∧
  ∀ a t : Nat, (gK h a).1 = 100 + t → t < 5 → H[a]? = some (arrV (G.2.2.1 t) (gK h a).2 (fun j => sr_ev h t a j))
/-- the String constants: owner, entry, text, place -/
def sr_lits : List (String × Nat × String × Nat) := [("SoupReader", 226, "div p h1 ul li form span a b i br hr img input button style ", 0), ("SoupReader$Out", 32, "&lt;", 1), ("SoupReader$Out", 38, "&gt;", 2), ("SoupReader$Out", 40, "&amp;", 3), ("SoupReader$Out", 42, "&quot;", 4), ("SoupReader$PageReader", 220, "&lt;", 1), ("SoupReader$PageReader", 222, "&gt;", 2), ("SoupReader$PageReader", 224, "&amp;", 3), ("SoupReader$PageReader", 226, "&quot;", 4), ("SoupReader$PageReader", 78, "<!--", 5), ("SoupReader$PageReader", 164, "-->", 6), ("SoupReader$PageReader", 98, "</style", 7)]
def sr_txt : List (List Int32) := ["div p h1 ul li form span a b i br hr img input button style ", "&lt;", "&gt;", "&amp;", "&quot;", "<!--", "-->", "</style"].map (fun t => t.toList.map (fun c => Int32.ofNat c.toNat))
def sr_len : List Nat := sr_txt.map List.length
def sr_nws : List (String × Nat × MethodName × String) := [("SoupReader", 9, ⟨"SoupReader$Tape", "<init>", "()V"⟩, "SoupReader"), ("SoupReader", 18, ⟨"SoupReader$Out", "<init>", "()V"⟩, "SoupReader"), ("SoupReader", 25, ⟨"SoupReader$Faults", "<init>", "()V"⟩, "SoupReader"), ("SoupReader$Node", 11, ⟨"SoupReader$Attributes", "<init>", "()V"⟩, "SoupReader"), ("SoupReader$PageReader", 11, ⟨"SoupReader$Attributes", "<init>", "()V"⟩, "SoupReader"), ("SoupReader$PageReader", 107, ⟨"SoupReader", "asSmall", "(I)I"⟩, "SoupReader"), ("SoupReader$PageReader", 110, ⟨"SoupReader", "isSmallLetter", "(I)Z"⟩, "SoupReader"), ("SoupReader$PageReader", 152, ⟨"SoupReader", "isBlank", "(I)Z"⟩, "SoupReader"), ("SoupReader$PageReader", 184, ⟨"SoupReader", "isDigit", "(I)Z"⟩, "SoupReader"), ("SoupReader$PageReader", 187, ⟨"SoupReader", "longer", "(JI)J"⟩, "SoupReader"), ("SoupReader$Attributes", 29, ⟨"SoupReader$Attribute", "<init>", "()V"⟩, "SoupReader"), ("SoupReader$PageReader", 228, ⟨"SoupReader", "tagOf", "(J)I"⟩, "SoupReader"), ("SoupReader$PageReader", 232, ⟨"SoupReader", "isEmptyTag", "(I)Z"⟩, "SoupReader"), ("SoupReader$PageReader", 251, ⟨"SoupReader", "isBlockTag", "(I)Z"⟩, "SoupReader"), ("SoupReader$Tape", 40, ⟨"SoupReader", "isSmallLetter", "(I)Z"⟩, "SoupReader"), ("SoupReader$Tape", 44, ⟨"SoupReader", "isDigit", "(I)Z"⟩, "SoupReader"), ("SoupReader$Tape", 53, ⟨"SoupReader", "longer", "(JI)J"⟩, "SoupReader")]
def sr_J (G : sr_G) (U : State) : Prop :=
  vk_S 8 sr_len sr_txt G.2.2.2.1 G.2.2.2.2.1 (sr_A G) U U.heap ∧ (∀ q ∈ sr_lits, vk_R q.1 q.2.1 q.2.2.1 (G.2.2.2.1 q.2.2.2) U) ∧
  va_Z "java/lang/String" "COMPACT_STRINGS" "Z" (.int 1) (sr_A G) U U.heap ∧ va_Zq "jdk/internal/util/Preconditions" "SIOOBE_FORMATTER" "Ljava/util/function/BiFunction;" (sr_A G) U U.heap
def sr_K (G : sr_G) (U : State) : Prop :=
  va_K G.2.1 sr_cl [] U ∧ (∀ t, t < 5 → ArrOfT U (G.2.2.1 t) (sr_aty t) ∧ va_RA U (G.2.2.1 t) (sr_aty t)) ∧ sr_bs G ≤ U.heap.size ∧ sr_J G U ∧ (∀ q ∈ sr_nws, va_Nw (.methodLinkNest q.1 q.2.1 q.2.2.1 q.2.2.2) U) ∧ va_AO "SoupReader$Node" U ∧ va_AO "SoupReader$Attribute" U ∧ sr_X G U
theorem sr_J.go {G : sr_G} {s U : State} (h : sr_J G s) (hW : s.WarmedH U.vm) (hq : ∀ q : Nat, q < s.heap.size → ¬ sr_A G q → U.heap[q]? = s.heap[q]?) : sr_J G U := by
  obtain ⟨h1, h2, h3, h4⟩ := h
  refine ⟨(h1.moved hW.alike).kept hq, fun q hm => (h2 q hm).warm hW, (h3.moved hW.alike).kept hq, ?_⟩
  rcases h4 with h4 | ⟨t, h4⟩
  · exact Or.inl ((h4.moved hW.alike).kept hq)
  · exact Or.inr ⟨t, (h4.moved hW.alike).kept hq⟩
theorem sr_K.go {G : sr_G} {s U : State} (h : sr_K G s) (hW : s.WarmedH U.vm) (hz : s.heap.size ≤ U.heap.size) (hq : ∀ q : Nat, q < s.heap.size → ¬ sr_A G q → U.heap[q]? = s.heap[q]?) : sr_K G U := by
  obtain ⟨h1, h2, h3, h4, h5, h6, h7, h8, h9⟩ := h
  have hlt : G.2.2.2.2.2.2.1 < s.heap.size := Nat.lt_of_lt_of_le h9 h3
  exact ⟨h1.moved hW.alike, fun t ht => ⟨arrOfT_moved hW.alike (h2 t ht).1, (h2 t ht).2.moved hW.alike⟩, Nat.le_trans h3 hz, h4.go hW hq, fun q hm => (h5 q hm).warmM hW, h6.moved hW.alike, h7.moved hW.alike, (h8.moved hW.alike).kept (hq _ hlt (Nat.not_le.mpr h9)), h9⟩
theorem sr_K.same {G : sr_G} {s U : State} (h : sr_K G s) (hv : U.vm = s.vm) (hh : U.heap = s.heap) : sr_K G U := by
  have hal : s.vm.Alike U.vm := by rw [hv]; exact Vm.Alike.refl _
  have hq : ∀ q : Nat, q < s.heap.size → ¬ sr_A G q → U.heap[q]? = s.heap[q]? := fun q _ _ => by rw [hh]
  obtain ⟨h1, h2, h3, ⟨h4, h5, h6, h7⟩, h8, h9, h10, h11, h12⟩ := h
  refine ⟨h1.moved hal, fun t ht => ⟨arrOfT_moved hal (h2 t ht).1, (h2 t ht).2.moved hal⟩, by rw [hh]; exact h3, ⟨by rw [hh]; exact h4.moved hal, fun q hm => (h5 q hm).same hv, by rw [hh]; exact h6.moved hal, ?_⟩, fun q hm => (h8 q hm).same rfl hv.symm, h9.moved hal, h10.moved hal, (h11.moved hal).kept (by rw [hh]), h12⟩
  rcases h7 with h7 | ⟨t, h7⟩
  · exact Or.inl (by rw [hh]; exact h7.moved hal)
  · exact Or.inr ⟨t, by rw [hh]; exact h7.moved hal⟩
/-- the tables' words that any state later on keeps -/
def sr_tbl : List Cond := lw_tbl.filter goodWord
theorem sr_w {w : Cond} (i : Nat) (h : lw_tbl[i]? = some w) (hg : goodWord w = true) : w ∈ sr_tbl := List.mem_filter.mpr ⟨List.mem_of_getElem? h, hg⟩
theorem sr_good : GoodIn sr_tbl sr_tbl := fun w h => ⟨h, good_of_word (List.mem_filter.mp h).2⟩
/-- what holds in a frame of a method of class 'own', with the code cc -/
def sr_Cx (G : sr_G) (own : String) (cc : ByteArray) (nL : Nat) (ret : Option FieldType) (ini : Bool) (p : Program) (s : State) (m : MethodId) (args : Array Value) (meth : Method) (c : Code) : Prop :=
  p.tables.exec = Jvm.exec ∧ c.code = cc ∧ meth.sig.returnType = ret ∧ c.maxLocals = nL ∧ s.vm.findClass own = some m.cls ∧ (∀ w ∈ sr_tbl, w.before args s = true) ∧ meth.locks = false ∧ sr_K G s ∧ (ini = true → meth.name = "<init>")
/-- what a local or a stack place holds: an int, a long, or a reference -/
abbrev sr_V : Type := Int32 ⊕ Int64 ⊕ Option Nat
abbrev vI (x : Int32) : sr_V := .inl x
abbrev vL (x : Int64) : sr_V := .inr (.inl x)
abbrev vR (x : Option Nat) : sr_V := .inr (.inr x)
def sr_em (v : sr_V) : Value := match v with
  | .inl x => .int x
  | .inr (.inl x) => .long x
  | .inr (.inr r) => va_rf r
abbrev sr_el (L : List (Nat × sr_V)) : List (Nat × Value) := L.map (fun q => (q.1, sr_em q.2))
def sr_Q {X : Type} (G : sr_G) (inj : X → Option sr_V) (x : X) (h : AH) : Array Value → State → Outcome → State → Prop := fun _ st oc t => oc = .returned ((inj x).map sr_em) ∧ sr_Rep G h t.heap ∧ va_F (sr_A G) st t
/-- how a walk ends -/
abbrev sr_Z (X : Type) : Type := X → AH → List Frame → Array Value → State → Nat → Nat → State → Prop
def sr_M {X : Type} (G : sr_G) (inj : X → Option sr_V) : sr_Z X := fun x h' below args s n0 s0 => MQ below (sr_Q G inj x h') args s (gN h' - n0) (gS h' - s0) (sr_A G)
/-- THE JUDGEMENT: if F says that the method ends with x and the heap h', then from this frame it does -/
def sr_T {X : Type} (G : sr_G) (d : Nat) (own : String) (cc : ByteArray) (nL : Nat) (ret : Option FieldType) (ini : Bool) (inj : sr_Z X) (pc : Nat) (L : List (Nat × sr_V)) (st : List sr_V) (h : AH) (F : Option (X × AH)) : Prop :=
  ∀ (x : X) (h' : AH), F = some (x, h') → (gN h ≤ gN h' ∧ gS h ≤ gS h') ∧
    ∀ (p : Program) (e : Env) (R : Room) (s : State) (m : MethodId) (args : Array Value) (below : List Frame) (meth : Method) (c : Code) (n0 s0 : Nat) (H : Heap) (locs : List Loc) (ls : Array Slot),
      sr_Cx G own cc nL ret ini p s m args meth c → d ≤ R.frames → 64 * d ≤ R.locals → n0 ≤ gN h → s0 ≤ gS h → gN h' - n0 ≤ R.cells → gS h' - s0 ≤ R.slots →
      sr_Rep G h H → va_S (sr_A G) s.heap H locs → lv_has ls nL (sr_el L) →
      W p G.1 e R s m args below meth c H locs (gN h - n0) (gS h - s0) (inj x h' below args s n0 s0) (F0 m pc ls (st.map sr_em))
/-- a method, as a contract, for every F that is known to end -/
def sr_E {X : Type} (G : sr_G) (d : Nat) (y : MethodName) (cc : ByteArray) (nL : Nat) (ret : Option FieldType) (inj : X → Option sr_V) (av : List sr_V) (h : AH) (F : Option (X × AH)) : Prop :=
  ∀ (x : X) (h' : AH), F = some (x, h') → (gN h ≤ gN h' ∧ gS h ≤ gS h') ∧
    Met G.1 y (Cond.code y cc nL ret :: sr_tbl) { frames := d, cells := gN h' - gN h, slots := gS h' - gS h, locals := 64 * d } (va_Pc (av.map sr_em) (fun U => sr_Rep G h U.heap ∧ sr_K G U)) (sr_Q G inj x h') (gN h' - gN h) (gS h' - gS h) (sr_A G)
abbrev jI : Int32 → Option sr_V := fun v => some (vI v)
abbrev jL : Int64 → Option sr_V := fun v => some (vL v)
abbrev jR : Option Nat → Option sr_V := fun v => some (vR v)
abbrev jV : Unit → Option sr_V := fun _ => none
/-- the pieces that F is made of -/
def cGI {Y : Type} (h : AH) (c f : Nat) (r : Option Nat) (K : Int32 → Option Y) : Option Y := match r with
  | none => none
  | some a => if (gK h a).1 = c + 1 then K (gI h f a) else none
def cGL {Y : Type} (h : AH) (c f : Nat) (r : Option Nat) (K : Int64 → Option Y) : Option Y := match r with
  | none => none
  | some a => if (gK h a).1 = c + 1 then K (gL h f a) else none
def cGR {Y : Type} (h : AH) (c f : Nat) (r : Option Nat) (K : Option Nat → Option Y) : Option Y := match r with
  | none => none
  | some a => if (gK h a).1 = c + 1 then K (gR h f a) else none
def cPI {Y : Type} (h : AH) (c f : Nat) (r : Option Nat) (v : Int32) (K : AH → Option Y) : Option Y := match r with
  | none => none
  | some a => if (gK h a).1 = c + 1 then K (pI h f a v) else none
def cPL {Y : Type} (h : AH) (c f : Nat) (r : Option Nat) (v : Int64) (K : AH → Option Y) : Option Y := match r with
  | none => none
  | some a => if (gK h a).1 = c + 1 then K (pL h f a v) else none
def cPR {Y : Type} (h : AH) (c f : Nat) (r : Option Nat) (v : Option Nat) (K : AH → Option Y) : Option Y := match r with
  | none => none
  | some a => if (gK h a).1 = c + 1 then K (pR h f a v) else none
def cAL {Y : Type} (h : AH) (t : Nat) (r : Option Nat) (i : Int32) (K : Int32 → Option Y) : Option Y := match r with
  | none => none
  | some a => if (gK h a).1 = 100 + t ∧ 0 ≤ i.toInt ∧ i.toInt < (gK h a).2 then K (gA h a i.toNatClampNeg) else none
def cQL {Y : Type} (h : AH) (t : Nat) (r : Option Nat) (i : Int32) (K : Option Nat → Option Y) : Option Y := match r with
  | none => none
  | some a => if (gK h a).1 = 100 + t ∧ 0 ≤ i.toInt ∧ i.toInt < (gK h a).2 then K (gQ h a i.toNatClampNeg) else none
def cAS {Y : Type} (h : AH) (t : Nat) (r : Option Nat) (i v : Int32) (K : AH → Option Y) : Option Y := match r with
  | none => none
  | some a => if (gK h a).1 = 100 + t ∧ 0 ≤ i.toInt ∧ i.toInt < (gK h a).2 then K (pA h a i.toNatClampNeg (vp_nar (sr_aty t) v)) else none
def cQS {Y : Type} (h : AH) (t c : Nat) (r : Option Nat) (i : Int32) (v : Option Nat) (K : AH → Option Y) : Option Y := match r, v with
  | some a, some b => if ((gK h a).1 = 100 + t ∧ 0 ≤ i.toInt ∧ i.toInt < (gK h a).2) ∧ (gK h b).1 = c + 1 then K (pQ h a i.toNatClampNeg (some b)) else none
  | _, _ => none
def cAN {Y : Type} (h : AH) (t : Nat) (r : Option Nat) (K : Int32 → Option Y) : Option Y := match r with
  | none => none
  | some a => if (gK h a).1 = 100 + t then K (nI (gK h a).2) else none
def cNO {Y : Type} (h : AH) (c N : Nat) (K : Option Nat → AH → Option Y) : Option Y := K (some (gN h)) (mkC h (c + 1, 0) N)
def cNA {Y : Type} (h : AH) (t : Nat) (n : Int32) (K : Option Nat → AH → Option Y) : Option Y := if 0 ≤ n.toInt ∧ n.toInt < 100000 then K (some (gN h)) (mkC h (100 + t, n.toNatClampNeg) n.toNatClampNeg) else none
def cCL {X Y : Type} (x : Option (X × AH)) (K : X → AH → Option Y) : Option Y := match x with
  | none => none
  | some q => K q.1 q.2
def cZ {Y : Type} (v : Int32) (K : Option Y) : Option Y := if v = 0 ∨ v = 1 then K else none

def sr_tm (i : Nat) : Term := match i with
  | 0 => .string "SoupReader" 226
  | 1 => .string "SoupReader$Out" 32
  | 2 => .string "SoupReader$Out" 38
  | 3 => .string "SoupReader$Out" 40
  | 4 => .string "SoupReader$Out" 42
  | 5 => .string "SoupReader$PageReader" 78
  | 6 => .string "SoupReader$PageReader" 164
  | _ => .string "SoupReader$PageReader" 98
def sr_fl : List Cond := flatC (Jvm.Cond.and given_1 narrow_1)
theorem sr_s1 : ∀ i, i < 8 → Cond.exactly (sr_tm i) "java/lang/String" ∈ sr_fl := by decide +kernel
theorem sr_s2 : ∀ i, i < 8 → Cond.eq (.field (sr_tm i) "java/lang/String" "coder" "B") (.int 0) ∈ sr_fl := by decide +kernel
theorem sr_s3 : ∀ i, i < 8 → Cond.arrayOf (.field (sr_tm i) "java/lang/String" "value" "[B") .byte ∈ sr_fl := by decide +kernel
theorem sr_s4 : ∀ i, i < 8 → Cond.eq (.length (.field (sr_tm i) "java/lang/String" "value" "[B")) (.int (Int32.ofNat (sr_len.getD i 0))) ∈ sr_fl := by decide +kernel
theorem sr_s5 : ∀ i, i < 8 → ∀ j, j < sr_len.getD i 0 → Cond.eq (.elem (.field (sr_tm i) "java/lang/String" "value" "[B") (.int (Int32.ofNat j))) (.int ((sr_txt.getD i []).getD j 0)) ∈ sr_fl := by decide +kernel
theorem sr_s6 : ∀ i, i < 8 → ∀ j, j < 8 → i ≠ j → Cond.not (Cond.eq (sr_tm i) (sr_tm j)) ∈ sr_fl ∨ Cond.not (Cond.eq (sr_tm j) (sr_tm i)) ∈ sr_fl := by decide +kernel
theorem sr_s7 : Cond.eq (.string "SoupReader$PageReader" 220) (.string "SoupReader$Out" 32) ∈ sr_fl ∧ Cond.eq (.string "SoupReader$PageReader" 222) (.string "SoupReader$Out" 38) ∈ sr_fl ∧ Cond.eq (.string "SoupReader$PageReader" 224) (.string "SoupReader$Out" 40) ∈ sr_fl ∧ Cond.eq (.string "SoupReader$PageReader" 226) (.string "SoupReader$Out" 42) ∈ sr_fl := by decide +kernel
theorem sr_s8 : Cond.eq (.static "java/lang/String" "COMPACT_STRINGS" "Z") (.int 1) ∈ sr_fl ∧ Cond.isRef (.static "jdk/internal/util/Preconditions" "SIOOBE_FORMATTER" "Ljava/util/function/BiFunction;") ∈ sr_fl := by decide +kernel
theorem sr_s9 : ∀ q ∈ sr_lits, Cond.stringRef q.1 q.2.1 q.2.2.1 ∈ lw_tbl := by decide +kernel
theorem sr_s10 : ∀ q ∈ sr_nws, Cond.methodLinkNest q.1 q.2.1 q.2.2.1 q.2.2.2 ∈ lw_tbl := by decide +kernel
theorem sr_s11 : Cond.laysStatic "java/lang/String" "COMPACT_STRINGS" "Z" ∈ lw_tbl ∧ Cond.initialized "java/lang/String" ∈ lw_tbl ∧ Cond.laysStatic "jdk/internal/util/Preconditions" "SIOOBE_FORMATTER" "Ljava/util/function/BiFunction;" ∈ lw_tbl ∧ Cond.initialized "jdk/internal/util/Preconditions" ∈ lw_tbl := by decide +kernel
theorem sr_s12 : Cond.arrayClass .int ∈ lw_tbl ∧ Cond.arrayClass .byte ∈ lw_tbl ∧ Cond.arrayClass .boolean ∈ lw_tbl ∧ Cond.arrayOver (.object "SoupReader$Node") ∈ lw_tbl ∧ Cond.arrayOver (.object "SoupReader$Attribute") ∈ lw_tbl := by decide +kernel
theorem sr_s13 : ∀ c, c < 10 → ∀ r ∈ sr_cl[c]?, Cond.instantiable r.1 r.2.2 ∈ lw_tbl := by decide +kernel
theorem sr_tbl_sub : ∀ w ∈ sr_tbl, w ∈ lw_tbl := fun w h => (List.mem_filter.mp h).1
/-- all that the judgement's context asks holds at the law's entry -/
theorem sr_K0 {s : State} {b L : Nat} {xs : Nat → Int32} (l : Launch) (hts : ∀ w ∈ lw_tbl, w.before #[Value.ref b] s = true) (hX : va_X b L xs s s.heap) (hbl : b < s.heap.size) (hgv : (Jvm.Cond.and given_1 narrow_1).before #[Value.ref b] s = true) : ∃ (D : va_G) (cA : Nat → ClassId) (sa sv : Nat → Nat), sr_K (l, D, cA, sa, sv, s.heap.size, b, L, xs) s := by
  have hs := flat_of_before _ hgv
  have hfl : ∀ w ∈ sr_fl, w.before #[Value.ref b] s = true := hs
  have hA : ∀ a : Nat, a < s.heap.size → ¬ (fun q => s.heap.size ≤ q) a := fun a ha => Nat.not_le.mpr ha
  -- the classes
  have h1 : ∀ c : Nat, ∃ q : ClassId × (Nat → Nat), ∀ r : vw_C, sr_cl[c]? = some r → u_Kn s r.1 r.2.1 r.2.2 q.1 q.2 := by
    intro c
    by_cases hc : c < 10
    · have key : ∀ (r : vw_C), sr_cl[c]? = some r → (∀ w ∈ u_ws r.1 r.2.1 r.2.2, w ∈ sr_tbl) → ∃ q : ClassId × (Nat → Nat), ∀ r' : vw_C, sr_cl[c]? = some r' → u_Kn s r'.1 r'.2.1 r'.2.2 q.1 q.2 := by
        intro r hr hin
        obtain ⟨cC, iS, hk⟩ := u_known (ws := lw_tbl) (T := r.2.1) hts (fun w hw => sr_tbl_sub w (hin w hw)) (hts _ (sr_s13 c hc r hr))
        exact ⟨(cC, iS), fun r' hr' => by cases hr.symm.trans hr'; exact hk⟩
      rcases c with _ | _ | _ | _ | _ | _ | _ | _ | _ | _ | c
      · exact key _ rfl ciX0
      · exact key _ rfl ciX1
      · exact key _ rfl ciX2
      · exact key _ rfl ciX3
      · exact key _ rfl ciX4
      · exact key _ rfl ciX5
      · exact key _ rfl ciX6
      · exact key _ rfl ciX7
      · exact key _ rfl ciX8
      · exact key _ rfl ciX9
      · omega
    · refine ⟨(0, fun _ => 0), fun r hr => ?_⟩
      have := (List.getElem?_eq_some_iff.mp hr).1
      simp only [List.length_cons, List.length_nil] at this
      omega
  obtain ⟨dq, hdq⟩ := Classical.axiomOfChoice h1
  -- the arrays
  have prim : ∀ ty : FieldType, (Cond.arrayClass ty).before #[Value.ref b] s = true → (∀ o, ty ≠ .object o) → ∃ cA : ClassId, ArrOfT s cA ty ∧ va_RA s cA ty := by
    intro ty h ho
    obtain ⟨cA, kA, comp, hf, hk, hkind⟩ := Cond.arrayClass_spec h
    refine ⟨cA, fun n z => ⟨fun k h => (by cases h), kA, hk, comp, hkind⟩, ?_⟩
    unfold va_RA
    cases ty with
    | object o => exact absurd rfl (ho o)
    | _ => exact hf
  have obj : ∀ o : String, va_AO o s → ∃ cA : ClassId, ArrOfT s cA (.object o) ∧ va_RA s cA (.object o) := by
    intro o h
    obtain ⟨comp, c, k, q1, q2, q3, q4, q5⟩ := Cond.arrayOver_spec h
    exact ⟨c, fun n z => ⟨fun k h => (by cases h), k, q3, comp, q4⟩, k, comp, q3, q4, q1, q5⟩
  have hao1 : va_AO "SoupReader$Node" s := va_AO.of (hts _ sr_s12.2.2.2.1)
  have hao2 : va_AO "SoupReader$Attribute" s := va_AO.of (hts _ sr_s12.2.2.2.2)
  have h2 : ∀ t : Nat, ∃ cA : ClassId, t < 5 → ArrOfT s cA (sr_aty t) ∧ va_RA s cA (sr_aty t) := by
    intro t
    rcases t with _ | _ | _ | _ | _ | t
    · obtain ⟨cA, h⟩ := prim .int (hts _ sr_s12.1) (fun o q => by cases q); exact ⟨cA, fun _ => h⟩
    · obtain ⟨cA, h⟩ := prim .byte (hts _ sr_s12.2.1) (fun o q => by cases q); exact ⟨cA, fun _ => h⟩
    · obtain ⟨cA, h⟩ := prim .boolean (hts _ sr_s12.2.2.1) (fun o q => by cases q); exact ⟨cA, fun _ => h⟩
    · obtain ⟨cA, h⟩ := obj _ hao1; exact ⟨cA, fun _ => h⟩
    · obtain ⟨cA, h⟩ := obj _ hao2; exact ⟨cA, fun _ => h⟩
    · exact ⟨0, fun h => absurd h (by omega)⟩
  obtain ⟨cA, hcA⟩ := Classical.axiomOfChoice h2
  -- the String constants
  obtain ⟨sa, sv, hvs, hev⟩ := vk_Sof (args := #[Value.ref b]) (s := s) (N := 8) (tm := sr_tm) (len := sr_len) (byt := sr_txt) (A := fun q => s.heap.size ≤ q) (fun i hi => Nat.lt_of_lt_of_le (sr_len_ok i hi) (by decide)) (fun i hi => hfl _ (sr_s1 i hi)) (fun i hi => hfl _ (sr_s2 i hi)) (fun i hi => hfl _ (sr_s3 i hi)) (fun i hi => hfl _ (sr_s4 i hi)) (fun i hi j hj => hfl _ (sr_s5 i hi j hj))
    (fun i j hi hj hij => (sr_s6 i hi j hj hij).imp (hfl _) (hfl _)) hA
  refine ⟨(fun c => (dq c).1, fun c => (dq c).2), cA, sa, sv, ⟨fun c q hq => hdq c q hq, fun k q hk => by simp at hk⟩, hcA, Nat.le_refl _, ⟨hvs, ?_, va_Zof (hts _ sr_s11.1) (hts _ sr_s11.2.1) (va_eqi (hfl _ sr_s8.1)) hA, va_Zqof (hts _ sr_s11.2.2.1) (hts _ sr_s11.2.2.2) (hfl _ sr_s8.2) hA⟩, fun q hq => va_Nw.of rfl (hts _ (sr_s10 q hq)), hao1, hao2, hX, hbl⟩
  intro q hq
  have hr := hts _ (sr_s9 q hq)
  have e0 := hev 0 (by decide); have e1 := hev 1 (by decide); have e2 := hev 2 (by decide); have e3 := hev 3 (by decide)
  have e4 := hev 4 (by decide); have e5 := hev 5 (by decide); have e6 := hev 6 (by decide); have e7 := hev 7 (by decide)
  simp only [sr_lits, List.mem_cons, List.not_mem_nil, or_false] at hq
  rcases hq with rfl | rfl | rfl | rfl | rfl | rfl | rfl | rfl | rfl | rfl | rfl | rfl
  · exact vk_R.of hr e0
  · exact vk_R.of hr e1
  · exact vk_R.of hr e2
  · exact vk_R.of hr e3
  · exact vk_R.of hr e4
  · exact vk_R.of hr (va_eqv (hfl _ sr_s7.1) e1)
  · exact vk_R.of hr (va_eqv (hfl _ sr_s7.2.1) e2)
  · exact vk_R.of hr (va_eqv (hfl _ sr_s7.2.2.1) e3)
  · exact vk_R.of hr (va_eqv (hfl _ sr_s7.2.2.2) e4)
  · exact vk_R.of hr e5
  · exact vk_R.of hr e6
  · exact vk_R.of hr e7
/-- the heap of which nothing is ours yet -/
def sr_h0 (base : Nat) : AH := (fun _ _ => 0, fun _ _ => 0, fun _ _ => none, fun _ _ => 0, fun _ _ => none, fun _ => (0, 0), base, 0)
theorem sr_Rep0 (G : sr_G) (H : Heap) : sr_Rep G (sr_h0 H.size) H := ⟨rfl, fun a h => absurd rfl h, fun a ci r h _ => absurd (show 0 = ci + 1 from h) (by omega), fun a t h _ => absurd (show 0 = 100 + t from h) (by omega)⟩

section HEAP
theorem sr_fv_eq {h h1 : AH} (e1 : gI h1 = gI h) (e2 : gL h1 = gL h) (e3 : gR h1 = gR h) (ci k a : Nat) : sr_fv h1 ci k a = sr_fv h ci k a := by
  unfold sr_fv sr_v
  rw [e1, e2, e3]
theorem sr_ev_eq {h h1 : AH} (e1 : gA h1 = gA h) (e2 : gQ h1 = gQ h) (t a j : Nat) : sr_ev h1 t a j = sr_ev h t a j := by
  unfold sr_ev
  rw [e1, e2]
theorem sr_v_at {h h1 : AH} {kind f a : Nat} (e1 : gI h1 f a = gI h f a) (e2 : gL h1 f a = gL h f a) (e3 : gR h1 f a = gR h f a) : sr_v h1 kind f a = sr_v h kind f a := by
  unfold sr_v
  rw [e1, e2, e3]
/-- a field of the object at a has changed -/
theorem sr_Rep.put {G : sr_G} {h h1 : AH} {H H1 : Heap} {a c : Nat} {r : vw_C} (hR : sr_Rep G h H) (hka : (gK h a).1 = c + 1) (hc : sr_cl[c]? = some r) (e1 : H1.size = H.size) (e3 : ∀ q, q ≠ a → H1[q]? = H[q]?)
    (hN : gN h1 = gN h) (hK : gK h1 = gK h) (hA : gA h1 = gA h) (hQ : gQ h1 = gQ h) (hoth : ∀ ci k' b, b ≠ a → sr_fv h1 ci k' b = sr_fv h ci k' b) (hat : t_OB a (G.2.1.1 c) r.2.2 (G.2.1.2 c) H1 (fun k' => sr_fv h1 c k' a)) : sr_Rep G h1 H1 := by
  obtain ⟨r1, r2, r3, r4⟩ := hR
  refine ⟨by rw [e1, hN]; exact r1, fun b hb => r2 b (by rw [← hK]; exact hb), fun b ci r' hb hr => ?_, fun b t hb ht => ?_⟩
  · rw [hK] at hb
    by_cases hba : b = a
    · subst hba
      have hci : ci = c := by omega
      subst hci
      cases hc.symm.trans hr
      exact hat
    · exact ((r3 b ci r' hb hr).kept (e3 b hba)).to (fun k' _ => (hoth ci k' b hba).symm)
  · rw [hK] at hb ⊢
    have hba : b ≠ a := by
      intro q
      subst q
      have hlen := (List.getElem?_eq_some_iff.mp hc).1
      simp only [List.length_cons, List.length_nil] at hlen
      omega
    rw [e3 b hba, r4 b t hb ht]
    congr 2
    funext j
    exact (sr_ev_eq hA hQ t b j).symm
/-- places of the array at a have changed -/
theorem sr_Rep.aput {G : sr_G} {h h1 : AH} {H H1 : Heap} {a t : Nat} (hR : sr_Rep G h H) (hka : (gK h a).1 = 100 + t) (ht : t < 5) (e1 : H1.size = H.size) (e3 : ∀ q, q ≠ a → H1[q]? = H[q]?)
    (hN : gN h1 = gN h) (hK : gK h1 = gK h) (hI : gI h1 = gI h) (hL : gL h1 = gL h) (hQ : gR h1 = gR h) (hoth : ∀ t' j b, b ≠ a → sr_ev h1 t' b j = sr_ev h t' b j) (hat : H1[a]? = some (arrV (G.2.2.1 t) (gK h a).2 (fun j => sr_ev h1 t a j))) : sr_Rep G h1 H1 := by
  obtain ⟨r1, r2, r3, r4⟩ := hR
  refine ⟨by rw [e1, hN]; exact r1, fun b hb => r2 b (by rw [← hK]; exact hb), fun b ci r' hb hr => ?_, fun b t' hb ht' => ?_⟩
  · rw [hK] at hb
    have hba : b ≠ a := by
      intro q
      subst q
      have hlen := (List.getElem?_eq_some_iff.mp hr).1
      simp only [List.length_cons, List.length_nil] at hlen
      omega
    exact ((r3 b ci r' hb hr).kept (e3 b hba)).to (fun k' _ => (sr_fv_eq hI hL hQ ci k' b).symm)
  · rw [hK] at hb ⊢
    by_cases hba : b = a
    · subst hba
      have htt : t' = t := by omega
      subst htt
      exact hat
    · rw [e3 b hba, r4 b t' hb ht']
      congr 2
      funext j
      exact (hoth t' j b hba).symm
theorem sr_Rep.lt {G : sr_G} {h : AH} {H : Heap} (hR : sr_Rep G h H) {a t : Nat} (hka : (gK h a).1 = 100 + t) (ht : t < 5) : a < H.size := (Array.getElem?_eq_some_iff.mp (hR.2.2.2 a t hka ht)).1
theorem sr_Rep.lto {G : sr_G} {h : AH} {H : Heap} (hR : sr_Rep G h H) {a c : Nat} {r : vw_C} (hka : (gK h a).1 = c + 1) (hc : sr_cl[c]? = some r) : a < H.size := by
  obtain ⟨cell, h1, -⟩ := hR.2.2.1 a c r hka hc
  exact (Array.getElem?_eq_some_iff.mp h1).1
/-- a cell has come -/
theorem sr_Rep.newO {G : sr_G} {h : AH} {H H1 : Heap} {c n : Nat} {r : vw_C} (hR : sr_Rep G h H) (hb : sr_bs G ≤ H.size) (hc : sr_cl[c]? = some r) (e1 : H1.size = H.size + 1) (e3 : ∀ q, q < H.size → H1[q]? = H[q]?)
    (hat : t_OB H.size (G.2.1.1 c) r.2.2 (G.2.1.2 c) H1 (fun k' => sr_fv (mkC h (c + 1, 0) n) c k' H.size)) : sr_Rep G (mkC h (c + 1, 0) n) H1 := by
  have hR0 := hR
  obtain ⟨r1, r2, r3, r4⟩ := hR
  have kk : ∀ b, b ≠ H.size → gK (mkC h (c + 1, 0) n) b = gK h b := fun b hb => by show (if b = gN h then _ else _) = _; rw [if_neg (by rw [← r1]; exact hb)]
  have kn : gK (mkC h (c + 1, 0) n) H.size = (c + 1, 0) := by show (if _ = gN h then _ else _) = _; rw [if_pos r1]
  have hlen := (List.getElem?_eq_some_iff.mp hc).1
  simp only [List.length_cons, List.length_nil] at hlen
  refine ⟨by rw [e1, r1]; rfl, fun b hb2 => ?_, fun b ci r' hb2 hr => ?_, fun b t hb2 ht => ?_⟩
  · by_cases hbs : b = H.size
    · rw [hbs]; exact hb
    · rw [kk b hbs] at hb2; exact r2 b hb2
  · by_cases hbs : b = H.size
    · subst hbs
      rw [kn] at hb2
      have hci : ci = c := by simp at hb2; omega
      subst hci
      cases hc.symm.trans hr
      exact hat
    · rw [kk b hbs] at hb2
      have hlt := hR0.lto hb2 hr
      refine ((r3 b ci r' hb2 hr).kept (e3 b hlt)).to (fun k' _ => ?_)
      have hne : ¬ b = gN h := by rw [← r1]; exact hbs
      refine (sr_v_at ?_ ?_ ?_).symm
      · show (if b = gN h then _ else _) = _; rw [if_neg hne]
      · show (if b = gN h then _ else _) = _; rw [if_neg hne]
      · show (if b = gN h then _ else _) = _; rw [if_neg hne]
  · by_cases hbs : b = H.size
    · subst hbs
      rw [kn] at hb2
      simp at hb2
      omega
    · rw [kk b hbs] at hb2 ⊢
      have hlt := hR0.lt hb2 ht
      rw [e3 b hlt, r4 b t hb2 ht]
      congr 2
      funext j
      have hne : ¬ b = gN h := by rw [← r1]; exact hbs
      unfold sr_ev
      have q1 : gA (mkC h (c + 1, 0) n) b j = gA h b j := by show (if b = gN h then _ else _) = _; rw [if_neg hne]
      have q2 : gQ (mkC h (c + 1, 0) n) b j = gQ h b j := by show (if b = gN h then _ else _) = _; rw [if_neg hne]
      rw [q1, q2]
theorem sr_Rep.newA {G : sr_G} {h : AH} {H H1 : Heap} {t n : Nat} (hR : sr_Rep G h H) (hb : sr_bs G ≤ H.size) (ht : t < 5) (e1 : H1.size = H.size + 1) (e3 : ∀ q, q < H.size → H1[q]? = H[q]?)
    (hat : H1[H.size]? = some (arrV (G.2.2.1 t) n (fun j => sr_ev (mkC h (100 + t, n) n) t H.size j))) : sr_Rep G (mkC h (100 + t, n) n) H1 := by
  have hR0 := hR
  obtain ⟨r1, r2, r3, r4⟩ := hR
  have kk : ∀ b, b ≠ H.size → gK (mkC h (100 + t, n) n) b = gK h b := fun b hb => by show (if b = gN h then _ else _) = _; rw [if_neg (by rw [← r1]; exact hb)]
  have kn : gK (mkC h (100 + t, n) n) H.size = (100 + t, n) := by show (if _ = gN h then _ else _) = _; rw [if_pos r1]
  refine ⟨by rw [e1, r1]; rfl, fun b hb2 => ?_, fun b ci r' hb2 hr => ?_, fun b t' hb2 ht' => ?_⟩
  · by_cases hbs : b = H.size
    · rw [hbs]; exact hb
    · rw [kk b hbs] at hb2; exact r2 b hb2
  · have hlen := (List.getElem?_eq_some_iff.mp hr).1
    simp only [List.length_cons, List.length_nil] at hlen
    by_cases hbs : b = H.size
    · subst hbs
      rw [kn] at hb2
      simp at hb2
      omega
    · rw [kk b hbs] at hb2
      have hlt := hR0.lto hb2 hr
      refine ((r3 b ci r' hb2 hr).kept (e3 b hlt)).to (fun k' _ => ?_)
      have hne : ¬ b = gN h := by rw [← r1]; exact hbs
      refine (sr_v_at ?_ ?_ ?_).symm
      · show (if b = gN h then _ else _) = _; rw [if_neg hne]
      · show (if b = gN h then _ else _) = _; rw [if_neg hne]
      · show (if b = gN h then _ else _) = _; rw [if_neg hne]
  · by_cases hbs : b = H.size
    · subst hbs
      rw [kn] at hb2 ⊢
      have htt : t' = t := by simp at hb2; omega
      subst htt
      exact hat
    · rw [kk b hbs] at hb2 ⊢
      have hlt := hR0.lt hb2 ht'
      rw [e3 b hlt, r4 b t' hb2 ht']
      congr 2
      funext j
      have hne : ¬ b = gN h := by rw [← r1]; exact hbs
      unfold sr_ev
      have q1 : gA (mkC h (100 + t, n) n) b j = gA h b j := by show (if b = gN h then _ else _) = _; rw [if_neg hne]
      have q2 : gQ (mkC h (100 + t, n) n) b j = gQ h b j := by show (if b = gN h then _ else _) = _; rw [if_neg hne]
      rw [q1, q2]
variable {G : sr_G} {d : Nat} {own : String} {cc : ByteArray} {nL : Nat} {ret : Option FieldType} {ini : Bool} {X : Type} {inj : sr_Z X} {pc : Nat} {L : List (Nat × sr_V)} {st : List sr_V} {h : AH} {F : Option (X × AH)}
/-- an instruction that reads the heap -/
theorem sr_T.read {pc' : Nat} {st' : List sr_V}
    (hs : ∀ (p : Program) (e : Env) (R : Room) (s : State) (m : MethodId) (args : Array Value) (below : List Frame) (meth : Method) (c : Code) (H : Heap) (locs : List Loc) (cells slots : Nat) (ls : Array Slot) (Q : State → Prop), sr_Cx G own cc nL ret ini p s m args meth c → sr_Rep G h H → va_S (sr_A G) s.heap H locs → d ≤ R.frames → 64 * d ≤ R.locals → lv_has ls nL (sr_el L) →
      W p G.1 e R s m args below meth c H locs cells slots Q (F0 m pc' ls (st'.map sr_em)) → W p G.1 e R s m args below meth c H locs cells slots Q (F0 m pc ls (st.map sr_em)))
    (k : sr_T G d own cc nL ret ini inj pc' L st' h F) : sr_T G d own cc nL ret ini inj pc L st h F := by
  intro x h' hF
  obtain ⟨k1, k2⟩ := k x h' hF
  refine ⟨k1, ?_⟩
  intro p e R s m args below meth c n0 s0 H locs ls C h1 h2 h3 h4 h5 h6 h7 h8 h9
  exact hs p e R s m args below meth c H locs _ _ ls _ C h7 h8 h1 h2 h9 (k2 p e R s m args below meth c n0 s0 H locs ls C h1 h2 h3 h4 h5 h6 h7 h8 h9)
/-- an instruction that changes it -/
theorem sr_T.write {pc' : Nat} {st' : List sr_V} {h1 : AH} (hn : gN h ≤ gN h1) (hsl : gS h ≤ gS h1)
    (hs : ∀ (p : Program) (e : Env) (R : Room) (s : State) (m : MethodId) (args : Array Value) (below : List Frame) (meth : Method) (c : Code) (H : Heap) (locs : List Loc) (cells slots : Nat) (ls : Array Slot) (Q : State → Prop), sr_Cx G own cc nL ret ini p s m args meth c → sr_Rep G h H → va_S (sr_A G) s.heap H locs → cells + (gN h1 - gN h) ≤ R.cells → slots + (gS h1 - gS h) ≤ R.slots →
      (∀ (H1 : Heap) (locs1 : List Loc), sr_Rep G h1 H1 → va_S (sr_A G) s.heap H1 locs1 → W p G.1 e R s m args below meth c H1 locs1 (cells + (gN h1 - gN h)) (slots + (gS h1 - gS h)) Q (F0 m pc' ls (st'.map sr_em))) → W p G.1 e R s m args below meth c H locs cells slots Q (F0 m pc ls (st.map sr_em)))
    (k : sr_T G d own cc nL ret ini inj pc' L st' h1 F) : sr_T G d own cc nL ret ini inj pc L st h F := by
  intro x h' hF
  obtain ⟨⟨k0, k1⟩, k2⟩ := k x h' hF
  refine ⟨⟨Nat.le_trans hn k0, Nat.le_trans hsl k1⟩, ?_⟩
  intro p e R s m args below meth c n0 s0 H locs ls C h1' h2 h3 h4 h5 h6 h7 h8 h9
  have e1 : gN h - n0 + (gN h1 - gN h) = gN h1 - n0 := by omega
  have e2 : gS h - s0 + (gS h1 - gS h) = gS h1 - s0 := by omega
  refine hs p e R s m args below meth c H locs _ _ ls _ C h7 h8 (by omega) (by omega) (fun H1 locs1 q1 q2 => ?_)
  rw [e1, e2]
  exact k2 p e R s m args below meth c n0 s0 H1 locs1 ls C h1' h2 (by omega) (by omega) h5 h6 q1 q2 h9
/-- what the tables say of a class of ours -/
def sr_cf (c : Nat) (C : String) (T : u_T) (N : Nat) : Prop :=
  sr_cl[c]? = some (C, T, N) ∧ (∀ w ∈ u_ws C T N, w ∈ sr_tbl) ∧ (∀ k, k < N → parseFieldDescriptor (T k).2.2.1 = some (sr_ty c k)) ∧ (∀ a, a < N → ∀ b, b < N → a ≠ b → (T a).2.1 ≠ (T b).2.1) ∧ N < 50
theorem sr_fget {C : String} {T : u_T} {N c k index : Nat} {v : Value} {a : Nat} {st' : List sr_V} {sv : sr_V} (hd : decode cc pc = .ok (.getfield index, 3)) (cf : sr_cf c C T N) (hk : k < N) (hw : Cond.fieldLink own index (T k).1 (T k).2.1 (T k).2.2.1 ∈ sr_tbl) (hka : (gK h a).1 = c + 1) (hv : sr_fv h c k a = sr_em sv)
    (kk : sr_T G d own cc nL ret ini inj (pc + 3) L (sv :: st') h F) : sr_T G d own cc nL ret ini inj pc L (vR (some a) :: st') h F := by
  refine sr_T.read (fun p e R s m args below meth c' H locs cells slots ls Q C' hR hS _ _ h9 kk => ?_) kk
  obtain ⟨hx, hb, -, -, hown, hts, -, hK, -⟩ := C'
  obtain ⟨c1, c2, c3, c4, -⟩ := cf
  refine va_get (D := G.2.1) (cl := sr_cl) (tys := []) (ws := [(a, .inr (c, (List.range N).map (fun k' => sr_fv h c k' a)))]) (v := sr_em sv) hx hb hts c2 hown hK.1 ?_ 0 rfl c1 k hk (hts _ hw) (fun _ q => q) ?_ hd kk
  · intro j q hj
    have : j = 0 := by
      have := (List.getElem?_eq_some_iff.mp hj).1
      simp at this
      omega
    subst this
    cases hj
    refine ⟨_, c1, (hR.2.2.1 a c _ hka c1).to (fun k' hk' => ?_)⟩
    simp [vp_V, hk']
  · rw [← hv]
    simp [hk]
/-- the field facts that every kind of value shares -/
theorem sr_fput {C : String} {T : u_T} {N c k index : Nat} {a : Nat} {st' : List sr_V} {sv : sr_V} {h1 : AH} (hd : decode cc pc = .ok (.putfield index, 3)) (cf : sr_cf c C T N) (hk : k < N) (hw : Cond.fieldLink own index (T k).1 (T k).2.1 (T k).2.2.1 ∈ sr_tbl) (hka : (gK h a).1 = c + 1)
    (hfin : (T k).2.2.2 = false ∨ ((T k).2.2.2 = true ∧ ini = true ∧ (T k).1 = own)) (hn : narrow (sr_ty c k) (sr_em sv) = sr_em sv) (hfit : fits (sr_ty c k) (sr_em sv) = true)
    (hN : gN h1 = gN h) (hS1 : gS h1 = gS h) (hK1 : gK h1 = gK h) (hA : gA h1 = gA h) (hQ : gQ h1 = gQ h) (hoth : ∀ ci k' b, b ≠ a → sr_fv h1 ci k' b = sr_fv h ci k' b) (hsame : ∀ k', k' < N → sr_fv h1 c k' a = updV (fun k' => sr_fv h c k' a) k (sr_em sv) k')
    (kk : sr_T G d own cc nL ret ini inj (pc + 3) L st' h1 F) : sr_T G d own cc nL ret ini inj pc L (sv :: vR (some a) :: st') h F := by
  refine sr_T.write (by omega) (by omega) (fun p e R s m args below meth c' H locs cells slots ls Q C' hR hS hcl hsl kk => ?_) kk
  obtain ⟨hx, hb, -, -, hown, hts, -, hK, hini⟩ := C'
  obtain ⟨c1, c2, c3, c4, -⟩ := cf
  have hap := va_apart (own := own) hts c2 (sr_ty c) c3 c4 hK.1 c1
  have hAa : sr_A G a := hR.2.1 a (by rw [hka]; omega)
  have hRR := hR
  obtain ⟨cell, q1, q2, q3, q4⟩ := hR.2.2.1 a c _ hka c1
  obtain ⟨hSl, hfc, kC, hkC, hkind⟩ := hK.1.1 c _ c1
  obtain ⟨cf', kf, fi, f, hi, hsl'⟩ := hSl k hk
  have hst := (u_facts hfc hkC (u_lays hts c2 hk) hi).1
  have hcont : ∀ H' : Heap, H'[a]? = some (cell.setSlot f.slot (sr_em sv)) → H'.size = H.size → (∀ q, q ≠ a → H'[q]? = H[q]?) → W p G.1 e R s m args below meth c' H' (locs ++ [⟨a, f.slot⟩]) cells slots Q (F0 m (pc + 3) ls (st'.map sr_em)) := by
    intro H' e1 e2 e3
    have e0 : gN h1 - gN h = 0 := by omega
    have e0' : gS h1 - gS h = 0 := by omega
    rw [hsl'] at e1 ⊢
    have hP := kk H' (locs ++ [⟨a, G.2.1.2 c k⟩]) (hRR.put hka c1 e2 e3 hN hK1 hA hQ hoth ?_) (hS.put e2 e3 hAa)
    · rw [e0, e0'] at hP
      exact hP
    · exact t_OB.to (V := updV (fun k' => sr_fv h c k' a) k (sr_em sv)) ⟨_, e1, q2, q3, t_set q4 hap hk (sr_em sv)⟩ (fun k' hk' => (hsame k' hk').symm)
  rcases hfin with hfin | ⟨hfin, hi1, hdecl⟩
  · have hlay := hts _ (c2 _ (u_in_lay hk))
    unfold u_lay at hlay
    rw [if_neg (by rw [hfin]; decide)] at hlay
    have h6 := u_store hfc hkC hkind hlay hi (c3 k hk) hn hfit
    exact W.putK hx hb (f := f) ⟨hown, hts _ hw, ⟨_, _, _, hi⟩, hst⟩ (by rw [q2]; exact h6) q1 q3 (by rw [hsl']; exact k2_hasslot (q4 k hk)) rfl rfl hd hcont
  · have hlay := hts _ (c2 _ (u_in_lay hk))
    unfold u_lay at hlay
    rw [if_pos hfin] at hlay
    have hcf : m.cls = cf' := by
      obtain ⟨_, _, c'', _, _, _, -, -, hf', -, -, -, hown2, -⟩ := Cond.laysFinal_spec hlay
      have e1 : c'' = cf' := by have := hi.symm.trans hf'; simp at this; exact this.1.symm
      rw [hdecl] at hown2
      rw [← e1]; exact Option.some.inj (hown.symm.trans hown2)
    have h6 := u_fits hfc hkC hkind (Or.inr hlay) hi (c3 k hk) hn hfit
    exact W.putFinK hx hb hown (hts _ hw) hi hst hcf (hini hi1) (by rw [q2]; exact h6) q1 q3 (by rw [hsl']; exact k2_hasslot (q4 k hk)) rfl rfl hd hcont
end HEAP

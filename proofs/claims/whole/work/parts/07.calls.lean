section STORES
variable {G : sr_G} {d : Nat} {own : String} {cc : ByteArray} {nL : Nat} {ret : Option FieldType} {ini : Bool} {X : Type} {inj : sr_Z X} {pc : Nat} {L : List (Nat × sr_V)} {st : List sr_V} {h : AH} {F : Option (X × AH)}
theorem sr_apI {G : sr_G} {h : AH} {H H1 : Heap} {a t j : Nat} {v : Int32} (hR : sr_Rep G h H) (hka : (gK h a).1 = 100 + t) (ht : t < 3) (e : H1[a]? = some ((arrV (G.2.2.1 t) (gK h a).2 (fun j => sr_ev h t a j)).setSlot j (.int v))) (e1 : H1.size = H.size) (e3 : ∀ q, q ≠ a → H1[q]? = H[q]?) : sr_Rep G (pA h a j v) H1 := by
  refine hR.aput hka (by omega) e1 e3 rfl rfl rfl rfl rfl (fun t' i b hb => ?_) ?_
  · unfold sr_ev
    have q1 : gA (pA h a j v) b i = gA h b i := sr_u2_ne1 _ _ hb
    have q2 : gQ (pA h a j v) b i = gQ h b i := rfl
    rw [q1, q2]
  · rw [e, arrV_store]
    congr 2
    funext i
    unfold updV sr_ev
    dsimp only
    rw [if_pos ht, if_pos ht]
    by_cases hij : i = j
    · subst hij
      rw [if_pos rfl]
      show _ = Value.int (u2 h.2.2.2.1 _ _ _ _ _)
      rw [u2_s]
    · rw [if_neg hij]
      show _ = Value.int (u2 h.2.2.2.1 _ _ _ _ _)
      rw [sr_u2_ne _ _ hij]
      rfl
theorem sr_apQ {G : sr_G} {h : AH} {H H1 : Heap} {a t j b : Nat} (hR : sr_Rep G h H) (hka : (gK h a).1 = 100 + t) (ht : 3 ≤ t ∧ t < 5) (e : H1[a]? = some ((arrV (G.2.2.1 t) (gK h a).2 (fun j => sr_ev h t a j)).setSlot j (.ref b))) (e1 : H1.size = H.size) (e3 : ∀ q, q ≠ a → H1[q]? = H[q]?) : sr_Rep G (pQ h a j (some b)) H1 := by
  refine hR.aput hka ht.2 e1 e3 rfl rfl rfl rfl rfl (fun t' i b' hb => ?_) ?_
  · unfold sr_ev
    have q1 : gA (pQ h a j (some b)) b' i = gA h b' i := rfl
    have q2 : gQ (pQ h a j (some b)) b' i = gQ h b' i := sr_u2_ne1 _ _ hb
    rw [q1, q2]
  · rw [e, arrV_store]
    congr 2
    funext i
    unfold updV sr_ev
    dsimp only
    have h3 : ¬ t < 3 := by omega
    rw [if_neg h3, if_neg h3]
    by_cases hij : i = j
    · subst hij
      rw [if_pos rfl]
      show _ = va_rf (u2 h.2.2.2.2.1 _ _ _ _ _)
      rw [u2_s]
      rfl
    · rw [if_neg hij]
      show _ = va_rf (u2 h.2.2.2.2.1 _ _ _ _ _)
      rw [sr_u2_ne _ _ hij]
      rfl
theorem tq_iast {r : Option Nat} {i v : Int32} {K : AH → Option (X × AH)} (hd : decode cc pc = .ok (.iastore, 1)) (kk : ∀ h1, sr_T G d own cc nL ret ini inj (pc + 1) L st h1 (K h1)) : sr_T G d own cc nL ret ini inj pc L (vI v :: vI i :: vR r :: st) h (cAS h 0 r i v K) := by
  intro x h' hF
  cases r with
  | none => cases hF
  | some a =>
    by_cases hc : (gK h a).1 = 100 + 0 ∧ 0 ≤ i.toInt ∧ i.toInt < (gK h a).2
    · have hF' : K (pA h a i.toNatClampNeg (vp_nar (sr_aty 0) v)) = some (x, h') := by rw [← hF]; show _ = if _ then _ else _; rw [if_pos hc]
      obtain ⟨hka, i1, i2⟩ := hc
      refine sr_T.write (h := h) (h1 := pA h a i.toNatClampNeg (vp_nar (sr_aty 0) v)) (Nat.le_refl _) (Nat.le_refl _) (fun p e R s m args below meth c' H locs cells slots ls Q C' hR hS _ _ kk => ?_) (kk _) x h' hF'
      have hcell := hR.2.2.2 a 0 hka (by omega)
      refine W.iast C'.1 C'.2.1 hcell ((C'.2.2.2.2.2.2.2.1.2.1 0 (by omega)).1 _ _) (fun q => by cases q) (by rw [arrV_size]; exact sr_inb i1 i2) rfl rfl hd (fun H' e1 e2 e3 => ?_)
      have hP := kk H' (locs ++ [⟨a, i.toNatClampNeg⟩]) (sr_apI hR hka (by omega) e1 e2 e3) (hS.put e2 e3 (hR.2.1 a (by omega)))
      rw [show gN (pA h a i.toNatClampNeg (vp_nar (sr_aty 0) v)) - gN h = 0 from Nat.sub_self _, show gS (pA h a i.toNatClampNeg (vp_nar (sr_aty 0) v)) - gS h = 0 from Nat.sub_self _] at hP
      exact hP
    · simp only [cAS] at hF
      rw [if_neg hc] at hF
      cases hF
theorem tq_bast {r : Option Nat} {i v : Int32} {K : AH → Option (X × AH)} (hd : decode cc pc = .ok (.bastore, 1)) (kk : ∀ h1, sr_T G d own cc nL ret ini inj (pc + 1) L st h1 (K h1)) : sr_T G d own cc nL ret ini inj pc L (vI v :: vI i :: vR r :: st) h (cAS h 1 r i v K) := by
  intro x h' hF
  cases r with
  | none => cases hF
  | some a =>
    by_cases hc : (gK h a).1 = 100 + 1 ∧ 0 ≤ i.toInt ∧ i.toInt < (gK h a).2
    · have hF' : K (pA h a i.toNatClampNeg (vp_nar (sr_aty 1) v)) = some (x, h') := by rw [← hF]; show _ = if _ then _ else _; rw [if_pos hc]
      obtain ⟨hka, i1, i2⟩ := hc
      refine sr_T.write (h := h) (h1 := pA h a i.toNatClampNeg (vp_nar (sr_aty 1) v)) (Nat.le_refl _) (Nat.le_refl _) (fun p e R s m args below meth c' H locs cells slots ls Q C' hR hS _ _ kk => ?_) (kk _) x h' hF'
      have hcell := hR.2.2.2 a 1 hka (by omega)
      refine W.bast C'.1 C'.2.1 hcell ((C'.2.2.2.2.2.2.2.1.2.1 1 (by omega)).1 _ _) (fun q => by cases q) (by rw [arrV_size]; exact sr_inb i1 i2) rfl rfl hd (fun H' e1 e2 e3 => ?_)
      have hP := kk H' (locs ++ [⟨a, i.toNatClampNeg⟩]) (sr_apI hR hka (by omega) e1 e2 e3) (hS.put e2 e3 (hR.2.1 a (by omega)))
      rw [show gN (pA h a i.toNatClampNeg (vp_nar (sr_aty 1) v)) - gN h = 0 from Nat.sub_self _, show gS (pA h a i.toNatClampNeg (vp_nar (sr_aty 1) v)) - gS h = 0 from Nat.sub_self _] at hP
      exact hP
    · simp only [cAS] at hF
      rw [if_neg hc] at hF
      cases hF
theorem tq_zast {r : Option Nat} {i v : Int32} {K : AH → Option (X × AH)} (hd : decode cc pc = .ok (.bastore, 1)) (kk : ∀ h1, sr_T G d own cc nL ret ini inj (pc + 1) L st h1 (K h1)) : sr_T G d own cc nL ret ini inj pc L (vI v :: vI i :: vR r :: st) h (cAS h 2 r i v K) := by
  intro x h' hF
  cases r with
  | none => cases hF
  | some a =>
    by_cases hc : (gK h a).1 = 100 + 2 ∧ 0 ≤ i.toInt ∧ i.toInt < (gK h a).2
    · have hF' : K (pA h a i.toNatClampNeg (vp_nar (sr_aty 2) v)) = some (x, h') := by rw [← hF]; show _ = if _ then _ else _; rw [if_pos hc]
      obtain ⟨hka, i1, i2⟩ := hc
      refine sr_T.write (h := h) (h1 := pA h a i.toNatClampNeg (vp_nar (sr_aty 2) v)) (Nat.le_refl _) (Nat.le_refl _) (fun p e R s m args below meth c' H locs cells slots ls Q C' hR hS _ _ kk => ?_) (kk _) x h' hF'
      have hcell := hR.2.2.2 a 2 hka (by omega)
      refine W.zast C'.1 C'.2.1 hcell ((C'.2.2.2.2.2.2.2.1.2.1 2 (by omega)).1 _ _) (fun q => by cases q) (by rw [arrV_size]; exact sr_inb i1 i2) rfl rfl hd (fun H' e1 e2 e3 => ?_)
      have hP := kk H' (locs ++ [⟨a, i.toNatClampNeg⟩]) (sr_apI hR hka (by omega) e1 e2 e3) (hS.put e2 e3 (hR.2.1 a (by omega)))
      rw [show gN (pA h a i.toNatClampNeg (vp_nar (sr_aty 2) v)) - gN h = 0 from Nat.sub_self _, show gS (pA h a i.toNatClampNeg (vp_nar (sr_aty 2) v)) - gS h = 0 from Nat.sub_self _] at hP
      exact hP
    · simp only [cAS] at hF
      rw [if_neg hc] at hF
      cases hF
/-- an object into an array of its class -/
theorem tq_aast {C : String} {T : u_T} {N c t : Nat} {r v : Option Nat} {i : Int32} {K : AH → Option (X × AH)} (ht : 3 ≤ t ∧ t < 5) (cf : sr_cf c C T N) (hty : sr_aty t = .object C) (hd : decode cc pc = .ok (.aastore, 1)) (kk : ∀ h1, sr_T G d own cc nL ret ini inj (pc + 1) L st h1 (K h1)) : sr_T G d own cc nL ret ini inj pc L (vR v :: vI i :: vR r :: st) h (cQS h t c r i v K) := by
  intro x h' hF
  cases r with
  | none => cases v <;> cases hF
  | some a =>
    cases v with
    | none => cases hF
    | some b =>
      by_cases hc : ((gK h a).1 = 100 + t ∧ 0 ≤ i.toInt ∧ i.toInt < (gK h a).2) ∧ (gK h b).1 = c + 1
      · have hF' : K (pQ h a i.toNatClampNeg (some b)) = some (x, h') := by rw [← hF]; show _ = if _ then _ else _; rw [if_pos hc]
        obtain ⟨⟨hka, i1, i2⟩, hkb⟩ := hc
        refine sr_T.write (h := h) (h1 := pQ h a i.toNatClampNeg (some b)) (Nat.le_refl _) (Nat.le_refl _) (fun p e R s m args below meth c' H locs cells slots ls Q C' hR hS _ _ kk => ?_) (kk _) x h' hF'
        obtain ⟨hx, hb, -, -, hown, hts, -, hK, -⟩ := C'
        have hcell := hR.2.2.2 a t hka ht.2
        obtain ⟨cellV, g1, g2, g3, -⟩ := hR.2.2.1 b c _ hkb cf.1
        have hcls := (hK.1.1 c _ cf.1).2
        have hra := (hK.2.1 t ht.2).2
        rw [hty] at hra
        obtain ⟨kA, comp, k1, k2, k3, -⟩ := hra
        have hcomp : comp = G.2.1.1 c := Option.some.inj (k3.symm.trans hcls.1)
        subst hcomp
        obtain ⟨kC, hkC, -⟩ := hcls.2
        have h0 : ¬ i < 0 := fun q => sr_inb i1 i2 (Or.inl q)
        refine W.aast hx hb hcell (fun q z => by cases z) (fun z => by cases z) k1 k2 rfl hkC ⟨h0, by rw [arrV_size]; exact sr_ina i1 i2⟩ g1 (fun q z => by rw [g3] at z; cases z) (by rw [g2]; exact hkC) (by rw [g2]; exact va_assign hcls) rfl rfl hd fun H1 e1 e2 e3 => ?_
        have hP := kk H1 (locs ++ [⟨a, i.toNatClampNeg⟩]) (sr_apQ hR hka ht e1 e2 e3) (hS.put e2 e3 (hR.2.1 a (by omega)))
        rw [show gN (pQ h a i.toNatClampNeg (some b)) - gN h = 0 from Nat.sub_self _, show gS (pQ h a i.toNatClampNeg (some b)) - gS h = 0 from Nat.sub_self _] at hP
        exact hP
      · simp only [cQS] at hF
        rw [if_neg hc] at hF
        cases hF
def sr_dv (k : Nat) : Value := match k with
  | 0 => .int 0
  | 1 => .long 0
  | _ => .null
theorem tq_new {C : String} {T : u_T} {N c index : Nat} {K : Option Nat → AH → Option (X × AH)} (hd : decode cc pc = .ok (.new index, 3)) (cf : sr_cf c C T N) (hdv : ∀ k, k < N → defaultValue (sr_ty c k) = sr_dv (sr_tk (sr_ty c k))) (hw : Cond.classLink own index C ∈ sr_tbl) (hi : Cond.instantiable C N ∈ sr_tbl) (hj : Cond.initialized C ∈ sr_tbl)
    (kk : ∀ w h1, sr_T G d own cc nL ret ini inj (pc + 3) L (vR w :: st) h1 (K w h1)) : sr_T G d own cc nL ret ini inj pc L st h (cNO h c N K) := by
  intro x h' hF
  refine sr_T.write (h1 := mkC h (c + 1, 0) N) (Nat.le_succ _) (Nat.le_add_right _ _) (fun p e R s m args below meth c' H locs cells slots ls Q C' hR hS hcl hsl kk => ?_) (kk _ _) x h' hF
  obtain ⟨hx, hb, -, -, hown, hts, -, hK, -⟩ := C'
  have z1 : gN (mkC h (c + 1, 0) N) - gN h = 1 := Nat.add_sub_cancel_left _ _
  have z2 : gS (mkC h (c + 1, 0) N) - gS h = N := Nat.add_sub_cancel_left _ _
  rw [z1] at hcl kk
  rw [z2] at hsl kk
  have hKn := hK.1.1 c _ cf.1
  refine W.newcK hx hb hown (hts _ hw) (hts _ hi) (hts _ hj) rfl hd hcl hsl hKn.2.1 rfl fun H1 kC hkC e1 z1 o1 => ?_
  have hP := kk H1 locs (hR.newO (Nat.le_trans hK.2.2.1 hS.1) cf.1 z1 o1 ?_) ⟨Nat.le_trans hS.1 (by omega), fun q h1 h2 => (o1 q (Nat.lt_of_lt_of_le h1 hS.1)).trans (hS.2.1 q h1 h2), hS.2.2⟩
  · rw [show F0 m (pc + 3) ls (List.map sr_em (vR (some (gN h)) :: st)) = F0 m (pc + 3) ls (.ref H.size :: List.map sr_em st) from by rw [hR.1]; rfl] at hP
    exact hP
  · refine (u_born (sr_ty c) hts cf.2.1 hKn hkC e1 cf.2.2.1).to (fun k hk => ?_)
    rw [hdv k hk]
    have hs : H.size = gN h := hR.1
    unfold sr_fv sr_v
    have q1 : gI (mkC h (c + 1, 0) N) (50 * c + k) H.size = 0 := if_pos hs
    have q2 : gL (mkC h (c + 1, 0) N) (50 * c + k) H.size = 0 := if_pos hs
    have q3 : gR (mkC h (c + 1, 0) N) (50 * c + k) H.size = none := if_pos hs
    rw [q1, q2, q3]
    unfold sr_dv
    rcases sr_tk (sr_ty c k) with _ | _ | _ <;> rfl
theorem sr_cl0 {n : Int32} (h0 : 0 ≤ n.toInt) : ¬ n < 0 := fun q => by
  have := Int32.lt_iff_toInt_lt.mp q
  simp at this
  omega
theorem sr_clN {n : Int32} {b : Nat} (h0 : 0 ≤ n.toInt) (h1 : n.toInt < b) : n.toNatClampNeg < b := sr_ina h0 h1
theorem tq_newa {atype : ArrayType} {n : Int32} {t : Nat} {K : Option Nat → AH → Option (X × AH)} (hd : decode cc pc = .ok (.newarray atype, 2)) (ht : t < 3) (hty : newarray.typeOf atype = sr_aty t) (hw : Cond.arrayClass (newarray.typeOf atype) ∈ sr_tbl)
    (kk : ∀ w h1, sr_T G d own cc nL ret ini inj (pc + 2) L (vR w :: st) h1 (K w h1)) : sr_T G d own cc nL ret ini inj pc L (vI n :: st) h (cNA h t n K) := by
  intro x h' hF
  unfold cNA at hF
  by_cases hc : 0 ≤ n.toInt ∧ n.toInt < 100000
  · rw [if_pos hc] at hF
    refine sr_T.write (h1 := mkC h (100 + t, n.toNatClampNeg) n.toNatClampNeg) (Nat.le_succ _) (Nat.le_add_right _ _) (fun p e R s m args below meth c' H locs cells slots ls Q C' hR hS hcl hsl kk => ?_) (kk _ _) x h' hF
    obtain ⟨hx, hb, -, -, hown, hts, -, hK, -⟩ := C'
    have z1 : gN (mkC h (100 + t, n.toNatClampNeg) n.toNatClampNeg) - gN h = 1 := Nat.add_sub_cancel_left _ _
    have z2 : gS (mkC h (100 + t, n.toNatClampNeg) n.toNatClampNeg) - gS h = n.toNatClampNeg := Nat.add_sub_cancel_left _ _
    rw [z1] at hcl kk
    rw [z2] at hsl kk
    have hlt : n.toNatClampNeg < 100000 := sr_clN (b := 100000) hc.1 (by omega)
    have hcb : componentBytes (newarray.typeOf atype) ≤ 8 := by
      rw [hty]
      rcases t with _ | _ | _ | t
      · decide
      · decide
      · decide
      · omega
    refine va_newaK hx hb (hts _ hw) rfl hd rfl (sr_cl0 hc.1) rfl (Nat.le_trans (Nat.mul_le_mul (Nat.le_of_lt hlt) hcb) (by decide)) hcl hsl rfl (fun H1 cA e1 z1 o1 hao hfc => ?_)
    have hra := (hK.2.1 t (by omega)).2
    rw [hty] at hfc e1
    have hcA : cA = G.2.2.1 t := by
      rcases t with _ | _ | _ | t
      · exact Option.some.inj (hfc.symm.trans hra)
      · exact Option.some.inj (hfc.symm.trans hra)
      · exact Option.some.inj (hfc.symm.trans hra)
      · omega
    subst hcA
    have hP := kk H1 locs (hR.newA (Nat.le_trans hK.2.2.1 hS.1) (by omega) z1 o1 ?_) ⟨Nat.le_trans hS.1 (by omega), fun q h1 h2 => (o1 q (Nat.lt_of_lt_of_le h1 hS.1)).trans (hS.2.1 q h1 h2), hS.2.2⟩
    · rw [show F0 m (pc + 2) ls (List.map sr_em (vR (some (gN h)) :: st)) = F0 m (pc + 2) ls (.ref H.size :: List.map sr_em st) from by rw [hR.1]; rfl] at hP
      exact hP
    · rw [e1]
      congr 2
      funext j
      have hs : H.size = gN h := hR.1
      unfold sr_ev
      have q1 : gA (mkC h (100 + t, n.toNatClampNeg) n.toNatClampNeg) H.size j = 0 := if_pos hs
      rw [if_pos ht, q1]
      rcases t with _ | _ | _ | t
      · rfl
      · rfl
      · rfl
      · omega
  · rw [if_neg hc] at hF
    cases hF
theorem tq_anew {C : String} {index : Nat} {n : Int32} {t : Nat} {K : Option Nat → AH → Option (X × AH)} (hd : decode cc pc = .ok (.anewarray index, 3)) (ht : 3 ≤ t ∧ t < 5) (hty : sr_aty t = .object C) (hw : Cond.classLink own index C ∈ sr_tbl)
    (kk : ∀ w h1, sr_T G d own cc nL ret ini inj (pc + 3) L (vR w :: st) h1 (K w h1)) : sr_T G d own cc nL ret ini inj pc L (vI n :: st) h (cNA h t n K) := by
  intro x h' hF
  unfold cNA at hF
  by_cases hc : 0 ≤ n.toInt ∧ n.toInt < 100000
  · rw [if_pos hc] at hF
    refine sr_T.write (h1 := mkC h (100 + t, n.toNatClampNeg) n.toNatClampNeg) (Nat.le_succ _) (Nat.le_add_right _ _) (fun p e R s m args below meth c' H locs cells slots ls Q C' hR hS hcl hsl kk => ?_) (kk _ _) x h' hF
    obtain ⟨hx, hb, -, -, hown, hts, -, hK, -⟩ := C'
    have z1 : gN (mkC h (100 + t, n.toNatClampNeg) n.toNatClampNeg) - gN h = 1 := Nat.add_sub_cancel_left _ _
    have z2 : gS (mkC h (100 + t, n.toNatClampNeg) n.toNatClampNeg) - gS h = n.toNatClampNeg := Nat.add_sub_cancel_left _ _
    rw [z1] at hcl kk
    rw [z2] at hsl kk
    have hlt : n.toNatClampNeg < 100000 := sr_clN (b := 100000) hc.1 (by omega)
    have hao : va_AO C s := by
      rcases t with _ | _ | _ | _ | _ | t
      · omega
      · omega
      · omega
      · cases hty; exact hK.2.2.2.2.2.1
      · cases hty; exact hK.2.2.2.2.2.2.1
      · omega
    refine W.anew hx hb hown (hts _ hw) hao.use rfl hd rfl (sr_cl0 hc.1) (by omega) hcl hsl (fun cA kA comp f1 f2 f3 f4 => ?_)
    have hra := (hK.2.1 t ht.2).2
    rw [hty] at hra
    obtain ⟨kA', comp', k1, k2, k3, k4⟩ := hra
    have hcA : cA = G.2.2.1 t := Option.some.inj (f1.symm.trans k4)
    subst hcA
    have o1 : ∀ q, q < H.size → (H.push { cls := G.2.2.1 t, slots := Array.replicate n.toNatClampNeg Value.null, vm := .none })[q]? = H[q]? := fun q hq => by
      rw [Array.getElem?_push]
      rw [if_neg (by omega)]
    have hP := kk _ locs (hR.newA (Nat.le_trans hK.2.2.1 hS.1) ht.2 (Array.size_push _) o1 ?_) ⟨Nat.le_trans hS.1 (by rw [Array.size_push]; omega), fun q h1 h2 => (o1 q (Nat.lt_of_lt_of_le h1 hS.1)).trans (hS.2.1 q h1 h2), hS.2.2⟩
    · rw [show F0 m (pc + 3) ls (List.map sr_em (vR (some (gN h)) :: st)) = F0 m (pc + 3) ls (.ref H.size :: List.map sr_em st) from by rw [hR.1]; rfl] at hP
      exact hP
    · rw [Array.getElem?_push, if_pos rfl, arrV_new]
      congr 2
      funext j
      have hs : H.size = gN h := hR.1
      unfold sr_ev
      have q1 : gQ (mkC h (100 + t, n.toNatClampNeg) n.toNatClampNeg) H.size j = none := if_pos hs
      rw [if_neg (by omega), q1]
      rfl
  · rw [if_neg hc] at hF
    cases hF
end STORES

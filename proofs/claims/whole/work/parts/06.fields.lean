section FIELDS
variable {G : sr_G} {d : Nat} {own : String} {cc : ByteArray} {nL : Nat} {ret : Option FieldType} {ini : Bool} {X : Type} {inj : sr_Z X} {pc : Nat} {L : List (Nat × sr_V)} {st : List sr_V} {h : AH} {F : Option (X × AH)}
theorem tq_getI {C : String} {T : u_T} {N c f index : Nat} (k : Nat) (hd : decode cc pc = .ok (.getfield index, 3)) (cf : sr_cf c C T N) (hk : k < N) (hw : Cond.fieldLink own index (T k).1 (T k).2.1 (T k).2.2.1 ∈ sr_tbl) (ht : sr_tk (sr_ty c k) = 0) (hf : 50 * c + k = f) {r : Option Nat} {K : Int32 → Option (X × AH)}
    (kk : ∀ w, sr_T G d own cc nL ret ini inj (pc + 3) L (vI w :: st) h (K w)) : sr_T G d own cc nL ret ini inj pc L (vR r :: st) h (cGI h c f r K) := by
  intro x h' hF
  subst hf
  cases r with
  | none => cases hF
  | some a =>
    by_cases hka : (gK h a).1 = c + 1
    · have hF' : K (gI h (50 * c + k) a) = some (x, h') := by rw [← hF]; simp [cGI, hka]
      exact sr_fget (v := .null) hd cf hk hw hka (sv := vI (gI h (50 * c + k) a)) (by unfold sr_fv; rw [ht]; rfl) (kk _) x h' hF'
    · simp [cGI, hka] at hF
theorem tq_getL {C : String} {T : u_T} {N c f index : Nat} (k : Nat) (hd : decode cc pc = .ok (.getfield index, 3)) (cf : sr_cf c C T N) (hk : k < N) (hw : Cond.fieldLink own index (T k).1 (T k).2.1 (T k).2.2.1 ∈ sr_tbl) (ht : sr_tk (sr_ty c k) = 1) (hf : 50 * c + k = f) {r : Option Nat} {K : Int64 → Option (X × AH)}
    (kk : ∀ w, sr_T G d own cc nL ret ini inj (pc + 3) L (vL w :: st) h (K w)) : sr_T G d own cc nL ret ini inj pc L (vR r :: st) h (cGL h c f r K) := by
  intro x h' hF
  subst hf
  cases r with
  | none => cases hF
  | some a =>
    by_cases hka : (gK h a).1 = c + 1
    · have hF' : K (gL h (50 * c + k) a) = some (x, h') := by rw [← hF]; simp [cGL, hka]
      exact sr_fget (v := .null) hd cf hk hw hka (sv := vL (gL h (50 * c + k) a)) (by unfold sr_fv; rw [ht]; rfl) (kk _) x h' hF'
    · simp [cGL, hka] at hF
theorem tq_getR {C : String} {T : u_T} {N c f index : Nat} (k : Nat) (hd : decode cc pc = .ok (.getfield index, 3)) (cf : sr_cf c C T N) (hk : k < N) (hw : Cond.fieldLink own index (T k).1 (T k).2.1 (T k).2.2.1 ∈ sr_tbl) (ht : sr_tk (sr_ty c k) = 2) (hf : 50 * c + k = f) {r : Option Nat} {K : Option Nat → Option (X × AH)}
    (kk : ∀ w, sr_T G d own cc nL ret ini inj (pc + 3) L (vR w :: st) h (K w)) : sr_T G d own cc nL ret ini inj pc L (vR r :: st) h (cGR h c f r K) := by
  intro x h' hF
  subst hf
  cases r with
  | none => cases hF
  | some a =>
    by_cases hka : (gK h a).1 = c + 1
    · have hF' : K (gR h (50 * c + k) a) = some (x, h') := by rw [← hF]; simp [cGR, hka]
      exact sr_fget (v := .null) hd cf hk hw hka (sv := vR (gR h (50 * c + k) a)) (by unfold sr_fv; rw [ht]; rfl) (kk _) x h' hF'
    · simp [cGR, hka] at hF
theorem sr_u2_ne {α : Type} (f : Nat → Nat → α) {i j x y : Nat} (v : α) (hn : y ≠ j) : u2 f i j v x y = f x y := u2_n f v (fun q => hn q.2)
theorem sr_u2_ne1 {α : Type} (f : Nat → Nat → α) {i j x y : Nat} (v : α) (hn : x ≠ i) : u2 f i j v x y = f x y := u2_n f v (fun q => hn q.1)
theorem sr_ow_I {h : AH} {c k a f : Nat} {v : Int32} (hf : 50 * c + k = f) (ht : sr_tk (sr_ty c k) = 0) : (∀ ci k' b, b ≠ a → sr_fv (pI h f a v) ci k' b = sr_fv h ci k' b) ∧ ∀ k', sr_fv (pI h f a v) c k' a = updV (fun k' => sr_fv h c k' a) k (sr_em (vI v)) k' := by
  subst hf
  refine ⟨fun ci k' b hb => sr_v_at (sr_u2_ne _ _ hb) rfl rfl, fun k' => ?_⟩
  unfold updV
  by_cases hk : k' = k
  · subst hk
    rw [if_pos rfl]
    unfold sr_fv
    rw [ht]
    show Value.int (u2 h.1 _ _ _ _ _) = _
    rw [u2_s]
    rfl
  · rw [if_neg hk]
    exact sr_v_at (sr_u2_ne1 _ _ (by omega)) rfl rfl
theorem sr_ow_L {h : AH} {c k a f : Nat} {v : Int64} (hf : 50 * c + k = f) (ht : sr_tk (sr_ty c k) = 1) : (∀ ci k' b, b ≠ a → sr_fv (pL h f a v) ci k' b = sr_fv h ci k' b) ∧ ∀ k', sr_fv (pL h f a v) c k' a = updV (fun k' => sr_fv h c k' a) k (sr_em (vL v)) k' := by
  subst hf
  refine ⟨fun ci k' b hb => sr_v_at rfl (sr_u2_ne _ _ hb) rfl, fun k' => ?_⟩
  unfold updV
  by_cases hk : k' = k
  · subst hk
    rw [if_pos rfl]
    unfold sr_fv
    rw [ht]
    show Value.long (u2 h.2.1 _ _ _ _ _) = _
    rw [u2_s]
    rfl
  · rw [if_neg hk]
    exact sr_v_at rfl (sr_u2_ne1 _ _ (by omega)) rfl
theorem sr_ow_R {h : AH} {c k a f : Nat} {v : Option Nat} (hf : 50 * c + k = f) (ht : sr_tk (sr_ty c k) = 2) : (∀ ci k' b, b ≠ a → sr_fv (pR h f a v) ci k' b = sr_fv h ci k' b) ∧ ∀ k', sr_fv (pR h f a v) c k' a = updV (fun k' => sr_fv h c k' a) k (sr_em (vR v)) k' := by
  subst hf
  refine ⟨fun ci k' b hb => sr_v_at rfl rfl (sr_u2_ne _ _ hb), fun k' => ?_⟩
  unfold updV
  by_cases hk : k' = k
  · subst hk
    rw [if_pos rfl]
    unfold sr_fv
    rw [ht]
    show va_rf (u2 h.2.2.1 _ _ _ _ _) = _
    rw [u2_s]
    rfl
  · rw [if_neg hk]
    exact sr_v_at rfl rfl (sr_u2_ne1 _ _ (by omega))
theorem tq_putI {C : String} {T : u_T} {N c f index : Nat} (k : Nat) (hd : decode cc pc = .ok (.putfield index, 3)) (cf : sr_cf c C T N) (hk : k < N) (hw : Cond.fieldLink own index (T k).1 (T k).2.1 (T k).2.2.1 ∈ sr_tbl) (ht : sr_ty c k = .int) (hf : 50 * c + k = f) (hfin : (T k).2.2.2 = false ∨ ((T k).2.2.2 = true ∧ ini = true ∧ (T k).1 = own)) {r : Option Nat} {v : Int32} {K : AH → Option (X × AH)}
    (kk : ∀ h1, sr_T G d own cc nL ret ini inj (pc + 3) L st h1 (K h1)) : sr_T G d own cc nL ret ini inj pc L (vI v :: vR r :: st) h (cPI h c f r v K) := by
  intro x h' hF
  cases r with
  | none => cases hF
  | some a =>
    by_cases hka : (gK h a).1 = c + 1
    · have hF' : K (pI h f a v) = some (x, h') := by rw [← hF]; simp [cPI, hka]
      obtain ⟨o1, o2⟩ := sr_ow_I (h := h) (a := a) (v := v) hf (by rw [ht]; rfl)
      exact sr_fput (h1 := pI h f a v) (sv := vI v) hd cf hk hw hka hfin (by rw [ht]; rfl) (by rw [ht]; rfl) rfl rfl rfl rfl rfl o1 (fun k' _ => o2 k') (kk _) x h' hF'
    · simp [cPI, hka] at hF
/-- a boolean field: 0 or 1 -/
theorem tq_putZ {C : String} {T : u_T} {N c f index : Nat} (k : Nat) (hd : decode cc pc = .ok (.putfield index, 3)) (cf : sr_cf c C T N) (hk : k < N) (hw : Cond.fieldLink own index (T k).1 (T k).2.1 (T k).2.2.1 ∈ sr_tbl) (ht : sr_ty c k = .boolean) (hf : 50 * c + k = f) (hfin : (T k).2.2.2 = false ∨ ((T k).2.2.2 = true ∧ ini = true ∧ (T k).1 = own)) {r : Option Nat} {v : Int32} (hv : v = 0 ∨ v = 1) {K : AH → Option (X × AH)}
    (kk : ∀ h1, sr_T G d own cc nL ret ini inj (pc + 3) L st h1 (K h1)) : sr_T G d own cc nL ret ini inj pc L (vI v :: vR r :: st) h (cPI h c f r v K) := by
  intro x h' hF
  cases r with
  | none => cases hF
  | some a =>
    by_cases hka : (gK h a).1 = c + 1
    · have hF' : K (pI h f a v) = some (x, h') := by rw [← hF]; simp [cPI, hka]
      obtain ⟨o1, o2⟩ := sr_ow_I (h := h) (a := a) (v := v) hf (by rw [ht]; rfl)
      exact sr_fput (h1 := pI h f a v) (sv := vI v) hd cf hk hw hka hfin (by rw [ht]; rcases hv with rfl | rfl <;> rfl) (by rw [ht]; rcases hv with rfl | rfl <;> rfl) rfl rfl rfl rfl rfl o1 (fun k' _ => o2 k') (kk _) x h' hF'
    · simp [cPI, hka] at hF
theorem tq_putL {C : String} {T : u_T} {N c f index : Nat} (k : Nat) (hd : decode cc pc = .ok (.putfield index, 3)) (cf : sr_cf c C T N) (hk : k < N) (hw : Cond.fieldLink own index (T k).1 (T k).2.1 (T k).2.2.1 ∈ sr_tbl) (ht : sr_ty c k = .long) (hf : 50 * c + k = f) (hfin : (T k).2.2.2 = false ∨ ((T k).2.2.2 = true ∧ ini = true ∧ (T k).1 = own)) {r : Option Nat} {v : Int64} {K : AH → Option (X × AH)}
    (kk : ∀ h1, sr_T G d own cc nL ret ini inj (pc + 3) L st h1 (K h1)) : sr_T G d own cc nL ret ini inj pc L (vL v :: vR r :: st) h (cPL h c f r v K) := by
  intro x h' hF
  cases r with
  | none => cases hF
  | some a =>
    by_cases hka : (gK h a).1 = c + 1
    · have hF' : K (pL h f a v) = some (x, h') := by rw [← hF]; simp [cPL, hka]
      obtain ⟨o1, o2⟩ := sr_ow_L (h := h) (a := a) (v := v) hf (by rw [ht]; rfl)
      exact sr_fput (h1 := pL h f a v) (sv := vL v) hd cf hk hw hka hfin (by rw [ht]; rfl) (by rw [ht]; rfl) rfl rfl rfl rfl rfl o1 (fun k' _ => o2 k') (kk _) x h' hF'
    · simp [cPL, hka] at hF
theorem tq_putR {C : String} {T : u_T} {N c f index : Nat} (k : Nat) (hd : decode cc pc = .ok (.putfield index, 3)) (cf : sr_cf c C T N) (hk : k < N) (hw : Cond.fieldLink own index (T k).1 (T k).2.1 (T k).2.2.1 ∈ sr_tbl) (ht : sr_tk (sr_ty c k) = 2) (hf : 50 * c + k = f) (hfin : (T k).2.2.2 = false ∨ ((T k).2.2.2 = true ∧ ini = true ∧ (T k).1 = own)) {r : Option Nat} {v : Option Nat} {K : AH → Option (X × AH)}
    (kk : ∀ h1, sr_T G d own cc nL ret ini inj (pc + 3) L st h1 (K h1)) : sr_T G d own cc nL ret ini inj pc L (vR v :: vR r :: st) h (cPR h c f r v K) := by
  intro x h' hF
  cases r with
  | none => cases hF
  | some a =>
    by_cases hka : (gK h a).1 = c + 1
    · have hF' : K (pR h f a v) = some (x, h') := by rw [← hF]; simp [cPR, hka]
      obtain ⟨o1, o2⟩ := sr_ow_R (h := h) (a := a) (v := v) hf ht
      have hty : (∃ o, sr_ty c k = .object o) ∨ ∃ t, sr_ty c k = .array t := by
        unfold sr_tk at ht
        cases hq : sr_ty c k with
        | object o => exact Or.inl ⟨o, rfl⟩
        | array t => exact Or.inr ⟨t, rfl⟩
        | _ => rw [hq] at ht; simp at ht
      refine sr_fput (h1 := pR h f a v) (sv := vR v) hd cf hk hw hka hfin ?_ ?_ rfl rfl rfl rfl rfl o1 (fun k' _ => o2 k') (kk _) x h' hF'
      · rcases hty with ⟨o, hq⟩ | ⟨t, hq⟩ <;> rw [hq] <;> cases v <;> rfl
      · rcases hty with ⟨o, hq⟩ | ⟨t, hq⟩ <;> rw [hq] <;> cases v <;> rfl
    · simp [cPR, hka] at hF
theorem sr_inb {i : Int32} {n : Nat} (h1 : 0 ≤ i.toInt) (h2 : i.toInt < n) : vp_in i n := vp_in_iff.mpr ⟨h1, h2⟩
theorem sr_ina {i : Int32} {n : Nat} (h1 : 0 ≤ i.toInt) (h2 : i.toInt < n) : i.toNatClampNeg < n := Nat.not_le.mp fun q => (sr_inb h1 h2) (Or.inr q)
/-- int, byte and boolean arrays -/
theorem tq_iald {r : Option Nat} {i : Int32} {K : Int32 → Option (X × AH)} (hd : decode cc pc = .ok (.iaload, 1)) (kk : ∀ w, sr_T G d own cc nL ret ini inj (pc + 1) L (vI w :: st) h (K w)) : sr_T G d own cc nL ret ini inj pc L (vI i :: vR r :: st) h (cAL h 0 r i K) := by
  intro x h' hF
  cases r with
  | none => cases hF
  | some a =>
    by_cases hc : (gK h a).1 = 100 + 0 ∧ 0 ≤ i.toInt ∧ i.toInt < (gK h a).2
    · have hF' : K (gA h a i.toNatClampNeg) = some (x, h') := by rw [← hF]; show _ = if _ then _ else _; rw [if_pos hc]
      obtain ⟨hka, i1, i2⟩ := hc
      refine sr_T.read (fun p e R s m args below meth c' H locs cells slots ls Q C' hR hS _ _ h9 kk => ?_) (kk _) x h' hF'
      have hcell := hR.2.2.2 a 0 hka (by omega)
      exact W.iald (v := .int (gA h a i.toNatClampNeg)) C'.1 C'.2.1 hcell ((C'.2.2.2.2.2.2.2.1.2.1 0 (by omega)).1 _ _) (fun q => by cases q) (by rw [arrV_size]; exact sr_inb i1 i2) (by rw [arrV_read _ _ (sr_ina i1 i2)]; rfl) rfl rfl hd kk
    · simp only [cAL] at hF
      rw [if_neg hc] at hF
      cases hF
theorem tq_bald {r : Option Nat} {i : Int32} {K : Int32 → Option (X × AH)} (hd : decode cc pc = .ok (.baload, 1)) (kk : ∀ w, sr_T G d own cc nL ret ini inj (pc + 1) L (vI w :: st) h (K w)) : sr_T G d own cc nL ret ini inj pc L (vI i :: vR r :: st) h (cAL h 1 r i K) := by
  intro x h' hF
  cases r with
  | none => cases hF
  | some a =>
    by_cases hc : (gK h a).1 = 100 + 1 ∧ 0 ≤ i.toInt ∧ i.toInt < (gK h a).2
    · have hF' : K (gA h a i.toNatClampNeg) = some (x, h') := by rw [← hF]; show _ = if _ then _ else _; rw [if_pos hc]
      obtain ⟨hka, i1, i2⟩ := hc
      refine sr_T.read (fun p e R s m args below meth c' H locs cells slots ls Q C' hR hS _ _ h9 kk => ?_) (kk _) x h' hF'
      have hcell := hR.2.2.2 a 1 hka (by omega)
      exact W.bald (v := .int (gA h a i.toNatClampNeg)) C'.1 C'.2.1 hcell ((C'.2.2.2.2.2.2.2.1.2.1 1 (by omega)).1 _ _) (fun q => by cases q) (by rw [arrV_size]; exact sr_inb i1 i2) (by rw [arrV_read _ _ (sr_ina i1 i2)]; rfl) rfl rfl hd kk
    · simp only [cAL] at hF
      rw [if_neg hc] at hF
      cases hF
theorem tq_zald {r : Option Nat} {i : Int32} {K : Int32 → Option (X × AH)} (hd : decode cc pc = .ok (.baload, 1)) (kk : ∀ w, sr_T G d own cc nL ret ini inj (pc + 1) L (vI w :: st) h (K w)) : sr_T G d own cc nL ret ini inj pc L (vI i :: vR r :: st) h (cAL h 2 r i K) := by
  intro x h' hF
  cases r with
  | none => cases hF
  | some a =>
    by_cases hc : (gK h a).1 = 100 + 2 ∧ 0 ≤ i.toInt ∧ i.toInt < (gK h a).2
    · have hF' : K (gA h a i.toNatClampNeg) = some (x, h') := by rw [← hF]; show _ = if _ then _ else _; rw [if_pos hc]
      obtain ⟨hka, i1, i2⟩ := hc
      refine sr_T.read (fun p e R s m args below meth c' H locs cells slots ls Q C' hR hS _ _ h9 kk => ?_) (kk _) x h' hF'
      have hcell := hR.2.2.2 a 2 hka (by omega)
      exact W.zald (v := .int (gA h a i.toNatClampNeg)) C'.1 C'.2.1 hcell ((C'.2.2.2.2.2.2.2.1.2.1 2 (by omega)).1 _ _) (fun q => by cases q) (by rw [arrV_size]; exact sr_inb i1 i2) (by rw [arrV_read _ _ (sr_ina i1 i2)]; rfl) rfl rfl hd kk
    · simp only [cAL] at hF
      rw [if_neg hc] at hF
      cases hF
theorem sr_aty_ref {t : Nat} (h : 3 ≤ t) : (sr_aty t).isReference = true := by
  unfold sr_aty
  split <;> first | omega | rfl
theorem tq_aald {r : Option Nat} {i : Int32} {t : Nat} {K : Option Nat → Option (X × AH)} (ht : 3 ≤ t ∧ t < 5) (hd : decode cc pc = .ok (.aaload, 1)) (kk : ∀ w, sr_T G d own cc nL ret ini inj (pc + 1) L (vR w :: st) h (K w)) : sr_T G d own cc nL ret ini inj pc L (vI i :: vR r :: st) h (cQL h t r i K) := by
  intro x h' hF
  cases r with
  | none => cases hF
  | some a =>
    by_cases hc : (gK h a).1 = 100 + t ∧ 0 ≤ i.toInt ∧ i.toInt < (gK h a).2
    · have hF' : K (gQ h a i.toNatClampNeg) = some (x, h') := by rw [← hF]; show _ = if _ then _ else _; rw [if_pos hc]
      obtain ⟨hka, i1, i2⟩ := hc
      refine sr_T.read (fun p e R s m args below meth c' H locs cells slots ls Q C' hR hS _ _ h9 kk => ?_) (kk _) x h' hF'
      have hcell := hR.2.2.2 a t hka ht.2
      exact W.aald (v := va_rf (gQ h a i.toNatClampNeg)) C'.1 C'.2.1 hcell ((C'.2.2.2.2.2.2.2.1.2.1 t ht.2).1 _ _) (sr_aty_ref ht.1) (fun q => by cases q) (by rw [arrV_size]; exact sr_inb i1 i2) (by rw [arrV_read _ _ (sr_ina i1 i2)]; unfold sr_ev; rw [if_neg (by omega)]) rfl rfl hd kk
    · simp only [cQL] at hF
      rw [if_neg hc] at hF
      cases hF
theorem tq_alen {r : Option Nat} {t : Nat} {K : Int32 → Option (X × AH)} (ht : t < 5) (hd : decode cc pc = .ok (.arraylength, 1)) (kk : ∀ w, sr_T G d own cc nL ret ini inj (pc + 1) L (vI w :: st) h (K w)) : sr_T G d own cc nL ret ini inj pc L (vR r :: st) h (cAN h t r K) := by
  intro x h' hF
  cases r with
  | none => cases hF
  | some a =>
    by_cases hc : (gK h a).1 = 100 + t
    · have hF' : K (nI (gK h a).2) = some (x, h') := by rw [← hF]; show _ = if _ then _ else _; rw [if_pos hc]
      refine sr_T.read (fun p e R s m args below meth c' H locs cells slots ls Q C' hR hS _ _ h9 kk => ?_) (kk _) x h' hF'
      have hcell := hR.2.2.2 a t hc ht
      exact W.alen (n := nI (gK h a).2) C'.1 C'.2.1 hcell ((C'.2.2.2.2.2.2.2.1.2.1 t ht).1 _ _) (by rw [arrV_size] <;> rfl) rfl rfl hd kk
    · simp only [cAN] at hF
      rw [if_neg hc] at hF
      cases hF
end FIELDS

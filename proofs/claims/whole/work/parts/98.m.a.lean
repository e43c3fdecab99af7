/-! a page begins: THE ROOT alone -/
def offK (T : TS) (k : Nat) : TS := ((fun j => if j < k then false else T.1 j), T.2)
def offA (T : TS) : TS := ((fun _ => false), T.2)
def T0 (T : TS) : TS := uCnt (nwT (offA T) 0 0 [100, 105, 118]) 1
theorem T0_at (T : TS) : tIs (T0 T) 0 = true ∧ tTag (T0 T) 0 = 0 ∧ tNam (T0 T) 0 = [100, 105, 118] ∧ tPar (T0 T) 0 = none ∧ tFk (T0 T) 0 = none ∧ tLk (T0 T) 0 = none ∧ tNx (T0 T) 0 = none ∧ tBf (T0 T) 0 = none ∧ tDep (T0 T) 0 = 0 ∧ tAtt (T0 T) 0 = [] ∧ tTxt (T0 T) 0 = [] ∧ tLng (T0 T) 0 = false := by
  unfold T0
  rw [tIs_uCnt, tTag_uCnt, tNam_uCnt, tPar_uCnt, tFk_uCnt, tLk_uCnt, tNx_uCnt, tBf_uCnt, tDep_uCnt, tAtt_uCnt, tTxt_uCnt, tLng_uCnt]
  exact nw_at (offA T) 0 0 [100, 105, 118]
theorem T0_cnt (T : TS) : tCnt (T0 T) = 1 := by
  unfold T0
  rw [tCnt_uCnt]
theorem T0_is (T : TS) (j : Nat) : tIs (T0 T) j = if j = 0 then true else false := by
  unfold T0 nwT
  rw [tIs_uCnt, tIs_uIs]
  simp only [tIs_uTag, tIs_uNam, tIs_uPar, tIs_uFk, tIs_uLk, tIs_uNx, tIs_uBf, tIs_uDep, tIs_uAtt, tIs_uTxt, tIs_uLng]
  rfl
theorem T0_u {T : TS} {j : Nat} (h : tIs (T0 T) j = true) : j = 0 := by
  rw [T0_is] at h
  split at h
  · assumption
  · cases h
theorem T0_ok (T : TS) : Wf (T0 T) (fun _ => []) ∧ SizT (T0 T) ∧ OsOk (T0 T) [(0, 0)] := by
  obtain ⟨a1, a2, a3, a4, a5, a6, a7, a8, a9, a10, a11, a12⟩ := T0_at T
  have c1 := T0_cnt T
  have hu : ∀ j, tIs (T0 T) j = true → j = 0 := fun j => T0_u
  have hno : ∀ j, tIs (T0 T) j = if j = 0 then true else false := T0_is T
  have hv : vch [100, 105, 118] := by
    intro c hc
    simp only [List.mem_cons, List.not_mem_nil, or_false] at hc
    omega
  generalize T0 T = R at *
  have hcn : cnU (tIs R) 120 = 1 := by
    rw [cnU_eq (g := up (fun _ => false) 0 true) 120 (fun i _ => hno i), cnU_up (f := fun _ => false) rfl 120 (by omega)]
    have : ∀ N, cnU (fun _ => false) N = 0 := fun N => by
      induction N with
      | zero => rfl
      | succ N ih => unfold cnU; rw [ih]; rfl
    rw [this]
  refine ⟨⟨a1, a4, a9, a7, a8, fun i hi => ?_, fun x hx h0 => absurd (hu x hx) h0, fun i hi => ?_, ?_⟩, ⟨fun i hi => ?_, fun i hi => ?_⟩, by simp, by simp, rfl, fun k hk => ?_⟩
  · have e := hu i hi
    subst e
    exact ⟨⟨a5, a6⟩, List.nodup_nil, fun x hx => by cases hx⟩
  · have e := hu i hi
    subst e
    rw [a2, a3]
    exact ⟨(fun z => by cases z), fun _ => by decide⟩
  · rw [c1, hcn]
  · rw [hno, if_neg (by omega)]
  · have e := hu i hi
    subst e
    unfold SizN
    rw [a2, a3, a4, a5, a6, a7, a8, a9, a10, a11]
    exact ⟨by omega, by simp, hv, by simp, (fun q hq => by cases hq), by simp, (fun c hc => by cases hc), fun _ => rfl, by omega, fun j hj => by simp at hj⟩
  · have e : k = 0 := by simp at hk; exact hk
    subst e
    exact ⟨a1, by show tTag R 0 ≠ 17; rw [a2]; omega, a9, by show (0 : Nat) < 2000; omega⟩

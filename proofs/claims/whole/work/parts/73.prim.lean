/-! single changes of the TREE's links, on both sides -/
theorem ClsT.is {h : AH} {ad : Nat → Nat → Nat → Nat} {tr nd : Nat} {T : TS} (hC : ClsT h ad tr nd T) {j : Nat} (hj : j < 120) (hu : tIs T j = true) : gI h 152 (ad 1 j 0) = bI (tIs T j) := by
  rcases hC.2.2.2.2.2 j hj with ⟨q1, q2, -⟩ | ⟨q1, q2, q3, q4⟩
  · rw [q2] at hu; cases hu
  · exact q3
theorem AtB.pR {h : AH} {ad : Nat → Nat → Nat → Nat} {i f a : Nat} {v : Option Nat} (q : AtB h ad i) (hf : 150 ≤ f) : AtB (pR h f a v) ad i := by
  obtain ⟨q1, q2, q3, q4⟩ := q
  refine ⟨q1, by rw [gR_pR, if_neg (by omega)]; exact q2, q3, fun j hj => ?_⟩
  rw [gR_pR, if_neg (by omega)]
  exact q4 j hj
theorem AtV.pI {h : AH} {ad : Nat → Nat → Nat → Nat} {i f a : Nat} {v : Int32} {L : AttL} (q : AtV h ad i L) (hf : 150 ≤ f) : AtV (pI h f a v) ad i L := by
  obtain ⟨q1, q2⟩ := q
  refine ⟨by rw [gI_pI, if_neg (by omega)]; exact q1, fun j hj => ?_⟩
  rw [gI_pI, if_neg (by omega)]
  exact q2 j hj
theorem ClsT.p156 {h : AH} {bs s0 : Nat} {sg : Nat → Nat} {ad : Nat → Nat → Nat → Nat} {T : TS} {i : Nat} (q : ClsT h ad (sg 8) (sg 9) T) (hA : AdOk h bs s0 sg ad) (hi : i < 120) (hu : tIs T i = true) (v : Option Nat) : ClsT (pR h 156 (ad 1 i 0) (oN ad v)) ad (sg 8) (sg 9) (uPar T i v) := by
  obtain ⟨n1, ⟨b1, b2, b3, b4, b5⟩, v1, v2, v3, v4, v5, v6, v7, v8, v9, v10, v11, v12⟩ := q.nd hi hu
  have hIs := q.is hi hu
  exact q.up1 (i := i) hA.1 (fun _ _ => rfl) (fun j hj _ => ⟨rfl, rfl, by rw [tPar_uPar, if_neg hj], rfl, rfl, rfl, rfl, rfl, rfl, rfl, rfl⟩) (S := fun a => a = ad 1 i 0) (FrX.pR FrX.rf rfl) (fun a z => ⟨1, 0, z⟩) (fun c j => hA.2.2.1 c i j 9) (fun c j => hA.2.2.1 c i j 8) rfl rfl (Or.inr ⟨n1, ⟨b1, b2, by rw [gR_pR, if_neg (by omega)]; exact b3, b4.pR (by omega), by rw [gR_pR, if_neg (by omega)]; exact b5⟩, hIs, fun _ => ⟨v1, v2, v3, by rw [gR_pR, if_pos ⟨rfl, rfl⟩, tPar_uPar, if_pos rfl], by rw [gR_pR, if_neg (by omega)]; exact v5, by rw [gR_pR, if_neg (by omega)]; exact v6, by rw [gR_pR, if_neg (by omega)]; exact v7, by rw [gR_pR, if_neg (by omega)]; exact v8, v9, v10, v11, by rw [gR_pR, if_neg (by omega)]; exact v12⟩⟩)
theorem ClsT.p157 {h : AH} {bs s0 : Nat} {sg : Nat → Nat} {ad : Nat → Nat → Nat → Nat} {T : TS} {i : Nat} (q : ClsT h ad (sg 8) (sg 9) T) (hA : AdOk h bs s0 sg ad) (hi : i < 120) (hu : tIs T i = true) (v : Option Nat) : ClsT (pR h 157 (ad 1 i 0) (oN ad v)) ad (sg 8) (sg 9) (uBf T i v) := by
  obtain ⟨n1, ⟨b1, b2, b3, b4, b5⟩, v1, v2, v3, v4, v5, v6, v7, v8, v9, v10, v11, v12⟩ := q.nd hi hu
  have hIs := q.is hi hu
  exact q.up1 (i := i) hA.1 (fun _ _ => rfl) (fun j hj _ => ⟨rfl, rfl, rfl, rfl, rfl, rfl, by rw [tBf_uBf, if_neg hj], rfl, rfl, rfl, rfl⟩) (S := fun a => a = ad 1 i 0) (FrX.pR FrX.rf rfl) (fun a z => ⟨1, 0, z⟩) (fun c j => hA.2.2.1 c i j 9) (fun c j => hA.2.2.1 c i j 8) rfl rfl (Or.inr ⟨n1, ⟨b1, b2, by rw [gR_pR, if_neg (by omega)]; exact b3, b4.pR (by omega), by rw [gR_pR, if_neg (by omega)]; exact b5⟩, hIs, fun _ => ⟨v1, v2, v3, by rw [gR_pR, if_neg (by omega)]; exact v4, by rw [gR_pR, if_pos ⟨rfl, rfl⟩, tBf_uBf, if_pos rfl], by rw [gR_pR, if_neg (by omega)]; exact v6, by rw [gR_pR, if_neg (by omega)]; exact v7, by rw [gR_pR, if_neg (by omega)]; exact v8, v9, v10, v11, by rw [gR_pR, if_neg (by omega)]; exact v12⟩⟩)
theorem ClsT.p158 {h : AH} {bs s0 : Nat} {sg : Nat → Nat} {ad : Nat → Nat → Nat → Nat} {T : TS} {i : Nat} (q : ClsT h ad (sg 8) (sg 9) T) (hA : AdOk h bs s0 sg ad) (hi : i < 120) (hu : tIs T i = true) (v : Option Nat) : ClsT (pR h 158 (ad 1 i 0) (oN ad v)) ad (sg 8) (sg 9) (uNx T i v) := by
  obtain ⟨n1, ⟨b1, b2, b3, b4, b5⟩, v1, v2, v3, v4, v5, v6, v7, v8, v9, v10, v11, v12⟩ := q.nd hi hu
  have hIs := q.is hi hu
  exact q.up1 (i := i) hA.1 (fun _ _ => rfl) (fun j hj _ => ⟨rfl, rfl, rfl, rfl, rfl, by rw [tNx_uNx, if_neg hj], rfl, rfl, rfl, rfl, rfl⟩) (S := fun a => a = ad 1 i 0) (FrX.pR FrX.rf rfl) (fun a z => ⟨1, 0, z⟩) (fun c j => hA.2.2.1 c i j 9) (fun c j => hA.2.2.1 c i j 8) rfl rfl (Or.inr ⟨n1, ⟨b1, b2, by rw [gR_pR, if_neg (by omega)]; exact b3, b4.pR (by omega), by rw [gR_pR, if_neg (by omega)]; exact b5⟩, hIs, fun _ => ⟨v1, v2, v3, by rw [gR_pR, if_neg (by omega)]; exact v4, by rw [gR_pR, if_neg (by omega)]; exact v5, by rw [gR_pR, if_pos ⟨rfl, rfl⟩, tNx_uNx, if_pos rfl], by rw [gR_pR, if_neg (by omega)]; exact v7, by rw [gR_pR, if_neg (by omega)]; exact v8, v9, v10, v11, by rw [gR_pR, if_neg (by omega)]; exact v12⟩⟩)
theorem ClsT.p159 {h : AH} {bs s0 : Nat} {sg : Nat → Nat} {ad : Nat → Nat → Nat → Nat} {T : TS} {i : Nat} (q : ClsT h ad (sg 8) (sg 9) T) (hA : AdOk h bs s0 sg ad) (hi : i < 120) (hu : tIs T i = true) (v : Option Nat) : ClsT (pR h 159 (ad 1 i 0) (oN ad v)) ad (sg 8) (sg 9) (uFk T i v) := by
  obtain ⟨n1, ⟨b1, b2, b3, b4, b5⟩, v1, v2, v3, v4, v5, v6, v7, v8, v9, v10, v11, v12⟩ := q.nd hi hu
  have hIs := q.is hi hu
  exact q.up1 (i := i) hA.1 (fun _ _ => rfl) (fun j hj _ => ⟨rfl, rfl, rfl, by rw [tFk_uFk, if_neg hj], rfl, rfl, rfl, rfl, rfl, rfl, rfl⟩) (S := fun a => a = ad 1 i 0) (FrX.pR FrX.rf rfl) (fun a z => ⟨1, 0, z⟩) (fun c j => hA.2.2.1 c i j 9) (fun c j => hA.2.2.1 c i j 8) rfl rfl (Or.inr ⟨n1, ⟨b1, b2, by rw [gR_pR, if_neg (by omega)]; exact b3, b4.pR (by omega), by rw [gR_pR, if_neg (by omega)]; exact b5⟩, hIs, fun _ => ⟨v1, v2, v3, by rw [gR_pR, if_neg (by omega)]; exact v4, by rw [gR_pR, if_neg (by omega)]; exact v5, by rw [gR_pR, if_neg (by omega)]; exact v6, by rw [gR_pR, if_pos ⟨rfl, rfl⟩, tFk_uFk, if_pos rfl], by rw [gR_pR, if_neg (by omega)]; exact v8, v9, v10, v11, by rw [gR_pR, if_neg (by omega)]; exact v12⟩⟩)
theorem ClsT.p160 {h : AH} {bs s0 : Nat} {sg : Nat → Nat} {ad : Nat → Nat → Nat → Nat} {T : TS} {i : Nat} (q : ClsT h ad (sg 8) (sg 9) T) (hA : AdOk h bs s0 sg ad) (hi : i < 120) (hu : tIs T i = true) (v : Option Nat) : ClsT (pR h 160 (ad 1 i 0) (oN ad v)) ad (sg 8) (sg 9) (uLk T i v) := by
  obtain ⟨n1, ⟨b1, b2, b3, b4, b5⟩, v1, v2, v3, v4, v5, v6, v7, v8, v9, v10, v11, v12⟩ := q.nd hi hu
  have hIs := q.is hi hu
  exact q.up1 (i := i) hA.1 (fun _ _ => rfl) (fun j hj _ => ⟨rfl, rfl, rfl, rfl, by rw [tLk_uLk, if_neg hj], rfl, rfl, rfl, rfl, rfl, rfl⟩) (S := fun a => a = ad 1 i 0) (FrX.pR FrX.rf rfl) (fun a z => ⟨1, 0, z⟩) (fun c j => hA.2.2.1 c i j 9) (fun c j => hA.2.2.1 c i j 8) rfl rfl (Or.inr ⟨n1, ⟨b1, b2, by rw [gR_pR, if_neg (by omega)]; exact b3, b4.pR (by omega), by rw [gR_pR, if_neg (by omega)]; exact b5⟩, hIs, fun _ => ⟨v1, v2, v3, by rw [gR_pR, if_neg (by omega)]; exact v4, by rw [gR_pR, if_neg (by omega)]; exact v5, by rw [gR_pR, if_neg (by omega)]; exact v6, by rw [gR_pR, if_neg (by omega)]; exact v7, by rw [gR_pR, if_pos ⟨rfl, rfl⟩, tLk_uLk, if_pos rfl], v9, v10, v11, by rw [gR_pR, if_neg (by omega)]; exact v12⟩⟩)
theorem ClsT.p155 {h : AH} {bs s0 : Nat} {sg : Nat → Nat} {ad : Nat → Nat → Nat → Nat} {T : TS} {i : Nat} (q : ClsT h ad (sg 8) (sg 9) T) (hA : AdOk h bs s0 sg ad) (hi : i < 120) (hu : tIs T i = true) (v : Nat) : ClsT (pI h 155 (ad 1 i 0) (nI v)) ad (sg 8) (sg 9) (uDep T i v) := by
  obtain ⟨n1, ⟨b1, b2, b3, b4, b5⟩, v1, v2, v3, v4, v5, v6, v7, v8, v9, v10, v11, v12⟩ := q.nd hi hu
  have hIs := q.is hi hu
  exact q.up1 (i := i) hA.1 (fun _ _ => rfl) (fun j hj _ => ⟨rfl, rfl, rfl, rfl, rfl, rfl, rfl, by rw [tDep_uDep, if_neg hj], rfl, rfl, rfl⟩) (S := fun a => a = ad 1 i 0) (FrX.pI FrX.rf rfl) (fun a z => ⟨1, 0, z⟩) (fun c j => hA.2.2.1 c i j 9) (fun c j => hA.2.2.1 c i j 8) rfl rfl (Or.inr ⟨n1, ⟨b1, by rw [gI_pI, if_neg (by omega)]; exact b2, b3, b4, b5⟩, by rw [gI_pI, if_neg (by omega)]; exact hIs, fun _ => ⟨by rw [gI_pI, if_neg (by omega)]; exact v1, v2, by rw [gI_pI, if_pos ⟨rfl, rfl⟩, tDep_uDep, if_pos rfl], v4, v5, v6, v7, v8, v9.pI (by omega), by rw [gI_pI, if_neg (by omega)]; exact v10, by rw [gI_pI, if_neg (by omega)]; exact v11, v12⟩⟩)
theorem ClsT.p352 {h : AH} {ad : Nat → Nat → Nat → Nat} {tr nd : Nat} {T : TS} (q : ClsT h ad tr nd T) (v : Nat) : ClsT (pI h 352 tr (nI v)) ad tr nd (uCnt T v) := by
  obtain ⟨q1, q2, q3, q4, q5, q6⟩ := q
  refine ⟨q1, q2, q3, q4, by rw [gI_pI, if_pos ⟨rfl, rfl⟩]; rfl, fun k hk => ?_⟩
  rcases q6 k hk with z | ⟨n1, ⟨b1, b2, b3, b4, b5⟩, hIs, nv⟩
  · exact Or.inl z
  · refine Or.inr ⟨n1, ⟨b1, by rw [gI_pI, if_neg (by omega)]; exact b2, b3, b4, b5⟩, by rw [gI_pI, if_neg (by omega)]; exact hIs, fun hu => ?_⟩
    obtain ⟨v1, v2, v3, v4, v5, v6, v7, v8, v9, v10, v11, v12⟩ := nv hu
    refine ⟨by rw [gI_pI, if_neg (by omega)]; exact v1, v2, by rw [gI_pI, if_neg (by omega)]; exact v3, v4, v5, v6, v7, v8, ⟨by rw [gI_pI, if_neg (by omega)]; exact v9.1, fun j hj => ?_⟩, by rw [gI_pI, if_neg (by omega)]; exact v10, by rw [gI_pI, if_neg (by omega)]; exact v11, v12⟩
    rw [gI_pI, if_neg (by omega)]
    exact v9.2 j hj
theorem RefT.p10 {h : AH} {m i : Nat} {ra : Nat → Nat} {T : TS} (q : RefT h m ra T) (hSz : Sz0T T) (hra : ∀ i j, ra i = ra j ↔ i = j) (hu : tIs T i = true) (v : Option Nat) : RefT (pA h (ra 10) i (oI v)) m ra (uPar T i v) := by
  have e : ∀ k j, k ≠ 10 → gA (pA h (ra 10) i (oI v)) (ra k) j = gA h (ra k) j := fun k j hk => by rw [gA_pA, if_neg (fun z => hk ((hra _ _).mp z.1))]
  refine q.up1 (i := i) hSz (fun j hj => REq.rf.pA hra (fun _ _ z => hj z.symm)) (fun _ _ => rfl) (fun j hj _ => ⟨rfl, rfl, by rw [tPar_uPar, if_neg hj], rfl, rfl, rfl, rfl, rfl, rfl, rfl, rfl⟩) q.1 (fun hi => ?_)
  obtain ⟨q0, q1⟩ := q.2 i hi
  obtain ⟨w1, w2, w3, w4, w5, w6, w7, w8, w9, w10, w11, w12, w13, w14⟩ := q1 hu
  unfold RefN
  simp only [e 6 _ (by omega), e 7 _ (by omega), e 8 _ (by omega), e 9 _ (by omega), e 11 _ (by omega), e 12 _ (by omega), e 13 _ (by omega), e 14 _ (by omega), e 15 _ (by omega), e 16 _ (by omega), e 17 _ (by omega), e 18 _ (by omega), e 19 _ (by omega), e 20 _ (by omega), e 21 _ (by omega), e 22 _ (by omega), e 23 _ (by omega)]
  exact ⟨q0, fun _ => ⟨w1, w2, w3, by rw [gA_pA, if_pos ⟨rfl, rfl⟩, tPar_uPar, if_pos rfl], w5, w6, w7, w8, w9, w10, w11, w12, w13, w14⟩⟩
theorem RefT.p11 {h : AH} {m i : Nat} {ra : Nat → Nat} {T : TS} (q : RefT h m ra T) (hSz : Sz0T T) (hra : ∀ i j, ra i = ra j ↔ i = j) (hu : tIs T i = true) (v : Option Nat) : RefT (pA h (ra 11) i (oI v)) m ra (uFk T i v) := by
  have e : ∀ k j, k ≠ 11 → gA (pA h (ra 11) i (oI v)) (ra k) j = gA h (ra k) j := fun k j hk => by rw [gA_pA, if_neg (fun z => hk ((hra _ _).mp z.1))]
  refine q.up1 (i := i) hSz (fun j hj => REq.rf.pA hra (fun _ _ z => hj z.symm)) (fun _ _ => rfl) (fun j hj _ => ⟨rfl, rfl, rfl, by rw [tFk_uFk, if_neg hj], rfl, rfl, rfl, rfl, rfl, rfl, rfl⟩) q.1 (fun hi => ?_)
  obtain ⟨q0, q1⟩ := q.2 i hi
  obtain ⟨w1, w2, w3, w4, w5, w6, w7, w8, w9, w10, w11, w12, w13, w14⟩ := q1 hu
  unfold RefN
  simp only [e 6 _ (by omega), e 7 _ (by omega), e 8 _ (by omega), e 9 _ (by omega), e 10 _ (by omega), e 12 _ (by omega), e 13 _ (by omega), e 14 _ (by omega), e 15 _ (by omega), e 16 _ (by omega), e 17 _ (by omega), e 18 _ (by omega), e 19 _ (by omega), e 20 _ (by omega), e 21 _ (by omega), e 22 _ (by omega), e 23 _ (by omega)]
  exact ⟨q0, fun _ => ⟨w1, w2, w3, w4, by rw [gA_pA, if_pos ⟨rfl, rfl⟩, tFk_uFk, if_pos rfl], w6, w7, w8, w9, w10, w11, w12, w13, w14⟩⟩
theorem RefT.p12 {h : AH} {m i : Nat} {ra : Nat → Nat} {T : TS} (q : RefT h m ra T) (hSz : Sz0T T) (hra : ∀ i j, ra i = ra j ↔ i = j) (hu : tIs T i = true) (v : Option Nat) : RefT (pA h (ra 12) i (oI v)) m ra (uLk T i v) := by
  have e : ∀ k j, k ≠ 12 → gA (pA h (ra 12) i (oI v)) (ra k) j = gA h (ra k) j := fun k j hk => by rw [gA_pA, if_neg (fun z => hk ((hra _ _).mp z.1))]
  refine q.up1 (i := i) hSz (fun j hj => REq.rf.pA hra (fun _ _ z => hj z.symm)) (fun _ _ => rfl) (fun j hj _ => ⟨rfl, rfl, rfl, rfl, by rw [tLk_uLk, if_neg hj], rfl, rfl, rfl, rfl, rfl, rfl⟩) q.1 (fun hi => ?_)
  obtain ⟨q0, q1⟩ := q.2 i hi
  obtain ⟨w1, w2, w3, w4, w5, w6, w7, w8, w9, w10, w11, w12, w13, w14⟩ := q1 hu
  unfold RefN
  simp only [e 6 _ (by omega), e 7 _ (by omega), e 8 _ (by omega), e 9 _ (by omega), e 10 _ (by omega), e 11 _ (by omega), e 13 _ (by omega), e 14 _ (by omega), e 15 _ (by omega), e 16 _ (by omega), e 17 _ (by omega), e 18 _ (by omega), e 19 _ (by omega), e 20 _ (by omega), e 21 _ (by omega), e 22 _ (by omega), e 23 _ (by omega)]
  exact ⟨q0, fun _ => ⟨w1, w2, w3, w4, w5, by rw [gA_pA, if_pos ⟨rfl, rfl⟩, tLk_uLk, if_pos rfl], w7, w8, w9, w10, w11, w12, w13, w14⟩⟩
theorem RefT.p13 {h : AH} {m i : Nat} {ra : Nat → Nat} {T : TS} (q : RefT h m ra T) (hSz : Sz0T T) (hra : ∀ i j, ra i = ra j ↔ i = j) (hu : tIs T i = true) (v : Option Nat) : RefT (pA h (ra 13) i (oI v)) m ra (uNx T i v) := by
  have e : ∀ k j, k ≠ 13 → gA (pA h (ra 13) i (oI v)) (ra k) j = gA h (ra k) j := fun k j hk => by rw [gA_pA, if_neg (fun z => hk ((hra _ _).mp z.1))]
  refine q.up1 (i := i) hSz (fun j hj => REq.rf.pA hra (fun _ _ z => hj z.symm)) (fun _ _ => rfl) (fun j hj _ => ⟨rfl, rfl, rfl, rfl, rfl, by rw [tNx_uNx, if_neg hj], rfl, rfl, rfl, rfl, rfl⟩) q.1 (fun hi => ?_)
  obtain ⟨q0, q1⟩ := q.2 i hi
  obtain ⟨w1, w2, w3, w4, w5, w6, w7, w8, w9, w10, w11, w12, w13, w14⟩ := q1 hu
  unfold RefN
  simp only [e 6 _ (by omega), e 7 _ (by omega), e 8 _ (by omega), e 9 _ (by omega), e 10 _ (by omega), e 11 _ (by omega), e 12 _ (by omega), e 14 _ (by omega), e 15 _ (by omega), e 16 _ (by omega), e 17 _ (by omega), e 18 _ (by omega), e 19 _ (by omega), e 20 _ (by omega), e 21 _ (by omega), e 22 _ (by omega), e 23 _ (by omega)]
  exact ⟨q0, fun _ => ⟨w1, w2, w3, w4, w5, w6, by rw [gA_pA, if_pos ⟨rfl, rfl⟩, tNx_uNx, if_pos rfl], w8, w9, w10, w11, w12, w13, w14⟩⟩
theorem RefT.p14 {h : AH} {m i : Nat} {ra : Nat → Nat} {T : TS} (q : RefT h m ra T) (hSz : Sz0T T) (hra : ∀ i j, ra i = ra j ↔ i = j) (hu : tIs T i = true) (v : Option Nat) : RefT (pA h (ra 14) i (oI v)) m ra (uBf T i v) := by
  have e : ∀ k j, k ≠ 14 → gA (pA h (ra 14) i (oI v)) (ra k) j = gA h (ra k) j := fun k j hk => by rw [gA_pA, if_neg (fun z => hk ((hra _ _).mp z.1))]
  refine q.up1 (i := i) hSz (fun j hj => REq.rf.pA hra (fun _ _ z => hj z.symm)) (fun _ _ => rfl) (fun j hj _ => ⟨rfl, rfl, rfl, rfl, rfl, rfl, by rw [tBf_uBf, if_neg hj], rfl, rfl, rfl, rfl⟩) q.1 (fun hi => ?_)
  obtain ⟨q0, q1⟩ := q.2 i hi
  obtain ⟨w1, w2, w3, w4, w5, w6, w7, w8, w9, w10, w11, w12, w13, w14⟩ := q1 hu
  unfold RefN
  simp only [e 6 _ (by omega), e 7 _ (by omega), e 8 _ (by omega), e 9 _ (by omega), e 10 _ (by omega), e 11 _ (by omega), e 12 _ (by omega), e 13 _ (by omega), e 15 _ (by omega), e 16 _ (by omega), e 17 _ (by omega), e 18 _ (by omega), e 19 _ (by omega), e 20 _ (by omega), e 21 _ (by omega), e 22 _ (by omega), e 23 _ (by omega)]
  exact ⟨q0, fun _ => ⟨w1, w2, w3, w4, w5, w6, w7, by rw [gA_pA, if_pos ⟨rfl, rfl⟩, tBf_uBf, if_pos rfl], w9, w10, w11, w12, w13, w14⟩⟩

/-- the class, if it is still as it was made -/
theorem CP.new {h : AH} {b : Nat} (T : TS) (hN : gN h = b + 53) (hK : ∀ a, b + 53 ≤ a → gK h a = (0, 0)) (w : FrX (fun a => b + 18 ≤ a) (hc27 b) h) : CP h b (gS h) (plF b) (adF b) (T0 T) 0 (fun _ => 0) [] [] [] := by
  have lo : ∀ k, k < 18 → ¬ b + 18 ≤ b + k := fun k hk => by omega
  have wR : ∀ f k, k < 18 → gR h f (b + k) = gR (hc27 b) f (b + k) := fun f k hk => (w (b + k) (lo k hk)).2.2.1 f
  have wI : ∀ f k, k < 18 → gI h f (b + k) = gI (hc27 b) f (b + k) := fun f k hk => (w (b + k) (lo k hk)).1 f
  have wK : ∀ k, k < 18 → gK h (b + k) = kT k := fun k hk => by rw [(w (b + k) (lo k hk)).2.2.2.2.2]; exact (kf27 b).2.1 k hk
  have wQ : ∀ i k, k < 18 → gQ h (b + k) i = gQ (hc27 b) (b + k) i := fun i k hk => (w (b + k) (lo k hk)).2.2.2.2.1 i
  have wA : ∀ i k, k < 18 → gA h (b + k) i = gA (hc27 b) (b + k) i := fun i k hk => (w (b + k) (lo k hk)).2.2.2.1 i
  have wL : ∀ f k, k < 18 → gL h f (b + k) = gL (hc27 b) f (b + k) := fun f k hk => (w (b + k) (lo k hk)).2.1 f
  have far : ∀ {c i j : Nat}, adO c i j = none → gN h ≤ adF b c i j := fun hz => adF_far hz (by omega)
  have u0 : plF b 0 = b := plF_s (o := 0) rfl
  have u1 : plF b 1 = b + 1 := plF_s rfl
  have u2 : plF b 2 = b + 2 := plF_s rfl
  have u3 : plF b 3 = b + 3 := plF_s rfl
  have u4 : plF b 4 = b + 4 := plF_s rfl
  have u5 : plF b 5 = b + 5 := plF_s rfl
  have u6 : plF b 6 = b + 6 := plF_s rfl
  have u7 : plF b 7 = b + 7 := plF_s rfl
  have u8 : plF b 8 = b + 8 := plF_s rfl
  have u9 : plF b 9 = b + 9 := plF_s rfl
  have u10 : plF b 10 = b + 13 := plF_s rfl
  have u11 : plF b 11 = b + 16 := plF_s rfl
  have u12 : plF b 12 = b + 17 := plF_s rfl
  have v1 : adF b 1 0 0 = b + 10 := adF_s rfl
  have v2 : adF b 2 0 0 = b + 11 := adF_s rfl
  have v3 : adF b 3 0 0 = b + 12 := adF_s rfl
  have v4 : adF b 2 120 0 = b + 14 := adF_s rfl
  have v5 : adF b 3 120 0 = b + 15 := adF_s rfl
  have w0 : ∀ f, gR h f b = gR (hc27 b) f b := fun f => wR f 0 (by omega)
  have k0 : gK h b = (9, 0) := wK 0 (by omega)
  obtain ⟨a1, a2, a3, a4, a5, a6, a7, a8, a9, a10, a11, a12⟩ := T0_at T
  have c1 := T0_cnt T
  have hno : ∀ i, i ≠ 0 → tIs (T0 T) i = false := fun i e => by rw [T0_is, if_neg e]
  generalize T0 T = R at *
  have hCB : CB h (plF b 0) (plF b 1) (plF b 3) (plF b 5) (plF b 8) (plF b 10) := by
    rw [u0, u1, u3, u5, u8, u10]
    exact ⟨k0, by rw [w0]; exact nR_400_0 b, by rw [w0]; exact nR_401_0 b, by rw [w0]; exact nR_402_0 b, by rw [w0]; exact nR_403_0 b, by rw [w0]; exact nR_404_0 b⟩
  have hTp : TapeC h (plF b 1) (plF b 2) 0 (fun _ => 0) := by
    rw [u1, u2]
    exact ⟨wK 1 (by omega), by rw [wR _ _ (by omega)]; exact nR_300_1 b, wK 2 (by omega), by rw [wI _ _ (by omega), nI_301_1]; rfl, by omega, fun i hi => by omega⟩
  have hO : OutC h (plF b 3) (plF b 4) [] := by
    rw [u3, u4]
    exact ⟨wK 3 (by omega), by rw [wR _ _ (by omega)]; exact nR_200_3 b, wK 4 (by omega), by rw [wI _ _ (by omega), nI_201_3]; rfl, by simp, fun i hi => by simp at hi⟩
  have hF : FauC h (plF b 5) (plF b 6) (plF b 7) [] := by
    rw [u5, u6, u7]
    exact ⟨wK 5 (by omega), by rw [wR _ _ (by omega)]; exact nR_100_5 b, by rw [wR _ _ (by omega)]; exact nR_101_5 b, by omega, wK 6 (by omega), wK 7 (by omega), by rw [wI _ _ (by omega), nI_102_5]; rfl, by simp, fun i _ hi => by simp at hi⟩
  have hAt0 : AtB h (adF b) 0 := by
    unfold AtB
    rw [v2, v3]
    exact ⟨wK 11 (by omega), by rw [wR _ _ (by omega)]; exact nR_50_11 b, wK 12 (by omega), fun j hj => Or.inl ⟨by rw [wQ _ _ (by omega)]; exact nQ_12 b j, far (by unfold adO; rw [if_neg (by omega), if_neg (by omega), if_neg (by omega), if_neg (by omega), if_neg (by omega)]), far (by unfold adO; rw [if_neg (by omega), if_neg (by omega), if_neg (by omega), if_neg (by omega), if_neg (by omega)])⟩⟩
  have hAt1 : AtB h (adF b) 120 := by
    unfold AtB
    rw [v4, v5]
    exact ⟨wK 14 (by omega), by rw [wR _ _ (by omega)]; exact nR_50_14 b, wK 15 (by omega), fun j hj => Or.inl ⟨by rw [wQ _ _ (by omega)]; exact nQ_15 b j, far (by unfold adO; rw [if_neg (by omega), if_neg (by omega), if_neg (by omega), if_neg (by omega), if_neg (by omega)]), far (by unfold adO; rw [if_neg (by omega), if_neg (by omega), if_neg (by omega), if_neg (by omega), if_neg (by omega)])⟩⟩
  have hNB : NdB h (adF b) 0 := by
    unfold NdB
    rw [v1, v2]
    exact ⟨wK 10 (by omega), by rw [wI _ _ (by omega)]; exact nI_150_10 b, by rw [wR _ _ (by omega)]; exact nR_151_10 b, hAt0, Or.inl ⟨by rw [wR _ _ (by omega)]; exact nR_161_10 b, far rfl⟩⟩
  have hNV : NdV h (adF b) R 0 := by
    unfold NdV AtV
    rw [a2, a3, a4, a5, a6, a7, a8, a9, a10, a11, a12, v1, v2, v3]
    refine ⟨by rw [wI _ _ (by omega)]; exact nI_153_10 b, by rw [wL _ _ (by omega)]; exact nL_154 b, by rw [wI _ _ (by omega)]; exact nI_155_10 b, by rw [wR _ _ (by omega)]; exact nR_156_10 b, by rw [wR _ _ (by omega)]; exact nR_157_10 b, by rw [wR _ _ (by omega)]; exact nR_158_10 b, by rw [wR _ _ (by omega)]; exact nR_159_10 b, by rw [wR _ _ (by omega)]; exact nR_160_10 b, ⟨by rw [wI _ _ (by omega)]; exact nI_51_11 b, fun j hj => by simp at hj⟩, by rw [wI _ _ (by omega)]; exact nI_162_10 b, by rw [wI _ _ (by omega)]; exact nI_163_10 b, fun z => by cases z⟩
  have hT : ClsT h (adF b) (plF b 8) (plF b 9) R := by
    unfold ClsT
    rw [u8, u9, v1, c1]
    refine ⟨wK 8 (by omega), by rw [wR _ _ (by omega)]; exact nR_350_8 b, wK 9 (by omega), by rw [wR _ _ (by omega)]; exact nR_351_8 b, by rw [wI _ _ (by omega)]; exact nI_352_8 b, fun i hi => ?_⟩
    unfold ClsN
    rw [wQ _ _ (by omega), nQ_9]
    by_cases e : i = 0
    · subst e
      refine Or.inr ⟨by rw [if_pos rfl, v1], hNB, ?_, fun _ => hNV⟩
      rw [v1, a1, wI _ _ (by omega)]
      exact nI_152_10 b
    · exact Or.inl ⟨if_neg e, hno i e, fun c j h1 h6 => far (by unfold adO; rw [if_neg (by omega), if_neg (by omega), if_neg (by omega), if_neg (by omega), if_neg (by omega)])⟩
  have hP : PR h (plF b) (adF b) := by
    unfold PR
    rw [u10, u1, u8, u5, v4, u11, u12]
    exact ⟨wK 13 (by omega), by rw [wR _ _ (by omega)]; exact nR_250_13 b, by rw [wR _ _ (by omega)]; exact nR_251_13 b, by rw [wR _ _ (by omega)]; exact nR_252_13 b, by rw [wR _ _ (by omega)]; exact nR_253_13 b, by rw [wR _ _ (by omega)]; exact nR_254_13 b, by rw [wR _ _ (by omega)]; exact nR_255_13 b, wK 16 (by omega), wK 17 (by omega)⟩
  refine ⟨AdOk.new hN hK, ⟨hCB, hTp, hO, hF, hT, hP, hAt1⟩, ⟨?_, fun j hj => by simp at hj⟩, ?_⟩
  · rw [v4, wI _ _ (by omega), nI_51_14]; rfl
  · rw [u12, wA _ _ (by omega), nA_17]; rfl

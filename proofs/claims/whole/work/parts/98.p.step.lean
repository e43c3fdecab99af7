/-! the sixteen calls -/
theorem rg_no {h : AH} {sg : Nat → Nat} {T : TS} {n : Nat} {tp : Nat → Int32} {ol : List Int32} {fl : FL} (r : RP h sg T n tp ol fl) {c k : Nat} (h1 : c ≠ k) : ¬ (rg sg c = rg sg k) := fun z => h1 (by rw [r.1.i] at z; exact z)
theorem s_feed {bs s0 : Nat} {sg : Nat → Nat} {h : AH} (q : IV bs s0 sg h) (v1 v2 v3 v4 v5 : Int32) : STEP bs s0 sg h (fX8_feed (some (sg 0)) v1 v2 v3 v4 v5) (fX9_feed (some (sg 13)) v1 v2 v3 v4 v5) := by
  obtain ⟨ad, T, n, tp, ol, fl, L, c, r, pw, pS, pb, pf⟩ := q
  obtain ⟨h1, g1, F1, t1⟩ := cls_feed c.2.1.1 c.2.1.2.1 v1 v2 v3 v4 v5
  have n24 : sg 4 ≠ sg 2 := fun z => by have := (c.1.2.1 _ _).mp z; omega
  have o1 : OutC h1 (sg 3) (sg 4) ol := c.2.1.2.2.1.fr F1 (by omega) n24
  by_cases hf : n + 20 ≤ 2000
  · rw [if_pos hf] at g1 t1
    obtain ⟨c1, hr⟩ := c.io F1 (fun f a z => Or.inl z) (fun a z => Or.inl z) t1 o1
    have r1 := hr r
    obtain ⟨h2, g2, F2, t2⟩ := refZ_feed r1.1 r1.2.2.1 v1 v2 v3 v4 v5
    rw [if_pos hf] at g2 t2
    refine ⟨_, h1, h2, g1, r1.1.o, g2, ad, T, n + 20, p20 tp n v1 v2 v3 v4 v5, ol, fl, L, c1.fr F2 (fun f a z => z.2) (fun a z => ⟨0, z⟩), ⟨F2.RB r1.1, r1.2.1.fr F2 (by omega) (fun k h6 h23 => rg_no r1 (by omega)), t2, r1.2.2.2.1.fr F2 (by omega) (rg_no r1 (by omega)), r1.2.2.2.2.fr F2 (by omega) (rg_no r1 (by omega)) (rg_no r1 (by omega))⟩, pw, pS, p20_b pb, pf⟩
  · rw [if_neg hf] at g1 t1
    obtain ⟨c1, hr⟩ := c.io F1 (fun f a z => Or.inl z) (fun a z => Or.inl z) t1 o1
    have r1 := hr r
    obtain ⟨h2, g2, F2, t2⟩ := refZ_feed r1.1 r1.2.2.1 v1 v2 v3 v4 v5
    rw [if_neg hf] at g2 t2
    refine ⟨_, h1, h2, g1, r1.1.o, g2, ad, T, n, tp, ol, fl, L, c1.fr F2 (fun f a z => z.2) (fun a z => ⟨0, z⟩), ⟨F2.RB r1.1, r1.2.1.fr F2 (by omega) (fun k h6 h23 => rg_no r1 (by omega)), t2, r1.2.2.2.1.fr F2 (by omega) (rg_no r1 (by omega)), r1.2.2.2.2.fr F2 (by omega) (rg_no r1 (by omega)) (rg_no r1 (by omega))⟩, pw, pS, pb, pf⟩
theorem s_end {bs s0 : Nat} {sg : Nat → Nat} {h : AH} (q : IV bs s0 sg h) (v : Int32) : STEP bs s0 sg h (fX8_end (some (sg 0)) v) (fX9_end (some (sg 13)) v) := by
  obtain ⟨ad, T, n, tp, ol, fl, L, c, r, pw, pS, pb, pf⟩ := q
  obtain ⟨h1, g1, F1, t1⟩ := cls_end c.2.1.1 c.2.1.2.1 v
  have n24 : sg 4 ≠ sg 2 := fun z => by have := (c.1.2.1 _ _).mp z; omega
  obtain ⟨c1, hr⟩ := c.io F1 (fun f a z => Or.inl z) (fun a z => Or.inl z) t1 (c.2.1.2.2.1.fr F1 (by omega) n24)
  have r1 := hr r
  obtain ⟨h2, g2, F2, t2⟩ := refZ_end r1.1 r1.2.2.1 v
  have hle := endN_le n v
  exact ⟨_, h1, h2, g1, r1.1.o, g2, ad, T, endN n v, tp, ol, fl, L, c1.fr F2 (fun f a z => z.2) (fun a z => ⟨0, z⟩), ⟨F2.RB r1.1, r1.2.1.fr F2 (by omega) (fun k h6 h23 => rg_no r1 (by omega)), t2, r1.2.2.2.1.fr F2 (by omega) (rg_no r1 (by omega)), r1.2.2.2.2.fr F2 (by omega) (rg_no r1 (by omega)) (rg_no r1 (by omega))⟩, pw, pS, fun i hi => pb i (by omega), pf⟩
theorem s_out {bs s0 : Nat} {sg : Nat → Nat} {h : AH} (q : IV bs s0 sg h) (v : Int32) : STEP bs s0 sg h (fX8_out (some (sg 0)) v) (fX9_out (some (sg 13)) v) := by
  obtain ⟨ad, T, n, tp, ol, fl, L, c, r, p⟩ := id q
  exact ⟨_, h, h, cls_out c.2.1.1 c.2.1.2.2.1 v, r.1.o, ref_out r.1 r.2.2.2.1 v, q⟩
theorem s_page {bs s0 : Nat} {sg : Nat → Nat} {h : AH} (q : IV bs s0 sg h) : STEP bs s0 sg h (fX8_page (some (sg 0))) (fX9_page (some (sg 13))) := by
  obtain ⟨ad, T, n, tp, ol, fl, L, c, r, ⟨kd, pw⟩, pS, pb, pf⟩ := q
  obtain ⟨h1, ad1, L1, g1, A1, C1, V1, e1, F1⟩ := cls_page c.1 c.2.1 pw pS c.2.2.1 c.2.2.2
  have r1 := r.fx F1.1 (fun k hk => PA.no A1 hk)
  obtain ⟨h2, g2, R2, U2, T2, F2⟩ := ref_page r1.1 r1.2.2.1 pb r1.2.1 r1.2.2.2.2
  obtain ⟨w', S', l'⟩ := pgTr_ok (tp := tp) (n := n) pw pS pf
  have c1 : CP h1 bs s0 sg ad1 (pgTr T tp n) 0 tp ol (pgFl T fl tp n) L1 := ⟨A1, C1, V1, e1⟩
  exact ⟨_, h1, h2, g1, r1.1.o, g2, ad1, pgTr T tp n, 0, tp, ol, pgFl T fl tp n, L1, c1.fr F2 (fun f a z => z.1) (fun a z => by obtain ⟨k, -, e⟩ := z; exact ⟨k, e⟩), ⟨F2.RB r1.1, R2, T2, r1.2.2.2.1.fr F2 (by omega) (fun z => by obtain ⟨k, hk, e⟩ := z; rw [r1.1.i] at e; omega), U2⟩, w', S', fun i hi => by omega, l'⟩
theorem s_node {bs s0 : Nat} {sg : Nat → Nat} {h : AH} (q : IV bs s0 sg h) (v w : Int32) : STEP bs s0 sg h (fX8_node (some (sg 0)) v w) (fX9_node (some (sg 13)) v w) := by
  obtain ⟨ad, T, n, tp, ol, fl, L, c, r, ⟨kd, pw⟩, pS, pb, pf⟩ := id q
  obtain ⟨x, g1, g2⟩ := node_eq c.2.1.1 c.2.1.2.2.2.2.1 r.1 r.2.1 pS (pw.ch pS) v w
  exact ⟨x, h, h, g1, r.1.o, g2, q⟩
theorem s_kid {bs s0 : Nat} {sg : Nat → Nat} {h : AH} (q : IV bs s0 sg h) (v w : Int32) : STEP bs s0 sg h (fX8_kid (some (sg 0)) v w) (fX9_kid (some (sg 13)) v w) := by
  obtain ⟨ad, T, n, tp, ol, fl, L, c, r, ⟨kd, pw⟩, pS, pb, pf⟩ := id q
  obtain ⟨x, g1, g2⟩ := kid_eq c.2.1.1 c.2.1.2.2.2.2.1 r.1 r.2.1 (pw.ch pS) v w
  exact ⟨x, h, h, g1, r.1.o, g2, q⟩
theorem s_name {bs s0 : Nat} {sg : Nat → Nat} {h : AH} (q : IV bs s0 sg h) (v : Int32) : STEP bs s0 sg h (fX8_name (some (sg 0)) v) (fX9_name (some (sg 13)) v) := by
  obtain ⟨ad, T, n, tp, ol, fl, L, c, r, pw, pS, pb, pf⟩ := q
  obtain ⟨h1, g1, o1, F1⟩ := cls_name c.2.1.1 c.2.1.2.2.2.2.1 pS c.2.1.2.2.1 (fun i => c.1.2.2.1 4 i 0 4) v
  have n24 : sg 2 ≠ sg 4 := fun z => by have := (c.1.2.1 _ _).mp z; omega
  obtain ⟨c1, hr⟩ := c.io F1 (fun f a z => Or.inr z) (fun a z => Or.inr z) (c.2.1.2.1.fr F1 (by omega) n24) o1
  have r1 := hr r
  obtain ⟨h2, g2, o2, F2⟩ := ref_name r1.1 r1.2.1 pS r1.2.2.2.1 v
  exact ⟨_, h1, h2, g1, r1.1.o, g2, ad, T, n, tp, nmO T ol v, fl, L, c1.fr F2 (fun f a z => z.2) (fun a z => ⟨4, z⟩), ⟨F2.RB r1.1, r1.2.1.fr F2 (by omega) (fun k h6 h23 => rg_no r1 (by omega)), r1.2.2.1.fr F2 (by omega) (rg_no r1 (by omega)), o2, r1.2.2.2.2.fr F2 (by omega) (rg_no r1 (by omega)) (rg_no r1 (by omega))⟩, pw, pS, pb, pf⟩
theorem s_attribute {bs s0 : Nat} {sg : Nat → Nat} {h : AH} (q : IV bs s0 sg h) (v : Int32) : STEP bs s0 sg h (fX8_attribute (some (sg 0)) v) (fX9_attribute (some (sg 13)) v) := by
  obtain ⟨ad, T, n, tp, ol, fl, L, c, r, pw, pS, pb, pf⟩ := q
  have n24 : sg 2 ≠ sg 4 := fun z => by have := (c.1.2.1 _ _).mp z; omega
  obtain ⟨h1, g1, o1, t1, F1⟩ := cls_attribute c.2.1.1 c.2.1.2.1 c.2.1.2.2.2.2.1 pS c.2.1.2.2.1 (fun i j => c.1.2.2.1 6 i j 4) n24 v
  obtain ⟨c1, hr⟩ := c.io F1 (fun f a z => z.elim Or.inr Or.inl) (fun a z => Or.inr z) t1 o1
  have r1 := hr r
  obtain ⟨h2, g2, o2, t2, F2⟩ := ref_attribute r1.1 r1.2.2.1 pb r1.2.1 pS r1.2.2.2.1 v
  have hno : ∀ k, k ≠ 2 → k ≠ 4 → ¬ (rg sg k = rg sg 2 ∨ rg sg k = rg sg 4) := fun k h1 h2 z => z.elim (rg_no r1 h1) (rg_no r1 h2)
  exact ⟨_, h1, h2, g1, r1.1.o, g2, ad, T, 0, tp, atO T tp n ol v, fl, L, c1.fr F2 (fun f a z => z.2) (fun a z => z.elim (fun e => ⟨2, e⟩) (fun e => ⟨4, e⟩)), ⟨F2.RB r1.1, r1.2.1.fr F2 (by omega) (fun k h6 h23 => hno k (by omega) (by omega)), t2, o2, r1.2.2.2.2.fr F2 (by omega) (hno 27 (by omega) (by omega)) (hno 28 (by omega) (by omega))⟩, pw, pS, fun i hi => by omega, pf⟩
theorem s_serialise {bs s0 : Nat} {sg : Nat → Nat} {h : AH} (q : IV bs s0 sg h) (v : Int32) : STEP bs s0 sg h (fX8_serialise (some (sg 0)) v) (fX9_serialise (some (sg 13)) v) := by
  obtain ⟨ad, T, n, tp, ol, fl, L, c, r, ⟨kd, pw⟩, pS, pb, pf⟩ := q
  obtain ⟨h1, g1, o1, F1⟩ := cls_serialise (fun x i j => c.1.2.2.1 x i j 4) pw pS c.2.1.1 c.2.1.2.2.2.2.1 c.2.1.2.2.1 v
  have n24 : sg 2 ≠ sg 4 := fun z => by have := (c.1.2.1 _ _).mp z; omega
  obtain ⟨c1, hr⟩ := c.io F1 (fun f a z => Or.inr z) (fun a z => Or.inr z) (c.2.1.2.1.fr F1 (by omega) n24) o1
  have r1 := hr r
  obtain ⟨h2, g2, o2, F2⟩ := ref_serialise pw pS r1.1 r1.2.1 r1.2.2.2.1 v
  exact ⟨_, h1, h2, g1, r1.1.o, g2, ad, T, n, tp, seO T kd ol v, fl, L, c1.fr F2 (fun f a z => z.2) (fun a z => ⟨4, z⟩), ⟨F2.RB r1.1, r1.2.1.fr F2 (by omega) (fun k h6 h23 => rg_no r1 (by omega)), r1.2.2.1.fr F2 (by omega) (rg_no r1 (by omega)), o2, r1.2.2.2.2.fr F2 (by omega) (rg_no r1 (by omega)) (rg_no r1 (by omega))⟩, ⟨kd, pw⟩, pS, pb, pf⟩
theorem s_fault {bs s0 : Nat} {sg : Nat → Nat} {h : AH} (q : IV bs s0 sg h) (v w : Int32) : STEP bs s0 sg h (fX8_fault (some (sg 0)) v w) (fX9_fault (some (sg 13)) v w) := by
  obtain ⟨ad, T, n, tp, ol, fl, L, c, r, p⟩ := id q
  exact ⟨_, h, h, cls_fault c.2.1.1 c.2.1.2.2.2.1 v w, r.1.o, ref_fault r.1 r.2.2.2.2 v w, q⟩
theorem s_faults {bs s0 : Nat} {sg : Nat → Nat} {h : AH} (q : IV bs s0 sg h) : STEP bs s0 sg h (fX8_faults (some (sg 0))) (fX9_faults (some (sg 13))) := by
  obtain ⟨ad, T, n, tp, ol, fl, L, c, r, p⟩ := id q
  exact ⟨_, h, h, cls_faults c.2.1.1 c.2.1.2.2.2.1, r.1.o, ref_faults r.1 r.2.2.2.2, q⟩
theorem s_add {bs s0 : Nat} {sg : Nat → Nat} {h : AH} (q : IV bs s0 sg h) (v : Int32) : STEP bs s0 sg h (fX8_add (some (sg 0)) v) (fX9_add (some (sg 13)) v) := by
  obtain ⟨ad, T, n, tp, ol, fl, L, c, r, ⟨kd, pw⟩, pS, pb, pf⟩ := q
  obtain ⟨h1, ad1, g1, A1, C1, T1, F1⟩ := cls_add c.1 c.2.1 pS pw.1 v
  obtain ⟨c1, hr⟩ := c.tr A1 F1 C1 T1
  have r1 := hr r
  obtain ⟨h2, g2, R2, T2, F2⟩ := ref_add r1.1 r1.2.2.1 pb r1.2.1 pS v
  have hno : ∀ k, k ≠ 2 → ¬ (6 ≤ k ∧ k ≤ 23) → k ≠ 34 → ¬ ∃ j, (j = 2 ∨ (6 ≤ j ∧ j ≤ 23) ∨ j = 34) ∧ rg sg k = rg sg j := fun k a b d z => by obtain ⟨j, hj, e⟩ := z; rw [r1.1.i] at e; omega
  obtain ⟨w', S'⟩ := ad_ok (tp := tp) (n := n) pw pS v
  exact ⟨_, h1, h2, g1, r1.1.o, g2, ad1, adT T tp n v, 0, tp, ol, fl, L, c1.fr F2 (fun f a z => z.2) (fun a z => by obtain ⟨k, -, e⟩ := z; exact ⟨k, e⟩), ⟨F2.RB r1.1, R2, T2, r1.2.2.2.1.fr F2 (by omega) (hno 4 (by omega) (by omega) (by omega)), r1.2.2.2.2.fr F2 (by omega) (hno 27 (by omega) (by omega) (by omega)) (hno 28 (by omega) (by omega) (by omega))⟩, w', S', fun i hi => by omega, pf⟩
theorem s_text {bs s0 : Nat} {sg : Nat → Nat} {h : AH} (q : IV bs s0 sg h) (v : Int32) : STEP bs s0 sg h (fX8_text (some (sg 0)) v) (fX9_text (some (sg 13)) v) := by
  obtain ⟨ad, T, n, tp, ol, fl, L, c, r, ⟨kd, pw⟩, pS, pb, pf⟩ := q
  obtain ⟨h1, ad1, g1, A1, C1, T1, F1⟩ := cls_text c.1 c.2.1 pb pw pS v
  obtain ⟨c1, hr⟩ := c.tr A1 F1 C1 T1
  have r1 := hr r
  obtain ⟨h2, g2, R2, T2, F2⟩ := ref_text r1.1 r1.2.2.1 pb r1.2.1 pw pS v
  have hno : ∀ k, k ≠ 2 → ¬ (6 ≤ k ∧ k ≤ 23) → k ≠ 34 → ¬ ∃ j, (j = 2 ∨ (6 ≤ j ∧ j ≤ 23) ∨ j = 34) ∧ rg sg k = rg sg j := fun k a b d z => by obtain ⟨j, hj, e⟩ := z; rw [r1.1.i] at e; omega
  obtain ⟨S', w'⟩ := tx_ok (tp := tp) (n := n) (fun hb k hk => badA_none _ _ hb k (by omega) (by omega)) pw pS v
  exact ⟨_, h1, h2, g1, r1.1.o, g2, ad1, txT T kd tp n v, 0, tp, ol, fl, L, c1.fr F2 (fun f a z => z.2) (fun a z => by obtain ⟨k, -, e⟩ := z; exact ⟨k, e⟩), ⟨F2.RB r1.1, R2, T2, r1.2.2.2.1.fr F2 (by omega) (hno 4 (by omega) (by omega) (by omega)), r1.2.2.2.2.fr F2 (by omega) (hno 27 (by omega) (by omega) (by omega)) (hno 28 (by omega) (by omega) (by omega))⟩, w', S', fun i hi => by omega, pf⟩
theorem s_set {bs s0 : Nat} {sg : Nat → Nat} {h : AH} (q : IV bs s0 sg h) (v : Int32) : STEP bs s0 sg h (fX8_set (some (sg 0)) v) (fX9_set (some (sg 13)) v) := by
  obtain ⟨ad, T, n, tp, ol, fl, L, c, r, ⟨kd, pw⟩, pS, pb, pf⟩ := q
  obtain ⟨h1, ad1, g1, A1, C1, T1, F1⟩ := cls_set c.1 c.2.1 pS pw.1 v
  obtain ⟨c1, hr⟩ := c.tr A1 F1 C1 T1
  have r1 := hr r
  obtain ⟨h2, g2, R2, T2, F2⟩ := ref_set r1.1 r1.2.2.1 pb r1.2.1 pS v
  have hno : ∀ k, k ≠ 2 → ¬ (6 ≤ k ∧ k ≤ 23) → ¬ ∃ j, (j = 2 ∨ (6 ≤ j ∧ j ≤ 23)) ∧ rg sg k = rg sg j := fun k a b z => by obtain ⟨j, hj, e⟩ := z; rw [r1.1.i] at e; omega
  obtain ⟨w', S'⟩ := st_ok (tp := tp) (n := n) pw pS v
  exact ⟨_, h1, h2, g1, r1.1.o, g2, ad1, stT T tp n v, 0, tp, ol, fl, L, c1.fr F2 (fun f a z => z.2) (fun a z => by obtain ⟨k, -, e⟩ := z; exact ⟨k, e⟩), ⟨F2.RB r1.1, R2, T2, r1.2.2.2.1.fr F2 (by omega) (hno 4 (by omega) (by omega)), r1.2.2.2.2.fr F2 (by omega) (hno 27 (by omega) (by omega)) (hno 28 (by omega) (by omega))⟩, w', S', fun i hi => by omega, pf⟩
theorem s_remove {bs s0 : Nat} {sg : Nat → Nat} {h : AH} (q : IV bs s0 sg h) (v : Int32) : STEP bs s0 sg h (fX8_remove (some (sg 0)) v) (fX9_remove (some (sg 13)) v) := by
  obtain ⟨ad, T, n, tp, ol, fl, L, c, r, ⟨kd, pw⟩, pS, pb, pf⟩ := q
  obtain ⟨h1, g1, A1, C1, F1⟩ := cls_remove c.1 c.2.1.1 c.2.1.2.2.2.2.1 pw pS v
  obtain ⟨c1, hr⟩ := c.tr A1 F1.a C1 (F1.tape A1 c.2.1.2.1)
  have r1 := hr r
  obtain ⟨h2, g2, R2, F2⟩ := ref_remove r1.1 r1.2.1 pw pS v
  have hno : ∀ k, ¬ (6 ≤ k ∧ k ≤ 23) → ¬ ∃ j, (6 ≤ j ∧ j ≤ 23) ∧ rg sg k = rg sg j := fun k b z => by obtain ⟨j, hj, e⟩ := z; rw [r1.1.i] at e; omega
  obtain ⟨w', S'⟩ := rv_ok pw pS v
  exact ⟨_, h1, h2, g1, r1.1.o, g2, ad, rvT T kd v, n, tp, ol, fl, L, c1.fr F2 (fun f a z => z.2) (fun a z => by obtain ⟨k, -, e⟩ := z; exact ⟨k, e⟩), ⟨F2.RB r1.1, R2, r1.2.2.1.fr F2 (by omega) (hno 0 (by omega)), r1.2.2.2.1.fr F2 (by omega) (hno 4 (by omega)), r1.2.2.2.2.fr F2 (by omega) (hno 27 (by omega)) (hno 28 (by omega))⟩, w', S', pb, pf⟩
theorem s_find {bs s0 : Nat} {sg : Nat → Nat} {h : AH} (q : IV bs s0 sg h) (v : Int32) : STEP bs s0 sg h (fX8_find (some (sg 0)) v) (fX9_find (some (sg 13)) v) := by
  obtain ⟨ad, T, n, tp, ol, fl, L, c, r, ⟨kd, pw⟩, pS, pb, pf⟩ := q
  obtain ⟨l, l1, l2, l3⟩ := fn_walk pw pS v
  have g1 := cls_find (v := v) c.1 c.2.1 pS pw l1 l2 l3
  have F1 : Fr (fun f a => f = 301 ∧ a = sg 1) (fun _ => False) h (pI h 301 (sg 1) (nI 0)) := Fr.pI Fr.rf ⟨rfl, rfl⟩
  obtain ⟨c1, hr⟩ := c.io F1 (fun f a z => Or.inl z) (fun a z => z.elim) c.2.1.2.1.clear (c.2.1.2.2.1.fr F1 (by omega) (fun z => z))
  have r1 := hr r
  obtain ⟨h2, g2, t2, F2⟩ := ref_find (v := v) r1.1 r1.2.2.1 pb r1.2.1 pS pw l1 l2 l3
  exact ⟨_, _, h2, g1, r1.1.o, g2, ad, T, 0, tp, ol, fl, L, c1.fr F2 (fun f a z => z.2) (fun a z => ⟨2, z⟩), ⟨F2.RB r1.1, r1.2.1.fr F2 (by omega) (fun k h6 h23 => rg_no r1 (by omega)), t2, r1.2.2.2.1.fr F2 (by omega) (rg_no r1 (by omega)), r1.2.2.2.2.fr F2 (by omega) (rg_no r1 (by omega)) (rg_no r1 (by omega))⟩, ⟨kd, pw⟩, pS, fun i hi => by omega, pf⟩

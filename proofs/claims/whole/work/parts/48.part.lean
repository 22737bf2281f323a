/-! PARTINGS: the two calls -/
theorem R_prt {V K T : Nat} {S M S1 M1 : rSt} (h : R V K T S M) (e : lkE S S1) (g : mlE M M1) (p : RPt S1) : R V K T S1 M1 := by
  obtain ⟨e1, e2, e3, e4⟩ := e
  obtain ⟨g1, g2, g3, g4⟩ := g
  obtain ⟨h1, h2, h3, h4, h5, h6, h7, h8, -⟩ := h
  have q : Rsz V K T S1 M1 ∧ Rst V K S1 M1 ∧ Rtx S1 M1 ∧ Rse S1 M1 ∧ Rev S1 M1 ∧ Rbo S1 M1 ∧ RTs S1 M1 ∧ RIg S1 M1 := by
    have q0 : Rsz V K T S M ∧ Rst V K S M ∧ Rtx S M ∧ Rse S M ∧ Rev S M ∧ Rbo S M ∧ RTs S M ∧ RIg S M := ⟨h1, h2, h3, h4, h5, h6, h7, h8⟩
    clear p h1 h2 h3 h4 h5 h6 h7 h8
    unfold Rsz Rst Rtx Rse Rev Rbo RTs RIg RIm at *
    simp (disch := decide) only [e1, e2, e3, e4, g1, g2, g3, g4]
    exact q0
  obtain ⟨q1, q2, q3, q4, q5, q6, q7, q8⟩ := q
  exact ⟨q1, q2, q3, q4, q5, q6, q7, q8, p⟩
theorem lkR_P {V K T m : Nat} (hk : Ok3 V K T) (hl : dLk V K T) (m2 : 2 ≤ m) (m6 : m ≤ 6) {S : rSt} (h : lkR V K T m S) : RPt S := Or.inr ⟨V, K, T, m, hk, m2, m6, hl, h.1, h.2.1, h.2.2.1, h.2.2.2⟩
theorem lk_m {S S1 : rSt} (e : lkE S S1) : mEq0 S S1 := ⟨fun k => e.1 60 k (by decide), fun a ha => e.2.2.1 a (by omega) (by omega), e.2.2.2 75 (by decide) (by decide)⟩
theorem ml_c {M M1 : rSt} (g : mlE M M1) : cEq0 M M1 := ⟨fun a k ha => g.1 a k (fun r => ha r.1), g.2.1, fun a ha => g.2.2.1 a (by omega) (by omega) (by omega), fun a _ => by rw [g.2.2.2]⟩
/-- the number of ways is small: counted -/
theorem dW_cs : ∀ v, v < 3 → ∀ k, k < 2 → ∀ t, t < k + 1 → ∀ m, m < 5 → lkB (v + 4) (k + 2) (t + 1) = true → 0 ≤ (dW (v + 4) (k + 2) (t + 1) (m + 2)).1 := by decide +kernel
theorem dW_pos {V K T m : Nat} (hk : Ok3 V K T) (hl : dLk V K T) (m2 : 2 ≤ m) (m6 : m ≤ 6) : 0 ≤ (dW V K T m).1 := by
  obtain ⟨V6, -⟩ := dLk_V hk hl
  obtain ⟨k1, k2, k3, k4, k5, k6⟩ := hk
  have hb := dLk_B.mpr hl
  obtain ⟨v, rfl⟩ : ∃ v, V = v + 4 := ⟨V - 4, by omega⟩
  obtain ⟨k, rfl⟩ : ∃ k, K = k + 2 := ⟨K - 2, by omega⟩
  obtain ⟨t, rfl⟩ : ∃ t, T = t + 1 := ⟨T - 1, by omega⟩
  obtain ⟨m, rfl⟩ : ∃ q, m = q + 2 := ⟨m - 2, by omega⟩
  exact dW_cs v (by omega) k (by omega) t (by omega) m (by omega) hb
/-- what both calls stand on -/
theorem parted_both (x : Int32) {V K T : Nat} {S M : rSt} (h : R V K T S M) (h2 : inB x 2 6 = true) (hl : lkB V K T = true) : ∃ S1 M1 c, J_X2_look 38 2 x (Wd S) = some (Wd S1) ∧ J_X10_parts 60 x (Wd M) = some (Wd M1) ∧ R V K T S1 M1 ∧ lkE S S1 ∧ mlE M M1 ∧ S1.1 38 0 = c ∧ M1.1 60 38 = c ∧ S1.1 38 3 = nI (MB V K) ∧ 0 ≤ c ∧ (c ≠ 0 → ∀ b, b < MB V K → S1.2.2.1 42 b = M1.2.2.1 85 b) := by
  obtain ⟨hsz, hst, htx, hre⟩ := id h
  obtain ⟨⟨hk, c0, c1, c2, c3, cB⟩, -, m0, m1, m2, m3, mB⟩ := id hsz
  obtain ⟨m, a1, a2, rfl⟩ := inB_n (a := 2) (b := 6) (by decide) (by decide) h2
  have hd := dLk_B.mp hl
  obtain ⟨S1, r1, r2, r3⟩ := look38 hk hd a1 a2 c0 c1 c2 c3 cB (by rw [isParts_e, h2]) (by rw [isLook2 hk c1 c2 c3, hl]) hre.2.2.2.2.2
  obtain ⟨M1, t1, t2, t3, t4⟩ := parts60 hk hd a1 a2 (M := M) ⟨m0, m1, m2, m3, mB⟩
  exact ⟨S1, M1, (dW V K T m).1, r1, t1, R_prt h r2 t2 (lkR_P hk hd a1 a2 r3), r2, t2, r3.2.1, t3, r3.2.2.1, dW_pos hk hd a1 a2, fun q b hb => (r3.2.2.2 q b hb).trans (t4 q b hb).symm⟩
theorem op_parted (x : Int32) : Op2 (J_X9_parted 0 x) (J_X10_parted 60 x) := by
  intro V K T S M h
  obtain ⟨hsz, hst, htx, hre⟩ := id h
  obtain ⟨⟨hk, c0, c1, c2, c3, cB⟩, -, m0, m1, m2, m3, mB⟩ := id hsz
  have bf : bi false = 0 := by decide
  have bt : ¬ bi true = 0 := by decide
  have l2 := isLook2 hk c1 c2 c3
  have l60 := isLook60 hk (S := M) ⟨m0, m1, m2, m3, mB⟩
  cases h2 : inB x 2 6
  · refine ⟨-2, V, K, T, S, M, ?_, ?_, h, (mE_r S).1, (cE_r M).1⟩
    · unfold J_X9_parted
      rw [wr_0, isParts_e, h2, bs, if_pos bf]
    · unfold J_X10_parted
      rw [wr_60, inL_i, h2, bs, if_pos bf]
  cases hl : lkB V K T
  · refine ⟨-3, V, K, T, S, M, ?_, ?_, h, (mE_r S).1, (cE_r M).1⟩
    · unfold J_X9_parted
      rw [wr_0, isParts_e, h2, bs, if_neg bt, wf_0_0, bs, wf_1_0, bs, l2, hl, bs, if_pos bf]
    · unfold J_X10_parted
      rw [wr_60, inL_i, h2, bs, if_neg bt, l60, hl, bs, if_pos bf]
  obtain ⟨S1, M1, c, r1, r2, r3, r4, r5, r6, r7, r8, r0, r9⟩ := parted_both x h h2 hl
  refine ⟨c, V, K, T, S1, M1, ?_, ?_, r3, lk_m r4, ml_c r5⟩
  · unfold J_X9_parted
    rw [wr_0, isParts_e, h2, bs, if_neg bt, wf_0_0, bs, wf_1_0, bs, l2, hl, bs, if_neg bt, wf_0_6, bs, bs, wf_1_0, bs, r1, bs, wf_0_6, bs, wf_38_0, bs, r6]
  · unfold J_X10_parted
    rw [wr_60, inL_i, h2, bs, if_neg bt, l60, hl, bs, if_neg bt, r2, bs, wf_60_38, bs, r7]
theorem op_part (x y : Int32) : Op2 (J_X9_part 0 x y) (J_X10_part 60 x y) := by
  intro V K T S M h
  obtain ⟨hsz, hst, htx, hre⟩ := id h
  obtain ⟨⟨hk, c0, c1, c2, c3, cB⟩, -, m0, m1, m2, m3, mB⟩ := id hsz
  have hM := MB_ok hk
  have bf : bi false = 0 := by decide
  have bt : ¬ bi true = 0 := by decide
  have l2 := isLook2 hk c1 c2 c3
  have l60 := isLook60 hk (S := M) ⟨m0, m1, m2, m3, mB⟩
  have n2 : ¬ (0 : Int32) ≤ -2 := by decide
  have n3 : ¬ (0 : Int32) ≤ -3 := by decide
  have ib := isBlock60 (S := M) m3 (by omega) (by omega) y
  cases h1 : hasB y (nI (MB V K))
  · refine ⟨-1, V, K, T, S, M, ?_, ?_, h, (mE_r S).1, (cE_r M).1⟩
    · unfold J_X9_part
      rw [wr_0, wf_0_0, bs, wf_1_0, bs, has2, c3, h1, bs, if_pos bf]
    · unfold J_X10_part
      rw [wr_60, ib, h1, bs, if_pos bf]
  cases h2 : inB x 2 6
  · refine ⟨-2, V, K, T, S, M, ?_, ?_, h, (mE_r S).1, (cE_r M).1⟩
    · unfold J_X9_part J_X9_parted
      rw [wr_0, wr_0, wf_0_0, bs, wf_1_0, bs, has2, c3, h1, bs, if_neg bt, isParts_e, h2, bs, if_pos bf, rB2_e, if_neg n2]
    · unfold J_X10_part
      rw [wr_60, ib, h1, bs, if_neg bt, inL_i, h2, bs, if_pos bf]
  cases hl : lkB V K T
  · refine ⟨-3, V, K, T, S, M, ?_, ?_, h, (mE_r S).1, (cE_r M).1⟩
    · unfold J_X9_part J_X9_parted
      rw [wr_0, wr_0, wf_0_0, bs, wf_1_0, bs, has2, c3, h1, bs, if_neg bt, isParts_e, h2, bs, if_neg bt, bs, wf_1_0, bs, l2, hl, bs, if_pos bf, rB2_e, if_neg n3]
    · unfold J_X10_part
      rw [wr_60, ib, h1, bs, if_neg bt, inL_i, h2, bs, if_neg bt, l60, hl, bs, if_pos bf]
  obtain ⟨S1, M1, c, r1, r2, r3, r4, r5, r6, r7, r8, r0, r9⟩ := parted_both x h h2 hl
  have pd : J_X9_parted 0 x (Wd S) = some (c, Wd S1) := by
    unfold J_X9_parted
    rw [wr_0, isParts_e, h2, bs, if_neg bt, wf_0_0, bs, wf_1_0, bs, l2, hl, bs, if_neg bt, wf_0_6, bs, bs, wf_1_0, bs, r1, bs, wf_0_6, bs, wf_38_0, bs, r6]
  obtain ⟨j, j1, rfl⟩ := (hasB_n (by omega)).mp h1
  have m2x : J_X10_part 60 x (nI j) (Wd M) = if c = 0 then some (-5, Wd M1) else some (M1.2.2.1 85 j, Wd M1) := by
    unfold J_X10_part
    rw [wr_60, ib, h1, bs, if_neg bt, inL_i, h2, bs, if_neg bt, l60, hl, bs, if_neg bt, r2, bs, wf_60_38, bs, r7]
    by_cases hc : c = 0
    · rw [if_pos hc, if_pos hc]
    · rw [if_neg hc, if_neg hc, wf_60_36, bs, wa_85 (show j < 56 by omega), bs]
  have c2x : J_X9_part 0 x (nI j) (Wd S) = if c = 0 then some (-5, Wd S1) else some (S1.2.2.1 42 j, Wd S1) := by
    have j20 : j < 20 := by have := (dLk_V hk (dLk_B.mp hl)).2; omega
    have e1 : ¬ nI j < 0 := nI_lt0 (by omega)
    unfold J_X9_part
    rw [wr_0, wf_0_0, bs, wf_1_0, bs, has2, c3, h1, bs, if_neg bt, pd, rB2_e, if_pos r0]
    by_cases hc : c = 0
    · rw [if_pos hc, if_pos hc]
    · rw [if_neg hc, if_neg hc, wf_0_6, bs]
      unfold J_X2_firstOf
      rw [wr_38, rLet_eq, if_neg e1, wf_38_3, bs, r8, if_neg (nI_ge j1 (by omega)), wf_38_7, bs, wa_42 j20, bs, bs]
  by_cases hc : c = 0
  · rw [if_pos hc] at m2x c2x
    exact ⟨_, V, K, T, S1, M1, c2x, m2x, r3, lk_m r4, ml_c r5⟩
  · rw [if_neg hc] at m2x c2x
    rw [← r9 hc j j1] at m2x
    exact ⟨_, V, K, T, S1, M1, c2x, m2x, r3, lk_m r4, ml_c r5⟩

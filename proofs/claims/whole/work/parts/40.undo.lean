/-! THE IMAGE, the calls -/
theorem mE_of {S S1 : rSt} (h1 : ∀ k, S1.1 60 k = S.1 60 k) (h2 : ∀ a, 61 ≤ a → S1.2.2.1 a = S.2.2.1 a) (h3 : S1.2.2.2 = S.2.2.2) (h4 : S1.1 43 4 = S.1 43 4) (h5 : S1.2.2.1 45 = S.2.2.1 45) (h6 : S1.2.2.1 46 = S.2.2.1 46) : mEq S S1 := ⟨⟨h1, h2, by rw [h3]⟩, h4, h5, h6⟩
theorem op_image : Op (J_X9_image 0) (J_X10_image 60) := by
  intro V K T S M0 h0
  obtain ⟨⟨z0, -⟩, -, -, ⟨n1, l1, a1, -, -⟩, ⟨n2, l2, a2, -, -⟩, ⟨n3, l3, a3, -, -⟩, -, ⟨-, V0, K0, T0, z1, -⟩, -⟩ := id h0
  obtain ⟨S1, e1, e2, ⟨e3, e4, e5⟩, ⟨f1, f2⟩, ⟨f3, f4⟩, ⟨f5, f6⟩, g1, g2, g3, g4⟩ := stCopy16 z1 z0 a1 a2 a3 l1 l2 l3
  have hM := MB_ok z0.1
  refine ⟨nI (cntB (tb (S.2.1 5 2)) 64), V, K, T, si S1 0 2 1, ?_, ?_, fun M hM' => ?_⟩
  · unfold J_X9_image
    rw [wr_0, wf_0_1, bs, wf_0_0, bs, e1, bs, wp_0_2, bs, wf_0_0, bs, wf_1_1, bs, wf_5_2, bs, bitCountJ, bs]
    show some (nI (cntB (tb (S1.2.1 5 2)) 64), Wd (si S1 0 2 1)) = _
    rw [g2 5 2 (by decide)]
  · refine mE_of (fun k => ?_) (fun a ha => ?_) g4 (by rw [ri_i, if_neg (by decide)]; exact g1 43 4 (by decide) (by decide) (by decide) (by decide)) (g3 45 (by decide) (by decide) (by decide) (by decide) (by decide) (by decide) (by decide) (by decide) (by decide)) (g3 46 (by decide) (by decide) (by decide) (by decide) (by decide) (by decide) (by decide) (by decide) (by decide))
    · rw [ri_i, if_neg (by decide)]
      exact g1 60 k (by decide) (by decide) (by decide) (by decide)
    · exact g3 a (by omega) (by omega) (by omega) (by omega) (by omega) (by omega) (by omega) (by omega) (by omega)
  · obtain ⟨g, b1, ⟨⟨u0, u1, u2, u3, u4, u5⟩, u6, u7, u8⟩⟩ := keepTo78 M
    obtain ⟨⟨q1, q2⟩, hst, htx, hse, hev, hbo, hts, hig, hpt⟩ := id hM'
    obtain ⟨-, m0, m1, m2, m3, mB⟩ := id q2
    have e6 := inDesign60 (S := si (sa M 78 g) 60 29 1) m3 hM.2
    have e7 : addF ((si (sa M 78 g) 60 29 1).2.2.1 64) (MB V K) = nI (cntB (tb (S.2.1 5 2)) 64) := addF_bits (fun j hj => (hst.1 j (by omega)).2.1) hM.2 (fun j hj => (hst.2 j hj).1)
    refine ⟨si (sa M 78 g) 60 29 1, ?_, ?_, by repeat (first | exact cE_r _ | refine cE_a (by decide) ?_ | refine cE_i (by decide) ?_ | refine cE_j ?_)⟩
    · unfold J_X10_image
      rw [wr_60, wf_60_27, bs, b1, bs, wp_60_29, bs, e6, bs, e7]
    · have x1 : ∀ a k, a ≠ 0 → a ≠ 17 → a ≠ 22 → a ≠ 25 → a ≠ 28 → (si S1 0 2 1).1 a k = S.1 a k := by
        intro a k h1 h2 h3 h4 h5
        rw [ri_i, if_neg h1]
        exact g1 a k h2 h3 h4 h5
      have x2 : ∀ a k, a ≠ 20 → (si S1 0 2 1).2.1 a k = S.2.1 a k := g2
      have x3 : ∀ a, a ≠ 18 → a ≠ 19 → a ≠ 21 → a ≠ 23 → a ≠ 24 → a ≠ 26 → a ≠ 27 → a ≠ 29 → a ≠ 30 → (si S1 0 2 1).2.2.1 a = S.2.2.1 a := g3
      have x4 : (si S1 0 2 1).2.2.2 = S.2.2.2 := g4
      have y1 : ∀ k, k ≠ 29 → (si (sa M 78 g) 60 29 1).1 60 k = M.1 60 k := by
        intro k hk
        rw [ri_i, if_pos rfl, if_neg hk]
        rfl
      have y2 : ∀ a, a ≠ 78 → (si (sa M 78 g) 60 29 1).2.2.1 a = M.2.2.1 a := by
        intro a ha
        show (sa M 78 g).2.2.1 a = _
        rw [ra_a, if_neg ha]
      have y3 : (si (sa M 78 g) 60 29 1).2.2.2 = M.2.2.2 := rfl
      have k1 : ∀ k, (si S1 0 2 1).1 17 k = S1.1 17 k := fun k => rfl
      refine ⟨?_, ?_, ?_, ?_, ?_, ?_, ?_, ⟨rfl, V, K, T, e2, Or.inr ⟨rfl, ?_⟩⟩, ?_⟩
      · unfold Rsz
        simp (disch := decide) only [x1, x3, y1, y2]
        exact ⟨q1, q2⟩
      · unfold Rst
        simp (disch := decide) only [x2, x3, y2]
        exact hst
      · unfold Rtx
        simp (disch := decide) only [x1, x3, y1, y2]
        exact htx
      · unfold Rse
        simp (disch := decide) only [x1, x3, y1, y2]
        exact hse
      · unfold Rev
        simp (disch := decide) only [x1, x3, y1, y2]
        exact hev
      · unfold Rbo
        simp (disch := decide) only [x1, x3, y1, y2]
        exact hbo
      · unfold RTs
        simp (disch := decide) only [x1, x4, y2, y3]
        exact hts
      · obtain ⟨p1, r1, r2, r3, r4⟩ := id hse
        obtain ⟨p2, r5, r6, r7, r8⟩ := id hev
        obtain ⟨p3, r9, r10, r11, r12⟩ := id hbo
        have hp1 : p1 = n1 := nI_inj (by omega) (by omega) (r2.symm.trans a1)
        have hp2 : p2 = n2 := nI_inj (by omega) (by omega) (r6.symm.trans a2)
        have hp3 : p3 = n3 := nI_inj (by omega) (by omega) (r10.symm.trans a3)
        subst hp1 hp2 hp3
        refine ⟨u0.trans m0, u1.trans m1, u2.trans m2, ⟨fun b hb => ?_, fun b hb => ?_⟩, ⟨p1, l1, f1, u3.trans r3, fun j hj => ?_⟩, ⟨p2, l2, f3, u4.trans r7, fun j hj => ?_⟩, ⟨p3, l3, f5, u5.trans r11, fun j hj => ?_⟩⟩
        · show g (46 + b) = S1.2.2.1 21 b ∧ g (102 + b) = bi (tb (S1.2.1 20 2) b) ∧ g (158 + b) = bi (tb (S1.2.1 20 3) b) ∧ inB (S1.2.2.1 21 b) (-99) 99 = true
          rw [e3 b hb, e4, e5, (u8 b hb).1, (u8 b hb).2.1, (u8 b hb).2.2]
          exact hst.1 b hb
        · show tb (S1.2.1 20 2) b = false ∧ tb (S1.2.1 20 3) b = false ∧ (b < 56 → S1.2.2.1 21 b = 0)
          rw [e4, e5]
          refine ⟨(hst.2 b hb).1, (hst.2 b hb).2.1, fun hb' => ?_⟩
          rw [e3 b hb']
          exact (hst.2 b hb).2.2 hb'
        · show g (6 + j) = S1.2.2.1 23 j ∧ g (10 + j) = S1.2.2.1 24 j ∧ anyB (S1.2.2.1 23 j) = true
          rw [(f2 j hj).1, (f2 j hj).2, (u6 j (by omega)).1, (u6 j (by omega)).2]
          exact r4 j hj
        · show g (14 + j) = S1.2.2.1 26 j ∧ g (22 + j) = S1.2.2.1 27 j ∧ inB (S1.2.2.1 26 j) 0 4 = true
          rw [(f4 j hj).1, (f4 j hj).2, (u7 j (by omega)).1, (u7 j (by omega)).2.1]
          exact r8 j hj
        · show g (30 + j) = S1.2.2.1 29 j ∧ g (38 + j) = S1.2.2.1 30 j ∧ anyB (S1.2.2.1 29 j) = true
          rw [(f6 j hj).1, (f6 j hj).2, (u7 j (by omega)).2.2.1, (u7 j (by omega)).2.2.2]
          exact r12 j hj
      · unfold RPt
        simp (disch := decide) only [x1, x3]
        exact hpt
theorem op_undo : Op (J_X9_undo 0) (J_X10_undo 60) := by
  intro V K T S M0 h0
  obtain ⟨⟨z0, -⟩, -, -, -, -, -, -, ⟨i1, V0, K0, T0, z1, i2⟩, -⟩ := id h0
  rcases i2 with i2 | ⟨i2, i3⟩
  · refine ⟨-3, V, K, T, S, ?_, mE_r S, fun M hM' => ⟨M, ?_, hM', cE_r M⟩⟩
    · unfold J_X9_undo
      rw [wr_0, wf_0_2, bs, i2, if_pos rfl]
    · have j1 := hM'.2.2.2.2.2.2.2.1.1
      unfold J_X10_undo
      rw [wr_60, wf_60_29, bs, j1, i2, if_pos rfl]
  obtain ⟨-, -, -, -, ⟨n1, l1, a1, -, -⟩, ⟨n2, l2, a2, -, -⟩, ⟨n3, l3, a3, -, -⟩⟩ := id i3
  obtain ⟨S1, e1, e2, ⟨e3, e4, e5⟩, ⟨f1, f2⟩, ⟨f3, f4⟩, ⟨f5, f6⟩, g1, g2, g3, g4⟩ := stCopy1 z0 z1 a1 a2 a3 l1 l2 l3
  have hM := MB_ok z1.1
  refine ⟨nI (cntB (tb (S.2.1 20 2)) 64), V0, K0, T0, S1, ?_, ?_, fun M hM' => ?_⟩
  · unfold J_X9_undo
    rw [wr_0, wf_0_2, bs, i2, if_neg (by decide), wf_0_0, bs, wf_0_1, bs, e1, bs, wf_0_0, bs, wf_1_1, bs, wf_5_2, bs, bitCountJ, bs, e4]
  · refine mE_of (fun k => ?_) (fun a ha => ?_) g4 (g1 43 4 (by decide) (by decide) (by decide) (by decide)) (g3 45 (by decide) (by decide) (by decide) (by decide) (by decide) (by decide) (by decide) (by decide) (by decide)) (g3 46 (by decide) (by decide) (by decide) (by decide) (by decide) (by decide) (by decide) (by decide) (by decide))
    · exact g1 60 k (by decide) (by decide) (by decide) (by decide)
    · exact g3 a (by omega) (by omega) (by omega) (by omega) (by omega) (by omega) (by omega) (by omega) (by omega)
  · obtain ⟨⟨q1, q2⟩, hst, htx, hse, hev, hbo, hts, ⟨j1, V1, K1, T1, z2, j2⟩, hpt⟩ := id hM'
    have j3 := j2.resolve_left (by rw [i2]; decide)
    obtain ⟨d1, d2, d3, d4, ⟨p1, r1, r2, r3, r4⟩, ⟨p2, r5, r6, r7, r8⟩, ⟨p3, r9, r10, r11, r12⟩⟩ := id j3.2
    have zz : V1 = V0 ∧ K1 = K0 ∧ T1 = T0 := by
      obtain ⟨hk, c0, c1, c2, -⟩ := id z1
      obtain ⟨hk', c0', c1', c2', -⟩ := id z2
      obtain ⟨k1, k2, k3, k4, k5, k6⟩ := id hk
      obtain ⟨k1', k2', k3', k4', k5', k6'⟩ := id hk'
      exact ⟨nI_inj (by omega) (by omega) (c0'.symm.trans c0), nI_inj (by omega) (by omega) (c1'.symm.trans c1), nI_inj (by omega) (by omega) (c2'.symm.trans c2)⟩
    obtain ⟨rfl, rfl, rfl⟩ := zz
    have hp1 : p1 = n1 := nI_inj (by omega) (by omega) (r2.symm.trans a1)
    have hp2 : p2 = n2 := nI_inj (by omega) (by omega) (r6.symm.trans a2)
    have hp3 : p3 = n3 := nI_inj (by omega) (by omega) (r10.symm.trans a3)
    subst hp1 hp2 hp3
    obtain ⟨M3, v1, v2, v3, v4, v5, v6, v7, v8, v9, v10⟩ := again78 (M := M) z1.1 d1 d2 d3
    have e6 := inDesign60 (S := M3) v2.2.2.2.1 hM.2
    have hst' : RSt (MB V1 K1) (S1.2.2.1 6) (S1.2.1 5 2) (S1.2.1 5 3) (M3.2.2.1 63) (M3.2.2.1 64) (M3.2.2.1 65) := by
      refine ⟨fun b hb => ?_, fun b hb => ?_⟩
      · rw [e3 b hb, e4, e5, (v6 b hb).1, (v6 b hb).2.1, (v6 b hb).2.2]
        exact d4.1 b hb
      · rw [e4, e5]
        refine ⟨(d4.2 b hb).1, (d4.2 b hb).2.1, fun hb' => ?_⟩
        rw [e3 b hb']
        exact (d4.2 b hb).2.2 hb'
    have e7 : addF (M3.2.2.1 64) (MB V1 K1) = nI (cntB (tb (S1.2.1 5 2)) 64) := addF_bits (fun j hj => (hst'.1 j (by omega)).2.1) hM.2 (fun j hj => (hst'.2 j hj).1)
    rw [e4] at e7
    have w7 : ∀ k, k = 19 ∨ k = 29 → M3.1 60 k = M.1 60 k := by
      rintro k (rfl | rfl)
      · exact v7 19 (by decide) (by decide) (by decide) (by decide) (by decide) (by decide) (by decide)
      · exact v7 29 (by decide) (by decide) (by decide) (by decide) (by decide) (by decide) (by decide)
    refine ⟨M3, ?_, ⟨⟨e2, z1.1, v2⟩, hst', ?_, ⟨p1, l1, f1, v3.1.trans r3, fun j hj => ?_⟩, ⟨p2, l2, f3, v3.2.1.trans r7, fun j hj => ?_⟩, ⟨p3, l3, f5, v3.2.2.trans r11, fun j hj => ?_⟩, ?_, ?_, ?_⟩, v10⟩
    · unfold J_X10_undo
      rw [wr_60, wf_60_29, bs, j1, i2, if_neg (by decide), wf_60_27, bs, v1, bs, e6, bs, e7]
    · unfold Rtx
      rw [g1 43 1 (by decide) (by decide) (by decide) (by decide), g3 44 (by decide) (by decide) (by decide) (by decide) (by decide) (by decide) (by decide) (by decide) (by decide), w7 19 (by decide), v8 72 (by decide)]
      exact htx
    · rw [(f2 j hj).1, (f2 j hj).2, (v4 j (by omega)).1, (v4 j (by omega)).2]
      exact r4 j hj
    · rw [(f4 j hj).1, (f4 j hj).2, (v5 j (by omega)).1, (v5 j (by omega)).2.1]
      exact r8 j hj
    · rw [(f6 j hj).1, (f6 j hj).2, (v5 j (by omega)).2.2.1, (v5 j (by omega)).2.2.2]
      exact r12 j hj
    · unfold RTs at *
      simp (disch := decide) only [g1, g4, v8, v9]
      exact hts
    · unfold RIg RIm at *
      simp (disch := decide) only [g1, g2, g3, v8, w7]
      exact ⟨j1, V1, K1, T1, z2, j2⟩
    · unfold RPt at *
      simp (disch := decide) only [g1, g3]
      exact hpt

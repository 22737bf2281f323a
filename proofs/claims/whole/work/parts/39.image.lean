/-! AFTER; THE IMAGE -/
theorem hE_m {S S1 : rSt} (h : hE S S1) : mEq S S1 := ⟨⟨fun k => h.1 60 k (by decide), fun a ha => h.2.2.1 a (by omega) (by omega), by rw [h.2.2.2]⟩, h.1 43 4 (by decide), h.2.2.1 45 (by decide) (by decide), h.2.2.1 46 (by decide) (by decide)⟩
theorem hF_c {M M1 : rSt} (h : hF M M1) : cEq M M1 := ⟨⟨fun a k _ => by rw [h.1], h.2.1, fun a ha => h.2.2.1 a (by omega) (by omega) (by omega) (by omega), fun a _ => by rw [h.2.2.2]⟩, by rw [h.1], h.2.2.1 73 (by decide) (by decide) (by decide) (by decide), h.2.2.1 74 (by decide) (by decide) (by decide) (by decide)⟩
theorem R_h {V K T : Nat} {S M S1 : rSt} (h : R V K T S M) (g : hE S S1) : R V K T S1 M := by
  obtain ⟨g1, g2, g3, g4⟩ := g
  unfold R Rsz Rst Rtx Rre Rse Rev Rbo RTs RIg RIm RPt at *
  simp (disch := decide) only [g1, g2, g3, g4]
  exact h
/-- the model's world as it was -/
theorem R_k {V K T : Nat} {S M M1 : rSt} (h : R V K T S M) (z : M1.1 60 0 = nI V ∧ M1.1 60 1 = nI K ∧ M1.1 60 2 = nI T ∧ M1.1 60 3 = nI (MB V K) ∧ IsB V K (M1.2.2.1 61) (M1.2.2.1 62)) (y : M1.1 60 11 = M.1 60 11 ∧ M1.1 60 14 = M.1 60 14 ∧ M1.1 60 17 = M.1 60 17) (r4 : ∀ j, j < 4 → M1.2.2.1 66 j = M.2.2.1 66 j ∧ M1.2.2.1 67 j = M.2.2.1 67 j) (r8 : ∀ j, j < 8 → M1.2.2.1 68 j = M.2.2.1 68 j ∧ M1.2.2.1 69 j = M.2.2.1 69 j ∧ M1.2.2.1 70 j = M.2.2.1 70 j ∧ M1.2.2.1 71 j = M.2.2.1 71 j) (r56 : ∀ j, j < 56 → M1.2.2.1 63 j = M.2.2.1 63 j ∧ M1.2.2.1 64 j = M.2.2.1 64 j ∧ M1.2.2.1 65 j = M.2.2.1 65 j) (o1 : M1.1 60 19 = M.1 60 19) (o2 : M1.1 60 29 = M.1 60 29) (o3 : ∀ a, a = 72 ∨ a = 76 ∨ a = 77 ∨ a = 78 → M1.2.2.1 a = M.2.2.1 a) (o4 : M1.2.2.2 = M.2.2.2) : R V K T S M1 := by
  obtain ⟨⟨q1, -⟩, hst, htx, hse, hev, hbo, hts, hig, hpt⟩ := h
  refine ⟨⟨q1, q1.1, z⟩, ?_, ?_, ?_, ?_, ?_, ?_, ?_, hpt⟩
  · refine ⟨fun b hb => ?_, hst.2⟩
    obtain ⟨a1, a2, a3⟩ := r56 b hb
    rw [a1, a2, a3]
    exact hst.1 b hb
  · unfold Rtx at *
    rw [o1, o3 72 (by decide)]
    exact htx
  · obtain ⟨n, h1, h2, h3, h4⟩ := hse
    refine ⟨n, h1, h2, y.1.trans h3, fun j hj => ?_⟩
    rw [(r4 j (by omega)).1, (r4 j (by omega)).2]
    exact h4 j hj
  · obtain ⟨n, h1, h2, h3, h4⟩ := hev
    refine ⟨n, h1, h2, y.2.1.trans h3, fun j hj => ?_⟩
    rw [(r8 j (by omega)).1, (r8 j (by omega)).2.1]
    exact h4 j hj
  · obtain ⟨n, h1, h2, h3, h4⟩ := hbo
    refine ⟨n, h1, h2, y.2.2.trans h3, fun j hj => ?_⟩
    rw [(r8 j (by omega)).2.2.1, (r8 j (by omega)).2.2.2]
    exact h4 j hj
  · unfold RTs at *
    rw [o3 76 (by decide), o3 77 (by decide), o4]
    exact hts
  · unfold RIg RIm at *
    rw [o2, o3 78 (by decide)]
    exact hig
/-- what AFTER answers -/
def afR (x : Int32) (n V T : Nat) (S : rSt) : Int32 := if x = 0 then volF (S.2.2.1 32) n else if x = 1 then nI (cntB (tb (S.2.1 31 2)) 64) else ixF (fun j => covF (tb (S.2.1 31 2)) (S.2.2.1 3) (nI j) n) T (2 ^ V) 0 (-5)
def afK (x : Int32) (w8 : rW) : Option (Int32 × rW) := if x = 0 then (gR w8 0 9 3).bind fun a18 => (J_X5_volume a18 w8).bind fun v20 => some (v20, w8) else if x = 1 then (gR w8 0 9 3).bind fun a14 => (gJ w8 a14 5 2).bind fun v15 => (J_J13_bitCount_95d88 v15 w8).bind fun v17 => some (v17, w8) else (gR w8 0 9 3).bind fun a11 => (J_X5_index a11 w8).bind fun v13 => some (v13, w8)
theorem afK_e {V K T : Nat} {S M : rSt} (h : Raf V K T S M) (x : Int32) : afK x (Wd S) = some (afR x (MB V K) V T S, Wd S) := by
  obtain ⟨⟨⟨hk, c0, c1, c2, c3, cB⟩, -⟩, hst⟩ := h
  have hM := MB_ok hk
  obtain ⟨k1, k2, k3, k4, k5, k6⟩ := id hk
  unfold afK afR
  by_cases h0 : x = 0
  · rw [if_pos h0, if_pos h0, wf_0_3, bs, volume31 c3 hM.2, bs]
  · rw [if_neg h0, if_neg h0]
    by_cases h1 : x = 1
    · rw [if_pos h1, if_pos h1, wf_0_3, bs, wf_31_2, bs, bitCountJ, bs]
    · rw [if_neg h1, if_neg h1, wf_0_3, bs, index31 c3 hM.2 c0 k2 c2 (by omega), bs]
theorem afM_e {V K T : Nat} {S M : rSt} (h : Raf V K T S M) (x : Int32) (K81 : Int32 → Option (Int32 × rW)) : (if x = 0 then (J_X10_volume 60 (Wd M)).bind fun v19 => K81 v19 else if x = 1 then (J_X10_inDesign 60 (Wd M)).bind fun v17 => K81 v17 else (J_X10_index 60 (Wd M)).bind fun v15 => K81 v15) = K81 (afR x (MB V K) V T S) := by
  obtain ⟨⟨⟨hk, c0, c1, c2, c3, cB⟩, -, m0, m1, m2, m3, mB⟩, hst⟩ := h
  have hM := MB_ok hk
  obtain ⟨k1, k2, k3, k4, k5, k6⟩ := id hk
  have hB : ∀ j, j < MB V K → S.2.2.1 3 j = M.2.2.1 61 j := fun j hj => by rw [cB.1 j hj, mB.1 j hj]
  have hD : ∀ j, j < MB V K → M.2.2.1 64 j = bi (tb (S.2.1 31 2) j) := fun j hj => (hst.1 j (by omega)).2.1
  unfold afR
  by_cases h0 : x = 0
  · rw [if_pos h0, if_pos h0, volume60 m3 hM.2, bs, volF_c (f := M.2.2.1 63) (g := S.2.2.1 32) (fun j hj => (hst.1 j (by omega)).1)]
  · rw [if_neg h0, if_neg h0]
    by_cases h1 : x = 1
    · rw [if_pos h1, if_pos h1, inDesign60 m3 hM.2, bs, addF_bits (D := S.2.1 31 2) hD hM.2 (fun j hj => (hst.2 j hj).1)]
    · have e3 : ixF (fun j => covF (tb (S.2.1 31 2)) (S.2.2.1 3) (nI j) (MB V K)) T (2 ^ V) 0 (-5) = ixF (fun j => sumF (M.2.2.1 61) (M.2.2.1 64) (nI j) (MB V K)) T (2 ^ V) 0 (-5) := ixF_c (fun j => covF_s hB hD (nI j)) _ _ _ _
      rw [if_neg h1, if_neg h1, index60 m3 hM.2 m0 k2 m2 (by omega), bs, e3]
abbrev afS (S : rSt) : rSt := sl (sl (sa S 32 (va_cpy (S.2.2.1 6) (S.2.2.1 32) 0 0 56)) 31 2 (S.2.1 5 2)) 31 3 (S.2.1 5 3)
theorem hE_af (S : rSt) : hE S (afS S) := hE_t (hE_32 S _) (hE_t (hE_31 _ _ _) (hE_31 _ _ _))
theorem Raf_0 {V K T : Nat} {S M : rSt} (h : R V K T S M) (g : Nat → Int32) : Raf V K T (afS S) (sa M 79 g) := by
  obtain ⟨hsz, hst, -⟩ := h
  refine ⟨hsz, fun b hb => ?_, fun b hb => ?_⟩
  · show M.2.2.1 63 b = va_cpy (S.2.2.1 6) (S.2.2.1 32) 0 0 56 b ∧ M.2.2.1 64 b = bi (tb (S.2.1 5 2) b) ∧ M.2.2.1 65 b = bi (tb (S.2.1 5 3) b) ∧ inB (va_cpy (S.2.2.1 6) (S.2.2.1 32) 0 0 56 b) (-99) 99 = true
    rw [cpy_in hb]
    exact hst.1 b hb
  · show tb (S.2.1 5 2) b = false ∧ tb (S.2.1 5 3) b = false ∧ (b < 56 → va_cpy (S.2.2.1 6) (S.2.2.1 32) 0 0 56 b = 0)
    refine ⟨(hst.2 b hb).1, (hst.2 b hb).2.1, fun hb' => ?_⟩
    rw [cpy_in hb']
    exact (hst.2 b hb).2.2 hb'
theorem in02_c (x : Int32) : inB x 0 2 = (!decide (x < 0) && decide (x ≤ 2)) := by
  unfold inB
  by_cases h1 : x < 0
  · simp [h1]
  · by_cases h2 : x ≤ 2
    · have : ¬ 2 < x := Int32.not_lt.mpr h2
      simp [h1, h2, this]
    · have : 2 < x := Int32.not_le.mp h2
      simp [h1, h2, this]
theorem op_after (x : Int32) : Op (J_X9_after 0 x) (J_X10_after 60 x) := by
  intro V K T S M0 h0
  cases h2 : inB x 0 2
  · refine ⟨-1, V, K, T, S, ?_, mE_r S, fun M hM' => ⟨M, ?_, hM', cE_r M⟩⟩
    · unfold J_X9_after
      rw [wr_0]
      rw [in02_c] at h2
      by_cases h3 : x < 0
      · rw [if_pos h3]
      · by_cases h4 : x ≤ 2
        · simp [h3, h4] at h2
        · rw [if_neg h3, if_neg h4]
    · unfold J_X10_after
      rw [wr_60, inL_h, bs, h2, if_pos (by decide)]
  have h2' := h2
  rw [in02_c] at h2'
  simp only [Bool.and_eq_true, Bool.not_eq_true', decide_eq_false_iff_not, decide_eq_true_eq] at h2'
  obtain ⟨n, hn, s1, -, -⟩ := id h0.2.2.2.2.1
  have run : ∀ M, R V K T S M → ∃ g S1 M1, KT M g ∧ J_X10_keepTo 60 79 (Wd M) = some (Wd (sa M 79 g)) ∧ (∀ K', J_X9_after_27 0 K' 2000 0 (Wd (afS S)) = K' (Wd S1)) ∧ (∀ K', J_X10_after_24 60 K' 2000 0 (Wd (sa M 79 g)) = K' (Wd M1)) ∧ Raf V K T S1 M1 ∧ hE S S1 ∧ hF (sa M 79 g) M1 := by
    intro M hM'
    obtain ⟨g, g1, g2⟩ := keepTo79 M
    have t1 := RRw_n hM'.2.2.2.2.1 s1 (by omega) (by decide)
    obtain ⟨k, hk8, a1, a2, a3⟩ := id hM'.2.2.2.2.1
    have hk : k = n := nI_inj (by omega) (by omega) (a1.symm.trans s1)
    subst hk
    obtain ⟨S1, M1, b1, b2, b3, b4, b5⟩ := hap_all (V := V) (K := K) (T := T) hk8 k 2000 0 (afS S) (sa M 79 g) (by omega) (by omega) (Raf_0 hM' g) s1 t1 (fun j hj => a3 j hj)
    rw [nI_0] at b1 b2
    exact ⟨g, S1, M1, g2, g1, b1, b2, b3, hE_t (hE_af S) b4, b5⟩
  obtain ⟨g0, S1, M1, -, -, b1, -, b3, b4, -⟩ := run M0 h0
  refine ⟨afR x (MB V K) V T S1, V, K, T, S1, ?_, hE_m b4, fun M hM' => ?_⟩
  · have e1 := copyFrom31_5 S
    unfold J_X9_after
    rw [wr_0, if_neg h2'.1, if_pos h2'.2, wf_0_3, bs, wf_0_0, bs, wf_1_1, bs, e1, bs, rLet_eq, b1]
    exact afK_e b3 x
  · obtain ⟨g, S2, M2, d0, d1, d2, d3, d4, d5, d6⟩ := run M hM'
    have er : afR x (MB V K) V T S1 = afR x (MB V K) V T S2 := by
      have q1 := (b1 (afK x)).symm.trans (d2 (afK x))
      rw [afK_e b3 x, afK_e d4 x] at q1
      exact congrArg Prod.fst (Option.some.inj q1)
    have f79 : M2.2.2.1 79 = g := by
      rw [d6.2.2.1 79 (by decide) (by decide) (by decide) (by decide), ra_a, if_pos rfl]
    obtain ⟨⟨u0, u1, u2, u3, u4, u5⟩, u6, u7, u8⟩ := d0
    obtain ⟨⟨hk, -⟩, -, m0, m1, m2, m3, mB⟩ := hM'.1
    obtain ⟨M3, v1, v2, v3, v4, v5, v6, v7, v8, v9, v10⟩ := again79 (M := M2) hk (by rw [f79, u0, m0]) (by rw [f79, u1, m1]) (by rw [f79, u2, m2])
    rw [f79] at v3 v4 v5 v6
    have w1 : ∀ k, M2.1 60 k = M.1 60 k := fun k => by rw [d6.1]; rfl
    have w2 : ∀ a, a = 72 ∨ a = 76 ∨ a = 77 ∨ a = 78 → M2.2.2.1 a = M.2.2.1 a := by
      intro a ha
      rw [d6.2.2.1 a (by omega) (by omega) (by omega) (by omega), ra_a, if_neg (by omega)]
    refine ⟨M3, ?_, R_k (R_h hM' b4) v2 ⟨v3.1.trans u3, v3.2.1.trans u4, v3.2.2.trans u5⟩ (fun j hj => ⟨(v4 j hj).1.trans (u6 j hj).1, (v4 j hj).2.trans (u6 j hj).2⟩) (fun j hj => ⟨(v5 j hj).1.trans (u7 j hj).1, (v5 j hj).2.1.trans (u7 j hj).2.1, (v5 j hj).2.2.1.trans (u7 j hj).2.2.1, (v5 j hj).2.2.2.trans (u7 j hj).2.2.2⟩) (fun j hj => ⟨(v6 j hj).1.trans (u8 j hj).1, (v6 j hj).2.1.trans (u8 j hj).2.1, (v6 j hj).2.2.trans (u8 j hj).2.2⟩) ((v7 19 (by decide) (by decide) (by decide) (by decide) (by decide) (by decide) (by decide)).trans (w1 19)) ((v7 29 (by decide) (by decide) (by decide) (by decide) (by decide) (by decide) (by decide)).trans (w1 29)) (fun a ha => (v8 a (by omega)).trans (w2 a ha)) (v9.trans d6.2.2.2), cE_t (cE_a (by decide) (cE_r M)) (cE_t (hF_c d6) v10)⟩
    unfold J_X10_after
    rw [wr_60, inL_h, bs, h2, if_neg (by decide), wf_60_28, bs, d1, bs, rLet_eq, d3]
    have e9 := afM_e d4 x (fun z => (gR (Wd M2) 60 10 28).bind fun a9 => (J_X10_again 60 a9 (Wd M2)).bind fun w11 => some (z, w11))
    rw [er]
    refine e9.trans ?_
    rw [wf_60_28, bs, v1, bs]
theorem szN (V K T : Nat) : ((100 * nI V) + (10 * nI K)) + nI T = nI (100 * V + 10 * K + T) := by
  have e1 : (100 : Int32) = nI 100 := by decide
  have e2 : (10 : Int32) = nI 10 := by decide
  rw [e1, e2, pk_mul, pk_mul, nI_add, nI_add]
def fr2 (b c d : Nat) (S S1 : rSt) : Prop := (∀ a k, a ≠ b → S1.1 a k = S.1 a k) ∧ S1.2.1 = S.2.1 ∧ (∀ a, a ≠ c → a ≠ d → S1.2.2.1 a = S.2.2.1 a) ∧ S1.2.2.2 = S.2.2.2
theorem blk2 {S : rSt} {V K T V' K' T' : Nat} (h : RSz V K T (S.1 2 0) (S.1 2 1) (S.1 2 2) (S.1 2 3) (S.2.2.1 3) (S.2.2.1 4)) (h' : RSz V' K' T' (S.1 17 0) (S.1 17 1) (S.1 17 2) (S.1 17 3) (S.2.2.1 18) (S.2.2.1 19)) : ∃ S1, J_X0_copyFrom 2 17 (Wd S) = some (Wd S1) ∧ RSz V' K' T' (S1.1 2 0) (S1.1 2 1) (S1.1 2 2) (S1.1 2 3) (S1.2.2.1 3) (S1.2.2.1 4) ∧ fr2 2 3 4 S S1 := by
  obtain ⟨hk, c0, c1, c2, c3, cB⟩ := id h
  obtain ⟨hk', d0, d1, d2, d3, dB⟩ := id h'
  have e1 := sizes2 S
  have e2 := sizes17 S
  rw [c0, c1, c2, szN] at e1
  rw [d0, d1, d2, szN] at e2
  obtain ⟨k1, k2, k3, k4, k5, k6⟩ := id hk
  obtain ⟨l1, l2, l3, l4, l5, l6⟩ := id hk'
  have e3 : nI (100 * V + 10 * K + T) = nI (100 * V' + 10 * K' + T') ↔ 100 * V + 10 * K + T = 100 * V' + 10 * K' + T' := nI_eq (by omega) (by omega)
  unfold J_X0_copyFrom
  rw [wr_2, e1, bs, e2, bs]
  by_cases h5 : 100 * V + 10 * K + T = 100 * V' + 10 * K' + T'
  · rw [if_pos (e3.mpr h5)]
    have g1 : V = V' := by omega
    have g2 : K = K' := by omega
    have g3 : T = T' := by omega
    subst g1 g2 g3
    exact ⟨S, rfl, h, fun _ _ _ => rfl, rfl, fun _ _ _ => rfl, rfl⟩
  · rw [if_neg (fun q => h5 (e3.mp q)), wf_17_0, bs, wf_17_1, bs, wf_17_2, bs, d0, d1, d2]
    obtain ⟨B', N', r1, r2⟩ := become2 (S := S) hk'
    rw [r2, bs]
    refine ⟨_, rfl, ⟨hk', rfl, rfl, rfl, rfl, r1⟩, fun a k ha => ?_, rfl, fun a h1 h2 => ?_, rfl⟩
    · simp only [ra_1, ri_i, ha, if_false]
    · simp only [ra_a, ri_2, h1, h2, if_false]
theorem blk17 {S : rSt} {V K T V' K' T' : Nat} (h : RSz V K T (S.1 17 0) (S.1 17 1) (S.1 17 2) (S.1 17 3) (S.2.2.1 18) (S.2.2.1 19)) (h' : RSz V' K' T' (S.1 2 0) (S.1 2 1) (S.1 2 2) (S.1 2 3) (S.2.2.1 3) (S.2.2.1 4)) : ∃ S1, J_X0_copyFrom 17 2 (Wd S) = some (Wd S1) ∧ RSz V' K' T' (S1.1 17 0) (S1.1 17 1) (S1.1 17 2) (S1.1 17 3) (S1.2.2.1 18) (S1.2.2.1 19) ∧ fr2 17 18 19 S S1 := by
  obtain ⟨hk, c0, c1, c2, c3, cB⟩ := id h
  obtain ⟨hk', d0, d1, d2, d3, dB⟩ := id h'
  have e1 := sizes17 S
  have e2 := sizes2 S
  rw [c0, c1, c2, szN] at e1
  rw [d0, d1, d2, szN] at e2
  obtain ⟨k1, k2, k3, k4, k5, k6⟩ := id hk
  obtain ⟨l1, l2, l3, l4, l5, l6⟩ := id hk'
  have e3 : nI (100 * V + 10 * K + T) = nI (100 * V' + 10 * K' + T') ↔ 100 * V + 10 * K + T = 100 * V' + 10 * K' + T' := nI_eq (by omega) (by omega)
  unfold J_X0_copyFrom
  rw [wr_17, e1, bs, e2, bs]
  by_cases h5 : 100 * V + 10 * K + T = 100 * V' + 10 * K' + T'
  · rw [if_pos (e3.mpr h5)]
    have g1 : V = V' := by omega
    have g2 : K = K' := by omega
    have g3 : T = T' := by omega
    subst g1 g2 g3
    exact ⟨S, rfl, h, fun _ _ _ => rfl, rfl, fun _ _ _ => rfl, rfl⟩
  · rw [if_neg (fun q => h5 (e3.mp q)), wf_2_0, bs, wf_2_1, bs, wf_2_2, bs, d0, d1, d2]
    obtain ⟨B', N', r1, r2⟩ := become17 (S := S) hk'
    rw [r2, bs]
    refine ⟨_, rfl, ⟨hk', rfl, rfl, rfl, rfl, r1⟩, fun a k ha => ?_, rfl, fun a h1 h2 => ?_, rfl⟩
    · simp only [ra_1, ri_i, ha, if_false]
    · simp only [ra_a, ri_2, h1, h2, if_false]
theorem stCopy16 {S : rSt} {V K T V' K' T' n1 n2 n3 : Nat} (h : RSz V K T (S.1 17 0) (S.1 17 1) (S.1 17 2) (S.1 17 3) (S.2.2.1 18) (S.2.2.1 19)) (h' : RSz V' K' T' (S.1 2 0) (S.1 2 1) (S.1 2 2) (S.1 2 3) (S.2.2.1 3) (S.2.2.1 4)) (a1 : S.1 7 2 = nI n1) (a2 : S.1 10 2 = nI n2) (a3 : S.1 13 2 = nI n3) (l1 : n1 ≤ 4) (l2 : n2 ≤ 8) (l3 : n3 ≤ 8) : ∃ S1, J_X6_copyFrom 16 1 (Wd S) = some (Wd S1) ∧ RSz V' K' T' (S1.1 17 0) (S1.1 17 1) (S1.1 17 2) (S1.1 17 3) (S1.2.2.1 18) (S1.2.2.1 19) ∧ ((∀ j, j < 56 → S1.2.2.1 21 j = S.2.2.1 6 j) ∧ S1.2.1 20 2 = S.2.1 5 2 ∧ S1.2.1 20 3 = S.2.1 5 3) ∧ (S1.1 22 2 = nI n1 ∧ ∀ j, j < n1 → S1.2.2.1 23 j = S.2.2.1 8 j ∧ S1.2.2.1 24 j = S.2.2.1 9 j) ∧ (S1.1 25 2 = nI n2 ∧ ∀ j, j < n2 → S1.2.2.1 26 j = S.2.2.1 11 j ∧ S1.2.2.1 27 j = S.2.2.1 12 j) ∧ (S1.1 28 2 = nI n3 ∧ ∀ j, j < n3 → S1.2.2.1 29 j = S.2.2.1 14 j ∧ S1.2.2.1 30 j = S.2.2.1 15 j) ∧ (∀ a k, a ≠ 17 → a ≠ 22 → a ≠ 25 → a ≠ 28 → S1.1 a k = S.1 a k) ∧ (∀ a k, a ≠ 20 → S1.2.1 a k = S.2.1 a k) ∧ (∀ a, a ≠ 18 → a ≠ 19 → a ≠ 21 → a ≠ 23 → a ≠ 24 → a ≠ 26 → a ≠ 27 → a ≠ 29 → a ≠ 30 → S1.2.2.1 a = S.2.2.1 a) ∧ S1.2.2.2 = S.2.2.2 := by
  obtain ⟨S1, e1, e2, e3, e4, e5, e6⟩ := blk17 h h'
  have c1 := copyFrom20_5 S1
  have x2 : ∃ S2, S2 = sl (sl (sa S1 21 (va_cpy (S1.2.2.1 6) (S1.2.2.1 21) 0 0 56)) 20 2 (S1.2.1 5 2)) 20 3 (S1.2.1 5 3) := ⟨_, rfl⟩
  obtain ⟨S2, hS2⟩ := x2
  rw [← hS2] at c1
  have b1 : S2.1 7 2 = nI n1 := by rw [hS2]; show S1.1 7 2 = _; rw [e3 _ _ (by decide)]; exact a1
  have b2 : S2.1 10 2 = nI n2 := by rw [hS2]; show S1.1 10 2 = _; rw [e3 _ _ (by decide)]; exact a2
  have b3 : S2.1 13 2 = nI n3 := by rw [hS2]; show S1.1 13 2 = _; rw [e3 _ _ (by decide)]; exact a3
  have c2 := copyRow22 b1 l1
  have x3 : ∃ S3, S3 = si (sa (sa S2 23 (cpyR (S2.2.2.1 23) (S2.2.2.1 8) n1)) 24 (cpyR (S2.2.2.1 24) (S2.2.2.1 9) n1)) 22 2 (nI n1) := ⟨_, rfl⟩
  obtain ⟨S3, hS3⟩ := x3
  rw [← hS3] at c2
  have b4 : S3.1 10 2 = nI n2 := by rw [hS3]; exact b2
  have b5 : S3.1 13 2 = nI n3 := by rw [hS3]; exact b3
  have c3 := copyRow25 b4 l2
  have x4 : ∃ S4, S4 = si (sa (sa S3 26 (cpyR (S3.2.2.1 26) (S3.2.2.1 11) n2)) 27 (cpyR (S3.2.2.1 27) (S3.2.2.1 12) n2)) 25 2 (nI n2) := ⟨_, rfl⟩
  obtain ⟨S4, hS4⟩ := x4
  rw [← hS4] at c3
  have b6 : S4.1 13 2 = nI n3 := by rw [hS4]; exact b5
  have c4 := copyRow28 b6 l3
  have run : J_X6_copyFrom 16 1 (Wd S) = some (Wd (si (sa (sa S4 29 (cpyR (S4.2.2.1 29) (S4.2.2.1 14) n3)) 30 (cpyR (S4.2.2.1 30) (S4.2.2.1 15) n3)) 28 2 (nI n3))) := by
    unfold J_X6_copyFrom
    rw [wr_16, wf_16_0, bs, wf_1_0, bs, e1, bs, wf_16_1, bs, wf_1_1, bs, c1, bs, wf_16_2, bs, wf_1_2, bs, c2, bs, wf_16_3, bs, wf_1_3, bs, c3, bs, wf_16_4, bs, wf_1_4, bs, c4, bs]
  have rd : ∀ a, a ≠ 21 → a ≠ 23 → a ≠ 24 → a ≠ 26 → a ≠ 27 → a ≠ 29 → a ≠ 30 → (si (sa (sa S4 29 (cpyR (S4.2.2.1 29) (S4.2.2.1 14) n3)) 30 (cpyR (S4.2.2.1 30) (S4.2.2.1 15) n3)) 28 2 (nI n3)).2.2.1 a = S1.2.2.1 a := by
    intro a h3 h4 h5 h6 h7 h8 h9
    rw [hS4, hS3, hS2]
    simp only [ra_a, ri_2, rl_3, h3, h4, h5, h6, h7, h8, h9, if_false]
  have o8 : S4.2.2.1 14 = S.2.2.1 14 := by rw [hS4, hS3, hS2]; show S1.2.2.1 14 = _; exact e5 _ (by decide) (by decide)
  have o9 : S4.2.2.1 15 = S.2.2.1 15 := by rw [hS4, hS3, hS2]; show S1.2.2.1 15 = _; exact e5 _ (by decide) (by decide)
  have o5 : S3.2.2.1 11 = S.2.2.1 11 := by rw [hS3, hS2]; show S1.2.2.1 11 = _; exact e5 _ (by decide) (by decide)
  have o6 : S3.2.2.1 12 = S.2.2.1 12 := by rw [hS3, hS2]; show S1.2.2.1 12 = _; exact e5 _ (by decide) (by decide)
  have o2 : S2.2.2.1 8 = S.2.2.1 8 := by rw [hS2]; show S1.2.2.1 8 = _; exact e5 _ (by decide) (by decide)
  have o3 : S2.2.2.1 9 = S.2.2.1 9 := by rw [hS2]; show S1.2.2.1 9 = _; exact e5 _ (by decide) (by decide)
  refine ⟨_, run, ?_, ⟨fun j hj => ?_, ?_, ?_⟩, ⟨?_, fun j hj => ⟨?_, ?_⟩⟩, ⟨?_, fun j hj => ⟨?_, ?_⟩⟩, ⟨rfl, fun j hj => ⟨?_, ?_⟩⟩, fun a k h1 h2 h3 h4 => ?_, fun a k h1 => ?_, fun a h1 h2 h3 h4 h5 h6 h7 h8 h9 => ?_, ?_⟩
  · rw [rd 18 (by decide) (by decide) (by decide) (by decide) (by decide) (by decide) (by decide), rd 19 (by decide) (by decide) (by decide) (by decide) (by decide) (by decide) (by decide)]
    rw [hS4, hS3, hS2]
    exact e2
  · rw [hS4, hS3, hS2]
    show va_cpy (S1.2.2.1 6) (S1.2.2.1 21) 0 0 56 j = _
    rw [cpy_in hj, e5 _ (by decide) (by decide)]
  · rw [hS4, hS3, hS2]
    show S1.2.1 5 2 = _
    rw [e4]
  · rw [hS4, hS3, hS2]
    show S1.2.1 5 3 = _
    rw [e4]
  · rw [hS4, hS3]
    rfl
  · show S4.2.2.1 23 j = _
    rw [hS4]
    show S3.2.2.1 23 j = _
    rw [hS3]
    show cpyR (S2.2.2.1 23) (S2.2.2.1 8) n1 j = _
    unfold cpyR
    rw [if_pos hj, o2]
  · show S4.2.2.1 24 j = _
    rw [hS4]
    show S3.2.2.1 24 j = _
    rw [hS3]
    show cpyR (S2.2.2.1 24) (S2.2.2.1 9) n1 j = _
    unfold cpyR
    rw [if_pos hj, o3]
  · rw [hS4]
    rfl
  · show S4.2.2.1 26 j = _
    rw [hS4]
    show cpyR (S3.2.2.1 26) (S3.2.2.1 11) n2 j = _
    unfold cpyR
    rw [if_pos hj, o5]
  · show S4.2.2.1 27 j = _
    rw [hS4]
    show cpyR (S3.2.2.1 27) (S3.2.2.1 12) n2 j = _
    unfold cpyR
    rw [if_pos hj, o6]
  · show cpyR (S4.2.2.1 29) (S4.2.2.1 14) n3 j = _
    unfold cpyR
    rw [if_pos hj, o8]
  · show cpyR (S4.2.2.1 30) (S4.2.2.1 15) n3 j = _
    unfold cpyR
    rw [if_pos hj, o9]
  · rw [hS4, hS3, hS2]
    simp only [ra_1, rl_1, ri_i, h2, h3, h4, if_false]
    exact e3 a k h1
  · rw [hS4, hS3, hS2]
    simp only [ra_2, ri_2, rl_l, h1, if_false]
    rw [e4]
  · rw [rd a h3 h4 h5 h6 h7 h8 h9]
    exact e5 a h1 h2
  · rw [hS4, hS3, hS2]
    exact e6
theorem stCopy1 {S : rSt} {V K T V' K' T' n1 n2 n3 : Nat} (h : RSz V K T (S.1 2 0) (S.1 2 1) (S.1 2 2) (S.1 2 3) (S.2.2.1 3) (S.2.2.1 4)) (h' : RSz V' K' T' (S.1 17 0) (S.1 17 1) (S.1 17 2) (S.1 17 3) (S.2.2.1 18) (S.2.2.1 19)) (a1 : S.1 22 2 = nI n1) (a2 : S.1 25 2 = nI n2) (a3 : S.1 28 2 = nI n3) (l1 : n1 ≤ 4) (l2 : n2 ≤ 8) (l3 : n3 ≤ 8) : ∃ S1, J_X6_copyFrom 1 16 (Wd S) = some (Wd S1) ∧ RSz V' K' T' (S1.1 2 0) (S1.1 2 1) (S1.1 2 2) (S1.1 2 3) (S1.2.2.1 3) (S1.2.2.1 4) ∧ ((∀ j, j < 56 → S1.2.2.1 6 j = S.2.2.1 21 j) ∧ S1.2.1 5 2 = S.2.1 20 2 ∧ S1.2.1 5 3 = S.2.1 20 3) ∧ (S1.1 7 2 = nI n1 ∧ ∀ j, j < n1 → S1.2.2.1 8 j = S.2.2.1 23 j ∧ S1.2.2.1 9 j = S.2.2.1 24 j) ∧ (S1.1 10 2 = nI n2 ∧ ∀ j, j < n2 → S1.2.2.1 11 j = S.2.2.1 26 j ∧ S1.2.2.1 12 j = S.2.2.1 27 j) ∧ (S1.1 13 2 = nI n3 ∧ ∀ j, j < n3 → S1.2.2.1 14 j = S.2.2.1 29 j ∧ S1.2.2.1 15 j = S.2.2.1 30 j) ∧ (∀ a k, a ≠ 2 → a ≠ 7 → a ≠ 10 → a ≠ 13 → S1.1 a k = S.1 a k) ∧ (∀ a k, a ≠ 5 → S1.2.1 a k = S.2.1 a k) ∧ (∀ a, a ≠ 3 → a ≠ 4 → a ≠ 6 → a ≠ 8 → a ≠ 9 → a ≠ 11 → a ≠ 12 → a ≠ 14 → a ≠ 15 → S1.2.2.1 a = S.2.2.1 a) ∧ S1.2.2.2 = S.2.2.2 := by
  obtain ⟨S1, e1, e2, e3, e4, e5, e6⟩ := blk2 h h'
  have c1 := copyFrom5_20 S1
  have x2 : ∃ S2, S2 = sl (sl (sa S1 6 (va_cpy (S1.2.2.1 21) (S1.2.2.1 6) 0 0 56)) 5 2 (S1.2.1 20 2)) 5 3 (S1.2.1 20 3) := ⟨_, rfl⟩
  obtain ⟨S2, hS2⟩ := x2
  rw [← hS2] at c1
  have b1 : S2.1 22 2 = nI n1 := by rw [hS2]; show S1.1 22 2 = _; rw [e3 _ _ (by decide)]; exact a1
  have b2 : S2.1 25 2 = nI n2 := by rw [hS2]; show S1.1 25 2 = _; rw [e3 _ _ (by decide)]; exact a2
  have b3 : S2.1 28 2 = nI n3 := by rw [hS2]; show S1.1 28 2 = _; rw [e3 _ _ (by decide)]; exact a3
  have c2 := copyRow7 b1 l1
  have x3 : ∃ S3, S3 = si (sa (sa S2 8 (cpyR (S2.2.2.1 8) (S2.2.2.1 23) n1)) 9 (cpyR (S2.2.2.1 9) (S2.2.2.1 24) n1)) 7 2 (nI n1) := ⟨_, rfl⟩
  obtain ⟨S3, hS3⟩ := x3
  rw [← hS3] at c2
  have b4 : S3.1 25 2 = nI n2 := by rw [hS3]; exact b2
  have b5 : S3.1 28 2 = nI n3 := by rw [hS3]; exact b3
  have c3 := copyRow10 b4 l2
  have x4 : ∃ S4, S4 = si (sa (sa S3 11 (cpyR (S3.2.2.1 11) (S3.2.2.1 26) n2)) 12 (cpyR (S3.2.2.1 12) (S3.2.2.1 27) n2)) 10 2 (nI n2) := ⟨_, rfl⟩
  obtain ⟨S4, hS4⟩ := x4
  rw [← hS4] at c3
  have b6 : S4.1 28 2 = nI n3 := by rw [hS4]; exact b5
  have c4 := copyRow13 b6 l3
  have run : J_X6_copyFrom 1 16 (Wd S) = some (Wd (si (sa (sa S4 14 (cpyR (S4.2.2.1 14) (S4.2.2.1 29) n3)) 15 (cpyR (S4.2.2.1 15) (S4.2.2.1 30) n3)) 13 2 (nI n3))) := by
    unfold J_X6_copyFrom
    rw [wr_1, wf_1_0, bs, wf_16_0, bs, e1, bs, wf_1_1, bs, wf_16_1, bs, c1, bs, wf_1_2, bs, wf_16_2, bs, c2, bs, wf_1_3, bs, wf_16_3, bs, c3, bs, wf_1_4, bs, wf_16_4, bs, c4, bs]
  have rd : ∀ a, a ≠ 6 → a ≠ 8 → a ≠ 9 → a ≠ 11 → a ≠ 12 → a ≠ 14 → a ≠ 15 → (si (sa (sa S4 14 (cpyR (S4.2.2.1 14) (S4.2.2.1 29) n3)) 15 (cpyR (S4.2.2.1 15) (S4.2.2.1 30) n3)) 13 2 (nI n3)).2.2.1 a = S1.2.2.1 a := by
    intro a h3 h4 h5 h6 h7 h8 h9
    rw [hS4, hS3, hS2]
    simp only [ra_a, ri_2, rl_3, h3, h4, h5, h6, h7, h8, h9, if_false]
  have o8 : S4.2.2.1 29 = S.2.2.1 29 := by rw [hS4, hS3, hS2]; show S1.2.2.1 29 = _; exact e5 _ (by decide) (by decide)
  have o9 : S4.2.2.1 30 = S.2.2.1 30 := by rw [hS4, hS3, hS2]; show S1.2.2.1 30 = _; exact e5 _ (by decide) (by decide)
  have o5 : S3.2.2.1 26 = S.2.2.1 26 := by rw [hS3, hS2]; show S1.2.2.1 26 = _; exact e5 _ (by decide) (by decide)
  have o6 : S3.2.2.1 27 = S.2.2.1 27 := by rw [hS3, hS2]; show S1.2.2.1 27 = _; exact e5 _ (by decide) (by decide)
  have o2 : S2.2.2.1 23 = S.2.2.1 23 := by rw [hS2]; show S1.2.2.1 23 = _; exact e5 _ (by decide) (by decide)
  have o3 : S2.2.2.1 24 = S.2.2.1 24 := by rw [hS2]; show S1.2.2.1 24 = _; exact e5 _ (by decide) (by decide)
  refine ⟨_, run, ?_, ⟨fun j hj => ?_, ?_, ?_⟩, ⟨?_, fun j hj => ⟨?_, ?_⟩⟩, ⟨?_, fun j hj => ⟨?_, ?_⟩⟩, ⟨rfl, fun j hj => ⟨?_, ?_⟩⟩, fun a k h1 h2 h3 h4 => ?_, fun a k h1 => ?_, fun a h1 h2 h3 h4 h5 h6 h7 h8 h9 => ?_, ?_⟩
  · rw [rd 3 (by decide) (by decide) (by decide) (by decide) (by decide) (by decide) (by decide), rd 4 (by decide) (by decide) (by decide) (by decide) (by decide) (by decide) (by decide)]
    rw [hS4, hS3, hS2]
    exact e2
  · rw [hS4, hS3, hS2]
    show va_cpy (S1.2.2.1 21) (S1.2.2.1 6) 0 0 56 j = _
    rw [cpy_in hj, e5 _ (by decide) (by decide)]
  · rw [hS4, hS3, hS2]
    show S1.2.1 20 2 = _
    rw [e4]
  · rw [hS4, hS3, hS2]
    show S1.2.1 20 3 = _
    rw [e4]
  · rw [hS4, hS3]
    rfl
  · show S4.2.2.1 8 j = _
    rw [hS4]
    show S3.2.2.1 8 j = _
    rw [hS3]
    show cpyR (S2.2.2.1 8) (S2.2.2.1 23) n1 j = _
    unfold cpyR
    rw [if_pos hj, o2]
  · show S4.2.2.1 9 j = _
    rw [hS4]
    show S3.2.2.1 9 j = _
    rw [hS3]
    show cpyR (S2.2.2.1 9) (S2.2.2.1 24) n1 j = _
    unfold cpyR
    rw [if_pos hj, o3]
  · rw [hS4]
    rfl
  · show S4.2.2.1 11 j = _
    rw [hS4]
    show cpyR (S3.2.2.1 11) (S3.2.2.1 26) n2 j = _
    unfold cpyR
    rw [if_pos hj, o5]
  · show S4.2.2.1 12 j = _
    rw [hS4]
    show cpyR (S3.2.2.1 12) (S3.2.2.1 27) n2 j = _
    unfold cpyR
    rw [if_pos hj, o6]
  · show cpyR (S4.2.2.1 14) (S4.2.2.1 29) n3 j = _
    unfold cpyR
    rw [if_pos hj, o8]
  · show cpyR (S4.2.2.1 15) (S4.2.2.1 30) n3 j = _
    unfold cpyR
    rw [if_pos hj, o9]
  · rw [hS4, hS3, hS2]
    simp only [ra_1, rl_1, ri_i, h2, h3, h4, if_false]
    exact e3 a k h1
  · rw [hS4, hS3, hS2]
    simp only [ra_2, ri_2, rl_l, h1, if_false]
    rw [e4]
  · rw [rd a h3 h4 h5 h6 h7 h8 h9]
    exact e5 a h1 h2
  · rw [hS4, hS3, hS2]
    exact e6

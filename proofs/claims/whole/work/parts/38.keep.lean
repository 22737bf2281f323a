/-! THE MODEL'S IMAGE -/
def KT (M : rSt) (g : Nat → Int32) : Prop := (g 0 = M.1 60 0 ∧ g 1 = M.1 60 1 ∧ g 2 = M.1 60 2 ∧ g 3 = M.1 60 11 ∧ g 4 = M.1 60 14 ∧ g 5 = M.1 60 17) ∧ (∀ j, j < 4 → g (6 + j) = M.2.2.1 66 j ∧ g (10 + j) = M.2.2.1 67 j) ∧ (∀ j, j < 8 → g (14 + j) = M.2.2.1 68 j ∧ g (22 + j) = M.2.2.1 69 j ∧ g (30 + j) = M.2.2.1 70 j ∧ g (38 + j) = M.2.2.1 71 j) ∧ ∀ j, j < 56 → g (46 + j) = M.2.2.1 63 j ∧ g (102 + j) = M.2.2.1 64 j ∧ g (158 + j) = M.2.2.1 65 j
theorem ad_n (c j : Nat) : Int32.ofNat c + nI j = nI (c + j) := nI_add c j
def k6 (M : rSt) (g : Nat → Int32) : Nat → Int32 := upd (upd (upd (upd (upd (upd g 0 (M.1 60 0)) 1 (M.1 60 1)) 2 (M.1 60 2)) 3 (M.1 60 11)) 4 (M.1 60 14)) 5 (M.1 60 17)
def kF1 (M : rSt) (j : Nat) (g : Nat → Int32) : Nat → Int32 := upd (upd g (6 + j) (M.2.2.1 66 j)) (10 + j) (M.2.2.1 67 j)
def kF2 (M : rSt) (j : Nat) (g : Nat → Int32) : Nat → Int32 := upd (upd (upd (upd g (14 + j) (M.2.2.1 68 j)) (22 + j) (M.2.2.1 69 j)) (30 + j) (M.2.2.1 70 j)) (38 + j) (M.2.2.1 71 j)
def kF3 (M : rSt) (j : Nat) (g : Nat → Int32) : Nat → Int32 := upd (upd (upd g (46 + j) (M.2.2.1 63 j)) (102 + j) (M.2.2.1 64 j)) (158 + j) (M.2.2.1 65 j)
theorem KT_ok (M : rSt) (g : Nat → Int32) : KT M (rF (kF3 M) 56 0 (rF (kF2 M) 8 0 (rF (kF1 M) 4 0 (k6 M g)))) := by
  have h0 : (k6 M g) 0 = M.1 60 0 ∧ (k6 M g) 1 = M.1 60 1 ∧ (k6 M g) 2 = M.1 60 2 ∧ (k6 M g) 3 = M.1 60 11 ∧ (k6 M g) 4 = M.1 60 14 ∧ (k6 M g) 5 = M.1 60 17 := ⟨rfl, rfl, rfl, rfl, rfl, rfl⟩
  have h1 := rF_inv (kF1 M) (fun i s => i ≤ 4 → (∀ q, q < 6 → s q = k6 M g q) ∧ ∀ j, j < i → s (6 + j) = M.2.2.1 66 j ∧ s (10 + j) = M.2.2.1 67 j) 4 0 (k6 M g) (fun _ => ⟨fun _ _ => rfl, fun j hj => absurd hj (Nat.not_lt_zero j)⟩) (fun i s _ hi hI hi4 => by
    obtain ⟨i1, i2⟩ := hI (by omega)
    unfold kF1
    refine ⟨fun q hq => ?_, fun j hj => ?_⟩
    · rw [up_n (by omega), up_n (by omega)]
      exact i1 q hq
    · by_cases h : j = i
      · subst h
        rw [up_s, up_n (by omega), up_s]
        exact ⟨rfl, rfl⟩
      · rw [up_n (by omega), up_n (by omega), up_n (by omega), up_n (by omega)]
        exact i2 j (by omega))
  generalize rF (kF1 M) 4 0 (k6 M g) = g1 at h1 ⊢
  obtain ⟨a1, a2⟩ := h1 (Nat.le_refl _)
  have h2 := rF_inv (kF2 M) (fun i s => i ≤ 8 → (∀ q, q < 14 → s q = g1 q) ∧ ∀ j, j < i → s (14 + j) = M.2.2.1 68 j ∧ s (22 + j) = M.2.2.1 69 j ∧ s (30 + j) = M.2.2.1 70 j ∧ s (38 + j) = M.2.2.1 71 j) 8 0 g1 (fun _ => ⟨fun _ _ => rfl, fun j hj => absurd hj (Nat.not_lt_zero j)⟩) (fun i s _ hi hI hi4 => by
    obtain ⟨i1, i2⟩ := hI (by omega)
    unfold kF2
    refine ⟨fun q hq => ?_, fun j hj => ?_⟩
    · rw [up_n (by omega), up_n (by omega), up_n (by omega), up_n (by omega)]
      exact i1 q hq
    · simp only [up_a]
      by_cases h : j = i
      · subst h
        refine ⟨?_, ?_, ?_, ?_⟩
        · rw [if_neg (by omega), if_neg (by omega), if_neg (by omega), if_pos rfl]
        · rw [if_neg (by omega), if_neg (by omega), if_pos rfl]
        · rw [if_neg (by omega), if_pos rfl]
        · rw [if_pos rfl]
      · obtain ⟨j1, j2, j3, j4⟩ := i2 j (by omega)
        refine ⟨?_, ?_, ?_, ?_⟩
        · rw [if_neg (by omega), if_neg (by omega), if_neg (by omega), if_neg (by omega)]; exact j1
        · rw [if_neg (by omega), if_neg (by omega), if_neg (by omega), if_neg (by omega)]; exact j2
        · rw [if_neg (by omega), if_neg (by omega), if_neg (by omega), if_neg (by omega)]; exact j3
        · rw [if_neg (by omega), if_neg (by omega), if_neg (by omega), if_neg (by omega)]; exact j4)
  generalize rF (kF2 M) 8 0 g1 = g2 at h2 ⊢
  obtain ⟨b1, b2⟩ := h2 (Nat.le_refl _)
  have h3 := rF_inv (kF3 M) (fun i s => i ≤ 56 → (∀ q, q < 46 → s q = g2 q) ∧ ∀ j, j < i → s (46 + j) = M.2.2.1 63 j ∧ s (102 + j) = M.2.2.1 64 j ∧ s (158 + j) = M.2.2.1 65 j) 56 0 g2 (fun _ => ⟨fun _ _ => rfl, fun j hj => absurd hj (Nat.not_lt_zero j)⟩) (fun i s _ hi hI hi4 => by
    obtain ⟨i1, i2⟩ := hI (by omega)
    unfold kF3
    refine ⟨fun q hq => ?_, fun j hj => ?_⟩
    · rw [up_n (by omega), up_n (by omega), up_n (by omega)]
      exact i1 q hq
    · simp only [up_a]
      by_cases h : j = i
      · subst h
        refine ⟨?_, ?_, ?_⟩
        · rw [if_neg (by omega), if_neg (by omega), if_pos rfl]
        · rw [if_neg (by omega), if_pos rfl]
        · rw [if_pos rfl]
      · obtain ⟨j1, j2, j3⟩ := i2 j (by omega)
        refine ⟨?_, ?_, ?_⟩
        · rw [if_neg (by omega), if_neg (by omega), if_neg (by omega)]; exact j1
        · rw [if_neg (by omega), if_neg (by omega), if_neg (by omega)]; exact j2
        · rw [if_neg (by omega), if_neg (by omega), if_neg (by omega)]; exact j3)
  generalize rF (kF3 M) 56 0 g2 = g3 at h3 ⊢
  obtain ⟨c1, c2⟩ := h3 (Nat.le_refl _)
  refine ⟨?_, fun j hj => ?_, fun j hj => ?_, c2⟩
  · rw [c1 0 (by decide), c1 1 (by decide), c1 2 (by decide), c1 3 (by decide), c1 4 (by decide), c1 5 (by decide), b1 0 (by decide), b1 1 (by decide), b1 2 (by decide), b1 3 (by decide), b1 4 (by decide), b1 5 (by decide), a1 0 (by decide), a1 1 (by decide), a1 2 (by decide), a1 3 (by decide), a1 4 (by decide), a1 5 (by decide)]
    exact h0
  · rw [c1 _ (by omega), c1 _ (by omega), b1 _ (by omega), b1 _ (by omega)]
    exact a2 j hj
  · rw [c1 _ (by omega), c1 _ (by omega), c1 _ (by omega), c1 _ (by omega)]
    exact b2 j hj
theorem lit_n : (0 : Int32) = nI 0 ∧ (1 : Int32) = nI 1 ∧ (2 : Int32) = nI 2 ∧ (3 : Int32) = nI 3 ∧ (4 : Int32) = nI 4 ∧ (5 : Int32) = nI 5 := by decide
theorem lit_a (j : Nat) : (6 : Int32) + nI j = nI (6 + j) ∧ (10 : Int32) + nI j = nI (10 + j) ∧ (14 : Int32) + nI j = nI (14 + j) ∧ (22 : Int32) + nI j = nI (22 + j) ∧ (30 : Int32) + nI j = nI (30 + j) ∧ (38 : Int32) + nI j = nI (38 + j) ∧ (46 : Int32) + nI j = nI (46 + j) ∧ (102 : Int32) + nI j = nI (102 + j) ∧ (158 : Int32) + nI j = nI (158 + j) := ⟨ad_n 6 j, ad_n 10 j, ad_n 14 j, ad_n 22 j, ad_n 30 j, ad_n 38 j, ad_n 46 j, ad_n 102 j, ad_n 158 j⟩
theorem keepTo78 (M : rSt) : ∃ g, J_X10_keepTo 60 78 (Wd M) = some (Wd (sa M 78 g)) ∧ KT M g := by
  refine ⟨_, ?_, KT_ok M (M.2.2.1 78)⟩
  have rd : ∀ g : Nat → Int32, (sa M 78 g).2.2.1 78 = g := fun g => by rw [ra_a, if_pos rfl]
  have l1 := fun K' => loopS (fun f g i => J_X10_keepTo_44 60 78 K' f (nI i) (Wd (sa M 78 g))) (fun g => K' (Wd (sa M 78 g))) (kF1 M) 4 (fun f g => by
      rw [J_X10_keepTo_44, if_pos (by decide)]) (fun f g i hi => by
      have e1 : ¬ (4 : Int32) ≤ nI i := nI_ge (b := 4) hi (by decide)
      obtain ⟨a1, a2, -⟩ := lit_a i
      rw [J_X10_keepTo_44, if_neg e1]
      unfold kF1
      simp (disch := omega) only [wf_60_9, bs, wa_66, a1, wt_78, rd, sa_ss, wf_60_10, wa_67, a2, rLet_eq, nI_1, ra_a, Nat.reduceEqDiff, reduceIte]) 4 2000
  have l2 := fun K' => loopS (fun f g i => J_X10_keepTo_81 60 78 K' f (nI i) (Wd (sa M 78 g))) (fun g => K' (Wd (sa M 78 g))) (kF2 M) 8 (fun f g => by
      rw [J_X10_keepTo_81, if_pos (by decide)]) (fun f g i hi => by
      have e1 : ¬ (8 : Int32) ≤ nI i := nI_ge (b := 8) hi (by decide)
      obtain ⟨-, -, a1, a2, a3, a4, -⟩ := lit_a i
      rw [J_X10_keepTo_81, if_neg e1]
      unfold kF2
      simp (disch := omega) only [wf_60_12, bs, wa_68, a1, wt_78, rd, sa_ss, wf_60_13, wa_69, a2, wf_60_15, wa_70, a3, wf_60_16, wa_71, a4, rLet_eq, nI_1, ra_a, Nat.reduceEqDiff, reduceIte]) 8 2000
  have l3 := loopS (fun f g i => J_X10_keepTo_143 60 78 f (nI i) (Wd (sa M 78 g))) (fun g => some (Wd (sa M 78 g))) (kF3 M) 56 (fun f g => by
      rw [J_X10_keepTo_143, if_pos (by decide)]) (fun f g i hi => by
      have e1 : ¬ (56 : Int32) ≤ nI i := nI_ge (b := 56) hi (by decide)
      obtain ⟨-, -, -, -, -, -, a1, a2, a3⟩ := lit_a i
      rw [J_X10_keepTo_143, if_neg e1]
      unfold kF3
      simp (disch := omega) only [wf_60_6, bs, wa_63, a1, wt_78, rd, sa_ss, wf_60_7, wa_64, a2, wf_60_8, wa_65, a3, rLet_eq, nI_1, ra_a, Nat.reduceEqDiff, reduceIte]) 56 2000
  have k1 := fun K' => l1 K' (k6 M (M.2.2.1 78)) 0 (by omega) (by omega)
  have k2 := fun K' => l2 K' (rF (kF1 M) 4 0 (k6 M (M.2.2.1 78))) 0 (by omega) (by omega)
  have k3 := l3 (rF (kF2 M) 8 0 (rF (kF1 M) 4 0 (k6 M (M.2.2.1 78)))) 0 (by omega) (by omega)
  simp only [nI_0] at k1 k2 k3
  have s0 : ∀ (M : rSt) (j : Nat) (x : Int32), j < 220 → sI (Wd M) 78 (nI j) x = some (Wd (sa M 78 (upd (M.2.2.1 78) j x))) := fun M j x hj => wt_78 hj
  have p0 := s0 M 0 (M.1 60 0) (by decide)
  have p1 := s0 (sa M 78 (upd (M.2.2.1 78) 0 (M.1 60 0))) 1 (M.1 60 1) (by decide)
  have p2 := s0 (sa M 78 (upd (upd (M.2.2.1 78) 0 (M.1 60 0)) 1 (M.1 60 1))) 2 (M.1 60 2) (by decide)
  have p3 := s0 (sa M 78 (upd (upd (upd (M.2.2.1 78) 0 (M.1 60 0)) 1 (M.1 60 1)) 2 (M.1 60 2))) 3 (M.1 60 11) (by decide)
  have p4 := s0 (sa M 78 (upd (upd (upd (upd (M.2.2.1 78) 0 (M.1 60 0)) 1 (M.1 60 1)) 2 (M.1 60 2)) 3 (M.1 60 11))) 4 (M.1 60 14) (by decide)
  have p5 := s0 (sa M 78 (upd (upd (upd (upd (upd (M.2.2.1 78) 0 (M.1 60 0)) 1 (M.1 60 1)) 2 (M.1 60 2)) 3 (M.1 60 11)) 4 (M.1 60 14))) 5 (M.1 60 17) (by decide)
  rw [← lit_n.1] at p0
  rw [← lit_n.2.1, rd, sa_ss] at p1
  rw [← lit_n.2.2.1, rd, sa_ss] at p2
  rw [← lit_n.2.2.2.1, rd, sa_ss] at p3
  rw [← lit_n.2.2.2.2.1, rd, sa_ss] at p4
  rw [← lit_n.2.2.2.2.2, rd, sa_ss] at p5
  unfold J_X10_keepTo
  rw [wr_60, wf_60_0, bs, p0, bs, wf_60_1, bs, ra_1, p1, bs, wf_60_2, bs, ra_1, p2, bs, wf_60_11, bs, ra_1, p3, bs, wf_60_14, bs, ra_1, p4, bs, wf_60_17, bs, ra_1, p5, bs, rLet_eq]
  show J_X10_keepTo_44 60 78 _ 2000 0 (Wd (sa M 78 (k6 M (M.2.2.1 78)))) = _
  rw [k1, rLet_eq, k2, k3]
/-- what comes back -/
theorem again78 {M : rSt} {V K T : Nat} (hk : Ok3 V K T) (g0 : M.2.2.1 78 0 = nI V) (g1 : M.2.2.1 78 1 = nI K) (g2 : M.2.2.1 78 2 = nI T) : ∃ M1, J_X10_again 60 78 (Wd M) = some (Wd M1) ∧ (M1.1 60 0 = nI V ∧ M1.1 60 1 = nI K ∧ M1.1 60 2 = nI T ∧ M1.1 60 3 = nI (MB V K) ∧ IsB V K (M1.2.2.1 61) (M1.2.2.1 62)) ∧ (M1.1 60 11 = M.2.2.1 78 3 ∧ M1.1 60 14 = M.2.2.1 78 4 ∧ M1.1 60 17 = M.2.2.1 78 5) ∧ (∀ j, j < 4 → M1.2.2.1 66 j = M.2.2.1 78 (6 + j) ∧ M1.2.2.1 67 j = M.2.2.1 78 (10 + j)) ∧ (∀ j, j < 8 → M1.2.2.1 68 j = M.2.2.1 78 (14 + j) ∧ M1.2.2.1 69 j = M.2.2.1 78 (22 + j) ∧ M1.2.2.1 70 j = M.2.2.1 78 (30 + j) ∧ M1.2.2.1 71 j = M.2.2.1 78 (38 + j)) ∧ (∀ j, j < 56 → M1.2.2.1 63 j = M.2.2.1 78 (46 + j) ∧ M1.2.2.1 64 j = M.2.2.1 78 (102 + j) ∧ M1.2.2.1 65 j = M.2.2.1 78 (158 + j)) ∧ (∀ k, k ≠ 0 → k ≠ 1 → k ≠ 2 → k ≠ 3 → k ≠ 11 → k ≠ 14 → k ≠ 17 → M1.1 60 k = M.1 60 k) ∧ (∀ a, 72 ≤ a → M1.2.2.1 a = M.2.2.1 a) ∧ M1.2.2.2 = M.2.2.2 ∧ cEq M M1 := by
  have l1 := fun (M : rSt) K' => loopS (fun f (g : (Nat → Int32) × (Nat → Int32)) i => J_X10_again_48 60 78 K' f (nI i) (Wd (sa (sa M 66 g.1) 67 g.2))) (fun g => K' (Wd (sa (sa M 66 g.1) 67 g.2))) (fun j g => (upd g.1 j (M.2.2.1 78 (6 + j)), upd g.2 j (M.2.2.1 78 (10 + j)))) 4 (fun f g => by
      rw [J_X10_again_48, if_pos (by decide)]) (fun f g i hi => by
      have e1 : ¬ (4 : Int32) ≤ nI i := nI_ge (b := 4) hi (by decide)
      obtain ⟨a1, a2, -⟩ := lit_a i
      rw [J_X10_again_48, if_neg e1]
      simp (disch := omega) only [wf_60_9, bs, wt_66, a1, wa_78, wf_60_10, wt_67, a2, rLet_eq, nI_1, Nat.reduceEqDiff, if_true, if_false, reduceIte, ri_i, ri_2, rl_1, rl_l, rl_3, ra_1, ra_2, ra_a, ra_4, rj_1, rj_2, rj_3, rj_j, sa_ss, sj_ss, si_ss, sl_ss, sa_sx, sj_sx, si_x1, si_x2, sl_x1, sl_x2, si_sl, si_sa, si_sj, sl_sa, sl_sj, sa_sj, Nat.reduceAdd]) 4 2000 (M.2.2.1 66, M.2.2.1 67) 0 (by omega) (by omega)
  have l2 := fun (M : rSt) K' => loopS (fun f (g : (Nat → Int32) × (Nat → Int32) × (Nat → Int32) × (Nat → Int32)) i => J_X10_again_85 60 78 K' f (nI i) (Wd (sa (sa (sa (sa M 68 g.1) 69 g.2.1) 70 g.2.2.1) 71 g.2.2.2))) (fun g => K' (Wd (sa (sa (sa (sa M 68 g.1) 69 g.2.1) 70 g.2.2.1) 71 g.2.2.2))) (fun j g => (upd g.1 j (M.2.2.1 78 (14 + j)), (upd g.2.1 j (M.2.2.1 78 (22 + j)), (upd g.2.2.1 j (M.2.2.1 78 (30 + j)), upd g.2.2.2 j (M.2.2.1 78 (38 + j)))))) 8 (fun f g => by
      rw [J_X10_again_85, if_pos (by decide)]) (fun f g i hi => by
      have e1 : ¬ (8 : Int32) ≤ nI i := nI_ge (b := 8) hi (by decide)
      obtain ⟨-, -, a1, a2, a3, a4, -⟩ := lit_a i
      rw [J_X10_again_85, if_neg e1]
      simp (disch := omega) only [wf_60_12, bs, wt_68, a1, wa_78, wf_60_13, wt_69, a2, wf_60_15, wt_70, a3, wf_60_16, wt_71, a4, rLet_eq, nI_1, Nat.reduceEqDiff, if_true, if_false, reduceIte, ri_i, ri_2, rl_1, rl_l, rl_3, ra_1, ra_2, ra_a, ra_4, rj_1, rj_2, rj_3, rj_j, sa_ss, sj_ss, si_ss, sl_ss, sa_sx, sj_sx, si_x1, si_x2, sl_x1, sl_x2, si_sl, si_sa, si_sj, sl_sa, sl_sj, sa_sj, Nat.reduceAdd]) 8 2000 (M.2.2.1 68, M.2.2.1 69, M.2.2.1 70, M.2.2.1 71) 0 (by omega) (by omega)
  have l3 := fun (M : rSt) => loopS (fun f (g : (Nat → Int32) × (Nat → Int32) × (Nat → Int32)) i => J_X10_again_147 60 78 f (nI i) (Wd (sa (sa (sa M 63 g.1) 64 g.2.1) 65 g.2.2))) (fun g => some (Wd (sa (sa (sa M 63 g.1) 64 g.2.1) 65 g.2.2))) (fun j g => (upd g.1 j (M.2.2.1 78 (46 + j)), (upd g.2.1 j (M.2.2.1 78 (102 + j)), upd g.2.2 j (M.2.2.1 78 (158 + j))))) 56 (fun f g => by
      rw [J_X10_again_147, if_pos (by decide)]) (fun f g i hi => by
      have e1 : ¬ (56 : Int32) ≤ nI i := nI_ge (b := 56) hi (by decide)
      obtain ⟨-, -, -, -, -, -, a1, a2, a3⟩ := lit_a i
      rw [J_X10_again_147, if_neg e1]
      simp (disch := omega) only [wf_60_6, bs, wt_63, a1, wa_78, wf_60_7, wt_64, a2, wf_60_8, wt_65, a3, rLet_eq, nI_1, Nat.reduceEqDiff, if_true, if_false, reduceIte, ri_i, ri_2, rl_1, rl_l, rl_3, ra_1, ra_2, ra_a, ra_4, rj_1, rj_2, rj_3, rj_j, sa_ss, sj_ss, si_ss, sl_ss, sa_sx, sj_sx, si_x1, si_x2, sl_x1, sl_x2, si_sl, si_sa, si_sj, sl_sa, sl_sj, sa_sj, Nat.reduceAdd]) 56 2000 (M.2.2.1 63, M.2.2.1 64, M.2.2.1 65) 0 (by omega) (by omega)
  have f1 : ∀ (D g h : Nat → Int32), rF (fun j (g : (Nat → Int32) × (Nat → Int32)) => (upd g.1 j (D (6 + j)), upd g.2 j (D (10 + j)))) 4 0 (g, h) = (fun j => if j < 4 then D (6 + j) else g j, fun j => if j < 4 then D (10 + j) else h j) := by
    intro D g h
    refine (rF_prod (fun j (g : Nat → Int32) => upd g j (D (6 + j))) (fun j (g : Nat → Int32) => upd g j (D (10 + j))) 4 0 g h).trans ?_
    rw [rF_pt (fun j _ => D (6 + j)), rF_pt (fun j _ => D (10 + j))]
    simp only [Nat.zero_le, true_and, Nat.zero_add]
  have f2 : ∀ (D a b c e : Nat → Int32), rF (fun j (g : (Nat → Int32) × (Nat → Int32) × (Nat → Int32) × (Nat → Int32)) => (upd g.1 j (D (14 + j)), (upd g.2.1 j (D (22 + j)), (upd g.2.2.1 j (D (30 + j)), upd g.2.2.2 j (D (38 + j)))))) 8 0 (a, b, c, e) = (fun j => if j < 8 then D (14 + j) else a j, fun j => if j < 8 then D (22 + j) else b j, fun j => if j < 8 then D (30 + j) else c j, fun j => if j < 8 then D (38 + j) else e j) := by
    intro D a b c e
    have q1 := rF_prod (fun j (g : Nat → Int32) => upd g j (D (14 + j))) (fun j (g : (Nat → Int32) × (Nat → Int32) × (Nat → Int32)) => (upd g.1 j (D (22 + j)), (upd g.2.1 j (D (30 + j)), upd g.2.2 j (D (38 + j))))) 8 0 a (b, c, e)
    have q2 := rF_prod (fun j (g : Nat → Int32) => upd g j (D (22 + j))) (fun j (g : (Nat → Int32) × (Nat → Int32)) => (upd g.1 j (D (30 + j)), upd g.2 j (D (38 + j)))) 8 0 b (c, e)
    have q3 := rF_prod (fun j (g : Nat → Int32) => upd g j (D (30 + j))) (fun j (g : Nat → Int32) => upd g j (D (38 + j))) 8 0 c e
    refine q1.trans ?_
    refine (congrArg (Prod.mk _) (q2.trans (congrArg (Prod.mk _) q3))).trans ?_
    rw [rF_pt (fun j _ => D (14 + j)), rF_pt (fun j _ => D (22 + j)), rF_pt (fun j _ => D (30 + j)), rF_pt (fun j _ => D (38 + j))]
    simp only [Nat.zero_le, true_and, Nat.zero_add]
  have f3 : ∀ (D a b c : Nat → Int32), rF (fun j (g : (Nat → Int32) × (Nat → Int32) × (Nat → Int32)) => (upd g.1 j (D (46 + j)), (upd g.2.1 j (D (102 + j)), upd g.2.2 j (D (158 + j))))) 56 0 (a, b, c) = (fun j => if j < 56 then D (46 + j) else a j, fun j => if j < 56 then D (102 + j) else b j, fun j => if j < 56 then D (158 + j) else c j) := by
    intro D a b c
    have q2 := rF_prod (fun j (g : Nat → Int32) => upd g j (D (46 + j))) (fun j (g : (Nat → Int32) × (Nat → Int32)) => (upd g.1 j (D (102 + j)), upd g.2 j (D (158 + j)))) 56 0 a (b, c)
    have q3 := rF_prod (fun j (g : Nat → Int32) => upd g j (D (102 + j))) (fun j (g : Nat → Int32) => upd g j (D (158 + j))) 56 0 b c
    refine q2.trans ?_
    refine (congrArg (Prod.mk _) q3).trans ?_
    rw [rF_pt (fun j _ => D (46 + j)), rF_pt (fun j _ => D (102 + j)), rF_pt (fun j _ => D (158 + j))]
    simp only [Nat.zero_le, true_and, Nat.zero_add]
  have i1 : ∀ M : rSt, sa (sa M 66 (M.2.2.1 66)) 67 (M.2.2.1 67) = M := fun M => by rw [sa_id, sa_id]
  have i2 : ∀ M : rSt, sa (sa (sa (sa M 68 (M.2.2.1 68)) 69 (M.2.2.1 69)) 70 (M.2.2.1 70)) 71 (M.2.2.1 71) = M := fun M => by rw [sa_id, sa_id, sa_id, sa_id]
  have i3 : ∀ M : rSt, sa (sa (sa M 63 (M.2.2.1 63)) 64 (M.2.2.1 64)) 65 (M.2.2.1 65) = M := fun M => by rw [sa_id, sa_id, sa_id]
  simp only [f1, i1, nI_0] at l1
  simp only [f2, i2, nI_0] at l2
  simp only [f3, i3, nI_0] at l3
  obtain ⟨B', N', r1, r2⟩ := lists60 (S := si (si (si M 60 0 (nI V)) 60 1 (nI K)) 60 2 (nI T)) (V := V) (K := K) hk.2.1 (by have := hk.2.2.2.1; omega) rfl rfl
  have ra : ∀ (M : rSt) (j : Nat), j < 220 → aI (Wd M) 78 (nI j) = some (M.2.2.1 78 j) := fun M j hj => wa_78 hj
  have p0 := fun M => ra M 0 (by decide)
  have p1 := fun M => ra M 1 (by decide)
  have p2 := fun M => ra M 2 (by decide)
  have p3 := fun M => ra M 3 (by decide)
  have p4 := fun M => ra M 4 (by decide)
  have p5 := fun M => ra M 5 (by decide)
  simp only [← lit_n.1] at p0
  simp only [← lit_n.2.1] at p1
  simp only [← lit_n.2.2.1] at p2
  simp only [← lit_n.2.2.2.1] at p3
  simp only [← lit_n.2.2.2.2.1] at p4
  simp only [← lit_n.2.2.2.2.2] at p5
  have run : J_X10_again 60 78 (Wd M) = J_X10_again_48 60 78 (fun (w15 : rW) => (J_X10_again_85 60 78 (fun (w16 : rW) => (J_X10_again_147 60 78 2000 0 w16 : Option rW)) 2000 0 w15 : Option rW)) 2000 0 (Wd (si (si (si (sa (sa (si (si (si (si M 60 0 (nI V)) 60 1 (nI K)) 60 2 (nI T)) 60 3 (nI (MB V K))) 61 B') 62 N') 60 11 (M.2.2.1 78 3)) 60 14 (M.2.2.1 78 4)) 60 17 (M.2.2.1 78 5))) := by
    unfold J_X10_again
    rw [wr_60, p0, bs, g0, wp_60_0, bs, p1, bs, ri_2, g1, wp_60_1, bs, p2, bs, ri_2, ri_2, g2, wp_60_2, bs, r2, bs, p3, bs, wp_60_11, bs, p4, bs, wp_60_14, bs, p5, bs, wp_60_17, bs, rLet_eq]
    rfl
  rw [run, l1, l2, l3]
  refine ⟨_, rfl, ⟨rfl, rfl, rfl, rfl, r1⟩, ⟨rfl, rfl, rfl⟩, fun j hj => ?_, fun j hj => ?_, fun j hj => ?_, fun k h0 h1 h2 h3 h4 h5 h6 => ?_, fun a ha => ?_, rfl, ?_⟩
  · refine ⟨if_pos hj, if_pos hj⟩
  · refine ⟨if_pos hj, if_pos hj, if_pos hj, if_pos hj⟩
  · refine ⟨if_pos hj, if_pos hj, if_pos hj⟩
  · simp only [ra_1, ri_i, h0, h1, h2, h3, h4, h5, h6, if_true, if_false]
  · have q : ∀ c, c < 72 → ¬ a = c := fun c hc => by omega
    simp only [ra_a, ri_2, q 61 (by decide), q 62 (by decide), q 63 (by decide), q 64 (by decide), q 65 (by decide), q 66 (by decide), q 67 (by decide), q 68 (by decide), q 69 (by decide), q 70 (by decide), q 71 (by decide), if_false]
  · exact by repeat (first | exact cE_r _ | refine cE_a (by decide) ?_ | refine cE_i (by decide) ?_ | refine cE_j ?_)
theorem keepTo79 (M : rSt) : ∃ g, J_X10_keepTo 60 79 (Wd M) = some (Wd (sa M 79 g)) ∧ KT M g := by
  refine ⟨_, ?_, KT_ok M (M.2.2.1 79)⟩
  have rd : ∀ g : Nat → Int32, (sa M 79 g).2.2.1 79 = g := fun g => by rw [ra_a, if_pos rfl]
  have l1 := fun K' => loopS (fun f g i => J_X10_keepTo_44 60 79 K' f (nI i) (Wd (sa M 79 g))) (fun g => K' (Wd (sa M 79 g))) (kF1 M) 4 (fun f g => by
      rw [J_X10_keepTo_44, if_pos (by decide)]) (fun f g i hi => by
      have e1 : ¬ (4 : Int32) ≤ nI i := nI_ge (b := 4) hi (by decide)
      obtain ⟨a1, a2, -⟩ := lit_a i
      rw [J_X10_keepTo_44, if_neg e1]
      unfold kF1
      simp (disch := omega) only [wf_60_9, bs, wa_66, a1, wt_79, rd, sa_ss, wf_60_10, wa_67, a2, rLet_eq, nI_1, ra_a, Nat.reduceEqDiff, reduceIte]) 4 2000
  have l2 := fun K' => loopS (fun f g i => J_X10_keepTo_81 60 79 K' f (nI i) (Wd (sa M 79 g))) (fun g => K' (Wd (sa M 79 g))) (kF2 M) 8 (fun f g => by
      rw [J_X10_keepTo_81, if_pos (by decide)]) (fun f g i hi => by
      have e1 : ¬ (8 : Int32) ≤ nI i := nI_ge (b := 8) hi (by decide)
      obtain ⟨-, -, a1, a2, a3, a4, -⟩ := lit_a i
      rw [J_X10_keepTo_81, if_neg e1]
      unfold kF2
      simp (disch := omega) only [wf_60_12, bs, wa_68, a1, wt_79, rd, sa_ss, wf_60_13, wa_69, a2, wf_60_15, wa_70, a3, wf_60_16, wa_71, a4, rLet_eq, nI_1, ra_a, Nat.reduceEqDiff, reduceIte]) 8 2000
  have l3 := loopS (fun f g i => J_X10_keepTo_143 60 79 f (nI i) (Wd (sa M 79 g))) (fun g => some (Wd (sa M 79 g))) (kF3 M) 56 (fun f g => by
      rw [J_X10_keepTo_143, if_pos (by decide)]) (fun f g i hi => by
      have e1 : ¬ (56 : Int32) ≤ nI i := nI_ge (b := 56) hi (by decide)
      obtain ⟨-, -, -, -, -, -, a1, a2, a3⟩ := lit_a i
      rw [J_X10_keepTo_143, if_neg e1]
      unfold kF3
      simp (disch := omega) only [wf_60_6, bs, wa_63, a1, wt_79, rd, sa_ss, wf_60_7, wa_64, a2, wf_60_8, wa_65, a3, rLet_eq, nI_1, ra_a, Nat.reduceEqDiff, reduceIte]) 56 2000
  have k1 := fun K' => l1 K' (k6 M (M.2.2.1 79)) 0 (by omega) (by omega)
  have k2 := fun K' => l2 K' (rF (kF1 M) 4 0 (k6 M (M.2.2.1 79))) 0 (by omega) (by omega)
  have k3 := l3 (rF (kF2 M) 8 0 (rF (kF1 M) 4 0 (k6 M (M.2.2.1 79)))) 0 (by omega) (by omega)
  simp only [nI_0] at k1 k2 k3
  have s0 : ∀ (M : rSt) (j : Nat) (x : Int32), j < 220 → sI (Wd M) 79 (nI j) x = some (Wd (sa M 79 (upd (M.2.2.1 79) j x))) := fun M j x hj => wt_79 hj
  have p0 := s0 M 0 (M.1 60 0) (by decide)
  have p1 := s0 (sa M 79 (upd (M.2.2.1 79) 0 (M.1 60 0))) 1 (M.1 60 1) (by decide)
  have p2 := s0 (sa M 79 (upd (upd (M.2.2.1 79) 0 (M.1 60 0)) 1 (M.1 60 1))) 2 (M.1 60 2) (by decide)
  have p3 := s0 (sa M 79 (upd (upd (upd (M.2.2.1 79) 0 (M.1 60 0)) 1 (M.1 60 1)) 2 (M.1 60 2))) 3 (M.1 60 11) (by decide)
  have p4 := s0 (sa M 79 (upd (upd (upd (upd (M.2.2.1 79) 0 (M.1 60 0)) 1 (M.1 60 1)) 2 (M.1 60 2)) 3 (M.1 60 11))) 4 (M.1 60 14) (by decide)
  have p5 := s0 (sa M 79 (upd (upd (upd (upd (upd (M.2.2.1 79) 0 (M.1 60 0)) 1 (M.1 60 1)) 2 (M.1 60 2)) 3 (M.1 60 11)) 4 (M.1 60 14))) 5 (M.1 60 17) (by decide)
  rw [← lit_n.1] at p0
  rw [← lit_n.2.1, rd, sa_ss] at p1
  rw [← lit_n.2.2.1, rd, sa_ss] at p2
  rw [← lit_n.2.2.2.1, rd, sa_ss] at p3
  rw [← lit_n.2.2.2.2.1, rd, sa_ss] at p4
  rw [← lit_n.2.2.2.2.2, rd, sa_ss] at p5
  unfold J_X10_keepTo
  rw [wr_60, wf_60_0, bs, p0, bs, wf_60_1, bs, ra_1, p1, bs, wf_60_2, bs, ra_1, p2, bs, wf_60_11, bs, ra_1, p3, bs, wf_60_14, bs, ra_1, p4, bs, wf_60_17, bs, ra_1, p5, bs, rLet_eq]
  show J_X10_keepTo_44 60 79 _ 2000 0 (Wd (sa M 79 (k6 M (M.2.2.1 79)))) = _
  rw [k1, rLet_eq, k2, k3]
/-- what comes back -/
theorem again79 {M : rSt} {V K T : Nat} (hk : Ok3 V K T) (g0 : M.2.2.1 79 0 = nI V) (g1 : M.2.2.1 79 1 = nI K) (g2 : M.2.2.1 79 2 = nI T) : ∃ M1, J_X10_again 60 79 (Wd M) = some (Wd M1) ∧ (M1.1 60 0 = nI V ∧ M1.1 60 1 = nI K ∧ M1.1 60 2 = nI T ∧ M1.1 60 3 = nI (MB V K) ∧ IsB V K (M1.2.2.1 61) (M1.2.2.1 62)) ∧ (M1.1 60 11 = M.2.2.1 79 3 ∧ M1.1 60 14 = M.2.2.1 79 4 ∧ M1.1 60 17 = M.2.2.1 79 5) ∧ (∀ j, j < 4 → M1.2.2.1 66 j = M.2.2.1 79 (6 + j) ∧ M1.2.2.1 67 j = M.2.2.1 79 (10 + j)) ∧ (∀ j, j < 8 → M1.2.2.1 68 j = M.2.2.1 79 (14 + j) ∧ M1.2.2.1 69 j = M.2.2.1 79 (22 + j) ∧ M1.2.2.1 70 j = M.2.2.1 79 (30 + j) ∧ M1.2.2.1 71 j = M.2.2.1 79 (38 + j)) ∧ (∀ j, j < 56 → M1.2.2.1 63 j = M.2.2.1 79 (46 + j) ∧ M1.2.2.1 64 j = M.2.2.1 79 (102 + j) ∧ M1.2.2.1 65 j = M.2.2.1 79 (158 + j)) ∧ (∀ k, k ≠ 0 → k ≠ 1 → k ≠ 2 → k ≠ 3 → k ≠ 11 → k ≠ 14 → k ≠ 17 → M1.1 60 k = M.1 60 k) ∧ (∀ a, 72 ≤ a → M1.2.2.1 a = M.2.2.1 a) ∧ M1.2.2.2 = M.2.2.2 ∧ cEq M M1 := by
  have l1 := fun (M : rSt) K' => loopS (fun f (g : (Nat → Int32) × (Nat → Int32)) i => J_X10_again_48 60 79 K' f (nI i) (Wd (sa (sa M 66 g.1) 67 g.2))) (fun g => K' (Wd (sa (sa M 66 g.1) 67 g.2))) (fun j g => (upd g.1 j (M.2.2.1 79 (6 + j)), upd g.2 j (M.2.2.1 79 (10 + j)))) 4 (fun f g => by
      rw [J_X10_again_48, if_pos (by decide)]) (fun f g i hi => by
      have e1 : ¬ (4 : Int32) ≤ nI i := nI_ge (b := 4) hi (by decide)
      obtain ⟨a1, a2, -⟩ := lit_a i
      rw [J_X10_again_48, if_neg e1]
      simp (disch := omega) only [wf_60_9, bs, wt_66, a1, wa_79, wf_60_10, wt_67, a2, rLet_eq, nI_1, Nat.reduceEqDiff, if_true, if_false, reduceIte, ri_i, ri_2, rl_1, rl_l, rl_3, ra_1, ra_2, ra_a, ra_4, rj_1, rj_2, rj_3, rj_j, sa_ss, sj_ss, si_ss, sl_ss, sa_sx, sj_sx, si_x1, si_x2, sl_x1, sl_x2, si_sl, si_sa, si_sj, sl_sa, sl_sj, sa_sj, Nat.reduceAdd]) 4 2000 (M.2.2.1 66, M.2.2.1 67) 0 (by omega) (by omega)
  have l2 := fun (M : rSt) K' => loopS (fun f (g : (Nat → Int32) × (Nat → Int32) × (Nat → Int32) × (Nat → Int32)) i => J_X10_again_85 60 79 K' f (nI i) (Wd (sa (sa (sa (sa M 68 g.1) 69 g.2.1) 70 g.2.2.1) 71 g.2.2.2))) (fun g => K' (Wd (sa (sa (sa (sa M 68 g.1) 69 g.2.1) 70 g.2.2.1) 71 g.2.2.2))) (fun j g => (upd g.1 j (M.2.2.1 79 (14 + j)), (upd g.2.1 j (M.2.2.1 79 (22 + j)), (upd g.2.2.1 j (M.2.2.1 79 (30 + j)), upd g.2.2.2 j (M.2.2.1 79 (38 + j)))))) 8 (fun f g => by
      rw [J_X10_again_85, if_pos (by decide)]) (fun f g i hi => by
      have e1 : ¬ (8 : Int32) ≤ nI i := nI_ge (b := 8) hi (by decide)
      obtain ⟨-, -, a1, a2, a3, a4, -⟩ := lit_a i
      rw [J_X10_again_85, if_neg e1]
      simp (disch := omega) only [wf_60_12, bs, wt_68, a1, wa_79, wf_60_13, wt_69, a2, wf_60_15, wt_70, a3, wf_60_16, wt_71, a4, rLet_eq, nI_1, Nat.reduceEqDiff, if_true, if_false, reduceIte, ri_i, ri_2, rl_1, rl_l, rl_3, ra_1, ra_2, ra_a, ra_4, rj_1, rj_2, rj_3, rj_j, sa_ss, sj_ss, si_ss, sl_ss, sa_sx, sj_sx, si_x1, si_x2, sl_x1, sl_x2, si_sl, si_sa, si_sj, sl_sa, sl_sj, sa_sj, Nat.reduceAdd]) 8 2000 (M.2.2.1 68, M.2.2.1 69, M.2.2.1 70, M.2.2.1 71) 0 (by omega) (by omega)
  have l3 := fun (M : rSt) => loopS (fun f (g : (Nat → Int32) × (Nat → Int32) × (Nat → Int32)) i => J_X10_again_147 60 79 f (nI i) (Wd (sa (sa (sa M 63 g.1) 64 g.2.1) 65 g.2.2))) (fun g => some (Wd (sa (sa (sa M 63 g.1) 64 g.2.1) 65 g.2.2))) (fun j g => (upd g.1 j (M.2.2.1 79 (46 + j)), (upd g.2.1 j (M.2.2.1 79 (102 + j)), upd g.2.2 j (M.2.2.1 79 (158 + j))))) 56 (fun f g => by
      rw [J_X10_again_147, if_pos (by decide)]) (fun f g i hi => by
      have e1 : ¬ (56 : Int32) ≤ nI i := nI_ge (b := 56) hi (by decide)
      obtain ⟨-, -, -, -, -, -, a1, a2, a3⟩ := lit_a i
      rw [J_X10_again_147, if_neg e1]
      simp (disch := omega) only [wf_60_6, bs, wt_63, a1, wa_79, wf_60_7, wt_64, a2, wf_60_8, wt_65, a3, rLet_eq, nI_1, Nat.reduceEqDiff, if_true, if_false, reduceIte, ri_i, ri_2, rl_1, rl_l, rl_3, ra_1, ra_2, ra_a, ra_4, rj_1, rj_2, rj_3, rj_j, sa_ss, sj_ss, si_ss, sl_ss, sa_sx, sj_sx, si_x1, si_x2, sl_x1, sl_x2, si_sl, si_sa, si_sj, sl_sa, sl_sj, sa_sj, Nat.reduceAdd]) 56 2000 (M.2.2.1 63, M.2.2.1 64, M.2.2.1 65) 0 (by omega) (by omega)
  have f1 : ∀ (D g h : Nat → Int32), rF (fun j (g : (Nat → Int32) × (Nat → Int32)) => (upd g.1 j (D (6 + j)), upd g.2 j (D (10 + j)))) 4 0 (g, h) = (fun j => if j < 4 then D (6 + j) else g j, fun j => if j < 4 then D (10 + j) else h j) := by
    intro D g h
    refine (rF_prod (fun j (g : Nat → Int32) => upd g j (D (6 + j))) (fun j (g : Nat → Int32) => upd g j (D (10 + j))) 4 0 g h).trans ?_
    rw [rF_pt (fun j _ => D (6 + j)), rF_pt (fun j _ => D (10 + j))]
    simp only [Nat.zero_le, true_and, Nat.zero_add]
  have f2 : ∀ (D a b c e : Nat → Int32), rF (fun j (g : (Nat → Int32) × (Nat → Int32) × (Nat → Int32) × (Nat → Int32)) => (upd g.1 j (D (14 + j)), (upd g.2.1 j (D (22 + j)), (upd g.2.2.1 j (D (30 + j)), upd g.2.2.2 j (D (38 + j)))))) 8 0 (a, b, c, e) = (fun j => if j < 8 then D (14 + j) else a j, fun j => if j < 8 then D (22 + j) else b j, fun j => if j < 8 then D (30 + j) else c j, fun j => if j < 8 then D (38 + j) else e j) := by
    intro D a b c e
    have q1 := rF_prod (fun j (g : Nat → Int32) => upd g j (D (14 + j))) (fun j (g : (Nat → Int32) × (Nat → Int32) × (Nat → Int32)) => (upd g.1 j (D (22 + j)), (upd g.2.1 j (D (30 + j)), upd g.2.2 j (D (38 + j))))) 8 0 a (b, c, e)
    have q2 := rF_prod (fun j (g : Nat → Int32) => upd g j (D (22 + j))) (fun j (g : (Nat → Int32) × (Nat → Int32)) => (upd g.1 j (D (30 + j)), upd g.2 j (D (38 + j)))) 8 0 b (c, e)
    have q3 := rF_prod (fun j (g : Nat → Int32) => upd g j (D (30 + j))) (fun j (g : Nat → Int32) => upd g j (D (38 + j))) 8 0 c e
    refine q1.trans ?_
    refine (congrArg (Prod.mk _) (q2.trans (congrArg (Prod.mk _) q3))).trans ?_
    rw [rF_pt (fun j _ => D (14 + j)), rF_pt (fun j _ => D (22 + j)), rF_pt (fun j _ => D (30 + j)), rF_pt (fun j _ => D (38 + j))]
    simp only [Nat.zero_le, true_and, Nat.zero_add]
  have f3 : ∀ (D a b c : Nat → Int32), rF (fun j (g : (Nat → Int32) × (Nat → Int32) × (Nat → Int32)) => (upd g.1 j (D (46 + j)), (upd g.2.1 j (D (102 + j)), upd g.2.2 j (D (158 + j))))) 56 0 (a, b, c) = (fun j => if j < 56 then D (46 + j) else a j, fun j => if j < 56 then D (102 + j) else b j, fun j => if j < 56 then D (158 + j) else c j) := by
    intro D a b c
    have q2 := rF_prod (fun j (g : Nat → Int32) => upd g j (D (46 + j))) (fun j (g : (Nat → Int32) × (Nat → Int32)) => (upd g.1 j (D (102 + j)), upd g.2 j (D (158 + j)))) 56 0 a (b, c)
    have q3 := rF_prod (fun j (g : Nat → Int32) => upd g j (D (102 + j))) (fun j (g : Nat → Int32) => upd g j (D (158 + j))) 56 0 b c
    refine q2.trans ?_
    refine (congrArg (Prod.mk _) q3).trans ?_
    rw [rF_pt (fun j _ => D (46 + j)), rF_pt (fun j _ => D (102 + j)), rF_pt (fun j _ => D (158 + j))]
    simp only [Nat.zero_le, true_and, Nat.zero_add]
  have i1 : ∀ M : rSt, sa (sa M 66 (M.2.2.1 66)) 67 (M.2.2.1 67) = M := fun M => by rw [sa_id, sa_id]
  have i2 : ∀ M : rSt, sa (sa (sa (sa M 68 (M.2.2.1 68)) 69 (M.2.2.1 69)) 70 (M.2.2.1 70)) 71 (M.2.2.1 71) = M := fun M => by rw [sa_id, sa_id, sa_id, sa_id]
  have i3 : ∀ M : rSt, sa (sa (sa M 63 (M.2.2.1 63)) 64 (M.2.2.1 64)) 65 (M.2.2.1 65) = M := fun M => by rw [sa_id, sa_id, sa_id]
  simp only [f1, i1, nI_0] at l1
  simp only [f2, i2, nI_0] at l2
  simp only [f3, i3, nI_0] at l3
  obtain ⟨B', N', r1, r2⟩ := lists60 (S := si (si (si M 60 0 (nI V)) 60 1 (nI K)) 60 2 (nI T)) (V := V) (K := K) hk.2.1 (by have := hk.2.2.2.1; omega) rfl rfl
  have ra : ∀ (M : rSt) (j : Nat), j < 220 → aI (Wd M) 79 (nI j) = some (M.2.2.1 79 j) := fun M j hj => wa_79 hj
  have p0 := fun M => ra M 0 (by decide)
  have p1 := fun M => ra M 1 (by decide)
  have p2 := fun M => ra M 2 (by decide)
  have p3 := fun M => ra M 3 (by decide)
  have p4 := fun M => ra M 4 (by decide)
  have p5 := fun M => ra M 5 (by decide)
  simp only [← lit_n.1] at p0
  simp only [← lit_n.2.1] at p1
  simp only [← lit_n.2.2.1] at p2
  simp only [← lit_n.2.2.2.1] at p3
  simp only [← lit_n.2.2.2.2.1] at p4
  simp only [← lit_n.2.2.2.2.2] at p5
  have run : J_X10_again 60 79 (Wd M) = J_X10_again_48 60 79 (fun (w15 : rW) => (J_X10_again_85 60 79 (fun (w16 : rW) => (J_X10_again_147 60 79 2000 0 w16 : Option rW)) 2000 0 w15 : Option rW)) 2000 0 (Wd (si (si (si (sa (sa (si (si (si (si M 60 0 (nI V)) 60 1 (nI K)) 60 2 (nI T)) 60 3 (nI (MB V K))) 61 B') 62 N') 60 11 (M.2.2.1 79 3)) 60 14 (M.2.2.1 79 4)) 60 17 (M.2.2.1 79 5))) := by
    unfold J_X10_again
    rw [wr_60, p0, bs, g0, wp_60_0, bs, p1, bs, ri_2, g1, wp_60_1, bs, p2, bs, ri_2, ri_2, g2, wp_60_2, bs, r2, bs, p3, bs, wp_60_11, bs, p4, bs, wp_60_14, bs, p5, bs, wp_60_17, bs, rLet_eq]
    rfl
  rw [run, l1, l2, l3]
  refine ⟨_, rfl, ⟨rfl, rfl, rfl, rfl, r1⟩, ⟨rfl, rfl, rfl⟩, fun j hj => ?_, fun j hj => ?_, fun j hj => ?_, fun k h0 h1 h2 h3 h4 h5 h6 => ?_, fun a ha => ?_, rfl, ?_⟩
  · refine ⟨if_pos hj, if_pos hj⟩
  · refine ⟨if_pos hj, if_pos hj, if_pos hj, if_pos hj⟩
  · refine ⟨if_pos hj, if_pos hj, if_pos hj⟩
  · simp only [ra_1, ri_i, h0, h1, h2, h3, h4, h5, h6, if_true, if_false]
  · have q : ∀ c, c < 72 → ¬ a = c := fun c hc => by omega
    simp only [ra_a, ri_2, q 61 (by decide), q 62 (by decide), q 63 (by decide), q 64 (by decide), q 65 (by decide), q 66 (by decide), q 67 (by decide), q 68 (by decide), q 69 (by decide), q 70 (by decide), q 71 (by decide), if_false]
  · exact by repeat (first | exact cE_r _ | refine cE_a (by decide) ?_ | refine cE_i (by decide) ?_ | refine cE_j ?_)

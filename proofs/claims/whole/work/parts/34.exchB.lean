/-! TWO POINTS CHANGE PLACES, the calls -/
theorem ex_w (S : rSt) (c u v : Nat → Int32) (D E y z : Int64) : sl (sl (sa (sa (sl (sl (sa S 6 c) 5 2 D) 5 3 E) 6 u) 6 v) 5 2 y) 5 3 z = sl (sl (sa S 6 v) 5 2 y) 5 3 z := by
  simp (disch := omega) only [sa_ss, sj_ss, si_ss, sl_ss, sa_sx, sj_sx, si_x1, si_x2, sl_x1, sl_x2, si_sl, si_sa, si_sj, sl_sa, sl_sj, sa_sj, Nat.reduceAdd]
theorem exch5_s {S : rSt} {M p q i g b x : Nat} (h56 : M ≤ 56) (c3 : S.1 2 3 = nI M) (hi : i < M) (hg : g < M) (e2 : S.2.2.1 3 i = nI b) (x1 : Int64.toInt32 (wpeI (Int32.toInt64 (nI b)) (nI p) (nI q)) = nI x) (hx : x < 256) (e4' : S.2.2.1 4 x = nI g) (f : Nat) (c : Nat → Int32) (D E : Int64) : J_X5_exchangePoints_2 5 (nI p) (nI q) (f + 1) (nI i) (Wd (sl (sl (sa S 6 c) 5 2 D) 5 3 E)) = if g ≤ i then J_X5_exchangePoints_2 5 (nI p) (nI q) f (nI (i + 1)) (Wd (sl (sl (sa S 6 c) 5 2 D) 5 3 E)) else J_X5_exchangePoints_2 5 (nI p) (nI q) f (nI (i + 1)) (Wd (sl (sl (sa S 6 (upd (upd c i (c g)) g (c i))) 5 2 (wpeI D (nI i) (nI g))) 5 3 (wpeI E (nI i) (nI g)))) := by
  have e1 : (nI M ≤ nI i) ↔ False := iff_false_intro (nI_ge hi (by omega))
  have e3 := numberOf2 (S := sl (sl (sa S 6 c) 5 2 D) 5 3 E) hx
  have e4 : (sl (sl (sa S 6 c) 5 2 D) 5 3 E).2.2.1 4 x = nI g := e4'
  rw [e4] at e3
  have e5 : (nI g ≤ nI i) ↔ g ≤ i := nI_leI (by omega) (by omega)
  have e6 := has2 (sl (sl (sa S 6 c) 5 2 D) 5 3 E) (nI g)
  have e7 : (sl (sl (sa S 6 c) 5 2 D) 5 3 E).1 2 3 = nI M := c3
  rw [e7, (hasB_n (by omega)).mpr ⟨_, hg, rfl⟩] at e6
  have i56 : i < 56 := by omega
  have s56 : g < 56 := by omega
  rw [J_X5_exchangePoints_2]
  by_cases hs : g ≤ i
  · simp only [rLet_eq, wf_5_0, bs, wf_2_3, wf_2_4, Nat.reduceEqDiff, if_true, if_false, reduceIte, ri_i, ri_2, rl_1, rl_l, rl_3, ra_1, ra_2, ra_a, ra_4, rj_1, rj_2, rj_3, rj_j, c3, e1, wa_3 i56, e2, wpe_eq, x1, e3, e5, hs, nI_1]
  · rw [if_neg hs]
    simp only [rLet_eq, wf_5_0, bs, wf_2_3, wf_2_4, Nat.reduceEqDiff, if_true, if_false, reduceIte, ri_i, ri_2, rl_1, rl_l, rl_3, ra_1, ra_2, ra_a, ra_4, rj_1, rj_2, rj_3, rj_j, c3, e1, wa_3 i56, e2, wpe_eq, x1, e3, e5, hs, nI_1, e6, bi_0, reduceCtorEq]
    have r1 : (sl (sl (sa S 6 c) 5 2 D) 5 3 E).2.2.1 6 = c := rfl
    rw [wf_5_1, bs, wa_6 i56, bs, bs, bs, wa_6 s56, bs, wt_6 i56, bs, r1, wf_5_1, bs, wt_6 s56, bs]
    have r2 : (sa (sl (sl (sa S 6 c) 5 2 D) 5 3 E) 6 (upd c i (c g))).2.2.1 6 = upd c i (c g) := rfl
    rw [r2, wf_5_2, bs, wp_5_2, bs, wf_5_3, bs, wp_5_3, bs]
    have r3 : (sa (sa (sl (sl (sa S 6 c) 5 2 D) 5 3 E) 6 (upd c i (c g))) 6 (upd (upd c i (c g)) g (c i))).2.1 5 2 = D := rfl
    have r4 : (sl (sa (sa (sl (sl (sa S 6 c) 5 2 D) 5 3 E) 6 (upd c i (c g))) 6 (upd (upd c i (c g)) g (c i))) 5 2 (wpeI D (nI i) (nI g))).2.1 5 3 = E := rfl
    rw [r3, r4, ex_w]
theorem exch5 {S : rSt} {V K T p q : Nat} (hk : Ok3 V K T) (hp : p < V) (hq : q < V) (c3 : S.1 2 3 = nI (MB V K)) (cB : IsB V K (S.2.2.1 3) (S.2.2.1 4)) : J_X5_exchangePoints 5 (nI p) (nI q) (Wd S) = some (Wd (sl (sl (sa S 6 (rF (exF V K p q) (MB V K) 0 (S.2.2.1 6, S.2.1 5 2, S.2.1 5 3)).1) 5 2 (rF (exF V K p q) (MB V K) 0 (S.2.2.1 6, S.2.1 5 2, S.2.1 5 3)).2.1) 5 3 (rF (exF V K p q) (MB V K) 0 (S.2.2.1 6, S.2.1 5 2, S.2.1 5 3)).2.2)) := by
  have hM := MB_ok hk
  have hV := hk.2.1
  have e0 := nI_refl (n := MB V K) (by omega)
  have st : ∀ f (s : (Nat → Int32) × Int64 × Int64) i, i < MB V K → J_X5_exchangePoints_2 5 (nI p) (nI q) (f + 1) (nI i) (Wd (sl (sl (sa S 6 s.1) 5 2 s.2.1) 5 3 s.2.2)) = J_X5_exchangePoints_2 5 (nI p) (nI q) f (nI (i + 1)) (Wd (sl (sl (sa S 6 (exF V K p q i s).1) 5 2 (exF V K p q i s).2.1) 5 3 (exF V K p q i s).2.2)) := by
    intro f s i hi
    obtain ⟨a1, a2, a3, a4, a5⟩ := sig_ok hV hp hq hi
    have x1 := ex_1 (BT V K i) (BT_in hi).2.1 p (by omega) q (by omega)
    rw [Bool.and_eq_true, decide_eq_true_eq, decide_eq_true_eq] at x1
    have e2 : S.2.2.1 3 i = nI (BT V K i) := cB.1 i hi
    have e4 : S.2.2.1 4 (exS (BT V K i) p q) = nI (sig V K p q i) := by
      rw [cB.2 _ a1]
      unfold nb
      rw [if_pos a2]
      rfl
    rw [exch5_s hM.2 c3 hi a3 e2 x1.1 a1 e4]
    unfold exF
    by_cases hs : sig V K p q i ≤ i
    · rw [if_pos hs, if_pos hs]
    · rw [if_neg hs, if_neg hs]
  revert st e0
  generalize exF V K p q = F
  generalize MB V K = n at hM c3 ⊢
  intro e0 st
  have key := loopS (fun f (s : (Nat → Int32) × Int64 × Int64) i => J_X5_exchangePoints_2 5 (nI p) (nI q) f (nI i) (Wd (sl (sl (sa S 6 s.1) 5 2 s.2.1) 5 3 s.2.2))) (fun s => some (Wd (sl (sl (sa S 6 s.1) 5 2 s.2.1) 5 3 s.2.2))) F n (fun f s => by
      rw [J_X5_exchangePoints_2]
      simp only [Nat.reduceEqDiff, Nat.reduceAdd, Nat.reduceMul, reduceCtorEq, if_true, if_false, bs, rLet_eq, rB2_e, reduceIte, wr_0, wf_0_0, wf_0_1, wf_0_2, wp_0_2, wf_0_3, wf_0_4, wf_0_5, wf_0_6, wf_0_7, wf_0_8, wr_1, wf_1_0, wf_1_1, wf_1_2, wf_1_3, wf_1_4, wr_2, wf_2_0, wp_2_0, wf_2_1, wp_2_1, wf_2_2, wp_2_2, wf_2_3, wp_2_3, wf_2_4, wf_2_5, wr_5, wf_5_0, wf_5_1, wf_5_2, wp_5_2, wf_5_3, wp_5_3, wr_7, wf_7_0, wf_7_1, wf_7_2, wp_7_2, wr_10, wf_10_0, wf_10_1, wf_10_2, wp_10_2, wr_13, wf_13_0, wf_13_1, wf_13_2, wp_13_2, wr_16, wf_16_0, wf_16_1, wf_16_2, wf_16_3, wf_16_4, wr_17, wf_17_0, wp_17_0, wf_17_1, wp_17_1, wf_17_2, wp_17_2, wf_17_3, wp_17_3, wf_17_4, wf_17_5, wr_20, wf_20_0, wf_20_1, wf_20_2, wp_20_2, wf_20_3, wp_20_3, wr_22, wf_22_0, wf_22_1, wf_22_2, wp_22_2, wr_25, wf_25_0, wf_25_1, wf_25_2, wp_25_2, wr_28, wf_28_0, wf_28_1, wf_28_2, wp_28_2, wr_31, wf_31_0, wf_31_1, wf_31_2, wp_31_2, wf_31_3, wp_31_3, wr_33, wf_33_0, wf_33_1, wp_33_1, wf_33_2, wp_33_2, wr_35, wf_35_0, wf_35_1, wp_35_1, wf_35_2, wp_35_2, wf_35_3, wp_35_3, wr_36, wf_36_0, wf_36_1, wp_36_1, wf_36_2, wp_36_2, wr_38, wf_38_0, wp_38_0, wf_38_1, wp_38_1, wf_38_2, wp_38_2, wf_38_3, wp_38_3, wf_38_4, wf_38_5, wf_38_6, wf_38_7, wr_43, wf_43_0, wf_43_1, wp_43_1, wf_43_2, wf_43_3, wf_43_4, wp_43_4, wf_43_5, wp_43_5, wr_48, wf_48_0, wp_48_0, wf_48_1, wp_48_1, wf_48_2, wr_50, wf_50_0, wp_50_0, wf_50_1, wp_50_1, wf_50_2, wr_52, wf_52_0, wp_52_0, wf_52_1, wp_52_1, wf_52_2, wr_54, wf_54_0, wp_54_0, wf_54_1, wp_54_1, wf_54_2, wr_56, wf_56_0, wp_56_0, wf_56_1, wp_56_1, wf_56_2, wr_58, wf_58_0, wp_58_0, wf_58_1, wp_58_1, wf_58_2, wr_60, wf_60_0, wp_60_0, wf_60_1, wp_60_1, wf_60_2, wp_60_2, wf_60_3, wp_60_3, wf_60_4, wf_60_5, wf_60_6, wf_60_7, wf_60_8, wf_60_9, wf_60_10, wf_60_11, wp_60_11, wf_60_12, wf_60_13, wf_60_14, wp_60_14, wf_60_15, wf_60_16, wf_60_17, wp_60_17, wf_60_18, wf_60_19, wp_60_19, wf_60_20, wp_60_20, wf_60_21, wf_60_22, wf_60_23, wp_60_23, wf_60_24, wf_60_25, wf_60_26, wf_60_27, wf_60_28, wf_60_29, wp_60_29, wf_60_30, wf_60_31, wf_60_32, wf_60_33, wf_60_34, wp_60_34, wf_60_35, wf_60_36, wf_60_37, wf_60_38, wp_60_38, wf_60_39, wp_60_39, wf_60_40, wp_60_40, wf_60_41, wp_60_41, Nat.reduceEqDiff, if_true, if_false, reduceIte, ri_i, ri_2, rl_1, rl_l, rl_3, ra_1, ra_2, ra_a, ra_4, rj_1, rj_2, rj_3, rj_j, c3, e0]) (fun f s i hi => st f s i hi) n 2000 (S.2.2.1 6, S.2.1 5 2, S.2.1 5 3) 0 (by omega) (by omega)
  simp only [nI_0] at key
  have e9 : sl (sl (sa S 6 (S.2.2.1 6)) 5 2 (S.2.1 5 2)) 5 3 (S.2.1 5 3) = S := by rw [sa_id, sl_id, sl_id]
  rw [e9] at key
  unfold J_X5_exchangePoints
  rw [wr_5, key]
theorem exch60_63 {M : rSt} {V K T p q : Nat} (hk : Ok3 V K T) (hp : p < V) (hq : q < V) (m3 : M.1 60 3 = nI (MB V K)) (mB : IsB V K (M.2.2.1 61) (M.2.2.1 62)) : ∃ g h, J_X10_exchanges 60 63 (nI p) (nI q) (Wd M) = some (Wd (sa (sa M 63 h) 82 g)) ∧ (∀ j, j < MB V K → h j = M.2.2.1 63 (sig V K p q j)) ∧ ∀ j, MB V K ≤ j → h j = M.2.2.1 63 j := by
  have hM := MB_ok hk
  have hV := hk.2.1
  have e0 := nI_refl (n := MB V K) (by omega)
  have l1 := fun K' => loopS (fun f g i => J_X10_exchanges_3 60 63 (nI p) (nI q) K' f (nI i) (Wd (sa M 82 g))) (fun g => K' (Wd (sa M 82 g))) (fun i g => upd g (sig V K p q i) (M.2.2.1 63 i)) (MB V K) (fun f g => by
      rw [J_X10_exchanges_3]
      simp only [Nat.reduceEqDiff, Nat.reduceAdd, Nat.reduceMul, reduceCtorEq, if_true, if_false, bs, rLet_eq, rB2_e, reduceIte, wr_0, wf_0_0, wf_0_1, wf_0_2, wp_0_2, wf_0_3, wf_0_4, wf_0_5, wf_0_6, wf_0_7, wf_0_8, wr_1, wf_1_0, wf_1_1, wf_1_2, wf_1_3, wf_1_4, wr_2, wf_2_0, wp_2_0, wf_2_1, wp_2_1, wf_2_2, wp_2_2, wf_2_3, wp_2_3, wf_2_4, wf_2_5, wr_5, wf_5_0, wf_5_1, wf_5_2, wp_5_2, wf_5_3, wp_5_3, wr_7, wf_7_0, wf_7_1, wf_7_2, wp_7_2, wr_10, wf_10_0, wf_10_1, wf_10_2, wp_10_2, wr_13, wf_13_0, wf_13_1, wf_13_2, wp_13_2, wr_16, wf_16_0, wf_16_1, wf_16_2, wf_16_3, wf_16_4, wr_17, wf_17_0, wp_17_0, wf_17_1, wp_17_1, wf_17_2, wp_17_2, wf_17_3, wp_17_3, wf_17_4, wf_17_5, wr_20, wf_20_0, wf_20_1, wf_20_2, wp_20_2, wf_20_3, wp_20_3, wr_22, wf_22_0, wf_22_1, wf_22_2, wp_22_2, wr_25, wf_25_0, wf_25_1, wf_25_2, wp_25_2, wr_28, wf_28_0, wf_28_1, wf_28_2, wp_28_2, wr_31, wf_31_0, wf_31_1, wf_31_2, wp_31_2, wf_31_3, wp_31_3, wr_33, wf_33_0, wf_33_1, wp_33_1, wf_33_2, wp_33_2, wr_35, wf_35_0, wf_35_1, wp_35_1, wf_35_2, wp_35_2, wf_35_3, wp_35_3, wr_36, wf_36_0, wf_36_1, wp_36_1, wf_36_2, wp_36_2, wr_38, wf_38_0, wp_38_0, wf_38_1, wp_38_1, wf_38_2, wp_38_2, wf_38_3, wp_38_3, wf_38_4, wf_38_5, wf_38_6, wf_38_7, wr_43, wf_43_0, wf_43_1, wp_43_1, wf_43_2, wf_43_3, wf_43_4, wp_43_4, wf_43_5, wp_43_5, wr_48, wf_48_0, wp_48_0, wf_48_1, wp_48_1, wf_48_2, wr_50, wf_50_0, wp_50_0, wf_50_1, wp_50_1, wf_50_2, wr_52, wf_52_0, wp_52_0, wf_52_1, wp_52_1, wf_52_2, wr_54, wf_54_0, wp_54_0, wf_54_1, wp_54_1, wf_54_2, wr_56, wf_56_0, wp_56_0, wf_56_1, wp_56_1, wf_56_2, wr_58, wf_58_0, wp_58_0, wf_58_1, wp_58_1, wf_58_2, wr_60, wf_60_0, wp_60_0, wf_60_1, wp_60_1, wf_60_2, wp_60_2, wf_60_3, wp_60_3, wf_60_4, wf_60_5, wf_60_6, wf_60_7, wf_60_8, wf_60_9, wf_60_10, wf_60_11, wp_60_11, wf_60_12, wf_60_13, wf_60_14, wp_60_14, wf_60_15, wf_60_16, wf_60_17, wp_60_17, wf_60_18, wf_60_19, wp_60_19, wf_60_20, wp_60_20, wf_60_21, wf_60_22, wf_60_23, wp_60_23, wf_60_24, wf_60_25, wf_60_26, wf_60_27, wf_60_28, wf_60_29, wp_60_29, wf_60_30, wf_60_31, wf_60_32, wf_60_33, wf_60_34, wp_60_34, wf_60_35, wf_60_36, wf_60_37, wf_60_38, wp_60_38, wf_60_39, wp_60_39, wf_60_40, wp_60_40, wf_60_41, wp_60_41, Nat.reduceEqDiff, if_true, if_false, reduceIte, ri_i, ri_2, rl_1, rl_l, rl_3, ra_1, ra_2, ra_a, ra_4, rj_1, rj_2, rj_3, rj_j, m3, e0]) (fun f g i hi => by
      have e1 : (nI (MB V K) ≤ nI i) ↔ False := iff_false_intro (nI_ge hi (by omega))
      obtain ⟨a1, a2, a3, a4, a5⟩ := sig_ok hV hp hq hi
      have x1 := ex_1 (BT V K i) (BT_in hi).2.1 p (by omega) q (by omega)
      rw [Bool.and_eq_true, decide_eq_true_eq, decide_eq_true_eq] at x1
      have e2 : M.2.2.1 61 i = nI (BT V K i) := mB.1 i hi
      have i56 : i < 56 := by omega
      have s56 : sig V K p q i < 56 := by omega
      have e4 : M.2.2.1 62 (exS (BT V K i) p q) = nI (sig V K p q i) := by
        rw [mB.2 _ a1]
        unfold nb
        rw [if_pos a2]
        rfl
      have fin : J_X10_exchanges_3 60 63 (nI p) (nI q) K' (f + 1) (nI i) (Wd (sa M 82 g)) = (gR (Wd (sa M 82 g)) 60 10 32).bind fun a15 => (gR (Wd (sa M 82 g)) 60 10 5).bind fun a16 => (aI (Wd (sa M 82 g)) a16 (mxI (nI (BT V K i)) (nI p) (nI q))).bind fun v17 => (aI (Wd (sa M 82 g)) 63 (nI i)).bind fun v18 => (sI (Wd (sa M 82 g)) a15 v17 v18).bind fun w19 => rLet (nI i + 1) fun v20 => J_X10_exchanges_3 60 63 (nI p) (nI q) K' f v20 w19 := by
        rw [J_X10_exchanges_3]
        have f1 : (sa M 82 g).1 60 3 = nI (MB V K) := m3
        have f2 : (sa M 82 g).2.2.1 61 i = nI (BT V K i) := e2
        rw [wf_60_3, bs, f1, if_neg (nI_ge hi (by omega)), wf_60_4, bs, wa_61 i56, bs, f2]
        unfold mxI mxA mxH
        simp only [rLet_eq]
        by_cases c1 : ((nI (BT V K i) >>> (nI p &&& 31)) &&& 1) = 1
        · by_cases c2 : ((nI (BT V K i) >>> (nI q &&& 31)) &&& 1) = 1
          · simp only [c1, c2, if_true]
          · simp only [c1, c2, if_true, if_false]
        · by_cases c2 : ((nI (BT V K i) >>> (nI q &&& 31)) &&& 1) = 1
          · simp only [c1, c2, if_true, if_false]
          · simp only [c1, c2, if_false]
      show J_X10_exchanges_3 60 63 (nI p) (nI q) K' (f + 1) (nI i) (Wd (sa M 82 g)) = _
      rw [fin, x1.2]
      simp only [rLet_eq, wf_60_32, wf_60_5, bs, wa_62 a1, Nat.reduceEqDiff, if_true, if_false, reduceIte, ri_i, ri_2, rl_1, rl_l, rl_3, ra_1, ra_2, ra_a, ra_4, rj_1, rj_2, rj_3, rj_j, e4, wa_63 i56, wt_82 s56, nI_1, sa_ss]) (MB V K) 2000 (M.2.2.1 82) 0 (by omega) (by omega)
  have p1 := rF_inv (fun i (g : Nat → Int32) => upd g (sig V K p q i) (M.2.2.1 63 i)) (fun i g => i ≤ MB V K → ∀ j, j < MB V K → sig V K p q j < i → g j = M.2.2.1 63 (sig V K p q j)) (MB V K) 0 (M.2.2.1 82) (fun _ j _ h => absurd h (Nat.not_lt_zero _)) (fun i g h1 h2 hI hi j hj hs => by
    by_cases hj2 : j = sig V K p q i
    · have := (sig_ok hV hp hq (show i < MB V K by omega)).2.2.2.2
      show upd g (sig V K p q i) (M.2.2.1 63 i) j = _
      rw [hj2, up_s, this]
    · show upd g (sig V K p q i) (M.2.2.1 63 i) j = _
      rw [up_n hj2]
      refine hI (by omega) j hj ?_
      have h5 := (sig_ok hV hp hq hj).2.2.2.2
      rcases Nat.lt_or_ge (sig V K p q j) i with h | h
      · exact h
      · have : sig V K p q j = i := by omega
        rw [this] at h5
        exact absurd h5.symm hj2)
  rw [Nat.zero_add] at p1
  have p2 : ∀ j, j < MB V K → rF (fun i (g : Nat → Int32) => upd g (sig V K p q i) (M.2.2.1 63 i)) (MB V K) 0 (M.2.2.1 82) j = M.2.2.1 63 (sig V K p q j) := fun j hj => p1 (Nat.le_refl _) j hj (sig_ok hV hp hq hj).2.2.1
  have l2 : ∀ g, J_X10_exchanges_96 60 63 2000 0 (Wd (sa M 82 g)) = some (Wd (sa (sa M 63 (cpyR (M.2.2.1 63) g (MB V K))) 82 g)) := by
    intro g
    have l2 := loopS (fun f h i => J_X10_exchanges_96 60 63 f (nI i) (Wd (sa (sa M 63 h) 82 g))) (fun h => some (Wd (sa (sa M 63 h) 82 g))) (fun i h => upd h i (g i)) (MB V K) (fun f h => by
        rw [J_X10_exchanges_96]
        simp only [Nat.reduceEqDiff, Nat.reduceAdd, Nat.reduceMul, reduceCtorEq, if_true, if_false, bs, rLet_eq, rB2_e, reduceIte, wr_0, wf_0_0, wf_0_1, wf_0_2, wp_0_2, wf_0_3, wf_0_4, wf_0_5, wf_0_6, wf_0_7, wf_0_8, wr_1, wf_1_0, wf_1_1, wf_1_2, wf_1_3, wf_1_4, wr_2, wf_2_0, wp_2_0, wf_2_1, wp_2_1, wf_2_2, wp_2_2, wf_2_3, wp_2_3, wf_2_4, wf_2_5, wr_5, wf_5_0, wf_5_1, wf_5_2, wp_5_2, wf_5_3, wp_5_3, wr_7, wf_7_0, wf_7_1, wf_7_2, wp_7_2, wr_10, wf_10_0, wf_10_1, wf_10_2, wp_10_2, wr_13, wf_13_0, wf_13_1, wf_13_2, wp_13_2, wr_16, wf_16_0, wf_16_1, wf_16_2, wf_16_3, wf_16_4, wr_17, wf_17_0, wp_17_0, wf_17_1, wp_17_1, wf_17_2, wp_17_2, wf_17_3, wp_17_3, wf_17_4, wf_17_5, wr_20, wf_20_0, wf_20_1, wf_20_2, wp_20_2, wf_20_3, wp_20_3, wr_22, wf_22_0, wf_22_1, wf_22_2, wp_22_2, wr_25, wf_25_0, wf_25_1, wf_25_2, wp_25_2, wr_28, wf_28_0, wf_28_1, wf_28_2, wp_28_2, wr_31, wf_31_0, wf_31_1, wf_31_2, wp_31_2, wf_31_3, wp_31_3, wr_33, wf_33_0, wf_33_1, wp_33_1, wf_33_2, wp_33_2, wr_35, wf_35_0, wf_35_1, wp_35_1, wf_35_2, wp_35_2, wf_35_3, wp_35_3, wr_36, wf_36_0, wf_36_1, wp_36_1, wf_36_2, wp_36_2, wr_38, wf_38_0, wp_38_0, wf_38_1, wp_38_1, wf_38_2, wp_38_2, wf_38_3, wp_38_3, wf_38_4, wf_38_5, wf_38_6, wf_38_7, wr_43, wf_43_0, wf_43_1, wp_43_1, wf_43_2, wf_43_3, wf_43_4, wp_43_4, wf_43_5, wp_43_5, wr_48, wf_48_0, wp_48_0, wf_48_1, wp_48_1, wf_48_2, wr_50, wf_50_0, wp_50_0, wf_50_1, wp_50_1, wf_50_2, wr_52, wf_52_0, wp_52_0, wf_52_1, wp_52_1, wf_52_2, wr_54, wf_54_0, wp_54_0, wf_54_1, wp_54_1, wf_54_2, wr_56, wf_56_0, wp_56_0, wf_56_1, wp_56_1, wf_56_2, wr_58, wf_58_0, wp_58_0, wf_58_1, wp_58_1, wf_58_2, wr_60, wf_60_0, wp_60_0, wf_60_1, wp_60_1, wf_60_2, wp_60_2, wf_60_3, wp_60_3, wf_60_4, wf_60_5, wf_60_6, wf_60_7, wf_60_8, wf_60_9, wf_60_10, wf_60_11, wp_60_11, wf_60_12, wf_60_13, wf_60_14, wp_60_14, wf_60_15, wf_60_16, wf_60_17, wp_60_17, wf_60_18, wf_60_19, wp_60_19, wf_60_20, wp_60_20, wf_60_21, wf_60_22, wf_60_23, wp_60_23, wf_60_24, wf_60_25, wf_60_26, wf_60_27, wf_60_28, wf_60_29, wp_60_29, wf_60_30, wf_60_31, wf_60_32, wf_60_33, wf_60_34, wp_60_34, wf_60_35, wf_60_36, wf_60_37, wf_60_38, wp_60_38, wf_60_39, wp_60_39, wf_60_40, wp_60_40, wf_60_41, wp_60_41, Nat.reduceEqDiff, if_true, if_false, reduceIte, ri_i, ri_2, rl_1, rl_l, rl_3, ra_1, ra_2, ra_a, ra_4, rj_1, rj_2, rj_3, rj_j, m3, e0]) (fun f h i hi => by
        have e1 : (nI (MB V K) ≤ nI i) ↔ False := iff_false_intro (nI_ge hi (by omega))
        rw [J_X10_exchanges_96]
        simp (disch := omega) only [Nat.reduceEqDiff, Nat.reduceAdd, Nat.reduceMul, reduceCtorEq, if_true, if_false, bs, rLet_eq, rB2_e, reduceIte, wr_0, wf_0_0, wf_0_1, wf_0_2, wp_0_2, wf_0_3, wf_0_4, wf_0_5, wf_0_6, wf_0_7, wf_0_8, wr_1, wf_1_0, wf_1_1, wf_1_2, wf_1_3, wf_1_4, wr_2, wf_2_0, wp_2_0, wf_2_1, wp_2_1, wf_2_2, wp_2_2, wf_2_3, wp_2_3, wf_2_4, wf_2_5, wr_5, wf_5_0, wf_5_1, wf_5_2, wp_5_2, wf_5_3, wp_5_3, wr_7, wf_7_0, wf_7_1, wf_7_2, wp_7_2, wr_10, wf_10_0, wf_10_1, wf_10_2, wp_10_2, wr_13, wf_13_0, wf_13_1, wf_13_2, wp_13_2, wr_16, wf_16_0, wf_16_1, wf_16_2, wf_16_3, wf_16_4, wr_17, wf_17_0, wp_17_0, wf_17_1, wp_17_1, wf_17_2, wp_17_2, wf_17_3, wp_17_3, wf_17_4, wf_17_5, wr_20, wf_20_0, wf_20_1, wf_20_2, wp_20_2, wf_20_3, wp_20_3, wr_22, wf_22_0, wf_22_1, wf_22_2, wp_22_2, wr_25, wf_25_0, wf_25_1, wf_25_2, wp_25_2, wr_28, wf_28_0, wf_28_1, wf_28_2, wp_28_2, wr_31, wf_31_0, wf_31_1, wf_31_2, wp_31_2, wf_31_3, wp_31_3, wr_33, wf_33_0, wf_33_1, wp_33_1, wf_33_2, wp_33_2, wr_35, wf_35_0, wf_35_1, wp_35_1, wf_35_2, wp_35_2, wf_35_3, wp_35_3, wr_36, wf_36_0, wf_36_1, wp_36_1, wf_36_2, wp_36_2, wr_38, wf_38_0, wp_38_0, wf_38_1, wp_38_1, wf_38_2, wp_38_2, wf_38_3, wp_38_3, wf_38_4, wf_38_5, wf_38_6, wf_38_7, wr_43, wf_43_0, wf_43_1, wp_43_1, wf_43_2, wf_43_3, wf_43_4, wp_43_4, wf_43_5, wp_43_5, wr_48, wf_48_0, wp_48_0, wf_48_1, wp_48_1, wf_48_2, wr_50, wf_50_0, wp_50_0, wf_50_1, wp_50_1, wf_50_2, wr_52, wf_52_0, wp_52_0, wf_52_1, wp_52_1, wf_52_2, wr_54, wf_54_0, wp_54_0, wf_54_1, wp_54_1, wf_54_2, wr_56, wf_56_0, wp_56_0, wf_56_1, wp_56_1, wf_56_2, wr_58, wf_58_0, wp_58_0, wf_58_1, wp_58_1, wf_58_2, wr_60, wf_60_0, wp_60_0, wf_60_1, wp_60_1, wf_60_2, wp_60_2, wf_60_3, wp_60_3, wf_60_4, wf_60_5, wf_60_6, wf_60_7, wf_60_8, wf_60_9, wf_60_10, wf_60_11, wp_60_11, wf_60_12, wf_60_13, wf_60_14, wp_60_14, wf_60_15, wf_60_16, wf_60_17, wp_60_17, wf_60_18, wf_60_19, wp_60_19, wf_60_20, wp_60_20, wf_60_21, wf_60_22, wf_60_23, wp_60_23, wf_60_24, wf_60_25, wf_60_26, wf_60_27, wf_60_28, wf_60_29, wp_60_29, wf_60_30, wf_60_31, wf_60_32, wf_60_33, wf_60_34, wp_60_34, wf_60_35, wf_60_36, wf_60_37, wf_60_38, wp_60_38, wf_60_39, wp_60_39, wf_60_40, wp_60_40, wf_60_41, wp_60_41, wa_3, wt_3, wa_4, wt_4, wa_6, wt_6, wa_8, wt_8, wa_9, wt_9, wa_11, wt_11, wa_12, wt_12, wa_14, wt_14, wa_15, wt_15, wa_18, wt_18, wa_19, wt_19, wa_21, wt_21, wa_23, wt_23, wa_24, wt_24, wa_26, wt_26, wa_27, wt_27, wa_29, wt_29, wa_30, wt_30, wa_32, wt_32, wa_34, wt_34, wa_37, wt_37, wa_39, wt_39, wa_40, wt_40, wa_41, wt_41, wa_42, wt_42, wa_44, wt_44, wa_45, wt_45, wa_46, wt_46, wa_49, wt_49, wa_51, wt_51, wa_53, wt_53, wa_55, wt_55, wa_57, wt_57, wa_59, wt_59, wa_61, wt_61, wa_62, wt_62, wa_63, wt_63, wa_64, wt_64, wa_65, wt_65, wa_66, wt_66, wa_67, wt_67, wa_68, wt_68, wa_69, wt_69, wa_70, wt_70, wa_71, wt_71, wa_72, wt_72, wa_73, wt_73, wa_74, wt_74, wa_75, wt_75, wa_76, wt_76, wa_77, wt_77, wa_78, wt_78, wa_79, wt_79, wa_80, wt_80, wa_81, wt_81, wa_82, wt_82, wa_83, wt_83, wa_84, wt_84, wa_85, wt_85, wa_86, wt_86, wl_47, Nat.reduceEqDiff, if_true, if_false, reduceIte, ri_i, ri_2, rl_1, rl_l, rl_3, ra_1, ra_2, ra_a, ra_4, rj_1, rj_2, rj_3, rj_j, sa_ss, sj_ss, si_ss, sl_ss, sa_sx, sj_sx, si_x1, si_x2, sl_x1, sl_x2, si_sl, si_sa, si_sj, sl_sa, sl_sj, sa_sj, Nat.reduceAdd, m3, e1, nI_1]) (MB V K) 2000 (M.2.2.1 63) 0 (by omega) (by omega)
    rw [rF_pt (fun j _ => g j)] at l2
    simp only [sa_id, nI_0, Nat.zero_le, true_and, Nat.zero_add] at l2
    exact l2
  refine ⟨rF (fun i (g : Nat → Int32) => upd g (sig V K p q i) (M.2.2.1 63 i)) (MB V K) 0 (M.2.2.1 82), cpyR (M.2.2.1 63) (rF (fun i (g : Nat → Int32) => upd g (sig V K p q i) (M.2.2.1 63 i)) (MB V K) 0 (M.2.2.1 82)) (MB V K), ?_, fun j hj => ?_, fun j hj => ?_⟩
  · simp only [sa_id, nI_0] at l1
    unfold J_X10_exchanges
    rw [wr_60, rLet_eq, l1, l2]
  · unfold cpyR
    rw [if_pos hj, p2 j hj]
  · unfold cpyR
    rw [if_neg (by omega)]
theorem exch60_64 {M : rSt} {V K T p q : Nat} (hk : Ok3 V K T) (hp : p < V) (hq : q < V) (m3 : M.1 60 3 = nI (MB V K)) (mB : IsB V K (M.2.2.1 61) (M.2.2.1 62)) : ∃ g h, J_X10_exchanges 60 64 (nI p) (nI q) (Wd M) = some (Wd (sa (sa M 64 h) 82 g)) ∧ (∀ j, j < MB V K → h j = M.2.2.1 64 (sig V K p q j)) ∧ ∀ j, MB V K ≤ j → h j = M.2.2.1 64 j := by
  have hM := MB_ok hk
  have hV := hk.2.1
  have e0 := nI_refl (n := MB V K) (by omega)
  have l1 := fun K' => loopS (fun f g i => J_X10_exchanges_3 60 64 (nI p) (nI q) K' f (nI i) (Wd (sa M 82 g))) (fun g => K' (Wd (sa M 82 g))) (fun i g => upd g (sig V K p q i) (M.2.2.1 64 i)) (MB V K) (fun f g => by
      rw [J_X10_exchanges_3]
      simp only [Nat.reduceEqDiff, Nat.reduceAdd, Nat.reduceMul, reduceCtorEq, if_true, if_false, bs, rLet_eq, rB2_e, reduceIte, wr_0, wf_0_0, wf_0_1, wf_0_2, wp_0_2, wf_0_3, wf_0_4, wf_0_5, wf_0_6, wf_0_7, wf_0_8, wr_1, wf_1_0, wf_1_1, wf_1_2, wf_1_3, wf_1_4, wr_2, wf_2_0, wp_2_0, wf_2_1, wp_2_1, wf_2_2, wp_2_2, wf_2_3, wp_2_3, wf_2_4, wf_2_5, wr_5, wf_5_0, wf_5_1, wf_5_2, wp_5_2, wf_5_3, wp_5_3, wr_7, wf_7_0, wf_7_1, wf_7_2, wp_7_2, wr_10, wf_10_0, wf_10_1, wf_10_2, wp_10_2, wr_13, wf_13_0, wf_13_1, wf_13_2, wp_13_2, wr_16, wf_16_0, wf_16_1, wf_16_2, wf_16_3, wf_16_4, wr_17, wf_17_0, wp_17_0, wf_17_1, wp_17_1, wf_17_2, wp_17_2, wf_17_3, wp_17_3, wf_17_4, wf_17_5, wr_20, wf_20_0, wf_20_1, wf_20_2, wp_20_2, wf_20_3, wp_20_3, wr_22, wf_22_0, wf_22_1, wf_22_2, wp_22_2, wr_25, wf_25_0, wf_25_1, wf_25_2, wp_25_2, wr_28, wf_28_0, wf_28_1, wf_28_2, wp_28_2, wr_31, wf_31_0, wf_31_1, wf_31_2, wp_31_2, wf_31_3, wp_31_3, wr_33, wf_33_0, wf_33_1, wp_33_1, wf_33_2, wp_33_2, wr_35, wf_35_0, wf_35_1, wp_35_1, wf_35_2, wp_35_2, wf_35_3, wp_35_3, wr_36, wf_36_0, wf_36_1, wp_36_1, wf_36_2, wp_36_2, wr_38, wf_38_0, wp_38_0, wf_38_1, wp_38_1, wf_38_2, wp_38_2, wf_38_3, wp_38_3, wf_38_4, wf_38_5, wf_38_6, wf_38_7, wr_43, wf_43_0, wf_43_1, wp_43_1, wf_43_2, wf_43_3, wf_43_4, wp_43_4, wf_43_5, wp_43_5, wr_48, wf_48_0, wp_48_0, wf_48_1, wp_48_1, wf_48_2, wr_50, wf_50_0, wp_50_0, wf_50_1, wp_50_1, wf_50_2, wr_52, wf_52_0, wp_52_0, wf_52_1, wp_52_1, wf_52_2, wr_54, wf_54_0, wp_54_0, wf_54_1, wp_54_1, wf_54_2, wr_56, wf_56_0, wp_56_0, wf_56_1, wp_56_1, wf_56_2, wr_58, wf_58_0, wp_58_0, wf_58_1, wp_58_1, wf_58_2, wr_60, wf_60_0, wp_60_0, wf_60_1, wp_60_1, wf_60_2, wp_60_2, wf_60_3, wp_60_3, wf_60_4, wf_60_5, wf_60_6, wf_60_7, wf_60_8, wf_60_9, wf_60_10, wf_60_11, wp_60_11, wf_60_12, wf_60_13, wf_60_14, wp_60_14, wf_60_15, wf_60_16, wf_60_17, wp_60_17, wf_60_18, wf_60_19, wp_60_19, wf_60_20, wp_60_20, wf_60_21, wf_60_22, wf_60_23, wp_60_23, wf_60_24, wf_60_25, wf_60_26, wf_60_27, wf_60_28, wf_60_29, wp_60_29, wf_60_30, wf_60_31, wf_60_32, wf_60_33, wf_60_34, wp_60_34, wf_60_35, wf_60_36, wf_60_37, wf_60_38, wp_60_38, wf_60_39, wp_60_39, wf_60_40, wp_60_40, wf_60_41, wp_60_41, Nat.reduceEqDiff, if_true, if_false, reduceIte, ri_i, ri_2, rl_1, rl_l, rl_3, ra_1, ra_2, ra_a, ra_4, rj_1, rj_2, rj_3, rj_j, m3, e0]) (fun f g i hi => by
      have e1 : (nI (MB V K) ≤ nI i) ↔ False := iff_false_intro (nI_ge hi (by omega))
      obtain ⟨a1, a2, a3, a4, a5⟩ := sig_ok hV hp hq hi
      have x1 := ex_1 (BT V K i) (BT_in hi).2.1 p (by omega) q (by omega)
      rw [Bool.and_eq_true, decide_eq_true_eq, decide_eq_true_eq] at x1
      have e2 : M.2.2.1 61 i = nI (BT V K i) := mB.1 i hi
      have i56 : i < 56 := by omega
      have s56 : sig V K p q i < 56 := by omega
      have e4 : M.2.2.1 62 (exS (BT V K i) p q) = nI (sig V K p q i) := by
        rw [mB.2 _ a1]
        unfold nb
        rw [if_pos a2]
        rfl
      have fin : J_X10_exchanges_3 60 64 (nI p) (nI q) K' (f + 1) (nI i) (Wd (sa M 82 g)) = (gR (Wd (sa M 82 g)) 60 10 32).bind fun a15 => (gR (Wd (sa M 82 g)) 60 10 5).bind fun a16 => (aI (Wd (sa M 82 g)) a16 (mxI (nI (BT V K i)) (nI p) (nI q))).bind fun v17 => (aI (Wd (sa M 82 g)) 64 (nI i)).bind fun v18 => (sI (Wd (sa M 82 g)) a15 v17 v18).bind fun w19 => rLet (nI i + 1) fun v20 => J_X10_exchanges_3 60 64 (nI p) (nI q) K' f v20 w19 := by
        rw [J_X10_exchanges_3]
        have f1 : (sa M 82 g).1 60 3 = nI (MB V K) := m3
        have f2 : (sa M 82 g).2.2.1 61 i = nI (BT V K i) := e2
        rw [wf_60_3, bs, f1, if_neg (nI_ge hi (by omega)), wf_60_4, bs, wa_61 i56, bs, f2]
        unfold mxI mxA mxH
        simp only [rLet_eq]
        by_cases c1 : ((nI (BT V K i) >>> (nI p &&& 31)) &&& 1) = 1
        · by_cases c2 : ((nI (BT V K i) >>> (nI q &&& 31)) &&& 1) = 1
          · simp only [c1, c2, if_true]
          · simp only [c1, c2, if_true, if_false]
        · by_cases c2 : ((nI (BT V K i) >>> (nI q &&& 31)) &&& 1) = 1
          · simp only [c1, c2, if_true, if_false]
          · simp only [c1, c2, if_false]
      show J_X10_exchanges_3 60 64 (nI p) (nI q) K' (f + 1) (nI i) (Wd (sa M 82 g)) = _
      rw [fin, x1.2]
      simp only [rLet_eq, wf_60_32, wf_60_5, bs, wa_62 a1, Nat.reduceEqDiff, if_true, if_false, reduceIte, ri_i, ri_2, rl_1, rl_l, rl_3, ra_1, ra_2, ra_a, ra_4, rj_1, rj_2, rj_3, rj_j, e4, wa_64 i56, wt_82 s56, nI_1, sa_ss]) (MB V K) 2000 (M.2.2.1 82) 0 (by omega) (by omega)
  have p1 := rF_inv (fun i (g : Nat → Int32) => upd g (sig V K p q i) (M.2.2.1 64 i)) (fun i g => i ≤ MB V K → ∀ j, j < MB V K → sig V K p q j < i → g j = M.2.2.1 64 (sig V K p q j)) (MB V K) 0 (M.2.2.1 82) (fun _ j _ h => absurd h (Nat.not_lt_zero _)) (fun i g h1 h2 hI hi j hj hs => by
    by_cases hj2 : j = sig V K p q i
    · have := (sig_ok hV hp hq (show i < MB V K by omega)).2.2.2.2
      show upd g (sig V K p q i) (M.2.2.1 64 i) j = _
      rw [hj2, up_s, this]
    · show upd g (sig V K p q i) (M.2.2.1 64 i) j = _
      rw [up_n hj2]
      refine hI (by omega) j hj ?_
      have h5 := (sig_ok hV hp hq hj).2.2.2.2
      rcases Nat.lt_or_ge (sig V K p q j) i with h | h
      · exact h
      · have : sig V K p q j = i := by omega
        rw [this] at h5
        exact absurd h5.symm hj2)
  rw [Nat.zero_add] at p1
  have p2 : ∀ j, j < MB V K → rF (fun i (g : Nat → Int32) => upd g (sig V K p q i) (M.2.2.1 64 i)) (MB V K) 0 (M.2.2.1 82) j = M.2.2.1 64 (sig V K p q j) := fun j hj => p1 (Nat.le_refl _) j hj (sig_ok hV hp hq hj).2.2.1
  have l2 : ∀ g, J_X10_exchanges_96 60 64 2000 0 (Wd (sa M 82 g)) = some (Wd (sa (sa M 64 (cpyR (M.2.2.1 64) g (MB V K))) 82 g)) := by
    intro g
    have l2 := loopS (fun f h i => J_X10_exchanges_96 60 64 f (nI i) (Wd (sa (sa M 64 h) 82 g))) (fun h => some (Wd (sa (sa M 64 h) 82 g))) (fun i h => upd h i (g i)) (MB V K) (fun f h => by
        rw [J_X10_exchanges_96]
        simp only [Nat.reduceEqDiff, Nat.reduceAdd, Nat.reduceMul, reduceCtorEq, if_true, if_false, bs, rLet_eq, rB2_e, reduceIte, wr_0, wf_0_0, wf_0_1, wf_0_2, wp_0_2, wf_0_3, wf_0_4, wf_0_5, wf_0_6, wf_0_7, wf_0_8, wr_1, wf_1_0, wf_1_1, wf_1_2, wf_1_3, wf_1_4, wr_2, wf_2_0, wp_2_0, wf_2_1, wp_2_1, wf_2_2, wp_2_2, wf_2_3, wp_2_3, wf_2_4, wf_2_5, wr_5, wf_5_0, wf_5_1, wf_5_2, wp_5_2, wf_5_3, wp_5_3, wr_7, wf_7_0, wf_7_1, wf_7_2, wp_7_2, wr_10, wf_10_0, wf_10_1, wf_10_2, wp_10_2, wr_13, wf_13_0, wf_13_1, wf_13_2, wp_13_2, wr_16, wf_16_0, wf_16_1, wf_16_2, wf_16_3, wf_16_4, wr_17, wf_17_0, wp_17_0, wf_17_1, wp_17_1, wf_17_2, wp_17_2, wf_17_3, wp_17_3, wf_17_4, wf_17_5, wr_20, wf_20_0, wf_20_1, wf_20_2, wp_20_2, wf_20_3, wp_20_3, wr_22, wf_22_0, wf_22_1, wf_22_2, wp_22_2, wr_25, wf_25_0, wf_25_1, wf_25_2, wp_25_2, wr_28, wf_28_0, wf_28_1, wf_28_2, wp_28_2, wr_31, wf_31_0, wf_31_1, wf_31_2, wp_31_2, wf_31_3, wp_31_3, wr_33, wf_33_0, wf_33_1, wp_33_1, wf_33_2, wp_33_2, wr_35, wf_35_0, wf_35_1, wp_35_1, wf_35_2, wp_35_2, wf_35_3, wp_35_3, wr_36, wf_36_0, wf_36_1, wp_36_1, wf_36_2, wp_36_2, wr_38, wf_38_0, wp_38_0, wf_38_1, wp_38_1, wf_38_2, wp_38_2, wf_38_3, wp_38_3, wf_38_4, wf_38_5, wf_38_6, wf_38_7, wr_43, wf_43_0, wf_43_1, wp_43_1, wf_43_2, wf_43_3, wf_43_4, wp_43_4, wf_43_5, wp_43_5, wr_48, wf_48_0, wp_48_0, wf_48_1, wp_48_1, wf_48_2, wr_50, wf_50_0, wp_50_0, wf_50_1, wp_50_1, wf_50_2, wr_52, wf_52_0, wp_52_0, wf_52_1, wp_52_1, wf_52_2, wr_54, wf_54_0, wp_54_0, wf_54_1, wp_54_1, wf_54_2, wr_56, wf_56_0, wp_56_0, wf_56_1, wp_56_1, wf_56_2, wr_58, wf_58_0, wp_58_0, wf_58_1, wp_58_1, wf_58_2, wr_60, wf_60_0, wp_60_0, wf_60_1, wp_60_1, wf_60_2, wp_60_2, wf_60_3, wp_60_3, wf_60_4, wf_60_5, wf_60_6, wf_60_7, wf_60_8, wf_60_9, wf_60_10, wf_60_11, wp_60_11, wf_60_12, wf_60_13, wf_60_14, wp_60_14, wf_60_15, wf_60_16, wf_60_17, wp_60_17, wf_60_18, wf_60_19, wp_60_19, wf_60_20, wp_60_20, wf_60_21, wf_60_22, wf_60_23, wp_60_23, wf_60_24, wf_60_25, wf_60_26, wf_60_27, wf_60_28, wf_60_29, wp_60_29, wf_60_30, wf_60_31, wf_60_32, wf_60_33, wf_60_34, wp_60_34, wf_60_35, wf_60_36, wf_60_37, wf_60_38, wp_60_38, wf_60_39, wp_60_39, wf_60_40, wp_60_40, wf_60_41, wp_60_41, Nat.reduceEqDiff, if_true, if_false, reduceIte, ri_i, ri_2, rl_1, rl_l, rl_3, ra_1, ra_2, ra_a, ra_4, rj_1, rj_2, rj_3, rj_j, m3, e0]) (fun f h i hi => by
        have e1 : (nI (MB V K) ≤ nI i) ↔ False := iff_false_intro (nI_ge hi (by omega))
        rw [J_X10_exchanges_96]
        simp (disch := omega) only [Nat.reduceEqDiff, Nat.reduceAdd, Nat.reduceMul, reduceCtorEq, if_true, if_false, bs, rLet_eq, rB2_e, reduceIte, wr_0, wf_0_0, wf_0_1, wf_0_2, wp_0_2, wf_0_3, wf_0_4, wf_0_5, wf_0_6, wf_0_7, wf_0_8, wr_1, wf_1_0, wf_1_1, wf_1_2, wf_1_3, wf_1_4, wr_2, wf_2_0, wp_2_0, wf_2_1, wp_2_1, wf_2_2, wp_2_2, wf_2_3, wp_2_3, wf_2_4, wf_2_5, wr_5, wf_5_0, wf_5_1, wf_5_2, wp_5_2, wf_5_3, wp_5_3, wr_7, wf_7_0, wf_7_1, wf_7_2, wp_7_2, wr_10, wf_10_0, wf_10_1, wf_10_2, wp_10_2, wr_13, wf_13_0, wf_13_1, wf_13_2, wp_13_2, wr_16, wf_16_0, wf_16_1, wf_16_2, wf_16_3, wf_16_4, wr_17, wf_17_0, wp_17_0, wf_17_1, wp_17_1, wf_17_2, wp_17_2, wf_17_3, wp_17_3, wf_17_4, wf_17_5, wr_20, wf_20_0, wf_20_1, wf_20_2, wp_20_2, wf_20_3, wp_20_3, wr_22, wf_22_0, wf_22_1, wf_22_2, wp_22_2, wr_25, wf_25_0, wf_25_1, wf_25_2, wp_25_2, wr_28, wf_28_0, wf_28_1, wf_28_2, wp_28_2, wr_31, wf_31_0, wf_31_1, wf_31_2, wp_31_2, wf_31_3, wp_31_3, wr_33, wf_33_0, wf_33_1, wp_33_1, wf_33_2, wp_33_2, wr_35, wf_35_0, wf_35_1, wp_35_1, wf_35_2, wp_35_2, wf_35_3, wp_35_3, wr_36, wf_36_0, wf_36_1, wp_36_1, wf_36_2, wp_36_2, wr_38, wf_38_0, wp_38_0, wf_38_1, wp_38_1, wf_38_2, wp_38_2, wf_38_3, wp_38_3, wf_38_4, wf_38_5, wf_38_6, wf_38_7, wr_43, wf_43_0, wf_43_1, wp_43_1, wf_43_2, wf_43_3, wf_43_4, wp_43_4, wf_43_5, wp_43_5, wr_48, wf_48_0, wp_48_0, wf_48_1, wp_48_1, wf_48_2, wr_50, wf_50_0, wp_50_0, wf_50_1, wp_50_1, wf_50_2, wr_52, wf_52_0, wp_52_0, wf_52_1, wp_52_1, wf_52_2, wr_54, wf_54_0, wp_54_0, wf_54_1, wp_54_1, wf_54_2, wr_56, wf_56_0, wp_56_0, wf_56_1, wp_56_1, wf_56_2, wr_58, wf_58_0, wp_58_0, wf_58_1, wp_58_1, wf_58_2, wr_60, wf_60_0, wp_60_0, wf_60_1, wp_60_1, wf_60_2, wp_60_2, wf_60_3, wp_60_3, wf_60_4, wf_60_5, wf_60_6, wf_60_7, wf_60_8, wf_60_9, wf_60_10, wf_60_11, wp_60_11, wf_60_12, wf_60_13, wf_60_14, wp_60_14, wf_60_15, wf_60_16, wf_60_17, wp_60_17, wf_60_18, wf_60_19, wp_60_19, wf_60_20, wp_60_20, wf_60_21, wf_60_22, wf_60_23, wp_60_23, wf_60_24, wf_60_25, wf_60_26, wf_60_27, wf_60_28, wf_60_29, wp_60_29, wf_60_30, wf_60_31, wf_60_32, wf_60_33, wf_60_34, wp_60_34, wf_60_35, wf_60_36, wf_60_37, wf_60_38, wp_60_38, wf_60_39, wp_60_39, wf_60_40, wp_60_40, wf_60_41, wp_60_41, wa_3, wt_3, wa_4, wt_4, wa_6, wt_6, wa_8, wt_8, wa_9, wt_9, wa_11, wt_11, wa_12, wt_12, wa_14, wt_14, wa_15, wt_15, wa_18, wt_18, wa_19, wt_19, wa_21, wt_21, wa_23, wt_23, wa_24, wt_24, wa_26, wt_26, wa_27, wt_27, wa_29, wt_29, wa_30, wt_30, wa_32, wt_32, wa_34, wt_34, wa_37, wt_37, wa_39, wt_39, wa_40, wt_40, wa_41, wt_41, wa_42, wt_42, wa_44, wt_44, wa_45, wt_45, wa_46, wt_46, wa_49, wt_49, wa_51, wt_51, wa_53, wt_53, wa_55, wt_55, wa_57, wt_57, wa_59, wt_59, wa_61, wt_61, wa_62, wt_62, wa_63, wt_63, wa_64, wt_64, wa_65, wt_65, wa_66, wt_66, wa_67, wt_67, wa_68, wt_68, wa_69, wt_69, wa_70, wt_70, wa_71, wt_71, wa_72, wt_72, wa_73, wt_73, wa_74, wt_74, wa_75, wt_75, wa_76, wt_76, wa_77, wt_77, wa_78, wt_78, wa_79, wt_79, wa_80, wt_80, wa_81, wt_81, wa_82, wt_82, wa_83, wt_83, wa_84, wt_84, wa_85, wt_85, wa_86, wt_86, wl_47, Nat.reduceEqDiff, if_true, if_false, reduceIte, ri_i, ri_2, rl_1, rl_l, rl_3, ra_1, ra_2, ra_a, ra_4, rj_1, rj_2, rj_3, rj_j, sa_ss, sj_ss, si_ss, sl_ss, sa_sx, sj_sx, si_x1, si_x2, sl_x1, sl_x2, si_sl, si_sa, si_sj, sl_sa, sl_sj, sa_sj, Nat.reduceAdd, m3, e1, nI_1]) (MB V K) 2000 (M.2.2.1 64) 0 (by omega) (by omega)
    rw [rF_pt (fun j _ => g j)] at l2
    simp only [sa_id, nI_0, Nat.zero_le, true_and, Nat.zero_add] at l2
    exact l2
  refine ⟨rF (fun i (g : Nat → Int32) => upd g (sig V K p q i) (M.2.2.1 64 i)) (MB V K) 0 (M.2.2.1 82), cpyR (M.2.2.1 64) (rF (fun i (g : Nat → Int32) => upd g (sig V K p q i) (M.2.2.1 64 i)) (MB V K) 0 (M.2.2.1 82)) (MB V K), ?_, fun j hj => ?_, fun j hj => ?_⟩
  · simp only [sa_id, nI_0] at l1
    unfold J_X10_exchanges
    rw [wr_60, rLet_eq, l1, l2]
  · unfold cpyR
    rw [if_pos hj, p2 j hj]
  · unfold cpyR
    rw [if_neg (by omega)]
theorem exch60_65 {M : rSt} {V K T p q : Nat} (hk : Ok3 V K T) (hp : p < V) (hq : q < V) (m3 : M.1 60 3 = nI (MB V K)) (mB : IsB V K (M.2.2.1 61) (M.2.2.1 62)) : ∃ g h, J_X10_exchanges 60 65 (nI p) (nI q) (Wd M) = some (Wd (sa (sa M 65 h) 82 g)) ∧ (∀ j, j < MB V K → h j = M.2.2.1 65 (sig V K p q j)) ∧ ∀ j, MB V K ≤ j → h j = M.2.2.1 65 j := by
  have hM := MB_ok hk
  have hV := hk.2.1
  have e0 := nI_refl (n := MB V K) (by omega)
  have l1 := fun K' => loopS (fun f g i => J_X10_exchanges_3 60 65 (nI p) (nI q) K' f (nI i) (Wd (sa M 82 g))) (fun g => K' (Wd (sa M 82 g))) (fun i g => upd g (sig V K p q i) (M.2.2.1 65 i)) (MB V K) (fun f g => by
      rw [J_X10_exchanges_3]
      simp only [Nat.reduceEqDiff, Nat.reduceAdd, Nat.reduceMul, reduceCtorEq, if_true, if_false, bs, rLet_eq, rB2_e, reduceIte, wr_0, wf_0_0, wf_0_1, wf_0_2, wp_0_2, wf_0_3, wf_0_4, wf_0_5, wf_0_6, wf_0_7, wf_0_8, wr_1, wf_1_0, wf_1_1, wf_1_2, wf_1_3, wf_1_4, wr_2, wf_2_0, wp_2_0, wf_2_1, wp_2_1, wf_2_2, wp_2_2, wf_2_3, wp_2_3, wf_2_4, wf_2_5, wr_5, wf_5_0, wf_5_1, wf_5_2, wp_5_2, wf_5_3, wp_5_3, wr_7, wf_7_0, wf_7_1, wf_7_2, wp_7_2, wr_10, wf_10_0, wf_10_1, wf_10_2, wp_10_2, wr_13, wf_13_0, wf_13_1, wf_13_2, wp_13_2, wr_16, wf_16_0, wf_16_1, wf_16_2, wf_16_3, wf_16_4, wr_17, wf_17_0, wp_17_0, wf_17_1, wp_17_1, wf_17_2, wp_17_2, wf_17_3, wp_17_3, wf_17_4, wf_17_5, wr_20, wf_20_0, wf_20_1, wf_20_2, wp_20_2, wf_20_3, wp_20_3, wr_22, wf_22_0, wf_22_1, wf_22_2, wp_22_2, wr_25, wf_25_0, wf_25_1, wf_25_2, wp_25_2, wr_28, wf_28_0, wf_28_1, wf_28_2, wp_28_2, wr_31, wf_31_0, wf_31_1, wf_31_2, wp_31_2, wf_31_3, wp_31_3, wr_33, wf_33_0, wf_33_1, wp_33_1, wf_33_2, wp_33_2, wr_35, wf_35_0, wf_35_1, wp_35_1, wf_35_2, wp_35_2, wf_35_3, wp_35_3, wr_36, wf_36_0, wf_36_1, wp_36_1, wf_36_2, wp_36_2, wr_38, wf_38_0, wp_38_0, wf_38_1, wp_38_1, wf_38_2, wp_38_2, wf_38_3, wp_38_3, wf_38_4, wf_38_5, wf_38_6, wf_38_7, wr_43, wf_43_0, wf_43_1, wp_43_1, wf_43_2, wf_43_3, wf_43_4, wp_43_4, wf_43_5, wp_43_5, wr_48, wf_48_0, wp_48_0, wf_48_1, wp_48_1, wf_48_2, wr_50, wf_50_0, wp_50_0, wf_50_1, wp_50_1, wf_50_2, wr_52, wf_52_0, wp_52_0, wf_52_1, wp_52_1, wf_52_2, wr_54, wf_54_0, wp_54_0, wf_54_1, wp_54_1, wf_54_2, wr_56, wf_56_0, wp_56_0, wf_56_1, wp_56_1, wf_56_2, wr_58, wf_58_0, wp_58_0, wf_58_1, wp_58_1, wf_58_2, wr_60, wf_60_0, wp_60_0, wf_60_1, wp_60_1, wf_60_2, wp_60_2, wf_60_3, wp_60_3, wf_60_4, wf_60_5, wf_60_6, wf_60_7, wf_60_8, wf_60_9, wf_60_10, wf_60_11, wp_60_11, wf_60_12, wf_60_13, wf_60_14, wp_60_14, wf_60_15, wf_60_16, wf_60_17, wp_60_17, wf_60_18, wf_60_19, wp_60_19, wf_60_20, wp_60_20, wf_60_21, wf_60_22, wf_60_23, wp_60_23, wf_60_24, wf_60_25, wf_60_26, wf_60_27, wf_60_28, wf_60_29, wp_60_29, wf_60_30, wf_60_31, wf_60_32, wf_60_33, wf_60_34, wp_60_34, wf_60_35, wf_60_36, wf_60_37, wf_60_38, wp_60_38, wf_60_39, wp_60_39, wf_60_40, wp_60_40, wf_60_41, wp_60_41, Nat.reduceEqDiff, if_true, if_false, reduceIte, ri_i, ri_2, rl_1, rl_l, rl_3, ra_1, ra_2, ra_a, ra_4, rj_1, rj_2, rj_3, rj_j, m3, e0]) (fun f g i hi => by
      have e1 : (nI (MB V K) ≤ nI i) ↔ False := iff_false_intro (nI_ge hi (by omega))
      obtain ⟨a1, a2, a3, a4, a5⟩ := sig_ok hV hp hq hi
      have x1 := ex_1 (BT V K i) (BT_in hi).2.1 p (by omega) q (by omega)
      rw [Bool.and_eq_true, decide_eq_true_eq, decide_eq_true_eq] at x1
      have e2 : M.2.2.1 61 i = nI (BT V K i) := mB.1 i hi
      have i56 : i < 56 := by omega
      have s56 : sig V K p q i < 56 := by omega
      have e4 : M.2.2.1 62 (exS (BT V K i) p q) = nI (sig V K p q i) := by
        rw [mB.2 _ a1]
        unfold nb
        rw [if_pos a2]
        rfl
      have fin : J_X10_exchanges_3 60 65 (nI p) (nI q) K' (f + 1) (nI i) (Wd (sa M 82 g)) = (gR (Wd (sa M 82 g)) 60 10 32).bind fun a15 => (gR (Wd (sa M 82 g)) 60 10 5).bind fun a16 => (aI (Wd (sa M 82 g)) a16 (mxI (nI (BT V K i)) (nI p) (nI q))).bind fun v17 => (aI (Wd (sa M 82 g)) 65 (nI i)).bind fun v18 => (sI (Wd (sa M 82 g)) a15 v17 v18).bind fun w19 => rLet (nI i + 1) fun v20 => J_X10_exchanges_3 60 65 (nI p) (nI q) K' f v20 w19 := by
        rw [J_X10_exchanges_3]
        have f1 : (sa M 82 g).1 60 3 = nI (MB V K) := m3
        have f2 : (sa M 82 g).2.2.1 61 i = nI (BT V K i) := e2
        rw [wf_60_3, bs, f1, if_neg (nI_ge hi (by omega)), wf_60_4, bs, wa_61 i56, bs, f2]
        unfold mxI mxA mxH
        simp only [rLet_eq]
        by_cases c1 : ((nI (BT V K i) >>> (nI p &&& 31)) &&& 1) = 1
        · by_cases c2 : ((nI (BT V K i) >>> (nI q &&& 31)) &&& 1) = 1
          · simp only [c1, c2, if_true]
          · simp only [c1, c2, if_true, if_false]
        · by_cases c2 : ((nI (BT V K i) >>> (nI q &&& 31)) &&& 1) = 1
          · simp only [c1, c2, if_true, if_false]
          · simp only [c1, c2, if_false]
      show J_X10_exchanges_3 60 65 (nI p) (nI q) K' (f + 1) (nI i) (Wd (sa M 82 g)) = _
      rw [fin, x1.2]
      simp only [rLet_eq, wf_60_32, wf_60_5, bs, wa_62 a1, Nat.reduceEqDiff, if_true, if_false, reduceIte, ri_i, ri_2, rl_1, rl_l, rl_3, ra_1, ra_2, ra_a, ra_4, rj_1, rj_2, rj_3, rj_j, e4, wa_65 i56, wt_82 s56, nI_1, sa_ss]) (MB V K) 2000 (M.2.2.1 82) 0 (by omega) (by omega)
  have p1 := rF_inv (fun i (g : Nat → Int32) => upd g (sig V K p q i) (M.2.2.1 65 i)) (fun i g => i ≤ MB V K → ∀ j, j < MB V K → sig V K p q j < i → g j = M.2.2.1 65 (sig V K p q j)) (MB V K) 0 (M.2.2.1 82) (fun _ j _ h => absurd h (Nat.not_lt_zero _)) (fun i g h1 h2 hI hi j hj hs => by
    by_cases hj2 : j = sig V K p q i
    · have := (sig_ok hV hp hq (show i < MB V K by omega)).2.2.2.2
      show upd g (sig V K p q i) (M.2.2.1 65 i) j = _
      rw [hj2, up_s, this]
    · show upd g (sig V K p q i) (M.2.2.1 65 i) j = _
      rw [up_n hj2]
      refine hI (by omega) j hj ?_
      have h5 := (sig_ok hV hp hq hj).2.2.2.2
      rcases Nat.lt_or_ge (sig V K p q j) i with h | h
      · exact h
      · have : sig V K p q j = i := by omega
        rw [this] at h5
        exact absurd h5.symm hj2)
  rw [Nat.zero_add] at p1
  have p2 : ∀ j, j < MB V K → rF (fun i (g : Nat → Int32) => upd g (sig V K p q i) (M.2.2.1 65 i)) (MB V K) 0 (M.2.2.1 82) j = M.2.2.1 65 (sig V K p q j) := fun j hj => p1 (Nat.le_refl _) j hj (sig_ok hV hp hq hj).2.2.1
  have l2 : ∀ g, J_X10_exchanges_96 60 65 2000 0 (Wd (sa M 82 g)) = some (Wd (sa (sa M 65 (cpyR (M.2.2.1 65) g (MB V K))) 82 g)) := by
    intro g
    have l2 := loopS (fun f h i => J_X10_exchanges_96 60 65 f (nI i) (Wd (sa (sa M 65 h) 82 g))) (fun h => some (Wd (sa (sa M 65 h) 82 g))) (fun i h => upd h i (g i)) (MB V K) (fun f h => by
        rw [J_X10_exchanges_96]
        simp only [Nat.reduceEqDiff, Nat.reduceAdd, Nat.reduceMul, reduceCtorEq, if_true, if_false, bs, rLet_eq, rB2_e, reduceIte, wr_0, wf_0_0, wf_0_1, wf_0_2, wp_0_2, wf_0_3, wf_0_4, wf_0_5, wf_0_6, wf_0_7, wf_0_8, wr_1, wf_1_0, wf_1_1, wf_1_2, wf_1_3, wf_1_4, wr_2, wf_2_0, wp_2_0, wf_2_1, wp_2_1, wf_2_2, wp_2_2, wf_2_3, wp_2_3, wf_2_4, wf_2_5, wr_5, wf_5_0, wf_5_1, wf_5_2, wp_5_2, wf_5_3, wp_5_3, wr_7, wf_7_0, wf_7_1, wf_7_2, wp_7_2, wr_10, wf_10_0, wf_10_1, wf_10_2, wp_10_2, wr_13, wf_13_0, wf_13_1, wf_13_2, wp_13_2, wr_16, wf_16_0, wf_16_1, wf_16_2, wf_16_3, wf_16_4, wr_17, wf_17_0, wp_17_0, wf_17_1, wp_17_1, wf_17_2, wp_17_2, wf_17_3, wp_17_3, wf_17_4, wf_17_5, wr_20, wf_20_0, wf_20_1, wf_20_2, wp_20_2, wf_20_3, wp_20_3, wr_22, wf_22_0, wf_22_1, wf_22_2, wp_22_2, wr_25, wf_25_0, wf_25_1, wf_25_2, wp_25_2, wr_28, wf_28_0, wf_28_1, wf_28_2, wp_28_2, wr_31, wf_31_0, wf_31_1, wf_31_2, wp_31_2, wf_31_3, wp_31_3, wr_33, wf_33_0, wf_33_1, wp_33_1, wf_33_2, wp_33_2, wr_35, wf_35_0, wf_35_1, wp_35_1, wf_35_2, wp_35_2, wf_35_3, wp_35_3, wr_36, wf_36_0, wf_36_1, wp_36_1, wf_36_2, wp_36_2, wr_38, wf_38_0, wp_38_0, wf_38_1, wp_38_1, wf_38_2, wp_38_2, wf_38_3, wp_38_3, wf_38_4, wf_38_5, wf_38_6, wf_38_7, wr_43, wf_43_0, wf_43_1, wp_43_1, wf_43_2, wf_43_3, wf_43_4, wp_43_4, wf_43_5, wp_43_5, wr_48, wf_48_0, wp_48_0, wf_48_1, wp_48_1, wf_48_2, wr_50, wf_50_0, wp_50_0, wf_50_1, wp_50_1, wf_50_2, wr_52, wf_52_0, wp_52_0, wf_52_1, wp_52_1, wf_52_2, wr_54, wf_54_0, wp_54_0, wf_54_1, wp_54_1, wf_54_2, wr_56, wf_56_0, wp_56_0, wf_56_1, wp_56_1, wf_56_2, wr_58, wf_58_0, wp_58_0, wf_58_1, wp_58_1, wf_58_2, wr_60, wf_60_0, wp_60_0, wf_60_1, wp_60_1, wf_60_2, wp_60_2, wf_60_3, wp_60_3, wf_60_4, wf_60_5, wf_60_6, wf_60_7, wf_60_8, wf_60_9, wf_60_10, wf_60_11, wp_60_11, wf_60_12, wf_60_13, wf_60_14, wp_60_14, wf_60_15, wf_60_16, wf_60_17, wp_60_17, wf_60_18, wf_60_19, wp_60_19, wf_60_20, wp_60_20, wf_60_21, wf_60_22, wf_60_23, wp_60_23, wf_60_24, wf_60_25, wf_60_26, wf_60_27, wf_60_28, wf_60_29, wp_60_29, wf_60_30, wf_60_31, wf_60_32, wf_60_33, wf_60_34, wp_60_34, wf_60_35, wf_60_36, wf_60_37, wf_60_38, wp_60_38, wf_60_39, wp_60_39, wf_60_40, wp_60_40, wf_60_41, wp_60_41, Nat.reduceEqDiff, if_true, if_false, reduceIte, ri_i, ri_2, rl_1, rl_l, rl_3, ra_1, ra_2, ra_a, ra_4, rj_1, rj_2, rj_3, rj_j, m3, e0]) (fun f h i hi => by
        have e1 : (nI (MB V K) ≤ nI i) ↔ False := iff_false_intro (nI_ge hi (by omega))
        rw [J_X10_exchanges_96]
        simp (disch := omega) only [Nat.reduceEqDiff, Nat.reduceAdd, Nat.reduceMul, reduceCtorEq, if_true, if_false, bs, rLet_eq, rB2_e, reduceIte, wr_0, wf_0_0, wf_0_1, wf_0_2, wp_0_2, wf_0_3, wf_0_4, wf_0_5, wf_0_6, wf_0_7, wf_0_8, wr_1, wf_1_0, wf_1_1, wf_1_2, wf_1_3, wf_1_4, wr_2, wf_2_0, wp_2_0, wf_2_1, wp_2_1, wf_2_2, wp_2_2, wf_2_3, wp_2_3, wf_2_4, wf_2_5, wr_5, wf_5_0, wf_5_1, wf_5_2, wp_5_2, wf_5_3, wp_5_3, wr_7, wf_7_0, wf_7_1, wf_7_2, wp_7_2, wr_10, wf_10_0, wf_10_1, wf_10_2, wp_10_2, wr_13, wf_13_0, wf_13_1, wf_13_2, wp_13_2, wr_16, wf_16_0, wf_16_1, wf_16_2, wf_16_3, wf_16_4, wr_17, wf_17_0, wp_17_0, wf_17_1, wp_17_1, wf_17_2, wp_17_2, wf_17_3, wp_17_3, wf_17_4, wf_17_5, wr_20, wf_20_0, wf_20_1, wf_20_2, wp_20_2, wf_20_3, wp_20_3, wr_22, wf_22_0, wf_22_1, wf_22_2, wp_22_2, wr_25, wf_25_0, wf_25_1, wf_25_2, wp_25_2, wr_28, wf_28_0, wf_28_1, wf_28_2, wp_28_2, wr_31, wf_31_0, wf_31_1, wf_31_2, wp_31_2, wf_31_3, wp_31_3, wr_33, wf_33_0, wf_33_1, wp_33_1, wf_33_2, wp_33_2, wr_35, wf_35_0, wf_35_1, wp_35_1, wf_35_2, wp_35_2, wf_35_3, wp_35_3, wr_36, wf_36_0, wf_36_1, wp_36_1, wf_36_2, wp_36_2, wr_38, wf_38_0, wp_38_0, wf_38_1, wp_38_1, wf_38_2, wp_38_2, wf_38_3, wp_38_3, wf_38_4, wf_38_5, wf_38_6, wf_38_7, wr_43, wf_43_0, wf_43_1, wp_43_1, wf_43_2, wf_43_3, wf_43_4, wp_43_4, wf_43_5, wp_43_5, wr_48, wf_48_0, wp_48_0, wf_48_1, wp_48_1, wf_48_2, wr_50, wf_50_0, wp_50_0, wf_50_1, wp_50_1, wf_50_2, wr_52, wf_52_0, wp_52_0, wf_52_1, wp_52_1, wf_52_2, wr_54, wf_54_0, wp_54_0, wf_54_1, wp_54_1, wf_54_2, wr_56, wf_56_0, wp_56_0, wf_56_1, wp_56_1, wf_56_2, wr_58, wf_58_0, wp_58_0, wf_58_1, wp_58_1, wf_58_2, wr_60, wf_60_0, wp_60_0, wf_60_1, wp_60_1, wf_60_2, wp_60_2, wf_60_3, wp_60_3, wf_60_4, wf_60_5, wf_60_6, wf_60_7, wf_60_8, wf_60_9, wf_60_10, wf_60_11, wp_60_11, wf_60_12, wf_60_13, wf_60_14, wp_60_14, wf_60_15, wf_60_16, wf_60_17, wp_60_17, wf_60_18, wf_60_19, wp_60_19, wf_60_20, wp_60_20, wf_60_21, wf_60_22, wf_60_23, wp_60_23, wf_60_24, wf_60_25, wf_60_26, wf_60_27, wf_60_28, wf_60_29, wp_60_29, wf_60_30, wf_60_31, wf_60_32, wf_60_33, wf_60_34, wp_60_34, wf_60_35, wf_60_36, wf_60_37, wf_60_38, wp_60_38, wf_60_39, wp_60_39, wf_60_40, wp_60_40, wf_60_41, wp_60_41, wa_3, wt_3, wa_4, wt_4, wa_6, wt_6, wa_8, wt_8, wa_9, wt_9, wa_11, wt_11, wa_12, wt_12, wa_14, wt_14, wa_15, wt_15, wa_18, wt_18, wa_19, wt_19, wa_21, wt_21, wa_23, wt_23, wa_24, wt_24, wa_26, wt_26, wa_27, wt_27, wa_29, wt_29, wa_30, wt_30, wa_32, wt_32, wa_34, wt_34, wa_37, wt_37, wa_39, wt_39, wa_40, wt_40, wa_41, wt_41, wa_42, wt_42, wa_44, wt_44, wa_45, wt_45, wa_46, wt_46, wa_49, wt_49, wa_51, wt_51, wa_53, wt_53, wa_55, wt_55, wa_57, wt_57, wa_59, wt_59, wa_61, wt_61, wa_62, wt_62, wa_63, wt_63, wa_64, wt_64, wa_65, wt_65, wa_66, wt_66, wa_67, wt_67, wa_68, wt_68, wa_69, wt_69, wa_70, wt_70, wa_71, wt_71, wa_72, wt_72, wa_73, wt_73, wa_74, wt_74, wa_75, wt_75, wa_76, wt_76, wa_77, wt_77, wa_78, wt_78, wa_79, wt_79, wa_80, wt_80, wa_81, wt_81, wa_82, wt_82, wa_83, wt_83, wa_84, wt_84, wa_85, wt_85, wa_86, wt_86, wl_47, Nat.reduceEqDiff, if_true, if_false, reduceIte, ri_i, ri_2, rl_1, rl_l, rl_3, ra_1, ra_2, ra_a, ra_4, rj_1, rj_2, rj_3, rj_j, sa_ss, sj_ss, si_ss, sl_ss, sa_sx, sj_sx, si_x1, si_x2, sl_x1, sl_x2, si_sl, si_sa, si_sj, sl_sa, sl_sj, sa_sj, Nat.reduceAdd, m3, e1, nI_1]) (MB V K) 2000 (M.2.2.1 65) 0 (by omega) (by omega)
    rw [rF_pt (fun j _ => g j)] at l2
    simp only [sa_id, nI_0, Nat.zero_le, true_and, Nat.zero_add] at l2
    exact l2
  refine ⟨rF (fun i (g : Nat → Int32) => upd g (sig V K p q i) (M.2.2.1 65 i)) (MB V K) 0 (M.2.2.1 82), cpyR (M.2.2.1 65) (rF (fun i (g : Nat → Int32) => upd g (sig V K p q i) (M.2.2.1 65 i)) (MB V K) 0 (M.2.2.1 82)) (MB V K), ?_, fun j hj => ?_, fun j hj => ?_⟩
  · simp only [sa_id, nI_0] at l1
    unfold J_X10_exchanges
    rw [wr_60, rLet_eq, l1, l2]
  · unfold cpyR
    rw [if_pos hj, p2 j hj]
  · unfold cpyR
    rw [if_neg (by omega)]
theorem op_exchange (x y : Int32) : Op (J_X9_exchange 0 x y) (J_X10_exchange 60 x y) := by
  intro V K T S M0 h0
  obtain ⟨⟨hk, c0, c1, c2, c3, cB⟩, -⟩ := h0.1
  have hM := MB_ok hk
  obtain ⟨k1, k2, k3, k4, k5, k6⟩ := id hk
  have e1 := hasPoint2 S x
  have e2 := hasPoint2 S y
  rw [c0] at e1 e2
  have f1 : ∀ M, R V K T S M → J_X10_isPoint 60 x (Wd M) = some (hasB x (nI V)) ∧ J_X10_isPoint 60 y (Wd M) = some (hasB y (nI V)) := by
    intro M hM'
    obtain ⟨-, -, m0, m1, m2, m3, mB⟩ := hM'.1
    exact ⟨isPoint60 m0 (by omega) k2 x, isPoint60 m0 (by omega) k2 y⟩
  cases h1 : hasB x (nI V)
  · refine ⟨-1, V, K, T, S, ?_, mE_r S, fun M hM' => ⟨M, ?_, hM', cE_r M⟩⟩
    · unfold J_X9_exchange
      simp only [Nat.reduceEqDiff, Nat.reduceAdd, Nat.reduceMul, reduceCtorEq, if_true, if_false, bs, rLet_eq, rB2_e, reduceIte, wr_0, wf_0_0, wf_0_1, wf_0_2, wp_0_2, wf_0_3, wf_0_4, wf_0_5, wf_0_6, wf_0_7, wf_0_8, wr_1, wf_1_0, wf_1_1, wf_1_2, wf_1_3, wf_1_4, wr_2, wf_2_0, wp_2_0, wf_2_1, wp_2_1, wf_2_2, wp_2_2, wf_2_3, wp_2_3, wf_2_4, wf_2_5, wr_5, wf_5_0, wf_5_1, wf_5_2, wp_5_2, wf_5_3, wp_5_3, wr_7, wf_7_0, wf_7_1, wf_7_2, wp_7_2, wr_10, wf_10_0, wf_10_1, wf_10_2, wp_10_2, wr_13, wf_13_0, wf_13_1, wf_13_2, wp_13_2, wr_16, wf_16_0, wf_16_1, wf_16_2, wf_16_3, wf_16_4, wr_17, wf_17_0, wp_17_0, wf_17_1, wp_17_1, wf_17_2, wp_17_2, wf_17_3, wp_17_3, wf_17_4, wf_17_5, wr_20, wf_20_0, wf_20_1, wf_20_2, wp_20_2, wf_20_3, wp_20_3, wr_22, wf_22_0, wf_22_1, wf_22_2, wp_22_2, wr_25, wf_25_0, wf_25_1, wf_25_2, wp_25_2, wr_28, wf_28_0, wf_28_1, wf_28_2, wp_28_2, wr_31, wf_31_0, wf_31_1, wf_31_2, wp_31_2, wf_31_3, wp_31_3, wr_33, wf_33_0, wf_33_1, wp_33_1, wf_33_2, wp_33_2, wr_35, wf_35_0, wf_35_1, wp_35_1, wf_35_2, wp_35_2, wf_35_3, wp_35_3, wr_36, wf_36_0, wf_36_1, wp_36_1, wf_36_2, wp_36_2, wr_38, wf_38_0, wp_38_0, wf_38_1, wp_38_1, wf_38_2, wp_38_2, wf_38_3, wp_38_3, wf_38_4, wf_38_5, wf_38_6, wf_38_7, wr_43, wf_43_0, wf_43_1, wp_43_1, wf_43_2, wf_43_3, wf_43_4, wp_43_4, wf_43_5, wp_43_5, wr_48, wf_48_0, wp_48_0, wf_48_1, wp_48_1, wf_48_2, wr_50, wf_50_0, wp_50_0, wf_50_1, wp_50_1, wf_50_2, wr_52, wf_52_0, wp_52_0, wf_52_1, wp_52_1, wf_52_2, wr_54, wf_54_0, wp_54_0, wf_54_1, wp_54_1, wf_54_2, wr_56, wf_56_0, wp_56_0, wf_56_1, wp_56_1, wf_56_2, wr_58, wf_58_0, wp_58_0, wf_58_1, wp_58_1, wf_58_2, wr_60, wf_60_0, wp_60_0, wf_60_1, wp_60_1, wf_60_2, wp_60_2, wf_60_3, wp_60_3, wf_60_4, wf_60_5, wf_60_6, wf_60_7, wf_60_8, wf_60_9, wf_60_10, wf_60_11, wp_60_11, wf_60_12, wf_60_13, wf_60_14, wp_60_14, wf_60_15, wf_60_16, wf_60_17, wp_60_17, wf_60_18, wf_60_19, wp_60_19, wf_60_20, wp_60_20, wf_60_21, wf_60_22, wf_60_23, wp_60_23, wf_60_24, wf_60_25, wf_60_26, wf_60_27, wf_60_28, wf_60_29, wp_60_29, wf_60_30, wf_60_31, wf_60_32, wf_60_33, wf_60_34, wp_60_34, wf_60_35, wf_60_36, wf_60_37, wf_60_38, wp_60_38, wf_60_39, wp_60_39, wf_60_40, wp_60_40, wf_60_41, wp_60_41, e1, h1, bi_0]
    · have g := (f1 M hM').1
      unfold J_X10_exchange
      simp only [Nat.reduceEqDiff, Nat.reduceAdd, Nat.reduceMul, reduceCtorEq, if_true, if_false, bs, rLet_eq, rB2_e, reduceIte, wr_0, wf_0_0, wf_0_1, wf_0_2, wp_0_2, wf_0_3, wf_0_4, wf_0_5, wf_0_6, wf_0_7, wf_0_8, wr_1, wf_1_0, wf_1_1, wf_1_2, wf_1_3, wf_1_4, wr_2, wf_2_0, wp_2_0, wf_2_1, wp_2_1, wf_2_2, wp_2_2, wf_2_3, wp_2_3, wf_2_4, wf_2_5, wr_5, wf_5_0, wf_5_1, wf_5_2, wp_5_2, wf_5_3, wp_5_3, wr_7, wf_7_0, wf_7_1, wf_7_2, wp_7_2, wr_10, wf_10_0, wf_10_1, wf_10_2, wp_10_2, wr_13, wf_13_0, wf_13_1, wf_13_2, wp_13_2, wr_16, wf_16_0, wf_16_1, wf_16_2, wf_16_3, wf_16_4, wr_17, wf_17_0, wp_17_0, wf_17_1, wp_17_1, wf_17_2, wp_17_2, wf_17_3, wp_17_3, wf_17_4, wf_17_5, wr_20, wf_20_0, wf_20_1, wf_20_2, wp_20_2, wf_20_3, wp_20_3, wr_22, wf_22_0, wf_22_1, wf_22_2, wp_22_2, wr_25, wf_25_0, wf_25_1, wf_25_2, wp_25_2, wr_28, wf_28_0, wf_28_1, wf_28_2, wp_28_2, wr_31, wf_31_0, wf_31_1, wf_31_2, wp_31_2, wf_31_3, wp_31_3, wr_33, wf_33_0, wf_33_1, wp_33_1, wf_33_2, wp_33_2, wr_35, wf_35_0, wf_35_1, wp_35_1, wf_35_2, wp_35_2, wf_35_3, wp_35_3, wr_36, wf_36_0, wf_36_1, wp_36_1, wf_36_2, wp_36_2, wr_38, wf_38_0, wp_38_0, wf_38_1, wp_38_1, wf_38_2, wp_38_2, wf_38_3, wp_38_3, wf_38_4, wf_38_5, wf_38_6, wf_38_7, wr_43, wf_43_0, wf_43_1, wp_43_1, wf_43_2, wf_43_3, wf_43_4, wp_43_4, wf_43_5, wp_43_5, wr_48, wf_48_0, wp_48_0, wf_48_1, wp_48_1, wf_48_2, wr_50, wf_50_0, wp_50_0, wf_50_1, wp_50_1, wf_50_2, wr_52, wf_52_0, wp_52_0, wf_52_1, wp_52_1, wf_52_2, wr_54, wf_54_0, wp_54_0, wf_54_1, wp_54_1, wf_54_2, wr_56, wf_56_0, wp_56_0, wf_56_1, wp_56_1, wf_56_2, wr_58, wf_58_0, wp_58_0, wf_58_1, wp_58_1, wf_58_2, wr_60, wf_60_0, wp_60_0, wf_60_1, wp_60_1, wf_60_2, wp_60_2, wf_60_3, wp_60_3, wf_60_4, wf_60_5, wf_60_6, wf_60_7, wf_60_8, wf_60_9, wf_60_10, wf_60_11, wp_60_11, wf_60_12, wf_60_13, wf_60_14, wp_60_14, wf_60_15, wf_60_16, wf_60_17, wp_60_17, wf_60_18, wf_60_19, wp_60_19, wf_60_20, wp_60_20, wf_60_21, wf_60_22, wf_60_23, wp_60_23, wf_60_24, wf_60_25, wf_60_26, wf_60_27, wf_60_28, wf_60_29, wp_60_29, wf_60_30, wf_60_31, wf_60_32, wf_60_33, wf_60_34, wp_60_34, wf_60_35, wf_60_36, wf_60_37, wf_60_38, wp_60_38, wf_60_39, wp_60_39, wf_60_40, wp_60_40, wf_60_41, wp_60_41, g, h1, bi_0]
  cases h2 : hasB y (nI V)
  · refine ⟨-1, V, K, T, S, ?_, mE_r S, fun M hM' => ⟨M, ?_, hM', cE_r M⟩⟩
    · unfold J_X9_exchange
      simp only [Nat.reduceEqDiff, Nat.reduceAdd, Nat.reduceMul, reduceCtorEq, if_true, if_false, bs, rLet_eq, rB2_e, reduceIte, wr_0, wf_0_0, wf_0_1, wf_0_2, wp_0_2, wf_0_3, wf_0_4, wf_0_5, wf_0_6, wf_0_7, wf_0_8, wr_1, wf_1_0, wf_1_1, wf_1_2, wf_1_3, wf_1_4, wr_2, wf_2_0, wp_2_0, wf_2_1, wp_2_1, wf_2_2, wp_2_2, wf_2_3, wp_2_3, wf_2_4, wf_2_5, wr_5, wf_5_0, wf_5_1, wf_5_2, wp_5_2, wf_5_3, wp_5_3, wr_7, wf_7_0, wf_7_1, wf_7_2, wp_7_2, wr_10, wf_10_0, wf_10_1, wf_10_2, wp_10_2, wr_13, wf_13_0, wf_13_1, wf_13_2, wp_13_2, wr_16, wf_16_0, wf_16_1, wf_16_2, wf_16_3, wf_16_4, wr_17, wf_17_0, wp_17_0, wf_17_1, wp_17_1, wf_17_2, wp_17_2, wf_17_3, wp_17_3, wf_17_4, wf_17_5, wr_20, wf_20_0, wf_20_1, wf_20_2, wp_20_2, wf_20_3, wp_20_3, wr_22, wf_22_0, wf_22_1, wf_22_2, wp_22_2, wr_25, wf_25_0, wf_25_1, wf_25_2, wp_25_2, wr_28, wf_28_0, wf_28_1, wf_28_2, wp_28_2, wr_31, wf_31_0, wf_31_1, wf_31_2, wp_31_2, wf_31_3, wp_31_3, wr_33, wf_33_0, wf_33_1, wp_33_1, wf_33_2, wp_33_2, wr_35, wf_35_0, wf_35_1, wp_35_1, wf_35_2, wp_35_2, wf_35_3, wp_35_3, wr_36, wf_36_0, wf_36_1, wp_36_1, wf_36_2, wp_36_2, wr_38, wf_38_0, wp_38_0, wf_38_1, wp_38_1, wf_38_2, wp_38_2, wf_38_3, wp_38_3, wf_38_4, wf_38_5, wf_38_6, wf_38_7, wr_43, wf_43_0, wf_43_1, wp_43_1, wf_43_2, wf_43_3, wf_43_4, wp_43_4, wf_43_5, wp_43_5, wr_48, wf_48_0, wp_48_0, wf_48_1, wp_48_1, wf_48_2, wr_50, wf_50_0, wp_50_0, wf_50_1, wp_50_1, wf_50_2, wr_52, wf_52_0, wp_52_0, wf_52_1, wp_52_1, wf_52_2, wr_54, wf_54_0, wp_54_0, wf_54_1, wp_54_1, wf_54_2, wr_56, wf_56_0, wp_56_0, wf_56_1, wp_56_1, wf_56_2, wr_58, wf_58_0, wp_58_0, wf_58_1, wp_58_1, wf_58_2, wr_60, wf_60_0, wp_60_0, wf_60_1, wp_60_1, wf_60_2, wp_60_2, wf_60_3, wp_60_3, wf_60_4, wf_60_5, wf_60_6, wf_60_7, wf_60_8, wf_60_9, wf_60_10, wf_60_11, wp_60_11, wf_60_12, wf_60_13, wf_60_14, wp_60_14, wf_60_15, wf_60_16, wf_60_17, wp_60_17, wf_60_18, wf_60_19, wp_60_19, wf_60_20, wp_60_20, wf_60_21, wf_60_22, wf_60_23, wp_60_23, wf_60_24, wf_60_25, wf_60_26, wf_60_27, wf_60_28, wf_60_29, wp_60_29, wf_60_30, wf_60_31, wf_60_32, wf_60_33, wf_60_34, wp_60_34, wf_60_35, wf_60_36, wf_60_37, wf_60_38, wp_60_38, wf_60_39, wp_60_39, wf_60_40, wp_60_40, wf_60_41, wp_60_41, e1, h1, e2, h2, bi_0]
    · have g := f1 M hM'
      unfold J_X10_exchange
      simp only [Nat.reduceEqDiff, Nat.reduceAdd, Nat.reduceMul, reduceCtorEq, if_true, if_false, bs, rLet_eq, rB2_e, reduceIte, wr_0, wf_0_0, wf_0_1, wf_0_2, wp_0_2, wf_0_3, wf_0_4, wf_0_5, wf_0_6, wf_0_7, wf_0_8, wr_1, wf_1_0, wf_1_1, wf_1_2, wf_1_3, wf_1_4, wr_2, wf_2_0, wp_2_0, wf_2_1, wp_2_1, wf_2_2, wp_2_2, wf_2_3, wp_2_3, wf_2_4, wf_2_5, wr_5, wf_5_0, wf_5_1, wf_5_2, wp_5_2, wf_5_3, wp_5_3, wr_7, wf_7_0, wf_7_1, wf_7_2, wp_7_2, wr_10, wf_10_0, wf_10_1, wf_10_2, wp_10_2, wr_13, wf_13_0, wf_13_1, wf_13_2, wp_13_2, wr_16, wf_16_0, wf_16_1, wf_16_2, wf_16_3, wf_16_4, wr_17, wf_17_0, wp_17_0, wf_17_1, wp_17_1, wf_17_2, wp_17_2, wf_17_3, wp_17_3, wf_17_4, wf_17_5, wr_20, wf_20_0, wf_20_1, wf_20_2, wp_20_2, wf_20_3, wp_20_3, wr_22, wf_22_0, wf_22_1, wf_22_2, wp_22_2, wr_25, wf_25_0, wf_25_1, wf_25_2, wp_25_2, wr_28, wf_28_0, wf_28_1, wf_28_2, wp_28_2, wr_31, wf_31_0, wf_31_1, wf_31_2, wp_31_2, wf_31_3, wp_31_3, wr_33, wf_33_0, wf_33_1, wp_33_1, wf_33_2, wp_33_2, wr_35, wf_35_0, wf_35_1, wp_35_1, wf_35_2, wp_35_2, wf_35_3, wp_35_3, wr_36, wf_36_0, wf_36_1, wp_36_1, wf_36_2, wp_36_2, wr_38, wf_38_0, wp_38_0, wf_38_1, wp_38_1, wf_38_2, wp_38_2, wf_38_3, wp_38_3, wf_38_4, wf_38_5, wf_38_6, wf_38_7, wr_43, wf_43_0, wf_43_1, wp_43_1, wf_43_2, wf_43_3, wf_43_4, wp_43_4, wf_43_5, wp_43_5, wr_48, wf_48_0, wp_48_0, wf_48_1, wp_48_1, wf_48_2, wr_50, wf_50_0, wp_50_0, wf_50_1, wp_50_1, wf_50_2, wr_52, wf_52_0, wp_52_0, wf_52_1, wp_52_1, wf_52_2, wr_54, wf_54_0, wp_54_0, wf_54_1, wp_54_1, wf_54_2, wr_56, wf_56_0, wp_56_0, wf_56_1, wp_56_1, wf_56_2, wr_58, wf_58_0, wp_58_0, wf_58_1, wp_58_1, wf_58_2, wr_60, wf_60_0, wp_60_0, wf_60_1, wp_60_1, wf_60_2, wp_60_2, wf_60_3, wp_60_3, wf_60_4, wf_60_5, wf_60_6, wf_60_7, wf_60_8, wf_60_9, wf_60_10, wf_60_11, wp_60_11, wf_60_12, wf_60_13, wf_60_14, wp_60_14, wf_60_15, wf_60_16, wf_60_17, wp_60_17, wf_60_18, wf_60_19, wp_60_19, wf_60_20, wp_60_20, wf_60_21, wf_60_22, wf_60_23, wp_60_23, wf_60_24, wf_60_25, wf_60_26, wf_60_27, wf_60_28, wf_60_29, wp_60_29, wf_60_30, wf_60_31, wf_60_32, wf_60_33, wf_60_34, wp_60_34, wf_60_35, wf_60_36, wf_60_37, wf_60_38, wp_60_38, wf_60_39, wp_60_39, wf_60_40, wp_60_40, wf_60_41, wp_60_41, g.1, g.2, h1, h2, bi_0]
  by_cases h3 : x = y
  · have h3t := eq_true h3
    refine ⟨-1, V, K, T, S, ?_, mE_r S, fun M hM' => ⟨M, ?_, hM', cE_r M⟩⟩
    · unfold J_X9_exchange
      simp only [Nat.reduceEqDiff, Nat.reduceAdd, Nat.reduceMul, reduceCtorEq, if_true, if_false, bs, rLet_eq, rB2_e, reduceIte, wr_0, wf_0_0, wf_0_1, wf_0_2, wp_0_2, wf_0_3, wf_0_4, wf_0_5, wf_0_6, wf_0_7, wf_0_8, wr_1, wf_1_0, wf_1_1, wf_1_2, wf_1_3, wf_1_4, wr_2, wf_2_0, wp_2_0, wf_2_1, wp_2_1, wf_2_2, wp_2_2, wf_2_3, wp_2_3, wf_2_4, wf_2_5, wr_5, wf_5_0, wf_5_1, wf_5_2, wp_5_2, wf_5_3, wp_5_3, wr_7, wf_7_0, wf_7_1, wf_7_2, wp_7_2, wr_10, wf_10_0, wf_10_1, wf_10_2, wp_10_2, wr_13, wf_13_0, wf_13_1, wf_13_2, wp_13_2, wr_16, wf_16_0, wf_16_1, wf_16_2, wf_16_3, wf_16_4, wr_17, wf_17_0, wp_17_0, wf_17_1, wp_17_1, wf_17_2, wp_17_2, wf_17_3, wp_17_3, wf_17_4, wf_17_5, wr_20, wf_20_0, wf_20_1, wf_20_2, wp_20_2, wf_20_3, wp_20_3, wr_22, wf_22_0, wf_22_1, wf_22_2, wp_22_2, wr_25, wf_25_0, wf_25_1, wf_25_2, wp_25_2, wr_28, wf_28_0, wf_28_1, wf_28_2, wp_28_2, wr_31, wf_31_0, wf_31_1, wf_31_2, wp_31_2, wf_31_3, wp_31_3, wr_33, wf_33_0, wf_33_1, wp_33_1, wf_33_2, wp_33_2, wr_35, wf_35_0, wf_35_1, wp_35_1, wf_35_2, wp_35_2, wf_35_3, wp_35_3, wr_36, wf_36_0, wf_36_1, wp_36_1, wf_36_2, wp_36_2, wr_38, wf_38_0, wp_38_0, wf_38_1, wp_38_1, wf_38_2, wp_38_2, wf_38_3, wp_38_3, wf_38_4, wf_38_5, wf_38_6, wf_38_7, wr_43, wf_43_0, wf_43_1, wp_43_1, wf_43_2, wf_43_3, wf_43_4, wp_43_4, wf_43_5, wp_43_5, wr_48, wf_48_0, wp_48_0, wf_48_1, wp_48_1, wf_48_2, wr_50, wf_50_0, wp_50_0, wf_50_1, wp_50_1, wf_50_2, wr_52, wf_52_0, wp_52_0, wf_52_1, wp_52_1, wf_52_2, wr_54, wf_54_0, wp_54_0, wf_54_1, wp_54_1, wf_54_2, wr_56, wf_56_0, wp_56_0, wf_56_1, wp_56_1, wf_56_2, wr_58, wf_58_0, wp_58_0, wf_58_1, wp_58_1, wf_58_2, wr_60, wf_60_0, wp_60_0, wf_60_1, wp_60_1, wf_60_2, wp_60_2, wf_60_3, wp_60_3, wf_60_4, wf_60_5, wf_60_6, wf_60_7, wf_60_8, wf_60_9, wf_60_10, wf_60_11, wp_60_11, wf_60_12, wf_60_13, wf_60_14, wp_60_14, wf_60_15, wf_60_16, wf_60_17, wp_60_17, wf_60_18, wf_60_19, wp_60_19, wf_60_20, wp_60_20, wf_60_21, wf_60_22, wf_60_23, wp_60_23, wf_60_24, wf_60_25, wf_60_26, wf_60_27, wf_60_28, wf_60_29, wp_60_29, wf_60_30, wf_60_31, wf_60_32, wf_60_33, wf_60_34, wp_60_34, wf_60_35, wf_60_36, wf_60_37, wf_60_38, wp_60_38, wf_60_39, wp_60_39, wf_60_40, wp_60_40, wf_60_41, wp_60_41, e1, h1, e2, h2, bi_0, h3t]
    · have g := f1 M hM'
      unfold J_X10_exchange
      simp only [Nat.reduceEqDiff, Nat.reduceAdd, Nat.reduceMul, reduceCtorEq, if_true, if_false, bs, rLet_eq, rB2_e, reduceIte, wr_0, wf_0_0, wf_0_1, wf_0_2, wp_0_2, wf_0_3, wf_0_4, wf_0_5, wf_0_6, wf_0_7, wf_0_8, wr_1, wf_1_0, wf_1_1, wf_1_2, wf_1_3, wf_1_4, wr_2, wf_2_0, wp_2_0, wf_2_1, wp_2_1, wf_2_2, wp_2_2, wf_2_3, wp_2_3, wf_2_4, wf_2_5, wr_5, wf_5_0, wf_5_1, wf_5_2, wp_5_2, wf_5_3, wp_5_3, wr_7, wf_7_0, wf_7_1, wf_7_2, wp_7_2, wr_10, wf_10_0, wf_10_1, wf_10_2, wp_10_2, wr_13, wf_13_0, wf_13_1, wf_13_2, wp_13_2, wr_16, wf_16_0, wf_16_1, wf_16_2, wf_16_3, wf_16_4, wr_17, wf_17_0, wp_17_0, wf_17_1, wp_17_1, wf_17_2, wp_17_2, wf_17_3, wp_17_3, wf_17_4, wf_17_5, wr_20, wf_20_0, wf_20_1, wf_20_2, wp_20_2, wf_20_3, wp_20_3, wr_22, wf_22_0, wf_22_1, wf_22_2, wp_22_2, wr_25, wf_25_0, wf_25_1, wf_25_2, wp_25_2, wr_28, wf_28_0, wf_28_1, wf_28_2, wp_28_2, wr_31, wf_31_0, wf_31_1, wf_31_2, wp_31_2, wf_31_3, wp_31_3, wr_33, wf_33_0, wf_33_1, wp_33_1, wf_33_2, wp_33_2, wr_35, wf_35_0, wf_35_1, wp_35_1, wf_35_2, wp_35_2, wf_35_3, wp_35_3, wr_36, wf_36_0, wf_36_1, wp_36_1, wf_36_2, wp_36_2, wr_38, wf_38_0, wp_38_0, wf_38_1, wp_38_1, wf_38_2, wp_38_2, wf_38_3, wp_38_3, wf_38_4, wf_38_5, wf_38_6, wf_38_7, wr_43, wf_43_0, wf_43_1, wp_43_1, wf_43_2, wf_43_3, wf_43_4, wp_43_4, wf_43_5, wp_43_5, wr_48, wf_48_0, wp_48_0, wf_48_1, wp_48_1, wf_48_2, wr_50, wf_50_0, wp_50_0, wf_50_1, wp_50_1, wf_50_2, wr_52, wf_52_0, wp_52_0, wf_52_1, wp_52_1, wf_52_2, wr_54, wf_54_0, wp_54_0, wf_54_1, wp_54_1, wf_54_2, wr_56, wf_56_0, wp_56_0, wf_56_1, wp_56_1, wf_56_2, wr_58, wf_58_0, wp_58_0, wf_58_1, wp_58_1, wf_58_2, wr_60, wf_60_0, wp_60_0, wf_60_1, wp_60_1, wf_60_2, wp_60_2, wf_60_3, wp_60_3, wf_60_4, wf_60_5, wf_60_6, wf_60_7, wf_60_8, wf_60_9, wf_60_10, wf_60_11, wp_60_11, wf_60_12, wf_60_13, wf_60_14, wp_60_14, wf_60_15, wf_60_16, wf_60_17, wp_60_17, wf_60_18, wf_60_19, wp_60_19, wf_60_20, wp_60_20, wf_60_21, wf_60_22, wf_60_23, wp_60_23, wf_60_24, wf_60_25, wf_60_26, wf_60_27, wf_60_28, wf_60_29, wp_60_29, wf_60_30, wf_60_31, wf_60_32, wf_60_33, wf_60_34, wp_60_34, wf_60_35, wf_60_36, wf_60_37, wf_60_38, wp_60_38, wf_60_39, wp_60_39, wf_60_40, wp_60_40, wf_60_41, wp_60_41, g.1, g.2, h1, h2, bi_0, h3t]
  obtain ⟨p, hp, rfl⟩ := (hasB_n (by omega)).mp h1
  obtain ⟨q, hq, rfl⟩ := (hasB_n (by omega)).mp h2
  have e5 := exch5 hk hp hq c3 cB
  obtain ⟨o1, o2⟩ := exF_ok (K := K) k2 hp hq hM.2 (S.2.2.1 6) (S.2.1 5 2) (S.2.1 5 3)
  refine ⟨1, V, K, T, sl (sl (sa S 6 (rF (exF V K p q) (MB V K) 0 (S.2.2.1 6, S.2.1 5 2, S.2.1 5 3)).1) 5 2 (rF (exF V K p q) (MB V K) 0 (S.2.2.1 6, S.2.1 5 2, S.2.1 5 3)).2.1) 5 3 (rF (exF V K p q) (MB V K) 0 (S.2.2.1 6, S.2.1 5 2, S.2.1 5 3)).2.2, ?_, by repeat (first | exact mE_r _ | refine mE_l ?_ | refine mE_a (by decide) ?_ | refine mE_i (by decide) ?_ | refine mE_j (by decide) ?_), fun M hM' => ?_⟩
  · unfold J_X9_exchange
    simp only [Nat.reduceEqDiff, Nat.reduceAdd, Nat.reduceMul, reduceCtorEq, if_true, if_false, bs, rLet_eq, rB2_e, reduceIte, wr_0, wf_0_0, wf_0_1, wf_0_2, wp_0_2, wf_0_3, wf_0_4, wf_0_5, wf_0_6, wf_0_7, wf_0_8, wr_1, wf_1_0, wf_1_1, wf_1_2, wf_1_3, wf_1_4, wr_2, wf_2_0, wp_2_0, wf_2_1, wp_2_1, wf_2_2, wp_2_2, wf_2_3, wp_2_3, wf_2_4, wf_2_5, wr_5, wf_5_0, wf_5_1, wf_5_2, wp_5_2, wf_5_3, wp_5_3, wr_7, wf_7_0, wf_7_1, wf_7_2, wp_7_2, wr_10, wf_10_0, wf_10_1, wf_10_2, wp_10_2, wr_13, wf_13_0, wf_13_1, wf_13_2, wp_13_2, wr_16, wf_16_0, wf_16_1, wf_16_2, wf_16_3, wf_16_4, wr_17, wf_17_0, wp_17_0, wf_17_1, wp_17_1, wf_17_2, wp_17_2, wf_17_3, wp_17_3, wf_17_4, wf_17_5, wr_20, wf_20_0, wf_20_1, wf_20_2, wp_20_2, wf_20_3, wp_20_3, wr_22, wf_22_0, wf_22_1, wf_22_2, wp_22_2, wr_25, wf_25_0, wf_25_1, wf_25_2, wp_25_2, wr_28, wf_28_0, wf_28_1, wf_28_2, wp_28_2, wr_31, wf_31_0, wf_31_1, wf_31_2, wp_31_2, wf_31_3, wp_31_3, wr_33, wf_33_0, wf_33_1, wp_33_1, wf_33_2, wp_33_2, wr_35, wf_35_0, wf_35_1, wp_35_1, wf_35_2, wp_35_2, wf_35_3, wp_35_3, wr_36, wf_36_0, wf_36_1, wp_36_1, wf_36_2, wp_36_2, wr_38, wf_38_0, wp_38_0, wf_38_1, wp_38_1, wf_38_2, wp_38_2, wf_38_3, wp_38_3, wf_38_4, wf_38_5, wf_38_6, wf_38_7, wr_43, wf_43_0, wf_43_1, wp_43_1, wf_43_2, wf_43_3, wf_43_4, wp_43_4, wf_43_5, wp_43_5, wr_48, wf_48_0, wp_48_0, wf_48_1, wp_48_1, wf_48_2, wr_50, wf_50_0, wp_50_0, wf_50_1, wp_50_1, wf_50_2, wr_52, wf_52_0, wp_52_0, wf_52_1, wp_52_1, wf_52_2, wr_54, wf_54_0, wp_54_0, wf_54_1, wp_54_1, wf_54_2, wr_56, wf_56_0, wp_56_0, wf_56_1, wp_56_1, wf_56_2, wr_58, wf_58_0, wp_58_0, wf_58_1, wp_58_1, wf_58_2, wr_60, wf_60_0, wp_60_0, wf_60_1, wp_60_1, wf_60_2, wp_60_2, wf_60_3, wp_60_3, wf_60_4, wf_60_5, wf_60_6, wf_60_7, wf_60_8, wf_60_9, wf_60_10, wf_60_11, wp_60_11, wf_60_12, wf_60_13, wf_60_14, wp_60_14, wf_60_15, wf_60_16, wf_60_17, wp_60_17, wf_60_18, wf_60_19, wp_60_19, wf_60_20, wp_60_20, wf_60_21, wf_60_22, wf_60_23, wp_60_23, wf_60_24, wf_60_25, wf_60_26, wf_60_27, wf_60_28, wf_60_29, wp_60_29, wf_60_30, wf_60_31, wf_60_32, wf_60_33, wf_60_34, wp_60_34, wf_60_35, wf_60_36, wf_60_37, wf_60_38, wp_60_38, wf_60_39, wp_60_39, wf_60_40, wp_60_40, wf_60_41, wp_60_41, e1, h1, e2, h2, bi_0, h3, e5]
  · have g := f1 M hM'
    obtain ⟨⟨q1, q2, m0, m1, m2, m3, mB⟩, hst, htx, hre⟩ := id hM'
    obtain ⟨g1, r1, a1, a2, a3⟩ := exch60_63 (M := M) hk hp hq m3 mB
    obtain ⟨g2, r2, b1, b2, b3⟩ := exch60_64 (M := sa (sa M 63 r1) 82 g1) hk hp hq m3 mB
    obtain ⟨g3, r3, d1, d2, d3⟩ := exch60_65 (M := sa (sa (sa (sa M 63 r1) 82 g1) 64 r2) 82 g2) hk hp hq m3 mB
    have b2' : ∀ j, j < MB V K → r2 j = M.2.2.1 64 (sig V K p q j) := b2
    have b3' : ∀ j, MB V K ≤ j → r2 j = M.2.2.1 64 j := b3
    have d2' : ∀ j, j < MB V K → r3 j = M.2.2.1 65 (sig V K p q j) := d2
    have d3' : ∀ j, MB V K ≤ j → r3 j = M.2.2.1 65 j := d3
    refine ⟨sa (sa (sa (sa (sa (sa M 63 r1) 82 g1) 64 r2) 82 g2) 65 r3) 82 g3, ?_, ⟨⟨q1, q2, m0, m1, m2, m3, mB⟩, ⟨fun b hb => ?_, fun b hb => ?_⟩, htx, hre⟩, by repeat (first | exact cE_r _ | refine cE_a (by decide) ?_ | refine cE_i (by decide) ?_ | refine cE_j ?_)⟩
    · unfold J_X10_exchange
      rw [wr_60, g.1, bs, h1, if_neg (by decide), g.2, bs, h2, if_neg (by decide), if_neg h3, wf_60_6, bs, a1, bs, wf_60_7, bs, b1, bs, wf_60_8, bs, d1, bs]
    · show r1 b = (rF (exF V K p q) (MB V K) 0 (S.2.2.1 6, S.2.1 5 2, S.2.1 5 3)).1 b ∧ r2 b = bi (tb (rF (exF V K p q) (MB V K) 0 (S.2.2.1 6, S.2.1 5 2, S.2.1 5 3)).2.1 b) ∧ r3 b = bi (tb (rF (exF V K p q) (MB V K) 0 (S.2.2.1 6, S.2.1 5 2, S.2.1 5 3)).2.2 b) ∧ inB ((rF (exF V K p q) (MB V K) 0 (S.2.2.1 6, S.2.1 5 2, S.2.1 5 3)).1 b) (-99) 99 = true
      by_cases hbm : b < MB V K
      · have s1 := (sig_ok k2 hp hq hbm).2.2.1
        have s2 := hst.1 (sig V K p q b) (by omega)
        rw [(o1 b hbm).1, (o1 b hbm).2.1, (o1 b hbm).2.2, a2 b hbm, b2' b hbm, d2' b hbm]
        exact s2
      · rw [(o2 b (by omega)).1, (o2 b (by omega)).2.1, (o2 b (by omega)).2.2, a3 b (by omega), b3' b (by omega), d3' b (by omega)]
        exact hst.1 b hb
    · show tb (rF (exF V K p q) (MB V K) 0 (S.2.2.1 6, S.2.1 5 2, S.2.1 5 3)).2.1 b = false ∧ tb (rF (exF V K p q) (MB V K) 0 (S.2.2.1 6, S.2.1 5 2, S.2.1 5 3)).2.2 b = false ∧ (b < 56 → (rF (exF V K p q) (MB V K) 0 (S.2.2.1 6, S.2.1 5 2, S.2.1 5 3)).1 b = 0)
      rw [(o2 b hb).1, (o2 b hb).2.1, (o2 b hb).2.2]
      exact hst.2 b hb

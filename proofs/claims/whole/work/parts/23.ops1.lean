/-! CALLS OF THE ROW AND OF THE DESIGN -/
theorem volF_c {f g : Nat → Int32} {n : Nat} (h : ∀ j, j < n → f j = g j) : volF f n = volF g n := rF_congr n 0 0 (fun j s _ hj => by rw [h j (by omega)])
theorem nzF_c {f g : Nat → Int32} {n : Nat} (h : ∀ j, j < n → f j = g j) : nzF f n = nzF g n := rF_congr n 0 0 (fun j s _ hj => by rw [h j (by omega)])
theorem addF_c {f g : Nat → Int32} {n : Nat} (h : ∀ j, j < n → f j = g j) : addF f n = addF g n := rF_congr n 0 0 (fun j s _ hj => by rw [h j (by omega)])
theorem fdF_c {f g B C : Nat → Int32} {n : Nat} (h : ∀ j, j < n → f j = g j) (k : ∀ j, j < n → B j = C j) : fdF f B n = fdF g C n := rF_congr n 0 0 (fun j s _ hj => by rw [h j (by omega), k j (by omega)])
theorem sumF_c {f g B C : Nat → Int32} {n : Nat} (k : ∀ j, j < n → B j = C j) (h : ∀ j, j < n → f j = g j) (x : Int32) : sumF B f x n = sumF C g x n := rF_congr n 0 0 (fun j s _ hj => by rw [h j (by omega), k j (by omega)])
theorem plB_c {f g : Nat → Int32} {n : Nat} (h : ∀ j, j < n → f j = g j) : plB f n = plB g n := by
  unfold plB
  rw [rFd_congr n 0 (fun j _ hj => by unfold plP; rw [h j (by omega)])]
  rfl
theorem amP_c {f g B C : Nat → Int32} {n : Nat} (k : ∀ j, j < n → B j = C j) (h : ∀ j, j < n → f j = g j) : amP B f n = amP C g n := by
  funext q j
  unfold amP
  rw [sumF_c k h]
theorem trB_c {f g B C : Nat → Int32} {n : Nat} (k : ∀ j, j < n → B j = C j) (h : ∀ j, j < n → f j = g j) (V T : Nat) : trB B f V T n = trB C g V T n := by
  unfold trB
  rw [amP_c k h]
theorem covF_s {d : Nat → Bool} {d' B C : Nat → Int32} {n : Nat} (k : ∀ j, j < n → B j = C j) (h : ∀ j, j < n → d' j = bi (d j)) (x : Int32) : covF d B x n = sumF C d' x n := rF_congr n 0 0 (fun j s _ hj => by
  rw [h j (by omega), k j (by omega)]
  cases d j
  · rw [bi_f, Int32.add_zero, ite_self, if_neg (fun h => by cases h.1)]
  · rw [bi_t]
    simp only [true_and])
theorem ixF_c {C D : Nat → Int32} (h : ∀ j, C j = D j) (T m i : Nat) (x : Int32) : ixF C T m i x = ixF D T m i x := by
  rw [funext h]
theorem addF_bits {d' : Nat → Int32} {D : Int64} {n : Nat} (h : ∀ j, j < n → d' j = bi (tb D j)) (h56 : n ≤ 56) (h0 : ∀ j, n ≤ j → tb D j = false) : addF d' n = nI (cntB (tb D) 64) := by
  have e1 : cntB (tb D) 64 = cntB (tb D) n := by
    have := cntB_more (f := tb D) (n := n) h0 (64 - n)
    rw [show n + (64 - n) = 64 by omega] at this
    exact this
  rw [e1]
  have key : ∀ m, m ≤ n → rF (fun j s => s + d' j) m 0 0 = nI (cntB (tb D) m) := by
    intro m
    induction m with
    | zero => intro _; rfl
    | succ m ih =>
      intro hm
      rw [rF_last, ih (by omega), cntB, Nat.zero_add, h m (by omega)]
      cases tb D m
      · rw [bi_f, Int32.add_zero]; rfl
      · rw [bi_t, if_pos rfl, nI_1]
  exact key n (Nat.le_refl _)
theorem inB_n {x : Int32} {a b : Nat} (ha : a < 2 ^ 31) (hb : b < 2 ^ 31) (h : inB x (nI a) (nI b) = true) : ∃ j, a ≤ j ∧ j ≤ b ∧ x = nI j := by
  unfold inB at h
  simp only [Bool.and_eq_true, Bool.not_eq_true', decide_eq_false_iff_not] at h
  rw [Int32.lt_iff_toInt_lt, Int32.lt_iff_toInt_lt, nI_toInt ha, nI_toInt hb] at h
  refine ⟨x.toInt.toNat, by omega, by omega, ?_⟩
  rw [← Int32.toInt_inj, nI_toInt (by omega)]
  omega
theorem inB_of {j a b : Nat} (ha : a ≤ j) (hb : j ≤ b) (h : b < 2 ^ 31) : inB (nI j) (nI a) (nI b) = true := by
  unfold inB
  simp only [Bool.and_eq_true, Bool.not_eq_true', decide_eq_false_iff_not]
  exact ⟨nI_nlt ha (by omega), nI_nlt hb h⟩
def okB (x y z : Int32) : Bool := inB x 4 8 && (inB y 2 3 && inB z 1 (y - 1))
theorem okB_n {x y z : Int32} (h : okB x y z = true) : ∃ V K T, Ok3 V K T ∧ x = nI V ∧ y = nI K ∧ z = nI T := by
  unfold okB at h
  simp only [Bool.and_eq_true] at h
  obtain ⟨h1, h2, h3⟩ := h
  obtain ⟨V, a1, a2, rfl⟩ := inB_n (a := 4) (b := 8) (by decide) (by decide) h1
  obtain ⟨K, b1, b2, rfl⟩ := inB_n (a := 2) (b := 3) (by decide) (by decide) h2
  rw [nI_prd (by omega)] at h3
  obtain ⟨T, c1, c2, rfl⟩ := inB_n (a := 1) (b := K - 1) (by decide) (by omega) h3
  exact ⟨V, K, T, ⟨a1, a2, b1, b2, c1, by omega⟩, rfl, rfl, rfl⟩
theorem isSize60 (x y z : Int32) (w : rW) : J_X10_isSize x y z w = some (okB x y z) := by
  unfold J_X10_isSize okB
  simp only [Nat.reduceEqDiff, Nat.reduceAdd, Nat.reduceMul, reduceCtorEq, if_true, if_false, bs, rLet_eq, rB2_e, reduceIte, wr_0, wf_0_0, wf_0_1, wf_0_2, wp_0_2, wf_0_3, wf_0_4, wf_0_5, wf_0_6, wf_0_7, wf_0_8, wr_1, wf_1_0, wf_1_1, wf_1_2, wf_1_3, wf_1_4, wr_2, wf_2_0, wp_2_0, wf_2_1, wp_2_1, wf_2_2, wp_2_2, wf_2_3, wp_2_3, wf_2_4, wf_2_5, wr_5, wf_5_0, wf_5_1, wf_5_2, wp_5_2, wf_5_3, wp_5_3, wr_7, wf_7_0, wf_7_1, wf_7_2, wp_7_2, wr_10, wf_10_0, wf_10_1, wf_10_2, wp_10_2, wr_13, wf_13_0, wf_13_1, wf_13_2, wp_13_2, wr_16, wf_16_0, wf_16_1, wf_16_2, wf_16_3, wf_16_4, wr_17, wf_17_0, wp_17_0, wf_17_1, wp_17_1, wf_17_2, wp_17_2, wf_17_3, wp_17_3, wf_17_4, wf_17_5, wr_20, wf_20_0, wf_20_1, wf_20_2, wp_20_2, wf_20_3, wp_20_3, wr_22, wf_22_0, wf_22_1, wf_22_2, wp_22_2, wr_25, wf_25_0, wf_25_1, wf_25_2, wp_25_2, wr_28, wf_28_0, wf_28_1, wf_28_2, wp_28_2, wr_31, wf_31_0, wf_31_1, wf_31_2, wp_31_2, wf_31_3, wp_31_3, wr_33, wf_33_0, wf_33_1, wp_33_1, wf_33_2, wp_33_2, wr_35, wf_35_0, wf_35_1, wp_35_1, wf_35_2, wp_35_2, wf_35_3, wp_35_3, wr_36, wf_36_0, wf_36_1, wp_36_1, wf_36_2, wp_36_2, wr_38, wf_38_0, wp_38_0, wf_38_1, wp_38_1, wf_38_2, wp_38_2, wf_38_3, wp_38_3, wf_38_4, wf_38_5, wf_38_6, wf_38_7, wr_43, wf_43_0, wf_43_1, wp_43_1, wf_43_2, wf_43_3, wf_43_4, wp_43_4, wf_43_5, wp_43_5, wr_48, wf_48_0, wp_48_0, wf_48_1, wp_48_1, wf_48_2, wr_50, wf_50_0, wp_50_0, wf_50_1, wp_50_1, wf_50_2, wr_52, wf_52_0, wp_52_0, wf_52_1, wp_52_1, wf_52_2, wr_54, wf_54_0, wp_54_0, wf_54_1, wp_54_1, wf_54_2, wr_56, wf_56_0, wp_56_0, wf_56_1, wp_56_1, wf_56_2, wr_58, wf_58_0, wp_58_0, wf_58_1, wp_58_1, wf_58_2, wr_60, wf_60_0, wp_60_0, wf_60_1, wp_60_1, wf_60_2, wp_60_2, wf_60_3, wp_60_3, wf_60_4, wf_60_5, wf_60_6, wf_60_7, wf_60_8, wf_60_9, wf_60_10, wf_60_11, wp_60_11, wf_60_12, wf_60_13, wf_60_14, wp_60_14, wf_60_15, wf_60_16, wf_60_17, wp_60_17, wf_60_18, wf_60_19, wp_60_19, wf_60_20, wp_60_20, wf_60_21, wf_60_22, wf_60_23, wp_60_23, wf_60_24, wf_60_25, wf_60_26, wf_60_27, wf_60_28, wf_60_29, wp_60_29, wf_60_30, wf_60_31, wf_60_32, wf_60_33, wf_60_34, wp_60_34, wf_60_35, wf_60_36, wf_60_37, wf_60_38, wp_60_38, wf_60_39, wp_60_39, wf_60_40, wp_60_40, wf_60_41, wp_60_41, in_0, in_1, inL_a, inL_b, inL_c, inL_d, inL_e, inL_f, inL_g, inL_h, inL_i, inL_j, inL_k, inL_l, inL_m, inL_n, inL_o, bi_0]
  cases inB x 4 8 <;> cases inB y 2 3 <;> cases inB z 1 (y - 1) <;> rfl
theorem size0_bad {x y z : Int32} (h : okB x y z = false) (S : rSt) : J_X9_size 0 x y z (Wd S) = some (-2, Wd S) := by
  unfold J_X9_size
  rw [wr_0]
  by_cases h1 : x < 4
  · rw [if_pos h1]
  · by_cases h2 : 8 < x
    · rw [if_neg h1, if_pos h2]
    · by_cases h3 : y < 2
      · rw [if_neg h1, if_neg h2, if_pos h3]
      · by_cases h4 : 3 < y
        · rw [if_neg h1, if_neg h2, if_neg h3, if_pos h4]
        · by_cases h5 : z < 1
          · rw [if_neg h1, if_neg h2, if_neg h3, if_neg h4, if_pos h5]
          · by_cases h6 : z ≤ y - 1
            · exfalso
              unfold okB inB at h
              rw [← Int32.not_lt] at h6
              simp [h1, h2, h3, h4, h5, h6] at h
            · rw [if_neg h1, if_neg h2, if_neg h3, if_neg h4, if_neg h5, if_neg h6]
def zr (f : Nat → Int32) : Nat → Int32 := fun j => if j < 56 then 0 else f j
theorem size0 {V K T : Nat} (hk : Ok3 V K T) (S : rSt) : ∃ B' N', IsB V K B' N' ∧ J_X9_size 0 (nI V) (nI K) (nI T) (Wd S) = some (((100 * S.1 2 0) + (10 * S.1 2 1)) + S.1 2 2, Wd (sl (sl (sa (sa (sa (si (si (si (si S 2 0 (nI V)) 2 1 (nI K)) 2 2 (nI T)) 2 3 (nI (MB V K))) 3 B') 4 N') 6 (zr (S.2.2.1 6))) 5 2 0) 5 3 0)) := by
  obtain ⟨B', N', r1, r2⟩ := become2 (S := S) hk
  refine ⟨B', N', r1, ?_⟩
  obtain ⟨k1, k2, k3, k4, k5, k6⟩ := hk
  have h1 : ¬ nI V < 4 := nI_nlt (a := V) (b := 4) k1 (by omega)
  have h2 : ¬ 8 < nI V := nI_nlt (a := 8) (b := V) k2 (by omega)
  have h3 : ¬ nI K < 2 := nI_nlt (a := K) (b := 2) k3 (by omega)
  have h4 : ¬ 3 < nI K := nI_nlt (a := 3) (b := K) k4 (by omega)
  have h5 : ¬ nI T < 1 := nI_nlt (a := T) (b := 1) k5 (by omega)
  have h6 : nI T ≤ nI K - 1 := by rw [nI_prd (by omega)]; exact nI_le (by omega) (by omega)
  unfold J_X9_size
  rw [wr_0, if_neg h1, if_neg h2, if_neg h3, if_neg h4, if_neg h5, if_pos h6]
  have e1 := sizes2 S
  simp only [Nat.reduceEqDiff, Nat.reduceAdd, Nat.reduceMul, reduceCtorEq, if_true, if_false, bs, rLet_eq, rB2_e, reduceIte, wr_0, wf_0_0, wf_0_1, wf_0_2, wp_0_2, wf_0_3, wf_0_4, wf_0_5, wf_0_6, wf_0_7, wf_0_8, wr_1, wf_1_0, wf_1_1, wf_1_2, wf_1_3, wf_1_4, wr_2, wf_2_0, wp_2_0, wf_2_1, wp_2_1, wf_2_2, wp_2_2, wf_2_3, wp_2_3, wf_2_4, wf_2_5, wr_5, wf_5_0, wf_5_1, wf_5_2, wp_5_2, wf_5_3, wp_5_3, wr_7, wf_7_0, wf_7_1, wf_7_2, wp_7_2, wr_10, wf_10_0, wf_10_1, wf_10_2, wp_10_2, wr_13, wf_13_0, wf_13_1, wf_13_2, wp_13_2, wr_16, wf_16_0, wf_16_1, wf_16_2, wf_16_3, wf_16_4, wr_17, wf_17_0, wp_17_0, wf_17_1, wp_17_1, wf_17_2, wp_17_2, wf_17_3, wp_17_3, wf_17_4, wf_17_5, wr_20, wf_20_0, wf_20_1, wf_20_2, wp_20_2, wf_20_3, wp_20_3, wr_22, wf_22_0, wf_22_1, wf_22_2, wp_22_2, wr_25, wf_25_0, wf_25_1, wf_25_2, wp_25_2, wr_28, wf_28_0, wf_28_1, wf_28_2, wp_28_2, wr_31, wf_31_0, wf_31_1, wf_31_2, wp_31_2, wf_31_3, wp_31_3, wr_33, wf_33_0, wf_33_1, wp_33_1, wf_33_2, wp_33_2, wr_35, wf_35_0, wf_35_1, wp_35_1, wf_35_2, wp_35_2, wf_35_3, wp_35_3, wr_36, wf_36_0, wf_36_1, wp_36_1, wf_36_2, wp_36_2, wr_38, wf_38_0, wp_38_0, wf_38_1, wp_38_1, wf_38_2, wp_38_2, wf_38_3, wp_38_3, wf_38_4, wf_38_5, wf_38_6, wf_38_7, wr_43, wf_43_0, wf_43_1, wp_43_1, wf_43_2, wf_43_3, wf_43_4, wp_43_4, wf_43_5, wp_43_5, wr_48, wf_48_0, wp_48_0, wf_48_1, wp_48_1, wf_48_2, wr_50, wf_50_0, wp_50_0, wf_50_1, wp_50_1, wf_50_2, wr_52, wf_52_0, wp_52_0, wf_52_1, wp_52_1, wf_52_2, wr_54, wf_54_0, wp_54_0, wf_54_1, wp_54_1, wf_54_2, wr_56, wf_56_0, wp_56_0, wf_56_1, wp_56_1, wf_56_2, wr_58, wf_58_0, wp_58_0, wf_58_1, wp_58_1, wf_58_2, wr_60, wf_60_0, wp_60_0, wf_60_1, wp_60_1, wf_60_2, wp_60_2, wf_60_3, wp_60_3, wf_60_4, wf_60_5, wf_60_6, wf_60_7, wf_60_8, wf_60_9, wf_60_10, wf_60_11, wp_60_11, wf_60_12, wf_60_13, wf_60_14, wp_60_14, wf_60_15, wf_60_16, wf_60_17, wp_60_17, wf_60_18, wf_60_19, wp_60_19, wf_60_20, wp_60_20, wf_60_21, wf_60_22, wf_60_23, wp_60_23, wf_60_24, wf_60_25, wf_60_26, wf_60_27, wf_60_28, wf_60_29, wp_60_29, wf_60_30, wf_60_31, wf_60_32, wf_60_33, wf_60_34, wp_60_34, wf_60_35, wf_60_36, wf_60_37, wf_60_38, wp_60_38, wf_60_39, wp_60_39, wf_60_40, wp_60_40, wf_60_41, wp_60_41, e1, r2, becomeEmpty5]
  rfl
theorem becomes60 {V K T : Nat} (hk : Ok3 V K T) (S : rSt) : ∃ B' N', IsB V K B' N' ∧ J_X10_becomes 60 (nI V) (nI K) (nI T) (Wd S) = some (Wd (sa (sa (sa (sa (sa (si (si (si (si S 60 0 (nI V)) 60 1 (nI K)) 60 2 (nI T)) 60 3 (nI (MB V K))) 61 B') 62 N') 63 (zr (S.2.2.1 63))) 64 (zr (S.2.2.1 64))) 65 (zr (S.2.2.1 65)))) := by
  obtain ⟨k1, k2, k3, k4, k5, k6⟩ := hk
  obtain ⟨B', N', r1, r2⟩ := lists60 (S := si (si (si S 60 0 (nI V)) 60 1 (nI K)) 60 2 (nI T)) (V := V) (K := K) k2 (by omega) rfl rfl
  refine ⟨B', N', r1, ?_⟩
  unfold J_X10_becomes
  simp only [Nat.reduceEqDiff, Nat.reduceAdd, Nat.reduceMul, reduceCtorEq, if_true, if_false, bs, rLet_eq, rB2_e, reduceIte, wr_0, wf_0_0, wf_0_1, wf_0_2, wp_0_2, wf_0_3, wf_0_4, wf_0_5, wf_0_6, wf_0_7, wf_0_8, wr_1, wf_1_0, wf_1_1, wf_1_2, wf_1_3, wf_1_4, wr_2, wf_2_0, wp_2_0, wf_2_1, wp_2_1, wf_2_2, wp_2_2, wf_2_3, wp_2_3, wf_2_4, wf_2_5, wr_5, wf_5_0, wf_5_1, wf_5_2, wp_5_2, wf_5_3, wp_5_3, wr_7, wf_7_0, wf_7_1, wf_7_2, wp_7_2, wr_10, wf_10_0, wf_10_1, wf_10_2, wp_10_2, wr_13, wf_13_0, wf_13_1, wf_13_2, wp_13_2, wr_16, wf_16_0, wf_16_1, wf_16_2, wf_16_3, wf_16_4, wr_17, wf_17_0, wp_17_0, wf_17_1, wp_17_1, wf_17_2, wp_17_2, wf_17_3, wp_17_3, wf_17_4, wf_17_5, wr_20, wf_20_0, wf_20_1, wf_20_2, wp_20_2, wf_20_3, wp_20_3, wr_22, wf_22_0, wf_22_1, wf_22_2, wp_22_2, wr_25, wf_25_0, wf_25_1, wf_25_2, wp_25_2, wr_28, wf_28_0, wf_28_1, wf_28_2, wp_28_2, wr_31, wf_31_0, wf_31_1, wf_31_2, wp_31_2, wf_31_3, wp_31_3, wr_33, wf_33_0, wf_33_1, wp_33_1, wf_33_2, wp_33_2, wr_35, wf_35_0, wf_35_1, wp_35_1, wf_35_2, wp_35_2, wf_35_3, wp_35_3, wr_36, wf_36_0, wf_36_1, wp_36_1, wf_36_2, wp_36_2, wr_38, wf_38_0, wp_38_0, wf_38_1, wp_38_1, wf_38_2, wp_38_2, wf_38_3, wp_38_3, wf_38_4, wf_38_5, wf_38_6, wf_38_7, wr_43, wf_43_0, wf_43_1, wp_43_1, wf_43_2, wf_43_3, wf_43_4, wp_43_4, wf_43_5, wp_43_5, wr_48, wf_48_0, wp_48_0, wf_48_1, wp_48_1, wf_48_2, wr_50, wf_50_0, wp_50_0, wf_50_1, wp_50_1, wf_50_2, wr_52, wf_52_0, wp_52_0, wf_52_1, wp_52_1, wf_52_2, wr_54, wf_54_0, wp_54_0, wf_54_1, wp_54_1, wf_54_2, wr_56, wf_56_0, wp_56_0, wf_56_1, wp_56_1, wf_56_2, wr_58, wf_58_0, wp_58_0, wf_58_1, wp_58_1, wf_58_2, wr_60, wf_60_0, wp_60_0, wf_60_1, wp_60_1, wf_60_2, wp_60_2, wf_60_3, wp_60_3, wf_60_4, wf_60_5, wf_60_6, wf_60_7, wf_60_8, wf_60_9, wf_60_10, wf_60_11, wp_60_11, wf_60_12, wf_60_13, wf_60_14, wp_60_14, wf_60_15, wf_60_16, wf_60_17, wp_60_17, wf_60_18, wf_60_19, wp_60_19, wf_60_20, wp_60_20, wf_60_21, wf_60_22, wf_60_23, wp_60_23, wf_60_24, wf_60_25, wf_60_26, wf_60_27, wf_60_28, wf_60_29, wp_60_29, wf_60_30, wf_60_31, wf_60_32, wf_60_33, wf_60_34, wp_60_34, wf_60_35, wf_60_36, wf_60_37, wf_60_38, wp_60_38, wf_60_39, wp_60_39, wf_60_40, wp_60_40, wf_60_41, wp_60_41, r2, zero60]
  rfl
theorem size60_ (S : rSt) (x y z : Int32) : J_X10_size_ 60 x y z (Wd S) = if okB x y z = true then (J_X10_becomes 60 x y z (Wd S)).bind fun w => some (((100 * S.1 60 0) + (10 * S.1 60 1)) + S.1 60 2, w) else some (-2, Wd S) := by
  unfold J_X10_size_
  simp only [Nat.reduceEqDiff, Nat.reduceAdd, Nat.reduceMul, reduceCtorEq, if_true, if_false, bs, rLet_eq, rB2_e, reduceIte, wr_0, wf_0_0, wf_0_1, wf_0_2, wp_0_2, wf_0_3, wf_0_4, wf_0_5, wf_0_6, wf_0_7, wf_0_8, wr_1, wf_1_0, wf_1_1, wf_1_2, wf_1_3, wf_1_4, wr_2, wf_2_0, wp_2_0, wf_2_1, wp_2_1, wf_2_2, wp_2_2, wf_2_3, wp_2_3, wf_2_4, wf_2_5, wr_5, wf_5_0, wf_5_1, wf_5_2, wp_5_2, wf_5_3, wp_5_3, wr_7, wf_7_0, wf_7_1, wf_7_2, wp_7_2, wr_10, wf_10_0, wf_10_1, wf_10_2, wp_10_2, wr_13, wf_13_0, wf_13_1, wf_13_2, wp_13_2, wr_16, wf_16_0, wf_16_1, wf_16_2, wf_16_3, wf_16_4, wr_17, wf_17_0, wp_17_0, wf_17_1, wp_17_1, wf_17_2, wp_17_2, wf_17_3, wp_17_3, wf_17_4, wf_17_5, wr_20, wf_20_0, wf_20_1, wf_20_2, wp_20_2, wf_20_3, wp_20_3, wr_22, wf_22_0, wf_22_1, wf_22_2, wp_22_2, wr_25, wf_25_0, wf_25_1, wf_25_2, wp_25_2, wr_28, wf_28_0, wf_28_1, wf_28_2, wp_28_2, wr_31, wf_31_0, wf_31_1, wf_31_2, wp_31_2, wf_31_3, wp_31_3, wr_33, wf_33_0, wf_33_1, wp_33_1, wf_33_2, wp_33_2, wr_35, wf_35_0, wf_35_1, wp_35_1, wf_35_2, wp_35_2, wf_35_3, wp_35_3, wr_36, wf_36_0, wf_36_1, wp_36_1, wf_36_2, wp_36_2, wr_38, wf_38_0, wp_38_0, wf_38_1, wp_38_1, wf_38_2, wp_38_2, wf_38_3, wp_38_3, wf_38_4, wf_38_5, wf_38_6, wf_38_7, wr_43, wf_43_0, wf_43_1, wp_43_1, wf_43_2, wf_43_3, wf_43_4, wp_43_4, wf_43_5, wp_43_5, wr_48, wf_48_0, wp_48_0, wf_48_1, wp_48_1, wf_48_2, wr_50, wf_50_0, wp_50_0, wf_50_1, wp_50_1, wf_50_2, wr_52, wf_52_0, wp_52_0, wf_52_1, wp_52_1, wf_52_2, wr_54, wf_54_0, wp_54_0, wf_54_1, wp_54_1, wf_54_2, wr_56, wf_56_0, wp_56_0, wf_56_1, wp_56_1, wf_56_2, wr_58, wf_58_0, wp_58_0, wf_58_1, wp_58_1, wf_58_2, wr_60, wf_60_0, wp_60_0, wf_60_1, wp_60_1, wf_60_2, wp_60_2, wf_60_3, wp_60_3, wf_60_4, wf_60_5, wf_60_6, wf_60_7, wf_60_8, wf_60_9, wf_60_10, wf_60_11, wp_60_11, wf_60_12, wf_60_13, wf_60_14, wp_60_14, wf_60_15, wf_60_16, wf_60_17, wp_60_17, wf_60_18, wf_60_19, wp_60_19, wf_60_20, wp_60_20, wf_60_21, wf_60_22, wf_60_23, wp_60_23, wf_60_24, wf_60_25, wf_60_26, wf_60_27, wf_60_28, wf_60_29, wp_60_29, wf_60_30, wf_60_31, wf_60_32, wf_60_33, wf_60_34, wp_60_34, wf_60_35, wf_60_36, wf_60_37, wf_60_38, wp_60_38, wf_60_39, wp_60_39, wf_60_40, wp_60_40, wf_60_41, wp_60_41, isSize60, shape60, bi_0]
  cases okB x y z <;> rfl
theorem tb0 (i : Nat) : tb 0 i = false := tb_0 i
theorem RSt_0 {M : Nat} {c' d' e' f : Nat → Int32} : RSt M (zr f) 0 0 (zr c') (zr d') (zr e') := by
  refine ⟨fun b hb => ?_, fun b _ => ⟨tb_0 b, tb_0 b, fun hb => ?_⟩⟩
  · unfold zr
    simp only [if_pos hb, tb_0]
    refine ⟨trivial, rfl, rfl, by decide⟩
  · unfold zr
    rw [if_pos hb]
theorem op_size (x y z : Int32) : Op (J_X9_size 0 x y z) (J_X10_size_ 60 x y z) := by
  intro V K T S M0 h0
  obtain ⟨⟨hk, c0, c1, c2, c3, cB⟩, -⟩ := h0.1
  cases h : okB x y z
  · refine ⟨-2, V, K, T, S, size0_bad h S, mE_r S, fun M hM => ⟨M, ?_, hM, cE_r M⟩⟩
    rw [size60_, h]
    rfl
  · obtain ⟨V', K', T', hk', rfl, rfl, rfl⟩ := okB_n h
    obtain ⟨B, N, hB, e1⟩ := size0 hk' S
    rw [c0, c1, c2] at e1
    refine ⟨_, V', K', T', _, e1, by repeat (first | exact mE_r _ | refine mE_l ?_ | refine mE_a (by decide) ?_ | refine mE_i (by decide) ?_ | refine mE_j (by decide) ?_), fun M hM => ?_⟩
    obtain ⟨⟨-, -, m0, m1, m2, m3, mB⟩, hst, htx, hre⟩ := hM
    obtain ⟨B', N', hB', e2⟩ := becomes60 hk' M
    have e3 := size60_ M (nI V') (nI K') (nI T')
    rw [h, if_pos rfl, e2, bs, m0, m1, m2] at e3
    exact ⟨_, e3, ⟨⟨⟨hk', rfl, rfl, rfl, rfl, hB⟩, hk', rfl, rfl, rfl, rfl, hB'⟩, RSt_0, htx, hre⟩, by repeat (first | exact cE_r _ | refine cE_a (by decide) ?_ | refine cE_i (by decide) ?_ | refine cE_j ?_)⟩

/-! FITS -/
theorem jmax_le (x y c : Int32) : jmax x y ≤ c ↔ x ≤ c ∧ y ≤ c := by
  unfold jmax
  by_cases h : x < y
  · rw [if_pos h]
    rw [Int32.lt_iff_toInt_lt] at h
    rw [Int32.le_iff_toInt_le, Int32.le_iff_toInt_le]
    omega
  · rw [if_neg h]
    rw [Int32.lt_iff_toInt_lt] at h
    rw [Int32.le_iff_toInt_le, Int32.le_iff_toInt_le]
    omega
theorem le_jmin (x y c : Int32) : c ≤ jmin x y ↔ c ≤ x ∧ c ≤ y := by
  unfold jmin
  by_cases h : y < x
  · rw [if_pos h]
    rw [Int32.lt_iff_toInt_lt] at h
    rw [Int32.le_iff_toInt_le, Int32.le_iff_toInt_le]
    omega
  · rw [if_neg h]
    rw [Int32.lt_iff_toInt_lt] at h
    rw [Int32.le_iff_toInt_le, Int32.le_iff_toInt_le]
    omega
/-- a count taken out of a sum, another put in -/
theorem sumF_upd (B f : Nat → Int32) (x c : Int32) {b : Nat} : ∀ n, sumF B (upd f b c) x n = if b < n ∧ (B b &&& x) = x then sumF B f x n - f b + c else sumF B f x n := by
  intro n
  induction n with
  | zero => rw [if_neg (by omega)]; rfl
  | succ n ih =>
    unfold sumF at *
    rw [rF_last, rF_last, ih, Nat.zero_add]
    by_cases hx : (B n &&& x) = x
    · rw [if_pos hx, if_pos hx]
      by_cases hb : b = n
      · subst hb
        rw [if_neg (by omega), if_pos ⟨by omega, hx⟩, up_s, Int32.add_sub_cancel]
      · rw [up_n (fun h => hb h.symm)]
        by_cases h2 : b < n ∧ (B b &&& x) = x
        · rw [if_pos h2, if_pos ⟨by omega, h2.2⟩]
          simp only [Int32.sub_eq_add_neg, Int32.add_assoc]
          congr 1
          rw [Int32.add_comm c, ← Int32.add_assoc, ← Int32.add_assoc, Int32.add_comm (f n)]
        · rw [if_neg h2, if_neg (fun h => h2 ⟨by omega, h.2⟩)]
    · rw [if_neg hx, if_neg hx]
      by_cases h2 : b < n ∧ (B b &&& x) = x
      · rw [if_pos h2, if_pos ⟨by omega, h2.2⟩]
      · rw [if_neg h2]
        rw [if_neg]
        rintro ⟨h3, h4⟩
        by_cases hb : b = n
        · subst hb; exact hx h4
        · exact h2 ⟨by omega, h4⟩
/-- a row of SEEN that isn't so -/
def snP (V T n : Nat) (B f g h : Nat → Int32) (j : Nat) : Bool := !setB (g j) (nI V) (nI T) || !decide (sumF B f (g j) n = h j)
theorem isSeen60 {S : rSt} {V T n q : Nat} (hv : S.1 60 0 = nI V) (h8 : V ≤ 8) (ht : S.1 60 2 = nI T) (hn : S.1 60 3 = nI n) (h56 : n ≤ 56) (hq : S.1 60 11 = nI q) (h4 : q ≤ 4) : J_X10_isSeen 60 (Wd S) = some (!(rFd (snP V T n (S.2.2.1 61) (S.2.2.1 63) (S.2.2.1 66) (S.2.2.1 67)) q 0).isSome) := by
  have e0 := nI_refl (n := q) (by omega)
  unfold J_X10_isSeen
  rw [wr_60]
  refine (loopA (fun f i => J_X10_isSeen_2 60 (Wd S) f (nI i)) (some true) (some false) (snP V T n (S.2.2.1 61) (S.2.2.1 63) (S.2.2.1 66) (S.2.2.1 67)) q ?_ ?_ (f := 2000) (by omega)).trans ?_
  · intro f
    rw [J_X10_isSeen_2]
    simp only [Nat.reduceEqDiff, Nat.reduceAdd, Nat.reduceMul, reduceCtorEq, if_true, if_false, bs, rLet_eq, rB2_e, reduceIte, wr_0, wf_0_0, wf_0_1, wf_0_2, wp_0_2, wf_0_3, wf_0_4, wf_0_5, wf_0_6, wf_0_7, wf_0_8, wr_1, wf_1_0, wf_1_1, wf_1_2, wf_1_3, wf_1_4, wr_2, wf_2_0, wp_2_0, wf_2_1, wp_2_1, wf_2_2, wp_2_2, wf_2_3, wp_2_3, wf_2_4, wf_2_5, wr_5, wf_5_0, wf_5_1, wf_5_2, wp_5_2, wf_5_3, wp_5_3, wr_7, wf_7_0, wf_7_1, wf_7_2, wp_7_2, wr_10, wf_10_0, wf_10_1, wf_10_2, wp_10_2, wr_13, wf_13_0, wf_13_1, wf_13_2, wp_13_2, wr_16, wf_16_0, wf_16_1, wf_16_2, wf_16_3, wf_16_4, wr_17, wf_17_0, wp_17_0, wf_17_1, wp_17_1, wf_17_2, wp_17_2, wf_17_3, wp_17_3, wf_17_4, wf_17_5, wr_20, wf_20_0, wf_20_1, wf_20_2, wp_20_2, wf_20_3, wp_20_3, wr_22, wf_22_0, wf_22_1, wf_22_2, wp_22_2, wr_25, wf_25_0, wf_25_1, wf_25_2, wp_25_2, wr_28, wf_28_0, wf_28_1, wf_28_2, wp_28_2, wr_31, wf_31_0, wf_31_1, wf_31_2, wp_31_2, wf_31_3, wp_31_3, wr_33, wf_33_0, wf_33_1, wp_33_1, wf_33_2, wp_33_2, wr_35, wf_35_0, wf_35_1, wp_35_1, wf_35_2, wp_35_2, wf_35_3, wp_35_3, wr_36, wf_36_0, wf_36_1, wp_36_1, wf_36_2, wp_36_2, wr_38, wf_38_0, wp_38_0, wf_38_1, wp_38_1, wf_38_2, wp_38_2, wf_38_3, wp_38_3, wf_38_4, wf_38_5, wf_38_6, wf_38_7, wr_43, wf_43_0, wf_43_1, wp_43_1, wf_43_2, wf_43_3, wf_43_4, wp_43_4, wf_43_5, wp_43_5, wr_48, wf_48_0, wp_48_0, wf_48_1, wp_48_1, wf_48_2, wr_50, wf_50_0, wp_50_0, wf_50_1, wp_50_1, wf_50_2, wr_52, wf_52_0, wp_52_0, wf_52_1, wp_52_1, wf_52_2, wr_54, wf_54_0, wp_54_0, wf_54_1, wp_54_1, wf_54_2, wr_56, wf_56_0, wp_56_0, wf_56_1, wp_56_1, wf_56_2, wr_58, wf_58_0, wp_58_0, wf_58_1, wp_58_1, wf_58_2, wr_60, wf_60_0, wp_60_0, wf_60_1, wp_60_1, wf_60_2, wp_60_2, wf_60_3, wp_60_3, wf_60_4, wf_60_5, wf_60_6, wf_60_7, wf_60_8, wf_60_9, wf_60_10, wf_60_11, wp_60_11, wf_60_12, wf_60_13, wf_60_14, wp_60_14, wf_60_15, wf_60_16, wf_60_17, wp_60_17, wf_60_18, wf_60_19, wp_60_19, wf_60_20, wp_60_20, wf_60_21, wf_60_22, wf_60_23, wp_60_23, wf_60_24, wf_60_25, wf_60_26, wf_60_27, wf_60_28, wf_60_29, wp_60_29, wf_60_30, wf_60_31, wf_60_32, wf_60_33, wf_60_34, wp_60_34, wf_60_35, wf_60_36, wf_60_37, wf_60_38, wp_60_38, wf_60_39, wp_60_39, wf_60_40, wp_60_40, wf_60_41, wp_60_41, hq, e0]
  · intro f i hi
    have e1 : (nI q ≤ nI i) ↔ False := iff_false_intro (nI_ge hi (by omega))
    have e2 := isSet60 hv h8 (S.2.2.1 66 i) (nI T)
    have e3 := sumOf60 hn h56 (S.2.2.1 66 i)
    have i4 : i < 4 := by omega
    rw [J_X10_isSeen_2]
    unfold snP
    cases h1 : setB (S.2.2.1 66 i) (nI V) (nI T)
    · simp only [Nat.reduceEqDiff, Nat.reduceAdd, Nat.reduceMul, reduceCtorEq, if_true, if_false, bs, rLet_eq, rB2_e, reduceIte, wr_0, wf_0_0, wf_0_1, wf_0_2, wp_0_2, wf_0_3, wf_0_4, wf_0_5, wf_0_6, wf_0_7, wf_0_8, wr_1, wf_1_0, wf_1_1, wf_1_2, wf_1_3, wf_1_4, wr_2, wf_2_0, wp_2_0, wf_2_1, wp_2_1, wf_2_2, wp_2_2, wf_2_3, wp_2_3, wf_2_4, wf_2_5, wr_5, wf_5_0, wf_5_1, wf_5_2, wp_5_2, wf_5_3, wp_5_3, wr_7, wf_7_0, wf_7_1, wf_7_2, wp_7_2, wr_10, wf_10_0, wf_10_1, wf_10_2, wp_10_2, wr_13, wf_13_0, wf_13_1, wf_13_2, wp_13_2, wr_16, wf_16_0, wf_16_1, wf_16_2, wf_16_3, wf_16_4, wr_17, wf_17_0, wp_17_0, wf_17_1, wp_17_1, wf_17_2, wp_17_2, wf_17_3, wp_17_3, wf_17_4, wf_17_5, wr_20, wf_20_0, wf_20_1, wf_20_2, wp_20_2, wf_20_3, wp_20_3, wr_22, wf_22_0, wf_22_1, wf_22_2, wp_22_2, wr_25, wf_25_0, wf_25_1, wf_25_2, wp_25_2, wr_28, wf_28_0, wf_28_1, wf_28_2, wp_28_2, wr_31, wf_31_0, wf_31_1, wf_31_2, wp_31_2, wf_31_3, wp_31_3, wr_33, wf_33_0, wf_33_1, wp_33_1, wf_33_2, wp_33_2, wr_35, wf_35_0, wf_35_1, wp_35_1, wf_35_2, wp_35_2, wf_35_3, wp_35_3, wr_36, wf_36_0, wf_36_1, wp_36_1, wf_36_2, wp_36_2, wr_38, wf_38_0, wp_38_0, wf_38_1, wp_38_1, wf_38_2, wp_38_2, wf_38_3, wp_38_3, wf_38_4, wf_38_5, wf_38_6, wf_38_7, wr_43, wf_43_0, wf_43_1, wp_43_1, wf_43_2, wf_43_3, wf_43_4, wp_43_4, wf_43_5, wp_43_5, wr_48, wf_48_0, wp_48_0, wf_48_1, wp_48_1, wf_48_2, wr_50, wf_50_0, wp_50_0, wf_50_1, wp_50_1, wf_50_2, wr_52, wf_52_0, wp_52_0, wf_52_1, wp_52_1, wf_52_2, wr_54, wf_54_0, wp_54_0, wf_54_1, wp_54_1, wf_54_2, wr_56, wf_56_0, wp_56_0, wf_56_1, wp_56_1, wf_56_2, wr_58, wf_58_0, wp_58_0, wf_58_1, wp_58_1, wf_58_2, wr_60, wf_60_0, wp_60_0, wf_60_1, wp_60_1, wf_60_2, wp_60_2, wf_60_3, wp_60_3, wf_60_4, wf_60_5, wf_60_6, wf_60_7, wf_60_8, wf_60_9, wf_60_10, wf_60_11, wp_60_11, wf_60_12, wf_60_13, wf_60_14, wp_60_14, wf_60_15, wf_60_16, wf_60_17, wp_60_17, wf_60_18, wf_60_19, wp_60_19, wf_60_20, wp_60_20, wf_60_21, wf_60_22, wf_60_23, wp_60_23, wf_60_24, wf_60_25, wf_60_26, wf_60_27, wf_60_28, wf_60_29, wp_60_29, wf_60_30, wf_60_31, wf_60_32, wf_60_33, wf_60_34, wp_60_34, wf_60_35, wf_60_36, wf_60_37, wf_60_38, wp_60_38, wf_60_39, wp_60_39, wf_60_40, wp_60_40, wf_60_41, wp_60_41, wa_66 i4, hq, ht, e1, e2, h1, bi_0, Bool.not_false, Bool.true_or]
    · by_cases h2 : sumF (S.2.2.1 61) (S.2.2.1 63) (S.2.2.1 66 i) n = S.2.2.1 67 i
      · simp only [Nat.reduceEqDiff, Nat.reduceAdd, Nat.reduceMul, reduceCtorEq, if_true, if_false, bs, rLet_eq, rB2_e, reduceIte, wr_0, wf_0_0, wf_0_1, wf_0_2, wp_0_2, wf_0_3, wf_0_4, wf_0_5, wf_0_6, wf_0_7, wf_0_8, wr_1, wf_1_0, wf_1_1, wf_1_2, wf_1_3, wf_1_4, wr_2, wf_2_0, wp_2_0, wf_2_1, wp_2_1, wf_2_2, wp_2_2, wf_2_3, wp_2_3, wf_2_4, wf_2_5, wr_5, wf_5_0, wf_5_1, wf_5_2, wp_5_2, wf_5_3, wp_5_3, wr_7, wf_7_0, wf_7_1, wf_7_2, wp_7_2, wr_10, wf_10_0, wf_10_1, wf_10_2, wp_10_2, wr_13, wf_13_0, wf_13_1, wf_13_2, wp_13_2, wr_16, wf_16_0, wf_16_1, wf_16_2, wf_16_3, wf_16_4, wr_17, wf_17_0, wp_17_0, wf_17_1, wp_17_1, wf_17_2, wp_17_2, wf_17_3, wp_17_3, wf_17_4, wf_17_5, wr_20, wf_20_0, wf_20_1, wf_20_2, wp_20_2, wf_20_3, wp_20_3, wr_22, wf_22_0, wf_22_1, wf_22_2, wp_22_2, wr_25, wf_25_0, wf_25_1, wf_25_2, wp_25_2, wr_28, wf_28_0, wf_28_1, wf_28_2, wp_28_2, wr_31, wf_31_0, wf_31_1, wf_31_2, wp_31_2, wf_31_3, wp_31_3, wr_33, wf_33_0, wf_33_1, wp_33_1, wf_33_2, wp_33_2, wr_35, wf_35_0, wf_35_1, wp_35_1, wf_35_2, wp_35_2, wf_35_3, wp_35_3, wr_36, wf_36_0, wf_36_1, wp_36_1, wf_36_2, wp_36_2, wr_38, wf_38_0, wp_38_0, wf_38_1, wp_38_1, wf_38_2, wp_38_2, wf_38_3, wp_38_3, wf_38_4, wf_38_5, wf_38_6, wf_38_7, wr_43, wf_43_0, wf_43_1, wp_43_1, wf_43_2, wf_43_3, wf_43_4, wp_43_4, wf_43_5, wp_43_5, wr_48, wf_48_0, wp_48_0, wf_48_1, wp_48_1, wf_48_2, wr_50, wf_50_0, wp_50_0, wf_50_1, wp_50_1, wf_50_2, wr_52, wf_52_0, wp_52_0, wf_52_1, wp_52_1, wf_52_2, wr_54, wf_54_0, wp_54_0, wf_54_1, wp_54_1, wf_54_2, wr_56, wf_56_0, wp_56_0, wf_56_1, wp_56_1, wf_56_2, wr_58, wf_58_0, wp_58_0, wf_58_1, wp_58_1, wf_58_2, wr_60, wf_60_0, wp_60_0, wf_60_1, wp_60_1, wf_60_2, wp_60_2, wf_60_3, wp_60_3, wf_60_4, wf_60_5, wf_60_6, wf_60_7, wf_60_8, wf_60_9, wf_60_10, wf_60_11, wp_60_11, wf_60_12, wf_60_13, wf_60_14, wp_60_14, wf_60_15, wf_60_16, wf_60_17, wp_60_17, wf_60_18, wf_60_19, wp_60_19, wf_60_20, wp_60_20, wf_60_21, wf_60_22, wf_60_23, wp_60_23, wf_60_24, wf_60_25, wf_60_26, wf_60_27, wf_60_28, wf_60_29, wp_60_29, wf_60_30, wf_60_31, wf_60_32, wf_60_33, wf_60_34, wp_60_34, wf_60_35, wf_60_36, wf_60_37, wf_60_38, wp_60_38, wf_60_39, wp_60_39, wf_60_40, wp_60_40, wf_60_41, wp_60_41, wa_66 i4, wa_67 i4, hq, ht, e1, e2, h1, bi_0, e3, h2, nI_1, decide_true, Bool.not_true, Bool.or_false, Bool.false_eq_true]
      · simp only [Nat.reduceEqDiff, Nat.reduceAdd, Nat.reduceMul, reduceCtorEq, if_true, if_false, bs, rLet_eq, rB2_e, reduceIte, wr_0, wf_0_0, wf_0_1, wf_0_2, wp_0_2, wf_0_3, wf_0_4, wf_0_5, wf_0_6, wf_0_7, wf_0_8, wr_1, wf_1_0, wf_1_1, wf_1_2, wf_1_3, wf_1_4, wr_2, wf_2_0, wp_2_0, wf_2_1, wp_2_1, wf_2_2, wp_2_2, wf_2_3, wp_2_3, wf_2_4, wf_2_5, wr_5, wf_5_0, wf_5_1, wf_5_2, wp_5_2, wf_5_3, wp_5_3, wr_7, wf_7_0, wf_7_1, wf_7_2, wp_7_2, wr_10, wf_10_0, wf_10_1, wf_10_2, wp_10_2, wr_13, wf_13_0, wf_13_1, wf_13_2, wp_13_2, wr_16, wf_16_0, wf_16_1, wf_16_2, wf_16_3, wf_16_4, wr_17, wf_17_0, wp_17_0, wf_17_1, wp_17_1, wf_17_2, wp_17_2, wf_17_3, wp_17_3, wf_17_4, wf_17_5, wr_20, wf_20_0, wf_20_1, wf_20_2, wp_20_2, wf_20_3, wp_20_3, wr_22, wf_22_0, wf_22_1, wf_22_2, wp_22_2, wr_25, wf_25_0, wf_25_1, wf_25_2, wp_25_2, wr_28, wf_28_0, wf_28_1, wf_28_2, wp_28_2, wr_31, wf_31_0, wf_31_1, wf_31_2, wp_31_2, wf_31_3, wp_31_3, wr_33, wf_33_0, wf_33_1, wp_33_1, wf_33_2, wp_33_2, wr_35, wf_35_0, wf_35_1, wp_35_1, wf_35_2, wp_35_2, wf_35_3, wp_35_3, wr_36, wf_36_0, wf_36_1, wp_36_1, wf_36_2, wp_36_2, wr_38, wf_38_0, wp_38_0, wf_38_1, wp_38_1, wf_38_2, wp_38_2, wf_38_3, wp_38_3, wf_38_4, wf_38_5, wf_38_6, wf_38_7, wr_43, wf_43_0, wf_43_1, wp_43_1, wf_43_2, wf_43_3, wf_43_4, wp_43_4, wf_43_5, wp_43_5, wr_48, wf_48_0, wp_48_0, wf_48_1, wp_48_1, wf_48_2, wr_50, wf_50_0, wp_50_0, wf_50_1, wp_50_1, wf_50_2, wr_52, wf_52_0, wp_52_0, wf_52_1, wp_52_1, wf_52_2, wr_54, wf_54_0, wp_54_0, wf_54_1, wp_54_1, wf_54_2, wr_56, wf_56_0, wp_56_0, wf_56_1, wp_56_1, wf_56_2, wr_58, wf_58_0, wp_58_0, wf_58_1, wp_58_1, wf_58_2, wr_60, wf_60_0, wp_60_0, wf_60_1, wp_60_1, wf_60_2, wp_60_2, wf_60_3, wp_60_3, wf_60_4, wf_60_5, wf_60_6, wf_60_7, wf_60_8, wf_60_9, wf_60_10, wf_60_11, wp_60_11, wf_60_12, wf_60_13, wf_60_14, wp_60_14, wf_60_15, wf_60_16, wf_60_17, wp_60_17, wf_60_18, wf_60_19, wp_60_19, wf_60_20, wp_60_20, wf_60_21, wf_60_22, wf_60_23, wp_60_23, wf_60_24, wf_60_25, wf_60_26, wf_60_27, wf_60_28, wf_60_29, wp_60_29, wf_60_30, wf_60_31, wf_60_32, wf_60_33, wf_60_34, wp_60_34, wf_60_35, wf_60_36, wf_60_37, wf_60_38, wp_60_38, wf_60_39, wp_60_39, wf_60_40, wp_60_40, wf_60_41, wp_60_41, wa_66 i4, wa_67 i4, hq, ht, e1, e2, h1, bi_0, e3, h2, decide_false, Bool.not_true, Bool.not_false, Bool.or_true]
  · cases (rFd (snP V T n (S.2.2.1 61) (S.2.2.1 63) (S.2.2.1 66) (S.2.2.1 67)) q 0).isSome <;> rfl
/-- what a row needs of the block -/
def ndF (n b : Nat) (B f g h : Nat → Int32) (j : Nat) : Int32 := f b + (h j - sumF B f (g j) n)
def fbP (V T n b : Nat) (B f g h : Nat → Int32) (j : Nat) : Bool := !setB (g j) (nI V) (nI T) || (!decide ((B b &&& g j) = g j) && !decide (h j - sumF B f (g j) n = 0))
def fiF (n b : Nat) (B f g h : Nat → Int32) (j : Nat) (s : Int32 × Int32) : Int32 × Int32 := if (B b &&& g j) = g j then (jmax s.1 (ndF n b B f g h j), jmin s.2 (ndF n b B f g h j)) else s
theorem fits0_L {S : rSt} {V T n q b : Nat} (hv : S.1 2 0 = nI V) (ht : S.1 2 2 = nI T) (hn : S.1 2 3 = nI n) (h56 : n ≤ 56) (hb : b < n) (hq : S.1 7 2 = nI q) (h4 : q ≤ 4) (K' : Int32 → Int32 → Option Int32) : ∀ m f i s, i + m = q → m < f → J_X9_fits_35 0 (nI b) (Wd S) K' f s.1 s.2 (nI i) = if (rFd (fbP V T n b (S.2.2.1 3) (S.2.2.1 6) (S.2.2.1 8) (S.2.2.1 9)) m i).isSome = true then some 0 else K' (rF (fiF n b (S.2.2.1 3) (S.2.2.1 6) (S.2.2.1 8) (S.2.2.1 9)) m i s).1 (rF (fiF n b (S.2.2.1 3) (S.2.2.1 6) (S.2.2.1 8) (S.2.2.1 9)) m i s).2 := by
  have e0 := nI_refl (n := q) (by omega)
  intro m
  induction m with
  | zero =>
    intro f i s hi hf
    obtain ⟨f, rfl⟩ : ∃ k, f = k + 1 := ⟨f - 1, by omega⟩
    have : i = q := by omega
    subst this
    rw [J_X9_fits_35]
    simp only [Nat.reduceEqDiff, Nat.reduceAdd, Nat.reduceMul, reduceCtorEq, if_true, if_false, bs, rLet_eq, rB2_e, reduceIte, wr_0, wf_0_0, wf_0_1, wf_0_2, wp_0_2, wf_0_3, wf_0_4, wf_0_5, wf_0_6, wf_0_7, wf_0_8, wr_1, wf_1_0, wf_1_1, wf_1_2, wf_1_3, wf_1_4, wr_2, wf_2_0, wp_2_0, wf_2_1, wp_2_1, wf_2_2, wp_2_2, wf_2_3, wp_2_3, wf_2_4, wf_2_5, wr_5, wf_5_0, wf_5_1, wf_5_2, wp_5_2, wf_5_3, wp_5_3, wr_7, wf_7_0, wf_7_1, wf_7_2, wp_7_2, wr_10, wf_10_0, wf_10_1, wf_10_2, wp_10_2, wr_13, wf_13_0, wf_13_1, wf_13_2, wp_13_2, wr_16, wf_16_0, wf_16_1, wf_16_2, wf_16_3, wf_16_4, wr_17, wf_17_0, wp_17_0, wf_17_1, wp_17_1, wf_17_2, wp_17_2, wf_17_3, wp_17_3, wf_17_4, wf_17_5, wr_20, wf_20_0, wf_20_1, wf_20_2, wp_20_2, wf_20_3, wp_20_3, wr_22, wf_22_0, wf_22_1, wf_22_2, wp_22_2, wr_25, wf_25_0, wf_25_1, wf_25_2, wp_25_2, wr_28, wf_28_0, wf_28_1, wf_28_2, wp_28_2, wr_31, wf_31_0, wf_31_1, wf_31_2, wp_31_2, wf_31_3, wp_31_3, wr_33, wf_33_0, wf_33_1, wp_33_1, wf_33_2, wp_33_2, wr_35, wf_35_0, wf_35_1, wp_35_1, wf_35_2, wp_35_2, wf_35_3, wp_35_3, wr_36, wf_36_0, wf_36_1, wp_36_1, wf_36_2, wp_36_2, wr_38, wf_38_0, wp_38_0, wf_38_1, wp_38_1, wf_38_2, wp_38_2, wf_38_3, wp_38_3, wf_38_4, wf_38_5, wf_38_6, wf_38_7, wr_43, wf_43_0, wf_43_1, wp_43_1, wf_43_2, wf_43_3, wf_43_4, wp_43_4, wf_43_5, wp_43_5, wr_48, wf_48_0, wp_48_0, wf_48_1, wp_48_1, wf_48_2, wr_50, wf_50_0, wp_50_0, wf_50_1, wp_50_1, wf_50_2, wr_52, wf_52_0, wp_52_0, wf_52_1, wp_52_1, wf_52_2, wr_54, wf_54_0, wp_54_0, wf_54_1, wp_54_1, wf_54_2, wr_56, wf_56_0, wp_56_0, wf_56_1, wp_56_1, wf_56_2, wr_58, wf_58_0, wp_58_0, wf_58_1, wp_58_1, wf_58_2, wr_60, wf_60_0, wp_60_0, wf_60_1, wp_60_1, wf_60_2, wp_60_2, wf_60_3, wp_60_3, wf_60_4, wf_60_5, wf_60_6, wf_60_7, wf_60_8, wf_60_9, wf_60_10, wf_60_11, wp_60_11, wf_60_12, wf_60_13, wf_60_14, wp_60_14, wf_60_15, wf_60_16, wf_60_17, wp_60_17, wf_60_18, wf_60_19, wp_60_19, wf_60_20, wp_60_20, wf_60_21, wf_60_22, wf_60_23, wp_60_23, wf_60_24, wf_60_25, wf_60_26, wf_60_27, wf_60_28, wf_60_29, wp_60_29, wf_60_30, wf_60_31, wf_60_32, wf_60_33, wf_60_34, wp_60_34, wf_60_35, wf_60_36, wf_60_37, wf_60_38, wp_60_38, wf_60_39, wp_60_39, wf_60_40, wp_60_40, wf_60_41, wp_60_41, hq, e0]
    rfl
  | succ m ih =>
    intro f i s hi hf
    obtain ⟨f, rfl⟩ : ∃ k, f = k + 1 := ⟨f - 1, by omega⟩
    have e1 : (nI q ≤ nI i) ↔ False := iff_false_intro (nI_ge (by omega) (by omega))
    have e2 := isSet2 S (S.2.2.1 8 i) (nI T)
    rw [hv] at e2
    have e3 := sumOf5 hn h56 (S.2.2.1 8 i)
    have e4 := holds2 (S := S) (j := b) (by omega) (S.2.2.1 8 i)
    have i4 : i < 4 := by omega
    have b56 : b < 56 := by omega
    have ih1 := ih f (i + 1)
    rw [J_X9_fits_35, rFd, rF]
    unfold fbP at *
    cases h1 : setB (S.2.2.1 8 i) (nI V) (nI T)
    · simp only [wf_0_0, bs, wf_1_2, wf_7_2, hq, e1, if_false, wf_7_0, wa_8 i4, wf_1_0, wf_2_2, ht, e2, h1, bi_0, if_true, Bool.not_false, Bool.true_or, Option.isSome_some]
    · by_cases h2 : (S.2.2.1 3 b &&& S.2.2.1 8 i) = S.2.2.1 8 i
      · have f1 : fiF n b (S.2.2.1 3) (S.2.2.1 6) (S.2.2.1 8) (S.2.2.1 9) i s = (jmax s.1 (ndF n b (S.2.2.1 3) (S.2.2.1 6) (S.2.2.1 8) (S.2.2.1 9) i), jmin s.2 (ndF n b (S.2.2.1 3) (S.2.2.1 6) (S.2.2.1 8) (S.2.2.1 9) i)) := by
          unfold fiF
          rw [if_pos h2]
        have ih2 := ih1 (jmax s.1 (ndF n b (S.2.2.1 3) (S.2.2.1 6) (S.2.2.1 8) (S.2.2.1 9) i), jmin s.2 (ndF n b (S.2.2.1 3) (S.2.2.1 6) (S.2.2.1 8) (S.2.2.1 9) i)) (by omega) (by omega)
        rw [decide_eq_true h2] at e4 ⊢
        rw [f1]
        rw [wf_0_0, bs, wf_1_2, bs, wf_7_2, bs, hq, if_neg (nI_ge (by omega) (by omega))]
        simp only [bs, wf_1_2, wf_7_0, wa_8 i4, wf_1_0, wf_2_2, ht, e2, h1, bi_0, reduceCtorEq, if_false, wf_7_1, wa_9 i4, wf_1_1, e3, rLet_eq, e4, wf_5_1, wa_6 b56, nI_1, Bool.not_true, Bool.false_or, Bool.false_and, Bool.false_eq_true]
        exact ih2
      · have f1 : fiF n b (S.2.2.1 3) (S.2.2.1 6) (S.2.2.1 8) (S.2.2.1 9) i s = s := by
          unfold fiF
          rw [if_neg h2]
        have ih2 := ih1 s (by omega) (by omega)
        rw [decide_eq_false h2] at e4 ⊢
        rw [f1]
        rw [wf_0_0, bs, wf_1_2, bs, wf_7_2, bs, hq, if_neg (nI_ge (by omega) (by omega))]
        by_cases h3 : S.2.2.1 9 i - sumF (S.2.2.1 3) (S.2.2.1 6) (S.2.2.1 8 i) n = 0
        · simp only [bs, wf_1_2, wf_7_0, wa_8 i4, wf_1_0, wf_2_2, ht, e2, h1, bi_0, reduceCtorEq, if_false, if_true, wf_7_1, wa_9 i4, wf_1_1, e3, rLet_eq, e4, h3, nI_1, decide_true, Bool.not_true, Bool.not_false, Bool.false_or, Bool.and_false, Bool.false_eq_true]
          exact ih2
        · simp only [bs, wf_1_2, wf_7_0, wa_8 i4, wf_1_0, wf_2_2, ht, e2, h1, bi_0, reduceCtorEq, if_false, if_true, wf_7_1, wa_9 i4, wf_1_1, e3, rLet_eq, e4, h3, decide_false, Bool.not_true, Bool.not_false, Bool.false_or, Bool.and_true, Option.isSome_some]
theorem fiF_ok (n b : Nat) (B f g h : Nat → Int32) (q : Nat) (c : Int32) : ((rF (fiF n b B f g h) q 0 (-9, 9)).1 ≤ c ∧ c ≤ (rF (fiF n b B f g h) q 0 (-9, 9)).2) ↔ (-9 ≤ c ∧ c ≤ 9) ∧ ∀ j, j < q → (B b &&& g j) = g j → c = ndF n b B f g h j := by
  have key := rF_inv (fiF n b B f g h) (fun i s => (s.1 ≤ c ∧ c ≤ s.2) ↔ (-9 ≤ c ∧ c ≤ 9) ∧ ∀ j, j < i → (B b &&& g j) = g j → c = ndF n b B f g h j) q 0 (-9, 9) ⟨fun h => ⟨h, fun j hj => absurd hj (Nat.not_lt_zero j)⟩, fun h => h.1⟩ (fun i s h1 h2 hI => by
    unfold fiF
    by_cases h3 : (B b &&& g i) = g i
    · rw [if_pos h3]
      show (jmax s.1 _ ≤ c ∧ c ≤ jmin s.2 _) ↔ _
      rw [jmax_le, le_jmin]
      constructor
      · rintro ⟨⟨a1, a2⟩, a3, a4⟩
        obtain ⟨b1, b2⟩ := hI.mp ⟨a1, a3⟩
        refine ⟨b1, fun j hj hx => ?_⟩
        by_cases hj2 : j = i
        · subst hj2; exact Int32.le_antisymm a4 a2
        · exact b2 j (by omega) hx
      · rintro ⟨b1, b2⟩
        obtain ⟨a1, a3⟩ := hI.mpr ⟨b1, fun j hj => b2 j (by omega)⟩
        have e := b2 i (by omega) h3
        exact ⟨⟨a1, by rw [e]; exact Int32.le_refl _⟩, a3, by rw [e]; exact Int32.le_refl _⟩
    · rw [if_neg h3]
      refine hI.trans ⟨fun ⟨b1, b2⟩ => ⟨b1, fun j hj hx => ?_⟩, fun ⟨b1, b2⟩ => ⟨b1, fun j hj => b2 j (by omega)⟩⟩
      by_cases hj2 : j = i
      · subst hj2; exact absurd hx h3
      · exact b2 j (by omega) hx)
  rw [Nat.zero_add] at key
  exact key
theorem fiF_lo (n b : Nat) (B f g h : Nat → Int32) (q : Nat) : -9 ≤ (rF (fiF n b B f g h) q 0 (-9, 9)).1 ∧ (rF (fiF n b B f g h) q 0 (-9, 9)).2 ≤ 9 := by
  refine rF_inv (fiF n b B f g h) (fun _ s => -9 ≤ s.1 ∧ s.2 ≤ 9) q 0 (-9, 9) ⟨by decide, by decide⟩ (fun i s h1 h2 hI => ?_)
  unfold fiF
  by_cases h3 : (B b &&& g i) = g i
  · rw [if_pos h3]
    refine ⟨Int32.le_trans hI.1 ((jmax_le s.1 _ _).mp (Int32.le_refl _)).1, Int32.le_trans ((le_jmin s.2 _ _).mp (Int32.le_refl _)).1 hI.2⟩
  · rw [if_neg h3]
    exact hI
/-- the model's count of what fits -/
def fcF (P : Nat → Bool) (i : Nat) (s : Int32 × Int32) : Int32 × Int32 := if P i = true then (s.1 + 1, if s.2 = 0 then nI (i + 1) else s.2) else s
theorem fc_fin : ∀ a, a < 19 → ∀ b, b < 19 → a ≤ b → rF (fcF (fun i => decide (a ≤ i) && decide (i ≤ b))) 19 0 (0, 0) = (nI (b - a + 1), nI (a + 1)) := by decide +kernel
theorem fc_0 : rF (fcF (fun _ => false)) 19 0 (0, 0) = (0, 0) := by decide +kernel
theorem fits60_L {M : rSt} {b : Nat} (hb : b < 56) (P : Nat → Bool) (f0 : Nat → Int32) (hP : ∀ i, i < 19 → J_X10_isSeen 60 (Wd (sa M 63 (upd f0 b (nI i + (-9))))) = some (P i)) (K' : Int32 → Int32 → rW → Option (Int32 × rW)) : ∀ m fu i s g, i + m = 19 → m < fu → (∀ x, upd g b x = upd f0 b x) → ∃ g', (∀ x, upd g' b x = upd f0 b x) ∧ J_X10_fits_37 60 (nI b) K' fu s.1 s.2 (nI i + (-9)) (Wd (sa M 63 g)) = K' (rF (fcF P) m i s).1 (rF (fcF P) m i s).2 (Wd (sa M 63 g')) := by
  intro m
  induction m with
  | zero =>
    intro fu i s g hi hf hg
    obtain ⟨fu, rfl⟩ : ∃ k, fu = k + 1 := ⟨fu - 1, by omega⟩
    have : i = 19 := by omega
    subst this
    refine ⟨g, hg, ?_⟩
    rw [J_X10_fits_37, if_pos (by decide)]
    rfl
  | succ m ih =>
    intro fu i s g hi hf hg
    obtain ⟨fu, rfl⟩ : ∃ k, fu = k + 1 := ⟨fu - 1, by omega⟩
    have e1 : ∀ i, i < 19 → ¬ (9 : Int32) < nI i + (-9) := by decide +kernel
    have e2 : (nI i + (-9)) + 1 = nI (i + 1) + (-9) := by
      rw [Int32.add_assoc, Int32.add_comm (-9) 1, ← Int32.add_assoc, nI_1]
    have e3 : (nI i + (-9)) + 10 = nI (i + 1) := by
      rw [Int32.add_assoc, show ((-9 : Int32) + 10) = 1 by decide, nI_1]
    have u2 : ∀ (g : Nat → Int32) x y, upd (upd g b x) b y = upd g b y := fun g x y => by
      funext j
      rw [up_a, up_a, up_a]
      split <;> rfl
    have h := hP i (by omega)
    rw [← hg] at h
    have hg2 : ∀ x, upd (upd g b (nI i + (-9))) b x = upd f0 b x := fun x => by rw [u2]; exact hg x
    obtain ⟨g', r1, r2⟩ := ih fu (i + 1) (fcF P i s) (upd g b (nI i + (-9))) (by omega) (by omega) hg2
    refine ⟨g', r1, ?_⟩
    rw [rF, ← r2, J_X10_fits_37, if_neg (e1 i (by omega))]
    have st : (sa (sa M 63 g) 63 (upd g b (nI i + (-9)))) = sa M 63 (upd g b (nI i + (-9))) := sa_ss M 63 g _
    have rd : (sa M 63 g).2.2.1 63 = g := rfl
    simp only [wf_60_6, bs, wt_63 hb, rd, st, h, rLet_eq, e2, e3]
    unfold fcF
    cases P i
    · simp only [bi_0, if_true, Bool.false_eq_true, if_false]
    · simp only [bi_0, reduceCtorEq, if_false, if_true]
      by_cases h0 : s.2 = 0
      · simp only [h0, if_true]
      · simp only [h0, if_false]
theorem nI9 {c : Int32} (h : -9 ≤ c ∧ c ≤ 9) : ∃ i, i < 19 ∧ c = nI i + (-9) := by
  have h1 : (-9 : Int32).toInt = -9 := rfl
  have h2 : (9 : Int32).toInt = 9 := rfl
  rw [Int32.le_iff_toInt_le, Int32.le_iff_toInt_le, h1, h2] at h
  refine ⟨(c.toInt + 9).toNat, by omega, ?_⟩
  have e : ∀ i, i < 19 → (nI i + (-9)).toInt = (i : Int) - 9 := by decide +kernel
  rw [← Int32.toInt_inj, e _ (by omega)]
  omega
theorem nI9_le : ∀ i, i < 19 → ∀ j, j < 19 → ((nI i + (-9) : Int32) ≤ nI j + (-9) ↔ i ≤ j) := by decide +kernel
theorem sub_0 (x y : Int32) : (x - y = 0) ↔ x = y := by
  constructor
  · intro h
    have := congrArg (· + y) h
    simpa using this
  · rintro rfl
    exact Int32.sub_self x
theorem nd_eq (a c h s : Int32) : (s - a + c = h) ↔ c = a + (h - s) := by
  constructor
  · intro e
    rw [← e]
    grind
  · intro e
    rw [e]
    grind
theorem nI9_v : ∀ a, a < 19 → ∀ b, b < 19 → a ≤ b → ((nI b + (-9)) - (nI a + (-9))) + 1 = nI (b - a + 1) := by decide +kernel
/-- an asking call that the model answers by writing -/
def OpW (A : rW → Option Int32) (B : oP) : Prop := ∀ V K T S M, R V K T S M → ∃ r M1, A (Wd S) = some r ∧ B (Wd M) = some (r, Wd M1) ∧ R V K T S M1 ∧ cEq M M1
theorem fits60 {M : rSt} {n b : Nat} (m3 : M.1 60 3 = nI n) (h1 : 1 ≤ n) (h56 : n ≤ 56) (hb : b < n) (P : Nat → Bool) (hP : ∀ i, i < 19 → J_X10_isSeen 60 (Wd (sa M 63 (upd (M.2.2.1 63) b (nI i + (-9))))) = some (P i)) {y : Int32} (hy : inB y 0 1 = true) : J_X10_fits 60 (nI b) y (Wd M) = some (if y = 0 then (rF (fcF P) 19 0 (0, 0)).1 else (rF (fcF P) 19 0 (0, 0)).2, Wd M) := by
  have hB : hasB (nI b) (nI n) = true := (hasB_n (by omega)).mpr ⟨b, hb, rfl⟩
  have e1 := isBlock60 m3 h1 h56 (nI b)
  rw [hB] at e1
  have b56 : b < 56 := by omega
  have e2 := fun K' => fits60_L b56 P (M.2.2.1 63) hP K' 19 2000 0 (0, 0) (M.2.2.1 63) (by omega) (by omega) (fun _ => rfl)
  have e3 : nI 0 + (-9) = (-9 : Int32) := by decide
  have e4 : sa M 63 (M.2.2.1 63) = M := sa_id M 63
  rw [e3, e4] at e2
  have f1 : J_X10_in (Int32.toInt64 y) 0 1 (Wd M) = some true := by rw [inL_d, hy]
  unfold J_X10_fits
  rw [wr_60, e1, bs, if_neg (by decide), f1, bs, if_neg (by decide), wf_60_6, bs, wa_63 b56, bs, rLet_eq]
  obtain ⟨g', r1, r2⟩ := e2 (fun (x4_9 : Int32) (x5_10 : Int32) (w11 : rW) => ((gR w11 60 10 6).bind fun a12 => (sI w11 a12 (nI b) (M.2.2.1 63 b)).bind fun w13 => if y = 0 then some (x4_9, w13) else some (x5_10, w13) : Option (Int32 × rW)))
  rw [r2]
  have st : sa (sa M 63 g') 63 (upd g' b (M.2.2.1 63 b)) = M := by
    rw [sa_ss, r1, up_id, sa_id]
  have rd : (sa M 63 g').2.2.1 63 = g' := rfl
  rw [wf_60_6, bs, wt_63 b56, bs, rd, st]
  by_cases h : y = 0
  · rw [if_pos h, if_pos h]
  · rw [if_neg h, if_neg h]
theorem fits_fin (P : Nat → Bool) (lh : Int32 × Int32) (lo : -9 ≤ lh.1 ∧ lh.2 ≤ 9) (hPc : ∀ i, i < 19 → (P i = true ↔ (lh.1 ≤ nI i + (-9) ∧ nI i + (-9) ≤ lh.2))) (y : Int32) : (if lh.1 ≤ lh.2 then (if y = 0 then some ((lh.2 - lh.1) + 1) else some (lh.1 + 10)) else some 0) = some (if y = 0 then (rF (fcF P) 19 0 (0, 0)).1 else (rF (fcF P) 19 0 (0, 0)).2) := by
  by_cases hlh : lh.1 ≤ lh.2
  · rw [if_pos hlh]
    obtain ⟨a, ha, ea⟩ := nI9 ⟨lo.1, Int32.le_trans hlh lo.2⟩
    obtain ⟨b2, hb2, eb⟩ := nI9 ⟨Int32.le_trans lo.1 hlh, lo.2⟩
    rw [ea, eb] at hPc hlh
    rw [ea, eb]
    have hab := (nI9_le a ha b2 hb2).mp hlh
    have e5 : rF (fcF P) 19 0 (0, 0) = (nI (b2 - a + 1), nI (a + 1)) := by
      rw [← fc_fin a ha b2 hb2 hab]
      refine rF_congr 19 0 (0, 0) (fun j s _ hj => ?_)
      unfold fcF
      have h8 : P j = (decide (a ≤ j) && decide (j ≤ b2)) := by
        apply Bool.eq_iff_iff.mpr
        rw [hPc j (by omega), nI9_le a ha j (by omega), nI9_le j (by omega) b2 hb2, Bool.and_eq_true, decide_eq_true_eq, decide_eq_true_eq]
      rw [h8]
    rw [e5]
    have v1 := nI9_v a ha b2 hb2 hab
    have v2 : (nI a + (-9)) + 10 = nI (a + 1) := by
      rw [Int32.add_assoc, show ((-9 : Int32) + 10) = 1 by decide, nI_1]
    rw [v1, v2]
    by_cases hy0 : y = 0
    · rw [if_pos hy0, if_pos hy0]
    · rw [if_neg hy0, if_neg hy0]
  · rw [if_neg hlh]
    have e5 : rF (fcF P) 19 0 (0, 0) = (0, 0) := by
      rw [← fc_0]
      refine rF_congr 19 0 (0, 0) (fun j s _ hj => ?_)
      have h8 : P j = false := Bool.eq_false_iff.mpr (fun h => by
        have := (hPc j (by omega)).mp h
        exact hlh (Int32.le_trans this.1 this.2))
      unfold fcF
      rw [h8]
    rw [e5, ite_self]
theorem op_fits (x y : Int32) : OpW (J_X9_fits 0 x y) (J_X10_fits 60 x y) := by
  intro V K T S M hR
  obtain ⟨⟨⟨hk, c0, c1, c2, c3, cB⟩, -, m0, m1, m2, m3, mB⟩, hst, htx, ⟨q, hq, s1, t1, hr⟩, -⟩ := id hR
  have hM := MB_ok hk
  obtain ⟨k1, k2, k3, k4, k5, k6⟩ := id hk
  have e1 := has2 S x
  rw [c3] at e1
  have e2 := isBlock60 m3 (by omega) hM.2 x
  cases h1 : hasB x (nI (MB V K))
  · refine ⟨-1, M, ?_, ?_, hR, cE_r M⟩
    · unfold J_X9_fits
      simp only [Nat.reduceEqDiff, Nat.reduceAdd, Nat.reduceMul, reduceCtorEq, if_true, if_false, bs, rLet_eq, rB2_e, reduceIte, wr_0, wf_0_0, wf_0_1, wf_0_2, wp_0_2, wf_0_3, wf_0_4, wf_0_5, wf_0_6, wf_0_7, wf_0_8, wr_1, wf_1_0, wf_1_1, wf_1_2, wf_1_3, wf_1_4, wr_2, wf_2_0, wp_2_0, wf_2_1, wp_2_1, wf_2_2, wp_2_2, wf_2_3, wp_2_3, wf_2_4, wf_2_5, wr_5, wf_5_0, wf_5_1, wf_5_2, wp_5_2, wf_5_3, wp_5_3, wr_7, wf_7_0, wf_7_1, wf_7_2, wp_7_2, wr_10, wf_10_0, wf_10_1, wf_10_2, wp_10_2, wr_13, wf_13_0, wf_13_1, wf_13_2, wp_13_2, wr_16, wf_16_0, wf_16_1, wf_16_2, wf_16_3, wf_16_4, wr_17, wf_17_0, wp_17_0, wf_17_1, wp_17_1, wf_17_2, wp_17_2, wf_17_3, wp_17_3, wf_17_4, wf_17_5, wr_20, wf_20_0, wf_20_1, wf_20_2, wp_20_2, wf_20_3, wp_20_3, wr_22, wf_22_0, wf_22_1, wf_22_2, wp_22_2, wr_25, wf_25_0, wf_25_1, wf_25_2, wp_25_2, wr_28, wf_28_0, wf_28_1, wf_28_2, wp_28_2, wr_31, wf_31_0, wf_31_1, wf_31_2, wp_31_2, wf_31_3, wp_31_3, wr_33, wf_33_0, wf_33_1, wp_33_1, wf_33_2, wp_33_2, wr_35, wf_35_0, wf_35_1, wp_35_1, wf_35_2, wp_35_2, wf_35_3, wp_35_3, wr_36, wf_36_0, wf_36_1, wp_36_1, wf_36_2, wp_36_2, wr_38, wf_38_0, wp_38_0, wf_38_1, wp_38_1, wf_38_2, wp_38_2, wf_38_3, wp_38_3, wf_38_4, wf_38_5, wf_38_6, wf_38_7, wr_43, wf_43_0, wf_43_1, wp_43_1, wf_43_2, wf_43_3, wf_43_4, wp_43_4, wf_43_5, wp_43_5, wr_48, wf_48_0, wp_48_0, wf_48_1, wp_48_1, wf_48_2, wr_50, wf_50_0, wp_50_0, wf_50_1, wp_50_1, wf_50_2, wr_52, wf_52_0, wp_52_0, wf_52_1, wp_52_1, wf_52_2, wr_54, wf_54_0, wp_54_0, wf_54_1, wp_54_1, wf_54_2, wr_56, wf_56_0, wp_56_0, wf_56_1, wp_56_1, wf_56_2, wr_58, wf_58_0, wp_58_0, wf_58_1, wp_58_1, wf_58_2, wr_60, wf_60_0, wp_60_0, wf_60_1, wp_60_1, wf_60_2, wp_60_2, wf_60_3, wp_60_3, wf_60_4, wf_60_5, wf_60_6, wf_60_7, wf_60_8, wf_60_9, wf_60_10, wf_60_11, wp_60_11, wf_60_12, wf_60_13, wf_60_14, wp_60_14, wf_60_15, wf_60_16, wf_60_17, wp_60_17, wf_60_18, wf_60_19, wp_60_19, wf_60_20, wp_60_20, wf_60_21, wf_60_22, wf_60_23, wp_60_23, wf_60_24, wf_60_25, wf_60_26, wf_60_27, wf_60_28, wf_60_29, wp_60_29, wf_60_30, wf_60_31, wf_60_32, wf_60_33, wf_60_34, wp_60_34, wf_60_35, wf_60_36, wf_60_37, wf_60_38, wp_60_38, wf_60_39, wp_60_39, wf_60_40, wp_60_40, wf_60_41, wp_60_41, e1, h1, bi_0]
    · unfold J_X10_fits
      simp only [Nat.reduceEqDiff, Nat.reduceAdd, Nat.reduceMul, reduceCtorEq, if_true, if_false, bs, rLet_eq, rB2_e, reduceIte, wr_0, wf_0_0, wf_0_1, wf_0_2, wp_0_2, wf_0_3, wf_0_4, wf_0_5, wf_0_6, wf_0_7, wf_0_8, wr_1, wf_1_0, wf_1_1, wf_1_2, wf_1_3, wf_1_4, wr_2, wf_2_0, wp_2_0, wf_2_1, wp_2_1, wf_2_2, wp_2_2, wf_2_3, wp_2_3, wf_2_4, wf_2_5, wr_5, wf_5_0, wf_5_1, wf_5_2, wp_5_2, wf_5_3, wp_5_3, wr_7, wf_7_0, wf_7_1, wf_7_2, wp_7_2, wr_10, wf_10_0, wf_10_1, wf_10_2, wp_10_2, wr_13, wf_13_0, wf_13_1, wf_13_2, wp_13_2, wr_16, wf_16_0, wf_16_1, wf_16_2, wf_16_3, wf_16_4, wr_17, wf_17_0, wp_17_0, wf_17_1, wp_17_1, wf_17_2, wp_17_2, wf_17_3, wp_17_3, wf_17_4, wf_17_5, wr_20, wf_20_0, wf_20_1, wf_20_2, wp_20_2, wf_20_3, wp_20_3, wr_22, wf_22_0, wf_22_1, wf_22_2, wp_22_2, wr_25, wf_25_0, wf_25_1, wf_25_2, wp_25_2, wr_28, wf_28_0, wf_28_1, wf_28_2, wp_28_2, wr_31, wf_31_0, wf_31_1, wf_31_2, wp_31_2, wf_31_3, wp_31_3, wr_33, wf_33_0, wf_33_1, wp_33_1, wf_33_2, wp_33_2, wr_35, wf_35_0, wf_35_1, wp_35_1, wf_35_2, wp_35_2, wf_35_3, wp_35_3, wr_36, wf_36_0, wf_36_1, wp_36_1, wf_36_2, wp_36_2, wr_38, wf_38_0, wp_38_0, wf_38_1, wp_38_1, wf_38_2, wp_38_2, wf_38_3, wp_38_3, wf_38_4, wf_38_5, wf_38_6, wf_38_7, wr_43, wf_43_0, wf_43_1, wp_43_1, wf_43_2, wf_43_3, wf_43_4, wp_43_4, wf_43_5, wp_43_5, wr_48, wf_48_0, wp_48_0, wf_48_1, wp_48_1, wf_48_2, wr_50, wf_50_0, wp_50_0, wf_50_1, wp_50_1, wf_50_2, wr_52, wf_52_0, wp_52_0, wf_52_1, wp_52_1, wf_52_2, wr_54, wf_54_0, wp_54_0, wf_54_1, wp_54_1, wf_54_2, wr_56, wf_56_0, wp_56_0, wf_56_1, wp_56_1, wf_56_2, wr_58, wf_58_0, wp_58_0, wf_58_1, wp_58_1, wf_58_2, wr_60, wf_60_0, wp_60_0, wf_60_1, wp_60_1, wf_60_2, wp_60_2, wf_60_3, wp_60_3, wf_60_4, wf_60_5, wf_60_6, wf_60_7, wf_60_8, wf_60_9, wf_60_10, wf_60_11, wp_60_11, wf_60_12, wf_60_13, wf_60_14, wp_60_14, wf_60_15, wf_60_16, wf_60_17, wp_60_17, wf_60_18, wf_60_19, wp_60_19, wf_60_20, wp_60_20, wf_60_21, wf_60_22, wf_60_23, wp_60_23, wf_60_24, wf_60_25, wf_60_26, wf_60_27, wf_60_28, wf_60_29, wp_60_29, wf_60_30, wf_60_31, wf_60_32, wf_60_33, wf_60_34, wp_60_34, wf_60_35, wf_60_36, wf_60_37, wf_60_38, wp_60_38, wf_60_39, wp_60_39, wf_60_40, wp_60_40, wf_60_41, wp_60_41, e2, h1, bi_0]
  obtain ⟨b, hb, rfl⟩ := (hasB_n (by omega)).mp h1
  cases h2 : inB y 0 1
  · refine ⟨-1, M, ?_, ?_, hR, cE_r M⟩
    · unfold J_X9_fits
      rw [wr_0, wf_0_0, bs, wf_1_0, bs, e1, bs, h1, if_neg (by decide)]
      rw [in01_c] at h2
      by_cases h3 : y < 0
      · rw [if_pos h3]
      · by_cases h4 : y ≤ 1
        · simp [h3, h4] at h2
        · rw [if_neg h3, if_neg h4]
    · unfold J_X10_fits
      rw [wr_60, e2, bs, h1, if_neg (by decide), inL_d, bs, h2, if_pos (by decide)]
  have hC : ∀ j, j < MB V K → M.2.2.1 63 j = S.2.2.1 6 j := fun j hj => (hst.1 j (by omega)).1
  have hB : ∀ j, j < MB V K → M.2.2.1 61 j = S.2.2.1 3 j := fun j hj => by rw [cB.1 j hj, mB.1 j hj]
  have hP : ∀ i, i < 19 → J_X10_isSeen 60 (Wd (sa M 63 (upd (M.2.2.1 63) b (nI i + (-9))))) = some (!(rFd (snP V T (MB V K) (S.2.2.1 3) (upd (S.2.2.1 6) b (nI i + (-9))) (S.2.2.1 8) (S.2.2.1 9)) q 0).isSome) := by
    intro i hi
    rw [isSeen60 (S := sa M 63 (upd (M.2.2.1 63) b (nI i + (-9)))) m0 k2 m2 m3 hM.2 t1 hq]
    congr 2
    congr 1
    refine rFd_congr q 0 (fun j _ hj => ?_)
    have hj2 := hr j (by omega)
    show snP V T (MB V K) (M.2.2.1 61) (upd (M.2.2.1 63) b (nI i + (-9))) (M.2.2.1 66) (M.2.2.1 67) j = _
    unfold snP
    rw [hj2.1, hj2.2.1, sumF_c hB (g := upd (S.2.2.1 6) b (nI i + (-9))) (fun p hp => by
      by_cases hpb : p = b
      · rw [hpb, up_s, up_s]
      · rw [up_n hpb, up_n hpb]
        exact hC p hp)]
  have e3 := fits60 m3 (by omega) hM.2 hb (fun i => !(rFd (snP V T (MB V K) (S.2.2.1 3) (upd (S.2.2.1 6) b (nI i + (-9))) (S.2.2.1 8) (S.2.2.1 9)) q 0).isSome) hP h2
  have e4 : J_X9_fits 0 (nI b) y (Wd S) = if (rFd (fbP V T (MB V K) b (S.2.2.1 3) (S.2.2.1 6) (S.2.2.1 8) (S.2.2.1 9)) q 0).isSome = true then some 0 else (if (rF (fiF (MB V K) b (S.2.2.1 3) (S.2.2.1 6) (S.2.2.1 8) (S.2.2.1 9)) q 0 (-9, 9)).1 ≤ (rF (fiF (MB V K) b (S.2.2.1 3) (S.2.2.1 6) (S.2.2.1 8) (S.2.2.1 9)) q 0 (-9, 9)).2 then (if y = 0 then some (((rF (fiF (MB V K) b (S.2.2.1 3) (S.2.2.1 6) (S.2.2.1 8) (S.2.2.1 9)) q 0 (-9, 9)).2 - (rF (fiF (MB V K) b (S.2.2.1 3) (S.2.2.1 6) (S.2.2.1 8) (S.2.2.1 9)) q 0 (-9, 9)).1) + 1) else some ((rF (fiF (MB V K) b (S.2.2.1 3) (S.2.2.1 6) (S.2.2.1 8) (S.2.2.1 9)) q 0 (-9, 9)).1 + 10)) else some 0) := by
    have key := fun K' => fits0_L c0 c2 c3 hM.2 hb s1 hq K' q 2000 0 (-9, 9) (by omega) (by omega)
    rw [nI_0] at key
    rw [in01_c] at h2
    simp only [Bool.and_eq_true, Bool.not_eq_true', decide_eq_false_iff_not, decide_eq_true_eq] at h2
    unfold J_X9_fits
    rw [wr_0, wf_0_0, bs, wf_1_0, bs, e1, bs, h1, if_neg (by decide), if_neg h2.1, if_pos h2.2, rLet_eq, key]
  cases hbad : (rFd (fbP V T (MB V K) b (S.2.2.1 3) (S.2.2.1 6) (S.2.2.1 8) (S.2.2.1 9)) q 0).isSome
  · rw [hbad, if_neg (by decide)] at e4
    have nb : ∀ j, j < q → fbP V T (MB V K) b (S.2.2.1 3) (S.2.2.1 6) (S.2.2.1 8) (S.2.2.1 9) j = false := by
      intro j hj
      have h3 : rFd (fbP V T (MB V K) b (S.2.2.1 3) (S.2.2.1 6) (S.2.2.1 8) (S.2.2.1 9)) q 0 = none := by simpa using hbad
      exact (rFd_none _ _).mp h3 j (Nat.zero_le _) (by omega)
    have hPc : ∀ i, i < 19 → ((!(rFd (snP V T (MB V K) (S.2.2.1 3) (upd (S.2.2.1 6) b (nI i + (-9))) (S.2.2.1 8) (S.2.2.1 9)) q 0).isSome) = true ↔ ((rF (fiF (MB V K) b (S.2.2.1 3) (S.2.2.1 6) (S.2.2.1 8) (S.2.2.1 9)) q 0 (-9, 9)).1 ≤ nI i + (-9) ∧ nI i + (-9) ≤ (rF (fiF (MB V K) b (S.2.2.1 3) (S.2.2.1 6) (S.2.2.1 8) (S.2.2.1 9)) q 0 (-9, 9)).2)) := by
      intro i hi
      rw [fiF_ok]
      have r9 : ∀ i, i < 19 → (-9 : Int32) ≤ nI i + (-9) ∧ nI i + (-9) ≤ 9 := by decide +kernel
      have sn : ∀ j, j < q → (snP V T (MB V K) (S.2.2.1 3) (upd (S.2.2.1 6) b (nI i + (-9))) (S.2.2.1 8) (S.2.2.1 9) j = false ↔ ((S.2.2.1 3 b &&& S.2.2.1 8 j) = S.2.2.1 8 j → nI i + (-9) = ndF (MB V K) b (S.2.2.1 3) (S.2.2.1 6) (S.2.2.1 8) (S.2.2.1 9) j)) := by
        intro j hj
        have h5 := nb j hj
        unfold fbP at h5
        unfold snP ndF
        rw [sumF_upd]
        simp only [Bool.or_eq_false_iff, Bool.not_eq_false', Bool.and_eq_false_iff, decide_eq_true_eq] at h5 ⊢
        by_cases h6 : (S.2.2.1 3 b &&& S.2.2.1 8 j) = S.2.2.1 8 j
        · rw [if_pos ⟨hb, h6⟩, nd_eq]
          simp [h5.1, h6]
        · rw [if_neg (fun h => h6 h.2)]
          have h7 := h5.2.resolve_left h6
          rw [sub_0] at h7
          simp [h5.1, h6, h7]
      constructor
      · intro h
        have h3 : rFd (snP V T (MB V K) (S.2.2.1 3) (upd (S.2.2.1 6) b (nI i + (-9))) (S.2.2.1 8) (S.2.2.1 9)) q 0 = none := by simpa using h
        exact ⟨r9 i hi, fun j hj => (sn j hj).mp ((rFd_none _ _).mp h3 j (Nat.zero_le _) (by omega))⟩
      · rintro ⟨-, h⟩
        have h3 : rFd (snP V T (MB V K) (S.2.2.1 3) (upd (S.2.2.1 6) b (nI i + (-9))) (S.2.2.1 8) (S.2.2.1 9)) q 0 = none := (rFd_none _ _).mpr (fun j _ hj => (sn j (by omega)).mpr (h j (by omega)))
        rw [h3]
        rfl
    have lo := fiF_lo (MB V K) b (S.2.2.1 3) (S.2.2.1 6) (S.2.2.1 8) (S.2.2.1 9) q
    exact ⟨_, M, e4.trans (fits_fin (fun i => !(rFd (snP V T (MB V K) (S.2.2.1 3) (upd (S.2.2.1 6) b (nI i + (-9))) (S.2.2.1 8) (S.2.2.1 9)) q 0).isSome) _ lo hPc y), e3, hR, cE_r M⟩
  · rw [hbad, if_pos rfl] at e4
    obtain ⟨j, hj, hbd⟩ := (rFd_is _ _).mp hbad
    have e5 : rF (fcF (fun i => !(rFd (snP V T (MB V K) (S.2.2.1 3) (upd (S.2.2.1 6) b (nI i + (-9))) (S.2.2.1 8) (S.2.2.1 9)) q 0).isSome)) 19 0 (0, 0) = (0, 0) := by
      rw [← fc_0]
      refine rF_congr 19 0 (0, 0) (fun i s _ hi => ?_)
      have h8 : (rFd (snP V T (MB V K) (S.2.2.1 3) (upd (S.2.2.1 6) b (nI i + (-9))) (S.2.2.1 8) (S.2.2.1 9)) q 0).isSome = true := by
        refine (rFd_is _ _).mpr ⟨j, hj, ?_⟩
        unfold fbP at hbd
        unfold snP
        rw [sumF_upd]
        rcases Bool.or_eq_true_iff.mp hbd with h9 | h9
        · rw [h9, Bool.true_or]
        · rw [Bool.and_eq_true, Bool.not_eq_true', decide_eq_false_iff_not, Bool.not_eq_true', decide_eq_false_iff_not] at h9
          rw [if_neg (fun h => h9.1 h.2)]
          have h10 : ¬ sumF (S.2.2.1 3) (S.2.2.1 6) (S.2.2.1 8 j) (MB V K) = S.2.2.1 9 j := fun h => h9.2 ((sub_0 _ _).mpr h.symm)
          rw [decide_eq_false h10, Bool.not_false, Bool.or_true]
      unfold fcF
      simp only [h8, Bool.not_true]
    rw [e5, ite_self] at e3
    exact ⟨0, M, e4, e3, hR, cE_r M⟩
